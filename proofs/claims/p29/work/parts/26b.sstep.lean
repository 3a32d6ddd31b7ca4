section s_ops2
variable {cal : Nat → List Value → q_H → Option (q_R Value q_H)} {fr : Nat} {mi : q_MI} {mask : List Nat} {ρ : Nat → Int} {env : List s_R} {lo : List (Option s_S)} {st : List s_S} {mm : List s_M} {cl cl0 : List (Option Value)} {cs cs0 : List Value} {hp hp0 : q_H} {K : s_KK} {nx : Nat} {r : Value}
theorem s_lk_dead {n x : Nat} (hl : s_lk n ρ lo cl) (hx : ∀ s, lo[x]? ≠ some (some s)) : s_lk n ρ lo (cl.set x none) := by
  refine ⟨by simp [hl.1], fun i a ha => ?_⟩
  by_cases hi : i = x
  · subst hi
    exact absurd ha (hx a)
  · obtain ⟨u, h1, h2⟩ := hl.2 i a ha
    exact ⟨u, by rw [List.getElem?_set_ne (Ne.symm hi)]; exact h1, h2⟩
theorem s_sto_ok {n x : Nat} {s : s_S} {v : Value} {k : List (Option s_S) → Bool} (h : s_sto lo x s k = true) (hl : s_lk n ρ lo cl) (hv : s_vs n ρ s v) : ∃ lo' cl', k lo' = true ∧ s_lk n ρ lo' cl' ∧ ∀ (B : Type) (kc : List (Option Value) → Option B), q_st q_ty cl x v kc = kc cl' := by
  cases x with
  | zero => exact s_st2_ok h hl hv
  | succ x =>
    unfold s_sto at h
    simp only at h
    rw [q_nth_eq] at h
    cases hx : lo[x]? with
    | none =>
      rw [hx] at h
      simp only at h
      cases hb : Nat.blt x lo.length with
      | false => rw [hb] at h; cases h
      | true =>
        have := s_blt hb
        rw [List.getElem?_eq_getElem this] at hx
        cases hx
    | some ow =>
      rw [hx] at h
      cases ow with
      | some w =>
        simp only at h
        obtain ⟨u, h1, h2⟩ := hl.2 x w hx
        cases hk : Nat.beq (s_k2 w.1) 1 with
        | true =>
          rw [hk, cond_true, q_set_eq] at h
          obtain ⟨lo', cl', h3, h4, h5⟩ := s_st2_ok h (s_lk_non hl) hv
          refine ⟨lo', cl', h3, h4, fun B kc => ?_⟩
          unfold q_st
          simp only
          rw [q_nth_eq, h1]
          simp only
          rw [s_k2_ok h2, hk, cond_true, q_set_eq, h5]
        | false =>
          rw [hk, cond_false] at h
          obtain ⟨lo', cl', h3, h4, h5⟩ := s_st2_ok h hl hv
          refine ⟨lo', cl', h3, h4, fun B kc => ?_⟩
          unfold q_st
          simp only
          rw [q_nth_eq, h1]
          simp only
          rw [s_k2_ok h2, hk, cond_false, h5]
      | none =>
        simp only at h
        have hdead : ∀ s, lo[x]? ≠ some (some s) := fun s hs => by rw [hx] at hs; cases hs
        cases hb : Nat.blt x lo.length with
        | false => rw [hb] at h; cases h
        | true =>
          rw [hb, cond_true] at h
          by_cases hc : ∃ u, cl[x]? = some (some u) ∧ Nat.beq (q_ty u) 1 = true
          · obtain ⟨u, hu, hu1⟩ := hc
            obtain ⟨lo', cl', h3, h4, h5⟩ := s_st2_ok h (s_lk_dead hl hdead) hv
            refine ⟨lo', cl', h3, h4, fun B kc => ?_⟩
            unfold q_st
            simp only
            rw [q_nth_eq, hu]
            simp only
            rw [hu1, cond_true, q_set_eq, h5]
          · obtain ⟨lo', cl', h3, h4, h5⟩ := s_st2_ok h hl hv
            refine ⟨lo', cl', h3, h4, fun B kc => ?_⟩
            unfold q_st
            simp only
            rw [q_nth_eq]
            split
            · rename_i w hw
              cases hk : Nat.beq (q_ty w) 1 with
              | true => exact absurd ⟨w, hw, hk⟩ hc
              | false => rw [cond_false, h5]
            · rw [h5]
theorem s_op7 {v : Nat} {c : Int} {x y : Nat} {tb : List Nat} (h : K x env lo st mm = true) (G : s_g ρ env lo st mm cl cs hp) (H : s_hok hp) : s_res cal fr (7, v, c, x, y, nx, tb) mask ρ env.length cl cs hp K := s_same h G H s_fm.rfl' fun _ => rfl
theorem s_op24 {v : Nat} {c : Int} {x y : Nat} {tb : List Nat} (h : (Nat.blt x 4294967296 && K nx env lo ((4, (0, 0, .ofNat x, 0), s_x0) :: st) mm) = true) (G : s_g ρ env lo st mm cl cs hp) (H : s_hok hp) : s_res cal fr (24, v, c, x, y, nx, tb) mask ρ env.length cl cs hp K := by
  obtain ⟨hE, hl, hs, hm⟩ := G
  rw [Bool.and_eq_true] at h
  have hx := s_blt h.1
  refine s_same (cs := .float (UInt32.ofNat (Int.ofNat x).toNat) :: cs) h.2 ⟨hE, hl, ⟨s_vs_mk trivial (by decide) ⟨rfl, ?_⟩, hs⟩, hm⟩ H s_fm.rfl' fun KC => rfl
  show ((UInt32.ofNat (Int.ofNat x).toNat).toNat : Int) = Int.ofNat x
  rw [show (Int.ofNat x).toNat = x from rfl, UInt32.toNat_ofNat_of_lt' (by simpa using hx)]
  rfl
theorem s_op16 {v : Nat} {c : Int} {x y : Nat} {tb : List Nat} (h : (s_p1 st fun a st => !Nat.beq (s_k2 a.1) 1 && K nx env lo (a :: a :: st) mm) = true) (G : s_g ρ env lo st mm cl cs hp) (H : s_hok hp) : s_res cal fr (16, v, c, x, y, nx, tb) mask ρ env.length cl cs hp K := by
  obtain ⟨hE, hl, hs, hm⟩ := G
  obtain ⟨a, st', va, cs', rfl, rfl, h, ha, hz⟩ := s_p1_some h hs
  rw [Bool.and_eq_true] at h
  refine s_same (cs := va :: va :: cs') h.2 ⟨hE, hl, ⟨ha, ha, hz⟩, hm⟩ H s_fm.rfl' fun KC => ?_
  show q_gd (!Nat.beq (q_ty va) 1) (KC nx cl (va :: va :: cs') hp) = _
  rw [s_k2_ok ha, h.1]
  rfl
theorem s_op17 {v : Nat} {c : Int} {x y : Nat} {tb : List Nat} (h : (s_p1 st fun a st => s_p1 st fun b st => !Nat.beq (s_k2 a.1) 1 && !Nat.beq (s_k2 b.1) 1 && K nx env lo (a :: b :: a :: b :: st) mm) = true) (G : s_g ρ env lo st mm cl cs hp) (H : s_hok hp) : s_res cal fr (17, v, c, x, y, nx, tb) mask ρ env.length cl cs hp K := by
  obtain ⟨hE, hl, hs, hm⟩ := G
  obtain ⟨a, st1, va, cs1, rfl, rfl, h, ha, hs1⟩ := s_p1_some h hs
  obtain ⟨b, st', vb, cs', rfl, rfl, h, hb, hz⟩ := s_p1_some h hs1
  rw [Bool.and_eq_true] at h
  refine s_same (cs := va :: vb :: va :: vb :: cs') h.2 ⟨hE, hl, ⟨ha, hb, ha, hb, hz⟩, hm⟩ H s_fm.rfl' fun KC => ?_
  show q_gd (!Nat.beq (q_ty va) 1 && !Nat.beq (q_ty vb) 1) (KC nx cl (va :: vb :: va :: vb :: cs') hp) = _
  rw [s_k2_ok ha, s_k2_ok hb, h.1]
  rfl
theorem s_op11 {v : Nat} {c : Int} {x y : Nat} {tb : List Nat} (h : (s_p1 st fun a st => Nat.beq (s_k2 a.1) y && s_sto lo x a fun lo => K nx env lo st mm) = true) (G : s_g ρ env lo st mm cl cs hp) (H : s_hok hp) : s_res cal fr (11, v, c, x, y, nx, tb) mask ρ env.length cl cs hp K := by
  obtain ⟨hE, hl, hs, hm⟩ := G
  obtain ⟨a, st', va, cs', rfl, rfl, h, ha, hz⟩ := s_p1_some h hs
  rw [Bool.and_eq_true] at h
  obtain ⟨lo', cl', h1, h2, h3⟩ := s_sto_ok h.2 hl ha
  refine s_same h1 ⟨hE, h2, hz, hm⟩ H s_fm.rfl' fun KC => ?_
  show q_gd (Nat.beq (q_ty va) y) (q_st q_ty cl x va fun lo => KC nx lo cs' hp) = _
  rw [s_k2_ok ha, h.1]
  show (q_st q_ty cl x va fun lo => KC nx lo cs' hp) = _
  rw [h3]
theorem s_op13 {v : Nat} {c : Int} {x y : Nat} {tb : List Nat} (h : (s_ob (q_nth lo x) fun oa => s_ob oa fun a => Nat.beq a.1 0 && s_i32 c c && s_bin 0 env a (0, (0, 0, c, 0), s_x0) fun env r => s_sto lo x r fun lo => K nx env lo st mm) = true) (G : s_g ρ env lo st mm cl cs hp) (H : s_hok hp) : s_res cal fr (13, v, c, x, y, nx, tb) mask ρ env.length cl cs hp K := by
  obtain ⟨hE, hl, hs, hm⟩ := G
  obtain ⟨oa, h1, h0⟩ := s_ob_some h
  clear h
  obtain ⟨a, ha, h⟩ := s_ob_some h0
  clear h0
  subst ha
  rw [q_nth_eq] at h1
  simp only [Bool.and_eq_true, s_i32_iff] at h
  obtain ⟨⟨hk, hc⟩, h⟩ := h
  obtain ⟨u, h2, h3⟩ := hl.2 x a h1
  obtain ⟨z, rfl, hz⟩ := s_vs_int h3 (s_beq hk)
  have h4 : s_vs env.length ρ (0, (0, 0, c, 0), s_x0) (.int (Int32.ofInt c)) := s_vs_mk trivial (by decide) ⟨rfl, by rw [Int32.toInt_ofInt]; exact q_bm hc.1 hc.2⟩
  obtain ⟨r, h5, env', ρ', s, h6, h7, h8, h9, h10⟩ := s_bin_ok h hE h3 h4
  have h5' : some (Value.int (z + Int32.ofInt c)) = some r := h5
  cases h5'
  obtain ⟨lo', cl', h11, h12, h13⟩ := s_sto_ok h6 (s_lk_ag hl h8 h9) h10
  refine ⟨nx, env', lo', st, mm, ρ', cl', cs, hp, h11, ⟨h7, h12, s_sk_ag h8 h9 hs, s_mk_ag hm h8 h9⟩, H, h8, h9, s_fm.rfl', fun KC => ?_⟩
  show q_ob (q_nth cl x) (fun oa => q_ob oa fun a => q_gd (Nat.beq (q_ty a) 0) (q_ob (q_bin 0 a (.int (Int32.ofInt c))) fun r => q_gd (Nat.beq (q_ty r) 0) (q_st q_ty cl x r fun lo => KC nx lo cs hp))) = _
  rw [q_nth_eq, h2]
  show (q_st q_ty cl x (.int (z + Int32.ofInt c)) fun lo => KC nx lo cs hp) = _
  rw [h13]
theorem s_kp_ok {n v : Nat} {a : s_S} {u : Value} (h : s_kp env v a = true) (hE : s_ek ρ env) (ha : s_vs n ρ a u) : q_kept q_CO v u hp = some u := by
  by_cases h10 : v = 10
  · subst h10
    obtain ⟨z, rfl, -⟩ := s_vs_int ha (s_beq h)
    rfl
  · by_cases h11 : v = 11
    · subst h11
      obtain ⟨z, rfl, -⟩ := s_vs_long ha (s_beq h)
      rfl
    · by_cases h12 : v = 12
      · subst h12
        rw [show s_kp env 12 a = (Nat.beq a.1 0 && s_xk env a.2.1 fun a b => i_ble 0 a && i_ble b 65535) from rfl, Bool.and_eq_true] at h
        obtain ⟨z, rfl, h1⟩ := s_vs_int ha (s_beq h.1)
        obtain ⟨p, q, h2, h3⟩ := s_xk_some h.2
        rw [Bool.and_eq_true, i_ble_iff, i_ble_iff] at h3
        have h4 := s_xi_ok hE h2
        exact congrArg (fun z => some (Value.int z)) (q_cI (x := z) (by omega) (by omega)).2
      · exfalso
        unfold s_kp at h
        split at h
        · exact h10 rfl
        · exact h11 rfl
        · exact h12 rfl
        · cases h
theorem s_op12 {v : Nat} {c : Int} {x y : Nat} {tb : List Nat} (h : (s_p1 st fun a st => s_p1 st fun i st => s_p1 st fun r st => s_tg r.1 fun t tag D => Nat.beq tag v && s_ix env i D.2.1 fun p q => s_kp env v a && s_ast mask env mm t D r.2.1 i a p q fun mm => K nx env lo st mm) = true) (G : s_g ρ env lo st mm cl cs hp) (H : s_hok hp) : s_res cal fr (12, v, c, x, y, nx, tb) mask ρ env.length cl cs hp K := by
  obtain ⟨hE, hl, hs, hm⟩ := G
  obtain ⟨a, st1, va, cs1, rfl, rfl, h, ha, hs1⟩ := s_p1_some h hs
  obtain ⟨i, st2, vi, cs2, rfl, rfl, h, hi, hs2⟩ := s_p1_some h hs1
  obtain ⟨b, st', vb, cs', rfl, rfl, h, hb, hz⟩ := s_p1_some h hs2
  obtain ⟨t, D, h3, h4, h⟩ := s_tg_some h
  rw [Bool.and_eq_true] at h
  obtain ⟨c1, d, rfl, h5, h6, h7, h8⟩ := s_ref hb h3 h4 H
  obtain ⟨p, pa, pb, e1, e2, e3, e4, e5, e6⟩ := s_ix_ok h.2 hE hi
  rw [Bool.and_eq_true] at e6
  obtain ⟨mm', h9, h10, h11, h12, h13⟩ := s_ast_ok e6.2 hE hm H h5 hb.1 h6 h4 h7 h8 e2 hi.1 e3 e4 e5 ha
  refine s_same h9 ⟨hE, hl, hz, h13⟩ h11 h12 fun KC => ?_
  show q_ob (q_ix vi) (fun j => q_ob (q_kept q_CO v va hp) fun a => c_set hp c1 v j a fun hp => KC nx cl cs' hp) = _
  rw [e1]
  show q_ob (q_kept q_CO v va hp) (fun a => c_set hp c1 v p a fun hp => KC nx cl cs' hp) = _
  rw [s_kp_ok e6.1 hE ha]
  show (c_set hp c1 v p va fun hp => KC nx cl cs' hp) = _
  rw [s_cst h7 (h8.1.trans (s_beq h.1)) h10]
theorem s_sws_ok {x : s_X} : ∀ {tb : List Nat} {c : Int}, s_sws env x lo st mm K c tb = true → s_ek ρ env → c ≤ s_ev ρ x → s_ev ρ x < c + tb.length → ∃ t env', tb[(s_ev ρ x - c).toNat]? = some t ∧ K t env' lo st mm = true ∧ s_ek ρ env' ∧ env'.length = env.length
  | [], c, h, hE, h1, h2 => by simp at h2; omega
  | t :: tb, c, h, hE, h1, h2 => by
    rw [s_sws, i_fZ_eq, Bool.and_eq_true] at h
    by_cases hc : s_ev ρ x = c
    · obtain ⟨env', h3, h4, h5⟩ := s_rx_ok h.1 hE (by omega) (by omega)
      exact ⟨t, env', by rw [hc, Int.sub_self]; rfl, h3, h4, h5⟩
    · obtain ⟨t', env', h3, h4⟩ := s_sws_ok h.2 hE (by omega) (by simp only [List.length_cons] at h2; omega)
      refine ⟨t', env', ?_, h4⟩
      have : (s_ev ρ x - c).toNat = (s_ev ρ x - (c + 1)).toNat + 1 := by omega
      rw [this, List.getElem?_cons_succ]
      exact h3
theorem s_op18 {v : Nat} {c : Int} {x y : Nat} {tb : List Nat} (h : (s_p1 st fun a st => Nat.beq a.1 0 && Nat.beq tb.length v && s_rx env a.2.1 (-2147483648) (c - 1) (fun env => K x env lo st mm) && s_rx env a.2.1 (c + .ofNat v) 2147483647 (fun env => K x env lo st mm) && s_sws env a.2.1 lo st mm K c tb) = true) (G : s_g ρ env lo st mm cl cs hp) (H : s_hok hp) : s_res cal fr (18, v, c, x, y, nx, tb) mask ρ env.length cl cs hp K := by
  obtain ⟨hE, hl, hs, hm⟩ := G
  obtain ⟨a, st', va, cs', rfl, rfl, h, ha, hz⟩ := s_p1_some h hs
  simp only [Bool.and_eq_true] at h
  obtain ⟨⟨⟨⟨h1, h2⟩, h3⟩, h4⟩, h5⟩ := h
  obtain ⟨z, rfl, h6⟩ := s_vs_int ha (s_beq h1)
  have h2 := s_beq h2
  have hb := s_b32 z
  have hofn : (Int.ofNat v) = (v : Int) := rfl
  by_cases c1 : z.toInt < c
  · obtain ⟨env', h7, h8, h9⟩ := s_rx_ok h3 hE (by omega) (by omega)
    rw [← h9] at hl hz hm ⊢
    refine s_same h7 ⟨h8, hl, hz, hm⟩ H s_fm.rfl' fun KC => ?_
    show q_ob (if z.toInt < c then some none else if c + v ≤ z.toInt then some none else some (some (z.toInt - c).toNat)) _ = _
    rw [if_pos c1]
    rfl
  · by_cases c2 : c + v ≤ z.toInt
    · obtain ⟨env', h7, h8, h9⟩ := s_rx_ok h4 hE (by omega) (by omega)
      rw [← h9] at hl hz hm ⊢
      refine s_same h7 ⟨h8, hl, hz, hm⟩ H s_fm.rfl' fun KC => ?_
      show q_ob (if z.toInt < c then some none else if c + v ≤ z.toInt then some none else some (some (z.toInt - c).toNat)) _ = _
      rw [if_neg c1, if_pos c2]
      rfl
    · obtain ⟨t, env', h0, h7, h8, h9⟩ := s_sws_ok h5 hE (by omega) (by omega)
      rw [← h9] at hl hz hm ⊢
      refine s_same h7 ⟨h8, hl, hz, hm⟩ H s_fm.rfl' fun KC => ?_
      show q_ob (if z.toInt < c then some none else if c + v ≤ z.toInt then some none else some (some (z.toInt - c).toNat)) (fun o => match o with
        | none => KC x cl cs' hp
        | some j => q_ob (q_nth tb j) fun t => KC t cl cs' hp) = _
      rw [if_neg c1, if_neg c2]
      show q_ob (q_nth tb (z.toInt - c).toNat) (fun t => KC t cl cs' hp) = _
      rw [q_nth_eq, h6, h0]
      rfl
theorem s_cats_ok {n : Nat} : ∀ {st : List s_S} {cs : List Value}, s_sk n ρ st cs → q_cats q_ty cs = s_cats st
  | [], [], _ => rfl
  | s :: st, v :: cs, h => by
    rw [q_cats, s_cats, s_k2_ok h.1, s_cats_ok h.2]
  | [], _ :: _, h => h.elim
  | _ :: _, [], h => h.elim
theorem s_cpy_get {A B : List Value} {sp dp n : Nat} (h1 : sp + n ≤ A.length) (h2 : dp + n ≤ B.length) {i : Nat} {v : Value} (h : (B.take dp ++ ((A.drop sp).take n ++ B.drop (dp + n)))[i]? = some v) : B[i]? = some v ∨ ∃ j : Nat, A[j]? = some v := by
  rcases Nat.lt_or_ge i dp with hi | hi
  · rw [List.getElem?_append_left (by rw [List.length_take]; omega), List.getElem?_take_of_lt hi] at h
    exact Or.inl h
  · rw [List.getElem?_append_right (by rw [List.length_take]; omega)] at h
    have hlen : (B.take dp).length = dp := by rw [List.length_take]; omega
    rw [hlen] at h
    rcases Nat.lt_or_ge (i - dp) n with hj | hj
    · rw [List.getElem?_append_left (by rw [List.length_take, List.length_drop]; omega), List.getElem?_take_of_lt hj, List.getElem?_drop] at h
      exact Or.inr ⟨_, h⟩
    · rw [List.getElem?_append_right (by rw [List.length_take, List.length_drop]; omega)] at h
      have hlen2 : ((A.drop sp).take n).length = n := by rw [List.length_take, List.length_drop]; omega
      rw [hlen2, List.getElem?_drop] at h
      have : dp + n + (i - dp - n) = i := by omega
      rw [this] at h
      exact Or.inl h
theorem s_op19 {v dp : Nat} {c : Int} {x y : Nat} {tb : List Nat} (hfr : dp ≤ fr + 1) (h : (s_p1 st fun n st => s_p1 st fun dq st => s_p1 st fun d st => s_p1 st fun sq st => s_p1 st fun s st => Nat.blt 1 dp && Nat.ble (s_cats st) 8 && s_tg d.1 fun td tagd Dd => s_tg s.1 fun _ tags Ds => Nat.beq tagd tags && (Nat.beq tagd 10 || Nat.beq tagd 11) && s_ix env n 100000 fun _ n2 => s_ix env dq 100000 fun _ d2 => s_ix env sq 100000 fun _ s2 => Nat.ble (s2 + n2) Ds.2.1 && Nat.ble (d2 + n2) Dd.2.1 && s_in mask td && s_al Ds.2.2.1 0 Ds.2.1 (fun q => s_al Dd.2.2.1 0 Dd.2.1 fun h => s_sub q h) && s_kl (fun m => Nat.beq m.1 td) mm fun mm => K nx env lo st mm) = true) (G : s_g ρ env lo st mm cl cs hp) (H : s_hok hp) : s_res cal fr (19, v, c, x, y, nx, tb) mask ρ env.length cl cs hp K := by
  obtain ⟨hE, hl, hs, hm⟩ := G
  obtain ⟨n, st1, vn, cs1, rfl, rfl, h, hn, hs1⟩ := s_p1_some h hs
  obtain ⟨dq, st2, vdq, cs2, rfl, rfl, h, hdq, hs2⟩ := s_p1_some h hs1
  obtain ⟨d, st3, vd, cs3, rfl, rfl, h, hd, hs3⟩ := s_p1_some h hs2
  obtain ⟨sq, st4, vsq, cs4, rfl, rfl, h, hsq, hs4⟩ := s_p1_some h hs3
  obtain ⟨s, st', vs, cs', rfl, rfl, h, hs5, hz⟩ := s_p1_some h hs4
  rw [Bool.and_eq_true, Bool.and_eq_true] at h
  obtain ⟨⟨hdp, hcat⟩, h⟩ := h
  obtain ⟨td, Dd, g1, g2, h⟩ := s_tg_some h
  obtain ⟨ts, Ds, g3, g4, h⟩ := s_tg_some h
  rw [Bool.and_eq_true, Bool.and_eq_true] at h
  obtain ⟨⟨htag, htag2⟩, h⟩ := h
  have htag := s_beq htag
  obtain ⟨pn, na, nb, e1, e2, e3, e4, e5, h⟩ := s_ix_ok h hE hn
  obtain ⟨pd, da, db, f1, f2, f3, f4, f5, h⟩ := s_ix_ok h hE hdq
  obtain ⟨ps, sa, sb, k1, k2, k3, k4, k5, h⟩ := s_ix_ok h hE hsq
  simp only [Bool.and_eq_true] at h
  obtain ⟨⟨⟨⟨m1, m2⟩, m3⟩, m4⟩, h⟩ := h
  have m1 := s_ble m1
  have m2 := s_ble m2
  obtain ⟨mm', h9, h10⟩ := s_kl_ok h
  obtain ⟨cd, dd, rfl, h5, h6, h7, h8⟩ := s_ref hd g1 g2 H
  obtain ⟨cs0, ds, rfl, i5, i6, i7, i8⟩ := s_ref hs5 g3 g4 H
  have l1 : ps + pn ≤ ds.2.length := by rw [i8.2.1]; omega
  have l2 : pd + pn ≤ dd.2.length := by rw [h8.2.1]; omega
  have hnew : s_cok Dd (dd.1, dd.2.take pd ++ ((ds.2.drop ps).take pn ++ dd.2.drop (pd + pn))) := by
    refine ⟨h8.1, ?_, fun i v hv => ?_⟩
    · rw [← h8.2.1]
      simp only [List.length_append, List.length_take, List.length_drop]
      omega
    · have hi := (List.getElem?_eq_some_iff.mp hv).1
      simp only [List.length_append, List.length_take, List.length_drop] at hi
      have hi : i < dd.2.length := by omega
      rcases s_cpy_get l1 l2 hv with hv | ⟨j, hv⟩
      · exact h8.2.2 i v hv
      · obtain ⟨q, q1, -⟩ := h8.2.2 i _ (List.getElem?_eq_getElem hi)
        obtain ⟨q', q2, q3⟩ := i8.2.2 j v hv
        have hj := (List.getElem?_eq_some_iff.mp hv).1
        rw [i8.2.1] at hj
        rw [h8.2.1] at hi
        have q4 := s_al_ok (P := fun q => s_al Dd.2.2.1 0 Dd.2.1 fun h => s_sub q h) m4 (Nat.zero_le j) (Nat.le_of_lt hj) q2
        have q5 := s_al_ok (P := fun h => s_sub q' h) q4 (Nat.zero_le i) (Nat.le_of_lt hi) q1
        exact ⟨q, q1, s_sub_ok q5 q3⟩
  refine s_same h9 ⟨hE, hl, hz, ?_⟩ (s_hok_set H h6 g2 h7 h8 hnew) (s_fm_set h6 m3) fun KC => ?_
  · intro w hw
    obtain ⟨h11, h12⟩ := h10 w hw
    refine s_mo_set (hm w h11) h7 fun u h13 _ => ?_
    rw [h6] at h13
    rw [Option.some.inj h13, Nat.beq_refl] at h12
    cases h12
  · show q_gd (Nat.blt 0 fr && Nat.ble (q_cats q_ty cs') 8) (q_ob (q_ix vn) fun n => q_ob (q_ix vdq) fun dp => q_ob (q_ix vsq) fun sp => c_cpy hp cs0 sp cd dp n fun hp => KC nx cl cs' hp) = _
    have hdp := s_blt hdp
    rw [s_cats_ok hz, hcat, show Nat.blt 0 fr = true by simp only [Nat.blt_eq]; omega]
    show (q_ob (q_ix vn) fun n => q_ob (q_ix vdq) fun dp => q_ob (q_ix vsq) fun sp => c_cpy hp cs0 sp cd dp n fun hp => KC nx cl cs' hp) = _
    rw [e1]
    show (q_ob (q_ix vdq) fun dp => q_ob (q_ix vsq) fun sp => c_cpy hp cs0 sp cd dp pn fun hp => KC nx cl cs' hp) = _
    rw [f1]
    show (q_ob (q_ix vsq) fun sp => c_cpy hp cs0 sp cd pd pn fun hp => KC nx cl cs' hp) = _
    rw [k1]
    show c_cpy hp cs0 ps cd pd pn (fun hp => KC nx cl cs' hp) = _
    unfold c_cpy
    rw [q_nth_eq, i7]
    show q_ob (q_nth hp cd) _ = _
    rw [q_nth_eq, h7]
    show q_gd (Nat.beq dd.1 ds.1 && (Nat.beq dd.1 10 || Nat.beq dd.1 11) && Nat.ble (ps + pn) ds.2.length && Nat.ble (pd + pn) dd.2.length) _ = _
    rw [h8.1, i8.1, ← htag, Nat.beq_refl, htag2, Nat.ble_eq_true_of_le l1, Nat.ble_eq_true_of_le l2]
    simp only [Bool.and_true, q_gd, q_frc_eq, q_set_eq]
end s_ops2

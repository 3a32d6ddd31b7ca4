/-- the run goes on -/
def s_res (cal : Nat → List Value → q_H → Option (q_R Value q_H)) (fr : Nat) (mi : q_MI) (mask : List Nat) (ρ : Nat → Int) (n : Nat) (cl : List (Option Value)) (cs : List Value) (hp : q_H) (K : s_KK) : Prop :=
  ∃ (pc : Nat) (env : List s_R) (lo : List (Option s_S)) (st : List s_S) (mm : List s_M) (ρ' : Nat → Int) (cl' : List (Option Value)) (cs' : List Value) (hp' : q_H), K pc env lo st mm = true ∧ s_g ρ' env lo st mm cl' cs' hp' ∧ s_hok hp' ∧ s_ag n ρ ρ' ∧ n ≤ env.length ∧ s_fm mask hp hp' ∧ ∀ KC : q_K Value q_H, q_step q_CO cal fr mi cl cs hp KC = KC pc cl' cs' hp'
section s_ops
variable {cal : Nat → List Value → q_H → Option (q_R Value q_H)} {fr : Nat} {mi : q_MI} {mask : List Nat} {ρ : Nat → Int} {env : List s_R} {lo : List (Option s_S)} {st : List s_S} {mm : List s_M} {cl cl0 : List (Option Value)} {cs cs0 : List Value} {hp hp0 : q_H} {K : s_KK} {nx : Nat} {r : Value}
theorem s_push (ho : s_out ρ env (fun env s => K nx env lo (s :: st) mm) r) (hl : s_lk env.length ρ lo cl) (hs : s_sk env.length ρ st cs) (hm : s_mk env.length ρ hp mm) (H : s_hok hp) (hq : ∀ KC : q_K Value q_H, q_step q_CO cal fr mi cl0 cs0 hp KC = KC nx cl (r :: cs) hp) : s_res cal fr mi mask ρ env.length cl0 cs0 hp K := by
  obtain ⟨env', ρ', s, h1, h2, h3, h4, h5⟩ := ho
  exact ⟨nx, env', lo, s :: st, mm, ρ', cl, r :: cs, hp, h1, ⟨h2, s_lk_ag hl h3 h4, ⟨h5, s_sk_ag h3 h4 hs⟩, s_mk_ag hm h3 h4⟩, H, h3, h4, s_fm.rfl', hq⟩
theorem s_push2 (ho : ∃ (env' : List s_R) (ρ' : Nat → Int) (mm' : List s_M) (s : s_S), K nx env' lo (s :: st) mm' = true ∧ s_ek ρ' env' ∧ s_ag env.length ρ ρ' ∧ env.length ≤ env'.length ∧ s_mk env'.length ρ' hp mm' ∧ s_vs env'.length ρ' s r) (hl : s_lk env.length ρ lo cl) (hs : s_sk env.length ρ st cs) (H : s_hok hp) (hq : ∀ KC : q_K Value q_H, q_step q_CO cal fr mi cl0 cs0 hp KC = KC nx cl (r :: cs) hp) : s_res cal fr mi mask ρ env.length cl0 cs0 hp K := by
  obtain ⟨env', ρ', mm', s, h1, h2, h3, h4, h5, h6⟩ := ho
  exact ⟨nx, env', lo, s :: st, mm', ρ', cl, r :: cs, hp, h1, ⟨h2, s_lk_ag hl h3 h4, ⟨h6, s_sk_ag h3 h4 hs⟩, h5⟩, H, h3, h4, s_fm.rfl', hq⟩
theorem s_same (h : K nx env lo st mm = true) (G : s_g ρ env lo st mm cl cs hp) (H : s_hok hp) (hf : s_fm mask hp0 hp) (hq : ∀ KC : q_K Value q_H, q_step q_CO cal fr mi cl0 cs0 hp0 KC = KC nx cl cs hp) : s_res cal fr mi mask ρ env.length cl0 cs0 hp0 K :=
  ⟨nx, env, lo, st, mm, ρ, cl, cs, hp, h, G, H, s_ag.rfl', Nat.le_refl _, hf, hq⟩
theorem s_p1_some {f : s_S → List s_S → Bool} {n : Nat} (h : s_p1 st f = true) (hs : s_sk n ρ st cs) : ∃ a st' v cs', st = a :: st' ∧ cs = v :: cs' ∧ f a st' = true ∧ s_vs n ρ a v ∧ s_sk n ρ st' cs' := by
  match st, cs, h, hs with
  | a :: st, v :: cs, h, hs => exact ⟨a, st, v, cs, rfl, rfl, h, hs.1, hs.2⟩
  | [], _, h, _ => cases h
  | _ :: _, [], _, hs => exact hs.elim
theorem s_k2_ok {n : Nat} {s : s_S} {v : Value} (h : s_vs n ρ s v) : q_ty v = s_k2 s.1 := by
  obtain ⟨kd, x, y⟩ := s
  obtain ⟨-, -, h⟩ := h
  by_cases hk : kd = 5
  · subst hk
    rw [if_pos rfl] at h
    obtain ⟨z, rfl, -⟩ := h
    rfl
  · rw [if_neg hk] at h
    cases v with
    | int z => have h1 : kd = 0 := h.1; subst h1; rfl
    | long z => have h1 : kd = 1 := h.1; subst h1; rfl
    | float z => have h1 : kd = 4 := h.1; subst h1; rfl
    | ref z =>
      obtain ⟨t, h1, -⟩ := h
      have h1 : kd = 10 + t := h1
      subst h1
      show 2 = s_k2 (10 + t)
      rw [Nat.add_comm]
      rfl
    | _ => exact h.elim
theorem s_tg_some {kd : Nat} {f : Nat → Nat → s_D → Bool} (h : s_tg kd f = true) : ∃ t D, kd = 10 + t ∧ s_td t = some D ∧ f t D.1 D = true := by
  unfold s_tg at h
  cases hk : Nat.ble 10 kd with
  | false => rw [hk] at h; cases h
  | true =>
    rw [hk, cond_true] at h
    obtain ⟨D, h1, h2⟩ := s_ob_some h
    have := s_ble hk
    exact ⟨kd - 10, D, by omega, h1, h2⟩
/-- a reference's cell -/
theorem s_ref {n t : Nat} {s : s_S} {v : Value} {D : s_D} (hv : s_vs n ρ s v) (hk : s.1 = 10 + t) (hD : s_td t = some D) (H : s_hok hp) : ∃ (c : Nat) (d : Nat × List Value), v = .ref c ∧ s_ev ρ s.2.1 = (c : Int) ∧ s_ct[c]? = some t ∧ hp[c]? = some d ∧ s_cok D d := by
  obtain ⟨c, t', rfl, h1, h2, h3⟩ := s_vk_ref (s_vs_k hv (by omega)) (by omega)
  have : t' = t := by omega
  subst this
  obtain ⟨D', d, h4, h5, h6⟩ := s_cell H h3
  rw [hD] at h4
  cases h4
  exact ⟨c, d, rfl, h2, h3, h5, h6⟩
theorem s_cgt {c t p : Nat} {d : Nat × List Value} {v : Value} (h1 : hp[c]? = some d) (h2 : d.1 = t) (h3 : d.2[p]? = some v) : c_get hp c t p = some v := by
  unfold c_get
  rw [q_nth_eq, h1]
  show q_gd (Nat.beq d.1 t) (q_nth d.2 p) = some v
  rw [h2, Nat.beq_refl, q_nth_eq, h3]
  rfl
theorem s_cst {c t p : Nat} {d : Nat × List Value} {v : Value} {k : q_H → Option (q_R Value q_H)} (h1 : hp[c]? = some d) (h2 : d.1 = t) (h3 : p < d.2.length) : c_set hp c t p v k = k (hp.set c (d.1, d.2.set p v)) := by
  unfold c_set
  rw [q_nth_eq, h1]
  show q_gd (Nat.beq d.1 t && Nat.blt p d.2.length) (q_set d.2 p v fun vs => q_set hp c (d.1, vs) k) = _
  rw [h2, Nat.beq_refl, show Nat.blt p d.2.length = true by simpa [Nat.blt_eq] using h3]
  simp only [q_set_eq]
  rfl
theorem s_op0 {v : Nat} {c : Int} {x y : Nat} {tb : List Nat} (h : (s_ob (q_nth lo x) fun oa => s_ob oa fun a => Nat.beq (s_k2 a.1) y && K nx env lo (a :: st) mm) = true) (G : s_g ρ env lo st mm cl cs hp) (H : s_hok hp) : s_res cal fr (0, v, c, x, y, nx, tb) mask ρ env.length cl cs hp K := by
  obtain ⟨hE, hl, hs, hm⟩ := G
  obtain ⟨oa, h1, h0⟩ := s_ob_some h
  clear h
  obtain ⟨a, ha, h⟩ := s_ob_some h0
  clear h0
  subst ha
  rw [q_nth_eq] at h1
  rw [Bool.and_eq_true] at h
  obtain ⟨u, h2, h3⟩ := hl.2 x a h1
  refine s_same (cs := u :: cs) h.2 ⟨hE, hl, ⟨h3, hs⟩, hm⟩ H s_fm.rfl' fun KC => ?_
  show q_ob (q_nth cl x) (fun oa => q_ob oa fun a => q_gd (Nat.beq (q_ty a) y) (KC nx cl (a :: cs) hp)) = _
  rw [q_nth_eq, h2]
  show q_gd (Nat.beq (q_ty u) y) (KC nx cl (u :: cs) hp) = _
  rw [s_k2_ok h3, h.1]
  rfl
theorem s_op1 {v : Nat} {c : Int} {x y : Nat} {tb : List Nat} (h : (s_p1 st fun r st => s_tg r.1 fun t tag _ => Nat.beq tag x && s_rd env mm t r.2.1 y fun env mm s => K nx env lo (s :: st) mm) = true) (G : s_g ρ env lo st mm cl cs hp) (H : s_hok hp) : s_res cal fr (1, v, c, x, y, nx, tb) mask ρ env.length cl cs hp K := by
  obtain ⟨hE, hl, hs, hm⟩ := G
  obtain ⟨a, st', u, cs', rfl, rfl, h, h1, h2⟩ := s_p1_some h hs
  obtain ⟨t, D, h3, h4, h⟩ := s_tg_some h
  rw [Bool.and_eq_true] at h
  obtain ⟨c1, d, rfl, h5, h6, h7, h8⟩ := s_ref h1 h3 h4 H
  obtain ⟨w, h9, h10⟩ := s_rd_ok h.2 hE hm h5 h1.1 h6 h4 h7 h8
  refine s_push2 h10 hl h2 H fun KC => ?_
  show q_ob (c_get hp c1 x y) (fun a => KC nx cl (a :: cs') hp) = _
  rw [s_cgt h7 (h8.1.trans (s_beq h.1)) h9]
  rfl
theorem s_op2 {v : Nat} {c : Int} {x y : Nat} {tb : List Nat} (h : (i_fZ c fun c => s_i32 c c && K nx env lo ((0, (0, 0, c, 0), s_x0) :: st) mm) = true) (G : s_g ρ env lo st mm cl cs hp) (H : s_hok hp) : s_res cal fr (2, v, c, x, y, nx, tb) mask ρ env.length cl cs hp K := by
  obtain ⟨hE, hl, hs, hm⟩ := G
  rw [i_fZ_eq, Bool.and_eq_true, s_i32_iff] at h
  refine s_same (cs := .int (Int32.ofInt c) :: cs) h.2 ⟨hE, hl, ⟨s_vs_mk trivial (by decide) (v := .int (Int32.ofInt c)) ⟨rfl, ?_⟩, hs⟩, hm⟩ H s_fm.rfl' fun KC => rfl
  rw [Int32.toInt_ofInt]
  exact q_bm h.1.1 h.1.2
theorem s_op15 {v : Nat} {c : Int} {x y : Nat} {tb : List Nat} (h : (i_fZ c fun c => s_i64 c c && K nx env lo ((1, (0, 0, c, 0), s_x0) :: st) mm) = true) (G : s_g ρ env lo st mm cl cs hp) (H : s_hok hp) : s_res cal fr (15, v, c, x, y, nx, tb) mask ρ env.length cl cs hp K := by
  obtain ⟨hE, hl, hs, hm⟩ := G
  rw [i_fZ_eq, Bool.and_eq_true, s_i64_iff] at h
  refine s_same (cs := .long (Int64.ofInt c) :: cs) h.2 ⟨hE, hl, ⟨s_vs_mk trivial (by decide) (v := .long (Int64.ofInt c)) ⟨rfl, ?_⟩, hs⟩, hm⟩ H s_fm.rfl' fun KC => rfl
  rw [Int64.toInt_ofInt]
  exact q_bm64 h.1.1 h.1.2
theorem s_op5 {v : Nat} {c : Int} {x y : Nat} {tb : List Nat} (h : (s_p1 st fun i st => s_p1 st fun r st => s_tg r.1 fun t tag D => Nat.beq tag v && s_ix env i D.2.1 fun a b => s_ald env mm t D r.2.1 i a b fun env mm s => K nx env lo (s :: st) mm) = true) (G : s_g ρ env lo st mm cl cs hp) (H : s_hok hp) : s_res cal fr (5, v, c, x, y, nx, tb) mask ρ env.length cl cs hp K := by
  obtain ⟨hE, hl, hs, hm⟩ := G
  obtain ⟨i, st1, vi, cs1, rfl, rfl, h, hi, hs1⟩ := s_p1_some h hs
  obtain ⟨a, st', u, cs', rfl, rfl, h, h1, h2⟩ := s_p1_some h hs1
  obtain ⟨t, D, h3, h4, h⟩ := s_tg_some h
  rw [Bool.and_eq_true] at h
  obtain ⟨c1, d, rfl, h5, h6, h7, h8⟩ := s_ref h1 h3 h4 H
  obtain ⟨p, pa, pb, e1, e2, e3, e4, e5, e6⟩ := s_ix_ok h.2 hE hi
  obtain ⟨w, h9, h10⟩ := s_ald_ok e6 hE hm h5 h1.1 h6 h4 h7 h8 e2 hi.1 e3 e4 e5
  refine s_push2 h10 hl h2 H fun KC => ?_
  show q_ob (q_ix vi) (fun j => q_ob (c_get hp c1 v j) (fun a => KC nx cl (a :: cs') hp)) = _
  rw [e1]
  show q_ob (c_get hp c1 v p) (fun a => KC nx cl (a :: cs') hp) = _
  rw [s_cgt h7 (h8.1.trans (s_beq h.1)) h9]
  rfl
theorem s_op6 {v : Nat} {c : Int} {x y : Nat} {tb : List Nat} (h : (s_p1 st fun b st => s_p1 st fun a st => s_bin v env a b fun env r => K nx env lo (r :: st) mm) = true) (G : s_g ρ env lo st mm cl cs hp) (H : s_hok hp) : s_res cal fr (6, v, c, x, y, nx, tb) mask ρ env.length cl cs hp K := by
  obtain ⟨hE, hl, hs, hm⟩ := G
  obtain ⟨b, st1, vb, cs1, rfl, rfl, h, hb, hs1⟩ := s_p1_some h hs
  obtain ⟨a, st', va, cs', rfl, rfl, h, ha, hz⟩ := s_p1_some h hs1
  obtain ⟨r, h1, h2⟩ := s_bin_ok h hE ha hb
  refine s_push h2 hl hz hm H fun KC => ?_
  show q_ob (q_bin v va vb) (fun r => KC nx cl (r :: cs') hp) = _
  rw [h1]
  rfl
theorem s_op14 {v : Nat} {c : Int} {x y : Nat} {tb : List Nat} (h : (s_p1 st fun a st => s_un v env a fun env r => K nx env lo (r :: st) mm) = true) (G : s_g ρ env lo st mm cl cs hp) (H : s_hok hp) : s_res cal fr (14, v, c, x, y, nx, tb) mask ρ env.length cl cs hp K := by
  obtain ⟨hE, hl, hs, hm⟩ := G
  obtain ⟨a, st', va, cs', rfl, rfl, h, ha, hz⟩ := s_p1_some h hs
  obtain ⟨r, h1, h2⟩ := s_un_ok h hE ha
  refine s_push h2 hl hz hm H fun KC => ?_
  show q_ob (q_un v va) (fun r => KC nx cl (r :: cs') hp) = _
  rw [h1]
  rfl
theorem s_rel_cmp {v : Nat} (hv : v < 6) (x y : Int32) : q_cmp v (.int x) (.int y) = some (s_rel v x.toInt y.toInt) := by
  match v, hv with
  | 0, _ => exact congrArg some (decide_eq_decide.mpr Int32.toInt_inj.symm)
  | 1, _ => exact congrArg some (decide_eq_decide.mpr (not_congr Int32.toInt_inj.symm))
  | 2, _ => exact congrArg some (decide_eq_decide.mpr Int32.lt_iff_toInt_lt)
  | 3, _ => exact congrArg some (decide_eq_decide.mpr Int32.le_iff_toInt_le)
  | 4, _ => exact congrArg some (decide_eq_decide.mpr Int32.lt_iff_toInt_lt)
  | 5, _ => exact congrArg some (decide_eq_decide.mpr Int32.le_iff_toInt_le)
theorem s_rel_lc {v : Nat} (hv : v < 6) (a b : Int) : s_rel v (s_lc a b) 0 = s_rel v a b := by
  unfold s_lc
  match v, hv with
  | 0, _ => exact decide_eq_decide.mpr (by split <;> first | omega | (split <;> omega))
  | 1, _ => exact decide_eq_decide.mpr (by split <;> first | omega | (split <;> omega))
  | 2, _ => exact decide_eq_decide.mpr (by split <;> first | omega | (split <;> omega))
  | 3, _ => exact decide_eq_decide.mpr (by split <;> first | omega | (split <;> omega))
  | 4, _ => exact decide_eq_decide.mpr (by split <;> first | omega | (split <;> omega))
  | 5, _ => exact decide_eq_decide.mpr (by split <;> first | omega | (split <;> omega))
theorem s_brr {x : Nat} {b : Bool} {env' : List s_R} (hk : (if b = true then K x env' lo st mm else K nx env' lo st mm) = true) (hE : s_ek ρ env') (hn : env'.length = env.length) (hl : s_lk env.length ρ lo cl) (hs : s_sk env.length ρ st cs) (hm : s_mk env.length ρ hp mm) (H : s_hok hp) (hq : ∀ KC : q_K Value q_H, q_step q_CO cal fr mi cl0 cs0 hp KC = q_br q_CO (some b) x nx cl cs hp KC) : s_res cal fr mi mask ρ env.length cl0 cs0 hp K := by
  rw [← hn] at hl hs hm ⊢
  cases b with
  | true => exact s_same hk ⟨hE, hl, hs, hm⟩ H s_fm.rfl' hq
  | false => exact s_same hk ⟨hE, hl, hs, hm⟩ H s_fm.rfl' hq
theorem s_op8 {v : Nat} {c : Int} {x y : Nat} {tb : List Nat} (h : (s_p1 st fun a st => bif Nat.beq a.1 5 then s_cb v a.2.1 a.2.2 env (fun env => K x env lo st mm) (fun env => K nx env lo st mm) else Nat.beq a.1 0 && s_cb v a.2.1 s_x0 env (fun env => K x env lo st mm) (fun env => K nx env lo st mm)) = true) (G : s_g ρ env lo st mm cl cs hp) (H : s_hok hp) : s_res cal fr (8, v, c, x, y, nx, tb) mask ρ env.length cl cs hp K := by
  obtain ⟨hE, hl, hs, hm⟩ := G
  obtain ⟨a, st', va, cs', rfl, rfl, h, ha, hz⟩ := s_p1_some h hs
  have e0 : (Int32.ofInt 0).toInt = 0 := by decide
  cases hk : Nat.beq a.1 5 with
  | true =>
    rw [hk, cond_true] at h
    have hk := s_beq hk
    obtain ⟨h1, env', h2, h3, h4⟩ := s_cb_ok h hE
    have h5 := ha.2.2
    rw [if_pos hk] at h5
    obtain ⟨z, rfl, h6⟩ := h5
    refine s_brr h2 h3 h4 hl hz hm H fun KC => ?_
    show q_gd true (q_br q_CO (q_cmp v (.int z) (.int (Int32.ofInt 0))) x nx cl cs' hp KC) = _
    rw [s_rel_cmp h1, h6, e0, s_rel_lc h1]
    rfl
  | false =>
    rw [hk, cond_false, Bool.and_eq_true] at h
    have hk := s_beq h.1
    obtain ⟨h1, env', h2, h3, h4⟩ := s_cb_ok h.2 hE
    obtain ⟨z, rfl, h6⟩ := s_vs_int ha hk
    refine s_brr h2 h3 h4 hl hz hm H fun KC => ?_
    show q_gd true (q_br q_CO (q_cmp v (.int z) (.int (Int32.ofInt 0))) x nx cl cs' hp KC) = _
    rw [s_rel_cmp h1, h6, e0]
    rfl
theorem s_op9 {v : Nat} {c : Int} {x y : Nat} {tb : List Nat} (h : (s_p1 st fun b st => s_p1 st fun a st => Nat.beq a.1 0 && Nat.beq b.1 0 && s_cb v a.2.1 b.2.1 env (fun env => K x env lo st mm) (fun env => K nx env lo st mm)) = true) (G : s_g ρ env lo st mm cl cs hp) (H : s_hok hp) : s_res cal fr (9, v, c, x, y, nx, tb) mask ρ env.length cl cs hp K := by
  obtain ⟨hE, hl, hs, hm⟩ := G
  obtain ⟨b, st1, vb, cs1, rfl, rfl, h, hb, hs1⟩ := s_p1_some h hs
  obtain ⟨a, st', va, cs', rfl, rfl, h, ha, hz⟩ := s_p1_some h hs1
  simp only [Bool.and_eq_true] at h
  obtain ⟨h1, env', h2, h3, h4⟩ := s_cb_ok h.2 hE
  obtain ⟨z, rfl, h6⟩ := s_vs_int ha (s_beq h.1.1)
  obtain ⟨w, rfl, h7⟩ := s_vs_int hb (s_beq h.1.2)
  refine s_brr h2 h3 h4 hl hz hm H fun KC => ?_
  show q_gd true (q_br q_CO (q_cmp v (.int z) (.int w)) x nx cl cs' hp KC) = _
  rw [s_rel_cmp h1, h6, h7]
  rfl
theorem s_fv_ok {n v : Nat} {a : s_S} {u : Value} (h : s_fv env v a = true) (hE : s_ek ρ env) (ha : s_vs n ρ a u) : q_fit v u = true := by
  match v, h with
  | 0, h => obtain ⟨z, rfl, -⟩ := s_vs_int ha (s_beq h); rfl
  | 1, h => obtain ⟨z, rfl, -⟩ := s_vs_long ha (s_beq h); rfl
  | 2, h =>
    rw [show s_fv env 2 a = (Nat.beq a.1 0 && s_xk env a.2.1 fun a b => i_ble 0 a && i_ble b 65535) from rfl, Bool.and_eq_true] at h
    obtain ⟨z, rfl, h1⟩ := s_vs_int ha (s_beq h.1)
    obtain ⟨p, q, h2, h3⟩ := s_xk_some h.2
    rw [Bool.and_eq_true, i_ble_iff, i_ble_iff] at h3
    have h4 := s_xi_ok hE h2
    show (decide (0 ≤ z.toInt) && decide (z.toInt ≤ 65535)) = true
    rw [decide_eq_true (by omega), decide_eq_true (by omega)]
    rfl
  | 3, h =>
    rw [show s_fv env 3 a = (Nat.beq a.1 0 && s_xk env a.2.1 fun a b => i_ble 0 a && i_ble b 1) from rfl, Bool.and_eq_true] at h
    obtain ⟨z, rfl, h1⟩ := s_vs_int ha (s_beq h.1)
    obtain ⟨p, q, h2, h3⟩ := s_xk_some h.2
    rw [Bool.and_eq_true, i_ble_iff, i_ble_iff] at h3
    have h4 := s_xi_ok hE h2
    show (decide (z = 0) || decide (z = 1)) = true
    rcases (show z.toInt = 0 ∨ z.toInt = 1 by omega) with h5 | h5
    · rw [decide_eq_true (show z = 0 from Int32.toInt_inj.mp (h5.trans (by decide)))]; rfl
    · rw [decide_eq_true (show z = 1 from Int32.toInt_inj.mp (h5.trans (by decide))), Bool.or_true]
  | 4, h =>
    obtain ⟨c, t, rfl, -⟩ := s_vk_ref (s_vs_k ha (by have := s_ble h; omega)) (s_ble h)
    rfl
  | 5, h =>
    rw [show s_fv env 5 a = (Nat.beq a.1 0 && s_xk env a.2.1 fun a b => i_ble 0 a && i_ble b 1) from rfl, Bool.and_eq_true] at h
    obtain ⟨z, rfl, h1⟩ := s_vs_int ha (s_beq h.1)
    obtain ⟨p, q, h2, h3⟩ := s_xk_some h.2
    rw [Bool.and_eq_true, i_ble_iff, i_ble_iff] at h3
    have h4 := s_xi_ok hE h2
    show (decide (z = 0) || decide (z = 1)) = true
    rcases (show z.toInt = 0 ∨ z.toInt = 1 by omega) with h5 | h5
    · rw [decide_eq_true (show z = 0 from Int32.toInt_inj.mp (h5.trans (by decide)))]; rfl
    · rw [decide_eq_true (show z = 1 from Int32.toInt_inj.mp (h5.trans (by decide))), Bool.or_true]
  | v + 6, h => simp [s_fv] at h
theorem s_op10 {v : Nat} {c : Int} {x y : Nat} {tb : List Nat} (h : (s_p1 st fun a st => s_p1 st fun r st => s_tg r.1 fun t tag _ => Nat.beq tag x && s_fv env (v % 10) a && s_wr mask env mm t r.2.1 y a fun mm => K nx env lo st mm) = true) (G : s_g ρ env lo st mm cl cs hp) (H : s_hok hp) : s_res cal fr (10, v, c, x, y, nx, tb) mask ρ env.length cl cs hp K := by
  obtain ⟨hE, hl, hs, hm⟩ := G
  obtain ⟨b, st1, vb, cs1, rfl, rfl, h, hb, hs1⟩ := s_p1_some h hs
  obtain ⟨a, st', va, cs', rfl, rfl, h, ha, hz⟩ := s_p1_some h hs1
  obtain ⟨t, D, h3, h4, h⟩ := s_tg_some h
  simp only [Bool.and_eq_true] at h
  obtain ⟨c1, d, rfl, h5, h6, h7, h8⟩ := s_ref ha h3 h4 H
  obtain ⟨mm', h9, h10, h11, h12, h13⟩ := s_wr_ok h.2 hE hm H h5 ha.1 h6 h4 h7 h8 hb
  refine s_same h9 ⟨hE, hl, hz, h13⟩ h11 h12 fun KC => ?_
  show q_gd (q_fit (v % 10) vb) (c_set hp c1 x y vb fun hp => KC nx cl cs' hp) = _
  rw [s_fv_ok h.1.2 hE hb]
  show (c_set hp c1 x y vb fun hp => KC nx cl cs' hp) = _
  rw [s_cst h7 (h8.1.trans (s_beq h.1.1)) h10]
theorem s_lk_set {n x : Nat} {s : s_S} {v : Value} (hl : s_lk n ρ lo cl) (hv : s_vs n ρ s v) : s_lk n ρ (lo.set x (some s)) (cl.set x (some v)) := by
  refine ⟨by simp [hl.1], fun i a ha => ?_⟩
  by_cases hi : i = x
  · subst hi
    have hlt := (List.getElem?_eq_some_iff.mp ha).1
    rw [List.length_set] at hlt
    rw [List.getElem?_set_self hlt] at ha
    cases ha
    exact ⟨v, List.getElem?_set_self (by rw [hl.1]; exact hlt), hv⟩
  · rw [List.getElem?_set_ne (Ne.symm hi)] at ha
    obtain ⟨u, h1, h2⟩ := hl.2 i a ha
    exact ⟨u, by rw [List.getElem?_set_ne (Ne.symm hi)]; exact h1, h2⟩
theorem s_lk_non {n x : Nat} (hl : s_lk n ρ lo cl) : s_lk n ρ (lo.set x none) (cl.set x none) := by
  refine ⟨by simp [hl.1], fun i a ha => ?_⟩
  by_cases hi : i = x
  · subst hi
    have hlt := (List.getElem?_eq_some_iff.mp ha).1
    rw [List.length_set] at hlt
    rw [List.getElem?_set_self hlt] at ha
    cases ha
  · rw [List.getElem?_set_ne (Ne.symm hi)] at ha
    obtain ⟨u, h1, h2⟩ := hl.2 i a ha
    exact ⟨u, by rw [List.getElem?_set_ne (Ne.symm hi)]; exact h1, h2⟩
theorem s_st2_ok {n x : Nat} {s : s_S} {v : Value} {k : List (Option s_S) → Bool} (h : s_st2 lo x s k = true) (hl : s_lk n ρ lo cl) (hv : s_vs n ρ s v) : ∃ lo' cl', k lo' = true ∧ s_lk n ρ lo' cl' ∧ ∀ (B : Type) (kc : List (Option Value) → Option B), q_st2 q_ty cl x v kc = kc cl' := by
  unfold s_st2 at h
  rw [q_set_eq] at h
  cases hk : Nat.beq (s_k2 s.1) 1 with
  | true =>
    rw [hk, cond_true, q_set_eq] at h
    refine ⟨_, _, h, s_lk_non (s_lk_set hl hv), fun B kc => ?_⟩
    unfold q_st2
    rw [q_set_eq, s_k2_ok hv, hk, cond_true, q_set_eq]
  | false =>
    rw [hk, cond_false] at h
    refine ⟨_, _, h, s_lk_set hl hv, fun B kc => ?_⟩
    unfold q_st2
    rw [q_set_eq, s_k2_ok hv, hk, cond_false]
end s_ops

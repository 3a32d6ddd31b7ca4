theorem s_tq {a b : Int} (hb : 0 < b) : (0 ≤ a → 0 ≤ a.tdiv b ∧ b * a.tdiv b ≤ a ∧ 0 ≤ b * a.tdiv b ∧ a.tdiv b ≤ a) ∧ (a ≤ 0 → a ≤ b * a.tdiv b ∧ b * a.tdiv b ≤ 0 ∧ a.tdiv b ≤ 0 ∧ a ≤ a.tdiv b) := by
  have key : ∀ c : Int, 0 ≤ c → 0 ≤ c.tdiv b ∧ b * c.tdiv b ≤ c ∧ 0 ≤ b * c.tdiv b ∧ c.tdiv b ≤ c := by
    intro c hc
    rw [Int.tdiv_eq_ediv_of_nonneg hc]
    have h1 : 0 ≤ c / b := Int.ediv_nonneg hc (Int.le_of_lt hb)
    exact ⟨h1, Int.mul_ediv_self_le (by omega), Int.mul_nonneg (Int.le_of_lt hb) h1, Int.ediv_le_self b hc⟩
  refine ⟨key a, fun ha => ?_⟩
  have h1 := key (-a) (by omega)
  rw [Int.neg_tdiv, Int.mul_neg] at h1
  omega
theorem s_tm {a b : Int} (hb : 0 < b) : -b < a - b * a.tdiv b ∧ a - b * a.tdiv b < b ∧ (0 ≤ a → 0 ≤ a - b * a.tdiv b ∧ a - b * a.tdiv b ≤ a) := by
  rw [← Int.tmod_def]
  refine ⟨Int.lt_tmod_of_pos a hb, Int.tmod_lt_of_pos a hb, fun ha => ⟨Int.tmod_nonneg b ha, ?_⟩⟩
  rw [Int.tmod_def]
  have := (s_tq hb).1 ha
  omega
theorem s_r32 {x y : Int32} (hy : 0 < y.toInt) : (x - x / y * y).toInt = x.toInt - y.toInt * x.toInt.tdiv y.toInt := by
  have hq := s_tq (a := x.toInt) hy
  have hm := s_tm (a := x.toInt) hy
  have bx := s_b32 x
  have e1 : (x / y).toInt = x.toInt.tdiv y.toInt := by
    rw [Int32.toInt_div]
    rcases Int.le_total 0 x.toInt with h | h
    · have := hq.1 h; exact q_bm (by omega) (by omega)
    · have := hq.2 h; exact q_bm (by omega) (by omega)
  have e2 : (x / y * y).toInt = y.toInt * x.toInt.tdiv y.toInt := by
    rw [Int32.toInt_mul, e1, Int.mul_comm]
    rcases Int.le_total 0 x.toInt with h | h
    · have := hq.1 h; exact q_bm (by omega) (by omega)
    · have := hq.2 h; exact q_bm (by omega) (by omega)
  rw [Int32.toInt_sub, e2]
  rcases Int.le_total 0 x.toInt with h | h
  · have := hq.1 h; exact q_bm (by omega) (by omega)
  · have := hq.2 h; exact q_bm (by omega) (by omega)
theorem s_r64 {x y : Int64} (hy : 0 < y.toInt) : (x - x / y * y).toInt = x.toInt - y.toInt * x.toInt.tdiv y.toInt := by
  have hq := s_tq (a := x.toInt) hy
  have hm := s_tm (a := x.toInt) hy
  have bx := s_b64 x
  have e1 : (x / y).toInt = x.toInt.tdiv y.toInt := by
    rw [Int64.toInt_div]
    rcases Int.le_total 0 x.toInt with h | h
    · have := hq.1 h; exact q_bm64 (by omega) (by omega)
    · have := hq.2 h; exact q_bm64 (by omega) (by omega)
  have e2 : (x / y * y).toInt = y.toInt * x.toInt.tdiv y.toInt := by
    rw [Int64.toInt_mul, e1, Int.mul_comm]
    rcases Int.le_total 0 x.toInt with h | h
    · have := hq.1 h; exact q_bm64 (by omega) (by omega)
    · have := hq.2 h; exact q_bm64 (by omega) (by omega)
  rw [Int64.toInt_sub, e2]
  rcases Int.le_total 0 x.toInt with h | h
  · have := hq.1 h; exact q_bm64 (by omega) (by omega)
  · have := hq.2 h; exact q_bm64 (by omega) (by omega)
theorem s_ne0 {y : Int32} (h : y.toInt ≠ 0) : y ≠ 0 := by
  rintro rfl
  exact h (by decide)
theorem s_ne0l {y : Int64} (h : y.toInt ≠ 0) : y ≠ 0 := by
  rintro rfl
  exact h (by decide)
theorem s_def3 {a b : Value} : s_def 3 0 a b := by
  intro x y hx hy h0
  obtain ⟨x, rfl, rfl⟩ := s_vk_int hx
  obtain ⟨y, rfl, rfl⟩ := s_vk_int hy
  exact ⟨.int (x / y), _, by simp only [q_bin]; rw [if_neg (s_ne0 h0)], rfl, rfl⟩
theorem s_def4 {a b : Value} : s_def 4 0 a b := by
  intro x y hx hy h0
  obtain ⟨x, rfl, rfl⟩ := s_vk_int hx
  obtain ⟨y, rfl, rfl⟩ := s_vk_int hy
  exact ⟨.int (x - x / y * y), _, by simp only [q_bin]; rw [if_neg (s_ne0 h0)], rfl, rfl⟩
theorem s_def14 {a b : Value} : s_def 14 1 a b := by
  intro x y hx hy h0
  obtain ⟨x, rfl, rfl⟩ := s_vk_long hx
  obtain ⟨y, rfl, rfl⟩ := s_vk_long hy
  exact ⟨.long (x / y), _, by simp only [q_bin]; rw [if_neg (s_ne0l h0)], rfl, rfl⟩
theorem s_def15 {a b : Value} : s_def 15 1 a b := by
  intro x y hx hy h0
  obtain ⟨x, rfl, rfl⟩ := s_vk_long hx
  obtain ⟨y, rfl, rfl⟩ := s_vk_long hy
  exact ⟨.long (x - x / y * y), _, by simp only [q_bin]; rw [if_neg (s_ne0l h0)], rfl, rfl⟩
theorem s_remd4 {a b : Value} : s_remd 4 0 a b := by
  intro x y hx hy h0
  obtain ⟨x, rfl, rfl⟩ := s_vk_int hx
  obtain ⟨y, rfl, rfl⟩ := s_vk_int hy
  refine ⟨.int (x - x / y * y), _, by simp only [q_bin]; rw [if_neg (s_ne0 (by omega))], ⟨rfl, rfl⟩, ?_⟩
  rw [s_r32 h0]
  exact s_tm h0
theorem s_remd15 {a b : Value} : s_remd 15 1 a b := by
  intro x y hx hy h0
  obtain ⟨x, rfl, rfl⟩ := s_vk_long hx
  obtain ⟨y, rfl, rfl⟩ := s_vk_long hy
  refine ⟨.long (x - x / y * y), _, by simp only [q_bin]; rw [if_neg (s_ne0l (by omega))], ⟨rfl, rfl⟩, ?_⟩
  rw [s_r64 h0]
  exact s_tm h0
theorem s_lc_ok (x y : Int64) : (lg_cmp x y).toInt = s_lc x.toInt y.toInt := by
  rw [q_cmp_lt]
  unfold s_lc
  rcases Int.lt_trichotomy x.toInt y.toInt with h | h | h
  · rw [if_neg (by omega), if_neg (by omega), if_pos h]; decide
  · rw [if_neg (by omega), if_pos h, if_neg (by omega), if_pos h]; decide
  · rw [if_pos h, if_neg (by omega), if_neg (by omega)]; decide
theorem s_bin10 {v : Nat} {env : List s_R} {x x' y y' : s_X} {K : List s_R → s_S → Bool} (h : s_bin v env (1, x, x') (0, y, y') K = true) : v = 18 ∧ s_full 1 env K = true := by
  unfold s_bin at h
  simp only at h
  split at h
  · exact ⟨rfl, h⟩
  · cases h
theorem s_un1 {v : Nat} {env : List s_R} {x x' : s_X} {K : List s_R → s_S → Bool} (h : s_un v env (1, x, x') K = true) : v = 5 ∧ (s_xk env x fun a b => bif s_i32 a b then K env (0, x, s_x0) else s_full 0 env K) = true := by
  unfold s_un at h
  simp only at h
  split at h
  · exact ⟨rfl, h⟩
  · cases h
theorem s_bin_ok {ρ : Nat → Int} {env : List s_R} {v : Nat} {X Y : s_S} {K : List s_R → s_S → Bool} {a b : Value} (h : s_bin v env X Y K = true) (hE : s_ek ρ env) (hX : s_vs env.length ρ X a) (hY : s_vs env.length ρ Y b) : ∃ r, q_bin v a b = some r ∧ s_out ρ env K r := by
  obtain ⟨k, x, x'⟩ := X
  obtain ⟨k', y, y'⟩ := Y
  match k, k', h with
  | 0, 0, h =>
    have ha : s_vk 0 (s_ev ρ x) a := s_vs_k hX (show (0 : Nat) ≠ 5 by decide)
    have hb : s_vk 0 (s_ev ρ y) b := s_vs_k hY (show (0 : Nat) ≠ 5 by decide)
    match v, h with
    | 0, h => exact s_add_ok h hE (by decide) ha hb (s_two0 (fun x y => x + y) (fun _ _ => rfl) (fun x y h1 h2 => by show (x + y).toInt = x.toInt + y.toInt; rw [Int32.toInt_add]; exact q_bm h1 h2))
    | 1, h => exact s_sbt_ok h hE (by decide) ha hb (s_two0 (fun x y => x - y) (fun _ _ => rfl) (fun x y h1 h2 => by show (x - y).toInt = x.toInt - y.toInt; rw [Int32.toInt_sub]; exact q_bm h1 h2))
    | 2, h => exact s_mul_ok h hE (by decide) ha hb (s_two0 (fun x y => x * y) (fun _ _ => rfl) (fun x y h1 h2 => by show (x * y).toInt = x.toInt * y.toInt; rw [Int32.toInt_mul]; exact q_bm h1 h2))
    | 3, h => exact s_div_ok h hE (by decide) ha hb s_def3
    | 4, h => exact s_rem_ok h hE (by decide) ha hb s_def4 s_remd4
    | 5, h => exact s_oth_ok h hE (by decide) ha hb (s_o0 ha hb _ fun _ _ => rfl)
    | 6, h => exact s_oth_ok h hE (by decide) ha hb (s_o0 ha hb _ fun _ _ => rfl)
    | 7, h => exact s_oth_ok h hE (by decide) ha hb (s_o0 ha hb _ fun _ _ => rfl)
    | 8, h => exact s_oth_ok h hE (by decide) ha hb (s_o0 ha hb _ fun _ _ => rfl)
    | 9, h => exact s_oth_ok h hE (by decide) ha hb (s_o0 ha hb _ fun _ _ => rfl)
    | 10, h => exact s_oth_ok h hE (by decide) ha hb (s_o0 ha hb _ fun _ _ => rfl)
    | v + 11, h => simp [s_bin] at h
  | 1, 1, h =>
    have ha : s_vk 1 (s_ev ρ x) a := s_vs_k hX (show (1 : Nat) ≠ 5 by decide)
    have hb : s_vk 1 (s_ev ρ y) b := s_vs_k hY (show (1 : Nat) ≠ 5 by decide)
    match v, h with
    | 11, h => exact s_add_ok h hE (by decide) ha hb (s_two1 (fun x y => x + y) (fun _ _ => rfl) (fun x y h1 h2 => by show (x + y).toInt = x.toInt + y.toInt; rw [Int64.toInt_add]; exact q_bm64 h1 h2))
    | 12, h => exact s_sbt_ok h hE (by decide) ha hb (s_two1 (fun x y => x - y) (fun _ _ => rfl) (fun x y h1 h2 => by show (x - y).toInt = x.toInt - y.toInt; rw [Int64.toInt_sub]; exact q_bm64 h1 h2))
    | 13, h => exact s_mul_ok h hE (by decide) ha hb (s_two1 (fun x y => x * y) (fun _ _ => rfl) (fun x y h1 h2 => by show (x * y).toInt = x.toInt * y.toInt; rw [Int64.toInt_mul]; exact q_bm64 h1 h2))
    | 14, h => exact s_div_ok h hE (by decide) ha hb s_def14
    | 15, h => exact s_rem_ok h hE (by decide) ha hb s_def15 s_remd15
    | 16, h => exact s_oth_ok h hE (by decide) ha hb (s_o1 ha hb _ fun _ _ => rfl)
    | 17, h => exact s_oth_ok h hE (by decide) ha hb (s_o1 ha hb _ fun _ _ => rfl)
    | 19, h =>
      obtain ⟨p, rfl, hp⟩ := s_vk_long ha
      obtain ⟨q, rfl, hq⟩ := s_vk_long hb
      refine ⟨.int (lg_cmp p q), rfl, env, ρ, _, h, hE, s_ag.rfl', Nat.le_refl _, hX.1, hY.1, ?_⟩
      rw [if_pos rfl]
      exact ⟨_, rfl, by rw [s_lc_ok, hp, hq]⟩
    | 0, h => simp [s_bin] at h
    | 1, h => simp [s_bin] at h
    | 2, h => simp [s_bin] at h
    | 3, h => simp [s_bin] at h
    | 4, h => simp [s_bin] at h
    | 5, h => simp [s_bin] at h
    | 6, h => simp [s_bin] at h
    | 7, h => simp [s_bin] at h
    | 8, h => simp [s_bin] at h
    | 9, h => simp [s_bin] at h
    | 10, h => simp [s_bin] at h
    | 18, h => simp [s_bin] at h
    | v + 20, h => simp [s_bin] at h
  | 1, 0, h =>
    obtain ⟨rfl, h⟩ := s_bin10 h
    have ha : s_vk 1 (s_ev ρ x) a := s_vs_k hX (show (1 : Nat) ≠ 5 by decide)
    have hb : s_vk 0 (s_ev ρ y) b := s_vs_k hY (show (0 : Nat) ≠ 5 by decide)
    obtain ⟨p, rfl, hp⟩ := s_vk_long ha
    obtain ⟨q, rfl, hq⟩ := s_vk_int hb
    exact ⟨_, rfl, s_full_ok (kd := 1) (z := _) h hE (by decide) ⟨rfl, rfl⟩⟩
  | 0, k' + 1, h => simp [s_bin] at h
  | 1, k' + 2, h => simp [s_bin] at h
  | k + 2, _, h => simp [s_bin] at h
theorem s_uc_ok {ρ : Nat → Int} {env : List s_R} {v : Nat} {a : Int} {K : List s_R → s_S → Bool} {u : Value} (h : s_uc v env a K = true) (hE : s_ek ρ env) (hu : s_vk 0 a u) : ∃ r, q_un v u = some r ∧ s_out ρ env K r := by
  unfold s_uc at h
  cases hi : i_un v (0, a, a) with
  | none => rw [hi] at h; cases h
  | some j =>
    rw [hi] at h
    obtain ⟨t, r, r'⟩ := j
    simp only [Bool.and_eq_true, i_fZ_eq] at h
    obtain ⟨⟨h1, h2⟩, h3⟩ := h
    have h1 : t = 0 := s_beq h1
    rw [i_beq_iff] at h2
    subst h1 h2
    obtain ⟨y, rfl, hy⟩ := s_vk_int hu
    obtain ⟨z, h4, h5⟩ := r_un hi (show r_v (.int y) (0, a, a) from ⟨rfl, by show a ≤ y.toInt; omega, by show y.toInt ≤ a; omega⟩)
    refine ⟨z, h4, env, ρ, _, h3, hE, s_ag.rfl', Nat.le_refl _, s_vs_mk trivial (by decide) ?_⟩
    show s_vk 0 r z
    cases z with
    | int y => have h5 : 0 = 0 ∧ r ≤ y.toInt ∧ y.toInt ≤ r := h5; exact ⟨rfl, by omega⟩
    | long y => have h5 : 0 = 1 ∧ r ≤ y.toInt ∧ y.toInt ≤ r := h5; omega
    | ref y => have h5 : 0 = 2 ∧ r = (y : Int) := h5; omega
    | float y => have h5 : 0 = 4 := h5; omega
    | null => have h5 : 0 = 3 := h5; omega
    | _ => exact h5.elim
theorem s_un_ok {ρ : Nat → Int} {env : List s_R} {v : Nat} {X : s_S} {K : List s_R → s_S → Bool} {a : Value} (h : s_un v env X K = true) (hE : s_ek ρ env) (hX : s_vs env.length ρ X a) : ∃ r, q_un v a = some r ∧ s_out ρ env K r := by
  obtain ⟨k, x, x'⟩ := X
  match k, h with
  | 0, h =>
    have ha : s_vk 0 (s_ev ρ x) a := s_vs_k hX (show (0 : Nat) ≠ 5 by decide)
    obtain ⟨p, rfl, hp⟩ := s_vk_int ha
    match v, h with
    | 0, h => exact ⟨_, rfl, s_full_ok (kd := 0) (z := _) h hE (by decide) ⟨rfl, rfl⟩⟩
    | 1, h =>
      obtain ⟨c, d, h1, h2⟩ := s_xk_some h
      have h3 := s_xi_ok hE h1
      cases hb : i_beq c d with
      | false =>
        rw [hb, cond_false] at h2
        exact ⟨_, rfl, s_full_ok (kd := 0) (z := _) h2 hE (by decide) ⟨rfl, rfl⟩⟩
      | true =>
        rw [hb, cond_true] at h2
        rw [i_beq_iff] at hb
        exact s_uc_ok h2 hE ⟨rfl, by omega⟩
    | 2, h => exact ⟨_, rfl, s_full_ok (kd := 0) (z := _) h hE (by decide) ⟨rfl, rfl⟩⟩
    | 3, h =>
      obtain ⟨c, d, h1, h2⟩ := s_xk_some h
      simp only [Bool.and_eq_true, i_ble_iff] at h2
      have h3 := s_xi_ok hE h1
      exact ⟨_, congrArg (fun z => some (Value.int z)) (q_cI (x := p) (by omega) (by omega)).1, env, ρ, _, h2.2, hE, s_ag.rfl', Nat.le_refl _, s_vs_mk hX.1 (by decide) ha⟩
    | 4, h =>
      refine ⟨_, rfl, env, ρ, _, h, hE, s_ag.rfl', Nat.le_refl _, s_vs_mk hX.1 (by decide) ⟨rfl, ?_⟩⟩
      rw [Int32.toInt_toInt64]
      exact hp
    | 6, h =>
      obtain ⟨c, d, h1, h2⟩ := s_xk_some h
      simp only [Bool.and_eq_true, i_ble_iff] at h2
      have h3 := s_xi_ok hE h1
      exact ⟨_, congrArg (fun z => some (Value.int z)) (q_cI (x := p) (by omega) (by omega)).2, env, ρ, _, h2.2, hE, s_ag.rfl', Nat.le_refl _, s_vs_mk hX.1 (by decide) ha⟩
    | 5, h => simp [s_un] at h
    | v + 7, h => simp [s_un] at h
  | 1, h =>
    obtain ⟨rfl, h⟩ := s_un1 h
    have ha : s_vk 1 (s_ev ρ x) a := s_vs_k hX (show (1 : Nat) ≠ 5 by decide)
    obtain ⟨p, rfl, hp⟩ := s_vk_long ha
    obtain ⟨c, d, h1, h2⟩ := s_xk_some h
    have h3 := s_xi_ok hE h1
    refine ⟨.int p.toInt32, rfl, ?_⟩
    cases h4 : s_i32 c d with
    | true =>
      rw [h4, cond_true] at h2
      rw [s_i32_iff] at h4
      refine ⟨env, ρ, _, h2, hE, s_ag.rfl', Nat.le_refl _, s_vs_mk hX.1 (by decide) ⟨rfl, ?_⟩⟩
      rw [Int64.toInt_toInt32, hp]
      exact q_bm (by omega) (by omega)
    | false =>
      rw [h4, cond_false] at h2
      exact s_full_ok (kd := 0) (z := _) h2 hE (by decide) ⟨rfl, rfl⟩
  | k + 2, h => simp [s_un] at h
theorem s_hl_al {L : List s_G} {a b i : Nat} {h q : s_Q} {v : Value} (hc : s_al L a b (fun q => s_sub q h) = true) (h1 : a ≤ i) (h2 : i ≤ b) (hq : s_sg L i = some q) (hv : s_inq q v) : s_inq h v := s_sub_ok (s_al_ok (P := fun q => s_sub q h) hc h1 h2 hq) hv
theorem s_ix_ok {ρ : Nat → Int} {env : List s_R} {i : s_S} {n : Nat} {K : Nat → Nat → Bool} {v : Value} (h : s_ix env i n K = true) (hE : s_ek ρ env) (hi : s_vs env.length ρ i v) : ∃ (p a b : Nat), q_ix v = some p ∧ s_ev ρ i.2.1 = (p : Int) ∧ a ≤ p ∧ p ≤ b ∧ b < n ∧ K a b = true := by
  unfold s_ix at h
  rw [Bool.and_eq_true] at h
  obtain ⟨x, rfl, hx⟩ := s_vs_int hi (s_beq h.1)
  obtain ⟨a, b, h1, h2⟩ := s_xk_some h.2
  have h3 := s_xi_ok hE h1
  match a, b, h2, h3 with
  | .ofNat a, .ofNat b, h2, h3 =>
    rw [Bool.and_eq_true] at h2
    have h3a : (a : Int) ≤ s_ev ρ i.2.1 := h3.1
    have h3b : s_ev ρ i.2.1 ≤ (b : Int) := h3.2.1
    refine ⟨x.toInt.toNat, a, b, ?_, by omega, by omega, by omega, s_blt h2.1, h2.2⟩
    show (if x < 0 then none else some x.toNatClampNeg) = some x.toInt.toNat
    have h4 : ¬ x < 0 := by
      rw [Int32.lt_iff_toInt_lt]
      have : (0 : Int32).toInt = 0 := by decide
      omega
    rw [if_neg h4]
    rfl
  | .ofNat _, .negSucc _, h2, _ => cases h2
  | .negSucc _, .ofNat _, h2, _ => cases h2
  | .negSucc _, .negSucc _, h2, _ => cases h2
theorem s_ald_ok {ρ : Nat → Int} {env : List s_R} {mm : List s_M} {t p a b c : Nat} {e : s_X} {i : s_S} {K : List s_R → List s_M → s_S → Bool} {hp : q_H} {D : s_D} {d : Nat × List Value} (h : s_ald env mm t D e i a b K = true) (hE : s_ek ρ env) (hM : s_mk env.length ρ hp mm) (hc : s_ev ρ e = (c : Int)) (hx : s_xs env.length e) (ht : s_ct[c]? = some t) (hD : s_td t = some D) (hd : hp[c]? = some d) (hk : s_cok D d) (hi : s_ev ρ i.2.1 = (p : Int)) (hix : s_xs env.length i.2.1) (h1 : a ≤ p) (h2 : p ≤ b) (h3 : b < D.2.1) : ∃ v, d.2[p]? = some v ∧ ∃ (env' : List s_R) (ρ' : Nat → Int) (mm' : List s_M) (s : s_S), K env' mm' s = true ∧ s_ek ρ' env' ∧ s_ag env.length ρ ρ' ∧ env.length ≤ env'.length ∧ s_mk env'.length ρ' hp mm' ∧ s_vs env'.length ρ' s v := by
  unfold s_ald at h
  cases hab : Nat.beq a b with
  | true =>
    rw [hab, cond_true] at h
    have hab := s_beq hab
    have : a = p := by omega
    subst this
    exact s_rd_ok h hE hM hc hx ht hD hd hk
  | false =>
    rw [hab, cond_false] at h
    obtain ⟨g, h4, h⟩ := s_ob_some h
    rw [Bool.and_eq_true] at h
    obtain ⟨h5, h⟩ := h
    have hlt : p < d.2.length := by rw [hk.2.1]; omega
    obtain ⟨q, h6, h7⟩ := hk.2.2 p _ (List.getElem?_eq_getElem hlt)
    have h8 := s_hl_al h5 h1 h2 h6 h7
    refine ⟨_, List.getElem?_eq_getElem hlt, ?_⟩
    cases hk2 : Nat.ble 10 g.1 with
    | true =>
      rw [hk2, cond_true] at h
      obtain ⟨env', ρ', s, h9, h10, h11, h12, h13⟩ := s_fr_ok h hE h8
      exact ⟨env', ρ', mm, s, h9, h10, h11, h12, s_mk_ag hM h11 h12, h13⟩
    | false =>
      rw [hk2, cond_false, Bool.and_eq_true] at h
      have hg := s_blt h.1
      have h := h.2
      obtain ⟨z, h9, h10⟩ := h8
      have h10 := h10 (by omega)
      cases hv : s_va i.2.1 with
      | none =>
        rw [hv] at h
        obtain ⟨env', ρ', s, h9', h10', h11, h12, h13⟩ := s_psh_out (K := fun env s => K env mm s) h hE (by omega) h9 h10.1 h10.2
        exact ⟨env', ρ', mm, s, h9', h10', h11, h12, s_mk_ag hM h11 h12, h13⟩
      | some jz =>
        rw [hv] at h
        obtain ⟨j, w⟩ := jz
        simp only [i_fZ_eq, i_fN_eq, q_app_eq] at h
        have h14 := s_va_ok (ρ := ρ) hv hix
        have hag : s_ag env.length ρ (fun k => if k = env.length then z else ρ k) := fun k hk => if_neg (Nat.ne_of_lt hk)
        have hle : env.length ≤ (env ++ [(1, g.2.1, g.2.2, t, j, w)]).length := by simp
        refine ⟨_, fun k => if k = env.length then z else ρ k, mm, _, h, ?_, hag, hle, s_mk_ag hM hag hle, s_vs_mk (show env.length < _ by simp) (by omega) ?_⟩
        · intro k r hr
          by_cases hk3 : k = env.length
          · subst hk3
            simp only [List.getElem?_concat_length, Option.some.injEq] at hr
            subst hr
            simp only [if_pos]
            refine ⟨h10.1, h10.2, fun _ => ⟨by simp; omega, D, q, p, hD, ?_, h6, ?_⟩⟩
            · show (if j = env.length then z else ρ j) + w = (p : Int)
              rw [if_neg (by omega)]
              omega
            · have hkk : q.1 = g.1 := by
                have := s_al_ok h5 h1 h2 h6
                unfold s_sub at this
                rw [Bool.and_eq_true] at this
                exact s_beq this.1
              obtain ⟨z', h15, h16⟩ := h7
              have : z' = z := by
                rw [hkk] at h15
                rcases Nat.lt_or_ge g.1 1 with hg0 | hg0
                · have hg0 : g.1 = 0 := by omega
                  rw [hg0] at h15 h9
                  obtain ⟨x1, e1, e2⟩ := s_vk_int h15
                  obtain ⟨x2, e3, e4⟩ := s_vk_int h9
                  rw [e1] at e3
                  cases e3
                  omega
                · have hg0 : g.1 = 1 := by omega
                  rw [hg0] at h15 h9
                  obtain ⟨x1, e1, e2⟩ := s_vk_long h15
                  obtain ⟨x2, e3, e4⟩ := s_vk_long h9
                  rw [e1] at e3
                  cases e3
                  omega
              rw [← this]
              exact h16 (by omega)
          · have hlt2 : k < env.length := by
              have := (List.getElem?_eq_some_iff.mp hr).1
              simp at this
              omega
            rw [List.getElem?_append_left hlt2] at hr
            have h17 := hE k r hr
            simp only [if_neg hk3]
            refine ⟨h17.1, h17.2.1, fun hf => ?_⟩
            obtain ⟨h18, D', q', p', h19, h20, h21⟩ := h17.2.2 hf
            refine ⟨by simp; omega, D', q', p', h19, ?_, h21⟩
            simp only [if_neg (Nat.ne_of_lt h18)]
            exact h20
        · show s_vk g.1 (if env.length = env.length then z else ρ env.length) _
          rw [if_pos rfl]
          exact h9
theorem s_pw_ok {A B : List s_G} : ∀ {n a b k : Nat}, s_pw A B a b n = true → k < n → ∃ q h, s_sg A (a + k) = some q ∧ s_sg B (b + k) = some h ∧ s_sub q h = true
  | 0, _, _, k, _, hk => absurd hk (Nat.not_lt_zero k)
  | n + 1, a, b, k, h, hk => by
    rw [s_pw, Bool.and_eq_true] at h
    cases k with
    | zero =>
      obtain ⟨q, h1, h2⟩ := s_ob_some h.1
      obtain ⟨g, h3, h4⟩ := s_ob_some h2
      exact ⟨q, g, h1, h3, h4⟩
    | succ k =>
      obtain ⟨q, g, h1, h2, h3⟩ := s_pw_ok h.2 (Nat.lt_of_succ_lt_succ hk)
      exact ⟨q, g, by rw [← h1]; congr 1; omega, by rw [← h2]; congr 1; omega, h3⟩
theorem s_dep_ok {ρ : Nat → Int} {env : List s_R} {D : s_D} {i s : s_S} {p : Nat} {v : Value} (h : s_dep env D i s = true) (hE : s_ek ρ env) (hix : s_xs env.length i.2.1) (hi : s_ev ρ i.2.1 = (p : Int)) (hv : s_vs env.length ρ s v) : ∃ q, s_sg D.2.2.1 p = some q ∧ s_inq q v := by
  obtain ⟨sk, ⟨sf, sj, sz, sq⟩, s'⟩ := s
  unfold s_dep at h
  split at h
  · rename_i f j hs
    simp only [Prod.mk.injEq] at hs
    obtain ⟨rfl, rfl, rfl, rfl⟩ := hs
    split at h
    · rename_i l1 h1 ts jd z hr
      rw [q_nth_eq] at hr
      have hj := hE _ _ hr
      obtain ⟨hj1, D', q, p', hD', hp', hq, hlo, hhi⟩ := hj.2.2 rfl
      simp only at hj1 hD' hp' hq hlo hhi
      split at h
      · rename_i ji zi hva
        rw [Bool.and_eq_true] at h
        obtain ⟨hjj, h⟩ := h
        have hjj := s_beq hjj
        subst hjj
        have h14 := s_va_ok (ρ := ρ) hva hix
        rw [hD'] at h
        simp only at h
        split at h
        · rename_i lo hi hrg
          have hb := s_rg_ok hE hrg
          split at h
          · rename_i A B hA hB
            simp only [Bool.and_eq_true] at h
            obtain ⟨⟨hk0, hkk⟩, hpw⟩ := h
            have hk0 := s_beq hk0
            have hA : lo + z = (A : Int) := hA
            have hB : lo + zi = (B : Int) := hB
            obtain ⟨q', g, e1, e2, e3⟩ := s_pw_ok (k := (ρ ji - lo).toNat) hpw (by omega)
            have ep : A + (ρ ji - lo).toNat = p' := by omega
            have ep2 : B + (ρ ji - lo).toNat = p := by omega
            rw [ep, hq] at e1
            cases e1
            rw [ep2] at e2
            have e4 : q.1 = 0 := s_beq (s_al_ok hkk (i := p') (by omega) (by omega) hq)
            refine ⟨g, e2, s_sub_ok e3 ⟨_, ?_, fun _ => ⟨hlo, hhi⟩⟩⟩
            have h9 := s_vs_k hv (by show sk ≠ 5; rw [show sk = 0 from hk0]; decide)
            have h9 : s_vk sk (ρ sj) v := h9
            rw [show sk = 0 from hk0] at h9
            rw [e4]
            exact h9
          · cases h
        · cases h
      · cases h
    · cases h
  · cases h
theorem s_ast_ok {ρ : Nat → Int} {env : List s_R} {mask : List Nat} {mm : List s_M} {t p a b c : Nat} {e : s_X} {i s : s_S} {K : List s_M → Bool} {hp : q_H} {D : s_D} {d : Nat × List Value} {v : Value} (h : s_ast mask env mm t D e i s a b K = true) (hE : s_ek ρ env) (hM : s_mk env.length ρ hp mm) (hH : s_hok hp) (hc : s_ev ρ e = (c : Int)) (hx : s_xs env.length e) (ht : s_ct[c]? = some t) (hD : s_td t = some D) (hd : hp[c]? = some d) (hk : s_cok D d) (hi : s_ev ρ i.2.1 = (p : Int)) (hix : s_xs env.length i.2.1) (h1 : a ≤ p) (h2 : p ≤ b) (h3 : b < D.2.1) (hv : s_vs env.length ρ s v) : ∃ mm', K mm' = true ∧ p < d.2.length ∧ s_hok (hp.set c (d.1, d.2.set p v)) ∧ s_fm mask hp (hp.set c (d.1, d.2.set p v)) ∧ s_mk env.length ρ (hp.set c (d.1, d.2.set p v)) mm' := by
  unfold s_ast at h
  cases hab : Nat.beq a b with
  | true =>
    rw [hab, cond_true] at h
    have hab := s_beq hab
    have : a = p := by omega
    subst this
    exact s_wr_ok h hE hM hH hc hx ht hD hd hk hv
  | false =>
    rw [hab, cond_false] at h
    simp only [Bool.and_eq_true, Bool.or_eq_true] at h
    obtain ⟨⟨h4, h5⟩, h6⟩ := h
    obtain ⟨mm', h7, h8⟩ := s_kl_ok h6
    have hlt : p < d.2.length := by rw [hk.2.1]; omega
    have hcl := (List.getElem?_eq_some_iff.mp hd).1
    have hq : ∃ q, s_sg D.2.2.1 p = some q ∧ s_inq q v := by
      rcases h5 with h5 | h5
      · obtain ⟨q, h9, -⟩ := hk.2.2 p _ (List.getElem?_eq_getElem hlt)
        exact ⟨q, h9, s_fit_ok (s_al_ok h5 h1 h2 h9) hE hv⟩
      · exact s_dep_ok h5 hE hix hi hv
    obtain ⟨q, h9, h10⟩ := hq
    refine ⟨mm', h7, hlt, s_hok_set hH ht hD hd hk (s_cok_set hk h9 h10), s_fm_set ht h4, ?_⟩
    intro w hw
    obtain ⟨h11, h12⟩ := h8 w hw
    refine s_mo_set (hM w h11) hd fun u h13 h14 => ?_
    rw [ht] at h13
    have h15 : w.2.2.1 ≠ p := by
      intro hwp
      rw [Option.some.inj h13, Nat.beq_refl, hwp, Nat.ble_eq_true_of_le h1, Nat.ble_eq_true_of_le h2] at h12
      cases h12
    rw [List.getElem?_set_ne (Ne.symm h15)]
    exact h14

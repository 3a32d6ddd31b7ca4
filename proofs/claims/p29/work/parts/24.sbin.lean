theorem s_i32_iff {a b : Int} : s_i32 a b = true ↔ -2147483648 ≤ a ∧ b ≤ 2147483647 := by
  unfold s_i32
  rw [Bool.and_eq_true, i_ble_iff, i_ble_iff]
theorem s_i64_iff {a b : Int} : s_i64 a b = true ↔ -9223372036854775808 ≤ a ∧ b ≤ 9223372036854775807 := by
  unfold s_i64
  rw [Bool.and_eq_true, i_ble_iff, i_ble_iff]
theorem s_b32 (x : Int32) : -2147483648 ≤ x.toInt ∧ x.toInt ≤ 2147483647 := by
  have h1 := Int32.le_toInt x
  have h2 := Int32.toInt_lt x
  omega
theorem s_b64 (x : Int64) : -9223372036854775808 ≤ x.toInt ∧ x.toInt ≤ 9223372036854775807 := by
  have h1 := Int64.le_toInt x
  have h2 := Int64.toInt_lt x
  omega
theorem q_bm64 {z : Int} (h0 : -9223372036854775808 ≤ z) (h1 : z ≤ 9223372036854775807) : Int.bmod z (2 ^ 64) = z := by
  rw [Int.bmod_def]
  split <;> omega
/-- a value of a kind below 2 lies in its bounds -/
theorem s_vk_b {kd : Nat} {z : Int} {v : Value} (hk : kd < 2) (h : s_vk kd z v) : (kd = 0 ∧ -2147483648 ≤ z ∧ z ≤ 2147483647) ∨ (kd = 1 ∧ -9223372036854775808 ≤ z ∧ z ≤ 9223372036854775807) := by
  match kd, hk with
  | 0, _ =>
    obtain ⟨x, -, rfl⟩ := s_vk_int h
    exact Or.inl ⟨rfl, s_b32 x⟩
  | 1, _ =>
    obtain ⟨x, -, rfl⟩ := s_vk_long h
    exact Or.inr ⟨rfl, s_b64 x⟩
theorem s_full_ok {ρ : Nat → Int} {env : List s_R} {kd : Nat} {K : List s_R → s_S → Bool} {z : Int} {r : Value} (h : s_full kd env K = true) (hE : s_ek ρ env) (hk : kd < 2) (hr : s_vk kd z r) : s_out ρ env K r := by
  rcases s_vk_b hk hr with ⟨rfl, h1, h2⟩ | ⟨rfl, h1, h2⟩
  · exact s_psh_out (kd := 0) h hE (by decide) hr h1 h2
  · exact s_psh_out (kd := 1) h hE (by decide) hr h1 h2
theorem s_psk_ok {ρ : Nat → Int} {env : List s_R} {kd : Nat} {a b : Int} {K : List s_R → s_S → Bool} {z : Int} {r : Value} (h : s_psk kd env a b K = true) (hE : s_ek ρ env) (hk : kd < 2) (hr : s_vk kd z r) (hz : s_fitk kd a b = true → a ≤ z ∧ z ≤ b) : s_out ρ env K r := by
  unfold s_psk at h
  cases hf : s_fitk kd a b with
  | true =>
    rw [hf, cond_true] at h
    have h1 := hz hf
    cases hab : i_beq a b with
    | true =>
      rw [hab, cond_true, i_fZ_eq] at h
      rw [i_beq_iff] at hab
      have : z = a := by omega
      subst this
      exact ⟨env, ρ, _, h, hE, s_ag.rfl', Nat.le_refl _, s_vs_mk trivial (by omega) hr⟩
    | false =>
      rw [hab, cond_false] at h
      exact s_psh_out h hE (by omega) hr h1.1 h1.2
  | false =>
    rw [hf, cond_false] at h
    exact s_full_ok (kd := kd) h hE hk hr
theorem s_va_ok {ρ : Nat → Int} {n : Nat} {x : s_X} {j : Nat} {z : Int} (h : s_va x = some (j, z)) (hx : s_xs n x) : s_ev ρ x = ρ j + z ∧ j < n := by
  obtain ⟨f, i, w, k⟩ := x
  match f, h, hx with
  | 1, h, hx =>
    simp only [s_va, Option.some.injEq, Prod.mk.injEq] at h
    obtain ⟨rfl, rfl⟩ := h
    exact ⟨(Int.add_zero _).symm, hx⟩
  | 2, h, hx =>
    simp only [s_va, Option.some.injEq, Prod.mk.injEq] at h
    obtain ⟨rfl, rfl⟩ := h
    exact ⟨rfl, hx⟩
  | 0, h, _ => simp [s_va] at h
  | f + 3, h, _ => simp [s_va] at h
theorem s_mkva_ok {ρ : Nat → Int} {n j : Nat} {z : Int} (hj : j < n) : s_ev ρ (s_mkva j z) = ρ j + z ∧ s_xs n (s_mkva j z) := by
  unfold s_mkva
  cases h : i_beq z 0 with
  | true =>
    rw [i_beq_iff] at h
    subst h
    exact ⟨(Int.add_zero _).symm, hj⟩
  | false => exact ⟨rfl, hj⟩
theorem s_adc_ok {ρ : Nat → Int} {env : List s_R} {kd : Nat} {x : s_X} {a b z w : Int} {K : List s_R → s_S → Bool} {r : Value} (h : s_adc kd env x a b z K = true) (hE : s_ek ρ env) (hk : kd < 2) (hx : s_xs env.length x) (h1 : a ≤ s_ev ρ x) (h2 : s_ev ρ x ≤ b) (hr : s_vk kd w r) (hw : s_fitk kd (a + z) (b + z) = true → w = s_ev ρ x + z) : s_out ρ env K r := by
  unfold s_adc at h
  cases hv : s_va x with
  | none =>
    rw [hv] at h
    exact s_psk_ok h hE hk hr fun hf => by have := hw hf; omega
  | some p =>
    rw [hv] at h
    obtain ⟨j, y⟩ := p
    simp only at h
    cases hf : s_fitk kd (a + z) (b + z) with
    | false =>
      rw [hf, cond_false] at h
      exact s_psk_ok h hE hk hr fun hf2 => by rw [hf] at hf2; cases hf2
    | true =>
      rw [hf, cond_true, i_fZ_eq] at h
      have h3 := s_va_ok (ρ := ρ) hv hx
      have h4 := s_mkva_ok (ρ := ρ) (z := y + z) h3.2
      refine ⟨env, ρ, _, h, hE, s_ag.rfl', Nat.le_refl _, s_vs_mk h4.2 (by omega) ?_⟩
      rw [h4.1]
      have : ρ j + (y + z) = w := by have := hw hf; omega
      rw [this]
      exact hr
theorem s_fitk_iff {kd : Nat} {a b : Int} (hk : kd < 2) : s_fitk kd a b = true ↔ (kd = 0 ∧ -2147483648 ≤ a ∧ b ≤ 2147483647) ∨ (kd = 1 ∧ -9223372036854775808 ≤ a ∧ b ≤ 9223372036854775807) := by
  match kd, hk with
  | 0, _ => rw [show s_fitk 0 a b = s_i32 a b from rfl, s_i32_iff]; simp
  | 1, _ => rw [show s_fitk 1 a b = s_i64 a b from rfl, s_i64_iff]; simp
/-- what an operation on two values of a kind answers: w of their numbers, where that does not pass the bounds -/
def s_two (v kd : Nat) (f : Int → Int → Int) (a b : Value) : Prop := ∀ x y, s_vk kd x a → s_vk kd y b → ∃ r w, q_bin v a b = some r ∧ s_vk kd w r ∧ (s_fitk kd (f x y) (f x y) = true → w = f x y)
theorem s_two0 {v : Nat} {f : Int → Int → Int} {a b : Value} (g : Int32 → Int32 → Int32) (h1 : ∀ x y, q_bin v (.int x) (.int y) = some (.int (g x y))) (h2 : ∀ x y : Int32, -2147483648 ≤ f x.toInt y.toInt → f x.toInt y.toInt ≤ 2147483647 → (g x y).toInt = f x.toInt y.toInt) : s_two v 0 f a b := by
  intro x y hx hy
  obtain ⟨x, rfl, rfl⟩ := s_vk_int hx
  obtain ⟨y, rfl, rfl⟩ := s_vk_int hy
  refine ⟨_, _, h1 x y, ⟨rfl, rfl⟩, fun hf => ?_⟩
  rw [show s_fitk 0 _ _ = s_i32 _ _ from rfl, s_i32_iff] at hf
  exact h2 x y hf.1 hf.2
theorem s_two1 {v : Nat} {f : Int → Int → Int} {a b : Value} (g : Int64 → Int64 → Int64) (h1 : ∀ x y, q_bin v (.long x) (.long y) = some (.long (g x y))) (h2 : ∀ x y : Int64, -9223372036854775808 ≤ f x.toInt y.toInt → f x.toInt y.toInt ≤ 9223372036854775807 → (g x y).toInt = f x.toInt y.toInt) : s_two v 1 f a b := by
  intro x y hx hy
  obtain ⟨x, rfl, rfl⟩ := s_vk_long hx
  obtain ⟨y, rfl, rfl⟩ := s_vk_long hy
  refine ⟨_, _, h1 x y, ⟨rfl, rfl⟩, fun hf => ?_⟩
  rw [show s_fitk 1 _ _ = s_i64 _ _ from rfl, s_i64_iff] at hf
  exact h2 x y hf.1 hf.2
theorem s_fitk_mono {kd : Nat} {a b z : Int} (hk : kd < 2) (h : s_fitk kd a b = true) (h1 : a ≤ z) (h2 : z ≤ b) : s_fitk kd z z = true := by
  rw [s_fitk_iff hk] at h ⊢
  omega
theorem s_add_ok {ρ : Nat → Int} {env : List s_R} {v kd : Nat} {x y : s_X} {K : List s_R → s_S → Bool} {a b : Value} (h : s_add kd env x y K = true) (hE : s_ek ρ env) (hk : kd < 2) (ha : s_vk kd (s_ev ρ x) a) (hb : s_vk kd (s_ev ρ y) b) (h2 : s_two v kd (fun p q => p + q) a b) : ∃ r, q_bin v a b = some r ∧ s_out ρ env K r := by
  obtain ⟨r, w, h3, h4, h5⟩ := h2 _ _ ha hb
  have h5 : s_fitk kd (s_ev ρ x + s_ev ρ y) (s_ev ρ x + s_ev ρ y) = true → w = s_ev ρ x + s_ev ρ y := h5
  refine ⟨r, h3, ?_⟩
  obtain ⟨p, p', e1, h⟩ := s_xk_some h
  obtain ⟨q, q', e2, h⟩ := s_xk_some h
  have e3 := s_xi_ok hE e1
  have e4 := s_xi_ok hE e2
  cases c1 : i_beq q q' with
  | true =>
    rw [c1, cond_true] at h
    rw [i_beq_iff] at c1
    have e5 : s_ev ρ y = q := by omega
    exact s_adc_ok h hE hk e3.2.2 e3.1 e3.2.1 h4 fun hf => by
      have := h5 (s_fitk_mono hk hf (by omega) (by omega))
      omega
  | false =>
    rw [c1, cond_false] at h
    cases c2 : i_beq p p' with
    | true =>
      rw [c2, cond_true] at h
      rw [i_beq_iff] at c2
      have e5 : s_ev ρ x = p := by omega
      exact s_adc_ok h hE hk e4.2.2 e4.1 e4.2.1 h4 fun hf => by
        have := h5 (s_fitk_mono hk hf (by omega) (by omega))
        omega
    | false =>
      rw [c2, cond_false] at h
      exact s_psk_ok h hE hk h4 fun hf => by
        have := h5 (s_fitk_mono hk hf (by omega) (by omega))
        omega
theorem s_sbt_ok {ρ : Nat → Int} {env : List s_R} {v kd : Nat} {x y : s_X} {K : List s_R → s_S → Bool} {a b : Value} (h : s_sbt kd env x y K = true) (hE : s_ek ρ env) (hk : kd < 2) (ha : s_vk kd (s_ev ρ x) a) (hb : s_vk kd (s_ev ρ y) b) (h2 : s_two v kd (fun p q => p - q) a b) : ∃ r, q_bin v a b = some r ∧ s_out ρ env K r := by
  obtain ⟨r, w, h3, h4, h5⟩ := h2 _ _ ha hb
  have h5 : s_fitk kd (s_ev ρ x - s_ev ρ y) (s_ev ρ x - s_ev ρ y) = true → w = s_ev ρ x - s_ev ρ y := h5
  refine ⟨r, h3, ?_⟩
  obtain ⟨p, p', e1, h⟩ := s_xk_some h
  obtain ⟨q, q', e2, h⟩ := s_xk_some h
  have e3 := s_xi_ok hE e1
  have e4 := s_xi_ok hE e2
  cases c1 : i_beq q q' with
  | true =>
    rw [c1, cond_true] at h
    rw [i_beq_iff] at c1
    have e5 : s_ev ρ y = q := by omega
    exact s_adc_ok h hE hk e3.2.2 e3.1 e3.2.1 h4 fun hf => by
      have := h5 (s_fitk_mono hk hf (by omega) (by omega))
      omega
  | false =>
    rw [c1, cond_false] at h
    obtain ⟨f, j, z, k⟩ := x
    obtain ⟨f', j', z', k'⟩ := y
    unfold s_sbd at h
    simp only at h
    cases c2 : (Nat.beq f 1 && Nat.beq f' 1 && s_fitk kd (p - q') (p' - q)) with
    | true =>
      rw [c2, cond_true] at h
      simp only [Bool.and_eq_true] at c2
      have h9 : K env (kd, (3, j, 0, j'), s_x0) = true := h
      clear h
      have f1 := s_beq c2.1.1
      have f2 := s_beq c2.1.2
      subst f1 f2
      have e5 : w = ρ j - ρ j' := h5 (s_fitk_mono hk c2.2 (Int.sub_le_sub e3.1 e4.2.1) (Int.sub_le_sub e3.2.1 e4.1))
      refine ⟨env, ρ, _, h9, hE, s_ag.rfl', Nat.le_refl _, s_vs_mk (show s_xs env.length (3, j, 0, j') from ⟨e3.2.2, e4.2.2⟩) (by omega) ?_⟩
      show s_vk kd (ρ j - ρ j') r
      rw [← e5]
      exact h4
    | false =>
      rw [c2, cond_false] at h
      exact s_psk_ok h hE hk h4 fun hf => by
        have := h5 (s_fitk_mono hk hf (by omega) (by omega))
        omega
theorem s_cc_ok {ρ : Nat → Int} {env : List s_R} {v kd : Nat} {a c : Int} {K : List s_R → s_S → Bool} {u w : Value} (h : s_cc v kd env a c K = true) (hE : s_ek ρ env) (hk : kd < 2) (hu : s_vk kd a u) (hw : s_vk kd c w) : ∃ r, q_bin v u w = some r ∧ s_out ρ env K r := by
  unfold s_cc at h
  cases hi : i_bin v (kd, a, a) (kd, c, c) with
  | none => rw [hi] at h; cases h
  | some j =>
    rw [hi] at h
    obtain ⟨t, r, r'⟩ := j
    simp only [Bool.and_eq_true, i_fZ_eq] at h
    obtain ⟨⟨h1, h2⟩, h3⟩ := h
    have h1 := s_beq h1
    rw [i_beq_iff] at h2
    subst h1 h2
    have key : ∀ (z : Int) (x : Value), s_vk t z x → r_v x (t, z, z) := by
      intro z x hx
      match t, hk with
      | 0, _ =>
        obtain ⟨y, rfl, rfl⟩ := s_vk_int hx
        exact ⟨rfl, Int.le_refl _, Int.le_refl _⟩
      | 1, _ =>
        obtain ⟨y, rfl, rfl⟩ := s_vk_long hx
        exact ⟨rfl, Int.le_refl _, Int.le_refl _⟩
    obtain ⟨z, h4, h5⟩ := r_bin hi (key _ _ hu) (key _ _ hw)
    refine ⟨z, h4, env, ρ, _, h3, hE, s_ag.rfl', Nat.le_refl _, s_vs_mk trivial (by omega) ?_⟩
    show s_vk t r z
    cases z with
    | int y => have h5 : t = 0 ∧ r ≤ y.toInt ∧ y.toInt ≤ r := h5; exact ⟨h5.1, by omega⟩
    | long y => have h5 : t = 1 ∧ r ≤ y.toInt ∧ y.toInt ≤ r := h5; exact ⟨h5.1, by omega⟩
    | ref y => have h5 : t = 2 ∧ r = (y : Int) := h5; omega
    | float y => have h5 : t = 4 := h5; omega
    | null => have h5 : t = 3 := h5; omega
    | _ => exact h5.elim
theorem s_mul4 {a b c d x y : Int} (h1 : a ≤ x) (h2 : x ≤ b) (h3 : c ≤ y) (h4 : y ≤ d) : s_mn4 (a * c) (a * d) (b * c) (b * d) ≤ x * y ∧ x * y ≤ s_mx4 (a * c) (a * d) (b * c) (b * d) := by
  have e1 : s_mn4 (a * c) (a * d) (b * c) (b * d) ≤ a * c ∧ s_mn4 (a * c) (a * d) (b * c) (b * d) ≤ a * d ∧ s_mn4 (a * c) (a * d) (b * c) (b * d) ≤ b * c ∧ s_mn4 (a * c) (a * d) (b * c) (b * d) ≤ b * d :=
    ⟨Int.le_trans s_mn_l s_mn_l, Int.le_trans s_mn_l s_mn_r, Int.le_trans s_mn_r s_mn_l, Int.le_trans s_mn_r s_mn_r⟩
  have e2 : a * c ≤ s_mx4 (a * c) (a * d) (b * c) (b * d) ∧ a * d ≤ s_mx4 (a * c) (a * d) (b * c) (b * d) ∧ b * c ≤ s_mx4 (a * c) (a * d) (b * c) (b * d) ∧ b * d ≤ s_mx4 (a * c) (a * d) (b * c) (b * d) :=
    ⟨Int.le_trans s_mx_l s_mx_l, Int.le_trans s_mx_r s_mx_l, Int.le_trans s_mx_l s_mx_r, Int.le_trans s_mx_r s_mx_r⟩
  by_cases hy : 0 ≤ y
  · have m1 : a * y ≤ x * y := Int.mul_le_mul_of_nonneg_right h1 hy
    have m2 : x * y ≤ b * y := Int.mul_le_mul_of_nonneg_right h2 hy
    have n1 : (a * c ≤ a * y ∨ a * d ≤ a * y) := by
      by_cases ha : 0 ≤ a
      · exact Or.inl (Int.mul_le_mul_of_nonneg_left h3 ha)
      · exact Or.inr (Int.mul_le_mul_of_nonpos_left (by omega) h4)
    have n2 : (b * y ≤ b * d ∨ b * y ≤ b * c) := by
      by_cases hb : 0 ≤ b
      · exact Or.inl (Int.mul_le_mul_of_nonneg_left h4 hb)
      · exact Or.inr (Int.mul_le_mul_of_nonpos_left (by omega) h3)
    rcases n1 with n1 | n1 <;> rcases n2 with n2 | n2 <;> omega
  · have m1 : b * y ≤ x * y := Int.mul_le_mul_of_nonpos_right h2 (by omega)
    have m2 : x * y ≤ a * y := Int.mul_le_mul_of_nonpos_right h1 (by omega)
    have n1 : (b * c ≤ b * y ∨ b * d ≤ b * y) := by
      by_cases ha : 0 ≤ b
      · exact Or.inl (Int.mul_le_mul_of_nonneg_left h3 ha)
      · exact Or.inr (Int.mul_le_mul_of_nonpos_left (by omega) h4)
    have n2 : (a * y ≤ a * d ∨ a * y ≤ a * c) := by
      by_cases hb : 0 ≤ a
      · exact Or.inl (Int.mul_le_mul_of_nonneg_left h4 hb)
      · exact Or.inr (Int.mul_le_mul_of_nonpos_left (by omega) h3)
    rcases n1 with n1 | n1 <;> rcases n2 with n2 | n2 <;> omega
theorem s_mul_ok {ρ : Nat → Int} {env : List s_R} {v kd : Nat} {x y : s_X} {K : List s_R → s_S → Bool} {a b : Value} (h : s_mul v kd env x y K = true) (hE : s_ek ρ env) (hk : kd < 2) (ha : s_vk kd (s_ev ρ x) a) (hb : s_vk kd (s_ev ρ y) b) (h2 : s_two v kd (fun p q => p * q) a b) : ∃ r, q_bin v a b = some r ∧ s_out ρ env K r := by
  obtain ⟨p, p', e1, h⟩ := s_xk_some h
  obtain ⟨q, q', e2, h⟩ := s_xk_some h
  have e3 := s_xi_ok hE e1
  have e4 := s_xi_ok hE e2
  cases c1 : (i_beq p p' && i_beq q q') with
  | true =>
    rw [c1, cond_true] at h
    rw [Bool.and_eq_true, i_beq_iff, i_beq_iff] at c1
    rw [show s_ev ρ x = p by omega] at ha
    rw [show s_ev ρ y = q by omega] at hb
    exact s_cc_ok h hE hk ha hb
  | false =>
    rw [c1, cond_false] at h
    obtain ⟨r, w, h3, h4, h5⟩ := h2 _ _ ha hb
    refine ⟨r, h3, s_psk_ok h hE hk h4 fun hf => ?_⟩
    have h6 := s_mul4 e3.1 e3.2.1 e4.1 e4.2.1
    have h7 : w = s_ev ρ x * s_ev ρ y := h5 (s_fitk_mono hk hf h6.1 h6.2)
    rw [h7]
    exact h6
theorem s_nz_ok {c d z : Int} (h : s_nz c d = true) (h1 : c ≤ z) (h2 : z ≤ d) : z ≠ 0 := by
  unfold s_nz at h
  rw [Bool.or_eq_true, i_blt_iff, i_blt_iff] at h
  omega
/-- an operation that answers something of the kind, if the second is not 0 -/
def s_def (v kd : Nat) (a b : Value) : Prop := ∀ x y, s_vk kd x a → s_vk kd y b → y ≠ 0 → ∃ r w, q_bin v a b = some r ∧ s_vk kd w r
theorem s_div_ok {ρ : Nat → Int} {env : List s_R} {v kd : Nat} {x y : s_X} {K : List s_R → s_S → Bool} {a b : Value} (h : s_div v kd env x y K = true) (hE : s_ek ρ env) (hk : kd < 2) (ha : s_vk kd (s_ev ρ x) a) (hb : s_vk kd (s_ev ρ y) b) (h2 : s_def v kd a b) : ∃ r, q_bin v a b = some r ∧ s_out ρ env K r := by
  obtain ⟨p, p', e1, h⟩ := s_xk_some h
  obtain ⟨q, q', e2, h⟩ := s_xk_some h
  have e3 := s_xi_ok hE e1
  have e4 := s_xi_ok hE e2
  rw [Bool.and_eq_true] at h
  obtain ⟨hz, h⟩ := h
  cases c1 : (i_beq p p' && i_beq q q') with
  | true =>
    rw [c1, cond_true] at h
    rw [Bool.and_eq_true, i_beq_iff, i_beq_iff] at c1
    rw [show s_ev ρ x = p by omega] at ha
    rw [show s_ev ρ y = q by omega] at hb
    exact s_cc_ok h hE hk ha hb
  | false =>
    rw [c1, cond_false] at h
    obtain ⟨r, w, h3, h4⟩ := h2 _ _ ha hb (s_nz_ok hz e4.1 e4.2.1)
    exact ⟨r, h3, s_full_ok h hE hk h4⟩
/-- the rest of a division by what is above 0 -/
def s_remd (v kd : Nat) (a b : Value) : Prop := ∀ x y, s_vk kd x a → s_vk kd y b → 0 < y → ∃ r w, q_bin v a b = some r ∧ s_vk kd w r ∧ -y < w ∧ w < y ∧ (0 ≤ x → 0 ≤ w ∧ w ≤ x)
theorem s_rem_ok {ρ : Nat → Int} {env : List s_R} {v kd : Nat} {x y : s_X} {K : List s_R → s_S → Bool} {a b : Value} (h : s_rem v kd env x y K = true) (hE : s_ek ρ env) (hk : kd < 2) (ha : s_vk kd (s_ev ρ x) a) (hb : s_vk kd (s_ev ρ y) b) (h2 : s_def v kd a b) (h2' : s_remd v kd a b) : ∃ r, q_bin v a b = some r ∧ s_out ρ env K r := by
  obtain ⟨p, p', e1, h⟩ := s_xk_some h
  obtain ⟨q, q', e2, h⟩ := s_xk_some h
  have e3 := s_xi_ok hE e1
  have e4 := s_xi_ok hE e2
  rw [Bool.and_eq_true] at h
  obtain ⟨hz, h⟩ := h
  cases c1 : (i_beq p p' && i_beq q q') with
  | true =>
    rw [c1, cond_true] at h
    rw [Bool.and_eq_true, i_beq_iff, i_beq_iff] at c1
    rw [show s_ev ρ x = p by omega] at ha
    rw [show s_ev ρ y = q by omega] at hb
    exact s_cc_ok h hE hk ha hb
  | false =>
    rw [c1, cond_false] at h
    cases c2 : i_blt 0 q with
    | false =>
      rw [c2, cond_false] at h
      obtain ⟨r, w, h3, h4⟩ := h2 _ _ ha hb (s_nz_ok hz e4.1 e4.2.1)
      exact ⟨r, h3, s_full_ok h hE hk h4⟩
    | true =>
      rw [c2, cond_true] at h
      rw [i_blt_iff] at c2
      obtain ⟨r, w, h3, h4, h5, h6, h7⟩ := h2' _ _ ha hb (by omega)
      refine ⟨r, h3, ?_⟩
      cases c3 : i_ble 0 p with
      | true =>
        rw [c3, cond_true] at h
        rw [i_ble_iff] at c3
        have h8 := h7 (by omega)
        exact s_psk_ok h hE hk h4 fun _ => ⟨h8.1, s_mn_ok (by omega) (by omega)⟩
      | false =>
        rw [c3, cond_false] at h
        exact s_psk_ok h hE hk h4 fun _ => by omega
theorem s_oth_ok {ρ : Nat → Int} {env : List s_R} {v kd : Nat} {x y : s_X} {K : List s_R → s_S → Bool} {a b : Value} (h : s_oth v kd env x y K = true) (hE : s_ek ρ env) (hk : kd < 2) (ha : s_vk kd (s_ev ρ x) a) (hb : s_vk kd (s_ev ρ y) b) (h2 : ∃ r w, q_bin v a b = some r ∧ s_vk kd w r) : ∃ r, q_bin v a b = some r ∧ s_out ρ env K r := by
  obtain ⟨p, p', e1, h⟩ := s_xk_some h
  obtain ⟨q, q', e2, h⟩ := s_xk_some h
  have e3 := s_xi_ok hE e1
  have e4 := s_xi_ok hE e2
  cases c1 : (i_beq p p' && i_beq q q') with
  | true =>
    rw [c1, cond_true] at h
    rw [Bool.and_eq_true, i_beq_iff, i_beq_iff] at c1
    rw [show s_ev ρ x = p by omega] at ha
    rw [show s_ev ρ y = q by omega] at hb
    exact s_cc_ok h hE hk ha hb
  | false =>
    rw [c1, cond_false] at h
    obtain ⟨r, w, h3, h4⟩ := h2
    exact ⟨r, h3, s_full_ok h hE hk h4⟩
theorem s_o0 {v : Nat} {x y : Int} {a b : Value} (ha : s_vk 0 x a) (hb : s_vk 0 y b) (g : Int32 → Int32 → Int32) (h : ∀ x y, q_bin v (.int x) (.int y) = some (.int (g x y))) : ∃ r w, q_bin v a b = some r ∧ s_vk 0 w r := by
  obtain ⟨x, rfl, rfl⟩ := s_vk_int ha
  obtain ⟨y, rfl, rfl⟩ := s_vk_int hb
  exact ⟨_, _, h x y, rfl, rfl⟩
theorem s_o1 {v : Nat} {x y : Int} {a b : Value} (ha : s_vk 1 x a) (hb : s_vk 1 y b) (g : Int64 → Int64 → Int64) (h : ∀ x y, q_bin v (.long x) (.long y) = some (.long (g x y))) : ∃ r w, q_bin v a b = some r ∧ s_vk 1 w r := by
  obtain ⟨x, rfl, rfl⟩ := s_vk_long ha
  obtain ⟨y, rfl, rfl⟩ := s_vk_long hb
  exact ⟨_, _, h x y, rfl, rfl⟩

/-! THE DRAW, the DRIFT -/
theorem a_and31 {y : Int} (h0 : -2147483648 ≤ y) (h1 : y ≤ 2147483647) : a_and y 2147483647 = y % 2147483648 := by
  unfold a_and
  have e := pk_and (Int32.ofInt y) (m := Int32.ofInt 2147483647) 31 (by decide)
  rw [e]
  have h2 : (Int32.ofInt y).toInt = y := by rw [Int32.toInt_ofInt]; exact q_bm h0 h1
  have h3 : (Int32.ofInt y).toInt = if 2 * (Int32.ofInt y).toBitVec.toNat < 2 ^ 32 then ((Int32.ofInt y).toBitVec.toNat : Int) else ((Int32.ofInt y).toBitVec.toNat : Int) - ((2 ^ 32 : Nat) : Int) := BitVec.toInt_eq_toNat_cond _
  rw [h2] at h3
  generalize (Int32.ofInt y).toBitVec.toNat = N at h3
  rw [nI_toInt (Nat.mod_lt _ (by decide))]
  split at h3 <;> omega
theorem a_w_q (x : Int) : ∃ q : Int, a_w x = x + 4294967296 * q := by
  unfold a_w Int.bmod
  by_cases c : x % ((4294967296 : Nat) : Int) < (((4294967296 : Nat) : Int) + 1) / 2
  · refine ⟨-(x / 4294967296), ?_⟩
    simp only [if_pos c]
    omega
  · refine ⟨-(x / 4294967296) - 1, ?_⟩
    simp only [if_neg c]
    omega
theorem a_lrm_id {x y : Int} (h0 : 0 ≤ x) (h1 : x ≤ 9223372036854775807) (h2 : 0 < y) : a_lrm x y = x % y := by
  unfold a_lrm
  rw [Int.tdiv_eq_ediv_of_nonneg h0]
  have h3 := Int.ediv_nonneg h0 (Int.le_of_lt h2)
  have h4 := Int.ediv_le_self y h0
  have h5 := Int.emod_def x y
  have h6 := Int.emod_nonneg x (Int.ne_of_gt h2)
  have h7 := Int.emod_lt_of_pos x h2
  have e : x / y * y = y * (x / y) := Int.mul_comm _ _
  have h8 : 0 ≤ y * (x / y) := Int.mul_nonneg (Int.le_of_lt h2) h3
  rw [a_wl_id (x := x / y) (by omega) (by omega), e, a_wl_id (x := y * (x / y)) (by omega) (by omega), a_wl_id (by omega) (by omega)]
  exact h5.symm
/-- the next DRAW -/
def a_dw (d : Int) : Int := (d * 1103515245 + 12345) % 2147483648
theorem a_dw_b (d : Int) : 0 ≤ a_dw d ∧ a_dw d ≤ 2147483647 := by unfold a_dw; omega
theorem a_dw_c (d : Int) : a_and (a_w (a_w (d * 1103515245) + 12345)) 2147483647 = a_dw d := by
  have b := a_w_b (a_w (d * 1103515245) + 12345)
  rw [a_and31 b.1 b.2]
  obtain ⟨q, hq⟩ := a_w_q (d * 1103515245)
  obtain ⟨r, hr⟩ := a_w_q (a_w (d * 1103515245) + 12345)
  rw [hr, hq]
  unfold a_dw
  omega
theorem a_dw_m {d : Int} (h0 : 0 ≤ d) (h1 : d ≤ 2147483647) : a_w (a_lrm (a_wl (a_wl (d * 1103515245) + 12345)) 2147483648) = a_dw d := by
  rw [a_wl_id (x := d * 1103515245) (by omega) (by omega), a_wl_id (by omega) (by omega), a_lrm_id (by omega) (by omega) (by decide)]
  exact a_w_id (by omega) (by omega)
noncomputable def a_ds (G : a_P) : a_P := if 0 < G 134 0 then a_up (a_up G 134 6 (a_dw (G 134 6))) 134 (23 + a_dw (G 134 6) / 65536 % G 134 0) (a_dw (G 134 6) / 128 % 5) else a_up G 134 6 (a_dw (G 134 6))
theorem a_draw2 {H G : a_P} (h : a_R2 H G) : a_R2 (fn_31 1 H) (a_ds G) ∧ a_ds G 134 5 = G 134 5 := by
  have o := h.1.2
  have b0 := o.1
  have e5 : H 1 5 = G 134 6 := h.1.1.2.2.2.2.2.1
  have e6 : H 1 6 = G 134 0 := h.1.1.2.2.2.2.2.2.1
  have bd := a_dw_b (G 134 6)
  have r1 : a_R2 (a_up H 1 5 (a_dw (G 134 6))) (a_up G 134 6 (a_dw (G 134 6))) := by
    refine a_R2_now h ⟨?_, ?_⟩ (fun a b q => a_up_ne (by omega)) (fun a b q => a_up_ne (by omega))
    · rw [a_up_row]
      exact a_sm_f (f := 5) h.1.1 (by omega) (by omega)
    · rw [a_up_row]
      refine a_ok_f o (fun b q => r_up_ne (by omega)) (r_up_ne (by omega)) (by rw [r_up_ne (by omega)]; exact o.2.1) (by rw [r_up_ne (by omega)]; exact o.2.2.1) (by rw [r_up_ne (by omega)]; exact o.2.2.2.1) (by rw [r_up_ne (by omega)]; exact o.2.2.2.2.1) (by rw [r_up_ne (by omega)]; exact o.2.2.2.2.2.1) (by rw [r_up_eq]; exact bd)
  have x5 : a_up H 1 5 (a_dw (G 134 6)) 1 5 = a_dw (G 134 6) := a_up_eq
  have x6 : a_up H 1 5 (a_dw (G 134 6)) 1 6 = G 134 0 := by rw [a_up_ne (by omega), e6]
  have y0 : a_up G 134 6 (a_dw (G 134 6)) 134 0 = G 134 0 := a_up_ne (by omega)
  have hc : fn_31 1 H = if 0 < G 134 0 then (if fn_12 1 (a_rem (a_div (a_dw (G 134 6)) 65536) (G 134 0)) (a_up H 1 5 (a_dw (G 134 6))) = 0 then a_up H 1 5 (a_dw (G 134 6)) else a_up (a_up H 1 5 (a_dw (G 134 6))) (1 + 3) (a_rem (a_div (a_dw (G 134 6)) 65536) (G 134 0)) (a_rem (a_div (a_dw (G 134 6)) 128) 5)) else a_up H 1 5 (a_dw (G 134 6)) := by
    simp only [fn_31, a_jn, a_bd, e5, a_dw_c, x5, x6]
  unfold a_ds
  by_cases c : 0 < G 134 0
  · rw [hc, if_pos c, if_pos c]
    generalize a_dw (G 134 6) = d at *
    have q1 : a_div d 65536 = d / 65536 := a_div_id bd.1 bd.2 (by decide)
    have q2 : a_div d 128 = d / 128 := a_div_id bd.1 bd.2 (by decide)
    have q3 : a_rem (d / 65536) (G 134 0) = d / 65536 % G 134 0 := a_rem_id (by omega) (by omega) c
    have q4 : a_rem (d / 128) 5 = d / 128 % 5 := a_rem_id (by omega) (by omega) (by decide)
    rw [q1, q2, q3, q4]
    have k0 := Int.emod_nonneg (d / 65536) (Int.ne_of_gt c)
    have k1 := Int.emod_lt_of_pos (d / 65536) c
    generalize d / 65536 % G 134 0 = k at k0 k1
    have v0 : 0 ≤ d / 128 % 5 ∧ d / 128 % 5 ≤ 4 := by omega
    generalize d / 128 % 5 = v at v0
    have z : ¬ fn_12 1 k (a_up H 1 5 d) = 0 := by
      rw [fe_12h r1.1, y0]
      exact fun q => q ⟨k0, k1⟩
    rw [if_neg z]
    have o1 := r1.1.2
    refine ⟨a_R2_now r1 ⟨?_, ?_⟩ (fun a b q => a_up_ne (by omega)) (fun a b q => a_up_ne (by omega)), by rw [a_up_ne (by omega), a_up_ne (by omega)]⟩
    · rw [a_up_row]
      have := a_sm_a (j := 3) (k := k) (v := v) r1.1.1 o1.1.2 (by omega) (by omega) k0 (by omega)
      rw [show (8 : Int) * 3 - 1 + k = 23 + k by omega] at this
      exact this
    · rw [a_up_row]
      refine a_ok_a o1 (fun b q => r_up_ne (by omega)) (fun q => ?_) (fun i w0 w1 => ?_)
      · rcases o1.2.2.2.1 with r | ⟨u1, u2, u3⟩
        · exact absurd r q
        · rw [r_up_ne (by omega)]
          exact u3
      · obtain ⟨s1, s2, s3, s4, s5⟩ := o1.2.2.2.2.2.2.2 i w0 w1
        rw [y0] at w1
        rw [r_up_ne (b := 7 + i) (by omega), r_up_ne (b := 15 + i) (by omega), r_up_ne (b := 31 + i) (by omega), r_up_ne (b := 39 + i) (by omega)]
        refine ⟨s1, s2, ?_, s4, s5⟩
        by_cases ci : i = k
        · rw [ci, r_up_eq]
          exact v0
        · rw [r_up_ne (by omega)]
          exact s3
  · rw [hc, if_neg c, if_neg c]
    exact ⟨r1, a_up_ne (by omega)⟩
theorem r2_drift (a1 : Int) {H G : a_P} (h : a_R2 H G) : a_Q2R (fn_68 a1 H) (fn_150 a1 G) := by
  have e5 : H 1 4 = G 134 5 := h.1.1.2.2.2.2.1
  have b5 := h.1.2.2.2.2.2.2.1
  simp only [fn_68, fn_150, a_jn, a_bd, fe_108z, e5]
  by_cases c1 : a1 < 1
  · rw [if_pos c1, if_pos (by omega)]
    exact ⟨h, rfl⟩
  rw [if_neg c1]
  by_cases c2 : 40 < a1
  · rw [if_pos c2, if_pos (by omega)]
    exact ⟨h, rfl⟩
  have c3 : ¬ ¬ (1 ≤ a1 ∧ a1 ≤ 40) := fun q => q ⟨by omega, by omega⟩
  rw [if_neg c2, if_neg c3, a_w_id (by omega) (by omega)]
  by_cases c4 : 9999 < G 134 5 + a1
  · rw [if_pos c4, if_pos c4]
    exact ⟨h, rfl⟩
  rw [if_neg c4, if_neg c4]
  refine a_lp2 (Q := a_Q2R) (fun k s t => s.1 = (k : Int) ∧ t.1 = (k : Int) ∧ a_R2 s.2 t.2 ∧ t.2 134 5 = G 134 5 + (k : Int)) a1.toNat (by omega) (fun k s t hk hst n1 n2 hn => ?_) (fun s t hst n1 n2 => ?_) (0, H) (0, G) ⟨rfl, rfl, h, by show G 134 5 = G 134 5 + ((0 : Nat) : Int); omega⟩
  · obtain ⟨q1, q2, q3, q4⟩ := hst
    rw [if_pos (by rw [q1]; omega), if_pos (by rw [q2]; omega)]
    obtain ⟨k1, k2, -⟩ := a_keep2 q3
    obtain ⟨d1, d2⟩ := a_draw2 k1
    obtain ⟨k3, k4⟩ := a_hour2 d1 (by rw [d2, k2, q4]; omega)
    have od := k1.1.2.2.2.2.2.2.2.1
    have b0 := k1.1.2.1
    have fin : a_Q2R (n1 (a_w (s.1 + 1), fn_27 1 (fn_31 1 (fn_1 13 1 s.2)))) (n2 (a_w (t.1 + 1), fn_124 (a_ds (fn_142 t.2)))) := by
      refine hn _ _ ⟨?_, ?_, k3, ?_⟩
      · show a_w (s.1 + 1) = _
        rw [q1, a_w_id (by omega) (by omega)]
        omega
      · show a_w (t.1 + 1) = _
        rw [q2, a_w_id (by omega) (by omega)]
        omega
      · show fn_124 (a_ds (fn_142 t.2)) 134 5 = _
        rw [k4, d2, k2, q4]
        omega
    rw [a_dw_m od.1 od.2]
    have y0 : a_up (fn_142 t.2) 134 6 (a_dw (fn_142 t.2 134 6)) 134 0 = fn_142 t.2 134 0 := a_up_ne (by omega)
    have y6 : a_up (fn_142 t.2) 134 6 (a_dw (fn_142 t.2 134 6)) 134 6 = a_dw (fn_142 t.2 134 6) := a_up_eq
    have bd := a_dw_b (fn_142 t.2 134 6)
    rw [y0, y6]
    unfold a_ds at fin
    by_cases c : 0 < fn_142 t.2 134 0
    · rw [if_pos c]
      rw [if_pos c] at fin
      generalize a_dw (fn_142 t.2 134 6) = d at *
      have p1 : a_div d 65536 = d / 65536 := a_div_id bd.1 bd.2 (by decide)
      have p2 : a_div d 128 = d / 128 := a_div_id bd.1 bd.2 (by decide)
      have p3 : a_rem (d / 65536) (fn_142 t.2 134 0) = d / 65536 % fn_142 t.2 134 0 := a_rem_id (by omega) (by omega) c
      have p4 : a_rem (d / 128) 5 = d / 128 % 5 := a_rem_id (by omega) (by omega) (by decide)
      have u0 := Int.emod_nonneg (d / 65536) (Int.ne_of_gt c)
      have u1 := Int.emod_lt_of_pos (d / 65536) c
      have p5 : a_w (23 + d / 65536 % fn_142 t.2 134 0) = 23 + d / 65536 % fn_142 t.2 134 0 := by
        generalize d / 65536 % fn_142 t.2 134 0 = k at u0 u1
        exact a_w_id (by omega) (by omega)
      rw [p1, p2, p3, p4, p5]
      exact fin
    · rw [if_neg c]
      rw [if_neg c] at fin
      exact fin
  · obtain ⟨q1, q2, q3, q4⟩ := hst
    rw [if_neg (by rw [q1]; omega), if_neg (by rw [q2]; omega)]
    exact ⟨q3, a_who2 q3⟩

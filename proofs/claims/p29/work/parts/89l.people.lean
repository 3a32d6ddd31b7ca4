/-! letters -/
theorem a_i2b0 : ∀ x : Fin 127, a_i2b (x.val : Int) = (x.val : Int) := by decide +kernel
theorem a_i2b_id {c : Int} (h0 : 0 ≤ c) (h1 : c ≤ 126) : a_i2b c = c := by
  obtain ⟨n, rfl⟩ := a_fin (k := 127) h0 (by omega)
  exact a_i2b0 n
theorem fe_191 {c : Int} (h0 : 0 ≤ c) (h1 : c ≤ 126) : ¬ fn_191 c = 0 := by
  simp only [fn_191, a_jn]
  rw [if_neg (show ¬ c < 0 by omega), if_neg (show ¬ 255 < c by omega)]
  decide
theorem a_fuel6 : ∃ m, a_fuel = m + 6 := ⟨999994, a_fuel_eq⟩
theorem fl_ix4 {c : Int} (h0 : 0 ≤ c) (h1 : c ≤ 126) : fn_186 43 c = fn_135 c 0 := by
  have e1 : ¬ fn_190 43 = 0 := by decide +kernel
  have e2 : fn_188 43 = 4 := by decide +kernel
  have e5 : a_max 0 0 = 0 := by decide +kernel
  have e6 : a_min 4 (a_tl (43 + 1000)) = 4 := by decide +kernel
  have t0 : a_tg (43 + 1000) 0 = 110 := by decide +kernel
  have t1 : a_tg (43 + 1000) 1 = 101 := by decide +kernel
  have t2 : a_tg (43 + 1000) 2 = 115 := by decide +kernel
  have t3 : a_tg (43 + 1000) 3 = 119 := by decide +kernel
  have w1 : a_w (0 + 1) = 1 := by decide +kernel
  have w2 : a_w (1 + 1) = 2 := by decide +kernel
  have w3 : a_w (2 + 1) = 3 := by decide +kernel
  have w4 : a_w (3 + 1) = 4 := by decide +kernel
  obtain ⟨m, hm⟩ := a_fuel6
  have key : fn_193 (43 + 1000) c 0 4 = if 110 = c then 0 else if 101 = c then 1 else if 115 = c then 2 else if 119 = c then 3 else -1 := by
    simp only [fn_193, a_bd, a_i2b_id h0 h1]
    rw [hm]
    simp only [a_lp, t0, w1, t1, w2, t2, w3, t3, w4]
    rw [if_pos (show (0 : Int) < 4 by decide), if_pos (show (1 : Int) < 4 by decide), if_pos (show (2 : Int) < 4 by decide), if_pos (show (3 : Int) < 4 by decide), if_neg (show ¬ (4 : Int) < 4 by decide)]
  simp only [fn_186, fn_187, fn_192, a_bd]
  rw [if_neg e1, e2, if_neg (fe_191 h0 h1), e5, e6, if_pos (show (0 : Int) < 4 by decide), key]
  simp only [fn_135, a_jn]
  by_cases c0 : c = 110
  · rw [if_pos c0.symm, if_pos c0]
  rw [if_neg (fun q => c0 q.symm), if_neg c0]
  by_cases c1 : c = 101
  · rw [if_pos c1.symm, if_pos c1]
  rw [if_neg (fun q => c1 q.symm), if_neg c1]
  by_cases c2 : c = 115
  · rw [if_pos c2.symm, if_pos c2]
  rw [if_neg (fun q => c2 q.symm), if_neg c2]
  by_cases c3 : c = 119
  · rw [if_pos c3.symm, if_pos c3]
  rw [if_neg (fun q => c3 q.symm), if_neg c3]
  by_cases c4 : c = 46
  · rw [if_pos c4, if_pos trivial]
  · rw [if_neg c4]
theorem fl_ix5 {c : Int} (h0 : 0 ≤ c) (h1 : c ≤ 126) : fn_186 76 c = fn_135 c 1 := by
  have e1 : ¬ fn_190 76 = 0 := by decide +kernel
  have e2 : fn_188 76 = 5 := by decide +kernel
  have e5 : a_max 0 0 = 0 := by decide +kernel
  have e6 : a_min 5 (a_tl (76 + 1000)) = 5 := by decide +kernel
  have t0 : a_tg (76 + 1000) 0 = 110 := by decide +kernel
  have t1 : a_tg (76 + 1000) 1 = 101 := by decide +kernel
  have t2 : a_tg (76 + 1000) 2 = 115 := by decide +kernel
  have t3 : a_tg (76 + 1000) 3 = 119 := by decide +kernel
  have t4 : a_tg (76 + 1000) 4 = 46 := by decide +kernel
  have w1 : a_w (0 + 1) = 1 := by decide +kernel
  have w2 : a_w (1 + 1) = 2 := by decide +kernel
  have w3 : a_w (2 + 1) = 3 := by decide +kernel
  have w4 : a_w (3 + 1) = 4 := by decide +kernel
  have w5 : a_w (4 + 1) = 5 := by decide +kernel
  obtain ⟨m, hm⟩ := a_fuel6
  have key : fn_193 (76 + 1000) c 0 5 = if 110 = c then 0 else if 101 = c then 1 else if 115 = c then 2 else if 119 = c then 3 else if 46 = c then 4 else -1 := by
    simp only [fn_193, a_bd, a_i2b_id h0 h1]
    rw [hm]
    simp only [a_lp, t0, w1, t1, w2, t2, w3, t3, w4, t4, w5]
    rw [if_pos (show (0 : Int) < 5 by decide), if_pos (show (1 : Int) < 5 by decide), if_pos (show (2 : Int) < 5 by decide), if_pos (show (3 : Int) < 5 by decide), if_pos (show (4 : Int) < 5 by decide), if_neg (show ¬ (5 : Int) < 5 by decide)]
  simp only [fn_186, fn_187, fn_192, a_bd]
  rw [if_neg e1, e2, if_neg (fe_191 h0 h1), e5, e6, if_pos (show (0 : Int) < 5 by decide), key]
  simp only [fn_135, a_jn]
  by_cases c0 : c = 110
  · rw [if_pos c0.symm, if_pos c0]
  rw [if_neg (fun q => c0 q.symm), if_neg c0]
  by_cases c1 : c = 101
  · rw [if_pos c1.symm, if_pos c1]
  rw [if_neg (fun q => c1 q.symm), if_neg c1]
  by_cases c2 : c = 115
  · rw [if_pos c2.symm, if_pos c2]
  rw [if_neg (fun q => c2 q.symm), if_neg c2]
  by_cases c3 : c = 119
  · rw [if_pos c3.symm, if_pos c3]
  rw [if_neg (fun q => c3 q.symm), if_neg c3]
  by_cases c4 : c = 46
  · rw [if_pos c4.symm, if_pos c4, if_neg (show ¬ (1 : Int) = 0 by decide)]
  · rw [if_neg (fun q => c4 q.symm), if_neg c4]
theorem fl_ixk {c : Int} (h0 : 0 ≤ c) (h1 : c ≤ 126) : fn_186 74 c = fn_137 c := by
  have e1 : ¬ fn_190 74 = 0 := by decide +kernel
  have e2 : fn_188 74 = 5 := by decide +kernel
  have e5 : a_max 0 0 = 0 := by decide +kernel
  have e6 : a_min 5 (a_tl (74 + 1000)) = 5 := by decide +kernel
  have t0 : a_tg (74 + 1000) 0 = 103 := by decide +kernel
  have t1 : a_tg (74 + 1000) 1 = 115 := by decide +kernel
  have t2 : a_tg (74 + 1000) 2 = 116 := by decide +kernel
  have t3 : a_tg (74 + 1000) 3 = 104 := by decide +kernel
  have t4 : a_tg (74 + 1000) 4 = 112 := by decide +kernel
  have w1 : a_w (0 + 1) = 1 := by decide +kernel
  have w2 : a_w (1 + 1) = 2 := by decide +kernel
  have w3 : a_w (2 + 1) = 3 := by decide +kernel
  have w4 : a_w (3 + 1) = 4 := by decide +kernel
  have w5 : a_w (4 + 1) = 5 := by decide +kernel
  obtain ⟨m, hm⟩ := a_fuel6
  have key : fn_193 (74 + 1000) c 0 5 = if 103 = c then 0 else if 115 = c then 1 else if 116 = c then 2 else if 104 = c then 3 else if 112 = c then 4 else -1 := by
    simp only [fn_193, a_bd, a_i2b_id h0 h1]
    rw [hm]
    simp only [a_lp, t0, w1, t1, w2, t2, w3, t3, w4, t4, w5]
    rw [if_pos (show (0 : Int) < 5 by decide), if_pos (show (1 : Int) < 5 by decide), if_pos (show (2 : Int) < 5 by decide), if_pos (show (3 : Int) < 5 by decide), if_pos (show (4 : Int) < 5 by decide), if_neg (show ¬ (5 : Int) < 5 by decide)]
  simp only [fn_186, fn_187, fn_192, a_bd]
  rw [if_neg e1, e2, if_neg (fe_191 h0 h1), e5, e6, if_pos (show (0 : Int) < 5 by decide), key]
  simp only [fn_137, a_jn]
  by_cases c0 : c = 103
  · rw [if_pos c0.symm, if_pos c0]
  rw [if_neg (fun q => c0 q.symm), if_neg c0]
  by_cases c1 : c = 115
  · rw [if_pos c1.symm, if_pos c1]
  rw [if_neg (fun q => c1 q.symm), if_neg c1]
  by_cases c2 : c = 116
  · rw [if_pos c2.symm, if_pos c2]
  rw [if_neg (fun q => c2 q.symm), if_neg c2]
  by_cases c3 : c = 104
  · rw [if_pos c3.symm, if_pos c3]
  rw [if_neg (fun q => c3 q.symm), if_neg c3]
  by_cases c4 : c = 112
  · rw [if_pos c4.symm, if_pos c4]
  · rw [if_neg (fun q => c4 q.symm), if_neg c4]
theorem fe_135b (c b : Int) : (fn_135 c b = -1 ∨ (0 ≤ fn_135 c b ∧ fn_135 c b ≤ 4)) ∧ (b = 0 → fn_135 c b ≤ 3) := by
  simp only [fn_135, a_jn]
  by_cases c0 : c = 110
  · rw [if_pos c0]; omega
  rw [if_neg c0]
  by_cases c1 : c = 101
  · rw [if_pos c1]; omega
  rw [if_neg c1]
  by_cases c2 : c = 115
  · rw [if_pos c2]; omega
  rw [if_neg c2]
  by_cases c3 : c = 119
  · rw [if_pos c3]; omega
  rw [if_neg c3]
  by_cases c4 : c = 46
  · rw [if_pos c4]
    by_cases c5 : b = 0
    · rw [if_pos c5]; omega
    · rw [if_neg c5]; omega
  · rw [if_neg c4]; omega
theorem fe_137b (c : Int) : fn_137 c = -1 ∨ (0 ≤ fn_137 c ∧ fn_137 c ≤ 4) := by
  simp only [fn_137, a_jn]
  split
  · omega
  · split
    · omega
    · split
      · omega
      · split
        · omega
        · split <;> omega
/-- the end is no letter of these -/
theorem fe_135z (b : Int) : fn_135 0 b = -1 := by
  simp only [fn_135, a_jn]
  rw [if_neg (by decide), if_neg (by decide), if_neg (by decide), if_neg (by decide), if_neg (by decide)]
theorem fe_137z : fn_137 0 = -1 := by
  simp only [fn_137, a_jn]
  rw [if_neg (by decide), if_neg (by decide), if_neg (by decide), if_neg (by decide), if_neg (by decide)]
theorem fl_letc {H : a_P} {t : Int → Int} {L p a1 : Int} (h : a_tv H t L p 0) (h9 : L ≤ 90) (p0 : 0 ≤ p) (pL : p ≤ L) : (fn_186 a1 (r_ch t L (r_q t L p)) < 0 → a_tv (fn_51 a1 H).2 t L (r_q t L p) (-20 - r_q t L p)) ∧ (¬ fn_186 a1 (r_ch t L (r_q t L p)) < 0 → (fn_51 a1 H).1 = fn_186 a1 (r_ch t L (r_q t L p)) ∧ a_tv (fn_51 a1 H).2 t L (r_q t L p + 1) 0) := by
  have hq := r_q_ok (t := t) pL
  have hqL := hq.2.1
  have hq1 := hq.1
  obtain ⟨k1, k2⟩ := fl_peek h h9 p0 pL
  have kp : (fn_48 H).2 119 2 = r_q t L p := k2.2.1
  simp only [fn_51, a_bd]
  rw [if_pos h.2.2.1, k1]
  refine ⟨fun c => ?_, fun c => ?_⟩
  · rw [if_pos c, kp]
    exact a_tv_fail k2 (by omega) (by omega)
  · rw [if_neg c]
    exact ⟨rfl, a_tv_on k2 (by omega) (by omega)⟩
theorem fl_way {G : a_P} {t : Int → Int} {L m b : Int} (g : m_tv G t L m) (h9 : L ≤ 90) (m0 : 0 ≤ m) (mL : m ≤ L) : (fn_136 b G).1 = fn_135 (r_ch t L (r_q t L m)) b ∧ (fn_135 (r_ch t L (r_q t L m)) b < 0 → m_tv (fn_136 b G).2 t L (r_q t L m)) ∧ (¬ fn_135 (r_ch t L (r_q t L m)) b < 0 → m_tv (fn_136 b G).2 t L (r_q t L m + 1)) := by
  have hq := r_q_ok (t := t) mL
  have hqL := hq.2.1
  have hq1 := hq.1
  obtain ⟨k1, k2⟩ := fl_here g h9 m0 mL
  have kp : (fn_132 G).2 133 3 = r_q t L m := k2.2.1
  simp only [fn_136, a_jn, a_bd]
  rw [k1, kp]
  refine ⟨?_, fun c => ?_, fun c => ?_⟩
  · split <;> rfl
  · rw [if_pos c, a_w_id (x := r_q t L m + 0) (by omega) (by omega), show r_q t L m + 0 = r_q t L m by omega]
    exact m_tv_at k2
  · rw [if_neg c, a_w_id (x := r_q t L m + 1) (by omega) (by omega)]
    exact m_tv_at k2
/-- behind a fault nothing is read -/
theorem c_f51 {H : a_P} {a1 : Int} (h : ¬ H 119 3 = 0) : fn_51 a1 H = (0, H) := by simp only [fn_51]; rw [if_neg h]
theorem c_f52 {H : a_P} {a1 : Int} (h : ¬ H 119 3 = 0) : fn_52 a1 H = (0, H) := by simp only [fn_52]; rw [if_neg h]
theorem c_f50 {H : a_P} {a1 : Int} (h : ¬ H 119 3 = 0) : fn_50 a1 H = (0, H) := by simp only [fn_50, a_jn]; rw [if_neg h]
theorem c_f47 {H : a_P} {a1 : Int} (h : ¬ H 119 3 = 0) : fn_47 a1 H = H := by simp only [fn_47, a_jn]; rw [if_neg h]

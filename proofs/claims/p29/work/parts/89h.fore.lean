/-! ANSWERS THAT CHANGE NOTHING -/
theorem a_and1 (x : Int) : a_and x 1 = 0 ∨ a_and x 1 = 1 := by
  unfold a_and
  obtain ⟨j, hj, e⟩ := pk_andE (Int32.ofInt x) (m := Int32.ofInt 1) 1 (by decide)
  rw [e, nI_toInt (by omega)]
  omega
theorem a2_side (a1 : Int) {H G : a_P} (h : a_R2 H G) : fn_57 a1 H = fn_128 a1 G := by
  have e0 : H 1 0 = G 134 1 := h.1.1.1
  have e1 : H 1 1 = G 134 2 := h.1.1.2.1
  simp only [fn_57, fn_128, fn_111, fn_19, a_jn, fe_91z, fe_108z, e0, e1]
  by_cases c : 0 ≤ a1 ∧ a1 < 36
  · have v1 : ¬ ¬ (0 ≤ a1 ∧ a1 < 36) := fun q => q c
    have v2 : ¬ ¬ (0 ≤ a1 ∧ a1 ≤ 35) := fun q => q (by omega)
    rw [if_neg v1, if_neg v2]
    exact fl_side h.1.2.2.1 h.1.2.2.2.1 (by omega) rfl rfl
  · rw [if_pos c, if_pos (by omega)]
theorem a2_count (a1 : Int) {H G : a_P} (h : a_R2 H G) : fn_60 a1 H = fn_130 a1 G := by
  have e0 : H 1 0 = G 134 1 := h.1.1.1
  have e1 : H 1 1 = G 134 2 := h.1.1.2.1
  have e2 : H 1 2 = G 134 3 := h.1.1.2.2.1
  have e3 : H 1 3 = G 134 4 := h.1.1.2.2.2.1
  have e4 : H 1 4 = G 134 5 := h.1.1.2.2.2.2.1
  have e6 : H 1 6 = G 134 0 := h.1.1.2.2.2.2.2.2.1
  have ew : fn_24 1 H = fn_129 G := (c_wet h.1.1 h.1.2).trans (r_wet_eq G).symm
  have eu : H 13 2 = G 133 7 := h.2.1.1
  simp only [fn_60, fn_130, e0, e1, e2, e3, e4, e6, ew, eu, a_who2 h]
theorem a2_of (a1 a2 : Int) {H G : a_P} (h : a_R2 H G) : fn_56 a1 a2 H = fn_127 a1 a2 G := by
  have b0 := h.1.2.1
  have e0 : H 1 0 = G 134 1 := h.1.1.1
  have e1 : H 1 1 = G 134 2 := h.1.1.2.1
  have z1 := fe_12h h.1 a1
  have z2 := fe_110 (a := a1) (G := G) b0.1 b0.2
  simp only [fn_56, fn_127, a_bd, z1, z2]
  by_cases c : 0 ≤ a1 ∧ a1 < G 134 0
  · have v1 : ¬ ¬ (0 ≤ a1 ∧ a1 < G 134 0) := fun q => q c
    rw [if_neg v1, if_neg v1]
    obtain ⟨t1, t2, t3, t4, t5⟩ := h.1.1.2.2.2.2.2.2.2 a1 c.1 c.2
    obtain ⟨s1, s2, s3, s4, s5⟩ := h.1.2.2.2.2.2.2.2.2 a1 c.1 c.2
    have y1 : H 2 a1 = G 134 (7 + a1) := t1
    have y2 : H 3 a1 = G 134 (15 + a1) := t2
    have y3 : H 4 a1 = G 134 (23 + a1) := t3
    have y4 : H 5 a1 = G 134 (31 + a1) := t4
    have y5 : H 6 a1 = G 134 (39 + a1) := t5
    have far : fn_18 1 a1 H = fn_114 (G 134 (15 + a1)) (G 134 1) := by
      unfold fn_18
      rw [e0, t2]
      exact fl_far h.1.2.2.1 s2
    have sd : fn_19 1 (G 134 (15 + a1)) H = fn_116 (G 134 (15 + a1)) G := by
      unfold fn_19
      rw [e0, e1]
      exact fl_side h.1.2.2.1 h.1.2.2.2.1 s2 rfl rfl
    have li : fn_20 1 a1 H = r_in (G 134) a1 := (fl_in h.1.1 h.1.2 c.1 c.2).trans (r_in_eq G a1)
    have st := fl_stands h.1.1 h.1.2
    have ins : fn_92 (fn_21 1 a1 H) = a_and (a_shr (fn_120 G) a1) 1 := by
      have ms := fl_mset h.1.2 (k := a1.toNat) (by omega)
      rw [show ((a1.toNat : Nat) : Int) = a1 by omega] at ms
      simp only [fn_92, fn_21, a_jn, st, li]
      simp only [fn_117, a_jn]
      by_cases d1 : G 134 3 = -4
      · rw [if_pos d1, if_pos rfl, if_pos rfl]
        exact (ms.mpr (Or.inl d1)).symm
      · rw [if_neg d1, if_neg (show ¬ (1 : Int) = 0 by decide)]
        by_cases d2 : r_in (G 134) a1 = 0
        · rw [if_pos d2, if_pos rfl]
          exact (ms.mpr (Or.inr d2)).symm
        · rw [if_neg d2, if_neg (show ¬ (1 : Int) = 0 by decide)]
          rcases a_and1 (a_shr (fn_120 G) a1) with g | g
          · rcases ms.mp g with g | g
            · exact absurd g d1
            · exact absurd g d2
          · exact g.symm
    rw [y1, y2, y3, y4, y5, ins, far, sd, a_w_id (x := 7 + a1) (by omega) (by omega), a_w_id (x := 15 + a1) (by omega) (by omega), a_w_id (x := 23 + a1) (by omega) (by omega), a_w_id (x := 31 + a1) (by omega) (by omega), a_w_id (x := 39 + a1) (by omega) (by omega)]
  · rw [if_pos c, if_pos c]
/-! LIES, FACING, HINGE, STOOD -/
def a_Qls (W : Int → Int) (r t : a_F) : Prop := r.1 = t.1 ∧ ∀ b, t.2 134 b = W b
theorem r2_lies {H G : a_P} (h : a_R2 H G) : a_Q2R (fn_73 H) (fn_158 G) := by
  have f1 := fr_73 H
  have f2 := fr_158 G
  have key : a_Qls (G 134) (fn_73 H) (fn_158 G) := by
    simp only [fn_73, fn_158, a_jn, a_bd]
    obtain ⟨s1, s2⟩ := a_asd_0 G
    refine a_lp2 (Q := a_Qls (G 134)) (fun k s t => s.1 = (k : Int) ∧ t.1 = (k : Int) ∧ a_sm s.2 7 (r_hs k (G 134)) ∧ (∀ b, t.2 134 b = r_hs k (G 134) b) ∧ ∀ b, 0 ≤ b → b < 47 → t.2 138 b = G 134 b) 41 (by omega) (fun k s t hk hst n1 n2 hn => ?_) (fun s t hst n1 n2 => ?_) (0, fn_10 7 1 H) (0, fn_153 G) ⟨rfl, rfl, c_like h.1, s1, s2⟩
    · obtain ⟨q1, q2, q3, q4, q5⟩ := hst
      have ok := r_hs_ok h.1.2 k
      have e : t.2 134 = r_hs k (G 134) := funext q4
      have st : fn_14 7 s.2 = fn_117 t.2 := by
        have := fl_stands (G := t.2) (by rw [e]; exact q3) (by rw [e]; exact ok)
        exact this
      have g1 : ¬ 40 < s.1 := by rw [q1]; omega
      have g2 : t.1 < 41 := by rw [q2]; omega
      rw [if_neg g1, if_pos g2, st]
      by_cases c : fn_117 t.2 = 0
      · rw [if_pos c, if_pos c, if_pos g2]
        refine ⟨q1.trans q2.symm, ?_⟩
        exact fl_back q5 (fun b q => by rw [q4 b, r_hs_o h.1.2 q])
      · rw [if_neg c, if_neg c]
        refine hn _ _ ⟨?_, ?_, fl_hour q3 ok (by omega), fun b => ?_, fun b r0 r1 => ?_⟩
        · show a_w (s.1 + 1) = _
          rw [q1, a_w_id (by omega) (by omega)]
          omega
        · show a_w (t.1 + 1) = _
          rw [q2, a_w_id (by omega) (by omega)]
          omega
        · show fn_124 t.2 134 b = r_h (r_hs k (G 134)) b
          rw [← e] at ok ⊢
          exact fl_mhour ok (by omega) b
        · show fn_124 t.2 138 b = G 134 b
          rw [fr_124 t.2 138 b (by unfold w_124; omega)]
          exact q5 b r0 r1
    · obtain ⟨q1, q2, q3, q4, q5⟩ := hst
      rw [if_pos (by rw [q1]; omega), if_neg (by rw [q2]; omega), if_neg (by rw [q2]; omega)]
      exact ⟨rfl, fl_back q5 (fun b q => by rw [q4 b, r_hs_o h.1.2 q])⟩
  exact ⟨a_R2_q h (fun a b q => f1 a b (by unfold w_73; unfold a_ccl at q; omega)) key.2 (fun a b q q2 => f2 a b (by unfold w_158; unfold a_mc at q; omega)), key.1⟩
theorem r2_hinge (a1 : Int) {H G : a_P} (h : a_R2 H G) : a_Q2R (fn_78 a1 H) (fn_167 a1 G) := by
  have f1 := fr_78 a1 H
  have f2 := fr_167 a1 G
  by_cases c : 1 ≤ a1 ∧ a1 ≤ 40
  · have v2 : ¬ fn_108 a1 1 40 = 0 := by rw [fe_108z]; exact fun q => q c
    obtain ⟨s1, s2⟩ := a_asd_0 G
    obtain ⟨t1, t2⟩ := m_wb (n := a1) s1 s2 h.1.2 (by omega) (fun _ _ => rfl) (by omega) (by omega)
    have o := h.1.2
    have okV : a_ok 9999 (r_up (G 134) 3 (-4)) := a_ok_f o (fun b q => r_up_ne (by omega)) (r_up_ne (by omega)) (by rw [r_up_ne (by omega)]; exact o.2.1) (by rw [r_up_ne (by omega)]; exact o.2.2.1) (by rw [r_up_eq]; exact Or.inl rfl) (by rw [r_up_ne (by omega)]; exact o.2.2.2.2.1) (by rw [r_up_ne (by omega)]; exact o.2.2.2.2.2.1) (by rw [r_up_ne (by omega)]; exact o.2.2.2.2.2.2.1)
    have e134 : (fn_159 a1 (fn_153 G)).2 134 = G 134 := funext t2.1
    have x1 : ∀ b, a_up (fn_159 a1 (fn_153 G)).2 134 3 (-4) 134 b = r_up (G 134) 3 (-4) b := fun b => by rw [a_up_row, e134]
    obtain ⟨u1, u2⟩ := m_wb (n := a1) (W := G 134) x1 (fun b q0 q1 => by rw [a_up_ne (by omega)]; exact t2.2 b q0 q1) okV (by omega) (fun b q => r_up_ne (by omega)) (by omega) (by omega)
    have cs := c_fore (n := a1) h.1 (by omega) (by omega)
    have n1 : a_now (fn_93 a1 H) G := a_now_fr h.1 (fun a b q1 q2 => fr_93 a1 H a b (by unfold w_93; omega)) (fun _ _ _ => rfl)
    have c2 : a_sm (fn_26 7 a1 (a_up (fn_10 7 1 (fn_93 a1 H)) 7 2 (-4))) 7 (r_hs a1.toNat (r_up (G 134) 3 (-4))) := fl_hours (a_sm_f (f := 2) (c_like n1) (by omega) (by omega)) okV (by omega) (by omega) (by omega)
    have w1 := c_wet cs (r_hs_ok h.1.2 _)
    have w2 := c_wet c2 (r_hs_ok okV _)
    have bb1 := r_wet_b (r_hs_ok h.1.2 a1.toNat)
    have bb2 := r_wet_b (r_hs_ok okV a1.toNat)
    have e1 : fn_78 a1 H = (r_wet (r_hs a1.toNat (r_up (G 134) 3 (-4))) - r_wet (r_hs a1.toNat (G 134)) + 10000, fn_26 7 a1 (a_up (fn_10 7 1 (fn_93 a1 H)) 7 2 (-4))) := by
      simp only [fn_78, a_jn, a_bd]
      rw [if_neg (by omega), if_neg (by omega), w1, w2, a_w_id (x := r_wet (r_hs a1.toNat (r_up (G 134) 3 (-4))) - r_wet (r_hs a1.toNat (G 134))) (by omega) (by omega), a_w_id (by omega) (by omega)]
    have e2 : fn_167 a1 G = (r_wet (r_hs a1.toNat (r_up (G 134) 3 (-4))) - r_wet (r_hs a1.toNat (G 134)) + 10000, (fn_159 a1 (a_up (fn_159 a1 (fn_153 G)).2 134 3 (-4))).2) := by
      simp only [fn_167, a_bd]
      rw [if_neg v2, t1, u1, a_w_id (x := 10000 + r_wet (r_hs a1.toNat (r_up (G 134) 3 (-4)))) (by omega) (by omega), a_w_id (by omega) (by omega)]
      congr 1
      omega
    rw [e1] at f1 ⊢
    rw [e2] at f2 ⊢
    refine a_Q2i (a_R2_q h (fun a b q => f1 a b (by unfold w_78; unfold a_ccl at q; omega)) u2.1 (fun a b q q2 => f2 a b (by unfold w_167; unfold a_mc at q; omega))) rfl
  · have e1 : fn_78 a1 H = (-1, H) := by
      simp only [fn_78, a_jn, a_bd]
      by_cases d : a1 < 1
      · rw [if_pos d]
      · rw [if_neg d, if_pos (by omega)]
    have e2 : fn_167 a1 G = (-1, G) := by
      simp only [fn_167, a_bd]
      rw [if_pos ((fe_108z a1 1 40).mpr c)]
    rw [e1, e2]
    exact ⟨h, rfl⟩

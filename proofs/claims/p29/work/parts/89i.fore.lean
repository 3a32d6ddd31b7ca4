/-! FACING, STOOD -/
noncomputable def r_fc (n : Int) (W : Int → Int) (l : Int) : Int := r_wet (r_hs n.toNat (r_up W 2 l))
def r_bf (f : Int → Int) : Nat → Int × Int
  | 0 => (0, 9999)
  | k + 1 => if f (k : Int) < (r_bf f k).2 then ((k : Int), f (k : Int)) else r_bf f k
theorem a_ok_l {m l : Int} {W : Int → Int} (o : a_ok m W) (h0 : 0 ≤ l) (h3 : l ≤ 3) : a_ok m (r_up W 2 l) := a_ok_f o (fun b q => r_up_ne (by omega)) (r_up_ne (by omega)) (by rw [r_up_ne (by omega)]; exact o.2.1) (by rw [r_up_eq]; omega) (by rw [r_up_ne (by omega)]; exact o.2.2.2.1) (by rw [r_up_ne (by omega)]; exact o.2.2.2.2.1) (by rw [r_up_ne (by omega)]; exact o.2.2.2.2.2.1) (by rw [r_up_ne (by omega)]; exact o.2.2.2.2.2.2.1)
theorem c_face {X G : a_P} {n l : Int} (h : a_now X G) (h0 : 0 ≤ n) (h1 : n ≤ 1000) (l0 : 0 ≤ l) (l3 : l ≤ 3) : (fn_94 l n X).1 = r_fc n (G 134) l := by
  have s1 : a_sm (fn_26 7 n (a_up (fn_10 7 1 X) 7 1 l)) 7 (r_hs n.toNat (r_up (G 134) 2 l)) := fl_hours (a_sm_f (f := 1) (c_like h) (by omega) (by omega)) (a_ok_l h.2 l0 l3) (by omega) h0 h1
  exact c_wet s1 (r_hs_ok (a_ok_l h.2 l0 l3) _)
theorem c_facen {X G : a_P} {n l : Int} (h : a_now X G) : a_now (fn_94 l n X).2 G := a_now_fr h (fun a b q1 q2 => fr_94 l n X a b (by unfold w_94; omega)) (fun _ _ _ => rfl)
def a_Qf1 (v : Int) (r : a_F) : Prop := r.1 = v
def a_Qg (v : Int) (W : Int → Int) (r : a_F) : Prop := r.1 = v ∧ ∀ b, r.2 134 b = W b
theorem r2_facing (a1 a2 : Int) {H G : a_P} (h : a_R2 H G) : a_Q2R (fn_75 a1 a2 H) (fn_161 a1 a2 G) := by
  have f1 := fr_75 a1 a2 H
  have f2 := fr_161 a1 a2 G
  by_cases c : (1 ≤ a1 ∧ a1 ≤ 40) ∧ (0 ≤ a2 ∧ a2 < 2)
  · obtain ⟨c1, c2⟩ := c
    have v1 : ¬ fn_91 a2 2 = 0 := by rw [fe_91z]; exact fun q => q c2
    have v2 : ¬ fn_108 a1 1 40 = 0 := by rw [fe_108z]; exact fun q => q c1
    have v3 : ¬ fn_108 a2 0 1 = 0 := by rw [fe_108z]; exact fun q => q (by omega)
    have bnd : ∀ l, 0 ≤ l → l ≤ 3 → r_fc a1 (G 134) l ≤ 800 := fun l l0 l3 => (r_wet_b (r_hs_ok (a_ok_l h.1.2 l0 l3) _)).2
    have k1 : a_Qf1 (if a2 = 0 then (r_bf (r_fc a1 (G 134)) 4).1 else (r_bf (r_fc a1 (G 134)) 4).2) (fn_75 a1 a2 H) := by
      simp only [fn_75, a_jn, a_bd]
      rw [if_neg (show ¬ a1 < 1 by omega), if_neg (show ¬ 40 < a1 by omega), if_neg v1, c_face h.1 (by omega) (by omega) (by omega) (by omega)]
      have b0 := bnd 0 (by omega) (by omega)
      have e1 : r_bf (r_fc a1 (G 134)) 1 = (0, r_fc a1 (G 134) 0) := if_pos (show r_fc a1 (G 134) ((0 : Nat) : Int) < 9999 by show r_fc a1 (G 134) 0 < 9999; omega)
      refine a_lp_up (Q := a_Qf1 (if a2 = 0 then (r_bf (r_fc a1 (G 134)) 4).1 else (r_bf (r_fc a1 (G 134)) 4).2)) (fun k s => s.2.2.1 = 1 + (k : Int) ∧ s.1 = (r_bf (r_fc a1 (G 134)) (k + 1)).1 ∧ s.2.1 = (r_bf (r_fc a1 (G 134)) (k + 1)).2 ∧ a_now s.2.2.2 G) 3 (by omega) (fun k s hk hss nx hn => ?_) (fun s hss nx => ?_) (0, r_fc a1 (G 134) 0, 1, (fn_94 0 a1 H).2) ⟨by show (1 : Int) = 1 + ((0 : Nat) : Int); omega, by rw [e1], by rw [e1], c_facen h.1⟩
      · obtain ⟨q1, q2, q3, q4⟩ := hss
        have g1 : s.2.2.1 < 4 := by rw [q1]; omega
        have ev := c_face (n := a1) (l := s.2.2.1) q4 (by omega) (by omega) (by omega) (by omega)
        have eb : r_bf (r_fc a1 (G 134)) (k + 1 + 1) = if r_fc a1 (G 134) s.2.2.1 < s.2.1 then (s.2.2.1, r_fc a1 (G 134) s.2.2.1) else r_bf (r_fc a1 (G 134)) (k + 1) := by
          rw [q1, q3, show 1 + (k : Int) = ((k + 1 : Nat) : Int) by omega]
          rfl
        rw [if_pos g1, ev]
        by_cases d : r_fc a1 (G 134) s.2.2.1 < s.2.1
        · rw [if_pos d]
          rw [if_pos d] at eb
          refine hn _ ⟨?_, ?_, ?_, c_facen q4⟩
          · show a_w (s.2.2.1 + 1) = _
            rw [q1, a_w_id (by omega) (by omega)]
            omega
          · show s.2.2.1 = _
            rw [eb]
          · show r_fc a1 (G 134) s.2.2.1 = _
            rw [eb]
        · rw [if_neg d]
          rw [if_neg d] at eb
          refine hn _ ⟨?_, ?_, ?_, c_facen q4⟩
          · show a_w (s.2.2.1 + 1) = _
            rw [q1, a_w_id (by omega) (by omega)]
            omega
          · show s.1 = _
            rw [eb, q2]
          · show s.2.1 = _
            rw [eb, q3]
      · obtain ⟨q1, q2, q3, q4⟩ := hss
        have g1 : ¬ s.2.2.1 < 4 := by rw [q1]; omega
        rw [if_neg g1]
        by_cases d : a2 = 0
        · rw [if_pos d, if_pos d]
          exact q2
        · rw [if_neg d, if_neg d]
          exact q3
    have k2 : a_Qg (if a2 = 0 then (r_bf (r_fc a1 (G 134)) 4).1 else (r_bf (r_fc a1 (G 134)) 4).2) (G 134) (fn_161 a1 a2 G) := by
      simp only [fn_161, a_jn, a_bd]
      rw [if_neg v2, if_neg v3]
      refine a_lp_up (Q := a_Qg (if a2 = 0 then (r_bf (r_fc a1 (G 134)) 4).1 else (r_bf (r_fc a1 (G 134)) 4).2) (G 134)) (fun k s => s.2.2.1 = (k : Int) ∧ s.1 = (r_bf (r_fc a1 (G 134)) k).1 ∧ s.2.1 = (r_bf (r_fc a1 (G 134)) k).2 ∧ a_asd s.2.2.2 (G 134)) 4 (by omega) (fun k s hk hss nx hn => ?_) (fun s hss nx => ?_) (0, 9999, 0, fn_153 G) ⟨rfl, rfl, rfl, a_asd_0 G⟩
      · obtain ⟨q1, q2, q3, q4⟩ := hss
        have g1 : s.2.2.1 < 4 := by rw [q1]; omega
        have e134 : s.2.2.2 134 = G 134 := funext q4.1
        have x1 : ∀ b, a_up s.2.2.2 134 2 s.2.2.1 134 b = r_up (G 134) 2 s.2.2.1 b := fun b => by rw [a_up_row, e134]
        obtain ⟨u1, u2⟩ := m_wb (n := a1) (W := G 134) x1 (fun b r0 r1 => by rw [a_up_ne (by omega)]; exact q4.2 b r0 r1) (a_ok_l h.1.2 (by omega) (by omega)) (by omega) (fun b q => r_up_ne (by omega)) (by omega) (by omega)
        have eb : r_bf (r_fc a1 (G 134)) (k + 1) = if (fn_159 a1 (a_up s.2.2.2 134 2 s.2.2.1)).1 < s.2.1 then (s.2.2.1, (fn_159 a1 (a_up s.2.2.2 134 2 s.2.2.1)).1) else r_bf (r_fc a1 (G 134)) k := by
          rw [u1, q1, q3]
          rfl
        rw [if_pos g1]
        by_cases d : (fn_159 a1 (a_up s.2.2.2 134 2 s.2.2.1)).1 < s.2.1
        · rw [if_pos d, if_pos d]
          rw [if_pos d] at eb
          refine hn _ ⟨?_, ?_, ?_, u2⟩
          · show a_w (s.2.2.1 + 1) = _
            rw [q1, a_w_id (by omega) (by omega)]
            omega
          · show s.2.2.1 = _
            rw [eb]
          · show (fn_159 a1 (a_up s.2.2.2 134 2 s.2.2.1)).1 = _
            rw [eb]
        · rw [if_neg d, if_neg d]
          rw [if_neg d] at eb
          refine hn _ ⟨?_, ?_, ?_, u2⟩
          · show a_w (s.2.2.1 + 1) = _
            rw [q1, a_w_id (by omega) (by omega)]
            omega
          · show s.1 = _
            rw [eb, q2]
          · show s.2.1 = _
            rw [eb, q3]
      · obtain ⟨q1, q2, q3, q4⟩ := hss
        have g1 : ¬ s.2.2.1 < 4 := by rw [q1]; omega
        rw [if_neg g1]
        by_cases d : a2 = 0
        · rw [if_pos d, if_pos d]
          exact ⟨q2, q4.1⟩
        · rw [if_neg d, if_neg d]
          exact ⟨q3, q4.1⟩
    exact ⟨a_R2_q h (fun a b q => f1 a b (by unfold w_75; unfold a_ccl at q; omega)) k2.2 (fun a b q q2 => f2 a b (by unfold w_161; unfold a_mc at q; omega)), k1.trans k2.1.symm⟩
  · have e1 : fn_75 a1 a2 H = (-1, H) := by
      simp only [fn_75, a_jn, a_bd]
      by_cases d : a1 < 1
      · rw [if_pos d]
      · rw [if_neg d]
        by_cases d2 : 40 < a1
        · rw [if_pos d2]
        · rw [if_neg d2, if_pos ((fe_91z a2 2).mpr (fun q => c ⟨⟨by omega, by omega⟩, q⟩))]
    have e2 : fn_161 a1 a2 G = (-1, G) := by
      simp only [fn_161, a_jn, a_bd, fe_108z]
      by_cases d : 1 ≤ a1 ∧ a1 ≤ 40
      · have w1 : ¬ ¬ (1 ≤ a1 ∧ a1 ≤ 40) := fun q => q d
        rw [if_neg w1, if_pos (fun q => c ⟨d, by omega⟩)]
      · rw [if_pos d]
    rw [e1, e2]
    exact ⟨h, rfl⟩
theorem a_shl0 : ∀ m : Fin 9, a_shl 1 (m.val : Int) = ((2 ^ m.val : Nat) : Int) ∧ 2 ^ m.val ≤ 256 := by decide +kernel
theorem a_shl1 {x : Int} (h0 : 0 ≤ x) (h8 : x ≤ 8) : 1 ≤ a_shl 1 x ∧ a_shl 1 x ≤ 256 := by
  obtain ⟨n, rfl⟩ := a_fin (k := 9) h0 (by omega)
  have h := a_shl0 n
  have p : 0 < 2 ^ n.val := Nat.two_pow_pos _
  rw [h.1]
  omega
theorem fe_13h {H G : a_P} (h : a_now H G) (x : Int) : (fn_13 1 x H = 0) ↔ ¬ (0 ≤ x ∧ x < a_shl 1 (G 134 0)) := by
  have e6 : H 1 6 = G 134 0 := h.1.2.2.2.2.2.2.1
  simp only [fn_13, a_jn, e6]
  by_cases c1 : x < 0
  · rw [if_pos c1]; omega
  · rw [if_neg c1]
    by_cases c2 : x < a_shl 1 (G 134 0)
    · rw [if_pos c2]; omega
    · rw [if_neg c2]; omega
theorem fe_162h {G : a_P} (h0 : 0 ≤ G 134 0) (h8 : G 134 0 ≤ 8) (x : Int) : (fn_162 x G = 0) ↔ ¬ (0 ≤ x ∧ x < a_shl 1 (G 134 0)) := by
  have b := a_shl1 h0 h8
  unfold fn_162
  rw [fe_108z, a_w_id (by omega) (by omega)]
  omega
theorem r2_stood (a1 a2 : Int) {H G : a_P} (h : a_R2 H G) : a_Q2R (fn_80 a1 a2 H) (fn_169 a1 a2 G) := by
  have f1 := fr_80 a1 a2 H
  have f2 := fr_169 a1 a2 G
  have b0 := h.1.2.1
  have z1 := fe_13h h.1 a1
  have z2 := fe_162h (G := G) b0.1 b0.2 a1
  by_cases c : (0 ≤ a1 ∧ a1 < a_shl 1 (G 134 0)) ∧ (0 ≤ a2 ∧ a2 < 2)
  · obtain ⟨c1, c2⟩ := c
    have u1 : ¬ fn_13 1 a1 H = 0 := by rw [z1]; exact fun q => q c1
    have u2 : ¬ fn_91 a2 2 = 0 := by rw [fe_91z]; exact fun q => q c2
    have v1 : ¬ fn_162 a1 G = 0 := by rw [z2]; exact fun q => q c1
    have v2 : ¬ fn_108 a2 0 1 = 0 := by rw [fe_108z]; exact fun q => q (by omega)
    have key : a_Qls (G 134) (fn_80 a1 a2 H) (fn_169 a1 a2 G) := by
      simp only [fn_80, fn_169, a_jn, a_bd]
      rw [if_neg u1, if_neg u2, if_neg v1, if_neg v2]
      obtain ⟨s1, s2⟩ := a_asd_0 G
      refine a_lp2 (Q := a_Qls (G 134)) (fun k s t => s.2.2.1 = (k : Int) ∧ t.2.2.1 = (k : Int) ∧ s.1 = t.1 ∧ s.2.1 = t.2.1 ∧ (0 ≤ t.1 ∧ t.1 ≤ (k : Int)) ∧ (t.1 = 0 ↔ t.2.1 = -4) ∧ (∃ V : Int → Int, a_sm s.2.2.2 7 V ∧ (∀ b, t.2.2.2 134 b = V b) ∧ (∀ b, ¬ b = 1 → ¬ b = 2 → V b = G 134 b)) ∧ ∀ b, 0 ≤ b → b < 47 → t.2.2.2 138 b = G 134 b) 144 (by omega) (fun k s t hk hst n1 n2 hn => ?_) (fun s t hst n1 n2 => ?_) (0, -4, 0, fn_10 7 1 H) (0, -4, 0, fn_153 G) ⟨rfl, rfl, rfl, rfl, ⟨by show (0 : Int) ≤ 0; omega, by show (0 : Int) ≤ ((0 : Nat) : Int); omega⟩, by simp, ⟨G 134, c_like h.1, s1, fun _ _ _ => rfl⟩, s2⟩
      · obtain ⟨q1, q2, q3, q4, q5, q6, ⟨V, y1, y2, y3⟩, q7⟩ := hst
        have g1 : s.2.2.1 < 144 := by rw [q1]; omega
        have g2 : t.2.2.1 < 144 := by rw [q2]; omega
        have m1 : a_div (k : Int) 4 = (k : Int) / 4 := a_div_id (by omega) (by omega) (by decide)
        have m2 : a_rem (k : Int) 4 = (k : Int) % 4 := a_rem_id (by omega) (by omega) (by decide)
        rw [if_pos g1, if_pos g2, q1, q2, m1, m2]
        clear m1 m2
        have sV : a_sm (a_up (a_up s.2.2.2 7 0 ((k : Int) / 4)) 7 1 ((k : Int) % 4)) 7 (r_up (r_up V 1 ((k : Int) / 4)) 2 ((k : Int) % 4)) := a_sm_f (f := 1) (a_sm_f (f := 0) y1 (by omega) (by omega)) (by omega) (by omega)
        have e134 : t.2.2.2 134 = V := funext y2
        have tV : a_up (a_up t.2.2.2 134 1 ((k : Int) / 4)) 134 2 ((k : Int) % 4) 134 = r_up (r_up V 1 ((k : Int) / 4)) 2 ((k : Int) % 4) := by rw [a_up_row, a_up_row, e134]
        have o := h.1.2
        have rr : ∀ b, ¬ b = 1 → ¬ b = 2 → r_up (r_up V 1 ((k : Int) / 4)) 2 ((k : Int) % 4) b = G 134 b := fun b w1 w2 => by rw [r_up_ne w2, r_up_ne w1, y3 b w1 w2]
        have oV : a_ok 9999 (r_up (r_up V 1 ((k : Int) / 4)) 2 ((k : Int) % 4)) := a_ok_f o (fun b q => rr b (by omega) (by omega)) (rr 0 (by omega) (by omega)) (by rw [r_up_ne (by omega), r_up_eq]; omega) (by rw [r_up_eq]; omega) (by rw [rr 3 (by omega) (by omega)]; exact o.2.2.2.1) (by rw [rr 4 (by omega) (by omega)]; exact o.2.2.2.2.1) (by rw [rr 5 (by omega) (by omega)]; exact o.2.2.2.2.2.1) (by rw [rr 6 (by omega) (by omega)]; exact o.2.2.2.2.2.2.1)
        rw [c_let sV oV, r_let_eq, tV]
        have nw : a_w ((k : Int) + 1) = ((k + 1 : Nat) : Int) := by rw [a_w_id (by omega) (by omega)]; omega
        have n138 : ∀ b, 0 ≤ b → b < 47 → a_up (a_up t.2.2.2 134 1 ((k : Int) / 4)) 134 2 ((k : Int) % 4) 138 b = G 134 b := fun b r0 r1 => by rw [a_up_ne (by omega), a_up_ne (by omega)]; exact q7 b r0 r1
        have nV : ∃ V' : Int → Int, a_sm (a_up (a_up s.2.2.2 7 0 ((k : Int) / 4)) 7 1 ((k : Int) % 4)) 7 V' ∧ (∀ b, a_up (a_up t.2.2.2 134 1 ((k : Int) / 4)) 134 2 ((k : Int) % 4) 134 b = V' b) ∧ (∀ b, ¬ b = 1 → ¬ b = 2 → V' b = G 134 b) := ⟨_, sV, fun b => by rw [tV], rr⟩
        rw [nw]
        clear nw
        by_cases d : r_let (r_up (r_up V 1 ((k : Int) / 4)) 2 ((k : Int) % 4)) = a1
        · rw [if_pos d, if_pos d, q3, q4, a_w_id (x := t.1 + 1) (by omega) (by omega)]
          by_cases e : t.1 = 0
          · have e' : t.2.1 = -4 := q6.mp e
            rw [if_pos e', if_pos e]
            exact hn (_, _, _, _) (_, _, _, _) ⟨rfl, rfl, rfl, rfl, ⟨by show 0 ≤ t.1 + 1; omega, by show t.1 + 1 ≤ ((k + 1 : Nat) : Int); omega⟩, by show (t.1 + 1 = 0 ↔ (k : Int) = -4); omega, nV, n138⟩
          · have e' : ¬ t.2.1 = -4 := fun q => e (q6.mpr q)
            rw [if_neg e', if_neg e]
            exact hn (_, _, _, _) (_, _, _, _) ⟨rfl, rfl, rfl, rfl, ⟨by show 0 ≤ t.1 + 1; omega, by show t.1 + 1 ≤ ((k + 1 : Nat) : Int); omega⟩, by show (t.1 + 1 = 0 ↔ t.2.1 = -4); omega, nV, n138⟩
        · rw [if_neg d, if_neg d]
          exact hn (_, _, _, _) (_, _, _, _) ⟨rfl, rfl, q3, q4, ⟨q5.1, by show t.1 ≤ ((k + 1 : Nat) : Int); omega⟩, q6, nV, n138⟩
      · obtain ⟨q1, q2, q3, q4, q5, q6, ⟨V, y1, y2, y3⟩, q7⟩ := hst
        have g1 : ¬ s.2.2.1 < 144 := by rw [q1]; omega
        have g2 : ¬ t.2.2.1 < 144 := by rw [q2]; omega
        rw [if_neg g1, if_neg g2, q3, q4]
        have bk := fl_back q7 (fun b q => by rw [y2 b, y3 b (by omega) (by omega)])
        by_cases d : a2 = 0
        · rw [if_pos d, if_pos d]
          exact ⟨rfl, bk⟩
        · rw [if_neg d, if_neg d]
          exact ⟨rfl, bk⟩
    exact ⟨a_R2_q h (fun a b q => f1 a b (by unfold w_80; unfold a_ccl at q; omega)) key.2 (fun a b q q2 => f2 a b (by unfold w_169; unfold a_mc at q; omega)), key.1⟩
  · have e1 : fn_80 a1 a2 H = (-1, H) := by
      simp only [fn_80, a_jn, a_bd, z1, fe_91z]
      by_cases d : 0 ≤ a1 ∧ a1 < a_shl 1 (G 134 0)
      · have w1 : ¬ ¬ (0 ≤ a1 ∧ a1 < a_shl 1 (G 134 0)) := fun q => q d
        rw [if_neg w1, if_pos (fun q => c ⟨d, q⟩)]
      · rw [if_pos d]
    have e2 : fn_169 a1 a2 G = (-1, G) := by
      simp only [fn_169, a_jn, a_bd, z2, fe_108z]
      by_cases d : 0 ≤ a1 ∧ a1 < a_shl 1 (G 134 0)
      · have w1 : ¬ ¬ (0 ≤ a1 ∧ a1 < a_shl 1 (G 134 0)) := fun q => q d
        rw [if_neg w1, if_pos (fun q => c ⟨d, by omega⟩)]
      · rw [if_pos d]
    rw [e1, e2]
    exact ⟨h, rfl⟩

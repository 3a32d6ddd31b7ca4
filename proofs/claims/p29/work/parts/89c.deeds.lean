/-! WHAT IS DONE, on -/
theorem fe_110 {a : Int} {G : a_P} (h0 : 0 ≤ G 134 0) (h8 : G 134 0 ≤ 8) : (fn_110 a G = 0) ↔ ¬ (0 ≤ a ∧ a < G 134 0) := by
  unfold fn_110
  rw [fe_108z, a_w_id (by omega) (by omega)]
  omega
theorem fe_12h {H G : a_P} (h : a_now H G) (x : Int) : (fn_12 1 x H = 0) ↔ ¬ (0 ≤ x ∧ x < G 134 0) := by
  have e6 : H 1 6 = G 134 0 := h.1.2.2.2.2.2.2.1
  have := fe_12 (p := 1) (x := x) (H := H) (by rw [e6]; exact h.2.1.2)
  rw [e6] at this
  exact this
theorem a_ok_a {m : Int} {w w' : Int → Int} (ho : a_ok m w) (he : ∀ b, b < 7 → w' b = w b) (hb : ¬ w 3 = -4 → 1 ≤ w' (31 + w 3)) (hA : ∀ i, 0 ≤ i → i < w 0 → (0 ≤ w' (7 + i) ∧ w' (7 + i) ≤ 4) ∧ (0 ≤ w' (15 + i) ∧ w' (15 + i) ≤ 35) ∧ (0 ≤ w' (23 + i) ∧ w' (23 + i) ≤ 4) ∧ (0 ≤ w' (31 + i) ∧ w' (31 + i) ≤ 20) ∧ (0 ≤ w' (39 + i) ∧ w' (39 + i) ≤ 99)) : a_ok m w' := by
  obtain ⟨o0, o1, o2, o3, o4, o5, o6, oA⟩ := ho
  refine ⟨by rw [he _ (by omega)]; exact o0, by rw [he _ (by omega)]; exact o1, by rw [he _ (by omega)]; exact o2, ?_, by rw [he _ (by omega)]; exact o4, by rw [he _ (by omega)]; exact o5, by rw [he _ (by omega)]; exact o6, fun i q0 q1 => ?_⟩
  · rw [he 3 (by omega), he 0 (by omega)]
    rcases o3 with h | ⟨r1, r2, r3⟩
    · exact Or.inl h
    · exact Or.inr ⟨r1, r2, hb (by omega)⟩
  · rw [he 0 (by omega)] at q1
    exact hA i q0 q1
theorem r2_send (a1 a2 : Int) {H G : a_P} (h : a_R2 H G) : a_Q2R (fn_66 a1 a2 H) (fn_148 a1 a2 G) := by
  have b0 := h.1.2.1
  have z1 := fe_12h h.1 a1
  have z2 := fe_110 (a := a1) b0.1 b0.2
  simp only [fn_66, fn_148, a_jn, a_bd, fe_91z, fe_108z, z1, z2]
  by_cases c1 : 0 ≤ a1 ∧ a1 < G 134 0
  · have w1 : ¬ ¬ (0 ≤ a1 ∧ a1 < G 134 0) := fun q => q c1
    rw [if_neg w1, if_neg w1]
    by_cases c2 : 0 ≤ a2 ∧ a2 < 5
    · have v1 : ¬ ¬ (0 ≤ a2 ∧ a2 < 5) := fun q => q c2
      have v2 : ¬ ¬ (0 ≤ a2 ∧ a2 ≤ 4) := fun q => q (by omega)
      rw [if_neg v1, if_neg v2]
      have e4 : H 4 a1 = G 134 (23 + a1) := (h.1.1.2.2.2.2.2.2.2 a1 c1.1 c1.2).2.2.1
      rw [a_w_id (x := 23 + a1) (by omega) (by omega), e4]
      by_cases c3 : G 134 (23 + a1) = a2
      · rw [if_pos c3, if_pos c3]
        exact ⟨h, rfl⟩
      rw [if_neg c3, if_neg c3]
      obtain ⟨k1, k2, k3⟩ := a_keep2 h
      have o := k1.1.2
      have em : fn_142 G 134 0 = G 134 0 := k2 0
      refine a_Q2i ?_ rfl
      refine a_R2_now k1 ⟨?_, ?_⟩ (fun a b q => a_up_ne (by omega)) (fun a b q => a_up_ne (by omega))
      · rw [a_up_row]
        have := a_sm_a (j := 3) (k := a1) (v := a2) k1.1.1 o.1.2 (by omega) (by omega) c1.1 (by omega)
        rw [show (8 : Int) * 3 - 1 + a1 = 23 + a1 by omega] at this
        exact this
      · rw [a_up_row]
        refine a_ok_a o (fun b q => r_up_ne (by omega)) (fun q => ?_) (fun i q0 q1 => ?_)
        · rcases o.2.2.2.1 with r | ⟨r1, r2, r3⟩
          · exact absurd r q
          · rw [r_up_ne (by omega)]
            exact r3
        · obtain ⟨s1, s2, s3, s4, s5⟩ := o.2.2.2.2.2.2.2 i q0 q1
          rw [r_up_ne (b := 7 + i) (by omega), r_up_ne (b := 15 + i) (by omega), r_up_ne (b := 31 + i) (by omega), r_up_ne (b := 39 + i) (by omega)]
          refine ⟨s1, s2, ?_, s4, s5⟩
          by_cases ci : i = a1
          · rw [ci, r_up_eq]
            omega
          · rw [r_up_ne (by omega)]
            exact s3
    · rw [if_pos c2, if_pos (by omega)]
      exact ⟨h, rfl⟩
  · rw [if_pos c1, if_pos c1]
    exact ⟨h, rfl⟩
theorem r2_hand (a1 : Int) {H G : a_P} (h : a_R2 H G) : a_Q2R (fn_64 a1 H) (fn_146 a1 G) := by
  have b0 := h.1.2.1
  have z1 := fe_12h h.1 a1
  have z2 := fe_110 (a := a1) b0.1 b0.2
  have e2 : H 1 2 = G 134 3 := h.1.1.2.2.1
  have e0 : H 1 0 = G 134 1 := h.1.1.1
  simp only [fn_64, fn_146, a_jn, a_bd, z1, z2]
  by_cases c1 : 0 ≤ a1 ∧ a1 < G 134 0
  · have w1 : ¬ ¬ (0 ≤ a1 ∧ a1 < G 134 0) := fun q => q c1
    rw [if_neg w1, if_neg w1]
    obtain ⟨t1, t2, t3, t4, t5⟩ := h.1.1.2.2.2.2.2.2.2 a1 c1.1 c1.2
    obtain ⟨s1, s2, s3, s4, s5⟩ := h.1.2.2.2.2.2.2.2.2 a1 c1.1 c1.2
    have far : fn_18 1 a1 H = fn_114 (G 134 (15 + a1)) (G 134 1) := by
      unfold fn_18
      rw [e0, t2]
      exact fl_far h.1.2.2.1 s2
    have can : fn_34 1 a1 H = if a1 = G 134 3 then 0 else if G 134 (31 + a1) < 1 then 0 else if 1 < fn_114 (G 134 (15 + a1)) (G 134 1) then 0 else 1 := by
      simp only [fn_34, a_jn, e2, t4, far]
    rw [can, a_w_id (x := 31 + a1) (by omega) (by omega), a_w_id (x := 15 + a1) (by omega) (by omega)]
    by_cases d1 : a1 = G 134 3
    · rw [if_pos d1, if_pos rfl, if_pos d1]
      exact ⟨h, rfl⟩
    rw [if_neg d1, if_neg d1]
    by_cases d2 : G 134 (31 + a1) < 1
    · rw [if_pos d2, if_pos rfl, if_pos d2]
      exact ⟨h, rfl⟩
    rw [if_neg d2, if_neg d2]
    by_cases d3 : 1 < fn_114 (G 134 (15 + a1)) (G 134 1)
    · rw [if_pos d3, if_pos rfl, if_pos d3]
      exact ⟨h, rfl⟩
    rw [if_neg d3, if_neg (by decide), if_neg d3]
    obtain ⟨k1, k2, k3⟩ := a_keep2 h
    have o := k1.1.2
    have em : fn_142 G 134 0 = G 134 0 := k2 0
    have eg : fn_142 G 134 1 = G 134 1 := k2 1
    have x1 : a_up (fn_1 13 1 H) 1 2 a1 1 0 = G 134 1 := by rw [a_up_ne (by omega), k3 1 0 (by omega) (by omega), e0]
    have x2 : a_up (fn_142 G) 134 3 a1 134 1 = G 134 1 := by rw [a_up_ne (by omega), eg]
    refine a_Q2i ?_ (by rw [k3 1 2 (by omega) (by omega), e2])
    rw [x1, x2]
    refine a_R2_now k1 ⟨?_, ?_⟩ (fun a b q => by rw [a_up_ne (by omega), a_up_ne (by omega)]) (fun a b q => by rw [a_up_ne (by omega), a_up_ne (by omega)])
    · rw [a_up_row, a_up_row]
      have y := a_sm_f (f := 2) (v := a1) k1.1.1 (by omega) (by omega)
      have := a_sm_a (j := 2) (k := a1) (v := G 134 1) y (by rw [r_up_ne (by omega)]; exact o.1.2) (by omega) (by omega) c1.1 (by omega)
      rw [show (8 : Int) * 2 - 1 + a1 = 15 + a1 by omega] at this
      exact this
    · rw [a_up_row, a_up_row]
      refine a_ok_a (w := r_up (fn_142 G 134) 3 a1) ?_ (fun b q => r_up_ne (by omega)) (fun q => ?_) (fun i q0 q1 => ?_)
      · refine a_ok_f o (fun b q => r_up_ne (by omega)) (r_up_ne (by omega)) (by rw [r_up_ne (by omega)]; exact o.2.1) (by rw [r_up_ne (by omega)]; exact o.2.2.1) (by rw [r_up_eq]; exact Or.inr ⟨c1.1, by omega, by rw [k2]; omega⟩) (by rw [r_up_ne (by omega)]; exact o.2.2.2.2.1) (by rw [r_up_ne (by omega)]; exact o.2.2.2.2.2.1) (by rw [r_up_ne (by omega)]; exact o.2.2.2.2.2.2.1)
      · rw [r_up_eq, r_up_ne (by omega), r_up_ne (by omega), k2]
        omega
      · rw [r_up_ne (by omega)] at q1
        obtain ⟨u1, u2, u3, u4, u5⟩ := o.2.2.2.2.2.2.2 i q0 q1
        have rr : ∀ b, 7 ≤ b → ¬ b = 15 + a1 → r_up (r_up (fn_142 G 134) 3 a1) (15 + a1) (G 134 1) b = fn_142 G 134 b := fun b w1 w2 => by rw [r_up_ne w2, r_up_ne (by omega)]
        rw [rr (7 + i) (by omega) (by omega), rr (23 + i) (by omega) (by omega), rr (31 + i) (by omega) (by omega), rr (39 + i) (by omega) (by omega)]
        refine ⟨u1, ?_, u3, u4, u5⟩
        by_cases ci : i = a1
        · rw [ci, r_up_eq]
          exact h.1.2.2.1
        · rw [rr _ (by omega) (by omega)]
          exact u2
  · rw [if_pos c1, if_pos c1]
    exact ⟨h, rfl⟩
theorem r2_carry (a1 : Int) {H G : a_P} (h : a_R2 H G) : a_Q2R (fn_62 a1 H) (fn_144 a1 G) := by
  have b0 := h.1.2.1
  have e2 : H 1 2 = G 134 3 := h.1.1.2.2.1
  have e0 : H 1 0 = G 134 1 := h.1.1.1
  by_cases c1 : 0 ≤ a1 ∧ a1 < 4
  · have step := fl_step h.1.2.2.1 (show 0 ≤ a1 ∧ a1 ≤ 3 by omega)
    have v1 : ¬ fn_91 a1 4 = 0 := by rw [fe_91z]; exact fun q => q c1
    have v2 : ¬ fn_108 a1 0 3 = 0 := by rw [fe_108z]; exact fun q => q (by omega)
    by_cases cb : G 134 3 = -4
    · have can : fn_32 1 a1 H = 0 := by
        simp only [fn_32, a_jn]
        rw [if_pos ((fe_12h h.1 _).mpr (by rw [e2]; omega))]
      simp only [fn_62, fn_144, a_jn, a_bd]
      rw [if_neg v1, if_neg v2, if_pos can, if_pos cb]
      exact ⟨h, rfl⟩
    · have hb : 0 ≤ G 134 3 ∧ G 134 3 < G 134 0 := by
        rcases h.1.2.2.2.2.1 with r | ⟨r1, r2, -⟩
        · exact absurd r cb
        · exact ⟨r1, r2⟩
      obtain ⟨t1, t2, t3, t4, t5⟩ := h.1.1.2.2.2.2.2.2.2 _ hb.1 hb.2
      obtain ⟨s1, s2, s3, s4, s5⟩ := h.1.2.2.2.2.2.2.2.2 _ hb.1 hb.2
      have can : ∀ X, a_now X G → fn_32 1 a1 X = if G 134 (31 + G 134 3) < 2 then 0 else if fn_17 (G 134 1) a1 = -1 then 0 else 1 := fun X hX => by
        have w2 : X 1 2 = G 134 3 := hX.1.2.2.1
        have w0 : X 1 0 = G 134 1 := hX.1.1
        have w4 : X (1 + 4) (G 134 3) = G 134 (31 + G 134 3) := (hX.1.2.2.2.2.2.2.2 _ hb.1 hb.2).2.2.2.1
        have v : ¬ fn_12 1 (G 134 3) X = 0 := by rw [fe_12h hX]; exact fun q => q hb
        simp only [fn_32, a_jn, w2, w0, w4]
        rw [if_neg v]
      have w31 : a_w (31 + G 134 3) = 31 + G 134 3 := a_w_id (by omega) (by omega)
      have w15 : a_w (15 + G 134 3) = 15 + G 134 3 := a_w_id (by omega) (by omega)
      by_cases d1 : G 134 (31 + G 134 3) < 2
      · have can0 : fn_32 1 a1 H = 0 := by rw [can H h.1, if_pos d1]
        simp only [fn_62, fn_144, a_jn, a_bd, w31]
        rw [if_neg v1, if_neg v2, if_pos can0, if_neg cb, if_pos d1]
        by_cases d2 : fn_112 (G 134 1) a1 = -4
        · rw [if_pos d2]
          exact ⟨h, rfl⟩
        · rw [if_neg d2]
          exact ⟨h, rfl⟩
      · rcases step with ⟨d2, d3⟩ | ⟨d2, d3, d4⟩
        · have can0 : fn_32 1 a1 H = 0 := by rw [can H h.1, if_neg d1, if_pos d2]
          simp only [fn_62, fn_144, a_jn, a_bd, w31]
          rw [if_neg v1, if_neg v2, if_pos can0, if_neg cb, if_pos d3]
          exact ⟨h, rfl⟩
        · have can1 : ∀ X, a_now X G → fn_32 1 a1 X = 1 := fun X hX => by rw [can X hX, if_neg d1, if_neg (by omega)]
          obtain ⟨k1, k2, k3⟩ := a_keep2 h
          have kn : a_now (fn_1 13 1 H) G := a_now_fr h.1 (fun a b q1 q2 => k3 a b q1 (by omega)) (fun _ _ _ => rfl)
          have o := k1.1.2
          have em : fn_142 G 134 0 = G 134 0 := k2 0
          have eb : fn_142 G 134 3 = G 134 3 := k2 3
          have y0 : fn_1 13 1 H 1 0 = G 134 1 := kn.1.1
          have y2 : fn_1 13 1 H 1 2 = G 134 3 := kn.1.2.2.1
          have y4 : fn_1 13 1 H (1 + 4) (G 134 3) = G 134 (31 + G 134 3) := (kn.1.2.2.2.2.2.2.2 _ hb.1 hb.2).2.2.2.1
          have cls : fn_33 1 a1 (fn_1 13 1 H) = a_up (a_up (a_up (fn_1 13 1 H) 1 0 (fn_112 (G 134 1) a1)) (1 + 2) (G 134 3) (fn_112 (G 134 1) a1)) (1 + 4) (G 134 3) (G 134 (31 + G 134 3) - 1) := by
            have q1 : a_up (fn_1 13 1 H) 1 0 (fn_112 (G 134 1) a1) 1 2 = G 134 3 := by rw [a_up_ne (by omega), y2]
            have q2 : a_up (fn_1 13 1 H) 1 0 (fn_112 (G 134 1) a1) 1 0 = fn_112 (G 134 1) a1 := a_up_eq
            have q3 : ∀ v, a_up (a_up (fn_1 13 1 H) 1 0 (fn_112 (G 134 1) a1)) (1 + 2) (G 134 3) v 1 2 = G 134 3 := fun v => by rw [a_up_ne (by omega), q1]
            have q4 : ∀ v, a_up (a_up (fn_1 13 1 H) 1 0 (fn_112 (G 134 1) a1)) (1 + 2) (G 134 3) v (1 + 4) (G 134 3) = G 134 (31 + G 134 3) := fun v => by rw [a_up_ne (by omega), a_up_ne (by omega), y4]
            simp only [fn_33, a_bd]
            rw [can1 _ kn, if_neg (by decide), y0, d2, q1, q2, q3, q4, a_w_id (by omega) (by omega)]
          have cls2 : fn_62 a1 H = (fn_112 (G 134 1) a1, a_up (a_up (a_up (fn_1 13 1 H) 1 0 (fn_112 (G 134 1) a1)) (1 + 2) (G 134 3) (fn_112 (G 134 1) a1)) (1 + 4) (G 134 3) (G 134 (31 + G 134 3) - 1)) := by
            simp only [fn_62, a_bd]
            rw [if_neg v1, if_neg (by rw [can1 H h.1]; decide), cls]
            congr 1
          have mdl : fn_144 a1 G = (fn_112 (G 134 1) a1, a_up (a_up (a_up (fn_142 G) 134 1 (fn_112 (G 134 1) a1)) 134 (15 + G 134 3) (fn_112 (G 134 1) a1)) 134 (31 + G 134 3) (G 134 (31 + G 134 3) - 1)) := by
            have q : a_up (a_up (fn_142 G) 134 1 (fn_112 (G 134 1) a1)) 134 (15 + G 134 3) (fn_112 (G 134 1) a1) 134 (31 + G 134 3) = G 134 (31 + G 134 3) := by rw [a_up_ne (by omega), a_up_ne (by omega), k2]
            simp only [fn_144, a_jn, a_bd, w31, w15]
            rw [if_neg v2, if_neg cb, if_neg (by omega), if_neg d1, q, a_w_id (by omega) (by omega)]
          rw [cls2, mdl]
          refine a_Q2i ?_ rfl
          refine a_R2_now k1 ⟨?_, ?_⟩ (fun a b q => by rw [a_up_ne (by omega), a_up_ne (by omega), a_up_ne (by omega)]) (fun a b q => by rw [a_up_ne (by omega), a_up_ne (by omega), a_up_ne (by omega)])
          · rw [a_up_row, a_up_row, a_up_row]
            have x1 := a_sm_f (f := 0) (v := fn_112 (G 134 1) a1) k1.1.1 (by omega) (by omega)
            have x2 := a_sm_a (j := 2) (k := G 134 3) (v := fn_112 (G 134 1) a1) x1 (by rw [r_up_ne (by omega)]; exact o.1.2) (by omega) (by omega) hb.1 (by omega)
            have x3 := a_sm_a (j := 4) (k := G 134 3) (v := G 134 (31 + G 134 3) - 1) x2 (by rw [r_up_ne (by omega), r_up_ne (by omega)]; exact o.1.2) (by omega) (by omega) hb.1 (by omega)
            rw [show (8 : Int) * 2 - 1 + G 134 3 = 15 + G 134 3 by omega, show (8 : Int) * 4 - 1 + G 134 3 = 31 + G 134 3 by omega] at x3
            exact x3
          · rw [a_up_row, a_up_row, a_up_row]
            have rr : ∀ b, ¬ b = 1 → ¬ b = 15 + G 134 3 → ¬ b = 31 + G 134 3 → r_up (r_up (r_up (fn_142 G 134) 1 (fn_112 (G 134 1) a1)) (15 + G 134 3) (fn_112 (G 134 1) a1)) (31 + G 134 3) (G 134 (31 + G 134 3) - 1) b = G 134 b := fun b w1 w2 w3 => by rw [r_up_ne w3, r_up_ne w2, r_up_ne w1, k2]
            have r1 : r_up (r_up (r_up (fn_142 G 134) 1 (fn_112 (G 134 1) a1)) (15 + G 134 3) (fn_112 (G 134 1) a1)) (31 + G 134 3) (G 134 (31 + G 134 3) - 1) 1 = fn_112 (G 134 1) a1 := by rw [r_up_ne (by omega), r_up_ne (by omega), r_up_eq]
            have r31 : r_up (r_up (r_up (fn_142 G 134) 1 (fn_112 (G 134 1) a1)) (15 + G 134 3) (fn_112 (G 134 1) a1)) (31 + G 134 3) (G 134 (31 + G 134 3) - 1) (31 + G 134 3) = G 134 (31 + G 134 3) - 1 := r_up_eq
            have r15 : r_up (r_up (r_up (fn_142 G 134) 1 (fn_112 (G 134 1) a1)) (15 + G 134 3) (fn_112 (G 134 1) a1)) (31 + G 134 3) (G 134 (31 + G 134 3) - 1) (15 + G 134 3) = fn_112 (G 134 1) a1 := by rw [r_up_ne (by omega), r_up_eq]
            generalize r_up (r_up (r_up (fn_142 G 134) 1 (fn_112 (G 134 1) a1)) (15 + G 134 3) (fn_112 (G 134 1) a1)) (31 + G 134 3) (G 134 (31 + G 134 3) - 1) = w' at rr r1 r31 r15
            obtain ⟨o0, o1, o2, o3, o4, o5, o6, oA⟩ := h.1.2
            refine ⟨by rw [rr 0 (by omega) (by omega) (by omega)]; exact o0, by rw [r1]; exact ⟨d3, d4⟩, by rw [rr 2 (by omega) (by omega) (by omega)]; exact o2, ?_, by rw [rr 4 (by omega) (by omega) (by omega)]; exact o4, by rw [rr 5 (by omega) (by omega) (by omega)]; exact o5, by rw [rr 6 (by omega) (by omega) (by omega)]; exact o6, fun i q0 q1 => ?_⟩
            · rw [rr 3 (by omega) (by omega) (by omega), rr 0 (by omega) (by omega) (by omega), r31]
              exact Or.inr ⟨hb.1, hb.2, by omega⟩
            · rw [rr 0 (by omega) (by omega) (by omega)] at q1
              obtain ⟨u1, u2, u3, u4, u5⟩ := oA i q0 q1
              rw [rr (7 + i) (by omega) (by omega) (by omega), rr (23 + i) (by omega) (by omega) (by omega), rr (39 + i) (by omega) (by omega) (by omega)]
              refine ⟨u1, ?_, u3, ?_, u5⟩
              · by_cases ci : i = G 134 3
                · rw [ci, r15]
                  exact ⟨d3, d4⟩
                · rw [rr _ (by omega) (by omega) (by omega)]
                  exact u2
              · by_cases ci : i = G 134 3
                · rw [ci, r31]
                  omega
                · rw [rr _ (by omega) (by omega) (by omega)]
                  exact u4
  · simp only [fn_62, fn_144, a_bd]
    rw [if_pos ((fe_91z a1 4).mpr c1), if_pos ((fe_108z a1 0 3).mpr (by omega))]
    exact ⟨h, rfl⟩

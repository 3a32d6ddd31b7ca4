/-! UNDONE, the IMAGE, THE TAPE, the DRIFT -/
theorem r2_undo {H G : a_P} (h : a_R2 H G) : a_Q2R (fn_69 H) (fn_151 G) := by
  obtain ⟨g1, g2, g3, g4⟩ := h
  by_cases c : G 133 7 = 0
  · have e1 : fn_2 13 1 H = (0, H) := by
      simp only [fn_2, a_bd]
      rw [g2.1, if_neg (by omega)]
    have e2 : fn_69 H = (-4, H) := by
      simp only [fn_69, a_jn, a_bd, e1]
      rw [if_pos trivial]
    have e3 : fn_151 G = (-4, G) := by
      simp only [fn_151, a_bd]
      rw [if_pos c]
    rw [e2, e3]
    exact ⟨⟨g1, g2, g3, g4⟩, rfl⟩
  · have b7 := g2.2.1
    obtain ⟨X, e, sX, pX, nX⟩ := fl_give g2 (by omega)
    have fX : a_fr (w_2 13 1) H X := by
      have := fr_2 13 1 H
      rw [e] at this
      exact this
    have e2 : fn_69 H = (G 133 7 - 1, X) := by
      simp only [fn_69, a_jn, a_bd, e]
      rw [if_neg (by decide), nX]
    obtain ⟨m1, m2, m3⟩ := fl_mundo (G := G) (by omega) b7.2
    have fm := fr_151 G
    have c1 : ∀ a b, ¬ a = 13 → ¬ (1 ≤ a ∧ a ≤ 6) → X a b = H a b := fun a b q1 q2 => fX a b (by unfold w_2; omega)
    have c2 : ∀ a b, ¬ (a = 133 ∧ b = 7) → ¬ a = 134 → (fn_151 G).2 a b = G a b := fun a b q1 q2 => fm a b (by unfold w_151; omega)
    have okr := (g2.2.2.2 (G 133 7 - 1) (by omega) (by omega)).2
    rw [e2]
    refine ⟨⟨⟨a_sm_e sX okr.1.2 (fun b q0 q1 => m3 b q0 q1), a_ok_e okr (fun b q0 q1 => m3 b q0 q1)⟩, ?_, ?_, ?_⟩, m1.symm⟩
    · show a_pr X 13 ((fn_151 G).2 133 7) (a_mr (fn_151 G).2 137)
      rw [m2]
      exact a_pr_e pX (fun j _ _ b _ _ => c2 137 _ (by omega) (by omega))
    · exact a_im_fr g3 (c1 0 5 (by omega) (by omega)) (fun a b q1 q2 => c1 a b (by omega) (by omega)) (c2 133 17 (by omega) (by omega)) (fun b => c2 140 b (by omega) (by omega)) (fun b => c2 141 b (by omega) (by omega))
    · exact a_tp_fr g4 (c1 119 1 (by omega) (by omega)) (fun b => c1 120 b (by omega) (by omega)) (c2 133 2 (by omega) (by omega)) (fun b => c2 135 b (by omega) (by omega))
def a_Qim (G : a_P) (r : a_F) : Prop := r.1 = 1 ∧ r.2 133 17 = G 133 7 ∧ (∀ b, 0 ≤ b → b < 47 → r.2 140 b = G 134 b) ∧ ∀ b, 0 ≤ b → b < 376 → r.2 141 b = G 137 b
theorem fl_mimage (G : a_P) : a_Qim G (fn_173 G) := by
  unfold fn_173
  refine a_fjn (fun X : a_P => (∀ b, 0 ≤ b → b < 47 → X 140 b = G 134 b) ∧ X 133 7 = G 133 7 ∧ ∀ b, X 137 b = G 137 b) (fun s1 h1 => ?_) (fun j hj => ?_)
  · refine a_fjn (fun X : a_P => (∀ b, 0 ≤ b → b < 47 → X 140 b = G 134 b) ∧ X 133 7 = G 133 7 ∧ ∀ b, 0 ≤ b → b < 376 → X 141 b = G 137 b) (fun s2 h2 => ?_) (fun j hj => ?_)
    · refine ⟨rfl, ?_, fun b q0 q1 => ?_, fun b q0 q1 => ?_⟩
      · show a_up s2 133 17 (s2 133 7) 133 17 = _
        rw [a_up_eq, h2.2.1]
      · show a_up s2 133 17 (s2 133 7) 140 b = _
        rw [a_up_ne (by omega), h2.1 b q0 q1]
      · show a_up s2 133 17 (s2 133 7) 141 b = _
        rw [a_up_ne (by omega), h2.2.2 b q0 q1]
    · refine a_lp_up (Q := a_Qim G) (fun k s => s.1 = (k : Int) ∧ (∀ b, 0 ≤ b → b < 47 → s.2 140 b = G 134 b) ∧ s.2 133 7 = G 133 7 ∧ (∀ b, s.2 137 b = G 137 b) ∧ ∀ b, 0 ≤ b → b < (k : Int) → s.2 141 b = G 137 b) 376 (by omega) (fun k s hk hss nx hn => ?_) (fun s hss nx => ?_) (0, s1) ⟨rfl, h1.1, h1.2.1, h1.2.2, fun b q0 q1 => absurd q1 (by omega)⟩
      · obtain ⟨q1, q2, q3, q4, q5⟩ := hss
        rw [if_pos (by rw [q1]; omega)]
        refine hn _ ⟨?_, fun b r0 r1 => ?_, ?_, fun b => ?_, fun b r0 r1 => ?_⟩
        · show a_w (s.1 + 1) = _
          rw [q1, a_w_id (by omega) (by omega)]
          omega
        · show a_up s.2 141 s.1 (s.2 137 s.1) 140 b = _
          rw [a_up_ne (by omega), q2 b r0 r1]
        · show a_up s.2 141 s.1 (s.2 137 s.1) 133 7 = _
          rw [a_up_ne (by omega), q3]
        · show a_up s.2 141 s.1 (s.2 137 s.1) 137 b = _
          rw [a_up_ne (by omega), q4]
        · show a_up s.2 141 s.1 (s.2 137 s.1) 141 b = _
          by_cases c : b = s.1
          · rw [c, a_up_eq, q4]
          · rw [a_up_ne (by omega), q5 b r0 (by omega)]
      · rw [if_neg (by rw [hss.1]; omega)]
        exact hj _ ⟨hss.2.1, hss.2.2.1, fun b q0 q1 => hss.2.2.2.2 b q0 (by omega)⟩
  · refine a_lp_up (Q := a_Qim G) (fun k s => s.1 = (k : Int) ∧ (∀ b, 0 ≤ b → b < (k : Int) → s.2 140 b = G 134 b) ∧ s.2 133 7 = G 133 7 ∧ (∀ b, s.2 137 b = G 137 b) ∧ ∀ b, s.2 134 b = G 134 b) 47 (by omega) (fun k s hk hss nx hn => ?_) (fun s hss nx => ?_) (0, G) ⟨rfl, fun b q0 q1 => absurd q1 (by omega), rfl, fun _ => rfl, fun _ => rfl⟩
    · obtain ⟨q1, q2, q3, q4, q5⟩ := hss
      rw [if_pos (by rw [q1]; omega)]
      refine hn _ ⟨?_, fun b r0 r1 => ?_, ?_, fun b => ?_, fun b => ?_⟩
      · show a_w (s.1 + 1) = _
        rw [q1, a_w_id (by omega) (by omega)]
        omega
      · show a_up s.2 140 s.1 (s.2 134 s.1) 140 b = _
        by_cases c : b = s.1
        · rw [c, a_up_eq, q5]
        · rw [a_up_ne (by omega), q2 b r0 (by omega)]
      · show a_up s.2 140 s.1 (s.2 134 s.1) 133 7 = _
        rw [a_up_ne (by omega), q3]
      · show a_up s.2 140 s.1 (s.2 134 s.1) 137 b = _
        rw [a_up_ne (by omega), q4]
      · show a_up s.2 140 s.1 (s.2 134 s.1) 134 b = _
        rw [a_up_ne (by omega), q5]
    · rw [if_neg (by rw [hss.1]; omega)]
      exact hj _ ⟨fun b q0 q1 => hss.2.1 b q0 (by omega), hss.2.2.1, hss.2.2.2.1⟩
theorem r2_image {H G : a_P} (h : a_R2 H G) : a_Q2R (fn_83 H) (fn_173 G) := by
  obtain ⟨g1, g2, g3, g4⟩ := h
  obtain ⟨m1, m2, m3, m4⟩ := fl_mimage G
  have fm := fr_173 G
  have fc := fv_83 H
  have c1 : ∀ a b, ¬ (63 ≤ a ∧ a ≤ 118) → ¬ (a = 0 ∧ b = 5) → (fn_83 H).2 a b = H a b := fun a b q1 q2 => fc a b (by omega)
  have c2 : ∀ a b, ¬ (a = 133 ∧ b = 17) → ¬ a = 141 → ¬ a = 140 → (fn_173 G).2 a b = G a b := fun a b q1 q2 q3 => fm a b (by unfold w_173; omega)
  have e1 : (fn_83 H).1 = 1 := rfl
  have e2 : (fn_83 H).2 = a_up (fn_4 69 13 (fn_10 63 1 H)) 0 5 1 := rfl
  refine ⟨⟨a_now_fr g1 (fun a b q1 q2 => c1 a b (by omega) (by omega)) (fun b _ _ => c2 134 b (by omega) (by omega) (by omega)), a_pst_fr g2 (fun a b q => c1 a b (by omega) (by omega)) (c2 133 7 (by omega) (by omega) (by omega)) (fun b => c2 137 b (by omega) (by omega) (by omega)), Or.inr ⟨?_, ?_, ?_, ?_⟩, a_tp_fr g4 (c1 119 1 (by omega) (by omega)) (fun b => c1 120 b (by omega) (by omega)) (c2 133 2 (by omega) (by omega) (by omega)) (fun b => c2 135 b (by omega) (by omega) (by omega))⟩, e1.trans m1.symm⟩
  · rw [e2, a_up_eq]
  · refine a_sm_e (w := G 134) ?_ g1.2.1.2 m3
    rw [e2]
    exact a_sm_fr (fl_like (p := 63) g1.1 g1.2.1.2 (by omega)) (fun a b q1 q2 => by rw [a_up_ne (by omega), fr_4 69 13 _ a b (by unfold a_wr; omega)])
  · exact a_ok_e g1.2 m3
  · rw [m2, e2]
    have p1 : a_pr (fn_10 63 1 H) 13 (G 133 7) (a_mr G 137) := a_pr_fr g2 (fun a b q => fr_10 63 1 H a b (by unfold w_10; omega))
    have p2 : a_pr (fn_4 69 13 (fn_10 63 1 H)) 69 (G 133 7) (a_mr G 137) := fl_plike p1 (by omega)
    have b7 := g2.2.1
    refine a_pr_e (a_pr_fr p2 (fun a b q => a_up_ne (by omega))) (fun j q0 q1 b r0 r1 => ?_)
    exact m4 _ (by omega) (by omega)
def a_Qre (G : a_P) (r : a_F) : Prop := r.1 = 1 ∧ r.2 133 7 = G 133 17 ∧ (∀ b, 0 ≤ b → b < 47 → r.2 134 b = G 140 b) ∧ ∀ b, 0 ≤ b → b < 376 → r.2 137 b = G 141 b
theorem fl_mrestore {G : a_P} (h17 : 0 ≤ G 133 17) : a_Qre G (fn_174 G) := by
  unfold fn_174
  rw [if_neg (by omega)]
  refine a_fjn (fun X : a_P => (∀ b, 0 ≤ b → b < 47 → X 134 b = G 140 b) ∧ X 133 17 = G 133 17 ∧ ∀ b, X 141 b = G 141 b) (fun s1 h1 => ?_) (fun j hj => ?_)
  · refine a_fjn (fun X : a_P => (∀ b, 0 ≤ b → b < 47 → X 134 b = G 140 b) ∧ X 133 17 = G 133 17 ∧ ∀ b, 0 ≤ b → b < 376 → X 137 b = G 141 b) (fun s2 h2 => ?_) (fun j hj => ?_)
    · refine ⟨rfl, ?_, fun b q0 q1 => ?_, fun b q0 q1 => ?_⟩
      · show a_up s2 133 7 (s2 133 17) 133 7 = _
        rw [a_up_eq, h2.2.1]
      · show a_up s2 133 7 (s2 133 17) 134 b = _
        rw [a_up_ne (by omega), h2.1 b q0 q1]
      · show a_up s2 133 7 (s2 133 17) 137 b = _
        rw [a_up_ne (by omega), h2.2.2 b q0 q1]
    · refine a_lp_up (Q := a_Qre G) (fun k s => s.1 = (k : Int) ∧ (∀ b, 0 ≤ b → b < 47 → s.2 134 b = G 140 b) ∧ s.2 133 17 = G 133 17 ∧ (∀ b, s.2 141 b = G 141 b) ∧ ∀ b, 0 ≤ b → b < (k : Int) → s.2 137 b = G 141 b) 376 (by omega) (fun k s hk hss nx hn => ?_) (fun s hss nx => ?_) (0, s1) ⟨rfl, h1.1, h1.2.1, h1.2.2, fun b q0 q1 => absurd q1 (by omega)⟩
      · obtain ⟨q1, q2, q3, q4, q5⟩ := hss
        rw [if_pos (by rw [q1]; omega)]
        refine hn _ ⟨?_, fun b r0 r1 => ?_, ?_, fun b => ?_, fun b r0 r1 => ?_⟩
        · show a_w (s.1 + 1) = _
          rw [q1, a_w_id (by omega) (by omega)]
          omega
        · show a_up s.2 137 s.1 (s.2 141 s.1) 134 b = _
          rw [a_up_ne (by omega), q2 b r0 r1]
        · show a_up s.2 137 s.1 (s.2 141 s.1) 133 17 = _
          rw [a_up_ne (by omega), q3]
        · show a_up s.2 137 s.1 (s.2 141 s.1) 141 b = _
          rw [a_up_ne (by omega), q4]
        · show a_up s.2 137 s.1 (s.2 141 s.1) 137 b = _
          by_cases c : b = s.1
          · rw [c, a_up_eq, q4]
          · rw [a_up_ne (by omega), q5 b r0 (by omega)]
      · rw [if_neg (by rw [hss.1]; omega)]
        exact hj _ ⟨hss.2.1, hss.2.2.1, fun b q0 q1 => hss.2.2.2.2 b q0 (by omega)⟩
  · refine a_lp_up (Q := a_Qre G) (fun k s => s.1 = (k : Int) ∧ (∀ b, 0 ≤ b → b < (k : Int) → s.2 134 b = G 140 b) ∧ s.2 133 17 = G 133 17 ∧ (∀ b, s.2 141 b = G 141 b) ∧ ∀ b, s.2 140 b = G 140 b) 47 (by omega) (fun k s hk hss nx hn => ?_) (fun s hss nx => ?_) (0, G) ⟨rfl, fun b q0 q1 => absurd q1 (by omega), rfl, fun _ => rfl, fun _ => rfl⟩
    · obtain ⟨q1, q2, q3, q4, q5⟩ := hss
      rw [if_pos (by rw [q1]; omega)]
      refine hn _ ⟨?_, fun b r0 r1 => ?_, ?_, fun b => ?_, fun b => ?_⟩
      · show a_w (s.1 + 1) = _
        rw [q1, a_w_id (by omega) (by omega)]
        omega
      · show a_up s.2 134 s.1 (s.2 140 s.1) 134 b = _
        by_cases c : b = s.1
        · rw [c, a_up_eq, q5]
        · rw [a_up_ne (by omega), q2 b r0 (by omega)]
      · show a_up s.2 134 s.1 (s.2 140 s.1) 133 17 = _
        rw [a_up_ne (by omega), q3]
      · show a_up s.2 134 s.1 (s.2 140 s.1) 141 b = _
        rw [a_up_ne (by omega), q4]
      · show a_up s.2 134 s.1 (s.2 140 s.1) 140 b = _
        rw [a_up_ne (by omega), q5]
    · rw [if_neg (by rw [hss.1]; omega)]
      exact hj _ ⟨fun b q0 q1 => hss.2.1 b q0 (by omega), hss.2.2.1, hss.2.2.2.1⟩
theorem r2_restore {H G : a_P} (h : a_R2 H G) : a_Q2R (fn_84 H) (fn_174 G) := by
  obtain ⟨g1, g2, g3, g4⟩ := h
  rcases id g3 with ⟨i1, i2⟩ | ⟨i1, i2, i3, i4⟩
  · have e1 : fn_84 H = (-4, H) := by
      simp only [fn_84, a_bd]
      rw [if_pos i1]
    have e2 : fn_174 G = (-4, G) := by
      unfold fn_174
      rw [if_pos (by omega)]
    rw [e1, e2]
    exact ⟨⟨g1, g2, g3, g4⟩, rfl⟩
  · have b17 := i4.2.1
    obtain ⟨m1, m2, m3, m4⟩ := fl_mrestore (G := G) b17.1
    have fm := fr_174 G
    have fc := fv_84 H
    have e1 : fn_84 H = (1, fn_4 13 69 (fn_10 1 63 H)) := by
      simp only [fn_84, a_bd]
      rw [if_neg (by omega)]
    rw [e1] at fc ⊢
    have c1 : ∀ a b, ¬ (1 ≤ a ∧ a ≤ 62) → fn_4 13 69 (fn_10 1 63 H) a b = H a b := fun a b q1 => fc a b (by omega)
    have c2 : ∀ a b, ¬ (a = 133 ∧ b = 7) → ¬ a = 137 → ¬ a = 134 → (fn_174 G).2 a b = G a b := fun a b q1 q2 q3 => fm a b (by unfold w_174; omega)
    refine ⟨⟨⟨?_, ?_⟩, ?_, a_im_fr g3 (c1 0 5 (by omega)) (fun a b q1 q2 => c1 a b (by omega)) (c2 133 17 (by omega) (by omega) (by omega)) (fun b => c2 140 b (by omega) (by omega) (by omega)) (fun b => c2 141 b (by omega) (by omega) (by omega)), a_tp_fr g4 (c1 119 1 (by omega)) (fun b => c1 120 b (by omega)) (c2 133 2 (by omega) (by omega) (by omega)) (fun b => c2 135 b (by omega) (by omega) (by omega))⟩, m1.symm⟩
    · refine a_sm_e (w := G 140) ?_ i3.1.2 m3
      exact a_sm_fr (fl_like (p := 1) i2 i3.1.2 (by omega)) (fun a b q1 q2 => fr_4 13 69 _ a b (by unfold a_wr; omega))
    · exact a_ok_e i3 m3
    · show a_pr (fn_4 13 69 (fn_10 1 63 H)) 13 ((fn_174 G).2 133 7) (a_mr (fn_174 G).2 137)
      rw [m2]
      have p1 : a_pr (fn_10 1 63 H) 69 (G 133 17) (a_mr G 141) := a_pr_fr i4 (fun a b q => fr_10 1 63 H a b (by unfold w_10; omega))
      refine a_pr_e (fl_plike (p := 13) p1 (by omega)) (fun j q0 q1 b r0 r1 => ?_)
      exact m4 _ (by omega) (by omega)
theorem a_chr0 : ∀ x : Fin 127, a_chr (a_i2c (x.val : Int)) = (x.val : Int) := by decide +kernel
theorem r2_type (a1 : Int) {H G : a_P} (h : a_R2 H G) : a_Q2R (fn_58 a1 H) (fn_131 a1 G) := by
  obtain ⟨g1, g2, g3, ⟨r1, b1, b2⟩⟩ := h
  by_cases hv : 32 ≤ a1 ∧ a1 ≤ 126
  · by_cases c : G 133 2 < 90
    · have e0 : ∀ x, fn_43 x H = (1, a_up (a_up H 120 (G 133 2) (a_chr x)) 119 1 (G 133 2 + 1)) := fun x => by
        simp only [fn_43, a_jn, a_bd, r1]
        rw [if_neg (by omega), if_pos c, a_up_ne (a := 119) (b := 1) (by omega), r1, a_w_id (by omega) (by omega)]
      have ch : a_chr (a_i2c a1) = a1 := by
        obtain ⟨n, rfl⟩ := a_fin (k := 127) (x := a1) (by omega) (by omega)
        exact a_chr0 n
      have e : fn_58 a1 H = (G 133 2 + 1, a_up (a_up H 120 (G 133 2) a1) 119 1 (G 133 2 + 1)) := by
        simp only [fn_58, a_jn, a_bd, e0, ch]
        rw [if_neg (by omega), if_neg (by omega), if_neg (by decide), a_up_eq]
      have e2 : fn_131 a1 G = (G 133 2 + 1, a_up (a_up G 135 (G 133 2) a1) 133 2 (G 133 2 + 1)) := by
        have g : a_up G 135 (G 133 2) a1 133 2 = G 133 2 := a_up_ne (by omega)
        simp only [fn_131, a_bd, g]
        rw [if_neg (by rw [fe_108z]; omega), if_neg (by omega), a_w_id (by omega) (by omega), a_up_eq]
      rw [e, e2]
      have c1 : ∀ a b, ¬ (a = 119 ∧ b = 1) → ¬ a = 120 → a_up (a_up H 120 (G 133 2) a1) 119 1 (G 133 2 + 1) a b = H a b := fun a b q1 q2 => by rw [a_up_ne q1, a_up_ne (by omega)]
      have c2 : ∀ a b, ¬ (a = 133 ∧ b = 2) → ¬ a = 135 → a_up (a_up G 135 (G 133 2) a1) 133 2 (G 133 2 + 1) a b = G a b := fun a b q1 q2 => by rw [a_up_ne q1, a_up_ne (by omega)]
      refine a_Q2i ⟨a_now_fr g1 (fun a b q1 q2 => c1 a b (by omega) (by omega)) (fun b _ _ => c2 134 b (by omega) (by omega)), a_pst_fr g2 (fun a b q => c1 a b (by omega) (by omega)) (c2 133 7 (by omega) (by omega)) (fun b => c2 137 b (by omega) (by omega)), a_im_fr g3 (c1 0 5 (by omega) (by omega)) (fun a b q1 q2 => c1 a b (by omega) (by omega)) (c2 133 17 (by omega) (by omega)) (fun b => c2 140 b (by omega) (by omega)) (fun b => c2 141 b (by omega) (by omega)), ?_⟩ rfl
      have z2 : a_up (a_up G 135 (G 133 2) a1) 133 2 (G 133 2 + 1) 133 2 = G 133 2 + 1 := a_up_eq
      refine ⟨by rw [a_up_eq, z2], by rw [z2]; omega, fun i q0 q1 => ?_⟩
      rw [z2] at q1
      by_cases ci : i = G 133 2
      · rw [ci, a_up_ne (a := 120) (by omega), a_up_eq, a_up_ne (a := 135) (by omega), a_up_eq]
        exact ⟨rfl, hv.1, hv.2⟩
      · rw [a_up_ne (a := 120) (by omega), a_up_ne (a := 120) (by omega), a_up_ne (a := 135) (by omega), a_up_ne (a := 135) (by omega)]
        exact b2 i q0 (by omega)
    · have e0 : ∀ x, fn_43 x H = (0, H) := fun x => by
        simp only [fn_43, a_jn, a_bd, r1]
        rw [if_neg (by omega), if_neg c]
      have e : fn_58 a1 H = (-3, H) := by
        simp only [fn_58, a_jn, a_bd, e0]
        rw [if_neg (by omega), if_neg (by omega), if_pos trivial]
      have e2 : fn_131 a1 G = (-3, G) := by
        simp only [fn_131, a_bd]
        rw [if_neg (by rw [fe_108z]; omega), if_pos (by omega)]
      rw [e, e2]
      exact ⟨⟨g1, g2, g3, ⟨r1, b1, b2⟩⟩, rfl⟩
  · have e : fn_58 a1 H = (-1, H) := by
      simp only [fn_58, a_jn, a_bd]
      by_cases c : a1 < 32
      · rw [if_pos c]
      · rw [if_neg c, if_pos (by omega)]
    have e2 : fn_131 a1 G = (-1, G) := by
      simp only [fn_131]
      rw [if_pos (by rw [fe_108z]; exact hv)]
    rw [e, e2]
    exact ⟨⟨g1, g2, g3, ⟨r1, b1, b2⟩⟩, rfl⟩

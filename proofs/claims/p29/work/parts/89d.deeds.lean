/-! WHAT IS DONE, on: PEOPLE, UNDONE, the IMAGE, THE TAPE, the DRIFT -/
theorem r2_person (a1 a2 a3 : Int) {H G : a_P} (h : a_R2 H G) : a_Q2R (fn_55 a1 a2 a3 H) (fn_126 a1 a2 a3 G) := by
  have b0 := h.1.2.1
  have e6 : H 1 6 = G 134 0 := h.1.1.2.2.2.2.2.2.1
  simp only [fn_55, fn_126, fn_111, a_jn, a_bd, fe_91z, fe_108z, e6]
  by_cases c1 : 0 ≤ a1 ∧ a1 < 5
  · have v1 : ¬ ¬ (0 ≤ a1 ∧ a1 < 5) := fun q => q c1
    have v2 : ¬ ¬ (0 ≤ a1 ∧ a1 ≤ 4) := fun q => q (by omega)
    rw [if_neg v1, if_neg v2]
    by_cases c2 : 0 ≤ a2 ∧ a2 < 36
    · have v1 : ¬ ¬ (0 ≤ a2 ∧ a2 < 36) := fun q => q c2
      have v2 : ¬ ¬ (0 ≤ a2 ∧ a2 ≤ 35) := fun q => q (by omega)
      rw [if_neg v1, if_neg v2]
      by_cases c3 : 0 ≤ a3 ∧ a3 < 21
      · have v1 : ¬ ¬ (0 ≤ a3 ∧ a3 < 21) := fun q => q c3
        have v2 : ¬ ¬ (0 ≤ a3 ∧ a3 ≤ 20) := fun q => q (by omega)
        rw [if_neg v1, if_neg v2]
        by_cases c4 : G 134 0 < 8
        · rw [if_pos c4, if_neg (by omega)]
          have n0 : G 134 0 = H 1 6 := e6.symm
          have cls : fn_11 1 a1 a2 4 a3 (fn_3 13 H) = (G 134 0, a_up (a_up (a_up (a_up (a_up (a_up (a_up H 13 2 0) (1 + 1) (G 134 0) a1) (1 + 2) (G 134 0) a2) (1 + 3) (G 134 0) 4) (1 + 4) (G 134 0) a3) (1 + 5) (G 134 0) 0) 1 6 (G 134 0 + 1)) := by
            have q0 : a_up H 13 2 0 1 6 = G 134 0 := by rw [a_up_ne (by omega), e6]
            simp only [fn_11, fn_3, a_jn, a_bd, q0]
            rw [if_neg (by omega), if_pos c4, a_up_ne (a := 1) (b := 6) (by omega), a_up_ne (a := 1) (b := 6) (by omega), a_up_ne (a := 1) (b := 6) (by omega), a_up_ne (a := 1) (b := 6) (by omega), a_up_ne (a := 1) (b := 6) (by omega), q0, a_w_id (x := G 134 0 + 1) (by omega) (by omega)]
          have mdl : fn_125 a1 a2 4 a3 G = a_up (a_up (a_up (a_up (a_up (a_up (a_up G 134 0 (G 134 0 + 1)) 134 (7 + G 134 0) a1) 134 (15 + G 134 0) a2) 134 (23 + G 134 0) 4) 134 (31 + G 134 0) a3) 134 (39 + G 134 0) 0) 133 7 0 := by
            simp only [fn_125, a_bd]
            rw [a_w_id (x := G 134 0 + 1) (by omega) (by omega), a_w_id (x := 7 + G 134 0) (by omega) (by omega), a_w_id (x := 15 + G 134 0) (by omega) (by omega), a_w_id (x := 23 + G 134 0) (by omega) (by omega), a_w_id (x := 31 + G 134 0) (by omega) (by omega), a_w_id (x := 39 + G 134 0) (by omega) (by omega)]
          rw [cls, mdl]
          generalize hm : G 134 0 = m0 at *
          have p0 : a_up (a_up (a_up (a_up (a_up (a_up (a_up G 134 0 (m0 + 1)) 134 (7 + m0) a1) 134 (15 + m0) a2) 134 (23 + m0) 4) 134 (31 + m0) a3) 134 (39 + m0) 0) 133 7 0 134 0 = m0 + 1 := by rw [a_up_ne (by omega), a_up_ne (by omega), a_up_ne (by omega), a_up_ne (by omega), a_up_ne (by omega), a_up_ne (by omega), a_up_eq]
          have p7 : a_up (a_up (a_up (a_up (a_up (a_up (a_up G 134 0 (m0 + 1)) 134 (7 + m0) a1) 134 (15 + m0) a2) 134 (23 + m0) 4) 134 (31 + m0) a3) 134 (39 + m0) 0) 133 7 0 134 (7 + m0) = a1 := by rw [a_up_ne (by omega), a_up_ne (by omega), a_up_ne (by omega), a_up_ne (by omega), a_up_ne (by omega), a_up_eq]
          have p15 : a_up (a_up (a_up (a_up (a_up (a_up (a_up G 134 0 (m0 + 1)) 134 (7 + m0) a1) 134 (15 + m0) a2) 134 (23 + m0) 4) 134 (31 + m0) a3) 134 (39 + m0) 0) 133 7 0 134 (15 + m0) = a2 := by rw [a_up_ne (by omega), a_up_ne (by omega), a_up_ne (by omega), a_up_ne (by omega), a_up_eq]
          have p23 : a_up (a_up (a_up (a_up (a_up (a_up (a_up G 134 0 (m0 + 1)) 134 (7 + m0) a1) 134 (15 + m0) a2) 134 (23 + m0) 4) 134 (31 + m0) a3) 134 (39 + m0) 0) 133 7 0 134 (23 + m0) = 4 := by rw [a_up_ne (by omega), a_up_ne (by omega), a_up_ne (by omega), a_up_eq]
          have p31 : a_up (a_up (a_up (a_up (a_up (a_up (a_up G 134 0 (m0 + 1)) 134 (7 + m0) a1) 134 (15 + m0) a2) 134 (23 + m0) 4) 134 (31 + m0) a3) 134 (39 + m0) 0) 133 7 0 134 (31 + m0) = a3 := by rw [a_up_ne (by omega), a_up_ne (by omega), a_up_eq]
          have p39 : a_up (a_up (a_up (a_up (a_up (a_up (a_up G 134 0 (m0 + 1)) 134 (7 + m0) a1) 134 (15 + m0) a2) 134 (23 + m0) 4) 134 (31 + m0) a3) 134 (39 + m0) 0) 133 7 0 134 (39 + m0) = 0 := by rw [a_up_ne (by omega), a_up_eq]
          have pu : a_up (a_up (a_up (a_up (a_up (a_up (a_up G 134 0 (m0 + 1)) 134 (7 + m0) a1) 134 (15 + m0) a2) 134 (23 + m0) 4) 134 (31 + m0) a3) 134 (39 + m0) 0) 133 7 0 133 7 = 0 := a_up_eq
          have po : ∀ b, ¬ b = 0 → ¬ b = 7 + m0 → ¬ b = 15 + m0 → ¬ b = 23 + m0 → ¬ b = 31 + m0 → ¬ b = 39 + m0 → a_up (a_up (a_up (a_up (a_up (a_up (a_up G 134 0 (m0 + 1)) 134 (7 + m0) a1) 134 (15 + m0) a2) 134 (23 + m0) 4) 134 (31 + m0) a3) 134 (39 + m0) 0) 133 7 0 134 b = G 134 b := fun b w0 w1 w2 w3 w4 w5 => by rw [a_up_ne (by omega), a_up_ne (by omega), a_up_ne (by omega), a_up_ne (by omega), a_up_ne (by omega), a_up_ne (by omega), a_up_ne (by omega)]
          have pz : ∀ a b, ¬ a = 134 → ¬ (a = 133 ∧ b = 7) → a_up (a_up (a_up (a_up (a_up (a_up (a_up G 134 0 (m0 + 1)) 134 (7 + m0) a1) 134 (15 + m0) a2) 134 (23 + m0) 4) 134 (31 + m0) a3) 134 (39 + m0) 0) 133 7 0 a b = G a b := fun a b w0 w1 => by rw [a_up_ne (by omega), a_up_ne (by omega), a_up_ne (by omega), a_up_ne (by omega), a_up_ne (by omega), a_up_ne (by omega), a_up_ne (by omega)]
          generalize a_up (a_up (a_up (a_up (a_up (a_up (a_up G 134 0 (m0 + 1)) 134 (7 + m0) a1) 134 (15 + m0) a2) 134 (23 + m0) 4) 134 (31 + m0) a3) 134 (39 + m0) 0) 133 7 0 = G' at *
          have c0 : ∀ b, ¬ b = 6 → a_up (a_up (a_up (a_up (a_up (a_up (a_up H 13 2 0) (1 + 1) m0 a1) (1 + 2) m0 a2) (1 + 3) m0 4) (1 + 4) m0 a3) (1 + 5) m0 0) 1 6 (m0 + 1) 1 b = H 1 b := fun b w => by rw [a_up_ne (by omega), a_up_ne (by omega), a_up_ne (by omega), a_up_ne (by omega), a_up_ne (by omega), a_up_ne (by omega), a_up_ne (by omega)]
          have c6 : a_up (a_up (a_up (a_up (a_up (a_up (a_up H 13 2 0) (1 + 1) m0 a1) (1 + 2) m0 a2) (1 + 3) m0 4) (1 + 4) m0 a3) (1 + 5) m0 0) 1 6 (m0 + 1) 1 6 = m0 + 1 := a_up_eq
          have cA : ∀ j i, 1 ≤ j → j ≤ 5 → ¬ i = m0 → a_up (a_up (a_up (a_up (a_up (a_up (a_up H 13 2 0) (1 + 1) m0 a1) (1 + 2) m0 a2) (1 + 3) m0 4) (1 + 4) m0 a3) (1 + 5) m0 0) 1 6 (m0 + 1) (1 + j) i = H (1 + j) i := fun j i w0 w1 w => by rw [a_up_ne (by omega), a_up_ne (by omega), a_up_ne (by omega), a_up_ne (by omega), a_up_ne (by omega), a_up_ne (by omega), a_up_ne (by omega)]
          have d1 : a_up (a_up (a_up (a_up (a_up (a_up (a_up H 13 2 0) (1 + 1) m0 a1) (1 + 2) m0 a2) (1 + 3) m0 4) (1 + 4) m0 a3) (1 + 5) m0 0) 1 6 (m0 + 1) (1 + 1) m0 = a1 := by rw [a_up_ne (by omega), a_up_ne (by omega), a_up_ne (by omega), a_up_ne (by omega), a_up_ne (by omega), a_up_eq]
          have d2 : a_up (a_up (a_up (a_up (a_up (a_up (a_up H 13 2 0) (1 + 1) m0 a1) (1 + 2) m0 a2) (1 + 3) m0 4) (1 + 4) m0 a3) (1 + 5) m0 0) 1 6 (m0 + 1) (1 + 2) m0 = a2 := by rw [a_up_ne (by omega), a_up_ne (by omega), a_up_ne (by omega), a_up_ne (by omega), a_up_eq]
          have d3 : a_up (a_up (a_up (a_up (a_up (a_up (a_up H 13 2 0) (1 + 1) m0 a1) (1 + 2) m0 a2) (1 + 3) m0 4) (1 + 4) m0 a3) (1 + 5) m0 0) 1 6 (m0 + 1) (1 + 3) m0 = 4 := by rw [a_up_ne (by omega), a_up_ne (by omega), a_up_ne (by omega), a_up_eq]
          have d4 : a_up (a_up (a_up (a_up (a_up (a_up (a_up H 13 2 0) (1 + 1) m0 a1) (1 + 2) m0 a2) (1 + 3) m0 4) (1 + 4) m0 a3) (1 + 5) m0 0) 1 6 (m0 + 1) (1 + 4) m0 = a3 := by rw [a_up_ne (by omega), a_up_ne (by omega), a_up_eq]
          have d5 : a_up (a_up (a_up (a_up (a_up (a_up (a_up H 13 2 0) (1 + 1) m0 a1) (1 + 2) m0 a2) (1 + 3) m0 4) (1 + 4) m0 a3) (1 + 5) m0 0) 1 6 (m0 + 1) (1 + 5) m0 = 0 := by rw [a_up_ne (by omega), a_up_eq]
          have cz : ∀ a b, ¬ (1 ≤ a ∧ a ≤ 6) → ¬ (a = 13 ∧ b = 2) → a_up (a_up (a_up (a_up (a_up (a_up (a_up H 13 2 0) (1 + 1) m0 a1) (1 + 2) m0 a2) (1 + 3) m0 4) (1 + 4) m0 a3) (1 + 5) m0 0) 1 6 (m0 + 1) a b = H a b := fun a b w0 w1 => by rw [a_up_ne (by omega), a_up_ne (by omega), a_up_ne (by omega), a_up_ne (by omega), a_up_ne (by omega), a_up_ne (by omega), a_up_ne (by omega)]
          have c2' : a_up (a_up (a_up (a_up (a_up (a_up (a_up H 13 2 0) (1 + 1) m0 a1) (1 + 2) m0 a2) (1 + 3) m0 4) (1 + 4) m0 a3) (1 + 5) m0 0) 1 6 (m0 + 1) 13 2 = 0 := by rw [a_up_ne (by omega), a_up_ne (by omega), a_up_ne (by omega), a_up_ne (by omega), a_up_ne (by omega), a_up_ne (by omega), a_up_eq]
          generalize a_up (a_up (a_up (a_up (a_up (a_up (a_up H 13 2 0) (1 + 1) m0 a1) (1 + 2) m0 a2) (1 + 3) m0 4) (1 + 4) m0 a3) (1 + 5) m0 0) 1 6 (m0 + 1) = H' at *
          obtain ⟨⟨hs, ho⟩, g2, g3, g4⟩ := h
          obtain ⟨s0, s1, s2, s3, s4, s5, s6, sA⟩ := hs
          obtain ⟨o0, o1, o2, o3, o4, o5, o6, oA⟩ := ho
          rw [hm] at sA oA o3 o0
          refine ⟨⟨⟨?_, ?_⟩, ?_, ?_, ?_⟩, by show m0 = a_w (G' 134 0 - 1); rw [p0, a_w_id (by omega) (by omega)]; omega⟩
          · show a_sm H' 1 (G' 134)
            refine ⟨by rw [c0 0 (by omega), s0, po 1 (by omega) (by omega) (by omega) (by omega) (by omega) (by omega)], by rw [c0 1 (by omega), s1, po 2 (by omega) (by omega) (by omega) (by omega) (by omega) (by omega)], by rw [c0 2 (by omega), s2, po 3 (by omega) (by omega) (by omega) (by omega) (by omega) (by omega)], by rw [c0 3 (by omega), s3, po 4 (by omega) (by omega) (by omega) (by omega) (by omega) (by omega)], by rw [c0 4 (by omega), s4, po 5 (by omega) (by omega) (by omega) (by omega) (by omega) (by omega)], by rw [c0 5 (by omega), s5, po 6 (by omega) (by omega) (by omega) (by omega) (by omega) (by omega)], by rw [c6, p0], fun i q0 q1 => ?_⟩
            by_cases ci : i = m0
            · rw [ci]
              exact ⟨d1.trans p7.symm, d2.trans p15.symm, d3.trans p23.symm, d4.trans p31.symm, d5.trans p39.symm⟩
            · obtain ⟨a1', a2', a3', a4', a5'⟩ := sA i q0 (by omega)
              refine ⟨?_, ?_, ?_, ?_, ?_⟩
              · rw [cA 1 i (by omega) (by omega) ci, a1', po _ (by omega) (by omega) (by omega) (by omega) (by omega) (by omega)]
              · rw [cA 2 i (by omega) (by omega) ci, a2', po _ (by omega) (by omega) (by omega) (by omega) (by omega) (by omega)]
              · rw [cA 3 i (by omega) (by omega) ci, a3', po _ (by omega) (by omega) (by omega) (by omega) (by omega) (by omega)]
              · rw [cA 4 i (by omega) (by omega) ci, a4', po _ (by omega) (by omega) (by omega) (by omega) (by omega) (by omega)]
              · rw [cA 5 i (by omega) (by omega) ci, a5', po _ (by omega) (by omega) (by omega) (by omega) (by omega) (by omega)]
          · show a_ok 9999 (G' 134)
            refine ⟨by rw [p0]; omega, by rw [po 1 (by omega) (by omega) (by omega) (by omega) (by omega) (by omega)]; exact o1, by rw [po 2 (by omega) (by omega) (by omega) (by omega) (by omega) (by omega)]; exact o2, ?_, by rw [po 4 (by omega) (by omega) (by omega) (by omega) (by omega) (by omega)]; exact o4, by rw [po 5 (by omega) (by omega) (by omega) (by omega) (by omega) (by omega)]; exact o5, by rw [po 6 (by omega) (by omega) (by omega) (by omega) (by omega) (by omega)]; exact o6, fun i q0 q1 => ?_⟩
            · rw [po 3 (by omega) (by omega) (by omega) (by omega) (by omega) (by omega), p0]
              rcases o3 with r | ⟨r1, r2, r3⟩
              · exact Or.inl r
              · exact Or.inr ⟨r1, by omega, by rw [po _ (by omega) (by omega) (by omega) (by omega) (by omega) (by omega)]; exact r3⟩
            · by_cases ci : i = m0
              · rw [ci, p7, p15, p23, p31, p39]
                omega
              · obtain ⟨u1, u2, u3, u4, u5⟩ := oA i q0 (by omega)
                rw [po (7 + i) (by omega) (by omega) (by omega) (by omega) (by omega) (by omega), po (15 + i) (by omega) (by omega) (by omega) (by omega) (by omega) (by omega), po (23 + i) (by omega) (by omega) (by omega) (by omega) (by omega) (by omega), po (31 + i) (by omega) (by omega) (by omega) (by omega) (by omega) (by omega), po (39 + i) (by omega) (by omega) (by omega) (by omega) (by omega) (by omega)]
                exact ⟨u1, u2, u3, u4, u5⟩
          · show a_pr H' 13 (G' 133 7) (a_mr G' 137)
            refine ⟨by rw [c2', pu], by rw [pu]; omega, by rw [cz 13 1 (by omega) (by omega)]; exact g2.2.2.1, fun j q0 q1 => absurd q1 (by rw [pu]; omega)⟩
          · exact a_im_fr g3 (cz 0 5 (by omega) (by omega)) (fun a b w0 w1 => cz a b (by omega) (by omega)) (pz 133 17 (by omega) (by omega)) (fun b => pz 140 b (by omega) (by omega)) (fun b => pz 141 b (by omega) (by omega))
          · exact a_tp_fr g4 (cz 119 1 (by omega) (by omega)) (fun b => cz 120 b (by omega) (by omega)) (pz 133 2 (by omega) (by omega)) (fun b => pz 135 b (by omega) (by omega))
        · rw [if_neg c4, if_pos (by omega)]
          exact ⟨h, rfl⟩
      · rw [if_pos c3, if_pos (by omega)]
        exact ⟨h, rfl⟩
    · rw [if_pos c2, if_pos (by omega)]
      exact ⟨h, rfl⟩
  · rw [if_pos c1, if_pos (by omega)]
    exact ⟨h, rfl⟩

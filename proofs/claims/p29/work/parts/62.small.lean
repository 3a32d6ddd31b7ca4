-- the image
def a_Q17 (r : a_F) : Prop := 0 ≤ r.2 133 17
theorem fe_173 {X : a_P} (h : 0 ≤ X 133 7) : a_Q17 (fn_173 X) := by
  unfold fn_173
  refine a_fjn (fun G => 0 ≤ G 133 7) (fun s1 h1 => ?_) (fun j hj => ?_)
  · refine a_fjn (fun G => 0 ≤ G 133 7) (fun s2 h2 => ?_) (fun j hj => ?_)
    · show 0 ≤ a_up s2 133 17 (s2 133 7) 133 17
      rw [a_up_eq]
      exact h2
    · refine a_lp_up (fun i s => s.1 = (i : Int) ∧ 0 ≤ s.2 133 7) 376 (by decide) (fun i s hi hs nx hn => ?_) (fun s hs nx => ?_) (0, s1) ⟨rfl, h1⟩
      · rw [if_pos (by rw [hs.1]; omega)]
        refine hn _ ⟨?_, ?_⟩
        · show a_w (s.1 + 1) = _
          rw [hs.1, a_w_id (by omega) (by omega)]
          omega
        · show 0 ≤ a_up s.2 141 s.1 (s.2 137 s.1) 133 7
          rw [a_up_ne (by omega)]
          exact hs.2
      · rw [if_neg (by rw [hs.1]; omega)]
        exact hj _ hs.2
  · refine a_lp_up (fun i s => s.1 = (i : Int) ∧ 0 ≤ s.2 133 7) 47 (by decide) (fun i s hi hs nx hn => ?_) (fun s hs nx => ?_) (0, X) ⟨rfl, h⟩
    · rw [if_pos (by rw [hs.1]; omega)]
      refine hn _ ⟨?_, ?_⟩
      · show a_w (s.1 + 1) = _
        rw [hs.1, a_w_id (by omega) (by omega)]
        omega
      · show 0 ≤ a_up s.2 140 s.1 (s.2 134 s.1) 133 7
        rw [a_up_ne (by omega)]
        exact hs.2
    · rw [if_neg (by rw [hs.1]; omega)]
      exact hj _ hs.2
theorem rI_image {G : a_P} (hR : a_I G) (hS : a_S G) : a_I (fn_173 (fn_83 G).2).2 := by
  refine Or.inr ⟨?_, ?_⟩
  · have e := fr_173 (fn_83 G).2 0 5 (by unfold w_173; omega)
    refine Eq.trans e ?_
    simp only [fn_83, a_bd]
    exact a_up_eq
  · refine fe_173 ?_
    rw [fv_83 G 133 7 (by omega)]
    exact hS.2.2.1.1
def a_Qv (v : Int) (r : a_F) : Prop := r.1 = v
theorem fe_174 (X : a_P) (h : ¬ X 133 17 < 0) : a_Qv 1 (fn_174 X) := by
  unfold fn_174
  rw [if_neg h]
  refine a_fjn (fun _ => True) (fun s1 h1 => ?_) (fun j hj => ?_)
  · refine a_fjn (fun _ => True) (fun s2 h2 => rfl) (fun j hj => ?_)
    refine a_lp_up (fun i s => s.1 = (i : Int)) 376 (by decide) (fun i s hi hs nx hn => ?_) (fun s hs nx => ?_) (0, s1) rfl
    · rw [if_pos (by rw [hs]; omega)]
      refine hn _ ?_
      show a_w (s.1 + 1) = _
      rw [hs, a_w_id (by omega) (by omega)]
      omega
    · rw [if_neg (by rw [hs]; omega)]
      exact hj _ trivial
  · refine a_lp_up (fun i s => s.1 = (i : Int)) 47 (by decide) (fun i s hi hs nx hn => ?_) (fun s hs nx => ?_) (0, X) rfl
    · rw [if_pos (by rw [hs]; omega)]
      refine hn _ ?_
      show a_w (s.1 + 1) = _
      rw [hs, a_w_id (by omega) (by omega)]
      omega
    · rw [if_neg (by rw [hs]; omega)]
      exact hj _ trivial
theorem aI_restore {G : a_P} (hR : a_I G) : (fn_84 G).1 = (fn_174 (fn_84 G).2).1 := by
  have e17 : (fn_84 G).2 133 17 = G 133 17 := fv_84 G 133 17 (by omega)
  rcases hR with ⟨h1, h2⟩ | ⟨h1, h2⟩
  · have e : fn_84 G = (-4, G) := by
      unfold fn_84
      rw [if_pos h1]
    rw [e]
    show -4 = (fn_174 G).1
    unfold fn_174
    rw [if_pos (by omega)]
  · have e : (fn_84 G).1 = 1 := by
      simp only [fn_84, a_bd]
      rw [if_neg (by omega)]
    rw [e]
    exact (fe_174 _ (by rw [e17]; omega)).symm
-- the tape
theorem rT_type (a1 : Int) {G : a_P} (hR : a_T G) (hS : a_S G) : a_T (fn_131 a1 (fn_58 a1 G).2).2 ∧ (fn_58 a1 G).1 = (fn_131 a1 (fn_58 a1 G).2).1 := by
  have r1 : G 119 1 = G 133 2 := hR
  have b1 := hS.2.2.2.2.1
  by_cases hv : 32 ≤ a1 ∧ a1 ≤ 126
  · by_cases c : G 119 1 < 90
    · have e0 : ∀ x, fn_43 x G = (1, a_up (a_up G 120 (G 119 1) (a_chr x)) 119 1 (G 119 1 + 1)) := fun x => by
        simp only [fn_43, a_jn, a_bd]
        rw [if_neg (by omega), if_pos c, a_up_ne (a := 119) (b := 1) (by omega), a_w_id (by omega) (by omega)]
      have e : fn_58 a1 G = (G 119 1 + 1, a_up (a_up G 120 (G 119 1) (a_chr (a_i2c a1))) 119 1 (G 119 1 + 1)) := by
        simp only [fn_58, a_jn, a_bd, e0]
        rw [if_neg (by omega), if_neg (by omega), if_neg (by decide), a_up_eq]
      rw [e]
      simp only []
      generalize hG1 : a_up (a_up G 120 (G 119 1) (a_chr (a_i2c a1))) 119 1 (G 119 1 + 1) = G1
      have f2 : G1 119 1 = G 119 1 + 1 := by rw [← hG1, a_up_eq]
      have f3 : G1 133 2 = G 119 1 := by rw [← hG1, a_up_ne (by omega), a_up_ne (by omega), ← r1]
      have e2 : fn_131 a1 G1 = (G 119 1 + 1, a_up (a_up G1 135 (G 119 1) a1) 133 2 (G 119 1 + 1)) := by
        have g : a_up G1 135 (G 119 1) a1 133 2 = G 119 1 := by rw [a_up_ne (by omega), f3]
        simp only [fn_131, a_bd, f3, g]
        rw [if_neg (by rw [fe_108z]; omega), if_neg (by omega), a_w_id (by omega) (by omega), a_up_eq]
      rw [e2]
      refine ⟨?_, rfl⟩
      show a_up (a_up G1 135 (G 119 1) a1) 133 2 (G 119 1 + 1) 119 1 = a_up (a_up G1 135 (G 119 1) a1) 133 2 (G 119 1 + 1) 133 2
      rw [a_up_eq, a_up_ne (by omega), a_up_ne (by omega), f2]
    · have e0 : ∀ x, fn_43 x G = (0, G) := fun x => by
        simp only [fn_43, a_jn, a_bd]
        rw [if_neg (by omega), if_neg c]
      have e : fn_58 a1 G = (-3, G) := by
        simp only [fn_58, a_jn, a_bd, e0]
        rw [if_neg (by omega), if_neg (by omega), if_pos trivial]
      have e2 : fn_131 a1 G = (-3, G) := by
        simp only [fn_131, a_bd]
        rw [if_neg (by rw [fe_108z]; omega), if_pos (by rw [← r1]; omega)]
      rw [e]
      show a_T (fn_131 a1 G).2 ∧ -3 = (fn_131 a1 G).1
      rw [e2]
      exact ⟨hR, rfl⟩
  · have e : fn_58 a1 G = (-1, G) := by
      simp only [fn_58, a_jn, a_bd]
      by_cases c : a1 < 32
      · rw [if_pos c]
      · rw [if_neg c, if_pos (by omega)]
    have e2 : fn_131 a1 G = (-1, G) := by
      simp only [fn_131]
      rw [if_pos (by rw [fe_108z]; exact hv)]
    rw [e]
    show a_T (fn_131 a1 G).2 ∧ -1 = (fn_131 a1 G).1
    rw [e2]
    exact ⟨hR, rfl⟩
-- the sheets
theorem rSh_drop (a1 : Int) {G : a_P} (hR : a_Sh G) (hS : a_S G) : a_Sh (fn_178 a1 (fn_88 a1 G).2).2 ∧ (fn_88 a1 G).1 = (fn_178 a1 (fn_88 a1 G).2).1 := by
  by_cases c : 0 ≤ a1 ∧ a1 < 4
  · rcases hR a1 c.1 c.2 with ⟨h1, h2⟩ | ⟨h1, h2, h3, h4⟩
    · have e : fn_88 a1 G = (-11, G) := by
        simp only [fn_88, a_bd]
        rw [if_neg (by rw [fe_91z]; exact fun h => h c), if_pos h1]
      have e2 : fn_178 a1 G = (-11, G) := by
        simp only [fn_178, a_bd]
        rw [if_neg (by rw [fe_175z]; exact fun h => h c), if_pos (by omega)]
      rw [e]
      show a_Sh (fn_178 a1 G).2 ∧ -11 = (fn_178 a1 G).1
      rw [e2]
      exact ⟨hR, rfl⟩
    · have e : fn_88 a1 G = (G (121 + (4 + 2 * a1)) 2, a_up G (121 + (4 + 2 * a1)) 0 0) := by
        simp only [fn_88, a_bd]
        rw [if_neg (by rw [fe_91z]; exact fun h => h c), if_neg (by omega), a_up_ne (b := 2) (by omega)]
      rw [e]
      simp only []
      generalize hG1 : a_up G (121 + (4 + 2 * a1)) 0 0 = G1
      have f1 : ∀ a b, ¬ (a = 121 + (4 + 2 * a1) ∧ b = 0) → G1 a b = G a b := fun a b g => by rw [← hG1, a_up_ne g]
      have e2 : fn_178 a1 G1 = (G 143 a1, a_up G1 142 a1 (-1)) := by
        simp only [fn_178, a_bd]
        rw [if_neg (by rw [fe_175z]; exact fun h => h c), if_neg (by rw [f1 142 a1 (by omega)]; omega), a_up_ne (a := 143) (by omega), f1 143 a1 (by omega)]
      rw [e2]
      refine ⟨fun s h0 h5 => ?_, h4⟩
      have h6 := hR s h0 h5
      unfold a_sh at h6 ⊢
      by_cases cs : s = a1
      · subst cs
        refine Or.inl ⟨?_, ?_⟩
        · show a_up G1 142 s (-1) (121 + (4 + 2 * s)) 0 = 0
          rw [a_up_ne (by omega), ← hG1, a_up_eq]
        · exact a_up_eq
      · show ((a_up G1 142 a1 (-1)) (121 + (4 + 2 * s)) 0 = 0 ∧ _) ∨ _
        simp only []
        have g1 : ∀ b, a_up G1 142 a1 (-1) (121 + (4 + 2 * s)) b = G (121 + (4 + 2 * s)) b := fun b => by rw [a_up_ne (by omega), f1 _ _ (by omega)]
        rw [g1 0, g1 1, g1 2, a_up_ne (a := 142) (by omega), a_up_ne (a := 143) (by omega), f1 142 s (by omega), f1 143 s (by omega)]
        exact h6
  · have e : fn_88 a1 G = (-1, G) := by
      simp only [fn_88]
      rw [if_pos ((fe_91z a1 4).mpr c)]
    have e2 : fn_178 a1 G = (-1, G) := by
      simp only [fn_178]
      rw [if_pos ((fe_175z a1).mpr c)]
    rw [e]
    show a_Sh (fn_178 a1 G).2 ∧ -1 = (fn_178 a1 G).1
    rw [e2]
    exact ⟨hR, rfl⟩
/-- why not, of both -/
theorem fe_37 {s lane i n : Int} {G G1 : a_P} (hR : a_sh G s) (hn : 0 ≤ n) (hn2 : n ≤ 24) (hi : i ≤ 2147483647) (hs : 0 ≤ G 143 s ∧ G 143 s ≤ 24) (e1 : G1 142 s = G 142 s) (e2 : G1 143 s = G 143 s) : fn_37 (121 + (4 + 2 * s)) lane i n G = fn_179 s lane i n G1 := by
  simp only [fn_37, fn_179, fn_38, a_jn, e1, e2]
  rcases hR with ⟨h1, h2⟩ | ⟨h1, h2, h3, h4⟩
  · rw [if_pos h1, if_pos (by omega)]
  · rw [h2, h4, if_neg (show ¬ G (121 + (4 + 2 * s)) 0 = 0 by omega), if_neg (show ¬ G 142 s < 0 by omega)]
    by_cases c : G 142 s = lane
    · rw [if_pos c, if_pos c]
      by_cases c1 : i < 0
      · rw [if_pos c1, if_pos rfl, if_pos c1]
      · rw [if_neg c1, if_neg c1, if_neg (show ¬ n < 0 by omega), a_w_id (x := G 143 s - i) (by omega) (by omega)]
        by_cases c2 : G 143 s < n
        · rw [if_pos c2, if_pos rfl, if_pos (by omega)]
        · rw [if_neg c2, a_w_id (by omega) (by omega)]
          by_cases c3 : G 143 s - n < i
          · rw [if_pos c3, if_pos rfl, if_pos (by omega)]
          · rw [if_neg c3, if_neg (by decide), if_neg (by omega)]
    · rw [if_neg c, if_neg c]

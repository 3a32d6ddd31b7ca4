theorem fe_38z {p i n : Int} {G : a_P} (h0 : 0 ≤ G p 2) (h1 : G p 2 ≤ 24) : (fn_38 p i n G = 0) ↔ ¬ (0 ≤ i ∧ 0 ≤ n ∧ n ≤ G p 2 ∧ i ≤ G p 2 - n) := by
  simp only [fn_38, a_jn]
  by_cases c1 : i < 0
  · rw [if_pos c1]; omega
  · rw [if_neg c1]
    by_cases c2 : n < 0
    · rw [if_pos c2]; omega
    · rw [if_neg c2]
      by_cases c3 : G p 2 < n
      · rw [if_pos c3]; omega
      · rw [if_neg c3, a_w_id (by omega) (by omega)]
        by_cases c4 : G p 2 - n < i
        · rw [if_pos c4]; omega
        · rw [if_neg c4]; omega
theorem fe_181l (a1 a2 a3 a4 a5 : Int) (G : a_P) (h0 : 0 ≤ a5) (h1 : a5 ≤ 24) : a_Qv a5 (a_jn (fun (s4 : a_P) => a_lp (fun (s5 : Int × a_P) => (0, s5.2)) (fun (s5 : Int × a_P) n147 => (if s5.1 < a5 then n147 (a_w (s5.1 + 1), a_up s5.2 144 (a_w ((a_w ((a_w (24 * a3)) + a4)) + s5.1)) (s5.2 145 s5.1)) else (a5, s5.2))) a_fuel (0, s4)) fun j144 =>
  a_lp (fun (s6 : Int × a_P) => (0, s6.2)) (fun (s6 : Int × a_P) n110 => (if s6.1 < a5 then n110 (a_w (s6.1 + 1), a_up s6.2 145 s6.1 (s6.2 144 (a_w ((a_w ((a_w (24 * a1)) + a2)) + s6.1)))) else j144 s6.2)) a_fuel (0, G)) := by
  refine a_fjn (fun _ => True) (fun s4 _ => ?_) (fun j hj => ?_)
  · refine a_lp_up (fun i s => s.1 = (i : Int)) a5.toNat (by omega) (fun i s hi hs nx hn => ?_) (fun s hs nx => ?_) (0, s4) rfl
    · rw [if_pos (by rw [hs]; omega)]
      refine hn _ ?_
      show a_w (s.1 + 1) = _
      rw [hs, a_w_id (by omega) (by omega)]
      omega
    · rw [if_neg (by rw [hs]; omega)]
      exact rfl
  · refine a_lp_up (fun i s => s.1 = (i : Int)) a5.toNat (by omega) (fun i s hi hs nx hn => ?_) (fun s hs nx => ?_) (0, G) rfl
    · rw [if_pos (by rw [hs]; omega)]
      refine hn _ ?_
      show a_w (s.1 + 1) = _
      rw [hs, a_w_id (by omega) (by omega)]
      omega
    · rw [if_neg (by rw [hs]; omega)]
      exact hj _ trivial
theorem aSh_copy (a1 a2 a3 a4 a5 : Int) {G : a_P} (hR : a_Sh G) (hS : a_S G) (b2 : -2147483648 ≤ a2 ∧ a2 ≤ 2147483647) (b4 : -2147483648 ≤ a4 ∧ a4 ≤ 2147483647) (b5 : -2147483648 ≤ a5 ∧ a5 ≤ 2147483647) : (fn_90 a1 a2 a3 a4 a5 G).1 = (fn_181 a1 a2 a3 a4 a5 (fn_90 a1 a2 a3 a4 a5 G).2).1 := by
  have f1 := fv_90 a1 a2 a3 a4 a5 G
  have e142 : ∀ s, (fn_90 a1 a2 a3 a4 a5 G).2 142 s = G 142 s := fun s => f1 142 s (by omega)
  have e143 : ∀ s, (fn_90 a1 a2 a3 a4 a5 G).2 143 s = G 143 s := fun s => f1 143 s (by omega)
  generalize (fn_90 a1 a2 a3 a4 a5 G).2 = G1 at e142 e143
  by_cases c : (0 ≤ a1 ∧ a1 < 4) ∧ (0 ≤ a3 ∧ a3 < 4)
  · obtain ⟨c1, c3⟩ := c
    have s1 := (hS.2.2.2.2.2 a1 c1.1 c1.2).2
    have s3 := (hS.2.2.2.2.2 a3 c3.1 c3.2).2
    simp only [fn_90, fn_181, a_jn, a_bd, e142, e143, a_lc_gt]
    have v1 : ¬ fn_91 a1 4 = 0 := by rw [fe_91z]; exact fun h => h c1
    have v2 : ¬ fn_91 a3 4 = 0 := by rw [fe_91z]; exact fun h => h c3
    have v3 : ¬ fn_175 a1 = 0 := by rw [fe_175z]; exact fun h => h c1
    have v4 : ¬ fn_175 a3 = 0 := by rw [fe_175z]; exact fun h => h c3
    rw [if_neg v1, if_neg v2, if_neg v3, if_neg v4]
    rcases hR a1 c1.1 c1.2 with ⟨h1, h2⟩ | ⟨h1, h2, h3, h4⟩
    · rw [if_pos h1, if_pos (show G 142 a1 < 0 by omega)]
    · rw [if_neg (show ¬ G (121 + (4 + 2 * a1)) 0 = 0 by omega), if_neg (show ¬ G 142 a1 < 0 by omega)]
      rcases hR a3 c3.1 c3.2 with ⟨g1, g2⟩ | ⟨g1, g2, g3, g4⟩
      · rw [if_pos g1, if_pos (show G 142 a3 < 0 by omega)]
      · rw [if_neg (show ¬ G (121 + (4 + 2 * a3)) 0 = 0 by omega), if_neg (show ¬ G 142 a3 < 0 by omega), h2, g2]
        by_cases cl : G 142 a1 = G 142 a3
        · rw [if_pos cl, if_pos cl]
          have z1 := fe_38z (p := 121 + (4 + 2 * a1)) (i := a2) (n := a5) (G := G) (by omega) (by omega)
          have z3 := fe_38z (p := 121 + (4 + 2 * a3)) (i := a4) (n := a5) (G := G) (by omega) (by omega)
          rw [h4] at z1
          rw [g4] at z3
          rw [a_wl_id (x := a2 + a5) (by omega) (by omega), a_wl_id (x := a4 + a5) (by omega) (by omega)]
          by_cases ci : (0 ≤ a2 ∧ 0 ≤ a5 ∧ a5 ≤ G 143 a1 ∧ a2 ≤ G 143 a1 - a5) ∧ (0 ≤ a4 ∧ 0 ≤ a5 ∧ a5 ≤ G 143 a3 ∧ a4 ≤ G 143 a3 - a5)
          · rw [if_neg (fun h => z1.mp h ci.1), if_neg (fun h => z3.mp h ci.2), if_neg (show ¬ a5 < 0 by omega), if_neg (show ¬ a2 < 0 by omega), if_neg (show ¬ a4 < 0 by omega), if_neg (show ¬ G 143 a1 < a2 + a5 by omega), if_neg (show ¬ G 143 a3 < a4 + a5 by omega)]
            exact (fe_181l a1 a2 a3 a4 a5 G1 (by omega) (by omega)).symm
          · have ea : (if fn_38 (121 + (4 + 2 * a1)) a2 a5 G = 0 then ((-13, G) : a_F) else if fn_38 (121 + (4 + 2 * a3)) a4 a5 G = 0 then (-13, G) else (a5, a_cp G (121 + (4 + 2 * a1) + 1) a2 (121 + (4 + 2 * a3) + 1) a4 a5)) = (-13, G) := by
              by_cases w1 : fn_38 (121 + (4 + 2 * a1)) a2 a5 G = 0
              · rw [if_pos w1]
              · rw [if_neg w1, if_pos (z3.mpr (fun h => ci ⟨Classical.not_not.mp (fun h' => w1 (z1.mpr h')), h⟩))]
            rw [ea]
            split
            · rfl
            · split
              · rfl
              · split
                · rfl
                · split
                  · rfl
                  · split
                    · rfl
                    · exact absurd ⟨⟨by omega, by omega, by omega, by omega⟩, by omega, by omega, by omega, by omega⟩ ci
        · rw [if_neg cl, if_neg cl]
  · simp only [fn_90, fn_181, a_jn, a_bd, fe_91z, fe_175z]
    by_cases w : 0 ≤ a1 ∧ a1 < 4
    · have w1 : ¬ ¬ (0 ≤ a1 ∧ a1 < 4) := fun h => h w
      have w2 : ¬ (0 ≤ a3 ∧ a3 < 4) := fun h => c ⟨w, h⟩
      rw [if_neg w1, if_pos w2, if_neg w1, if_pos w2]
    · rw [if_pos w, if_pos w]
-- the tape behind a plain
def a_Q8 (r : a_F) : Prop := r.1 ≤ 8
theorem fe_139 (a1 : Int) (H : a_P) : a_Q8 (fn_139 a1 H) := by
  unfold fn_139
  refine a_flp (Q := a_Q8) (fun s => (s.2.1 = 0 → s.1 ≤ 8) ∧ (¬ s.2.1 = 0 → 0 ≤ s.1 ∧ s.1 < 8)) ?_ (fun nx hnx s hs => ?_) a_fuel _ ⟨fun h => absurd (show (1 : Int) = 0 from h) (by decide), fun _ => ⟨Int.le_refl 0, (by decide : (0 : Int) < 8)⟩⟩
  · exact fun s hs => (by decide : (0 : Int) ≤ 8)
  · by_cases c : s.2.1 = 0
    · rw [if_pos c]
      exact hs.1 c
    · rw [if_neg c]
      have h8 := hs.2 c
      refine a_fbdi fun g1 => a_fif (by show (-1 : Int) ≤ 8; decide) ?_
      have e : a_w (s.1 + 1) = s.1 + 1 := a_w_id (by omega) (by omega)
      rw [e]
      show a_Q8 (a_jn (fun (s2 : Int × a_P) => nx (s.1 + 1, s2.1, s2.2)) fun j44 => a_jn (fun (s3 : a_P) => j44 (0, s3)) fun j43 => (if s.1 + 1 < 8 then a_bd (fn_133 44 g1.2) fun g2 => (if g2.1 = 0 then j43 g2.2 else j44 (1, g2.2)) else j43 g1.2))
      refine a_fjn (fun s2 => s2.1 = 0 ∨ s.1 + 1 < 8) (fun s2 h2 => ?_) (fun j hj => ?_)
      · refine hnx _ ⟨fun _ => by show s.1 + 1 ≤ 8; omega, fun h => ?_⟩
        have h : ¬ s2.1 = 0 := h
        show 0 ≤ s.1 + 1 ∧ s.1 + 1 < 8
        omega
      · refine a_fjn (fun _ => True) (fun s3 _ => hj _ (Or.inl rfl)) (fun j2 hj2 => ?_)
        by_cases c8 : s.1 + 1 < 8
        · rw [if_pos c8]
          exact a_fbdi fun g2 => a_fif (hj2 _ trivial) (hj _ (Or.inr c8))
        · rw [if_neg c8]
          exact hj2 _ trivial
theorem fe_140 (H : a_P) : (fn_140 H).2 133 2 = 0 := by
  simp only [fn_140, a_bd, a_jn]
  split <;> split <;> exact (a_up_eq : a_up (fn_132 H).2 133 2 0 133 2 = 0)
def a_Q2 (r : a_F) : Prop := r.2 133 2 = 0
theorem fe_141 (H : a_P) : a_Q2 (fn_141 H) := by
  unfold fn_141
  refine a_fbdi fun H1 => a_fbdi fun H2 => a_fbdi fun g1 => ?_
  refine a_fjn (fun _ => True) (fun s1 _ => ?_) (fun j hj => ?_)
  · refine a_fjn (fun _ => True) (fun s2 _ => ?_) (fun j hj => ?_)
    · refine a_fjn (fun s3 => s3.1 ≤ 8) (fun s3 h3 => ?_) (fun j hj => ?_)
      · refine a_fjn (fun _ => True) (fun s4 _ => fe_140 s4) (fun j hj => ?_)
        by_cases c : s3.1 < 0
        · rw [if_pos c]
          exact hj _ trivial
        · rw [if_neg c]
          refine a_fbdi fun g3 => a_fif ?_ (hj _ trivial)
          refine a_fbdi fun H3 => a_fbdi fun H4 => a_fbdi fun H5 => a_fbdi fun H6 => a_fbdi fun H7 => a_fbdi fun H8 => a_fbdi fun H9 => ?_
          refine a_fjn (fun _ => True) (fun s5 _ => ?_) (fun j hj => ?_)
          · show a_up s5 133 2 0 133 2 = 0
            exact a_up_eq
          · refine a_lp_up (fun i s => s.1 = 4 * (i : Int)) s3.1.toNat (by omega) (fun i s hi hs nx hn => ?_) (fun s hs nx => ?_) (0, H9) rfl
            · rw [if_pos (by rw [hs, a_w_id (by omega) (by omega)]; omega)]
              refine hn _ ?_
              show a_w (s.1 + 4) = _
              rw [hs, a_w_id (by omega) (by omega)]
              omega
            · rw [if_neg (by rw [hs, a_w_id (by omega) (by omega)]; omega)]
              exact hj _ trivial
      · exact a_fif (hj _ (by decide : (-1 : Int) ≤ 8)) (a_fbdi fun g4 => a_fif (hj _ (by decide : (0 : Int) ≤ 8)) (hj _ (fe_139 _ _)))
    · exact a_fif (hj _ trivial) (a_fbdi fun g4 => a_fif (hj _ trivial) (a_fbdi fun g5 => hj _ trivial))
  · exact a_fif (hj _ trivial) (a_fbdi fun g4 => hj _ trivial)
theorem rT_plain {G : a_P} (hR : a_T G) (hS : a_S G) : a_T (fn_141 (fn_59 G).2).2 := by
  have e1 : (fn_59 G).2 119 1 = 0 := by
    simp only [fn_59, a_bd]
    split
    · show (fn_3 13 (fn_10 1 7 (a_up (a_up (fn_44 7 G).2 119 1 0) 7 5 (a_up (fn_44 7 G).2 119 1 0 1 5)))) 119 1 = 0
      rw [fr_3 13 _ 119 1 (by unfold w_3; omega), fr_10 1 7 _ 119 1 (by unfold w_10; omega), a_up_ne (by omega), a_up_eq]
    · exact (a_up_eq : a_up (fn_44 7 G).2 119 1 0 119 1 = 0)
  have e2 : (fn_141 (fn_59 G).2).2 119 1 = (fn_59 G).2 119 1 := fr_141 _ 119 1 (by unfold w_141; omega)
  show (fn_141 (fn_59 G).2).2 119 1 = (fn_141 (fn_59 G).2).2 133 2
  rw [e2, e1]
  exact (fe_141 _).symm

-- a new sheet
def a_Qn (p a1 a2 : Int) (G : a_P) : Prop := G p 0 = 1 ∧ G p 1 = a1 ∧ G p 2 = a2
theorem fe_36 (p a1 a2 : Int) (G : a_P) : a_Qn p a1 a2 (fn_36 p a1 a2 G) := by
  simp only [fn_36, a_bd]
  have h0 : a_Qn p a1 a2 (a_up (a_up (a_up G p 0 1) p 1 a1) p 2 a2) := by
    refine ⟨?_, ?_, a_up_eq⟩
    · rw [a_up_ne (by omega), a_up_ne (by omega), a_up_eq]
    · rw [a_up_ne (by omega), a_up_eq]
  refine a_flp (Q := a_Qn p a1 a2) (fun s => a_Qn p a1 a2 s.2) ?_ (fun nx hnx s hs => ?_) a_fuel _ h0
  · exact fun s hs => hs
  · refine a_fif (hnx _ ?_) hs
    refine ⟨?_, ?_, ?_⟩
    · show a_up s.2 (p + 1) s.1 0 p 0 = 1
      rw [a_up_ne (by omega)]; exact hs.1
    · show a_up s.2 (p + 1) s.1 0 p 1 = a1
      rw [a_up_ne (by omega)]; exact hs.2.1
    · show a_up s.2 (p + 1) s.1 0 p 2 = a2
      rw [a_up_ne (by omega)]; exact hs.2.2
def a_w144 (a b : Int) : Prop := a = 144
theorem rSh_sheet (a1 a2 a3 : Int) {G : a_P} (hR : a_Sh G) (hS : a_S G) : a_Sh (fn_177 a1 a2 a3 (fn_87 a1 a2 a3 G).2).2 := by
  by_cases c : (0 ≤ a1 ∧ a1 < 4) ∧ (0 ≤ a2 ∧ a2 < 4) ∧ 0 ≤ a3 ∧ a3 ≤ 24
  · obtain ⟨c1, c2, c3⟩ := c
    have e : fn_87 a1 a2 a3 G = (a3, fn_36 (121 + (4 + 2 * a1)) a2 a3 G) := by
      simp only [fn_87, a_jn, a_bd]
      rw [if_neg (by rw [fe_91z]; exact fun h => h c1), if_neg (by rw [fe_91z]; exact fun h => h c2), if_neg (by omega), if_neg (by omega)]
    rw [e]
    show a_Sh (fn_177 a1 a2 a3 (fn_36 (121 + (4 + 2 * a1)) a2 a3 G)).2
    have q := fe_36 (121 + (4 + 2 * a1)) a2 a3 G
    have f1 := fr_36 (121 + (4 + 2 * a1)) a2 a3 G
    generalize fn_36 (121 + (4 + 2 * a1)) a2 a3 G = G1 at q f1
    have key : a_fr2 a_w144 (a_up (a_up G1 142 a1 a2) 143 a1 a3) (fn_177 a1 a2 a3 G1) := by
      simp only [fn_177, a_jn, a_bd]
      rw [if_neg (by rw [fe_175z]; exact fun h => h c1), if_neg (by rw [fe_108z]; omega), if_neg (by omega), if_neg (by omega)]
      refine a_flp (Q := a_fr2 a_w144 (a_up (a_up G1 142 a1 a2) 143 a1 a3)) (fun s => a_fr a_w144 (a_up (a_up G1 142 a1 a2) 143 a1 a3) s.2) ?_ (fun nx hnx s hs => ?_) a_fuel _ a_fr_refl
      · exact fun s hs => hs
      · exact a_fif (hnx _ (a_fr_up (W := a_w144) rfl hs)) hs
    generalize (fn_177 a1 a2 a3 G1) = r at key
    have f2 : ∀ a b, ¬ (a = 144) → r.2 a b = a_up (a_up G1 142 a1 a2) 143 a1 a3 a b := fun a b hn => key a b hn
    intro s h0 h4
    have h6 := hR s h0 h4
    unfold a_sh at h6 ⊢
    by_cases cs : s = a1
    · subst cs
      refine Or.inr ⟨?_, ?_, ?_, ?_⟩
      · rw [f2 _ _ (by omega), a_up_ne (by omega), a_up_ne (by omega)]; exact q.1
      · rw [f2 _ _ (by omega), f2 142 s (by omega), a_up_ne (by omega), a_up_ne (by omega), a_up_ne (a := 142) (by omega), a_up_eq]; exact q.2.1
      · rw [f2 142 s (by omega), a_up_ne (by omega), a_up_eq]; exact c2.1
      · rw [f2 _ _ (by omega), f2 143 s (by omega), a_up_ne (by omega), a_up_ne (by omega), a_up_eq]; exact q.2.2
    · have g1 : ∀ b, r.2 (121 + (4 + 2 * s)) b = G (121 + (4 + 2 * s)) b := fun b => by
        rw [f2 _ _ (by omega), a_up_ne (by omega), a_up_ne (by omega)]
        exact f1 _ b (by unfold w_36; omega)
      have g2 : r.2 142 s = G 142 s := by
        rw [f2 _ _ (by omega), a_up_ne (by omega), a_up_ne (by omega)]
        exact f1 _ s (by unfold w_36; omega)
      have g3 : r.2 143 s = G 143 s := by
        rw [f2 _ _ (by omega), a_up_ne (by omega), a_up_ne (by omega)]
        exact f1 _ s (by unfold w_36; omega)
      rw [g1 0, g1 1, g1 2, g2, g3]
      exact h6
  · have e : (fn_87 a1 a2 a3 G).2 = G := by
      simp only [fn_87, a_jn, a_bd, fe_91z]
      split
      · rfl
      · split
        · rfl
        · split
          · rfl
          · split
            · rfl
            · exact absurd ⟨by omega, by omega, by omega, by omega⟩ c
    have e2 : (fn_177 a1 a2 a3 G).2 = G := by
      simp only [fn_177, a_jn, a_bd, fe_175z, fe_108z]
      split
      · rfl
      · split
        · rfl
        · split
          · rfl
          · split
            · rfl
            · exact absurd ⟨by omega, by omega, by omega, by omega⟩ c
    rw [e, e2]
    exact hR
-- why not: what it may be
theorem fe_179r (s lane i n : Int) (G : a_P) : fn_179 s lane i n G = 0 ∨ fn_179 s lane i n G < 0 := by
  simp only [fn_179, a_jn]
  split
  · exact Or.inr (by decide)
  · split
    · split
      · exact Or.inr (by decide)
      · split
        · exact Or.inr (by decide)
        · exact Or.inl rfl
    · exact Or.inr (by decide)
theorem aSh_item (a1 a2 a3 a4 : Int) {G : a_P} (hR : a_Sh G) (hS : a_S G) (h3 : a3 ≤ 2147483647) : (fn_89 a1 a2 a3 a4 G).1 = (fn_180 a1 a2 a3 a4 (fn_89 a1 a2 a3 a4 G).2).1 := by
  have f1 := fv_89 a1 a2 a3 a4 G
  have e142 : (fn_89 a1 a2 a3 a4 G).2 142 a1 = G 142 a1 := f1 142 a1 (by omega)
  have e143 : (fn_89 a1 a2 a3 a4 G).2 143 a1 = G 143 a1 := f1 143 a1 (by omega)
  by_cases c : (0 ≤ a1 ∧ a1 < 4) ∧ (0 ≤ a2 ∧ a2 < 4)
  · obtain ⟨c1, c2⟩ := c
    have k := fe_37 (lane := a2) (i := a3) (n := 1) (hR a1 c1.1 c1.2) (by decide) (by decide) h3 (hS.2.2.2.2.2 a1 c1.1 c1.2).2 e142 e143
    have kr := fe_179r a1 a2 a3 1 (fn_89 a1 a2 a3 a4 G).2
    generalize (fn_89 a1 a2 a3 a4 G).2 = G1 at k kr
    simp only [fn_89, fn_180, a_jn, a_bd]
    have v1 : ¬ fn_91 a1 4 = 0 := by rw [fe_91z]; exact fun h => h c1
    have v2 : ¬ fn_91 a2 4 = 0 := by rw [fe_91z]; exact fun h => h c2
    have v3 : ¬ fn_175 a1 = 0 := by rw [fe_175z]; exact fun h => h c1
    have v4 : ¬ fn_108 a2 0 3 = 0 := by rw [fe_108z]; omega
    rw [k, if_neg v1, if_neg v2, if_neg v3, if_neg v4]
    rcases kr with kr | kr
    · rw [if_pos kr, if_neg (show ¬ fn_179 a1 a2 a3 1 G1 < 0 by omega)]
    · rw [if_neg (show ¬ fn_179 a1 a2 a3 1 G1 = 0 by omega), if_pos kr]
  · have e : (fn_89 a1 a2 a3 a4 G).1 = -1 := by
      simp only [fn_89, a_jn, a_bd, fe_91z]
      split
      · rfl
      · rw [if_pos (by omega)]
    rw [e]
    generalize (fn_89 a1 a2 a3 a4 G).2 = G1
    simp only [fn_180, a_jn, a_bd, fe_175z, fe_108z]
    split
    · rfl
    · rw [if_pos (by omega)]
theorem fe_86l (n p a4 : Int) (H1 : a_P) (h0 : 0 ≤ n) (h1 : n ≤ 24) : a_Qv n (a_lp (fun (s2 : Int × a_P) => (0, s2.2)) (fun (s2 : Int × a_P) n66 => (if s2.1 < n then n66 (a_w (s2.1 + 1), fn_39 p (a_w (a4 + s2.1)) (fn_23 7 (fn_27 7 s2.2)) (fn_27 7 s2.2)) else (n, s2.2))) a_fuel (0, H1)) := by
  refine a_lp_up (fun i s => s.1 = (i : Int)) n.toNat (by omega) (fun i s hi hs nx hn => ?_) (fun s hs nx => ?_) (0, H1) rfl
  · rw [if_pos (by rw [hs]; omega)]
    refine hn _ ?_
    show a_w (s.1 + 1) = _
    rw [hs, a_w_id (by omega) (by omega)]
    omega
  · rw [if_neg (by rw [hs]; omega)]
    exact rfl
theorem fe_184l (n a2 a3 a4 : Int) (H1 : a_P) (h0 : 0 ≤ n) (h1 : n ≤ 24) : a_Qv n (a_lp (fun (s2 : Int × a_P) => (0, s2.2)) (fun (s2 : Int × a_P) n59 => (if s2.1 < n then n59 (a_w (s2.1 + 1), a_up (fn_124 s2.2) 144 (a_w ((a_w ((a_w (24 * a2)) + a4)) + s2.1)) (fn_176 (fn_120 (fn_124 s2.2)) a3)) else (n, fn_154 s2.2))) a_fuel (0, H1)) := by
  refine a_lp_up (fun i s => s.1 = (i : Int)) n.toNat (by omega) (fun i s hi hs nx hn => ?_) (fun s hs nx => ?_) (0, H1) rfl
  · rw [if_pos (by rw [hs]; omega)]
    refine hn _ ?_
    show a_w (s.1 + 1) = _
    rw [hs, a_w_id (by omega) (by omega)]
    omega
  · rw [if_neg (by rw [hs]; omega)]
    exact rfl
theorem aSh_film (a1 a2 a3 a4 : Int) {G : a_P} (hR : a_Sh G) (hS : a_S G) (h4 : a4 ≤ 2147483647) : (fn_86 a1 a2 a3 a4 G).1 = (fn_184 a1 a2 a3 a4 (fn_86 a1 a2 a3 a4 G).2).1 := by
  have f1 := fv_86 a1 a2 a3 a4 G
  have e142 : (fn_86 a1 a2 a3 a4 G).2 142 a2 = G 142 a2 := f1 142 a2 (by omega)
  have e143 : (fn_86 a1 a2 a3 a4 G).2 143 a2 = G 143 a2 := f1 143 a2 (by omega)
  by_cases c : (1 ≤ a1 ∧ a1 ≤ 24) ∧ (0 ≤ a2 ∧ a2 < 4) ∧ (0 ≤ a3 ∧ a3 < 4)
  · obtain ⟨c0, c1, c2⟩ := c
    have k := fe_37 (lane := a3) (i := a4) (n := a1) (hR a2 c1.1 c1.2) (by omega) (by omega) h4 (hS.2.2.2.2.2 a2 c1.1 c1.2).2 e142 e143
    have kr := fe_179r a2 a3 a4 a1 (fn_86 a1 a2 a3 a4 G).2
    generalize (fn_86 a1 a2 a3 a4 G).2 = G1 at k kr
    have z1 := fe_86l a1 (121 + (4 + 2 * a2)) a4 (fn_10 7 1 G) (by omega) (by omega)
    have z2 := fe_184l a1 a2 a3 a4 (fn_153 G1) (by omega) (by omega)
    simp only [fn_86, fn_184, a_jn, a_bd]
    have v1 : ¬ fn_91 a2 4 = 0 := by rw [fe_91z]; exact fun h => h c1
    have v2 : ¬ fn_91 a3 4 = 0 := by rw [fe_91z]; exact fun h => h c2
    have v3 : ¬ fn_175 a2 = 0 := by rw [fe_175z]; exact fun h => h c1
    have v4 : ¬ fn_108 a3 0 3 = 0 := by rw [fe_108z]; omega
    have v5 : ¬ fn_108 a1 1 24 = 0 := by rw [fe_108z]; omega
    rw [k, if_neg (show ¬ a1 < 1 by omega), if_neg (show ¬ 24 < a1 by omega), if_neg v1, if_neg v2, if_neg v5, if_neg v3, if_neg v4]
    rcases kr with kr | kr
    · rw [if_pos kr, if_neg (show ¬ fn_179 a2 a3 a4 a1 G1 < 0 by omega)]
      exact Eq.trans z1 (Eq.symm z2)
    · rw [if_neg (show ¬ fn_179 a2 a3 a4 a1 G1 = 0 by omega), if_pos kr]
  · have e : (fn_86 a1 a2 a3 a4 G).1 = -1 := by
      simp only [fn_86, a_jn, a_bd, fe_91z]
      split
      · rfl
      · split
        · rfl
        · split
          · rfl
          · rw [if_pos (by omega)]
    rw [e]
    generalize (fn_86 a1 a2 a3 a4 G).2 = G1
    simp only [fn_184, a_jn, a_bd, fe_175z, fe_108z]
    split
    · rfl
    · split
      · rfl
      · rw [if_pos (by omega)]

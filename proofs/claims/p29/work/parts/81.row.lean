theorem fl_in {H G : a_P} {p m i : Int} (hs : a_sm H p (G 134)) (ho : a_ok m (G 134)) (h0 : 0 ≤ i) (h1 : i < G 134 0) : fn_20 p i H = fn_118 i G := by
  obtain ⟨s0, s1, -, -, -, -, -, sA⟩ := hs
  have b0 := ho.1
  have a := sA i h0 h1
  have oi := ho.2.2.2.2.2.2.2 i h0 h1
  have e15 : a_w (15 + i) = 15 + i := a_wi h0 (by omega) (by decide)
  have e7 : a_w (7 + i) = 7 + i := a_wi h0 (by omega) (by decide)
  have side : fn_16 (G 134 1) (G 134 2) (G 134 (15 + i)) = fn_116 (G 134 (15 + i)) G := fl_side ho.2.1 ho.2.2.1 oi.2.1 rfl rfl
  have far : fn_15 (G 134 1) (G 134 (15 + i)) = fn_114 (G 134 (15 + i)) (G 134 1) := fl_far ho.2.1 oi.2.1
  have prev : 0 < i → fn_16 (G 134 1) (G 134 2) (H (p + 2) (a_w (i - 1))) = fn_116 (G 134 (a_w (15 + i - 1))) G := fun hp => by
    have b := sA (i - 1) (by omega) (by omega)
    have oj := ho.2.2.2.2.2.2.2 (i - 1) (by omega) (by omega)
    rw [a_w_id (x := i - 1) (by omega) (by omega), a_w_id (x := 15 + i - 1) (by omega) (by omega), b.2.1, show 15 + i - 1 = 15 + (i - 1) by omega]
    exact fl_side ho.2.1 ho.2.2.1 oj.2.1 rfl rfl
  simp only [fn_20, fn_118, a_jn, a_bd, s0, s1, a.1, a.2.1, e15, e7, side, far]
  have hk : G 134 (7 + i) = 0 ∨ G 134 (7 + i) = 1 ∨ G 134 (7 + i) = 2 ∨ G 134 (7 + i) = 3 ∨ G 134 (7 + i) = 4 := by omega
  by_cases hi : 0 < i
  · rw [prev hi]
    generalize fn_116 (G 134 (a_w (15 + i - 1))) G = q
    rcases fl_side3 (G 134 (15 + i)) G with hd | hd | hd <;> rcases hk with hk | hk | hk | hk | hk <;> simp [hd, hk, a_sw, hi]
    all_goals (split <;> simp_all)
  · rcases fl_side3 (G 134 (15 + i)) G with hd | hd | hd <;> rcases hk with hk | hk | hk | hk | hk <;> simp [hd, hk, a_sw, hi]
    all_goals (split <;> simp_all)
theorem a_or_b (x y : Int) : -2147483648 ≤ a_or x y ∧ a_or x y ≤ 2147483647 := s_b32 _
theorem a_or_0 {x : Int} (h0 : -2147483648 ≤ x) (h1 : x ≤ 2147483647) : a_or x 0 = x := by
  unfold a_or
  have e : Int32.ofInt 0 = 0 := by decide
  rw [e, Int32.or_zero, Int32.toInt_ofInt]
  exact q_bm h0 h1
theorem fl_who {H G : a_P} {p m : Int} (hs : a_sm H p (G 134)) (ho : a_ok m (G 134)) : fn_22 p H = fn_119 G := by
  have b0 := ho.1
  have s6 : H p 6 = G 134 0 := hs.2.2.2.2.2.2.1
  unfold fn_22 fn_119
  refine a_lp2 (Q := Eq) (fun i s t => s = t ∧ s.2 = (i : Int) ∧ -2147483648 ≤ s.1 ∧ s.1 ≤ 2147483647) (G 134 0).toNat (by omega) ?_ ?_ (0, 0) (0, 0) ⟨rfl, rfl, by decide, by decide⟩
  · intro i s t hi ⟨e, h2, r0, r1⟩ n1 n2 hn
    subst e
    rw [if_pos (by rw [h2, s6]; omega), if_pos (by rw [h2]; omega)]
    simp only [a_jn, a_bd]
    have e1 : a_w (s.2 + 1) = ((i + 1 : Nat) : Int) := by rw [h2, a_w_id (by omega) (by omega)]; omega
    rw [fl_in hs ho (by omega) (by omega)]
    by_cases c : fn_118 s.2 G = 0
    · rw [if_pos c, if_pos c, a_or_0 r0 r1]
      exact hn _ _ ⟨rfl, e1, r0, r1⟩
    · rw [if_neg c, if_neg c]
      exact hn _ _ ⟨rfl, e1, (a_or_b _ _).1, (a_or_b _ _).2⟩
  · intro s t ⟨e, h2, r0, r1⟩ n1 n2
    subst e
    rw [if_neg (by rw [h2, s6]; omega), if_neg (by rw [h2]; omega)]
theorem fl_stands {H G : a_P} {p m : Int} (hs : a_sm H p (G 134)) (ho : a_ok m (G 134)) : fn_14 p H = fn_117 G := by
  simp only [fn_14, fn_117, a_jn]
  rw [hs.2.2.1]
  have := ho.2.2.2.1
  by_cases c : G 134 3 = -4
  · rw [if_pos c, if_pos (by omega)]
  · rw [if_neg c, if_neg (by omega)]
theorem fl_whoin {H G : a_P} {p m : Int} (hs : a_sm H p (G 134)) (ho : a_ok m (G 134)) : fn_23 p H = fn_120 G := by
  simp only [fn_23, fn_120, a_jn, fl_stands hs ho, fl_who hs ho]

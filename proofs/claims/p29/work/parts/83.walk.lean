/-! AN HOUR, ROW BY ROW: who WALKS -/
noncomputable def r_cell (w : Int → Int) (i : Int) : Int := if i = w 3 then w (15 + i) else if fn_112 (w (15 + i)) (w (23 + i)) = -4 then w (15 + i) else fn_112 (w (15 + i)) (w (23 + i))
noncomputable def r_walk (w : Int → Int) (i : Int) : Int := if i = w 3 then w (23 + i) else if fn_112 (w (15 + i)) (w (23 + i)) = -4 then (if w (23 + i) = 4 then 4 else (w (23 + i) + 2) % 4) else w (23 + i)
/-- behind the first k have walked -/
noncomputable def r_S1 (k : Int) (w : Int → Int) : Int → Int := fun b => if 15 ≤ b ∧ b < 15 + k then r_cell w (b - 15) else if 23 ≤ b ∧ b < 23 + k then r_walk w (b - 23) else w b
theorem r_S1_o {k b : Int} {w : Int → Int} (h1 : ¬ (15 ≤ b ∧ b < 15 + k)) (h2 : ¬ (23 ≤ b ∧ b < 23 + k)) : r_S1 k w b = w b := by unfold r_S1; rw [if_neg h1, if_neg h2]
theorem r_S1_c {k i : Int} {w : Int → Int} (h0 : 0 ≤ i) (h1 : i < k) : r_S1 k w (15 + i) = r_cell w i := by unfold r_S1; rw [if_pos (by omega), show 15 + i - 15 = i by omega]
theorem r_S1_w {k i : Int} {w : Int → Int} (h0 : 0 ≤ i) (h1 : i < k) (h8 : k ≤ 8) : r_S1 k w (23 + i) = r_walk w i := by unfold r_S1; rw [if_neg (by omega), if_pos (by omega), show 23 + i - 23 = i by omega]
theorem r_S1_0 {w : Int → Int} (b : Int) : r_S1 0 w b = w b := r_S1_o (by omega) (by omega)
theorem a_sm_S1 {G G' : a_P} {p k : Int} {w : Int → Int} (h : a_sm G p (r_S1 k w)) (hk : 0 ≤ k) (hk1 : k < w 0) (h8 : w 0 ≤ 8) (hf : ∀ a b, ¬ ((a = p + 2 ∨ a = p + 3) ∧ b = k) → G' a b = G a b) (hc : G' (p + 2) k = r_cell w k) (hd : G' (p + 3) k = r_walk w k) : a_sm G' p (r_S1 (k + 1) w) := by
  obtain ⟨g0, g1, g2, g3, g4, g5, g6, gA⟩ := h
  have o : ∀ b, b < 15 → r_S1 (k + 1) w b = r_S1 k w b := fun b hb => by rw [r_S1_o (by omega) (by omega), r_S1_o (by omega) (by omega)]
  have e0 : r_S1 (k + 1) w 0 = w 0 := r_S1_o (by omega) (by omega)
  have e0' : r_S1 k w 0 = w 0 := r_S1_o (by omega) (by omega)
  refine ⟨?_, ?_, ?_, ?_, ?_, ?_, ?_, fun i h0 h1 => ?_⟩
  · rw [hf _ _ (by omega), g0, o 1 (by omega)]
  · rw [hf _ _ (by omega), g1, o 2 (by omega)]
  · rw [hf _ _ (by omega), g2, o 3 (by omega)]
  · rw [hf _ _ (by omega), g3, o 4 (by omega)]
  · rw [hf _ _ (by omega), g4, o 5 (by omega)]
  · rw [hf _ _ (by omega), g5, o 6 (by omega)]
  · rw [hf _ _ (by omega), g6, o 0 (by omega)]
  · rw [e0] at h1
    obtain ⟨a1, a2, a3, a4, a5⟩ := gA i h0 (by rw [e0']; exact h1)
    refine ⟨?_, ?_, ?_, ?_, ?_⟩
    · rw [hf _ _ (by omega), a1, o _ (by omega)]
    · by_cases c : i = k
      · subst c
        rw [hc, r_S1_c h0 (by omega)]
      · rw [hf _ _ (by omega), a2]
        by_cases c2 : i < k
        · rw [r_S1_c h0 c2, r_S1_c h0 (by omega)]
        · rw [r_S1_o (by omega) (by omega), r_S1_o (by omega) (by omega)]
    · by_cases c : i = k
      · subst c
        rw [hd, r_S1_w h0 (by omega) (by omega)]
      · rw [hf _ _ (by omega), a3]
        by_cases c2 : i < k
        · rw [r_S1_w h0 c2 (by omega), r_S1_w h0 (by omega) (by omega)]
        · rw [r_S1_o (by omega) (by omega), r_S1_o (by omega) (by omega)]
    · rw [hf _ _ (by omega), a4, r_S1_o (by omega) (by omega), r_S1_o (by omega) (by omega)]
    · rw [hf _ _ (by omega), a5, r_S1_o (by omega) (by omega), r_S1_o (by omega) (by omega)]
theorem fl_walk {H : a_P} {p m : Int} {w : Int → Int} (hs : a_sm H p w) (ho : a_ok m w) : a_sm (fn_28 p H) p (r_S1 (w 0) w) := by
  have b0 := ho.1
  have hst : a_sm H p (r_S1 ((0 : Nat) : Int) w) := by
    have e : r_S1 ((0 : Nat) : Int) w = w := by funext b; exact r_S1_0 b
    rw [e]; exact hs
  unfold fn_28
  refine a_lp_up (Q := fun G => a_sm G p (r_S1 (w 0) w)) (fun k s => s.1 = (k : Int) ∧ a_sm s.2 p (r_S1 (k : Int) w)) (w 0).toNat (by omega) (fun k s hk hss nx hn => ?_) (fun s hss nx => ?_) (0, H) ⟨rfl, hst⟩
  · obtain ⟨k0, G⟩ := s
    obtain ⟨h1, h2⟩ : (k0 = (k : Int)) ∧ (a_sm G p (r_S1 (k : Int) w)) := hss
    subst h1
    have e6 : G p 6 = w 0 := by rw [h2.2.2.2.2.2.2.1, r_S1_o (by omega) (by omega)]
    have e2 : G p 2 = w 3 := by rw [h2.2.2.1, r_S1_o (by omega) (by omega)]
    obtain ⟨-, ac, aw, -, -⟩ := h2.2.2.2.2.2.2.2 (k : Int) (by omega) (by rw [r_S1_o (by omega) (by omega)]; omega)
    rw [r_S1_o (by omega) (by omega)] at ac aw
    have oi := ho.2.2.2.2.2.2.2 (k : Int) (by omega) (by omega)
    have ek : a_w ((k : Int) + 1) = ((k + 1 : Nat) : Int) := by rw [a_w_id (by omega) (by omega)]; omega
    simp only [a_jn, a_bd, e6, e2, ac, aw]
    rw [ek]
    clear ek
    rw [if_pos (by omega)]
    by_cases c1 : (k : Int) = w 3
    · rw [if_pos c1]
      refine hn _ ⟨rfl, ?_⟩
      exact a_sm_S1 h2 (by omega) (by omega) b0.2 (fun a b _ => rfl) (by show G (p + 2) (k : Int) = _; rw [ac]; unfold r_cell; rw [if_pos c1]) (by show G (p + 3) (k : Int) = _; rw [aw]; unfold r_walk; rw [if_pos c1])
    · rw [if_neg c1]
      by_cases c2 : w (23 + (k : Int)) = 4
      · rw [if_pos c2]
        refine hn _ ⟨rfl, ?_⟩
        exact a_sm_S1 h2 (by omega) (by omega) b0.2 (fun a b _ => rfl) (by show G (p + 2) (k : Int) = _; rw [ac]; unfold r_cell; rw [if_neg c1, c2, fl_step4, if_pos rfl]) (by show G (p + 3) (k : Int) = _; rw [aw]; unfold r_walk; rw [if_neg c1, c2, fl_step4, if_pos rfl, if_pos rfl])
      · rw [if_neg c2]
        rcases fl_step oi.2.1 (show 0 ≤ w (23 + (k : Int)) ∧ w (23 + (k : Int)) ≤ 3 by omega) with ⟨q1, q2⟩ | ⟨q1, q2, q3⟩
        · rw [q1, if_pos rfl, a_w_id (by omega) (by omega), a_rem_id (by omega) (by omega) (by decide)]
          refine hn _ ⟨rfl, ?_⟩
          refine a_sm_S1 h2 (by omega) (by omega) b0.2 (fun a b g => a_up_ne (by omega)) ?_ ?_
          · show a_up G (p + 3) (k : Int) _ (p + 2) (k : Int) = _
            rw [a_up_ne (by omega), ac]
            unfold r_cell
            rw [if_neg c1, if_pos q2]
          · show a_up G (p + 3) (k : Int) _ (p + 3) (k : Int) = _
            rw [a_up_eq]
            unfold r_walk
            rw [if_neg c1, if_pos q2, if_neg c2]
        · rw [if_neg (by omega)]
          refine hn _ ⟨rfl, ?_⟩
          refine a_sm_S1 h2 (by omega) (by omega) b0.2 (fun a b g => a_up_ne (by omega)) ?_ ?_
          · show a_up G (p + 2) (k : Int) _ (p + 2) (k : Int) = _
            rw [a_up_eq, q1]
            unfold r_cell
            rw [if_neg c1, if_neg (by omega)]
          · show a_up G (p + 2) (k : Int) _ (p + 3) (k : Int) = _
            rw [a_up_ne (by omega), aw]
            unfold r_walk
            rw [if_neg c1, if_neg (by omega)]
  · obtain ⟨h1, h2⟩ := hss
    have e6 : s.2 p 6 = w 0 := by rw [h2.2.2.2.2.2.2.1, r_S1_o (by omega) (by omega)]
    rw [if_neg (by rw [h1, e6]; omega)]
    rw [show (((w 0).toNat : Nat) : Int) = w 0 by omega] at h2
    exact h2

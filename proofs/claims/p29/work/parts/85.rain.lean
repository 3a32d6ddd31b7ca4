/-! AN HOUR, ROW BY ROW: who gets WET -/
noncomputable def r_in (w : Int → Int) (i : Int) : Int := fn_118 i (fun _ => w)
theorem r_in_eq (G : a_P) (i : Int) : fn_118 i G = r_in (G 134) i := by
  unfold r_in
  simp only [fn_118, fn_116]
  rfl
theorem r_in_cong {w w' : Int → Int} {i : Int} (h0 : 0 ≤ i) (h8 : i < 8) (h : ∀ b, b < 39 → w b = w' b) : r_in w i = r_in w' i := by
  unfold r_in
  have e15 : Unit → a_w (15 + i) = 15 + i := fun _ => a_wi h0 (by omega) (by decide)
  have e7 : Unit → a_w (7 + i) = 7 + i := fun _ => a_wi h0 (by omega) (by decide)
  have e14 : Unit → a_w (15 + i - 1) = 15 + i - 1 := fun _ => a_w_id (by omega) (by omega)
  simp only [fn_118, fn_116, e15 (), e7 (), e14 (), h 1 (by decide), h 2 (by decide), h (15 + i) (by omega), h (7 + i) (by omega), h (15 + i - 1) (by omega)]
/-- behind the first k got wet -/
noncomputable def r_S2 (k : Int) (w : Int → Int) : Int → Int := fun b => if 39 ≤ b ∧ b < 39 + k ∧ (w 3 = -4 ∨ r_in w (b - 39) = 0) then a_wt (w (b - 32)) (w b) else w b
theorem r_S2_o {k b : Int} {w : Int → Int} (h : ¬ (39 ≤ b ∧ b < 39 + k)) : r_S2 k w b = w b := by unfold r_S2; rw [if_neg (fun g => h ⟨g.1, g.2.1⟩)]
theorem r_S2_i {k i : Int} {w : Int → Int} (h0 : 0 ≤ i) (h1 : i < k) (h : w 3 = -4 ∨ r_in w i = 0) : r_S2 k w (39 + i) = a_wt (w (7 + i)) (w (39 + i)) := by
  unfold r_S2
  rw [show 39 + i - 39 = i by omega, show 39 + i - 32 = 7 + i by omega, if_pos ⟨by omega, by omega, h⟩]
theorem r_S2_n {k i : Int} {w : Int → Int} (h : ¬ (w 3 = -4 ∨ r_in w i = 0)) : r_S2 k w (39 + i) = w (39 + i) := by
  unfold r_S2
  rw [show 39 + i - 39 = i by omega, if_neg (fun g => h g.2.2)]
theorem a_wt_b {k v : Int} (hv : 0 ≤ v ∧ v ≤ 99) : 0 ≤ a_wt k v ∧ a_wt k v ≤ 99 := by
  unfold a_wt
  split <;> split at * <;> omega
theorem r_S2_ok {m k : Int} {w : Int → Int} (ho : a_ok m w) : a_ok m (r_S2 k w) := by
  obtain ⟨o0, o1, o2, o3, o4, o5, o6, oA⟩ := ho
  have e : ∀ b, b < 39 → r_S2 k w b = w b := fun b hb => r_S2_o (by omega)
  refine ⟨by rw [e 0 (by decide)]; exact o0, by rw [e 1 (by decide)]; exact o1, by rw [e 2 (by decide)]; exact o2, ?_, by rw [e 4 (by decide)]; exact o4, by rw [e 5 (by decide)]; exact o5, by rw [e 6 (by decide)]; exact o6, fun i h0 h1 => ?_⟩
  · rw [e 3 (by decide), e 0 (by decide)]
    rcases o3 with h | ⟨h1, h2, h3⟩
    · exact Or.inl h
    · exact Or.inr ⟨h1, h2, by rw [e _ (by omega)]; exact h3⟩
  · rw [e 0 (by decide)] at h1
    obtain ⟨q1, q2, q3, q4, q5⟩ := oA i h0 h1
    refine ⟨by rw [e _ (by omega)]; exact q1, by rw [e _ (by omega)]; exact q2, by rw [e _ (by omega)]; exact q3, by rw [e _ (by omega)]; exact q4, ?_⟩
    by_cases c : i < k ∧ (w 3 = -4 ∨ r_in w i = 0)
    · rw [r_S2_i h0 c.1 c.2]
      exact a_wt_b q5
    · have e2 : r_S2 k w (39 + i) = w (39 + i) := by
        unfold r_S2
        rw [show 39 + i - 39 = i by omega, if_neg (fun g => c ⟨by omega, g.2.2⟩)]
      rw [e2]
      exact q5
theorem a_sm_S2 {G G' : a_P} {p k : Int} {w : Int → Int} (h : a_sm G p (r_S2 k w)) (hk : 0 ≤ k) (hk1 : k < w 0) (h8 : w 0 ≤ 8) (hf : ∀ a b, ¬ (a = p + 5 ∧ b = k) → G' a b = G a b) (hc : G' (p + 5) k = r_S2 (k + 1) w (39 + k)) : a_sm G' p (r_S2 (k + 1) w) := by
  obtain ⟨g0, g1, g2, g3, g4, g5, g6, gA⟩ := h
  have o : ∀ b, ¬ (b = 39 + k) → r_S2 (k + 1) w b = r_S2 k w b := fun b hb => by
    unfold r_S2
    by_cases c : 39 ≤ b ∧ b < 39 + k ∧ (w 3 = -4 ∨ r_in w (b - 39) = 0)
    · rw [if_pos c, if_pos ⟨c.1, by omega, c.2.2⟩]
    · rw [if_neg c, if_neg (fun g => c ⟨g.1, by omega, g.2.2⟩)]
  have e0 : r_S2 (k + 1) w 0 = w 0 := r_S2_o (by omega)
  have e0' : r_S2 k w 0 = w 0 := r_S2_o (by omega)
  refine ⟨?_, ?_, ?_, ?_, ?_, ?_, ?_, fun i h0 h1 => ?_⟩
  · rw [hf _ _ (by omega), g0, o 1 (by omega)]
  · rw [hf _ _ (by omega), g1, o 2 (by omega)]
  · rw [hf _ _ (by omega), g2, o 3 (by omega)]
  · rw [hf _ _ (by omega), g3, o 4 (by omega)]
  · rw [hf _ _ (by omega), g4, o 5 (by omega)]
  · rw [hf _ _ (by omega), g5, o 6 (by omega)]
  · rw [hf _ _ (by omega), g6, o 0 (by omega)]
  · rw [e0] at h1
    obtain ⟨a1, a2, a3, a4, a5⟩ := gA i h0 (by rw [e0']; exact h1)
    refine ⟨by rw [hf _ _ (by omega), a1, o _ (by omega)], by rw [hf _ _ (by omega), a2, o _ (by omega)], by rw [hf _ _ (by omega), a3, o _ (by omega)], by rw [hf _ _ (by omega), a4, o _ (by omega)], ?_⟩
    by_cases c : i = k
    · subst c
      exact hc
    · rw [hf _ _ (by omega), a5, o _ (by omega)]
theorem fl_rain {H : a_P} {p m : Int} {w : Int → Int} (hs : a_sm H p w) (ho : a_ok m w) : a_sm (fn_29 p H) p (r_S2 (w 0) w) := by
  have b0 := ho.1
  have hst : a_sm H p (r_S2 ((0 : Nat) : Int) w) := by
    have e : r_S2 ((0 : Nat) : Int) w = w := by funext b; exact r_S2_o (by omega)
    rw [e]; exact hs
  unfold fn_29
  refine a_lp_up (Q := fun G => a_sm G p (r_S2 (w 0) w)) (fun k s => s.1 = (k : Int) ∧ a_sm s.2 p (r_S2 (k : Int) w)) (w 0).toNat (by omega) (fun k s hk hss nx hn => ?_) (fun s hss nx => ?_) (0, H) ⟨rfl, hst⟩
  · obtain ⟨k0, G⟩ := s
    obtain ⟨h1, h2⟩ : (k0 = (k : Int)) ∧ (a_sm G p (r_S2 (k : Int) w)) := hss
    subst h1
    have ok2 := r_S2_ok (k := (k : Int)) ho
    have e6 : G p 6 = w 0 := by rw [h2.2.2.2.2.2.2.1, r_S2_o (by omega)]
    obtain ⟨ak, -, -, -, aw⟩ := h2.2.2.2.2.2.2.2 (k : Int) (by omega) (by rw [r_S2_o (by omega)]; omega)
    rw [r_S2_o (by omega)] at ak aw
    have oi := ho.2.2.2.2.2.2.2 (k : Int) (by omega) (by omega)
    have ek : Unit → a_w ((k : Int) + 1) = ((k + 1 : Nat) : Int) := fun _ => by rw [a_w_id (by omega) (by omega)]; omega
    have st : fn_14 p G = (if w 3 = -4 then 0 else 1) := by
      have := fl_stands (G := fun _ => r_S2 (k : Int) w) h2 ok2
      rw [this]
      simp only [fn_117, a_jn]
      rw [r_S2_o (by omega)]
    have li : fn_20 p (k : Int) G = r_in w (k : Int) := by
      rw [fl_in (G := fun _ => r_S2 (k : Int) w) h2 ok2 (by omega) (by show (k : Int) < r_S2 (k : Int) w 0; rw [r_S2_o (by omega)]; omega)]
      exact r_in_cong (w := r_S2 (k : Int) w) (by omega) (by omega) (fun b hb => r_S2_o (by omega))
    simp only [a_jn, a_bd, e6, ak, aw, st, li, fl_wt oi.1 oi.2.2.2.2]
    rw [if_pos (by omega), ek ()]
    by_cases c1 : w 3 = -4
    · rw [if_pos c1, if_pos rfl]
      refine hn _ ⟨rfl, ?_⟩
      refine a_sm_S2 h2 (by omega) (by omega) b0.2 (fun a b g => a_up_ne (by omega)) ?_
      show a_up G (p + 5) (k : Int) _ (p + 5) (k : Int) = _
      rw [a_up_eq, r_S2_i (by omega) (by omega) (Or.inl c1)]
    · rw [if_neg c1, if_neg (by decide)]
      by_cases c2 : r_in w (k : Int) = 0
      · rw [if_pos c2]
        refine hn _ ⟨rfl, ?_⟩
        refine a_sm_S2 h2 (by omega) (by omega) b0.2 (fun a b g => a_up_ne (by omega)) ?_
        show a_up G (p + 5) (k : Int) _ (p + 5) (k : Int) = _
        rw [a_up_eq, r_S2_i (by omega) (by omega) (Or.inr c2)]
      · rw [if_neg c2]
        refine hn _ ⟨rfl, ?_⟩
        refine a_sm_S2 h2 (by omega) (by omega) b0.2 (fun a b g => rfl) ?_
        show G (p + 5) (k : Int) = _
        rw [aw, r_S2_n (by omega)]
  · obtain ⟨h1, h2⟩ := hss
    have e6 : s.2 p 6 = w 0 := by rw [h2.2.2.2.2.2.2.1, r_S2_o (by omega)]
    rw [if_neg (by rw [h1, e6]; omega)]
    rw [show (((w 0).toNat : Nat) : Int) = w 0 by omega] at h2
    exact h2

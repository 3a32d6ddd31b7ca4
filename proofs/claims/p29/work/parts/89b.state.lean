/-! THE WHOLE STATE: H is read at the class's cells, G at the reference's -/
def a_now (H G : a_P) : Prop := a_sm H 1 (G 134) ∧ a_ok 9999 (G 134)
def a_pst (H G : a_P) : Prop := a_pr H 13 (G 133 7) (a_mr G 137)
def a_im (H G : a_P) : Prop := (H 0 5 = 0 ∧ G 133 17 = -1) ∨ (H 0 5 = 1 ∧ a_sm H 63 (G 140) ∧ a_ok 9999 (G 140) ∧ a_pr H 69 (G 133 17) (a_mr G 141))
def a_tp (H G : a_P) : Prop := H 119 1 = G 133 2 ∧ (0 ≤ G 133 2 ∧ G 133 2 ≤ 90) ∧ ∀ i, 0 ≤ i → i < G 133 2 → H 120 i = G 135 i ∧ 32 ≤ G 135 i ∧ G 135 i ≤ 126
def a_R2 (H G : a_P) : Prop := a_now H G ∧ a_pst H G ∧ a_im H G ∧ a_tp H G
def a_R (G : a_P) : Prop := a_R2 G G
theorem a_now_fr {H G H' G' : a_P} (h : a_now H G) (h1 : ∀ a b, 1 ≤ a → a ≤ 6 → H' a b = H a b) (h2 : ∀ b, 0 ≤ b → b < 47 → G' 134 b = G 134 b) : a_now H' G' := ⟨a_sm_e (a_sm_fr h.1 (fun a b q1 q2 => h1 a b q1 (by omega))) h.2.1.2 h2, a_ok_e h.2 h2⟩
theorem a_pst_fr {H G H' G' : a_P} (h : a_pst H G) (h1 : ∀ a b, a = 13 ∨ (15 ≤ a ∧ a ≤ 62) → H' a b = H a b) (h2 : G' 133 7 = G 133 7) (h3 : ∀ b, G' 137 b = G 137 b) : a_pst H' G' := by
  unfold a_pst
  rw [h2]
  exact a_pr_e (a_pr_fr h (fun a b q => h1 a b (by omega))) (fun j _ _ b _ _ => h3 _)
theorem a_im_fr {H G H' G' : a_P} (h : a_im H G) (h1 : H' 0 5 = H 0 5) (h2 : ∀ a b, 63 ≤ a → a ≤ 118 → H' a b = H a b) (h3 : G' 133 17 = G 133 17) (h4 : ∀ b, G' 140 b = G 140 b) (h5 : ∀ b, G' 141 b = G 141 b) : a_im H' G' := by
  unfold a_im
  rw [h1, h3]
  rcases h with h | ⟨g1, g2, g3, g4⟩
  · exact Or.inl h
  · exact Or.inr ⟨g1, a_sm_e (a_sm_fr g2 (fun a b q1 q2 => h2 a b (by omega) (by omega))) g3.1.2 (fun b _ _ => h4 b), a_ok_e g3 (fun b _ _ => h4 b), a_pr_e (a_pr_fr g4 (fun a b q => h2 a b (by omega) (by omega))) (fun j _ _ b _ _ => h5 _)⟩
theorem a_tp_fr {H G H' G' : a_P} (h : a_tp H G) (h1 : H' 119 1 = H 119 1) (h2 : ∀ b, H' 120 b = H 120 b) (h3 : G' 133 2 = G 133 2) (h4 : ∀ b, G' 135 b = G 135 b) : a_tp H' G' := by
  obtain ⟨g1, g2, g3⟩ := h
  unfold a_tp
  rw [h1, h3]
  refine ⟨g1, g2, fun i q0 q1 => ?_⟩
  rw [h2, h4]
  exact g3 i q0 q1
/-- the class's cells of the state, and the reference's -/
def a_ccl (a b : Int) : Prop := (a = 0 ∧ b = 5) ∨ (1 ≤ a ∧ a ≤ 6) ∨ (13 ≤ a ∧ a ≤ 118) ∨ (a = 119 ∧ b = 1) ∨ a = 120
def a_mc (a b : Int) : Prop := a = 134 ∨ a = 137 ∨ a = 140 ∨ a = 141 ∨ a = 135 ∨ (a = 133 ∧ (b = 2 ∨ b = 7 ∨ b = 17))
theorem a_R2_fr {H G H' G' : a_P} (h : a_R2 H G) (h1 : ∀ a b, a_ccl a b → H' a b = H a b) (h2 : ∀ a b, a_mc a b → G' a b = G a b) : a_R2 H' G' := by
  obtain ⟨g1, g2, g3, g4⟩ := h
  refine ⟨a_now_fr g1 (fun a b q1 q2 => h1 a b (by unfold a_ccl; omega)) (fun b _ _ => h2 134 b (by unfold a_mc; omega)), a_pst_fr g2 (fun a b q => h1 a b (by unfold a_ccl; omega)) (h2 133 7 (by unfold a_mc; omega)) (fun b => h2 137 b (by unfold a_mc; omega)), a_im_fr g3 (h1 0 5 (by unfold a_ccl; omega)) (fun a b q1 q2 => h1 a b (by unfold a_ccl; omega)) (h2 133 17 (by unfold a_mc; omega)) (fun b => h2 140 b (by unfold a_mc; omega)) (fun b => h2 141 b (by unfold a_mc; omega)), a_tp_fr g4 (h1 119 1 (by unfold a_ccl; omega)) (fun b => h1 120 b (by unfold a_ccl; omega)) (h2 133 2 (by unfold a_mc; omega)) (fun b => h2 135 b (by unfold a_mc; omega))⟩
/-- both calls of one heap -/
theorem a_glue {G : a_P} {f : a_P → a_F} {g : a_P → a_F} (hR : a_R G) (hc : ∀ a b, 133 ≤ a → (f G).2 a b = G a b) (hm : ∀ a b, a ≤ 132 → (g (f G).2).2 a b = (f G).2 a b) (h : ∀ X, a_R2 G X → a_R2 (f G).2 (g X).2 ∧ (f G).1 = (g X).1) : a_R (g (f G).2).2 ∧ (f G).1 = (g (f G).2).1 := by
  have h1 : a_R2 G (f G).2 := a_R2_fr hR (fun _ _ _ => rfl) (fun a b q => hc a b (by unfold a_mc at q; omega))
  obtain ⟨h2, h3⟩ := h _ h1
  exact ⟨a_R2_fr h2 (fun a b q => hm a b (by unfold a_ccl at q; omega)) (fun _ _ _ => rfl), h3⟩
theorem a_glue1 {G : a_P} {f : a_P → a_F} {g : a_P → a_F} (hR : a_R G) (hc : ∀ a b, 133 ≤ a → (f G).2 a b = G a b) (hm : ∀ a b, a ≤ 132 → (g (f G).2).2 a b = (f G).2 a b) (h : ∀ X, a_R2 G X → a_R2 (f G).2 (g X).2) : a_R (g (f G).2).2 := by
  have h1 : a_R2 G (f G).2 := a_R2_fr hR (fun _ _ _ => rfl) (fun a b q => hc a b (by unfold a_mc at q; omega))
  exact a_R2_fr (h _ h1) (fun a b q => hm a b (by unfold a_ccl at q; omega)) (fun _ _ _ => rfl)
/-! ONE PLACE OF A ROW -/
def r_up (w : Int → Int) (c v : Int) : Int → Int := fun b => if b = c then v else w b
theorem r_up_eq {w : Int → Int} {c v : Int} : r_up w c v c = v := if_pos rfl
theorem r_up_ne {w : Int → Int} {c v b : Int} (h : ¬ b = c) : r_up w c v b = w b := if_neg h
theorem a_up_row {G : a_P} {h c v : Int} : a_up G h c v h = r_up (G h) c v := by
  funext b
  unfold a_up r_up
  by_cases e : b = c
  · rw [if_pos ⟨rfl, e⟩, if_pos e]
  · rw [if_neg (fun q => e q.2), if_neg e]
theorem a_sm_f {H : a_P} {p f v : Int} {w : Int → Int} (h : a_sm H p w) (h0 : 0 ≤ f) (h5 : f ≤ 5) : a_sm (a_up H p f v) p (r_up w (f + 1) v) := by
  obtain ⟨g0, g1, g2, g3, g4, g5, g6, gA⟩ := h
  have e : ∀ k : Int, H p k = w (k + 1) → a_up H p f v p k = r_up w (f + 1) v (k + 1) := fun k hk => by
    by_cases c : k = f
    · rw [c, a_up_eq, r_up_eq]
    · rw [a_up_ne (by omega), r_up_ne (by omega), hk]
  refine ⟨e 0 g0, e 1 g1, e 2 g2, e 3 g3, e 4 g4, e 5 g5, ?_, fun i q0 q1 => ?_⟩
  · rw [a_up_ne (by omega), r_up_ne (by omega), g6]
  · rw [r_up_ne (by omega)] at q1
    obtain ⟨a1, a2, a3, a4, a5⟩ := gA i q0 q1
    refine ⟨?_, ?_, ?_, ?_, ?_⟩
    · rw [a_up_ne (by omega), r_up_ne (by omega), a1]
    · rw [a_up_ne (by omega), r_up_ne (by omega), a2]
    · rw [a_up_ne (by omega), r_up_ne (by omega), a3]
    · rw [a_up_ne (by omega), r_up_ne (by omega), a4]
    · rw [a_up_ne (by omega), r_up_ne (by omega), a5]
theorem a_sm_a {H : a_P} {p j k v : Int} {w : Int → Int} (h : a_sm H p w) (h8 : w 0 ≤ 8) (j1 : 1 ≤ j) (j5 : j ≤ 5) (k0 : 0 ≤ k) (k8 : k < 8) : a_sm (a_up H (p + j) k v) p (r_up w (8 * j - 1 + k) v) := by
  obtain ⟨g0, g1, g2, g3, g4, g5, g6, gA⟩ := h
  have e : ∀ b, b < 7 → r_up w (8 * j - 1 + k) v b = w b := fun b hb => r_up_ne (by omega)
  refine ⟨?_, ?_, ?_, ?_, ?_, ?_, ?_, fun i q0 q1 => ?_⟩
  · rw [a_up_ne (by omega), e _ (by omega), g0]
  · rw [a_up_ne (by omega), e _ (by omega), g1]
  · rw [a_up_ne (by omega), e _ (by omega), g2]
  · rw [a_up_ne (by omega), e _ (by omega), g3]
  · rw [a_up_ne (by omega), e _ (by omega), g4]
  · rw [a_up_ne (by omega), e _ (by omega), g5]
  · rw [a_up_ne (by omega), e _ (by omega), g6]
  · rw [e _ (by omega)] at q1
    obtain ⟨a1, a2, a3, a4, a5⟩ := gA i q0 q1
    have z : ∀ l : Int, 1 ≤ l → l ≤ 5 → H (p + l) i = w (8 * l - 1 + i) → a_up H (p + j) k v (p + l) i = r_up w (8 * j - 1 + k) v (8 * l - 1 + i) := fun l l1 l5 hl => by
      by_cases c : l = j ∧ i = k
      · rw [c.1, c.2, a_up_eq, r_up_eq]
      · rw [a_up_ne (by omega), r_up_ne (by omega), hl]
    exact ⟨z 1 (by omega) (by omega) a1, z 2 (by omega) (by omega) a2, z 3 (by omega) (by omega) a3, z 4 (by omega) (by omega) a4, z 5 (by omega) (by omega) a5⟩
/-- a row is as it may be, if but its first six places changed -/
theorem a_ok_f {m m' : Int} {w w' : Int → Int} (ho : a_ok m w) (he : ∀ b, 7 ≤ b → w' b = w b) (e0 : w' 0 = w 0) (h1 : 0 ≤ w' 1 ∧ w' 1 ≤ 35) (h2 : 0 ≤ w' 2 ∧ w' 2 ≤ 3) (h3 : w' 3 = -4 ∨ (0 ≤ w' 3 ∧ w' 3 < w 0 ∧ 1 ≤ w (31 + w' 3))) (h4 : 0 ≤ w' 4 ∧ w' 4 ≤ 63) (h5 : 0 ≤ w' 5 ∧ w' 5 ≤ m') (h6 : 0 ≤ w' 6 ∧ w' 6 ≤ 2147483647) : a_ok m' w' := by
  obtain ⟨o0, o1, o2, o3, o4, o5, o6, oA⟩ := ho
  refine ⟨by rw [e0]; exact o0, h1, h2, ?_, h4, h5, h6, fun i q0 q1 => ?_⟩
  · rcases h3 with h | ⟨r1, r2, r3⟩
    · exact Or.inl h
    · exact Or.inr ⟨r1, by rw [e0]; exact r2, by rw [he _ (by omega)]; exact r3⟩
  · rw [e0] at q1
    rw [he _ (by omega), he _ (by omega), he _ (by omega), he _ (by omega), he _ (by omega)]
    exact oA i q0 q1
/-! WHAT IS DONE -/
theorem a_keep2 {H G : a_P} (h : a_R2 H G) : a_R2 (fn_1 13 1 H) (fn_142 G) ∧ (∀ b, fn_142 G 134 b = G 134 b) ∧ (∀ a b, 1 ≤ a → a ≤ 12 → fn_1 13 1 H a b = H a b) := by
  obtain ⟨g1, g2, g3, g4⟩ := h
  have f1 := (fr_1 g2.2.2.1 (by rw [g2.1]; exact g2.2.1)).1
  have f2 := fr_142 G
  have n1 := fl_notes g2.2.1.1 g2.2.1.2
  have c1 : ∀ a b, ¬ a = 13 → ¬ (15 ≤ a ∧ a ≤ 62) → fn_1 13 1 H a b = H a b := fun a b q1 q2 => f1 a b (by unfold a_wk1; omega)
  have c2 : ∀ a b, ¬ a = 133 → ¬ a = 137 → fn_142 G a b = G a b := fun a b q1 q2 => f2 a b (by unfold w_142; omega)
  refine ⟨⟨a_now_fr g1 (fun a b q1 q2 => c1 a b (by omega) (by omega)) (fun b _ _ => c2 134 b (by omega) (by omega)), ?_, a_im_fr g3 (c1 0 5 (by omega) (by omega)) (fun a b q1 q2 => c1 a b (by omega) (by omega)) (f2 133 17 (by unfold w_142; omega)) (fun b => c2 140 b (by omega) (by omega)) (fun b => c2 141 b (by omega) (by omega)), a_tp_fr g4 (c1 119 1 (by omega) (by omega)) (fun b => c1 120 b (by omega) (by omega)) (f2 133 2 (by unfold w_142; omega)) (fun b => c2 135 b (by omega) (by omega))⟩, fun b => c2 134 b (by omega) (by omega), fun a b q1 q2 => c1 a b (by omega) (by omega)⟩
  unfold a_pst
  rw [n1.1]
  exact a_pr_e (fl_keep g2 g1.1 g1.2) n1.2
theorem a_hour2 {H G : a_P} (h : a_R2 H G) (hh : G 134 5 + 1 ≤ 9999) : a_R2 (fn_27 1 H) (fn_124 G) ∧ fn_124 G 134 5 = G 134 5 + 1 := by
  obtain ⟨g1, g2, g3, g4⟩ := h
  have f1 := fr_27 1 H
  have f2 := fr_124 G
  have c1 : ∀ a b, ¬ (1 ≤ a ∧ a ≤ 6) → fn_27 1 H a b = H a b := fun a b q => f1 a b (by unfold w_27; omega)
  have c2 : ∀ a b, ¬ a = 134 → fn_124 G a b = G a b := fun a b q => f2 a b (by unfold w_124; omega)
  have mh := fl_mhour g1.2 (by omega)
  have e : fn_124 G 134 = r_h (G 134) := funext mh
  have ok5 : a_ok (G 134 5) (G 134) := by
    obtain ⟨o0, o1, o2, o3, o4, o5, o6, oA⟩ := g1.2
    exact ⟨o0, o1, o2, o3, o4, ⟨o5.1, Int.le_refl _⟩, o6, oA⟩
  have r5 : r_h (G 134) 5 = G 134 5 + 1 := by
    have b0 := g1.2.1
    have e0 : r_S1 (G 134 0) (G 134) 0 = G 134 0 := r_S1_o (by omega) (by omega)
    have e5 : ∀ c, r_w2 c (G 134) 5 = G 134 5 := fun c => by
      unfold r_w2
      by_cases h : c = 0
      · rw [if_pos h, r_S1_o (by omega) (by omega)]
      · rw [if_neg h, r_S2_o (by omega), r_S1_o (by omega) (by omega)]
    unfold r_h r_pass r_S4
    rw [if_neg (by decide), if_pos rfl, r_S3_o (by omega), e5]
  refine ⟨⟨⟨?_, ?_⟩, a_pst_fr g2 (fun a b q => c1 a b (by omega)) (c2 133 7 (by omega)) (fun b => c2 137 b (by omega)), a_im_fr g3 (c1 0 5 (by omega)) (fun a b q1 q2 => c1 a b (by omega)) (c2 133 17 (by omega)) (fun b => c2 140 b (by omega)) (fun b => c2 141 b (by omega)), a_tp_fr g4 (c1 119 1 (by omega)) (fun b => c1 120 b (by omega)) (c2 133 2 (by omega)) (fun b => c2 135 b (by omega))⟩, by rw [mh, r5]⟩
  · rw [e]
    exact fl_hour g1.1 g1.2 (by omega)
  · rw [e]
    exact a_ok_mono (r_h_ok ok5) hh
/-- now changed alone -/
theorem a_R2_now {H G H' G' : a_P} (h : a_R2 H G) (hn : a_now H' G') (h1 : ∀ a b, ¬ (1 ≤ a ∧ a ≤ 6) → H' a b = H a b) (h2 : ∀ a b, ¬ a = 134 → G' a b = G a b) : a_R2 H' G' := by
  obtain ⟨g1, g2, g3, g4⟩ := h
  exact ⟨hn, a_pst_fr g2 (fun a b q => h1 a b (by omega)) (h2 133 7 (by omega)) (fun b => h2 137 b (by omega)), a_im_fr g3 (h1 0 5 (by omega)) (fun a b q1 q2 => h1 a b (by omega)) (h2 133 17 (by omega)) (fun b => h2 140 b (by omega)) (fun b => h2 141 b (by omega)), a_tp_fr g4 (h1 119 1 (by omega)) (fun b => h1 120 b (by omega)) (h2 133 2 (by omega)) (fun b => h2 135 b (by omega))⟩
def a_Q2R (r t : a_F) : Prop := a_R2 r.2 t.2 ∧ r.1 = t.1
theorem a_Q2i {x y : Int} {H G : a_P} (h : a_R2 H G) (e : x = y) : a_Q2R (x, H) (y, G) := ⟨h, e⟩
theorem a_who2 {H G : a_P} (h : a_R2 H G) : fn_23 1 H = fn_120 G := fl_whoin h.1.1 h.1.2
theorem r2_hours (a1 : Int) {H G : a_P} (h : a_R2 H G) : a_Q2R (fn_61 a1 H) (fn_143 a1 G) := by
  have e5 : H 1 4 = G 134 5 := h.1.1.2.2.2.2.1
  have b5 := h.1.2.2.2.2.2.2.1
  simp only [fn_61, fn_143, a_jn, a_bd, fe_108z, e5]
  by_cases c1 : a1 < 1
  · rw [if_pos c1, if_pos (by omega)]
    exact ⟨h, rfl⟩
  rw [if_neg c1]
  by_cases c2 : 40 < a1
  · rw [if_pos c2, if_pos (by omega)]
    exact ⟨h, rfl⟩
  have c3 : ¬ ¬ (1 ≤ a1 ∧ a1 ≤ 40) := fun q => q ⟨by omega, by omega⟩
  rw [if_neg c2, if_neg c3, a_w_id (by omega) (by omega)]
  by_cases c4 : 9999 < G 134 5 + a1
  · rw [if_pos c4, if_pos c4]
    exact ⟨h, rfl⟩
  rw [if_neg c4, if_neg c4]
  refine a_lp2 (Q := a_Q2R) (fun k s t => s.1 = (k : Int) ∧ t.1 = (k : Int) ∧ a_R2 s.2 t.2 ∧ t.2 134 5 = G 134 5 + (k : Int)) a1.toNat (by omega) (fun k s t hk hst n1 n2 hn => ?_) (fun s t hst n1 n2 => ?_) (0, H) (0, G) ⟨rfl, rfl, h, by show G 134 5 = G 134 5 + ((0 : Nat) : Int); omega⟩
  · obtain ⟨q1, q2, q3, q4⟩ := hst
    rw [if_pos (by rw [q1]; omega), if_pos (by rw [q2]; omega)]
    obtain ⟨k1, k2, -⟩ := a_keep2 q3
    obtain ⟨k3, k4⟩ := a_hour2 k1 (by rw [k2, q4]; omega)
    refine hn _ _ ⟨?_, ?_, k3, ?_⟩
    · show a_w (s.1 + 1) = _
      rw [q1, a_w_id (by omega) (by omega)]
      omega
    · show a_w (t.1 + 1) = _
      rw [q2, a_w_id (by omega) (by omega)]
      omega
    · show fn_124 (fn_142 t.2) 134 5 = _
      rw [k4, k2, q4]
      omega
  · obtain ⟨q1, q2, q3, q4⟩ := hst
    rw [if_neg (by rw [q1]; omega), if_neg (by rw [q2]; omega)]
    exact ⟨q3, a_who2 q3⟩
theorem r2_turn (a1 : Int) {H G : a_P} (h : a_R2 H G) : a_Q2R (fn_63 a1 H) (fn_145 a1 G) := by
  have e1 : H 1 1 = G 134 2 := h.1.1.2.1
  simp only [fn_63, fn_145, a_bd, fe_91z, fe_108z, e1]
  by_cases c1 : 0 ≤ a1 ∧ a1 < 4
  · have v1 : ¬ ¬ (0 ≤ a1 ∧ a1 < 4) := fun q => q c1
    have v2 : ¬ ¬ (0 ≤ a1 ∧ a1 ≤ 3) := fun q => q (by omega)
    rw [if_neg v1, if_neg v2]
    by_cases c2 : G 134 2 = a1
    · rw [if_pos c2, if_pos c2]
      exact ⟨h, rfl⟩
    rw [if_neg c2, if_neg c2]
    obtain ⟨k1, k2, k3⟩ := a_keep2 h
    have o := k1.1.2
    have hn : a_R2 (a_up (fn_1 13 1 H) 1 1 a1) (a_up (fn_142 G) 134 2 a1) := by
      refine a_R2_now k1 ⟨?_, ?_⟩ (fun a b q => a_up_ne (by omega)) (fun a b q => a_up_ne (by omega))
      · rw [a_up_row]
        exact a_sm_f (f := 1) k1.1.1 (by omega) (by omega)
      · rw [a_up_row]
        refine a_ok_f o (fun b q => r_up_ne (by omega)) (r_up_ne (by omega)) (by rw [r_up_ne (by omega)]; exact o.2.1) (by rw [r_up_eq]; omega) (by rw [r_up_ne (by omega)]; exact o.2.2.2.1) (by rw [r_up_ne (by omega)]; exact o.2.2.2.2.1) (by rw [r_up_ne (by omega)]; exact o.2.2.2.2.2.1) (by rw [r_up_ne (by omega)]; exact o.2.2.2.2.2.2.1)
    exact ⟨hn, a_who2 hn⟩
  · rw [if_pos c1, if_pos (by omega)]
    exact ⟨h, rfl⟩
theorem r2_lay {H G : a_P} (h : a_R2 H G) : a_Q2R (fn_65 H) (fn_147 G) := by
  have e2 : H 1 2 = G 134 3 := h.1.1.2.2.1
  have st := fl_stands h.1.1 h.1.2
  simp only [fn_65, fn_147, a_bd, st]
  simp only [fn_117, a_jn]
  by_cases c : G 134 3 = -4
  · rw [if_pos c, if_pos rfl, if_pos c]
    exact ⟨h, rfl⟩
  · rw [if_neg c, if_neg (by decide), if_neg c]
    obtain ⟨k1, k2, k3⟩ := a_keep2 h
    have o := k1.1.2
    refine a_Q2i ?_ (by rw [k3 1 2 (by omega) (by omega), e2])
    refine a_R2_now k1 ⟨?_, ?_⟩ (fun a b q => a_up_ne (by omega)) (fun a b q => a_up_ne (by omega))
    · rw [a_up_row]
      exact a_sm_f (f := 2) k1.1.1 (by omega) (by omega)
    · rw [a_up_row]
      refine a_ok_f o (fun b q => r_up_ne (by omega)) (r_up_ne (by omega)) (by rw [r_up_ne (by omega)]; exact o.2.1) (by rw [r_up_ne (by omega)]; exact o.2.2.1) (by rw [r_up_eq]; exact Or.inl rfl) (by rw [r_up_ne (by omega)]; exact o.2.2.2.2.1) (by rw [r_up_ne (by omega)]; exact o.2.2.2.2.2.1) (by rw [r_up_ne (by omega)]; exact o.2.2.2.2.2.2.1)
theorem r2_rain (a1 : Int) {H G : a_P} (h : a_R2 H G) : a_Q2R (fn_67 a1 H) (fn_149 a1 G) := by
  have e1 : H 1 3 = G 134 4 := h.1.1.2.2.2.1
  simp only [fn_67, fn_149, a_bd, fe_91z, fe_108z, e1]
  by_cases c1 : 0 ≤ a1 ∧ a1 < 64
  · have v1 : ¬ ¬ (0 ≤ a1 ∧ a1 < 64) := fun q => q c1
    have v2 : ¬ ¬ (0 ≤ a1 ∧ a1 ≤ 63) := fun q => q (by omega)
    rw [if_neg v1, if_neg v2]
    by_cases c2 : G 134 4 = a1
    · rw [if_pos c2, if_pos c2]
      exact ⟨h, rfl⟩
    rw [if_neg c2, if_neg c2]
    obtain ⟨k1, k2, k3⟩ := a_keep2 h
    have o := k1.1.2
    refine a_Q2i ?_ rfl
    refine a_R2_now k1 ⟨?_, ?_⟩ (fun a b q => a_up_ne (by omega)) (fun a b q => a_up_ne (by omega))
    · rw [a_up_row]
      exact a_sm_f (f := 3) k1.1.1 (by omega) (by omega)
    · rw [a_up_row]
      refine a_ok_f o (fun b q => r_up_ne (by omega)) (r_up_ne (by omega)) (by rw [r_up_ne (by omega)]; exact o.2.1) (by rw [r_up_ne (by omega)]; exact o.2.2.1) (by rw [r_up_ne (by omega)]; exact o.2.2.2.1) (by rw [r_up_eq]; omega) (by rw [r_up_ne (by omega)]; exact o.2.2.2.2.2.1) (by rw [r_up_ne (by omega)]; exact o.2.2.2.2.2.2.1)
  · rw [if_pos c1, if_pos (by omega)]
    exact ⟨h, rfl⟩
theorem r2_seed (a1 : Int) {H G : a_P} (h : a_R2 H G) (hb : a1 ≤ 2147483647) : a_Q2R (fn_70 a1 H) (fn_152 a1 G) := by
  have e1 : H 1 5 = G 134 6 := h.1.1.2.2.2.2.2.1
  simp only [fn_70, fn_152, a_bd, e1]
  by_cases c1 : a1 < 0
  · rw [if_pos c1, if_pos c1]
    exact ⟨h, rfl⟩
  · rw [if_neg c1, if_neg c1]
    have o := h.1.2
    refine a_Q2i ?_ rfl
    refine a_R2_now h ⟨?_, ?_⟩ (fun a b q => a_up_ne (by omega)) (fun a b q => a_up_ne (by omega))
    · rw [a_up_row]
      exact a_sm_f (f := 5) h.1.1 (by omega) (by omega)
    · rw [a_up_row]
      refine a_ok_f o (fun b q => r_up_ne (by omega)) (r_up_ne (by omega)) (by rw [r_up_ne (by omega)]; exact o.2.1) (by rw [r_up_ne (by omega)]; exact o.2.2.1) (by rw [r_up_ne (by omega)]; exact o.2.2.2.1) (by rw [r_up_ne (by omega)]; exact o.2.2.2.2.1) (by rw [r_up_ne (by omega)]; exact o.2.2.2.2.2.1) (by rw [r_up_eq]; omega)

/-! A PLAIN, read by both -/
def a_Qeq (v r : a_F) : Prop := r = v
noncomputable def m_fin (g l r : Int) (s3 : Int × a_P) : a_F :=
  a_jn (fun (s4 : a_P) => a_bd (fn_140 s4) fun g2 =>
  (g2.1, g2.2)) fun j100 =>
  (if s3.1 < 0 then j100 s3.2
  else a_bd (fn_132 s3.2) fun g3 =>
  (if g3.1 = 0 then a_bd (a_up g3.2 134 0 0) fun H3 =>
  a_bd (a_up H3 134 1 g) fun H4 =>
  a_bd (a_up H4 134 2 l) fun H5 =>
  a_bd (a_up H5 134 3 (H5 133 5)) fun H6 =>
  a_bd (a_up H6 134 4 r) fun H7 =>
  a_bd (a_up H7 134 5 0) fun H8 =>
  a_bd (a_up H8 133 7 0) fun H9 =>
  a_jn (fun (s5 : a_P) => a_bd (a_up s5 133 2 0) fun H10 =>
  (s3.1, H10)) fun j211 =>
  a_lp (fun (s6 : Int × a_P) => (0, s6.2)) (fun (s6 : Int × a_P) n158 => (if s6.1 < (a_w (4 * s3.1)) then a_bd (fn_125 (s6.2 136 s6.1) (s6.2 136 (a_w (s6.1 + 1))) (s6.2 136 (a_w (s6.1 + 2))) (s6.2 136 (a_w (s6.1 + 3))) s6.2) fun H11 =>
  a_bd (a_w (s6.1 + 4)) fun x1 =>
  n158 (x1, H11)
  else j211 s6.2)) a_fuel (0, H9)
  else j100 g3.2))
noncomputable def m_s1 (g1 : a_F) : a_F := if g1.1 < 0 then (-1, g1.2) else ((fn_136 0 g1.2).1, (fn_136 0 g1.2).2)
noncomputable def m_s2 (s1 : a_F) : a_F := if s1.1 < 0 then (-1, s1.2) else if (fn_133 47 s1.2).1 = 0 then (0, (fn_133 47 s1.2).2) else ((fn_134 63 (fn_133 47 s1.2).2).1, (fn_134 63 (fn_133 47 s1.2).2).2)
noncomputable def m_s3 (g : Int) (s2 : a_F) : a_F := if s2.1 < 0 then (-1, s2.2) else if (fn_133 59 s2.2).1 = 0 then (0, (fn_133 59 s2.2).2) else ((fn_139 g (fn_133 59 s2.2).2).1, (fn_139 g (fn_133 59 s2.2).2).2)
noncomputable def m_all (g1 : a_F) : a_F := m_fin g1.1 (m_s1 g1).1 (m_s2 (m_s1 g1)).1 (m_s3 g1.1 (m_s2 (m_s1 g1)))
theorem m_plain_eq (G : a_P) : fn_141 G = m_all (fn_134 35 (a_up (a_up G 133 3 0) 133 5 (-4))) := by
  have key : a_Qeq (m_all (fn_134 35 (a_up (a_up G 133 3 0) 133 5 (-4)))) (fn_141 G) := by
    unfold fn_141
    refine a_fbd1 (Q := a_Qeq _) ?_
    refine a_fbd1 (Q := a_Qeq _) ?_
    refine a_fbd1 (Q := a_Qeq _) ?_
    generalize fn_134 35 (a_up (a_up G 133 3 0) 133 5 (-4)) = g1
    refine a_fjn (Q := a_Qeq (m_all g1)) (fun s1 => s1 = m_s1 g1) (fun s1 h1 => ?_) (fun j hj => ?_)
    · subst h1
      refine a_fjn (Q := a_Qeq (m_all g1)) (fun s2 => s2 = m_s2 (m_s1 g1)) (fun s2 h2 => ?_) (fun j hj => ?_)
      · subst h2
        refine a_fjn (Q := a_Qeq (m_all g1)) (fun s3 => s3 = m_s3 g1.1 (m_s2 (m_s1 g1))) (fun s3 h3 => ?_) (fun j hj => ?_)
        · subst h3
          exact rfl
        · by_cases c : (m_s2 (m_s1 g1)).1 < 0
          · rw [if_pos c]
            exact hj _ (by unfold m_s3; rw [if_pos c])
          · rw [if_neg c]
            refine a_fbd1 (Q := a_Qeq _) ?_
            by_cases d : (fn_133 59 (m_s2 (m_s1 g1)).2).1 = 0
            · rw [if_pos d]
              exact hj _ (by unfold m_s3; rw [if_neg c, if_pos d])
            · rw [if_neg d]
              refine a_fbd1 (Q := a_Qeq _) ?_
              exact hj _ (by unfold m_s3; rw [if_neg c, if_neg d])
      · by_cases c : (m_s1 g1).1 < 0
        · rw [if_pos c]
          exact hj _ (by unfold m_s2; rw [if_pos c])
        · rw [if_neg c]
          refine a_fbd1 (Q := a_Qeq _) ?_
          by_cases d : (fn_133 47 (m_s1 g1).2).1 = 0
          · rw [if_pos d]
            exact hj _ (by unfold m_s2; rw [if_neg c, if_pos d])
          · rw [if_neg d]
            refine a_fbd1 (Q := a_Qeq _) ?_
            exact hj _ (by unfold m_s2; rw [if_neg c, if_neg d])
    · by_cases c : g1.1 < 0
      · rw [if_pos c]
        exact hj _ (by unfold m_s1; rw [if_pos c])
      · rw [if_neg c]
        refine a_fbd1 (Q := a_Qeq _) ?_
        exact hj _ (by unfold m_s1; rw [if_neg c])
  exact key
theorem m_fin_bad {g l r : Int} {s3 : Int × a_P} (h : s3.1 < 0) : m_fin g l r s3 = fn_140 s3.2 := by
  simp only [m_fin, a_jn, a_bd]
  rw [if_pos h]
noncomputable def c_s1 (g3 : a_F) : a_F := if g3.1 = 0 then (0, g3.2) else ((fn_52 63 g3.2).1, (fn_52 63 g3.2).2)
noncomputable def c_s2 (g4 : a_F) : a_P := if g4.1 = 0 then g4.2 else fn_45 7 g4.2
noncomputable def c_s3 (s2 : a_P) : a_P := if (fn_48 s2).1 = 0 then (fn_48 s2).2 else fn_47 ((fn_48 s2).2 119 2) (fn_48 s2).2
noncomputable def c_T3 (H8 : a_P) : a_P := c_s3 (c_s2 (fn_50 59 H8))
noncomputable def c_T2 (H7 : a_P) : a_P := c_T3 (a_up (c_s1 (fn_50 47 H7)).2 7 3 (c_s1 (fn_50 47 H7)).1)
noncomputable def c_T1 (H6 : a_P) : a_P := c_T2 (a_up (fn_51 43 H6).2 7 1 (fn_51 43 H6).1)
noncomputable def c_T0 (H5 : a_P) : a_P := c_T1 (a_up (fn_52 35 H5).2 7 0 (fn_52 35 H5).1)
theorem c_plain_eq (H : a_P) : fn_44 7 H = (c_T0 (a_up (a_up (a_up (a_up (a_up H 119 2 0) 119 3 0) 7 6 0) 7 2 (-4)) 7 4 0) 119 3, c_T0 (a_up (a_up (a_up (a_up (a_up H 119 2 0) 119 3 0) 7 6 0) 7 2 (-4)) 7 4 0)) := by
  have key : a_Qeq (c_T0 (a_up (a_up (a_up (a_up (a_up H 119 2 0) 119 3 0) 7 6 0) 7 2 (-4)) 7 4 0) 119 3, c_T0 (a_up (a_up (a_up (a_up (a_up H 119 2 0) 119 3 0) 7 6 0) 7 2 (-4)) 7 4 0)) (fn_44 7 H) := by
    unfold fn_44
    refine a_fbd1 (Q := a_Qeq _) ?_
    refine a_fbd1 (Q := a_Qeq _) ?_
    refine a_fbd1 (Q := a_Qeq _) ?_
    refine a_fbd1 (Q := a_Qeq _) ?_
    refine a_fbd1 (Q := a_Qeq _) ?_
    generalize a_up (a_up (a_up (a_up (a_up H 119 2 0) 119 3 0) 7 6 0) 7 2 (-4)) 7 4 0 = H5
    refine a_fbd1 (Q := a_Qeq _) ?_
    refine a_fbd1 (Q := a_Qeq _) ?_
    unfold c_T0
    generalize a_up (fn_52 35 H5).2 7 0 (fn_52 35 H5).1 = H6
    refine a_fbd1 (Q := a_Qeq _) ?_
    refine a_fbd1 (Q := a_Qeq _) ?_
    unfold c_T1
    generalize a_up (fn_51 43 H6).2 7 1 (fn_51 43 H6).1 = H7
    refine a_fbd1 (Q := a_Qeq _) ?_
    refine a_fjn (Q := a_Qeq _) (fun s1 => s1 = c_s1 (fn_50 47 H7)) (fun s1 h1 => ?_) (fun j hj => ?_)
    · subst h1
      refine a_fbd1 (Q := a_Qeq _) ?_
      unfold c_T2
      generalize a_up (c_s1 (fn_50 47 H7)).2 7 3 (c_s1 (fn_50 47 H7)).1 = H8
      refine a_fbd1 (Q := a_Qeq _) ?_
      refine a_fjn (Q := a_Qeq _) (fun s2 => s2 = c_s2 (fn_50 59 H8)) (fun s2 h2 => ?_) (fun j hj => ?_)
      · subst h2
        refine a_fbd1 (Q := a_Qeq _) ?_
        unfold c_T3
        generalize c_s2 (fn_50 59 H8) = s2
        refine a_fjn (Q := a_Qeq _) (fun s3 => s3 = c_s3 s2) (fun s3 h3 => ?_) (fun j hj => ?_)
        · subst h3
          exact rfl
        · by_cases d : (fn_48 s2).1 = 0
          · rw [if_pos d]
            exact hj _ (by unfold c_s3; rw [if_pos d])
          · rw [if_neg d]
            refine a_fbd1 (Q := a_Qeq _) ?_
            exact hj _ (by unfold c_s3; rw [if_neg d])
      · by_cases d : (fn_50 59 H8).1 = 0
        · rw [if_pos d]
          exact hj _ (by unfold c_s2; rw [if_pos d])
        · rw [if_neg d]
          refine a_fbd1 (Q := a_Qeq _) ?_
          exact hj _ (by unfold c_s2; rw [if_neg d])
    · by_cases d : (fn_50 47 H7).1 = 0
      · rw [if_pos d]
        exact hj _ (by unfold c_s1; rw [if_pos d])
      · rw [if_neg d]
        refine a_fbd1 (Q := a_Qeq _) ?_
        exact hj _ (by unfold c_s1; rw [if_neg d])
  exact key
/-! behind a fault -/
theorem kf_s3 {X : a_P} {t : Int → Int} {L p f : Int} (h : a_tv X t L p f) (hf : ¬ f = 0) (h9 : L ≤ 90) (p0 : 0 ≤ p) (pL : p ≤ L) : c_s3 X 119 3 = f := by
  obtain ⟨X', e, tx, -⟩ := e_peek h h9 p0 pL
  have nf : ¬ X' 119 3 = 0 := by rw [tx.2.2.1]; exact hf
  unfold c_s3
  rw [e]
  simp only [c_f47 nf]
  split
  · exact tx.2.2.1
  · exact tx.2.2.1
theorem kf_3 {X : a_P} {t : Int → Int} {L p f : Int} (h : a_tv X t L p f) (hf : ¬ f = 0) (h9 : L ≤ 90) (p0 : 0 ≤ p) (pL : p ≤ L) : c_T3 X 119 3 = f := by
  have nf : ¬ X 119 3 = 0 := by rw [h.2.2.1]; exact hf
  have e : c_s2 (fn_50 59 X) = X := by unfold c_s2; rw [c_f50 nf]; exact if_pos rfl
  unfold c_T3
  rw [e]
  exact kf_s3 h hf h9 p0 pL
theorem kf_2 {X : a_P} {t : Int → Int} {L p f : Int} (h : a_tv X t L p f) (hf : ¬ f = 0) (h9 : L ≤ 90) (p0 : 0 ≤ p) (pL : p ≤ L) : c_T2 X 119 3 = f := by
  have nf : ¬ X 119 3 = 0 := by rw [h.2.2.1]; exact hf
  have e : c_s1 (fn_50 47 X) = (0, X) := by unfold c_s1; rw [c_f50 nf]; exact if_pos rfl
  unfold c_T2
  rw [e]
  exact kf_3 (a_tv_o h (by omega) (by omega)) hf h9 p0 pL
theorem kf_1 {X : a_P} {t : Int → Int} {L p f : Int} (h : a_tv X t L p f) (hf : ¬ f = 0) (h9 : L ≤ 90) (p0 : 0 ≤ p) (pL : p ≤ L) : c_T1 X 119 3 = f := by
  have nf : ¬ X 119 3 = 0 := by rw [h.2.2.1]; exact hf
  unfold c_T1
  rw [c_f51 nf]
  exact kf_2 (a_tv_o h (by omega) (by omega)) hf h9 p0 pL
theorem fl_fault {Z : a_P} {t : Int → Int} {L m : Int} (g : m_tv Z t L m) (lo : a_lok t L) (h9 : L ≤ 90) (m0 : 0 ≤ m) (mL : m ≤ L) : ∃ Z', fn_140 Z = (-20 - r_q t L m, Z') ∧ Z' 133 2 = 0 ∧ ∀ a b, ¬ (a = 133 ∧ (b = 2 ∨ b = 3)) → Z' a b = Z a b := by
  have hq := r_q_ok (t := t) mL
  have hqL := hq.2.1
  have hq1 := hq.1
  obtain ⟨Y, ey, ty, fy⟩ := e_here g h9 m0 mL
  refine ⟨a_up Y 133 2 0, ?_, a_up_eq, fun a b q => by rw [a_up_ne (by omega), fy a b (by omega)]⟩
  simp only [fn_140, a_jn, a_bd, ey, ty.1, ty.2.1]
  by_cases c : r_ch t L (r_q t L m) = 0
  · have eL : r_q t L m = L := by
      by_cases d : r_q t L m < L
      · have := lo _ (by omega) d
        unfold r_ch at c
        rw [if_pos d] at c
        omega
      · omega
    rw [if_pos c, if_neg (show ¬ (1 : Int) = 0 by decide), a_w_id (by omega) (by omega), eL]
  · rw [if_neg c, if_pos trivial, a_w_id (by omega) (by omega)]
/-- what reading leaves alone -/
def a_zf (G Z : a_P) : Prop := (∀ a b, ¬ a = 133 → ¬ a = 136 → Z a b = G a b) ∧ ∀ b, ¬ b = 2 → ¬ b = 3 → ¬ b = 5 → Z 133 b = G 133 b
theorem a_zf_t {G Z Z' : a_P} (h : a_zf G Z) (hf : ∀ a b, ¬ a = 136 → ¬ (a = 133 ∧ (b = 2 ∨ b = 3 ∨ b = 5)) → Z' a b = Z a b) : a_zf G Z' := ⟨fun a b q1 q2 => (hf a b q2 (by omega)).trans (h.1 a b q1 q2), fun b q1 q2 q3 => (hf 133 b (by omega) (by omega)).trans (h.2 b q1 q2 q3)⟩
/-- it is a fault of both -/
def a_PA (G : a_P) (f : Int) (s : a_F) : Prop := ¬ f = 0 ∧ s.1 = f ∧ s.2 133 2 = 0 ∧ a_zf G s.2
/-- it is a PLAIN for both -/
def a_PB (G X : a_P) (s : a_F) : Prop := X 119 3 = 0 ∧ (0 ≤ s.1 ∧ s.1 ≤ 8) ∧ X 7 6 = s.1 ∧ s.2 134 0 = s.1 ∧ X 7 0 = s.2 134 1 ∧ X 7 1 = s.2 134 2 ∧ X 7 2 = s.2 134 3 ∧ X 7 3 = s.2 134 4 ∧ X 7 4 = s.2 134 5 ∧ s.2 134 6 = G 134 6 ∧ (∀ i, 0 ≤ i → i < s.1 → X (7 + 1) i = s.2 134 (7 + i) ∧ X (7 + 2) i = s.2 134 (15 + i) ∧ X (7 + 3) i = s.2 134 (23 + i) ∧ X (7 + 4) i = s.2 134 (31 + i) ∧ X (7 + 5) i = s.2 134 (39 + i)) ∧ a_ok 9999 (s.2 134) ∧ s.2 133 2 = 0 ∧ s.2 133 7 = 0 ∧ ∀ a b, ¬ a = 134 → ¬ a = 136 → ¬ (a = 133 ∧ (b = 2 ∨ b = 3 ∨ b = 5 ∨ b = 7)) → s.2 a b = G a b
theorem a_PA_bad {G Z : a_P} {t : Int → Int} {L m g l r x : Int} (hx : x < 0) (zf : a_zf G Z) (mv : m_tv Z t L m) (lo : a_lok t L) (h9 : L ≤ 90) (m0 : 0 ≤ m) (mL : m ≤ L) : a_PA G (-20 - r_q t L m) (m_fin g l r (x, Z)) := by
  have hq := (r_q_ok (t := t) mL).1
  obtain ⟨Z', e, h2, hf⟩ := fl_fault mv lo h9 m0 mL
  rw [m_fin_bad (s3 := (x, Z)) hx]
  show a_PA G (-20 - r_q t L m) (fn_140 Z)
  rw [e]
  exact ⟨by omega, rfl, h2, a_zf_t zf (fun a b q1 q2 => hf a b (by omega))⟩

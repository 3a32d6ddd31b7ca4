/-! THE TAPE: letters t, how many L, a place p -/
def a_tv (H : a_P) (t : Int → Int) (L p f : Int) : Prop := H 119 1 = L ∧ H 119 2 = p ∧ H 119 3 = f ∧ ∀ i, 0 ≤ i → i < L → H 120 i = t i
def m_tv (G : a_P) (t : Int → Int) (L p : Int) : Prop := G 133 2 = L ∧ G 133 3 = p ∧ ∀ i, 0 ≤ i → i < L → G 135 i = t i
def a_skp (t : Int → Int) (L p q : Int) : Prop := p ≤ q ∧ q ≤ L ∧ (∀ i, p ≤ i → i < q → t i = 32) ∧ (q < L → ¬ t q = 32)
theorem a_skp_u {t : Int → Int} {L p q r : Int} (h1 : a_skp t L p q) (h2 : a_skp t L p r) : q = r := by
  obtain ⟨a1, a2, a3, a4⟩ := h1
  obtain ⟨b1, b2, b3, b4⟩ := h2
  rcases Int.lt_trichotomy q r with c | c | c
  · exact absurd (b3 q a1 c) (a4 (by omega))
  · exact c
  · exact absurd (a3 r b1 c) (b4 (by omega))
/-- the place behind blanks -/
def r_qn (t : Int → Int) (L : Int) : Nat → Int → Int
  | 0, p => p
  | n + 1, p => if p < L ∧ t p = 32 then r_qn t L n (p + 1) else p
def r_q (t : Int → Int) (L p : Int) : Int := r_qn t L (L - p).toNat p
theorem r_qn_ok {t : Int → Int} {L : Int} : ∀ (n : Nat) (p : Int), (L - p).toNat ≤ n → p ≤ L → a_skp t L p (r_qn t L n p)
  | 0, p, h, h2 => ⟨Int.le_refl _, h2, fun i q0 q1 => absurd q1 (by show ¬ i < p; omega), fun q => absurd q (by show ¬ p < L; omega)⟩
  | n + 1, p, h, h2 => by
    unfold r_qn
    by_cases c : p < L ∧ t p = 32
    · rw [if_pos c]
      obtain ⟨a1, a2, a3, a4⟩ := r_qn_ok (t := t) (L := L) n (p + 1) (by omega) (by omega)
      refine ⟨by omega, a2, fun i q0 q1 => ?_, a4⟩
      by_cases d : i = p
      · rw [d]; exact c.2
      · exact a3 i (by omega) q1
    · rw [if_neg c]
      exact ⟨Int.le_refl _, h2, fun i q0 q1 => absurd q1 (by omega), fun q e => c ⟨q, e⟩⟩
theorem r_q_ok {t : Int → Int} {L p : Int} (h : p ≤ L) : a_skp t L p (r_q t L p) := r_qn_ok _ p (Nat.le_refl _) h
theorem r_q_eq {t : Int → Int} {L p q : Int} (h : a_skp t L p q) : r_q t L p = q := a_skp_u (r_q_ok (Int.le_trans h.1 h.2.1)) h
theorem r_q_id {t : Int → Int} {L p : Int} (h : p ≤ L) : r_q t L (r_q t L p) = r_q t L p := by
  have h1 := r_q_ok (t := t) h
  exact r_q_eq ⟨Int.le_refl _, h1.2.1, fun i q0 q1 => absurd q1 (by omega), h1.2.2.2⟩
/-- the letter at a place -/
def r_ch (t : Int → Int) (L q : Int) : Int := if q < L then t q else 0
theorem fe_49 {H : a_P} {t : Int → Int} {L p f q : Int} (h : a_tv H t L p f) (h9 : L ≤ 90) (q0 : 0 ≤ q) : fn_49 q H = r_ch t L q := by
  obtain ⟨h1, h2, h3, h4⟩ := h
  simp only [fn_49, a_jn, h1]
  unfold r_ch
  rw [if_neg (show ¬ q < 0 by omega)]
  by_cases c : q < L
  · rw [if_pos c, if_pos c, if_pos (by omega), h4 q q0 c]
  · rw [if_neg c, if_neg c]
def a_Qpk (t : Int → Int) (L q f : Int) (r : a_F) : Prop := r.1 = r_ch t L q ∧ a_tv r.2 t L q f
theorem fl_peek {H : a_P} {t : Int → Int} {L p f : Int} (h : a_tv H t L p f) (h9 : L ≤ 90) (p0 : 0 ≤ p) (pL : p ≤ L) : a_Qpk t L (r_q t L p) f (fn_48 H) := by
  unfold fn_48
  have hq := r_q_ok (t := t) pL
  refine a_fjn (Q := a_Qpk t L (r_q t L p) f) (fun s => a_tv s t L (r_q t L p) f) (fun s hs => ⟨?_, hs⟩) (fun j hj => ?_)
  · show fn_49 (s 119 2) s = _
    rw [hs.2.1, fe_49 hs h9 (by have := hq.1; omega)]
  · refine a_lp_up (Q := a_Qpk t L (r_q t L p) f) (fun k s => a_tv s t L (p + (k : Int)) f) (r_q t L p - p).toNat (by have := hq.2.1; omega) (fun k s hk hs nx hn => ?_) (fun s hs nx => ?_) H (by
      obtain ⟨h1, h2, h3, h4⟩ := h
      exact ⟨h1, by rw [h2]; show p = p + ((0 : Nat) : Int); omega, h3, h4⟩)
    · have hqL := hq.2.1
      have b := hq.2.2.1 (p + (k : Int)) (by omega) (by omega)
      have ech : r_ch t L (p + (k : Int)) = t (p + (k : Int)) := if_pos (by omega)
      rw [if_pos (by rw [hs.1, hs.2.1]; omega), hs.2.1, fe_49 hs h9 (by omega), ech, if_pos b]
      refine hn _ ⟨?_, ?_, ?_, fun i q0 q1 => ?_⟩
      · show a_up s 119 2 (a_w (p + (k : Int) + 1)) 119 1 = L
        rw [a_up_ne (by omega), hs.1]
      · show a_up s 119 2 (a_w (p + (k : Int) + 1)) 119 2 = _
        rw [a_up_eq, a_w_id (by omega) (by omega)]
        omega
      · show a_up s 119 2 (a_w (p + (k : Int) + 1)) 119 3 = f
        rw [a_up_ne (by omega), hs.2.2.1]
      · show a_up s 119 2 (a_w (p + (k : Int) + 1)) 120 i = t i
        rw [a_up_ne (by omega)]
        exact hs.2.2.2 i q0 q1
    · have hqL := hq.2.1
      have hq1 := hq.1
      have e : p + (((r_q t L p - p).toNat : Nat) : Int) = r_q t L p := by omega
      rw [e] at hs
      by_cases c : r_q t L p < L
      · rw [if_pos (by rw [hs.1, hs.2.1]; exact c), hs.2.1, fe_49 hs h9 (by omega)]
        unfold r_ch
        rw [if_pos c, if_neg (hq.2.2.2 c)]
        exact hj _ hs
      · rw [if_neg (by rw [hs.1, hs.2.1]; exact c)]
        exact hj _ hs
def a_Qhr (t : Int → Int) (L q : Int) (r : a_F) : Prop := r.1 = r_ch t L q ∧ m_tv r.2 t L q
theorem fl_here {G : a_P} {t : Int → Int} {L p : Int} (h : m_tv G t L p) (h9 : L ≤ 90) (p0 : 0 ≤ p) (pL : p ≤ L) : a_Qhr t L (r_q t L p) (fn_132 G) := by
  unfold fn_132
  have hq := r_q_ok (t := t) pL
  refine a_fjn (Q := a_Qhr t L (r_q t L p)) (fun s => m_tv s t L (r_q t L p)) (fun s hs => ?_) (fun j hj => ?_)
  · refine a_fjn (Q := a_Qhr t L (r_q t L p)) (fun v : Int => v = r_ch t L (r_q t L p)) (fun v hv => ⟨hv, hs⟩) (fun j hj => ?_)
    have hq1 := hq.1
    unfold r_ch at hj
    rw [hs.1, hs.2.1]
    by_cases c : r_q t L p < L
    · rw [if_pos c]
      exact hj _ (by rw [if_pos c, hs.2.2 _ (by omega) c])
    · rw [if_neg c]
      exact hj _ (by rw [if_neg c])
  · refine a_lp_up (Q := a_Qhr t L (r_q t L p)) (fun k s => m_tv s t L (p + (k : Int))) (r_q t L p - p).toNat (by have := hq.2.1; omega) (fun k s hk hs nx hn => ?_) (fun s hs nx => ?_) G (by
      obtain ⟨h1, h2, h4⟩ := h
      exact ⟨h1, by rw [h2]; show p = p + ((0 : Nat) : Int); omega, h4⟩)
    · have hqL := hq.2.1
      have b := hq.2.2.1 (p + (k : Int)) (by omega) (by omega)
      rw [if_pos (by rw [hs.1, hs.2.1]; omega), hs.2.1, hs.2.2 _ (by omega) (by omega), if_pos b]
      refine hn _ ⟨?_, ?_, fun i q0 q1 => ?_⟩
      · show a_up s 133 3 (a_w (p + (k : Int) + 1)) 133 2 = L
        rw [a_up_ne (by omega), hs.1]
      · show a_up s 133 3 (a_w (p + (k : Int) + 1)) 133 3 = _
        rw [a_up_eq, a_w_id (by omega) (by omega)]
        omega
      · show a_up s 133 3 (a_w (p + (k : Int) + 1)) 135 i = t i
        rw [a_up_ne (by omega)]
        exact hs.2.2 i q0 q1
    · have hqL := hq.2.1
      have hq1 := hq.1
      have e : p + (((r_q t L p - p).toNat : Nat) : Int) = r_q t L p := by omega
      rw [e] at hs
      by_cases c : r_q t L p < L
      · rw [if_pos (by rw [hs.1, hs.2.1]; exact c), hs.2.1, hs.2.2 _ (by omega) c, if_neg (hq.2.2.2 c)]
        exact hj _ hs
      · rw [if_neg (by rw [hs.1, hs.2.1]; exact c)]
        exact hj _ hs
/-- one letter on -/
theorem a_tv_on {H : a_P} {t : Int → Int} {L p f : Int} (h : a_tv H t L p f) (p0 : 0 ≤ p) (p9 : p ≤ 100) : a_tv (a_up H 119 2 (a_w (H 119 2 + 1))) t L (p + 1) f := by
  obtain ⟨h1, h2, h3, h4⟩ := h
  refine ⟨by rw [a_up_ne (by omega), h1], by rw [a_up_eq, h2, a_w_id (by omega) (by omega)], by rw [a_up_ne (by omega), h3], fun i q0 q1 => by rw [a_up_ne (by omega)]; exact h4 i q0 q1⟩
theorem m_tv_on {G : a_P} {t : Int → Int} {L p : Int} (h : m_tv G t L p) (p0 : 0 ≤ p) (p9 : p ≤ 100) : m_tv (a_up G 133 3 (a_w (G 133 3 + 1))) t L (p + 1) := by
  obtain ⟨h1, h2, h4⟩ := h
  refine ⟨by rw [a_up_ne (by omega), h1], by rw [a_up_eq, h2, a_w_id (by omega) (by omega)], fun i q0 q1 => by rw [a_up_ne (by omega)]; exact h4 i q0 q1⟩
theorem a_tv_fail {H : a_P} {t : Int → Int} {L p q : Int} (h : a_tv H t L p 0) (q0 : 0 ≤ q) (q9 : q ≤ 100) : a_tv (fn_47 q H) t L p (-20 - q) := by
  obtain ⟨h1, h2, h3, h4⟩ := h
  simp only [fn_47, a_jn, a_bd]
  rw [if_pos h3, a_w_id (by omega) (by omega)]
  exact ⟨by rw [a_up_ne (by omega), h1], by rw [a_up_ne (by omega), h2], a_up_eq, fun i q0 q1 => by rw [a_up_ne (by omega)]; exact h4 i q0 q1⟩
/-- a letter of the tape or its end -/
def a_lok (t : Int → Int) (L : Int) : Prop := ∀ i, 0 ≤ i → i < L → 32 ≤ t i ∧ t i ≤ 126
theorem r_ch_b {t : Int → Int} {L q : Int} (h : a_lok t L) (q0 : 0 ≤ q) : 0 ≤ r_ch t L q ∧ r_ch t L q ≤ 126 := by
  unfold r_ch
  by_cases c : q < L
  · rw [if_pos c]
    have := h q q0 c
    omega
  · rw [if_neg c]
    omega
theorem r_ch_n {t : Int → Int} {L q : Int} (h : a_lok t L) (q0 : 0 ≤ q) (hc : ¬ r_ch t L q = 0) : q < L := by
  unfold r_ch at hc
  by_cases c : q < L
  · exact c
  · rw [if_neg c] at hc
    exact absurd rfl hc
/-! skips, has -/
theorem fl_skips {H : a_P} {t : Int → Int} {L p x : Int} (h : a_tv H t L p 0) (h9 : L ≤ 90) (p0 : 0 ≤ p) (pL : p ≤ L) : (fn_50 x H).1 = (if r_ch t L (r_q t L p) = x then 1 else 0) ∧ a_tv (fn_50 x H).2 t L (if r_ch t L (r_q t L p) = x then r_q t L p + 1 else r_q t L p) 0 := by
  have hq := r_q_ok (t := t) pL
  have hqL := hq.2.1
  have hq1 := hq.1
  obtain ⟨k1, k2⟩ := fl_peek h h9 p0 pL
  simp only [fn_50, a_jn, a_bd]
  rw [if_pos h.2.2.1, k1]
  by_cases c : r_ch t L (r_q t L p) = x
  · rw [if_pos c, if_pos c, if_pos c]
    exact ⟨rfl, a_tv_on k2 (by omega) (by omega)⟩
  · rw [if_neg c, if_neg c, if_neg c]
    exact ⟨rfl, k2⟩
theorem fl_has {G : a_P} {t : Int → Int} {L p x : Int} (h : m_tv G t L p) (h9 : L ≤ 90) (p0 : 0 ≤ p) (pL : p ≤ L) : (fn_133 x G).1 = (if r_ch t L (r_q t L p) = x then 1 else 0) ∧ m_tv (fn_133 x G).2 t L (if r_ch t L (r_q t L p) = x then r_q t L p + 1 else r_q t L p) := by
  have hq := r_q_ok (t := t) pL
  have hqL := hq.2.1
  have hq1 := hq.1
  obtain ⟨k1, k2⟩ := fl_here h h9 p0 pL
  simp only [fn_133, a_bd]
  rw [k1]
  by_cases c : r_ch t L (r_q t L p) = x
  · rw [if_pos c, if_pos c, if_pos c]
    exact ⟨rfl, m_tv_on k2 (by omega) (by omega)⟩
  · rw [if_neg c, if_neg c, if_neg c]
    exact ⟨rfl, k2⟩
/-! a number -/
def r_dg (c : Int) : Prop := 48 ≤ c ∧ c ≤ 57
theorem fe_53 (c : Int) : (fn_53 c = 0) ↔ ¬ r_dg c := by
  unfold r_dg
  simp only [fn_53, a_jn]
  by_cases h1 : c < 48
  · rw [if_pos h1]; omega
  · rw [if_neg h1]
    by_cases h2 : 57 < c
    · rw [if_pos h2]; omega
    · rw [if_neg h2]; omega
theorem m_tv_at {G : a_P} {t : Int → Int} {L p q : Int} (h : m_tv G t L p) : m_tv (a_up G 133 3 q) t L q := ⟨by rw [a_up_ne (by omega)]; exact h.1, a_up_eq, fun i q0 q1 => by rw [a_up_ne (by omega)]; exact h.2.2 i q0 q1⟩
/-- its value and the place behind it, one digit and two -/
theorem fl_num {H G : a_P} {t : Int → Int} {L p m most : Int} (h : a_tv H t L p 0) (g : m_tv G t L m) (em : r_q t L m = r_q t L p) (lo : a_lok t L) (h9 : L ≤ 90) (p0 : 0 ≤ p) (pL : p ≤ L) (m0 : 0 ≤ m) (mL : m ≤ L) (ms : 0 ≤ most) : (∃ v p', 0 ≤ v ∧ v ≤ most ∧ r_q t L p < p' ∧ p' ≤ L ∧ (fn_52 most H).1 = v ∧ a_tv (fn_52 most H).2 t L p' 0 ∧ (fn_134 most G).1 = v ∧ m_tv (fn_134 most G).2 t L p') ∨ (∃ p', 0 ≤ p' ∧ p' ≤ L ∧ a_tv (fn_52 most H).2 t L p' (-20 - r_q t L p) ∧ (fn_134 most G).1 = -1 ∧ m_tv (fn_134 most G).2 t L (r_q t L p)) := by
  have hq := r_q_ok (t := t) pL
  have hqL := hq.2.1
  have hq1 := hq.1
  obtain ⟨k1, k2⟩ := fl_peek h h9 p0 pL
  obtain ⟨m1, m2⟩ := fl_here g h9 m0 mL
  rw [em] at m1 m2
  have cb := r_ch_b lo (q := r_q t L p) (by omega)
  simp only [fn_52, fn_134, a_jn, a_bd]
  rw [if_pos h.2.2.1, k1, m1]
  by_cases c : r_dg (r_ch t L (r_q t L p))
  · have n1 : ¬ fn_53 (r_ch t L (r_q t L p)) = 0 := by rw [fe_53]; exact fun q => q c
    have n2 : ¬ fn_108 (r_ch t L (r_q t L p)) 48 57 = 0 := by rw [fe_108z]; exact fun q => q c
    have cL : r_q t L p < L := r_ch_n lo (by omega) (by unfold r_dg at c; omega)
    rw [if_neg n1, if_neg n2]
    have k3 := a_tv_on k2 (by omega) (by omega)
    have m3 := m_tv_on m2 (by omega) (by omega)
    have kp : (fn_48 H).2 119 2 = r_q t L p := k2.2.1
    have mp : (fn_132 G).2 133 3 = r_q t L p := m2.2.1
    have ml : (fn_132 G).2 135 (r_q t L p) = r_ch t L (r_q t L p) := by unfold r_ch; rw [if_pos cL]; exact m2.2.2 _ (by omega) cL
    rw [kp] at k3 ⊢
    rw [mp] at m3 ⊢
    rw [fe_49 k2 h9 (by omega), ml]
    have wv : a_w (r_ch t L (r_q t L p) - 48) = r_ch t L (r_q t L p) - 48 := a_w_id (by omega) (by omega)
    rw [wv]
    clear wv
    generalize a_up (fn_48 H).2 119 2 (a_w (r_q t L p + 1)) = H1 at k3 ⊢
    generalize a_up (fn_132 G).2 133 3 (a_w (r_q t L p + 1)) = G1 at m3 ⊢
    have x2 : H1 119 2 = r_q t L p + 1 := k3.2.1
    have y3 : G1 133 3 = r_q t L p + 1 := m3.2.1
    have y2 : G1 133 2 = L := m3.1
    have k3' := k3
    have m3' := m3
    rw [x2, y3, y2, fe_49 k3 h9 (by omega)]
    have v0 : 0 ≤ r_ch t L (r_q t L p) - 48 ∧ r_ch t L (r_q t L p) - 48 ≤ 9 := by unfold r_dg at c; omega
    by_cases d : r_dg (r_ch t L (r_q t L p + 1))
    · have d1 : ¬ fn_53 (r_ch t L (r_q t L p + 1)) = 0 := by rw [fe_53]; exact fun q => q d
      have dL : r_q t L p + 1 < L := r_ch_n lo (by omega) (by unfold r_dg at d; omega)
      have ml2 : G1 135 (r_q t L p + 1) = r_ch t L (r_q t L p + 1) := by unfold r_ch; rw [if_pos dL]; exact m3.2.2 _ (by omega) dL
      have d2 : ¬ fn_108 (r_ch t L (r_q t L p + 1)) 48 57 = 0 := by rw [fe_108z]; exact fun q => q d
      rw [if_neg d1, if_pos dL, ml2, if_neg d2]
      have k4 := a_tv_on k3 (by omega) (by omega)
      have m4 := m_tv_on m3 (by omega) (by omega)
      rw [x2] at k4
      rw [y3] at m4
      have dd : 48 ≤ r_ch t L (r_q t L p + 1) ∧ r_ch t L (r_q t L p + 1) ≤ 57 := d
      generalize r_ch t L (r_q t L p + 1) = c2 at dd ⊢
      generalize r_ch t L (r_q t L p) - 48 = v1 at v0 ⊢
      have wv : a_w (a_w (a_w (10 * v1) + c2) - 48) = 10 * v1 + c2 - 48 := by rw [a_w_id (x := 10 * v1) (by omega) (by omega), a_w_id (x := 10 * v1 + c2) (by omega) (by omega), a_w_id (by omega) (by omega)]
      rw [wv]
      clear wv
      by_cases e : most < 10 * v1 + c2 - 48
      · rw [if_pos e, if_pos e]
        refine Or.inr ⟨r_q t L p + 1 + 1, by omega, by omega, a_tv_fail k4 (by omega) (by omega), rfl, ?_⟩
        exact m_tv_at m4
      · rw [if_neg e, if_neg e]
        exact Or.inl ⟨10 * v1 + c2 - 48, r_q t L p + 1 + 1, by omega, by omega, by omega, by omega, rfl, k4, rfl, m4⟩
    · have d1 : fn_53 (r_ch t L (r_q t L p + 1)) = 0 := (fe_53 _).mpr d
      rw [if_pos d1]
      have mm : (if r_q t L p + 1 < L then (if fn_108 (G1 135 (r_q t L p + 1)) 48 57 = 0 then (if most < r_ch t L (r_q t L p) - 48 then ((-1, a_up G1 133 3 (r_q t L p)) : a_F) else (r_ch t L (r_q t L p) - 48, G1)) else (if most < a_w (a_w (a_w (10 * (r_ch t L (r_q t L p) - 48)) + G1 135 (r_q t L p + 1)) - 48) then (-1, a_up (a_up G1 133 3 (a_w (r_q t L p + 1 + 1))) 133 3 (r_q t L p)) else (a_w (a_w (a_w (10 * (r_ch t L (r_q t L p) - 48)) + G1 135 (r_q t L p + 1)) - 48), a_up G1 133 3 (a_w (r_q t L p + 1 + 1))))) else (if most < r_ch t L (r_q t L p) - 48 then (-1, a_up G1 133 3 (r_q t L p)) else (r_ch t L (r_q t L p) - 48, G1))) = (if most < r_ch t L (r_q t L p) - 48 then (-1, a_up G1 133 3 (r_q t L p)) else (r_ch t L (r_q t L p) - 48, G1)) := by
        by_cases dL : r_q t L p + 1 < L
        · have ml2 : G1 135 (r_q t L p + 1) = r_ch t L (r_q t L p + 1) := by unfold r_ch; rw [if_pos dL]; exact m3.2.2 _ (by omega) dL
          have d2 : fn_108 (r_ch t L (r_q t L p + 1)) 48 57 = 0 := by rw [fe_108z]; exact d
          rw [if_pos dL, ml2, if_pos d2]
        · rw [if_neg dL]
      rw [mm]
      by_cases e : most < r_ch t L (r_q t L p) - 48
      · rw [if_pos e, if_pos e]
        refine Or.inr ⟨r_q t L p + 1, by omega, by omega, a_tv_fail k3 (by omega) (by omega), rfl, ?_⟩
        exact m_tv_at m3
      · rw [if_neg e, if_neg e]
        exact Or.inl ⟨r_ch t L (r_q t L p) - 48, r_q t L p + 1, by omega, by omega, by omega, by omega, rfl, k3, rfl, m3⟩
  · rw [if_pos ((fe_53 _).mpr c), if_pos ((fe_108z _ 48 57).mpr c)]
    have kp : (fn_48 H).2 119 2 = r_q t L p := k2.2.1
    rw [kp]
    exact Or.inr ⟨r_q t L p, by omega, hqL, a_tv_fail k2 (by omega) (by omega), rfl, m2⟩

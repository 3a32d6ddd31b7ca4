/-! FORETOLD -/
noncomputable def r_who (w : Int → Int) : Int := fn_120 (fun _ => w)
noncomputable def r_let (w : Int → Int) : Int := fn_119 (fun _ => w)
noncomputable def r_wet (w : Int → Int) : Int := fn_129 (fun _ => w)
theorem r_let_eq (G : a_P) : fn_119 G = r_let (G 134) := by
  unfold r_let fn_119
  have e : ∀ i, fn_118 i G = fn_118 i (fun _ => G 134) := fun i => r_in_eq G i
  simp only [e]
theorem r_who_eq (G : a_P) : fn_120 G = r_who (G 134) := by
  unfold r_who fn_120
  rw [r_let_eq]
  rfl
theorem r_wet_eq (G : a_P) : fn_129 G = r_wet (G 134) := rfl
theorem c_who {H : a_P} {p m : Int} {w : Int → Int} (hs : a_sm H p w) (ho : a_ok m w) : fn_23 p H = r_who w := fl_whoin (G := fun _ => w) hs ho
theorem c_let {H : a_P} {p m : Int} {w : Int → Int} (hs : a_sm H p w) (ho : a_ok m w) : fn_22 p H = r_let w := fl_who (G := fun _ => w) hs ho
theorem c_wet {H : a_P} {p m : Int} {w : Int → Int} (hs : a_sm H p w) (ho : a_ok m w) : fn_24 p H = r_wet w := by
  have b0 := ho.1
  have s6 : H p 6 = w 0 := hs.2.2.2.2.2.2.1
  unfold r_wet fn_24 fn_129
  refine a_lp2 (Q := Eq) (fun i s t => s = t ∧ s.2 = (i : Int)) (w 0).toNat (by omega) ?_ ?_ (0, 0) (0, 0) ⟨rfl, rfl⟩
  · intro i s t hi ⟨e, h2⟩ n1 n2 hn
    subst e
    rw [if_pos (by rw [h2, s6]; omega), if_pos (by show s.2 < w 0; rw [h2]; omega)]
    simp only [a_bd]
    have e5 := (hs.2.2.2.2.2.2.2 s.2 (by omega) (by omega)).2.2.2.2
    rw [e5, a_w_id (x := 39 + s.2) (by omega) (by omega)]
    refine hn _ _ ⟨rfl, ?_⟩
    show a_w (s.2 + 1) = _
    rw [h2, a_w_id (by omega) (by omega)]
    omega
  · intro s t ⟨e, h2⟩ n1 n2
    subst e
    rw [if_neg (by rw [h2, s6]; omega), if_neg (by show ¬ s.2 < w 0; rw [h2]; omega)]
theorem r_wet_b {m : Int} {w : Int → Int} (ho : a_ok m w) : 0 ≤ r_wet w ∧ r_wet w ≤ 800 := by
  have b0 := ho.1
  unfold r_wet fn_129
  refine a_lp_up (Q := fun v : Int => 0 ≤ v ∧ v ≤ 800) (fun k s => s.2 = (k : Int) ∧ 0 ≤ s.1 ∧ s.1 ≤ 100 * (k : Int)) (w 0).toNat (by omega) (fun k s hk hss nx hn => ?_) (fun s hss nx => ?_) (0, 0) ⟨rfl, by show (0 : Int) ≤ 0; omega, by show (0 : Int) ≤ 100 * ((0 : Nat) : Int); omega⟩
  · obtain ⟨q1, q2, q3⟩ := hss
    rw [if_pos (by show s.2 < w 0; rw [q1]; omega)]
    have oi := (ho.2.2.2.2.2.2.2 (k : Int) (by omega) (by omega)).2.2.2.2
    have ew : a_w (s.1 + w (a_w (39 + s.2))) = s.1 + w (39 + (k : Int)) := by
      rw [q1, a_w_id (x := 39 + (k : Int)) (by omega) (by omega), a_w_id (by omega) (by omega)]
    refine hn _ ⟨?_, ?_, ?_⟩
    · show a_w (s.2 + 1) = _
      rw [q1, a_w_id (by omega) (by omega)]
      omega
    · show 0 ≤ a_w (s.1 + w (a_w (39 + s.2)))
      rw [ew]
      omega
    · show a_w (s.1 + w (a_w (39 + s.2))) ≤ 100 * ((k + 1 : Nat) : Int)
      rw [ew]
      omega
  · rw [if_neg (by show ¬ s.2 < w 0; rw [hss.1]; omega)]
    omega
/-- the reference tries n HOURS from a row V, and lays W back -/
theorem m_try {X : a_P} {m n : Int} {V W : Int → Int} (hv : ∀ b, X 134 b = V b) (ha : ∀ b, 0 ≤ b → b < 47 → X 138 b = W b) (ho : a_ok m V) (hm : m ≤ 100000) (hw : ∀ b, b < 0 ∨ 47 ≤ b → V b = W b) (h0 : 0 ≤ n) (h1 : n ≤ 1000) : fn_155 n X 134 = r_hs n.toNat V ∧ a_asd (fn_154 (fn_155 n X)) W := by
  have e : X 134 = V := funext hv
  have ho' : a_ok m (X 134) := by rw [e]; exact ho
  have h2 := fl_mhours ho' hm h0 h1
  rw [e] at h2
  refine ⟨funext h2, a_asd_back (fun b q0 q1 => ?_) (fun b q => ?_)⟩
  · rw [fr_155 n X 138 b (by unfold w_155; omega)]
    exact ha b q0 q1
  · rw [h2 b, r_hs_o ho q]
    exact hw b q
theorem m_wb {X : a_P} {m n : Int} {V W : Int → Int} (hv : ∀ b, X 134 b = V b) (ha : ∀ b, 0 ≤ b → b < 47 → X 138 b = W b) (ho : a_ok m V) (hm : m ≤ 100000) (hw : ∀ b, b < 0 ∨ 47 ≤ b → V b = W b) (h0 : 0 ≤ n) (h1 : n ≤ 1000) : (fn_159 n X).1 = r_wet (r_hs n.toNat V) ∧ a_asd (fn_159 n X).2 W := by
  obtain ⟨t1, t2⟩ := m_try hv ha ho hm hw h0 h1
  refine ⟨?_, t2⟩
  show fn_129 (fn_155 n X) = _
  rw [r_wet_eq, t1]
/-- the class tries: a Plain at 7 like now -/
theorem c_like {H G : a_P} (h : a_now H G) : a_sm (fn_10 7 1 H) 7 (G 134) := fl_like h.1 h.2.1.2 (by omega)
theorem c_fore {H G : a_P} {n : Int} (h : a_now H G) (h0 : 0 ≤ n) (h1 : n ≤ 1000) : a_sm (fn_93 n H) 7 (r_hs n.toNat (G 134)) := fl_hours (c_like h) h.2 (by omega) h0 h1
/-- what is foretold changes nothing -/
theorem a_R2_q {H G H' G' : a_P} (h : a_R2 H G) (h1 : ∀ a b, a_ccl a b → H' a b = H a b) (h2 : ∀ b, G' 134 b = G 134 b) (h3 : ∀ a b, a_mc a b → ¬ a = 134 → G' a b = G a b) : a_R2 H' G' := a_R2_fr h h1 (fun a b q => by
  by_cases c : a = 134
  · rw [c]
    exact h2 b
  · exact h3 a b q c)
theorem r2_ahead (a1 : Int) {H G : a_P} (h : a_R2 H G) : a_Q2R (fn_71 a1 H) (fn_156 a1 G) := by
  have f1 := fr_71 a1 H
  have f2 := fr_156 a1 G
  by_cases c : 0 ≤ a1 ∧ a1 < 41
  · have v1 : ¬ fn_91 a1 41 = 0 := by rw [fe_91z]; exact fun q => q c
    have v2 : ¬ fn_108 a1 0 40 = 0 := by rw [fe_108z]; exact fun q => q (by omega)
    obtain ⟨s1, s2⟩ := a_asd_0 G
    obtain ⟨t1, t2⟩ := m_try (n := a1) s1 s2 h.1.2 (by omega) (fun _ _ => rfl) (by omega) (by omega)
    have e1 : fn_71 a1 H = (r_who (r_hs a1.toNat (G 134)), fn_93 a1 H) := by
      simp only [fn_71, a_bd]
      rw [if_neg v1, c_who (c_fore h.1 (by omega) (by omega)) (r_hs_ok h.1.2 _)]
    have e2 : fn_156 a1 G = (r_who (r_hs a1.toNat (G 134)), fn_154 (fn_155 a1 (fn_153 G))) := by
      simp only [fn_156, a_bd]
      rw [if_neg v2, r_who_eq, t1]
    rw [e1] at f1 ⊢
    rw [e2] at f2 ⊢
    refine a_Q2i (a_R2_q h (fun a b q => f1 a b (by unfold w_71; unfold a_ccl at q; omega)) t2.1 (fun a b q q2 => f2 a b (by unfold w_156; unfold a_mc at q; omega))) rfl
  · have e1 : fn_71 a1 H = (-1, H) := by
      simp only [fn_71, a_bd]
      rw [if_pos ((fe_91z a1 41).mpr c)]
    have e2 : fn_156 a1 G = (-1, G) := by
      simp only [fn_156, a_bd]
      rw [if_pos ((fe_108z a1 0 40).mpr (by omega))]
    rw [e1, e2]
    exact ⟨h, rfl⟩
theorem r2_wet (a1 : Int) {H G : a_P} (h : a_R2 H G) : a_Q2R (fn_74 a1 H) (fn_160 a1 G) := by
  have f1 := fr_74 a1 H
  have f2 := fr_160 a1 G
  by_cases c : 0 ≤ a1 ∧ a1 < 41
  · have v1 : ¬ fn_91 a1 41 = 0 := by rw [fe_91z]; exact fun q => q c
    have v2 : ¬ fn_108 a1 0 40 = 0 := by rw [fe_108z]; exact fun q => q (by omega)
    obtain ⟨s1, s2⟩ := a_asd_0 G
    obtain ⟨t1, t2⟩ := m_wb (n := a1) s1 s2 h.1.2 (by omega) (fun _ _ => rfl) (by omega) (by omega)
    have e1 : fn_74 a1 H = (r_wet (r_hs a1.toNat (G 134)), fn_93 a1 H) := by
      simp only [fn_74, a_bd]
      rw [if_neg v1, c_wet (c_fore h.1 (by omega) (by omega)) (r_hs_ok h.1.2 _)]
    have e2 : fn_160 a1 G = (r_wet (r_hs a1.toNat (G 134)), (fn_159 a1 (fn_153 G)).2) := by
      simp only [fn_160, a_bd]
      rw [if_neg v2, t1]
    rw [e1] at f1 ⊢
    rw [e2] at f2 ⊢
    refine a_Q2i (a_R2_q h (fun a b q => f1 a b (by unfold w_74; unfold a_ccl at q; omega)) t2.1 (fun a b q q2 => f2 a b (by unfold w_160; unfold a_mc at q; omega))) rfl
  · have e1 : fn_74 a1 H = (-1, H) := by
      simp only [fn_74, a_bd]
      rw [if_pos ((fe_91z a1 41).mpr c)]
    have e2 : fn_160 a1 G = (-1, G) := by
      simp only [fn_160, a_bd]
      rw [if_pos ((fe_108z a1 0 40).mpr (by omega))]
    rw [e1, e2]
    exact ⟨h, rfl⟩
theorem r2_then (a1 a2 a3 : Int) {H G : a_P} (h : a_R2 H G) : a_Q2R (fn_72 a1 a2 a3 H) (fn_157 a1 a2 a3 G) := by
  have f1 := fr_72 a1 a2 a3 H
  have f2 := fr_157 a1 a2 a3 G
  have b0 := h.1.2.1
  have z1 := fe_12h h.1 a1
  have z2 := fe_110 (a := a1) (G := G) b0.1 b0.2
  by_cases c : (0 ≤ a1 ∧ a1 < G 134 0) ∧ (0 ≤ a2 ∧ a2 < 41) ∧ (0 ≤ a3 ∧ a3 < 3)
  · obtain ⟨c1, c2, c3⟩ := c
    have u1 : ¬ fn_12 1 a1 H = 0 := by rw [z1]; exact fun q => q c1
    have u2 : ¬ fn_91 a2 41 = 0 := by rw [fe_91z]; exact fun q => q c2
    have u3 : ¬ fn_91 a3 3 = 0 := by rw [fe_91z]; exact fun q => q c3
    have v1 : ¬ fn_110 a1 G = 0 := by rw [z2]; exact fun q => q c1
    have v2 : ¬ fn_108 a2 0 40 = 0 := by rw [fe_108z]; exact fun q => q (by omega)
    have v3 : ¬ fn_108 a3 0 2 = 0 := by rw [fe_108z]; exact fun q => q (by omega)
    obtain ⟨s1, s2⟩ := a_asd_0 G
    obtain ⟨t1, t2⟩ := m_try (n := a2) s1 s2 h.1.2 (by omega) (fun _ _ => rfl) (by omega) (by omega)
    have cs := c_fore (n := a2) h.1 (by omega) (by omega)
    have ok := r_hs_ok h.1.2 a2.toNat
    have m0 : r_hs a2.toNat (G 134) 0 = G 134 0 := by
      have key : ∀ n : Nat, r_hs n (G 134) 0 = G 134 0 := fun n => by
        induction n with
        | zero => rfl
        | succ n ih =>
          have okn := (r_hs_ok h.1.2 n).1
          show r_h (r_hs n (G 134)) 0 = _
          have e0 : r_S1 (r_hs n (G 134) 0) (r_hs n (G 134)) 0 = r_hs n (G 134) 0 := r_S1_o (by omega) (by omega)
          have e2 : ∀ c, r_w2 c (r_hs n (G 134)) 0 = r_hs n (G 134) 0 := fun c => by
            unfold r_w2
            by_cases hc : c = 0
            · rw [if_pos hc, e0]
            · rw [if_neg hc, r_S2_o (by omega), e0]
          unfold r_h r_pass r_S4
          rw [if_neg (by decide), if_neg (by decide), r_S3_o (by omega), e2, ih]
      exact key _
    obtain ⟨-, x2, -, -, x5⟩ := cs.2.2.2.2.2.2.2 a1 c1.1 (by rw [m0]; exact c1.2)
    have xb : fn_93 a2 H 7 2 = r_hs a2.toNat (G 134) 3 := cs.2.2.1
    have e1 : fn_72 a1 a2 a3 H = (if a3 = 0 then r_hs a2.toNat (G 134) (15 + a1) else if a3 = 1 then r_hs a2.toNat (G 134) (39 + a1) else if r_hs a2.toNat (G 134) 3 = a1 then 1 else 0, fn_93 a2 H) := by
      have y2 : fn_93 a2 H 9 a1 = r_hs a2.toNat (G 134) (15 + a1) := x2
      have y5 : fn_93 a2 H 12 a1 = r_hs a2.toNat (G 134) (39 + a1) := x5
      simp only [fn_72, fn_92, a_jn, a_bd]
      rw [if_neg u1, if_neg u2, if_neg u3, y2, y5, xb]
      by_cases d0 : a3 = 0
      · rw [if_pos d0, if_pos d0]
      · rw [if_neg d0, if_neg d0]
        by_cases d1 : a3 = 1
        · rw [if_pos d1, if_pos d1]
        · rw [if_neg d1, if_neg d1]
          by_cases d2 : r_hs a2.toNat (G 134) 3 = a1
          · rw [if_pos d2, if_pos d2, if_neg (by decide)]
          · rw [if_neg d2, if_neg d2, if_pos trivial]
    have e2 : fn_157 a1 a2 a3 G = (if a3 = 0 then r_hs a2.toNat (G 134) (15 + a1) else if a3 = 1 then r_hs a2.toNat (G 134) (39 + a1) else if r_hs a2.toNat (G 134) 3 = a1 then 1 else 0, fn_154 (fn_155 a2 (fn_153 G))) := by
      simp only [fn_157, a_jn, a_bd, t1]
      rw [if_neg v1, if_neg v2, if_neg v3, a_w_id (x := 15 + a1) (by omega) (by omega), a_w_id (x := 39 + a1) (by omega) (by omega)]
      by_cases d0 : a3 = 0
      · rw [if_pos d0, if_pos d0]
      · rw [if_neg d0, if_neg d0]
        by_cases d1 : a3 = 1
        · rw [if_pos d1, if_pos d1]
        · rw [if_neg d1, if_neg d1]
          by_cases d2 : r_hs a2.toNat (G 134) 3 = a1
          · rw [if_pos d2, if_pos d2]
          · rw [if_neg d2, if_neg d2]
    rw [e1] at f1 ⊢
    rw [e2] at f2 ⊢
    refine a_Q2i (a_R2_q h (fun a b q => f1 a b (by unfold w_72; unfold a_ccl at q; omega)) t2.1 (fun a b q q2 => f2 a b (by unfold w_157; unfold a_mc at q; omega))) rfl
  · have e1 : fn_72 a1 a2 a3 H = (-1, H) := by
      simp only [fn_72, a_jn, a_bd, z1, fe_91z]
      by_cases d1 : 0 ≤ a1 ∧ a1 < G 134 0
      · have w1 : ¬ ¬ (0 ≤ a1 ∧ a1 < G 134 0) := fun q => q d1
        rw [if_neg w1]
        by_cases d2 : 0 ≤ a2 ∧ a2 < 41
        · have w2 : ¬ ¬ (0 ≤ a2 ∧ a2 < 41) := fun q => q d2
          rw [if_neg w2, if_pos (fun q => c ⟨d1, d2, q⟩)]
        · rw [if_pos d2]
      · rw [if_pos d1]
    have e2 : fn_157 a1 a2 a3 G = (-1, G) := by
      simp only [fn_157, a_jn, a_bd, z2, fe_108z]
      by_cases d1 : 0 ≤ a1 ∧ a1 < G 134 0
      · have w1 : ¬ ¬ (0 ≤ a1 ∧ a1 < G 134 0) := fun q => q d1
        rw [if_neg w1]
        by_cases d2 : 0 ≤ a2 ∧ a2 < 41
        · have w2 : ¬ ¬ (0 ≤ a2 ∧ a2 ≤ 40) := fun q => q (by omega)
          rw [if_neg w2, if_pos (fun q => c ⟨d1, d2, by omega⟩)]
        · rw [if_pos (by omega)]
      · rw [if_pos d1]
    rw [e1, e2]
    exact ⟨h, rfl⟩

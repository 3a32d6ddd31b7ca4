/-! ONE OF PEOPLE, read by both -/
theorem e_here {G : a_P} {t : Int → Int} {L m : Int} (g : m_tv G t L m) (h9 : L ≤ 90) (m0 : 0 ≤ m) (mL : m ≤ L) : ∃ Y, fn_132 G = (r_ch t L (r_q t L m), Y) ∧ m_tv Y t L (r_q t L m) ∧ ∀ a b, ¬ (a = 133 ∧ b = 3) → Y a b = G a b := by
  obtain ⟨k1, k2⟩ := fl_here g h9 m0 mL
  exact ⟨(fn_132 G).2, by rw [← k1], k2, fun a b q => fr_132 G a b (by unfold w_132; exact q)⟩
theorem e_peek {H : a_P} {t : Int → Int} {L p f : Int} (h : a_tv H t L p f) (h9 : L ≤ 90) (p0 : 0 ≤ p) (pL : p ≤ L) : ∃ X, fn_48 H = (r_ch t L (r_q t L p), X) ∧ a_tv X t L (r_q t L p) f ∧ ∀ a b, ¬ a = 119 → X a b = H a b := by
  obtain ⟨k1, k2⟩ := fl_peek h h9 p0 pL
  exact ⟨(fn_48 H).2, by rw [← k1], k2, fun a b q => fr_48 H a b (by unfold w_48; exact q)⟩
theorem e_let {H : a_P} {t : Int → Int} {L p a1 : Int} (h : a_tv H t L p 0) (h9 : L ≤ 90) (p0 : 0 ≤ p) (pL : p ≤ L) : ∃ v X, fn_51 a1 H = (v, X) ∧ (∀ a b, ¬ a = 119 → X a b = H a b) ∧ ((fn_186 a1 (r_ch t L (r_q t L p)) < 0 ∧ a_tv X t L (r_q t L p) (-20 - r_q t L p)) ∨ (¬ fn_186 a1 (r_ch t L (r_q t L p)) < 0 ∧ v = fn_186 a1 (r_ch t L (r_q t L p)) ∧ a_tv X t L (r_q t L p + 1) 0)) := by
  obtain ⟨k1, k2⟩ := fl_letc (a1 := a1) h h9 p0 pL
  refine ⟨(fn_51 a1 H).1, (fn_51 a1 H).2, rfl, fun a b q => fr_51 a1 H a b (by unfold w_51; exact q), ?_⟩
  by_cases c : fn_186 a1 (r_ch t L (r_q t L p)) < 0
  · exact Or.inl ⟨c, k1 c⟩
  · exact Or.inr ⟨c, (k2 c).1, (k2 c).2⟩
theorem e_num {H G : a_P} {t : Int → Int} {L p m most : Int} (h : a_tv H t L p 0) (g : m_tv G t L m) (em : r_q t L m = r_q t L p) (lo : a_lok t L) (h9 : L ≤ 90) (p0 : 0 ≤ p) (pL : p ≤ L) (m0 : 0 ≤ m) (mL : m ≤ L) (ms : 0 ≤ most) : ∃ v X w Y, fn_52 most H = (v, X) ∧ fn_134 most G = (w, Y) ∧ (∀ a b, ¬ a = 119 → X a b = H a b) ∧ (∀ a b, ¬ (a = 133 ∧ b = 3) → Y a b = G a b) ∧ ((∃ p', v = w ∧ 0 ≤ w ∧ w ≤ most ∧ 0 ≤ p' ∧ p' ≤ L ∧ a_tv X t L p' 0 ∧ m_tv Y t L p') ∨ (w = -1 ∧ ∃ p', 0 ≤ p' ∧ p' ≤ L ∧ a_tv X t L p' (-20 - r_q t L p) ∧ m_tv Y t L (r_q t L p))) := by
  have hq := r_q_ok (t := t) pL
  refine ⟨(fn_52 most H).1, (fn_52 most H).2, (fn_134 most G).1, (fn_134 most G).2, rfl, rfl, fun a b q => fr_52 most H a b (by unfold w_52; exact q), fun a b q => fr_134 most G a b (by unfold w_134; exact q), ?_⟩
  rcases fl_num h g em lo h9 p0 pL m0 mL ms with ⟨v, p', b0, b1, b2, b3, e1, e2, e3, e4⟩ | ⟨p', b0, b1, e1, e2, e3⟩
  · exact Or.inl ⟨p', e1.trans e3.symm, by rw [e3]; exact b0, by rw [e3]; exact b1, by have := hq.1; omega, b3, e2, e4⟩
  · exact Or.inr ⟨e2, p', b0, b1, e1, e3⟩
theorem e_way {G : a_P} {t : Int → Int} {L m b : Int} (g : m_tv G t L m) (h9 : L ≤ 90) (m0 : 0 ≤ m) (mL : m ≤ L) : ∃ Y, fn_136 b G = (fn_135 (r_ch t L (r_q t L m)) b, Y) ∧ (∀ a i, ¬ (a = 133 ∧ i = 3) → Y a i = G a i) ∧ (fn_135 (r_ch t L (r_q t L m)) b < 0 → m_tv Y t L (r_q t L m)) ∧ (¬ fn_135 (r_ch t L (r_q t L m)) b < 0 → m_tv Y t L (r_q t L m + 1)) := by
  obtain ⟨k1, k2, k3⟩ := fl_way (b := b) g h9 m0 mL
  exact ⟨(fn_136 b G).2, by rw [← k1], fun a i q => fr_136 b G a i (by unfold w_136; exact q), k2, k3⟩
theorem e_has {G : a_P} {t : Int → Int} {L m x : Int} (g : m_tv G t L m) (h9 : L ≤ 90) (m0 : 0 ≤ m) (mL : m ≤ L) : ∃ Y, fn_133 x G = (if r_ch t L (r_q t L m) = x then 1 else 0, Y) ∧ (∀ a i, ¬ (a = 133 ∧ i = 3) → Y a i = G a i) ∧ m_tv Y t L (if r_ch t L (r_q t L m) = x then r_q t L m + 1 else r_q t L m) := by
  obtain ⟨k1, k2⟩ := fl_has (x := x) g h9 m0 mL
  exact ⟨(fn_133 x G).2, by rw [← k1], fun a i q => fr_133 x G a i (by unfold w_133; exact q), k2⟩
theorem e_skips {H : a_P} {t : Int → Int} {L p x : Int} (h : a_tv H t L p 0) (h9 : L ≤ 90) (p0 : 0 ≤ p) (pL : p ≤ L) : ∃ X, fn_50 x H = (if r_ch t L (r_q t L p) = x then 1 else 0, X) ∧ (∀ a b, ¬ a = 119 → X a b = H a b) ∧ a_tv X t L (if r_ch t L (r_q t L p) = x then r_q t L p + 1 else r_q t L p) 0 := by
  obtain ⟨k1, k2⟩ := fl_skips (x := x) h h9 p0 pL
  exact ⟨(fn_50 x H).2, by rw [← k1], fun a b q => fr_50 x H a b (by unfold w_50; exact q), k2⟩
theorem m_tv_o {G : a_P} {t : Int → Int} {L m c i v : Int} (h : m_tv G t L m) (h1 : ¬ c = 135) (h2 : ¬ (c = 133 ∧ i = 2)) (h3 : ¬ (c = 133 ∧ i = 3)) : m_tv (a_up G c i v) t L m := ⟨by rw [a_up_ne (by omega)]; exact h.1, by rw [a_up_ne (by omega)]; exact h.2.1, fun j q0 q1 => by rw [a_up_ne (by omega)]; exact h.2.2 j q0 q1⟩
theorem a_tv_o {H : a_P} {t : Int → Int} {L p f c i v : Int} (h : a_tv H t L p f) (h1 : ¬ c = 119) (h2 : ¬ c = 120) : a_tv (a_up H c i v) t L p f := ⟨by rw [a_up_ne (by omega)]; exact h.1, by rw [a_up_ne (by omega)]; exact h.2.1, by rw [a_up_ne (by omega)]; exact h.2.2.1, fun j q0 q1 => by rw [a_up_ne (by omega)]; exact h.2.2.2 j q0 q1⟩
def a_rwr (G : a_P) (i : Int) : Prop := (0 ≤ G 136 (4 * i) ∧ G 136 (4 * i) ≤ 4) ∧ (0 ≤ G 136 (4 * i + 1) ∧ G 136 (4 * i + 1) ≤ 35) ∧ (0 ≤ G 136 (4 * i + 2) ∧ G 136 (4 * i + 2) ≤ 4) ∧ (0 ≤ G 136 (4 * i + 3) ∧ G 136 (4 * i + 3) ≤ 20)
def a_J (K : Int → Int) (H G : a_P) (t : Int → Int) (L p m n g : Int) : Prop := (H 7 1 = K 1 ∧ H 7 3 = K 3 ∧ H 7 4 = K 4) ∧ a_tv H t L p 0 ∧ m_tv G t L m ∧ r_q t L m = r_q t L p ∧ (0 ≤ p ∧ p ≤ L) ∧ (0 ≤ m ∧ m ≤ L) ∧ H 7 6 = n ∧ H 7 0 = g ∧ H 7 2 = G 133 5 ∧ (G 133 5 = -4 ∨ (0 ≤ G 133 5 ∧ G 133 5 < n ∧ 1 ≤ G 136 (4 * G 133 5 + 3))) ∧ ∀ i, 0 ≤ i → i < n → (H (7 + 1) i = G 136 (4 * i) ∧ H (7 + 2) i = G 136 (4 * i + 1) ∧ H (7 + 3) i = G 136 (4 * i + 2) ∧ H (7 + 4) i = G 136 (4 * i + 3) ∧ H (7 + 5) i = 0) ∧ a_rwr G i
/-- the class has a fault; the reference will come to the same place -/
def a_Bd (X Y : a_P) (t : Int → Int) (L : Int) : Prop := ∃ q p m, a_tv X t L p (-20 - q) ∧ m_tv Y t L m ∧ (0 ≤ p ∧ p ≤ L) ∧ (0 ≤ m ∧ m ≤ L) ∧ r_q t L m = q
def a_Bs (X Y : a_P) (t : Int → Int) (L : Int) : Prop := ∃ q p m, a_tv X t L p (-20 - q) ∧ m_tv Y t L m ∧ (0 ≤ p ∧ p ≤ L) ∧ (0 ≤ m ∧ m ≤ L) ∧ r_q t L m = q ∧ r_ch t L q = 42
theorem fl_person {K : Int → Int} {H G : a_P} {t : Int → Int} {L p m n g : Int} (J : a_J K H G t L p m n g) (lo : a_lok t L) (h9 : L ≤ 90) (n0 : 0 ≤ n) (n7 : n ≤ 7) : ((fn_138 (4 * n) g G).1 = 1 ∧ ∃ p' m', a_J K (fn_46 7 H) (fn_138 (4 * n) g G).2 t L p' m' (n + 1) g) ∨ ((fn_138 (4 * n) g G).1 = 0 ∧ a_Bd (fn_46 7 H) (fn_138 (4 * n) g G).2 t L) ∨ ((fn_138 (4 * n) g G).1 = 1 ∧ a_Bs (fn_46 7 H) (fn_138 (4 * n) g G).2 t L) := by
  obtain ⟨jK, hv, gv, em, ⟨p0, pL⟩, ⟨m0, mL⟩, j6, j0, j2, jb, jA⟩ := J
  have hq := r_q_ok (t := t) pL
  have hqL := hq.2.1
  have hq1 := hq.1
  obtain ⟨Y0, ey0, ty0, fy0⟩ := e_here gv h9 m0 mL
  rw [em] at ey0 ty0
  have cb := r_ch_b lo (q := r_q t L p) (by omega)
  obtain ⟨v1, X1, ex1, fx1, hx1⟩ := e_let (a1 := 74) hv h9 p0 pL
  rw [fl_ixk cb.1 cb.2] at hx1
  have w1 : Unit → a_w (4 * n + 1) = 4 * n + 1 := fun _ => a_w_id (by omega) (by omega)
  have w2 : Unit → a_w (4 * n + 2) = 4 * n + 2 := fun _ => a_w_id (by omega) (by omega)
  have w3 : Unit → a_w (4 * n + 3) = 4 * n + 3 := fun _ => a_w_id (by omega) (by omega)
  generalize hkd : fn_137 (r_ch t L (r_q t L p)) = kd at hx1
  rcases hx1 with ⟨c1, tx1⟩ | ⟨c1, ev1, tx1⟩
  · have nf : ¬ X1 119 3 = 0 := by rw [tx1.2.2.1]; omega
    have eH : fn_46 7 H = X1 := by
      simp only [fn_46, a_bd, ex1, c_f52 nf, c_f51 nf]
      rw [if_neg nf]
    have eG : fn_138 (4 * n) g G = (0, a_up Y0 136 (4 * n) kd) := by
      simp only [fn_138, a_bd, ey0, a_up_eq, hkd]
      rw [if_pos c1]
    rw [eH, eG]
    exact Or.inr (Or.inl ⟨rfl, _, _, _, tx1, m_tv_o ty0 (by omega) (by omega) (by omega), ⟨by omega, hqL⟩, ⟨by omega, hqL⟩, r_q_id pL⟩)
  · have kb : 0 ≤ kd ∧ kd ≤ 4 := by
      have := fe_137b (r_ch t L (r_q t L p))
      rw [hkd] at this
      omega
    have lt1 : r_q t L p < L := r_ch_n lo (by omega) (fun e => by rw [e, fe_137z] at hkd; omega)
    have ty1 := m_tv_on (m_tv_o (c := 136) (i := 4 * n) (v := kd) ty0 (by omega) (by omega) (by omega)) (by omega) (by omega)
    obtain ⟨v2, X2, u2, Y2, ex2, ey2, fx2, fy2, hx2⟩ := e_num (most := 35) tx1 ty1 rfl lo h9 (by omega) (by omega) (by omega) (by omega) (by omega)
    generalize hM1 : a_up (a_up Y0 136 (4 * n) kd) 133 3 (a_w (a_up Y0 136 (4 * n) kd 133 3 + 1)) = M1 at ty1 ey2 fy2
    have k0 : M1 136 (4 * n) = kd := by rw [← hM1, a_up_ne (by omega), a_up_eq]
    have kB : M1 133 5 = G 133 5 := by rw [← hM1, a_up_ne (by omega), a_up_ne (by omega), fy0 133 5 (by omega)]
    have kO : ∀ i, i < 4 * n → M1 136 i = G 136 i := fun i hi => by rw [← hM1, a_up_ne (by omega), a_up_ne (by omega), fy0 136 i (by omega)]
    have hq2 := r_q_ok (t := t) (L := L) (p := r_q t L p + 1) (by omega)
    rcases hx2 with ⟨p2, e2, b2, b2', pp0, ppL, tx2, ty2⟩ | ⟨e2, p2, pp0, ppL, tx2, ty2⟩
    · obtain ⟨Y3, ey3, fy3, ty3a, ty3b⟩ := e_way (b := 1) (m_tv_o (c := 136) (i := 4 * n + 1) (v := u2) ty2 (by omega) (by omega) (by omega)) h9 pp0 ppL
      have hq3 := r_q_ok (t := t) ppL
      have hq3L := hq3.2.1
      have hq31 := hq3.1
      have cb3 := r_ch_b lo (q := r_q t L p2) (by omega)
      obtain ⟨v3, X3, ex3, fx3, hx3⟩ := e_let (a1 := 76) tx2 h9 pp0 ppL
      rw [fl_ix5 cb3.1 cb3.2] at hx3
      have wz := fe_135z 1
      have wb := (fe_135b (r_ch t L (r_q t L p2)) 1).1
      generalize hwk : fn_135 (r_ch t L (r_q t L p2)) 1 = wk at hx3 ey3 ty3a ty3b wb
      rcases hx3 with ⟨c3, tx3⟩ | ⟨c3, ev3, tx3⟩
      · have nf : ¬ X3 119 3 = 0 := by rw [tx3.2.2.1]; omega
        have eH : fn_46 7 H = X3 := by
          simp only [fn_46, a_bd, ex1, ex2, ex3, c_f52 nf, c_f51 nf]
          rw [if_neg nf]
        have eG : fn_138 (4 * n) g G = (0, a_up Y3 136 (4 * n + 2) wk) := by
          simp only [fn_138, a_bd, ey0, a_up_eq, hkd, hM1, ey2, w1 (), w2 (), ey3]
          rw [if_neg c1, if_neg (show ¬ u2 < 0 by omega), if_pos c3]
        rw [eH, eG]
        exact Or.inr (Or.inl ⟨rfl, _, _, _, tx3, m_tv_o (ty3a c3) (by omega) (by omega) (by omega), ⟨by omega, hq3L⟩, ⟨by omega, hq3L⟩, r_q_id ppL⟩)
      · have lt3 : r_q t L p2 < L := r_ch_n lo (by omega) (fun e => by rw [e, wz] at hwk; omega)
        have ty3 := m_tv_o (c := 136) (i := 4 * n + 2) (v := wk) (ty3b c3) (by omega) (by omega) (by omega)
        obtain ⟨v4, X4, u4, Y4, ex4, ey4, fx4, fy4, hx4⟩ := e_num (most := 20) tx3 ty3 rfl lo h9 (by omega) (by omega) (by omega) (by omega) (by omega)
        have l0 : ∀ i, i < 4 * n → Y4 136 i = G 136 i := fun i hi => by rw [fy4 136 i (by omega), a_up_ne (by omega), fy3 136 i (by omega), a_up_ne (by omega), fy2 136 i (by omega), kO i hi]
        have l1 : Y4 136 (4 * n) = kd := by rw [fy4 136 _ (by omega), a_up_ne (by omega), fy3 136 _ (by omega), a_up_ne (by omega), fy2 136 _ (by omega), k0]
        have l2 : Y4 136 (4 * n + 1) = u2 := by rw [fy4 136 _ (by omega), a_up_ne (by omega), fy3 136 _ (by omega), a_up_eq]
        have l3 : Y4 136 (4 * n + 2) = wk := by rw [fy4 136 _ (by omega), a_up_eq]
        have l5 : Y4 133 5 = G 133 5 := by rw [fy4 133 5 (by omega), a_up_ne (by omega), fy3 133 5 (by omega), a_up_ne (by omega), fy2 133 5 (by omega), kB]
        have hq4 := r_q_ok (t := t) (L := L) (p := r_q t L p2 + 1) (by omega)
        have hq4L := hq4.2.1
        have hq41 := hq4.1
        rcases hx4 with ⟨p4, e4, b4, b4', p40, p4L, tx4, ty4⟩ | ⟨e4, p4, p40, p4L, tx4, ty4⟩
        · have z0 : X4 119 3 = 0 := tx4.2.2.1
          have xs : ∀ a b, ¬ a = 119 → X4 a b = H a b := fun a b q => by rw [fx4 a b q, fx3 a b q, fx2 a b q, fx1 a b q]
          have x6 : X4 7 6 = n := (xs 7 6 (by omega)).trans j6
          have ea : fn_11 7 kd u2 wk u4 X4 = (n, a_up (a_up (a_up (a_up (a_up (a_up X4 (7 + 1) n kd) (7 + 2) n u2) (7 + 3) n wk) (7 + 4) n u4) (7 + 5) n 0) 7 6 (n + 1)) := by
            simp only [fn_11, a_jn, a_bd, x6]
            rw [if_neg (show ¬ n < 0 by omega), if_pos (show n < 8 by omega), a_up_ne (a := 7) (b := 6) (by omega), a_up_ne (a := 7) (b := 6) (by omega), a_up_ne (a := 7) (b := 6) (by omega), a_up_ne (a := 7) (b := 6) (by omega), a_up_ne (a := 7) (b := 6) (by omega), x6, a_w_id (x := n + 1) (by omega) (by omega)]
          have ta : a_tv (a_up (a_up (a_up (a_up (a_up (a_up X4 (7 + 1) n kd) (7 + 2) n u2) (7 + 3) n wk) (7 + 4) n u4) (7 + 5) n 0) 7 6 (n + 1)) t L p4 0 := a_tv_o (a_tv_o (a_tv_o (a_tv_o (a_tv_o (a_tv_o tx4 (by omega) (by omega)) (by omega) (by omega)) (by omega) (by omega)) (by omega) (by omega)) (by omega) (by omega)) (by omega) (by omega)
          have r6 : a_up (a_up (a_up (a_up (a_up (a_up X4 (7 + 1) n kd) (7 + 2) n u2) (7 + 3) n wk) (7 + 4) n u4) (7 + 5) n 0) 7 6 (n + 1) 7 6 = n + 1 := a_up_eq
          have r7 : ∀ b, ¬ b = 6 → a_up (a_up (a_up (a_up (a_up (a_up X4 (7 + 1) n kd) (7 + 2) n u2) (7 + 3) n wk) (7 + 4) n u4) (7 + 5) n 0) 7 6 (n + 1) 7 b = H 7 b := fun b q => by rw [a_up_ne (by omega), a_up_ne (by omega), a_up_ne (by omega), a_up_ne (by omega), a_up_ne (by omega), a_up_ne (by omega), xs 7 b (by omega)]
          have rA : ∀ j i, 1 ≤ j → j ≤ 5 → ¬ i = n → a_up (a_up (a_up (a_up (a_up (a_up X4 (7 + 1) n kd) (7 + 2) n u2) (7 + 3) n wk) (7 + 4) n u4) (7 + 5) n 0) 7 6 (n + 1) (7 + j) i = H (7 + j) i := fun j i q1 q2 q => by rw [a_up_ne (by omega), a_up_ne (by omega), a_up_ne (by omega), a_up_ne (by omega), a_up_ne (by omega), a_up_ne (by omega), xs (7 + j) i (by omega)]
          have s1 : a_up (a_up (a_up (a_up (a_up (a_up X4 (7 + 1) n kd) (7 + 2) n u2) (7 + 3) n wk) (7 + 4) n u4) (7 + 5) n 0) 7 6 (n + 1) (7 + 1) n = kd := by rw [a_up_ne (by omega), a_up_ne (by omega), a_up_ne (by omega), a_up_ne (by omega), a_up_ne (by omega), a_up_eq]
          have s2 : a_up (a_up (a_up (a_up (a_up (a_up X4 (7 + 1) n kd) (7 + 2) n u2) (7 + 3) n wk) (7 + 4) n u4) (7 + 5) n 0) 7 6 (n + 1) (7 + 2) n = u2 := by rw [a_up_ne (by omega), a_up_ne (by omega), a_up_ne (by omega), a_up_ne (by omega), a_up_eq]
          have s3 : a_up (a_up (a_up (a_up (a_up (a_up X4 (7 + 1) n kd) (7 + 2) n u2) (7 + 3) n wk) (7 + 4) n u4) (7 + 5) n 0) 7 6 (n + 1) (7 + 3) n = wk := by rw [a_up_ne (by omega), a_up_ne (by omega), a_up_ne (by omega), a_up_eq]
          have s4 : a_up (a_up (a_up (a_up (a_up (a_up X4 (7 + 1) n kd) (7 + 2) n u2) (7 + 3) n wk) (7 + 4) n u4) (7 + 5) n 0) 7 6 (n + 1) (7 + 4) n = u4 := by rw [a_up_ne (by omega), a_up_ne (by omega), a_up_eq]
          have s5 : a_up (a_up (a_up (a_up (a_up (a_up X4 (7 + 1) n kd) (7 + 2) n u2) (7 + 3) n wk) (7 + 4) n u4) (7 + 5) n 0) 7 6 (n + 1) (7 + 5) n = 0 := by rw [a_up_ne (by omega), a_up_eq]
          generalize a_up (a_up (a_up (a_up (a_up (a_up X4 (7 + 1) n kd) (7 + 2) n u2) (7 + 3) n wk) (7 + 4) n u4) (7 + 5) n 0) 7 6 (n + 1) = Xa at ea ta r6 r7 rA s1 s2 s3 s4 s5
          obtain ⟨X6, ex6, tx6, fx6⟩ := e_peek ta h9 p40 p4L
          have hq6 := r_q_ok (t := t) p4L
          have hq6L := hq6.2.1
          have hq61 := hq6.1
          have eH0 : fn_46 7 H = (if r_ch t L (r_q t L p4) = 42 then (if fn_14 7 X6 = 0 then (if u4 < 1 then fn_47 (X6 119 2) X6 else if u2 = X6 7 0 then a_up (a_up X6 119 2 (a_w (X6 119 2 + 1))) 7 2 n else fn_47 (X6 119 2) X6) else fn_47 (X6 119 2) X6) else X6) := by
            simp only [fn_46, a_jn, a_bd, ex1, ex2, ex3, ex4]
            rw [if_pos z0, ev1, e2, ev3, e4, ea]
            simp only [ex6]
          have t5 : m_tv (a_up Y4 136 (4 * n + 3) u4) t L p4 := m_tv_o ty4 (by omega) (by omega) (by omega)
          obtain ⟨Y5, ey5, fy5, ty5⟩ := e_has (x := 42) t5 h9 p40 p4L
          have n5 : a_up Y4 136 (4 * n + 3) u4 133 5 = G 133 5 := by rw [a_up_ne (by omega), l5]
          have n3 : a_up Y4 136 (4 * n + 3) u4 136 (4 * n + 3) = u4 := a_up_eq
          have n1 : a_up Y4 136 (4 * n + 3) u4 136 (4 * n + 1) = u2 := by rw [a_up_ne (by omega), l2]
          have dv : a_div (4 * n) 4 = n := by rw [a_div_id (by omega) (by omega) (by decide)]; omega
          have eG0 : fn_138 (4 * n) g G = (if G 133 5 = -4 then (if 0 < u4 then (if u2 = g then (if r_ch t L (r_q t L p4) = 42 then (1, a_up Y5 133 5 n) else (1, Y5)) else (1, a_up Y4 136 (4 * n + 3) u4)) else (1, a_up Y4 136 (4 * n + 3) u4)) else (1, a_up Y4 136 (4 * n + 3) u4)) := by
            simp only [fn_138, a_jn, a_bd, ey0, a_up_eq, hkd, hM1, ey2, w1 (), w2 (), w3 (), ey3, ey4, n5, n1, ey5, dv]
            rw [if_neg c1, if_neg (show ¬ u2 < 0 by omega), if_neg c3, if_neg (show ¬ u4 < 0 by omega)]
            by_cases d1 : G 133 5 = -4
            · rw [if_pos d1, if_pos d1]
              by_cases d2 : 0 < u4
              · rw [if_pos d2, if_pos d2]
                by_cases d3 : u2 = g
                · rw [if_pos d3, if_pos d3, if_neg (show ¬ (1 : Int) = 0 by decide)]
                  by_cases d4 : r_ch t L (r_q t L p4) = 42
                  · rw [if_pos d4, if_pos d4, if_neg (show ¬ (1 : Int) = 0 by decide)]
                  · rw [if_neg d4, if_neg d4, if_pos rfl]
                · rw [if_neg d3, if_neg d3, if_pos trivial]
              · rw [if_neg d2, if_neg d2, if_pos trivial]
            · rw [if_neg d1, if_neg d1, if_pos trivial]
          have st : fn_14 7 X6 = if G 133 5 < 0 then 0 else 1 := by
            simp only [fn_14, a_jn]
            rw [fx6 7 2 (by omega), r7 2 (by omega), j2]
          have g0 : X6 7 0 = g := by rw [fx6 7 0 (by omega), r7 0 (by omega), j0]
          have rows : ∀ (Z : a_P), (∀ i, i < 4 * n + 4 → Z 136 i = a_up Y4 136 (4 * n + 3) u4 136 i) → ∀ i, 0 ≤ i → i < n + 1 → (Xa (7 + 1) i = Z 136 (4 * i) ∧ Xa (7 + 2) i = Z 136 (4 * i + 1) ∧ Xa (7 + 3) i = Z 136 (4 * i + 2) ∧ Xa (7 + 4) i = Z 136 (4 * i + 3) ∧ Xa (7 + 5) i = 0) ∧ a_rwr Z i := fun Z hZ i i0 i1 => by
            unfold a_rwr
            rw [hZ (4 * i) (by omega), hZ (4 * i + 1) (by omega), hZ (4 * i + 2) (by omega), hZ (4 * i + 3) (by omega)]
            by_cases ci : i = n
            · rw [ci, s1, s2, s3, s4, s5, n3, n1, a_up_ne (b := 4 * n) (by omega), a_up_ne (b := 4 * n + 2) (by omega), l1, l3]
              exact ⟨⟨rfl, rfl, rfl, rfl, rfl⟩, by omega, by omega, by omega, by omega⟩
            · obtain ⟨o1, o2⟩ := jA i i0 (by omega)
              unfold a_rwr at o2
              rw [rA 1 i (by omega) (by omega) ci, rA 2 i (by omega) (by omega) ci, rA 3 i (by omega) (by omega) ci, rA 4 i (by omega) (by omega) ci, rA 5 i (by omega) (by omega) ci, a_up_ne (b := 4 * i) (by omega), a_up_ne (b := 4 * i + 1) (by omega), a_up_ne (b := 4 * i + 2) (by omega), a_up_ne (b := 4 * i + 3) (by omega), l0 (4 * i) (by omega), l0 (4 * i + 1) (by omega), l0 (4 * i + 2) (by omega), l0 (4 * i + 3) (by omega)]
              exact ⟨o1, o2⟩
          by_cases d4 : r_ch t L (r_q t L p4) = 42
          · by_cases may : G 133 5 = -4 ∧ 0 < u4 ∧ u2 = g
            · obtain ⟨y1, y2, y3⟩ := may
              have lt6 : r_q t L p4 < L := r_ch_n lo (by omega) (by omega)
              have eH : fn_46 7 H = a_up (a_up X6 119 2 (a_w (X6 119 2 + 1))) 7 2 n := by rw [eH0, if_pos d4, st, if_pos (show G 133 5 < 0 by omega), if_pos rfl, if_neg (show ¬ u4 < 1 by omega), g0, if_pos y3]
              have eG : fn_138 (4 * n) g G = (1, a_up Y5 133 5 n) := by rw [eG0, if_pos y1, if_pos y2, if_pos y3, if_pos d4]
              rw [if_pos d4] at ty5
              rw [eH, eG]
              refine Or.inl ⟨rfl, r_q t L p4 + 1, r_q t L p4 + 1, ⟨by rw [a_up_ne (by omega), a_up_ne (by omega), fx6 7 1 (by omega), r7 1 (by omega)]; exact jK.1, by rw [a_up_ne (by omega), a_up_ne (by omega), fx6 7 3 (by omega), r7 3 (by omega)]; exact jK.2.1, by rw [a_up_ne (by omega), a_up_ne (by omega), fx6 7 4 (by omega), r7 4 (by omega)]; exact jK.2.2⟩, a_tv_o (a_tv_on tx6 (by omega) (by omega)) (by omega) (by omega), m_tv_o ty5 (by omega) (by omega) (by omega), rfl, ⟨by omega, by omega⟩, ⟨by omega, by omega⟩, ?_, ?_, ?_, ?_, ?_⟩
              · rw [a_up_ne (by omega), a_up_ne (by omega), fx6 7 6 (by omega), r6]
              · rw [a_up_ne (by omega), a_up_ne (by omega), g0]
              · show a_up (a_up X6 119 2 (a_w (X6 119 2 + 1))) 7 2 n 7 2 = a_up Y5 133 5 n 133 5
                rw [a_up_eq, a_up_eq]
              · show a_up Y5 133 5 n 133 5 = -4 ∨ (0 ≤ a_up Y5 133 5 n 133 5 ∧ a_up Y5 133 5 n 133 5 < n + 1 ∧ 1 ≤ a_up Y5 133 5 n 136 (4 * a_up Y5 133 5 n 133 5 + 3))
                rw [a_up_eq]
                exact Or.inr ⟨n0, by omega, by rw [a_up_ne (by omega), fy5 136 _ (by omega), n3]; omega⟩
              · intro i i0 i1
                have := rows (a_up Y5 133 5 n) (fun i hi => by rw [a_up_ne (by omega), fy5 136 i (by omega)]) i i0 i1
                rw [a_up_ne (a := 7 + 1) (by omega), a_up_ne (a := 7 + 1) (by omega), a_up_ne (a := 7 + 2) (by omega), a_up_ne (a := 7 + 2) (by omega), a_up_ne (a := 7 + 3) (by omega), a_up_ne (a := 7 + 3) (by omega), a_up_ne (a := 7 + 4) (by omega), a_up_ne (a := 7 + 4) (by omega), a_up_ne (a := 7 + 5) (by omega), a_up_ne (a := 7 + 5) (by omega), fx6 (7 + 1) i (by omega), fx6 (7 + 2) i (by omega), fx6 (7 + 3) i (by omega), fx6 (7 + 4) i (by omega), fx6 (7 + 5) i (by omega)]
                exact this
            · have eH : fn_46 7 H = fn_47 (X6 119 2) X6 := by
                rw [eH0, if_pos d4, st, g0]
                by_cases y1 : G 133 5 < 0
                · rw [if_pos y1, if_pos rfl]
                  by_cases y2 : u4 < 1
                  · rw [if_pos y2]
                  · rw [if_neg y2, if_neg (fun y3 => may ⟨by omega, by omega, y3⟩)]
                · rw [if_neg y1, if_neg (show ¬ (1 : Int) = 0 by decide)]
              have eG : fn_138 (4 * n) g G = (1, a_up Y4 136 (4 * n + 3) u4) := by
                rw [eG0]
                by_cases y1 : G 133 5 = -4
                · rw [if_pos y1]
                  by_cases y2 : 0 < u4
                  · rw [if_pos y2, if_neg (fun y3 => may ⟨y1, y2, y3⟩)]
                  · rw [if_neg y2]
                · rw [if_neg y1]
              rw [eH, eG, tx6.2.1]
              exact Or.inr (Or.inr ⟨rfl, _, _, _, a_tv_fail tx6 (by omega) (by omega), t5, ⟨by omega, hq6L⟩, ⟨p40, p4L⟩, rfl, d4⟩)
          · have eH : fn_46 7 H = X6 := by rw [eH0, if_neg d4]
            rw [if_neg d4] at ty5
            have hB : ∀ Z : a_P, Z 133 5 = G 133 5 → (∀ i, i < 4 * n + 4 → Z 136 i = a_up Y4 136 (4 * n + 3) u4 136 i) → (Z 133 5 = -4 ∨ (0 ≤ Z 133 5 ∧ Z 133 5 < n + 1 ∧ 1 ≤ Z 136 (4 * Z 133 5 + 3))) := fun Z hz hZ => by
              rw [hz]
              rcases jb with r | ⟨r1, r2, r3⟩
              · exact Or.inl r
              · exact Or.inr ⟨r1, by omega, by rw [hZ _ (by omega), a_up_ne (by omega), l0 _ (by omega)]; exact r3⟩
            have fin : ∀ (Z : a_P) (m' : Int), fn_138 (4 * n) g G = (1, Z) → m_tv Z t L m' → (0 ≤ m' ∧ m' ≤ L) → r_q t L m' = r_q t L p4 → Z 133 5 = G 133 5 → (∀ i, i < 4 * n + 4 → Z 136 i = a_up Y4 136 (4 * n + 3) u4 136 i) → ((fn_138 (4 * n) g G).1 = 1 ∧ ∃ p' m', a_J K (fn_46 7 H) (fn_138 (4 * n) g G).2 t L p' m' (n + 1) g) := fun Z m' eG tz bz ez hz hZ => by
              rw [eH, eG]
              refine ⟨rfl, r_q t L p4, m', ⟨by rw [fx6 7 1 (by omega), r7 1 (by omega)]; exact jK.1, by rw [fx6 7 3 (by omega), r7 3 (by omega)]; exact jK.2.1, by rw [fx6 7 4 (by omega), r7 4 (by omega)]; exact jK.2.2⟩, tx6, tz, by rw [ez, r_q_id p4L], ⟨by omega, hq6L⟩, bz, ?_, g0, ?_, hB Z hz hZ, fun i i0 i1 => ?_⟩
              · rw [fx6 7 6 (by omega), r6]
              · show X6 7 2 = Z 133 5
                rw [fx6 7 2 (by omega), r7 2 (by omega), j2, hz]
              · rw [fx6 (7 + 1) i (by omega), fx6 (7 + 2) i (by omega), fx6 (7 + 3) i (by omega), fx6 (7 + 4) i (by omega), fx6 (7 + 5) i (by omega)]
                exact rows Z hZ i i0 i1
            left
            by_cases may : G 133 5 = -4 ∧ 0 < u4 ∧ u2 = g
            · obtain ⟨y1, y2, y3⟩ := may
              have eG : fn_138 (4 * n) g G = (1, Y5) := by rw [eG0, if_pos y1, if_pos y2, if_pos y3, if_neg d4]
              exact fin Y5 _ eG ty5 ⟨by omega, hq6L⟩ (r_q_id p4L) (by rw [fy5 133 5 (by omega), n5]) (fun i hi => fy5 136 i (by omega))
            · have eG : fn_138 (4 * n) g G = (1, a_up Y4 136 (4 * n + 3) u4) := by
                rw [eG0]
                by_cases y1 : G 133 5 = -4
                · rw [if_pos y1]
                  by_cases y2 : 0 < u4
                  · rw [if_pos y2, if_neg (fun y3 => may ⟨y1, y2, y3⟩)]
                  · rw [if_neg y2]
                · rw [if_neg y1]
              exact fin _ p4 eG t5 ⟨p40, p4L⟩ rfl n5 (fun i hi => rfl)
        · have nf : ¬ X4 119 3 = 0 := by rw [tx4.2.2.1]; omega
          have eH : fn_46 7 H = X4 := by
            simp only [fn_46, a_bd, ex1, ex2, ex3, ex4]
            rw [if_neg nf]
          have eG : fn_138 (4 * n) g G = (0, a_up Y4 136 (4 * n + 3) u4) := by
            simp only [fn_138, a_bd, ey0, a_up_eq, hkd, hM1, ey2, w1 (), w2 (), w3 (), ey3, ey4]
            rw [if_neg c1, if_neg (show ¬ u2 < 0 by omega), if_neg c3, if_pos (show u4 < 0 by omega)]
          rw [eH, eG]
          exact Or.inr (Or.inl ⟨rfl, _, _, _, tx4, m_tv_o ty4 (by omega) (by omega) (by omega), ⟨p40, p4L⟩, ⟨by omega, hq4L⟩, r_q_id (by omega)⟩)
    · have hq2L := hq2.2.1
      have hq21 := hq2.1
      have nf : ¬ X2 119 3 = 0 := by rw [tx2.2.2.1]; omega
      have eH : fn_46 7 H = X2 := by
        simp only [fn_46, a_bd, ex1, ex2, c_f52 nf, c_f51 nf]
        rw [if_neg nf]
      have eG : fn_138 (4 * n) g G = (0, a_up Y2 136 (4 * n + 1) u2) := by
        simp only [fn_138, a_bd, ey0, a_up_eq, hkd, hM1, ey2, w1 ()]
        rw [if_neg c1, if_pos (show u2 < 0 by omega)]
      rw [eH, eG]
      exact Or.inr (Or.inl ⟨rfl, _, _, _, tx2, m_tv_o ty2 (by omega) (by omega) (by omega), ⟨pp0, ppL⟩, ⟨by omega, hq2L⟩, r_q_id (by omega)⟩)

/-! the reference lays the PLAIN -/
theorem fe_125 {G : a_P} {k a1 a2 a3 a4 : Int} (hk : G 134 0 = k) (k0 : 0 ≤ k) (k8 : k < 8) : ∃ Y, fn_125 a1 a2 a3 a4 G = Y ∧ Y 134 0 = k + 1 ∧ Y 134 (7 + k) = a1 ∧ Y 134 (15 + k) = a2 ∧ Y 134 (23 + k) = a3 ∧ Y 134 (31 + k) = a4 ∧ Y 134 (39 + k) = 0 ∧ Y 133 7 = 0 ∧ (∀ b, ¬ b = 0 → ¬ b = 7 + k → ¬ b = 15 + k → ¬ b = 23 + k → ¬ b = 31 + k → ¬ b = 39 + k → Y 134 b = G 134 b) ∧ ∀ a b, ¬ a = 134 → ¬ (a = 133 ∧ b = 7) → Y a b = G a b := by
  refine ⟨a_up (a_up (a_up (a_up (a_up (a_up (a_up G 134 0 (k + 1)) 134 (7 + k) a1) 134 (15 + k) a2) 134 (23 + k) a3) 134 (31 + k) a4) 134 (39 + k) 0) 133 7 0, ?_, ?_, ?_, ?_, ?_, ?_, ?_, a_up_eq, fun b w0 w1 w2 w3 w4 w5 => ?_, fun a b w0 w1 => ?_⟩
  · simp only [fn_125, a_bd, hk]
    rw [a_w_id (x := k + 1) (by omega) (by omega), a_w_id (x := 7 + k) (by omega) (by omega), a_w_id (x := 15 + k) (by omega) (by omega), a_w_id (x := 23 + k) (by omega) (by omega), a_w_id (x := 31 + k) (by omega) (by omega), a_w_id (x := 39 + k) (by omega) (by omega)]
  · rw [a_up_ne (by omega), a_up_ne (by omega), a_up_ne (by omega), a_up_ne (by omega), a_up_ne (by omega), a_up_ne (by omega), a_up_eq]
  · rw [a_up_ne (by omega), a_up_ne (by omega), a_up_ne (by omega), a_up_ne (by omega), a_up_ne (by omega), a_up_eq]
  · rw [a_up_ne (by omega), a_up_ne (by omega), a_up_ne (by omega), a_up_ne (by omega), a_up_eq]
  · rw [a_up_ne (by omega), a_up_ne (by omega), a_up_ne (by omega), a_up_eq]
  · rw [a_up_ne (by omega), a_up_ne (by omega), a_up_eq]
  · rw [a_up_ne (by omega), a_up_eq]
  · rw [a_up_ne (by omega), a_up_ne (by omega), a_up_ne (by omega), a_up_ne (by omega), a_up_ne (by omega), a_up_ne (by omega), a_up_ne (by omega)]
  · rw [a_up_ne (by omega), a_up_ne (by omega), a_up_ne (by omega), a_up_ne (by omega), a_up_ne (by omega), a_up_ne (by omega), a_up_ne (by omega)]
def a_Qcm (Z : a_P) (n g l r : Int) (s : a_F) : Prop := s.1 = n ∧ s.2 133 2 = 0 ∧ s.2 133 7 = 0 ∧ s.2 134 0 = n ∧ s.2 134 1 = g ∧ s.2 134 2 = l ∧ s.2 134 3 = Z 133 5 ∧ s.2 134 4 = r ∧ s.2 134 5 = 0 ∧ s.2 134 6 = Z 134 6 ∧ (∀ i, 0 ≤ i → i < n → s.2 134 (7 + i) = Z 136 (4 * i) ∧ s.2 134 (15 + i) = Z 136 (4 * i + 1) ∧ s.2 134 (23 + i) = Z 136 (4 * i + 2) ∧ s.2 134 (31 + i) = Z 136 (4 * i + 3) ∧ s.2 134 (39 + i) = 0) ∧ ∀ a b, ¬ a = 134 → ¬ (a = 133 ∧ (b = 2 ∨ b = 7)) → s.2 a b = Z a b
theorem fl_commit {Z0 Z : a_P} {n g l r : Int} (e : fn_132 Z0 = (0, Z)) (n0 : 0 ≤ n) (n8 : n ≤ 8) : a_Qcm Z n g l r (m_fin g l r (n, Z0)) := by
  unfold m_fin
  refine a_fjn (Q := a_Qcm Z n g l r) (fun _ => False) (fun _ h => h.elim) (fun j hj => ?_)
  clear hj
  rw [if_neg (show ¬ n < 0 by omega)]
  refine a_fbd1 (Q := a_Qcm Z n g l r) ?_
  show a_Qcm Z n g l r (if (fn_132 Z0).1 = 0 then _ else _)
  rw [e]
  rw [if_pos (show ((0 : Int), Z).1 = 0 from rfl)]
  refine a_fbd1 (Q := a_Qcm Z n g l r) ?_
  refine a_fbd1 (Q := a_Qcm Z n g l r) ?_
  refine a_fbd1 (Q := a_Qcm Z n g l r) ?_
  refine a_fbd1 (Q := a_Qcm Z n g l r) ?_
  refine a_fbd1 (Q := a_Qcm Z n g l r) ?_
  refine a_fbd1 (Q := a_Qcm Z n g l r) ?_
  refine a_fbd1 (Q := a_Qcm Z n g l r) ?_
  have h5 : a_up (a_up (a_up Z 134 0 0) 134 1 g) 134 2 l 133 5 = Z 133 5 := by rw [a_up_ne (by omega), a_up_ne (by omega), a_up_ne (by omega)]
  show a_Qcm Z n g l r (a_jn _ fun j211 => a_lp _ _ a_fuel (0, a_up (a_up (a_up (a_up (a_up (a_up (a_up Z 134 0 0) 134 1 g) 134 2 l) 134 3 (a_up (a_up (a_up Z 134 0 0) 134 1 g) 134 2 l 133 5)) 134 4 r) 134 5 0) 133 7 0))
  rw [h5]
  have z0 : a_up (a_up (a_up (a_up (a_up (a_up (a_up Z 134 0 0) 134 1 g) 134 2 l) 134 3 (Z 133 5)) 134 4 r) 134 5 0) 133 7 0 134 0 = 0 := by rw [a_up_ne (by omega), a_up_ne (by omega), a_up_ne (by omega), a_up_ne (by omega), a_up_ne (by omega), a_up_ne (by omega), a_up_eq]
  have z1 : a_up (a_up (a_up (a_up (a_up (a_up (a_up Z 134 0 0) 134 1 g) 134 2 l) 134 3 (Z 133 5)) 134 4 r) 134 5 0) 133 7 0 134 1 = g := by rw [a_up_ne (by omega), a_up_ne (by omega), a_up_ne (by omega), a_up_ne (by omega), a_up_ne (by omega), a_up_eq]
  have z2 : a_up (a_up (a_up (a_up (a_up (a_up (a_up Z 134 0 0) 134 1 g) 134 2 l) 134 3 (Z 133 5)) 134 4 r) 134 5 0) 133 7 0 134 2 = l := by rw [a_up_ne (by omega), a_up_ne (by omega), a_up_ne (by omega), a_up_ne (by omega), a_up_eq]
  have z3 : a_up (a_up (a_up (a_up (a_up (a_up (a_up Z 134 0 0) 134 1 g) 134 2 l) 134 3 (Z 133 5)) 134 4 r) 134 5 0) 133 7 0 134 3 = Z 133 5 := by rw [a_up_ne (by omega), a_up_ne (by omega), a_up_ne (by omega), a_up_eq]
  have z4 : a_up (a_up (a_up (a_up (a_up (a_up (a_up Z 134 0 0) 134 1 g) 134 2 l) 134 3 (Z 133 5)) 134 4 r) 134 5 0) 133 7 0 134 4 = r := by rw [a_up_ne (by omega), a_up_ne (by omega), a_up_eq]
  have z5 : a_up (a_up (a_up (a_up (a_up (a_up (a_up Z 134 0 0) 134 1 g) 134 2 l) 134 3 (Z 133 5)) 134 4 r) 134 5 0) 133 7 0 134 5 = 0 := by rw [a_up_ne (by omega), a_up_eq]
  have z6 : a_up (a_up (a_up (a_up (a_up (a_up (a_up Z 134 0 0) 134 1 g) 134 2 l) 134 3 (Z 133 5)) 134 4 r) 134 5 0) 133 7 0 134 6 = Z 134 6 := by rw [a_up_ne (by omega), a_up_ne (by omega), a_up_ne (by omega), a_up_ne (by omega), a_up_ne (by omega), a_up_ne (by omega), a_up_ne (by omega)]
  have z7 : a_up (a_up (a_up (a_up (a_up (a_up (a_up Z 134 0 0) 134 1 g) 134 2 l) 134 3 (Z 133 5)) 134 4 r) 134 5 0) 133 7 0 133 7 = 0 := a_up_eq
  have zf : ∀ a b, ¬ a = 134 → ¬ (a = 133 ∧ b = 7) → a_up (a_up (a_up (a_up (a_up (a_up (a_up Z 134 0 0) 134 1 g) 134 2 l) 134 3 (Z 133 5)) 134 4 r) 134 5 0) 133 7 0 a b = Z a b := fun a b q1 q2 => by rw [a_up_ne (by omega), a_up_ne (by omega), a_up_ne (by omega), a_up_ne (by omega), a_up_ne (by omega), a_up_ne (by omega), a_up_ne (by omega)]
  generalize a_up (a_up (a_up (a_up (a_up (a_up (a_up Z 134 0 0) 134 1 g) 134 2 l) 134 3 (Z 133 5)) 134 4 r) 134 5 0) 133 7 0 = B at z0 z1 z2 z3 z4 z5 z6 z7 zf
  refine a_fjn (Q := a_Qcm Z n g l r) (fun s5 : a_P => s5 133 7 = 0 ∧ s5 134 0 = n ∧ (∀ b, 1 ≤ b → b ≤ 6 → s5 134 b = B 134 b) ∧ (∀ i, 0 ≤ i → i < n → s5 134 (7 + i) = Z 136 (4 * i) ∧ s5 134 (15 + i) = Z 136 (4 * i + 1) ∧ s5 134 (23 + i) = Z 136 (4 * i + 2) ∧ s5 134 (31 + i) = Z 136 (4 * i + 3) ∧ s5 134 (39 + i) = 0) ∧ ∀ a b, ¬ a = 134 → ¬ (a = 133 ∧ b = 7) → s5 a b = Z a b) (fun s5 h5 => ?_) (fun j hj => ?_)
  · obtain ⟨q1, q2, q3, q4, q5⟩ := h5
    refine a_fbd1 (Q := a_Qcm Z n g l r) ?_
    have up : ∀ a b, ¬ (a = 133 ∧ b = 2) → a_up s5 133 2 0 a b = s5 a b := fun a b q => a_up_ne q
    have up2 : a_up s5 133 2 0 133 2 = 0 := a_up_eq
    refine ⟨rfl, up2, ?_, ?_, ?_, ?_, ?_, ?_, ?_, ?_, fun i i0 i1 => ?_, fun a b w0 w1 => ?_⟩
    · show a_up s5 133 2 0 133 7 = 0
      rw [up _ _ (by omega), q1]
    · show a_up s5 133 2 0 134 0 = n
      rw [up _ _ (by omega), q2]
    · show a_up s5 133 2 0 134 1 = g
      rw [up _ _ (by omega), q3 1 (by omega) (by omega), z1]
    · show a_up s5 133 2 0 134 2 = l
      rw [up _ _ (by omega), q3 2 (by omega) (by omega), z2]
    · show a_up s5 133 2 0 134 3 = Z 133 5
      rw [up _ _ (by omega), q3 3 (by omega) (by omega), z3]
    · show a_up s5 133 2 0 134 4 = r
      rw [up _ _ (by omega), q3 4 (by omega) (by omega), z4]
    · show a_up s5 133 2 0 134 5 = 0
      rw [up _ _ (by omega), q3 5 (by omega) (by omega), z5]
    · show a_up s5 133 2 0 134 6 = Z 134 6
      rw [up _ _ (by omega), q3 6 (by omega) (by omega), z6]
    · show a_up s5 133 2 0 134 (7 + i) = _ ∧ a_up s5 133 2 0 134 (15 + i) = _ ∧ a_up s5 133 2 0 134 (23 + i) = _ ∧ a_up s5 133 2 0 134 (31 + i) = _ ∧ a_up s5 133 2 0 134 (39 + i) = 0
      rw [up _ _ (by omega), up _ _ (by omega), up _ _ (by omega), up _ _ (by omega), up _ _ (by omega)]
      exact q4 i i0 i1
    · show a_up s5 133 2 0 a b = _
      rw [up _ _ (by omega)]
      exact q5 a b w0 (by omega)
  · have e4 : a_w (4 * n) = 4 * n := a_w_id (by omega) (by omega)
    rw [e4]
    clear e4
    refine a_lp_up (Q := a_Qcm Z n g l r) (fun k s => s.1 = 4 * (k : Int) ∧ s.2 133 7 = 0 ∧ s.2 134 0 = (k : Int) ∧ (∀ b, 1 ≤ b → b ≤ 6 → s.2 134 b = B 134 b) ∧ (∀ i, 0 ≤ i → i < (k : Int) → s.2 134 (7 + i) = Z 136 (4 * i) ∧ s.2 134 (15 + i) = Z 136 (4 * i + 1) ∧ s.2 134 (23 + i) = Z 136 (4 * i + 2) ∧ s.2 134 (31 + i) = Z 136 (4 * i + 3) ∧ s.2 134 (39 + i) = 0) ∧ ∀ a b, ¬ a = 134 → ¬ (a = 133 ∧ b = 7) → s.2 a b = Z a b) n.toNat (by omega) (fun k s hk hs nx hn => ?_) (fun s hs nx => ?_) (0, B) ⟨by show (0 : Int) = 4 * ((0 : Nat) : Int); omega, z7, z0, fun b _ _ => rfl, fun i i0 i1 => absurd i1 (by omega), zf⟩
    · obtain ⟨q1, q2, q3, q4, q5, q6⟩ := hs
      rw [if_pos (by rw [q1]; omega)]
      have e1 : a_w (s.1 + 1) = 4 * (k : Int) + 1 := by rw [q1, a_w_id (by omega) (by omega)]
      have e2 : a_w (s.1 + 2) = 4 * (k : Int) + 2 := by rw [q1, a_w_id (by omega) (by omega)]
      have e3 : a_w (s.1 + 3) = 4 * (k : Int) + 3 := by rw [q1, a_w_id (by omega) (by omega)]
      rw [e1, e2, e3, q1, q6 136 _ (by omega) (by omega), q6 136 _ (by omega) (by omega), q6 136 _ (by omega) (by omega), q6 136 _ (by omega) (by omega)]
      clear e1 e2 e3
      obtain ⟨Y, ey, y0, y7, y15, y23, y31, y39, yu, yo, yf⟩ := fe_125 (a1 := Z 136 (4 * (k : Int))) (a2 := Z 136 (4 * (k : Int) + 1)) (a3 := Z 136 (4 * (k : Int) + 2)) (a4 := Z 136 (4 * (k : Int) + 3)) q3 (by omega) (by omega)
      have e44 : Unit → a_w (4 * (k : Int) + 4) = 4 * ((k + 1 : Nat) : Int) := fun _ => by rw [a_w_id (by omega) (by omega)]; omega
      rw [ey, e44 ()]
      refine hn (4 * ((k + 1 : Nat) : Int), Y) ⟨rfl, yu, ?_, fun b w0 w1 => ?_, fun i i0 i1 => ?_, fun a b w0 w1 => ?_⟩
      · show Y 134 0 = ((k + 1 : Nat) : Int)
        rw [y0]
        omega
      · show Y 134 b = B 134 b
        rw [yo b (by omega) (by omega) (by omega) (by omega) (by omega) (by omega)]
        exact q4 b w0 w1
      · show Y 134 (7 + i) = _ ∧ Y 134 (15 + i) = _ ∧ Y 134 (23 + i) = _ ∧ Y 134 (31 + i) = _ ∧ Y 134 (39 + i) = 0
        by_cases ci : i = (k : Int)
        · rw [ci]
          exact ⟨y7, y15, y23, y31, y39⟩
        · rw [yo (7 + i) (by omega) (by omega) (by omega) (by omega) (by omega) (by omega), yo (15 + i) (by omega) (by omega) (by omega) (by omega) (by omega) (by omega), yo (23 + i) (by omega) (by omega) (by omega) (by omega) (by omega) (by omega), yo (31 + i) (by omega) (by omega) (by omega) (by omega) (by omega) (by omega), yo (39 + i) (by omega) (by omega) (by omega) (by omega) (by omega) (by omega)]
          exact q5 i i0 (by omega)
      · show Y a b = Z a b
        rw [yf a b w0 w1]
        exact q6 a b w0 w1
    · obtain ⟨q1, q2, q3, q4, q5, q6⟩ := hs
      rw [if_neg (by rw [q1]; omega)]
      have en : ((n.toNat : Nat) : Int) = n := by omega
      rw [en] at q3 q5
      exact hj _ ⟨q2, q3, q4, q5, q6⟩
/-! the stages -/
theorem st_end {K : Int → Int} {G H Z : a_P} {t : Int → Int} {L p m n g : Int} (J : a_J K H Z t L p m n g) (zf : a_zf G Z) (lo : a_lok t L) (h9 : L ≤ 90) (n0 : 0 ≤ n) (n8 : n ≤ 8) (hg : 0 ≤ g ∧ g ≤ 35) (hl : 0 ≤ K 1 ∧ K 1 ≤ 3) (hr : 0 ≤ K 3 ∧ K 3 ≤ 63) (h4 : K 4 = 0) (hd : 0 ≤ G 134 6 ∧ G 134 6 ≤ 2147483647) : a_PA G (c_s3 H 119 3) (m_fin g (K 1) (K 3) (n, Z)) ∨ a_PB G (c_s3 H) (m_fin g (K 1) (K 3) (n, Z)) := by
  obtain ⟨jK, hv, gv, em, ⟨p0, pL⟩, ⟨m0, mL⟩, j6, j0, j2, jb, jA⟩ := J
  have hq := r_q_ok (t := t) pL
  have hqL := hq.2.1
  have hq1 := hq.1
  obtain ⟨X, ex, tx, fx⟩ := e_peek hv h9 p0 pL
  obtain ⟨Y, ey, ty, fy⟩ := e_here gv h9 m0 mL
  rw [em] at ey ty
  by_cases c : r_ch t L (r_q t L p) = 0
  · right
    rw [c] at ex ey
    have ec : c_s3 H = X := by unfold c_s3; rw [ex]; exact if_pos rfl
    rw [ec]
    obtain ⟨k0, k1, k2, k3, k4, k5, k6, k7, k8, k9, kA, kF⟩ := fl_commit (g := g) (l := K 1) (r := K 3) ey n0 n8
    have y5 : Y 133 5 = Z 133 5 := fy 133 5 (by omega)
    have rr : ∀ i, Y 136 i = Z 136 i := fun i => fy 136 i (by omega)
    refine ⟨tx.2.2.1, by rw [k0]; exact ⟨n0, n8⟩, by rw [k0, fx 7 6 (by omega)]; exact j6, by rw [k3, k0], by rw [k4, fx 7 0 (by omega)]; exact j0, by rw [k5, fx 7 1 (by omega)]; exact jK.1, by rw [k6, y5, fx 7 2 (by omega)]; exact j2, by rw [k7, fx 7 3 (by omega)]; exact jK.2.1, by rw [k8, fx 7 4 (by omega), jK.2.2, h4], ?_, fun i i0 i1 => ?_, ?_, k1, k2, fun a b w0 w1 w2 => ?_⟩
    · rw [k9, fy 134 6 (by omega), zf.1 134 6 (by omega) (by omega)]
    · rw [k0] at i1
      obtain ⟨a1, a2, a3, a4, a5⟩ := kA i i0 i1
      obtain ⟨⟨o1, o2, o3, o4, o5⟩, -⟩ := jA i i0 i1
      rw [fx (7 + 1) i (by omega), fx (7 + 2) i (by omega), fx (7 + 3) i (by omega), fx (7 + 4) i (by omega), fx (7 + 5) i (by omega), a1, a2, a3, a4, a5, rr, rr, rr, rr]
      exact ⟨o1, o2, o3, o4, o5⟩
    · refine ⟨by rw [k3]; exact ⟨n0, n8⟩, by rw [k4]; exact hg, by rw [k5]; exact hl, ?_, by rw [k7]; exact hr, by rw [k8]; omega, by rw [k9, fy 134 6 (by omega), zf.1 134 6 (by omega) (by omega)]; exact hd, fun i i0 i1 => ?_⟩
      · rw [k6, y5, k3]
        rcases jb with q | ⟨q1, q2, q3⟩
        · exact Or.inl q
        · refine Or.inr ⟨q1, q2, ?_⟩
          rw [(kA _ q1 q2).2.2.2.1, rr]
          exact q3
      · rw [k3] at i1
        obtain ⟨a1, a2, a3, a4, a5⟩ := kA i i0 i1
        obtain ⟨-, o⟩ := jA i i0 i1
        unfold a_rwr at o
        rw [a1, a2, a3, a4, a5, rr, rr, rr, rr]
        omega
    · rw [kF a b w0 (by omega), fy a b (by omega)]
      by_cases ca : a = 133
      · rw [ca]
        exact zf.2 b (by omega) (by omega) (by omega)
      · exact zf.1 a b ca w1
  · left
    have ec : c_s3 H = fn_47 (X 119 2) X := by unfold c_s3; rw [ex]; exact if_neg c
    have ec3 : c_s3 H 119 3 = -20 - r_q t L p := by rw [ec, tx.2.1]; exact (a_tv_fail tx (by omega) (by omega)).2.2.1
    have em2 : m_fin g (K 1) (K 3) (n, Z) = fn_140 Y := by
      simp only [m_fin, a_jn, a_bd, ey]
      rw [if_neg (show ¬ n < 0 by omega), if_neg c]
    obtain ⟨Z', e, h2, hf⟩ := fl_fault ty lo h9 (by omega) hqL
    rw [ec3, em2, e, r_q_id pL]
    exact ⟨by omega, rfl, h2, a_zf_t zf (fun a b q1 q2 => (hf a b (by omega)).trans (fy a b (by omega)))⟩
theorem st_3 {K : Int → Int} {G H Z : a_P} {t : Int → Int} {L p m g r : Int} (J : a_J K H Z t L p m 0 g) (zf : a_zf G Z) (lo : a_lok t L) (h9 : L ≤ 90) (hg : 0 ≤ g ∧ g ≤ 35) (hl : 0 ≤ K 1 ∧ K 1 ≤ 3) (hr : 0 ≤ K 3 ∧ K 3 ≤ 63) (h4 : K 4 = 0) (hd : 0 ≤ G 134 6 ∧ G 134 6 ≤ 2147483647) (er : r = K 3) : a_PA G (c_T3 H 119 3) (m_fin g (K 1) r (m_s3 g (r, Z))) ∨ a_PB G (c_T3 H) (m_fin g (K 1) r (m_s3 g (r, Z))) := by
  obtain ⟨jK, hv, gv, em, ⟨p0, pL⟩, ⟨m0, mL⟩, -⟩ := id J
  have hq := r_q_ok (t := t) pL
  have hqL := hq.2.1
  have hq1 := hq.1
  obtain ⟨X, ex, fx, tx⟩ := e_skips (x := 59) hv h9 p0 pL
  obtain ⟨Y, ey, fy, ty⟩ := e_has (x := 59) gv h9 m0 mL
  rw [em] at ey ty
  have zfY : a_zf G Y := a_zf_t zf (fun a b q1 q2 => fy a b (by omega))
  unfold c_T3
  have es : m_s3 g (r, Z) = if (fn_133 59 Z).1 = 0 then (0, (fn_133 59 Z).2) else ((fn_139 g (fn_133 59 Z).2).1, (fn_139 g (fn_133 59 Z).2).2) := if_neg (show ¬ r < 0 by omega)
  rw [es, ex, ey]
  unfold c_s2
  by_cases c : r_ch t L (r_q t L p) = 59
  · have ltq : r_q t L p < L := r_ch_n lo (by omega) (by omega)
    rw [if_pos c] at tx ty
    simp only [if_pos c]
    rw [if_neg (show ¬ (1 : Int) = 0 by decide), if_neg (show ¬ (1 : Int) = 0 by decide)]
    have J2 : a_J K X Y t L (r_q t L p + 1) (r_q t L p + 1) 0 g := a_J_fr J fx fy tx ty rfl ⟨by omega, by omega⟩ ⟨by omega, by omega⟩
    have pp := fl_people J2 lo h9
    have f139 : a_zf G (fn_139 g Y).2 := a_zf_t zfY (fun a b q1 q2 => fr_139 g Y a b (by unfold w_139; omega))
    rcases pp with ⟨p2, m2, n1, n8, J3⟩ | ⟨e1, q, pp, mm, z1, z2, z3, z4, z5⟩ | ⟨e1, q, pp, mm, z1, z2, z3, z4, z5, z6⟩
    · rw [er]
      exact st_end J3 f139 lo h9 (by omega) n8 hg hl hr h4 hd
    · left
      have hqm := r_q_ok (t := t) z4.2
      have b := a_PA_bad (g := g) (l := K 1) (r := r) (x := (fn_139 g Y).1) (by omega) f139 z2 lo h9 z4.1 z4.2
      rw [z5] at b
      rw [kf_s3 z1 (by have := hqm.1; omega) h9 z3.1 z3.2]
      exact b
    · left
      have hqm := r_q_ok (t := t) z4.2
      have hm1 := hqm.1
      have hmL := hqm.2.1
      obtain ⟨Y2, ey2, ty2, fy2⟩ := e_here z2 h9 z4.1 z4.2
      rw [z5] at ey2 ty2
      rw [kf_s3 z1 (by omega) h9 z3.1 z3.2]
      have em2 : m_fin g (K 1) r ((fn_139 g Y).1, (fn_139 g Y).2) = fn_140 Y2 := by
        simp only [m_fin, a_jn, a_bd, ey2]
        rw [if_neg (show ¬ (fn_139 g Y).1 < 0 by omega), if_neg (by rw [z6]; decide)]
      obtain ⟨Z', e, h2, hf⟩ := fl_fault ty2 lo h9 (by omega) (by omega)
      rw [em2, e]
      have e5 : r_q t L q = q := by rw [← z5]; exact r_q_id z4.2
      rw [e5]
      exact ⟨by omega, rfl, h2, a_zf_t f139 (fun a b q1 q2 => (hf a b (by omega)).trans (fy2 a b (by omega)))⟩
  · rw [if_neg c] at tx ty
    simp only [if_neg c]
    rw [if_pos trivial, if_pos trivial, er]
    exact st_end (a_J_fr J fx fy tx ty rfl ⟨by omega, hqL⟩ ⟨by omega, hqL⟩) zfY lo h9 (by omega) (by omega) hg hl hr h4 hd
/-- a PLAIN begun, with nobody yet -/
def a_J0 (H Z : a_P) : Prop := H 7 6 = 0 ∧ H 7 2 = -4 ∧ H 7 4 = 0 ∧ Z 133 5 = -4
theorem a_J0_J {H Z : a_P} {t : Int → Int} {L p m g l r : Int} (h : a_J0 H Z) (tv : a_tv H t L p 0) (mv : m_tv Z t L m) (e : r_q t L m = r_q t L p) (bp : 0 ≤ p ∧ p ≤ L) (bm : 0 ≤ m ∧ m ≤ L) (hg : H 7 0 = g) (hl : H 7 1 = l) (hr : H 7 3 = r) : a_J (fun b => if b = 1 then l else if b = 3 then r else 0) H Z t L p m 0 g := ⟨⟨hl, hr, h.2.2.1⟩, tv, mv, e, bp, bm, h.1, hg, by rw [h.2.1, h.2.2.2], Or.inl h.2.2.2, fun i i0 i1 => absurd i1 (by omega)⟩
theorem st_2 {G H Z : a_P} {t : Int → Int} {L p g l : Int} (h0 : a_J0 H Z) (tv : a_tv H t L p 0) (mv : m_tv Z t L p) (bp : 0 ≤ p ∧ p ≤ L) (zf : a_zf G Z) (lo : a_lok t L) (h9 : L ≤ 90) (hg : 0 ≤ g ∧ g ≤ 35) (hl : 0 ≤ l ∧ l ≤ 3) (hd : 0 ≤ G 134 6 ∧ G 134 6 ≤ 2147483647) (e0 : H 7 0 = g) (e1 : H 7 1 = l) : a_PA G (c_T2 H 119 3) (m_fin g l (m_s2 (l, Z)).1 (m_s3 g (m_s2 (l, Z)))) ∨ a_PB G (c_T2 H) (m_fin g l (m_s2 (l, Z)).1 (m_s3 g (m_s2 (l, Z)))) := by
  have hq := r_q_ok (t := t) bp.2
  have hqL := hq.2.1
  have hq1 := hq.1
  obtain ⟨X, ex, fx, tx⟩ := e_skips (x := 47) tv h9 bp.1 bp.2
  obtain ⟨Y, ey, fy, ty⟩ := e_has (x := 47) mv h9 bp.1 bp.2
  have zfY : a_zf G Y := a_zf_t zf (fun a b q1 q2 => fy a b (by omega))
  have es : m_s2 (l, Z) = if (fn_133 47 Z).1 = 0 then (0, (fn_133 47 Z).2) else ((fn_134 63 (fn_133 47 Z).2).1, (fn_134 63 (fn_133 47 Z).2).2) := if_neg (show ¬ l < 0 by omega)
  have ec : c_s1 (fn_50 47 H) = if (fn_50 47 H).1 = 0 then (0, (fn_50 47 H).2) else ((fn_52 63 (fn_50 47 H).2).1, (fn_52 63 (fn_50 47 H).2).2) := rfl
  unfold c_T2
  rw [es, ec, ex, ey]
  have K1 : (fun b : Int => if b = 1 then l else if b = 3 then (0 : Int) else 0) 1 = l := if_pos rfl
  by_cases c : r_ch t L (r_q t L p) = 47
  · have ltq : r_q t L p < L := r_ch_n lo (by omega) (by omega)
    rw [if_pos c] at tx ty
    simp only [if_pos c]
    rw [if_neg (show ¬ (1 : Int) = 0 by decide), if_neg (show ¬ (1 : Int) = 0 by decide)]
    obtain ⟨v, X2, w, Y2, ex2, ey2, fx2, fy2, hx2⟩ := e_num (most := 63) tx ty rfl lo h9 (by omega) (by omega) (by omega) (by omega) (by omega)
    have zf2 : a_zf G Y2 := a_zf_t zfY (fun a b q1 q2 => fy2 a b (by omega))
    rw [ex2, ey2]
    rcases hx2 with ⟨p2, ev, w0, w63, b0, bL, tx2, ty2⟩ | ⟨ew, p2, b0, bL, tx2, ty2⟩
    · have hJ : a_J (fun b => if b = 1 then l else if b = 3 then w else 0) (a_up X2 7 3 v) Y2 t L p2 p2 0 g := by
        refine a_J0_J ⟨?_, ?_, ?_, ?_⟩ (a_tv_o tx2 (by omega) (by omega)) ty2 rfl ⟨b0, bL⟩ ⟨b0, bL⟩ ?_ ?_ ?_
        · rw [a_up_ne (by omega), fx2 7 6 (by omega), fx 7 6 (by omega)]; exact h0.1
        · rw [a_up_ne (by omega), fx2 7 2 (by omega), fx 7 2 (by omega)]; exact h0.2.1
        · rw [a_up_ne (by omega), fx2 7 4 (by omega), fx 7 4 (by omega)]; exact h0.2.2.1
        · rw [fy2 133 5 (by omega), fy 133 5 (by omega)]; exact h0.2.2.2
        · rw [a_up_ne (by omega), fx2 7 0 (by omega), fx 7 0 (by omega)]; exact e0
        · rw [a_up_ne (by omega), fx2 7 1 (by omega), fx 7 1 (by omega)]; exact e1
        · rw [a_up_eq]; exact ev
      have := st_3 (r := w) hJ zf2 lo h9 hg (by show 0 ≤ (if (1 : Int) = 1 then l else _) ∧ (if (1 : Int) = 1 then l else _) ≤ 3; rw [if_pos rfl]; exact hl) (by show 0 ≤ (if (3 : Int) = 1 then l else if (3 : Int) = 3 then w else 0) ∧ (if (3 : Int) = 1 then l else if (3 : Int) = 3 then w else 0) ≤ 63; rw [if_neg (by decide), if_pos rfl]; exact ⟨w0, w63⟩) rfl hd rfl
      exact this
    · left
      have hq2 := r_q_ok (t := t) (L := L) (p := r_q t L p + 1) (by omega)
      have h21 := hq2.1
      have h2L := hq2.2.1
      have b := a_PA_bad (g := g) (l := l) (r := w) (x := -1) (by omega) zf2 ty2 lo h9 (by omega) h2L
      rw [r_q_id (by omega)] at b
      rw [kf_3 (a_tv_o tx2 (c := 7) (i := 3) (v := v) (by omega) (by omega)) (by omega) h9 b0 bL]
      have e3 : m_s3 g (w, Y2) = (-1, Y2) := if_pos (show w < 0 by omega)
      show a_PA G _ (m_fin g l w (m_s3 g (w, Y2)))
      rw [e3]
      exact b
  · rw [if_neg c] at tx ty
    simp only [if_neg c]
    rw [if_pos trivial, if_pos trivial]
    have hJ : a_J (fun b => if b = 1 then l else if b = 3 then (0 : Int) else 0) (a_up X 7 3 0) Y t L (r_q t L p) (r_q t L p) 0 g := by
      refine a_J0_J ⟨?_, ?_, ?_, ?_⟩ (a_tv_o tx (by omega) (by omega)) ty rfl ⟨by omega, hqL⟩ ⟨by omega, hqL⟩ ?_ ?_ ?_
      · rw [a_up_ne (by omega), fx 7 6 (by omega)]; exact h0.1
      · rw [a_up_ne (by omega), fx 7 2 (by omega)]; exact h0.2.1
      · rw [a_up_ne (by omega), fx 7 4 (by omega)]; exact h0.2.2.1
      · rw [fy 133 5 (by omega)]; exact h0.2.2.2
      · rw [a_up_ne (by omega), fx 7 0 (by omega)]; exact e0
      · rw [a_up_ne (by omega), fx 7 1 (by omega)]; exact e1
      · exact a_up_eq
    have := st_3 (r := 0) hJ zfY lo h9 hg (by show 0 ≤ (if (1 : Int) = 1 then l else _) ∧ (if (1 : Int) = 1 then l else _) ≤ 3; rw [if_pos rfl]; exact hl) (by show 0 ≤ (if (3 : Int) = 1 then l else if (3 : Int) = 3 then (0 : Int) else 0) ∧ (if (3 : Int) = 1 then l else if (3 : Int) = 3 then (0 : Int) else 0) ≤ 63; rw [if_neg (by decide), if_pos rfl]; omega) rfl hd rfl
    exact this
theorem st_1 {G H Z : a_P} {t : Int → Int} {L p g : Int} (h0 : a_J0 H Z) (tv : a_tv H t L p 0) (mv : m_tv Z t L p) (bp : 0 ≤ p ∧ p ≤ L) (zf : a_zf G Z) (lo : a_lok t L) (h9 : L ≤ 90) (hg : 0 ≤ g ∧ g ≤ 35) (hd : 0 ≤ G 134 6 ∧ G 134 6 ≤ 2147483647) (e0 : H 7 0 = g) : a_PA G (c_T1 H 119 3) (m_all (g, Z)) ∨ a_PB G (c_T1 H) (m_all (g, Z)) := by
  have hq := r_q_ok (t := t) bp.2
  have hqL := hq.2.1
  have hq1 := hq.1
  have cb := r_ch_b lo (q := r_q t L p) (by omega)
  obtain ⟨v, X, ex, fx, hx⟩ := e_let (a1 := 43) tv h9 bp.1 bp.2
  obtain ⟨Y, ey, fy, tya, tyb⟩ := e_way (b := 0) mv h9 bp.1 bp.2
  rw [fl_ix4 cb.1 cb.2] at hx
  have zfY : a_zf G Y := a_zf_t zf (fun a b q1 q2 => fy a b (by omega))
  have wz := fe_135z 0
  have wb := fe_135b (r_ch t L (r_q t L p)) 0
  have es : m_s1 (g, Z) = ((fn_136 0 Z).1, (fn_136 0 Z).2) := if_neg (show ¬ g < 0 by omega)
  generalize hl : fn_135 (r_ch t L (r_q t L p)) 0 = l at hx ey tya tyb wb
  have es2 : m_s1 (g, Z) = (l, Y) := by rw [es, ey]
  have ea : m_all (g, Z) = m_fin g l (m_s2 (l, Y)).1 (m_s3 g (m_s2 (l, Y))) := by
    unfold m_all
    rw [es2]
  have eT : c_T1 H = c_T2 (a_up X 7 1 v) := by unfold c_T1; rw [ex]
  rw [ea, eT]
  rcases hx with ⟨c1, tx⟩ | ⟨c1, ev, tx⟩
  · left
    rw [kf_2 (a_tv_o tx (c := 7) (i := 1) (v := v) (by omega) (by omega)) (by omega) h9 (by omega) hqL]
    have e2 : m_s2 (l, Y) = (-1, Y) := if_pos c1
    have e3 : m_s3 g (-1, Y) = (-1, Y) := if_pos (show (-1 : Int) < 0 by decide)
    rw [e2, e3]
    have b := a_PA_bad (g := g) (l := l) (r := -1) (x := -1) (by omega) zfY (tya c1) lo h9 (by omega) hqL
    rw [r_q_id bp.2] at b
    exact b
  · have ltq : r_q t L p < L := r_ch_n lo (by omega) (fun e => by rw [e, wz] at hl; omega)
    refine st_2 (p := r_q t L p + 1) ⟨?_, ?_, ?_, ?_⟩ (a_tv_o tx (by omega) (by omega)) (tyb c1) ⟨by omega, by omega⟩ zfY lo h9 hg ⟨by omega, wb.2 rfl⟩ hd ?_ ?_
    · rw [a_up_ne (by omega), fx 7 6 (by omega)]; exact h0.1
    · rw [a_up_ne (by omega), fx 7 2 (by omega)]; exact h0.2.1
    · rw [a_up_ne (by omega), fx 7 4 (by omega)]; exact h0.2.2.1
    · rw [fy 133 5 (by omega)]; exact h0.2.2.2
    · rw [a_up_ne (by omega), fx 7 0 (by omega)]; exact e0
    · rw [a_up_eq]; exact ev
theorem st_0 {H G : a_P} (tp : a_tp H G) (hd : 0 ≤ G 134 6 ∧ G 134 6 ≤ 2147483647) : a_PA G (fn_44 7 H).1 (fn_141 G) ∨ ((fn_44 7 H).1 = 0 ∧ a_PB G (fn_44 7 H).2 (fn_141 G)) := by
  obtain ⟨r1, b1, b2⟩ := tp
  rw [c_plain_eq, m_plain_eq]
  have lo : a_lok (G 135) (G 133 2) := fun i i0 i1 => (b2 i i0 i1).2
  have tv : a_tv (a_up (a_up (a_up (a_up (a_up H 119 2 0) 119 3 0) 7 6 0) 7 2 (-4)) 7 4 0) (G 135) (G 133 2) 0 0 := by
    refine a_tv_o (a_tv_o (a_tv_o ⟨?_, ?_, a_up_eq, fun i i0 i1 => ?_⟩ (by omega) (by omega)) (by omega) (by omega)) (by omega) (by omega)
    · rw [a_up_ne (by omega), a_up_ne (by omega), r1]
    · rw [a_up_ne (by omega), a_up_eq]
    · rw [a_up_ne (by omega), a_up_ne (by omega)]
      exact (b2 i i0 i1).1
  have mv : m_tv (a_up (a_up G 133 3 0) 133 5 (-4)) (G 135) (G 133 2) 0 := m_tv_o ⟨by rw [a_up_ne (by omega)], a_up_eq, fun i i0 i1 => by rw [a_up_ne (by omega)]⟩ (by omega) (by omega) (by omega)
  have i6 : a_up (a_up (a_up (a_up (a_up H 119 2 0) 119 3 0) 7 6 0) 7 2 (-4)) 7 4 0 7 6 = 0 := by rw [a_up_ne (by omega), a_up_ne (by omega), a_up_eq]
  have i2 : a_up (a_up (a_up (a_up (a_up H 119 2 0) 119 3 0) 7 6 0) 7 2 (-4)) 7 4 0 7 2 = -4 := by rw [a_up_ne (by omega), a_up_eq]
  have i4 : a_up (a_up (a_up (a_up (a_up H 119 2 0) 119 3 0) 7 6 0) 7 2 (-4)) 7 4 0 7 4 = 0 := a_up_eq
  have j5 : a_up (a_up G 133 3 0) 133 5 (-4) 133 5 = -4 := a_up_eq
  have zf : a_zf G (a_up (a_up G 133 3 0) 133 5 (-4)) := ⟨fun a b q1 q2 => by rw [a_up_ne (by omega), a_up_ne (by omega)], fun b q1 q2 q3 => by rw [a_up_ne (by omega), a_up_ne (by omega)]⟩
  generalize a_up (a_up (a_up (a_up (a_up H 119 2 0) 119 3 0) 7 6 0) 7 2 (-4)) 7 4 0 = H5 at tv i6 i2 i4
  generalize a_up (a_up G 133 3 0) 133 5 (-4) = G2 at mv j5 zf
  have key : a_PA G (c_T0 H5 119 3) (m_all (fn_134 35 G2)) ∨ a_PB G (c_T0 H5) (m_all (fn_134 35 G2)) := by
    obtain ⟨v, X, w, Y, ex, ey, fx, fy, hx⟩ := e_num (most := 35) tv mv rfl lo b1.2 (by omega) b1.1 (by omega) b1.1 (by omega)
    have zfY : a_zf G Y := a_zf_t zf (fun a b q1 q2 => fy a b (by omega))
    have eT : c_T0 H5 = c_T1 (a_up X 7 0 v) := by unfold c_T0; rw [ex]
    rw [eT, ey]
    rcases hx with ⟨p2, ev, w0, w35, p0, pL, tx, ty⟩ | ⟨ew, p2, p0, pL, tx, ty⟩
    · refine st_1 (p := p2) ⟨?_, ?_, ?_, ?_⟩ (a_tv_o tx (by omega) (by omega)) ty ⟨p0, pL⟩ zfY lo b1.2 ⟨w0, w35⟩ hd ?_
      · rw [a_up_ne (by omega), fx 7 6 (by omega)]; exact i6
      · rw [a_up_ne (by omega), fx 7 2 (by omega)]; exact i2
      · rw [a_up_ne (by omega), fx 7 4 (by omega)]; exact i4
      · rw [fy 133 5 (by omega)]; exact j5
      · rw [a_up_eq]; exact ev
    · left
      have hq := r_q_ok (t := G 135) (L := G 133 2) (p := 0) b1.1
      have hq1 := hq.1
      have hqL := hq.2.1
      rw [kf_1 (a_tv_o tx (c := 7) (i := 0) (v := v) (by omega) (by omega)) (by omega) b1.2 p0 pL]
      have e1 : m_s1 (w, Y) = (-1, Y) := if_pos (show w < 0 by omega)
      have e2 : m_s2 (-1, Y) = (-1, Y) := if_pos (show (-1 : Int) < 0 by decide)
      have e3 : m_s3 w (-1, Y) = (-1, Y) := if_pos (show (-1 : Int) < 0 by decide)
      have ea : m_all (w, Y) = m_fin w (-1) (-1) (-1, Y) := by
        unfold m_all
        rw [e1, e2, e3]
      rw [ea]
      have b := a_PA_bad (g := w) (l := -1) (r := -1) (x := -1) (by omega) zfY ty lo b1.2 (by omega) hqL
      rw [r_q_id b1.1] at b
      exact b
  rcases key with k | k
  · exact Or.inl k
  · exact Or.inr ⟨k.1, k⟩
theorem r2_plain {H G : a_P} (h : a_R2 H G) : a_Q2R (fn_59 H) (fn_141 G) := by
  obtain ⟨g1, g2, g3, g4⟩ := h
  have f1 := fr_44 7 H
  have e5 : H 1 5 = G 134 6 := g1.1.2.2.2.2.2.1
  have c1 : ∀ a b, ¬ a = 119 → ¬ (7 ≤ a ∧ a ≤ 12) → (fn_44 7 H).2 a b = H a b := fun a b q1 q2 => f1 a b (by unfold w_44; omega)
  rcases st_0 g4 g1.2.2.2.2.2.2.2.1 with ⟨p1, p2, p3, p4⟩ | ⟨p0, k1, k2, k3, k4, k5, k6, k7, k8, k9, kd, kA, kO, kt, ku, kF⟩
  · have e : fn_59 H = ((fn_44 7 H).1, a_up (fn_44 7 H).2 119 1 0) := by
      simp only [fn_59, a_bd]
      rw [if_neg p1]
    rw [e]
    have d1 : ∀ a b, ¬ a = 119 → ¬ (7 ≤ a ∧ a ≤ 12) → a_up (fn_44 7 H).2 119 1 0 a b = H a b := fun a b q1 q2 => by rw [a_up_ne (by omega), c1 a b q1 q2]
    refine ⟨⟨a_now_fr g1 (fun a b q1 q2 => d1 a b (by omega) (by omega)) (fun b _ _ => p4.1 134 b (by omega) (by omega)), a_pst_fr g2 (fun a b q => d1 a b (by omega) (by omega)) (p4.2 7 (by omega) (by omega) (by omega)) (fun b => p4.1 137 b (by omega) (by omega)), a_im_fr g3 (d1 0 5 (by omega) (by omega)) (fun a b q1 q2 => d1 a b (by omega) (by omega)) (p4.2 17 (by omega) (by omega) (by omega)) (fun b => p4.1 140 b (by omega) (by omega)) (fun b => p4.1 141 b (by omega) (by omega)), ?_⟩, p2.symm⟩
    have u1 : a_up (fn_44 7 H).2 119 1 0 119 1 = 0 := a_up_eq
    refine ⟨by rw [p3]; exact u1, by rw [p3]; omega, fun i i0 i1 => absurd i1 (by rw [p3]; omega)⟩
  · have y5 : a_up (fn_44 7 H).2 119 1 0 1 5 = G 134 6 := by rw [a_up_ne (by omega), c1 1 5 (by omega) (by omega), e5]
    have e : fn_59 H = (fn_3 13 (fn_10 1 7 (a_up (a_up (fn_44 7 H).2 119 1 0) 7 5 (G 134 6))) 1 6, fn_3 13 (fn_10 1 7 (a_up (a_up (fn_44 7 H).2 119 1 0) 7 5 (G 134 6)))) := by
      simp only [fn_59, a_bd]
      rw [if_pos p0, y5]
    have s7 : a_sm (a_up (a_up (fn_44 7 H).2 119 1 0) 7 5 (G 134 6)) 7 ((fn_141 G).2 134) := by
      have u : ∀ a b, ¬ (a = 7 ∧ b = 5) → ¬ a = 119 → a_up (a_up (fn_44 7 H).2 119 1 0) 7 5 (G 134 6) a b = (fn_44 7 H).2 a b := fun a b q1 q2 => by rw [a_up_ne q1, a_up_ne (by omega)]
      refine ⟨by rw [u _ _ (by omega) (by omega)]; exact k5, by rw [u _ _ (by omega) (by omega)]; exact k6, by rw [u _ _ (by omega) (by omega)]; exact k7, by rw [u _ _ (by omega) (by omega)]; exact k8, by rw [u _ _ (by omega) (by omega)]; exact k9, by rw [a_up_eq]; exact kd.symm, by rw [u _ _ (by omega) (by omega), k3, k4], fun i i0 i1 => ?_⟩
      rw [u _ _ (by omega) (by omega), u _ _ (by omega) (by omega), u _ _ (by omega) (by omega), u _ _ (by omega) (by omega), u _ _ (by omega) (by omega)]
      exact kA i i0 (by rw [← k4]; exact i1)
    have s1 : a_sm (fn_10 1 7 (a_up (a_up (fn_44 7 H).2 119 1 0) 7 5 (G 134 6))) 1 ((fn_141 G).2 134) := fl_like s7 kO.1.2 (by omega)
    have d1 : ∀ a b, ¬ (1 ≤ a ∧ a ≤ 12) → ¬ a = 119 → ¬ (a = 13 ∧ b = 2) → fn_3 13 (fn_10 1 7 (a_up (a_up (fn_44 7 H).2 119 1 0) 7 5 (G 134 6))) a b = H a b := fun a b q1 q2 q3 => by
      show a_up (fn_10 1 7 (a_up (a_up (fn_44 7 H).2 119 1 0) 7 5 (G 134 6))) 13 2 0 a b = _
      rw [a_up_ne q3, fr_10 1 7 _ a b (by unfold w_10; omega), a_up_ne (by omega), a_up_ne (by omega), c1 a b q2 (by omega)]
    have s3 : a_sm (fn_3 13 (fn_10 1 7 (a_up (a_up (fn_44 7 H).2 119 1 0) 7 5 (G 134 6)))) 1 ((fn_141 G).2 134) := a_sm_fr s1 (fun a b q1 q2 => a_up_ne (by omega))
    have l0 : fn_3 13 (fn_10 1 7 (a_up (a_up (fn_44 7 H).2 119 1 0) 7 5 (G 134 6))) 119 1 = 0 := by
      show a_up (fn_10 1 7 (a_up (a_up (fn_44 7 H).2 119 1 0) 7 5 (G 134 6))) 13 2 0 119 1 = _
      rw [a_up_ne (by omega), fr_10 1 7 _ 119 1 (by unfold w_10; omega), a_up_ne (by omega), a_up_eq]
    rw [e]
    refine ⟨⟨⟨s3, kO⟩, ?_, a_im_fr g3 (d1 0 5 (by omega) (by omega) (by omega)) (fun a b q1 q2 => d1 a b (by omega) (by omega) (by omega)) (kF 133 17 (by omega) (by omega) (by omega)) (fun b => kF 140 b (by omega) (by omega) (by omega)) (fun b => kF 141 b (by omega) (by omega) (by omega)), ?_⟩, ?_⟩
    · show a_pr (fn_3 13 (fn_10 1 7 (a_up (a_up (fn_44 7 H).2 119 1 0) 7 5 (G 134 6)))) 13 ((fn_141 G).2 133 7) (a_mr (fn_141 G).2 137)
      rw [ku]
      have u2 : a_up (fn_10 1 7 (a_up (a_up (fn_44 7 H).2 119 1 0) 7 5 (G 134 6))) 13 2 0 13 2 = 0 := a_up_eq
      exact ⟨u2, by omega, by rw [d1 13 1 (by omega) (by omega) (by omega)]; exact g2.2.2.1, fun j q0 q1 => absurd q1 (by omega)⟩
    · exact ⟨by rw [kt]; exact l0, by rw [kt]; omega, fun i i0 i1 => absurd i1 (by rw [kt]; omega)⟩
    · show fn_3 13 (fn_10 1 7 (a_up (a_up (fn_44 7 H).2 119 1 0) 7 5 (G 134 6))) 1 6 = (fn_141 G).1
      rw [s3.2.2.2.2.2.2.1, k4]

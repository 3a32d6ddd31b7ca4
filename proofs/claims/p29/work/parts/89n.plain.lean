/-! PEOPLE, read by both -/
theorem a_lp2x {σ τ α β : Type} {Q : α → β → Prop} {z1 : σ → α} {b1 : σ → (σ → α) → α} {z2 : τ → β} {b2 : τ → (τ → β) → β} (P : Nat → σ → τ → Prop) (E : τ → β → Prop) (hE : ∀ t r, E t r → ∀ nx, b2 t nx = r) (n : Nat) (hn : n < 900000) (hb : ∀ i s t, i < n → P i s t → ∀ (n1 : σ → α) (n2 : τ → β), (∀ t' r, E t' r → n2 t' = r) → (∀ s' t', P (i + 1) s' t' → Q (n1 s') (n2 t')) → Q (b1 s n1) (b2 t n2)) (he : ∀ s t, ¬ P n s t) (s : σ) (t : τ) (h0 : P 0 s t) : Q (a_lp z1 b1 a_fuel s) (a_lp z2 b2 a_fuel t) := by
  have key : ∀ j i, i + j = n → ∀ m, j + 1 < m → ∀ s t, P i s t → Q (a_lp z1 b1 m s) (a_lp z2 b2 m t) := by
    intro j
    induction j with
    | zero =>
      intro i hi m hm s t hs
      have : i = n := by omega
      subst this
      exact absurd hs (he s t)
    | succ j ih =>
      intro i hi m hm s t hs
      obtain ⟨m, rfl⟩ : ∃ m', m = m' + 1 := ⟨m - 1, by omega⟩
      refine hb i s t (by omega) hs _ _ (fun t' r hr => ?_) (fun s' t' hs' => ih (i + 1) (by omega) m (by omega) s' t' hs')
      obtain ⟨k, rfl⟩ : ∃ k, m = k + 1 := ⟨m - 1, by omega⟩
      exact hE t' r hr _
  exact key n 0 (by omega) a_fuel (by rw [a_fuel_eq]; omega) s t h0
def a_Qpp (K : Int → Int) (t : Int → Int) (L g : Int) (X : a_P) (r : a_F) : Prop := (∃ p m, 1 ≤ r.1 ∧ r.1 ≤ 8 ∧ a_J K X r.2 t L p m r.1 g) ∨ (r.1 = -1 ∧ a_Bd X r.2 t L) ∨ (0 ≤ r.1 ∧ a_Bs X r.2 t L)
theorem a_J_fr {K : Int → Int} {H G H' G' : a_P} {t : Int → Int} {L p m p' m' n g : Int} (J : a_J K H G t L p m n g) (hH : ∀ a b, ¬ a = 119 → H' a b = H a b) (hG : ∀ a b, ¬ (a = 133 ∧ b = 3) → G' a b = G a b) (tv : a_tv H' t L p' 0) (mv : m_tv G' t L m') (e : r_q t L m' = r_q t L p') (bp : 0 ≤ p' ∧ p' ≤ L) (bm : 0 ≤ m' ∧ m' ≤ L) : a_J K H' G' t L p' m' n g := by
  obtain ⟨jK, hv, gv, em, b1, b2, j6, j0, j2, jb, jA⟩ := J
  refine ⟨by rw [hH 7 1 (by omega), hH 7 3 (by omega), hH 7 4 (by omega)]; exact jK, tv, mv, e, bp, bm, (hH 7 6 (by omega)).trans j6, (hH 7 0 (by omega)).trans j0, by rw [hH 7 2 (by omega), hG 133 5 (by omega)]; exact j2, ?_, fun i i0 i1 => ?_⟩
  · rw [hG 133 5 (by omega), hG 136 _ (by omega)]
    exact jb
  · obtain ⟨o1, o2⟩ := jA i i0 i1
    unfold a_rwr at o2 ⊢
    rw [hH (7 + 1) i (by omega), hH (7 + 2) i (by omega), hH (7 + 3) i (by omega), hH (7 + 4) i (by omega), hH (7 + 5) i (by omega), hG 136 (4 * i) (by omega), hG 136 (4 * i + 1) (by omega), hG 136 (4 * i + 2) (by omega), hG 136 (4 * i + 3) (by omega)]
    exact ⟨o1, o2⟩
theorem fl_people {K : Int → Int} {H G : a_P} {t : Int → Int} {L p m g : Int} (J : a_J K H G t L p m 0 g) (lo : a_lok t L) (h9 : L ≤ 90) : a_Qpp K t L g (fn_45 7 H) (fn_139 g G) := by
  simp only [fn_45, fn_139, a_jn, a_bd]
  refine a_lp2x (Q := a_Qpp K t L g) (fun k s u => k ≤ 7 ∧ s.1 = (k : Int) ∧ u.1 = (k : Int) ∧ u.2.1 = 1 ∧ ∃ p m, a_J K s.2 u.2.2 t L p m (k : Int) g) (fun u r => u.2.1 = 0 ∧ r = (u.1, u.2.2)) (fun u r hr nx => ?_) 8 (by omega) (fun k s u hk hP n1 n2 hx hn => ?_) (fun s u hP => absurd hP.1 (by omega)) (0, H) (0, 1, G) ⟨by omega, rfl, rfl, rfl, p, m, J⟩
  · rw [if_pos hr.1, hr.2]
  · obtain ⟨k7, q1, q2, q3, p', m', J'⟩ := hP
    have per := fl_person J' lo h9 (by omega) (by omega)
    have e4 : a_w (4 * (k : Int)) = 4 * (k : Int) := a_w_id (by omega) (by omega)
    have e1 : a_w ((k : Int) + 1) = ((k + 1 : Nat) : Int) := by rw [a_w_id (by omega) (by omega)]; omega
    have g1 : s.1 < 8 := by rw [q1]; omega
    have g2 : ¬ u.2.1 = 0 := by rw [q3]; decide
    rw [if_pos g1, if_neg g2, q1, q2, e4, e1]
    clear e4 e1
    rcases per with ⟨r1, p2, m2, J2⟩ | ⟨r1, bd⟩ | ⟨r1, bs⟩
    · have f0 : fn_46 7 s.2 119 3 = 0 := J2.2.1.2.2.1
      have r1' : ¬ (fn_138 (4 * (k : Int)) g u.2.2).1 = 0 := by rw [r1]; decide
      rw [if_pos f0, if_neg r1']
      by_cases c7 : (k : Int) = 7
      · rw [if_pos c7, if_neg (show ¬ ((k + 1 : Nat) : Int) < 8 by omega), hx (((k + 1 : Nat) : Int), 0, _) (((k + 1 : Nat) : Int), _) ⟨rfl, rfl⟩]
        refine Or.inl ⟨p2, m2, by show 1 ≤ ((k + 1 : Nat) : Int); omega, by show ((k + 1 : Nat) : Int) ≤ 8; omega, ?_⟩
        show a_J K _ _ t L p2 m2 ((k + 1 : Nat) : Int) g
        rw [show ((k + 1 : Nat) : Int) = (k : Int) + 1 by omega]
        exact J2
      · rw [if_neg c7, if_pos (show ((k + 1 : Nat) : Int) < 8 by omega)]
        obtain ⟨jK, hv, gv, em, ⟨bp0, bpL⟩, ⟨bm0, bmL⟩, -⟩ := id J2
        have hq := r_q_ok (t := t) bpL
        have hqL := hq.2.1
        have hq1 := hq.1
        obtain ⟨X, ex, fx, tx⟩ := e_skips (x := 44) hv h9 bp0 bpL
        obtain ⟨Y, ey, fy, ty⟩ := e_has (x := 44) gv h9 bm0 bmL
        rw [em] at ey ty
        rw [ex, ey]
        by_cases c : r_ch t L (r_q t L p2) = 44
        · have ltq : r_q t L p2 < L := r_ch_n lo (by omega) (by omega)
          rw [if_pos c] at tx ty
          simp only [if_pos c]
          rw [if_neg (show ¬ (1 : Int) = 0 by decide), if_neg (show ¬ (1 : Int) = 0 by decide)]
          refine hn (((k + 1 : Nat) : Int), X) (((k + 1 : Nat) : Int), 1, Y) ⟨by omega, rfl, rfl, rfl, r_q t L p2 + 1, r_q t L p2 + 1, ?_⟩
          show a_J K X Y t L _ _ ((k + 1 : Nat) : Int) g
          rw [show ((k + 1 : Nat) : Int) = (k : Int) + 1 by omega]
          exact a_J_fr J2 fx fy tx ty rfl ⟨by omega, by omega⟩ ⟨by omega, by omega⟩
        · rw [if_neg c] at tx ty
          simp only [if_neg c]
          rw [if_pos trivial, if_pos trivial, hx (((k + 1 : Nat) : Int), 0, Y) (((k + 1 : Nat) : Int), Y) ⟨rfl, rfl⟩]
          refine Or.inl ⟨r_q t L p2, r_q t L p2, by show 1 ≤ ((k + 1 : Nat) : Int); omega, by show ((k + 1 : Nat) : Int) ≤ 8; omega, ?_⟩
          show a_J K X Y t L _ _ ((k + 1 : Nat) : Int) g
          rw [show ((k + 1 : Nat) : Int) = (k : Int) + 1 by omega]
          exact a_J_fr J2 fx fy tx ty rfl ⟨by omega, hqL⟩ ⟨by omega, hqL⟩
    · obtain ⟨q, pp, mm, z1, z2, z3, z4, z5⟩ := id bd
      have hqm := r_q_ok (t := t) z4.2
      have f0 : ¬ fn_46 7 s.2 119 3 = 0 := by rw [z1.2.2.1]; have := hqm.1; omega
      rw [if_neg f0, if_pos r1]
      exact Or.inr (Or.inl ⟨rfl, bd⟩)
    · obtain ⟨q, pp, mm, z1, z2, z3, z4, z5, z6⟩ := id bs
      have hqm := r_q_ok (t := t) z4.2
      have f0 : ¬ fn_46 7 s.2 119 3 = 0 := by rw [z1.2.2.1]; have := hqm.1; omega
      have r1' : ¬ (fn_138 (4 * (k : Int)) g u.2.2).1 = 0 := by rw [r1]; decide
      rw [if_neg f0, if_neg r1']
      by_cases c7 : ((k + 1 : Nat) : Int) < 8
      · rw [if_pos c7]
        obtain ⟨Y, ey, fy, ty⟩ := e_has (x := 44) z2 h9 z4.1 z4.2
        rw [z5] at ey ty
        have c : ¬ r_ch t L q = 44 := by rw [z6]; decide
        rw [if_neg c] at ty
        rw [ey]
        simp only [if_neg c]
        rw [if_pos trivial, hx (((k + 1 : Nat) : Int), 0, Y) (((k + 1 : Nat) : Int), Y) ⟨rfl, rfl⟩]
        have e5 : r_q t L q = q := by rw [← z5]; exact r_q_id z4.2
        exact Or.inr (Or.inr ⟨by show 0 ≤ ((k + 1 : Nat) : Int); omega, q, pp, q, z1, ty, z3, ⟨by have := hqm.1; omega, by have := hqm.2.1; omega⟩, e5, z6⟩)
      · rw [if_neg c7, hx (((k + 1 : Nat) : Int), 0, _) (((k + 1 : Nat) : Int), _) ⟨rfl, rfl⟩]
        exact Or.inr (Or.inr ⟨by show 0 ≤ ((k + 1 : Nat) : Int); omega, bs⟩)

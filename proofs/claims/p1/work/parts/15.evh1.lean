def h_subr : List p_C → List p_C → Bool
  | [], _ => true
  | (t, n, a, b) :: l, (u, m, c, d) :: r => (Nat.beq t 99 || (Nat.beq t u && Nat.beq n m && p_eq a c && p_eq b d)) && h_subr l r
  | _ :: _, [] => false
def h_sub : p_H → p_H → Bool
  | [], _ => true
  | a :: l, b :: m => h_subr a b && h_sub l m
  | _ :: _, [] => false
theorem h_subr_ok : ∀ {l r : List p_C}, h_subr l r = true → ∀ (i : Nat) (c : p_C), l[i]? = some c → c.1 < 15 → r[i]? = some c
  | [], _, _, i, c, h, _ => by simp at h
  | (t, n, a, b) :: l, (u, m, e, d) :: r, hb, i, c, h, hc => by
    rw [h_subr, Bool.and_eq_true] at hb
    cases i with
    | zero =>
      simp at h
      subst h
      have h1 := hb.1
      rw [Bool.or_eq_true] at h1
      rcases h1 with h1 | h1
      · have h1 : t = 99 := Nat.eq_of_beq_eq_true h1
        subst h1
        have hc : (99 : Nat) < 15 := hc
        omega
      · simp only [Bool.and_eq_true] at h1
        obtain ⟨⟨⟨h1, h2⟩, h3⟩, h4⟩ := h1
        rw [Nat.eq_of_beq_eq_true h1, Nat.eq_of_beq_eq_true h2, p_eq_ok h3, p_eq_ok h4]
        simp
    | succ i =>
      rw [List.getElem?_cons_succ] at h ⊢
      exact h_subr_ok hb.2 i c h hc
  | (_, _, _, _) :: _, [], hb, _, _, _, _ => by cases hb
theorem h_sub_ok : ∀ {l r : p_H}, h_sub l r = true → ∀ (i : Nat) (row : List p_C), l[i]? = some row → ∃ row', r[i]? = some row' ∧ h_subr row row' = true
  | [], _, _, i, c, h => by simp at h
  | a :: l, b :: r, hb, i, c, h => by
    rw [h_sub, Bool.and_eq_true] at hb
    cases i with
    | zero =>
      simp at h
      subst h
      exact ⟨b, by simp, hb.1⟩
    | succ i =>
      rw [List.getElem?_cons_succ] at h
      obtain ⟨row', h1, h2⟩ := h_sub_ok hb.2 i c h
      exact ⟨row', by rw [List.getElem?_cons_succ]; exact h1, h2⟩
  | _ :: _, [], hb, _, _, _ => by cases hb
theorem r_sub {hp : q_H} {ph ph0 : p_H} (hs : h_sub ph0 ph = true) (hh : r_h hp ph) : r_h hp ph0 := by
  refine ⟨hh.1, hh.2.1, fun h c hc ht => hh.2.2 h c ?_ ht⟩
  rw [p_cell_eq] at hc ⊢
  obtain ⟨row, h1, h2⟩ := q_ob_some hc
  obtain ⟨row', h3, h4⟩ := h_sub_ok hs _ _ h1
  rw [q_obs h3]
  exact h_subr_ok h4 _ _ h2 ht
noncomputable def h_cls (k1 : Nat) (ph0 : p_H) (n : Int) : Bool := match q_irun 8 k1 [(2, 0, 0), (0, n, n)] q_pk0 with
  | some (some (0, a, b), ph) => i_beq a 0 && i_beq b 0 && (match p_tag ph 133 with
      | some t => Nat.beq t 6
      | none => false) && h_sub ph0 ph
  | _ => false
theorem h_all {k1 k2 F : Nat} {r1 : List (Option q_IV)} {ph0 : p_H} (hk1 : k1 < q_nm) (hk2 : k2 < q_nm) (hmx : Nat.ble 2 (q_I k2).1 = true) (hF : F ≤ 900000) (hc : h_cl k2 33 F (some (2, 133, 133) :: some (0, 0, 40) :: r1) ph0) (h0 : ∀ i : Nat, i < 40 → h_cls k1 ph0 (Int.ofNat (i + 1)) = true) (h2 : h_is (q_stepsS (h_S 33 (some (2, 133, 133) :: some (0, 1, 40) :: r1) ph0) (q_I k2).2 h_cal 7 100 0 (q_fill (q_I k2).1 [some (2, 133, 133), some (0, 1, 40)]) [] ph0) = true) (h3 : e_chk k1 k2 [] [(0, -2147483648, 0)] = true) (h4 : e_chk k1 k2 [] [(0, 41, 2147483647)] = true) (z : Int32) : e_same k1 k2 [.int z] := by
  have z1 := Int32.le_toInt z
  have z2 := Int32.toInt_lt z
  by_cases c1 : z.toInt ≤ 0
  · exact e_chk_ok (vs := [.int z]) (ms := []) hk1 hk2 h3 ⟨⟨rfl, by show (-2147483648 : Int) ≤ z.toInt; omega, c1⟩, trivial⟩ trivial
  · by_cases c2 : 41 ≤ z.toInt
    · exact e_chk_ok (vs := [.int z]) (ms := []) hk1 hk2 h4 ⟨⟨rfl, c2, by show z.toInt ≤ (2147483647 : Int); omega⟩, trivial⟩ trivial
    · have h1 := h0 (z.toInt.toNat - 1) (by omega)
      have en : Int.ofNat (z.toInt.toNat - 1 + 1) = z.toInt := by show ((z.toInt.toNat - 1 + 1 : Nat) : Int) = z.toInt; omega
      rw [en] at h1
      unfold h_cls at h1
      split at h1
      · rename_i a b ph heq
        simp only [Bool.and_eq_true, i_beq_iff] at h1
        obtain ⟨⟨⟨rfl, rfl⟩, ht⟩, hs⟩ := h1
        have hv : r_v (.int z) (0, 1, 40) := ⟨rfl, by show (1 : Int) ≤ z.toInt; omega, by show z.toInt ≤ (40 : Int); omega⟩
        obtain ⟨r, e1, e2⟩ := r_run 1000000 8 k1 [.ref 0, .int z] _ q_hp0 q_pk0 _ heq hk1 ⟨⟨rfl, rfl⟩, ⟨rfl, Int.le_refl _, Int.le_refl _⟩, trivial⟩ q_r0
        obtain ⟨x, e3, e4⟩ := r_one e2 rfl
        have hcw : h_cl k2 33 F (some (2, 133, 133) :: some (0, 1, 40) :: r1) ph0 := fun nC hn lo' hp ho hh => by
          refine hc nC hn lo' hp ?_ hh
          match lo', ho with
          | b :: some v :: l, ho =>
            obtain ⟨x, rfl, x1, x2⟩ := r_int (show r_v v (0, 1, 40) from ho.2.1)
            exact ⟨ho.1, ⟨rfl, by show (0 : Int) ≤ x.toInt; omega, x2⟩, ho.2.2⟩
          | b :: none :: l, ho => cases ho.2.1
          | [_], ho => cases ho.2
          | [], ho => cases ho
        have hl : r_o (q_fill (q_I k2).1 (q_ent q_ty [.ref 133, .int z])) (q_fill (q_I k2).1 [some (2, 133, 133), some (0, 1, 40)]) := r_fill _ ⟨⟨rfl, rfl⟩, hv, trivial⟩
        obtain ⟨r', e5, e6⟩ := h_next (nC := 1000000) hk2 hcw h2 (by omega) hl (r_sub hs e2.2)
        obtain ⟨x', e7, e8⟩ := r_one (show r_r r' (some (0, 0, 0), []) from e6) rfl
        have e9 : x = x' := Int32.toInt_inj.mp (by omega)
        subst e9
        refine ⟨x, r.2, r'.2, by rw [e1]; obtain ⟨o, hp⟩ := r; cases e3; rfl, ?_, e2.2.1, e2.2.2.1, e6.2.1, e6.2.2.1, ?_⟩
        · rw [q_run_succ]
          show q_gd (Nat.ble 2 (q_I k2).1) _ = _
          rw [q_gds hmx, q_frc_eq]
          show q_steps q_CO (q_I k2).2 (q_run q_CO q_I 1000000 7) 7 1000000 0 (q_fill (q_I k2).1 (q_ent q_ty [.ref 133, .int z])) [] r.2 = _
          rw [e5]
          obtain ⟨o, hp⟩ := r'
          cases e7
          rfl
        · cases ht2 : p_tag ph 133 with
          | none => rw [ht2] at ht; cases ht
          | some t =>
            rw [ht2] at ht
            have ht : t = 6 := Nat.eq_of_beq_eq_true ht
            subst ht
            exact r_tag e2.2 ht2
      · cases h1

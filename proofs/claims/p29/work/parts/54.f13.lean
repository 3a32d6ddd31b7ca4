/-- CarriedGateModel.undo()I -/
noncomputable def fn_151 (H : a_P) : a_F :=
  (if (H 133 7) = 0 then ((-4), H)
  else a_bd (a_up H 133 7 (a_w ((H 133 7) - 1))) fun H1 =>
  a_lp (fun (s1 : Int × a_P) => (0, s1.2)) (fun (s1 : Int × a_P) n22 => (if s1.1 < 47 then a_bd (a_up s1.2 134 s1.1 (s1.2 137 (a_w ((a_w (47 * (s1.2 133 7))) + s1.1)))) fun H2 =>
  a_bd (a_w (s1.1 + 1)) fun x1 =>
  n22 (x1, H2)
  else (s1.2 133 7, s1.2))) a_fuel (0, H1))
theorem ti_151_0 : (q_I 151).2 0 = some (0, 4, 0, 0, 2, 1, []) := rfl
theorem ti_151_1 : (q_I 151).2 1 = some (1, 0, 101, 6, 7, 4, [802]) := rfl
theorem ti_151_4 : (q_I 151).2 4 = some (8, 1, 0, 10, 0, 7, []) := rfl
theorem ti_151_7 : (q_I 151).2 7 = some (2, 1, (-4), 0, 0, 9, []) := rfl
theorem ti_151_9 : (q_I 151).2 9 = some (4, 0, 0, 0, 0, 10, []) := rfl
theorem ti_151_10 : (q_I 151).2 10 = some (0, 4, 0, 0, 2, 11, []) := rfl
theorem ti_151_11 : (q_I 151).2 11 = some (16, 0, 0, 0, 0, 12, []) := rfl
theorem ti_151_12 : (q_I 151).2 12 = some (1, 0, 101, 6, 7, 15, [802]) := rfl
theorem ti_151_15 : (q_I 151).2 15 = some (2, 0, 1, 0, 0, 16, []) := rfl
theorem ti_151_16 : (q_I 151).2 16 = some (6, 1, 0, 0, 0, 17, []) := rfl
theorem ti_151_17 : (q_I 151).2 17 = some (10, 0, 101, 6, 7, 20, [802]) := rfl
theorem ti_151_20 : (q_I 151).2 20 = some (2, 0, 0, 0, 0, 21, []) := rfl
theorem ti_151_21 : (q_I 151).2 21 = some (11, 0, 0, 1, 0, 22, []) := rfl
theorem ti_151_22 : (q_I 151).2 22 = some (0, 0, 0, 1, 0, 23, []) := rfl
theorem ti_151_23 : (q_I 151).2 23 = some (2, 1, 47, 0, 0, 25, []) := rfl
theorem ti_151_25 : (q_I 151).2 25 = some (9, 3, 0, 54, 0, 28, []) := rfl
theorem ti_151_28 : (q_I 151).2 28 = some (0, 4, 0, 0, 2, 29, []) := rfl
theorem ti_151_29 : (q_I 151).2 29 = some (1, 0, 7, 6, 0, 32, [795]) := rfl
theorem ti_151_32 : (q_I 151).2 32 = some (0, 0, 0, 1, 0, 33, []) := rfl
theorem ti_151_33 : (q_I 151).2 33 = some (0, 4, 0, 0, 2, 34, []) := rfl
theorem ti_151_34 : (q_I 151).2 34 = some (1, 0, 19, 6, 6, 37, [801]) := rfl
theorem ti_151_37 : (q_I 151).2 37 = some (2, 1, 47, 0, 0, 39, []) := rfl
theorem ti_151_39 : (q_I 151).2 39 = some (0, 4, 0, 0, 2, 40, []) := rfl
theorem ti_151_40 : (q_I 151).2 40 = some (1, 0, 101, 6, 7, 43, [802]) := rfl
theorem ti_151_43 : (q_I 151).2 43 = some (6, 2, 0, 0, 0, 44, []) := rfl
theorem ti_151_44 : (q_I 151).2 44 = some (0, 0, 0, 1, 0, 45, []) := rfl
theorem ti_151_45 : (q_I 151).2 45 = some (6, 0, 0, 0, 0, 46, []) := rfl
theorem ti_151_46 : (q_I 151).2 46 = some (5, 10, 0, 0, 0, 47, []) := rfl
theorem ti_151_47 : (q_I 151).2 47 = some (12, 10, 0, 0, 0, 48, []) := rfl
theorem ti_151_48 : (q_I 151).2 48 = some (13, 0, 1, 1, 0, 51, []) := rfl
theorem ti_151_51 : (q_I 151).2 51 = some (7, 0, 0, 22, 0, 54, []) := rfl
theorem ti_151_54 : (q_I 151).2 54 = some (0, 4, 0, 0, 2, 55, []) := rfl
theorem ti_151_55 : (q_I 151).2 55 = some (1, 0, 101, 6, 7, 58, [802]) := rfl
theorem ti_151_58 : (q_I 151).2 58 = some (4, 0, 0, 0, 0, 59, []) := rfl
theorem mt_151 (H : a_P) : a_mt id 0 151 [(2, 133)] H (fn_151 H) := by
  refine a_mtI (lo := [some (2, 133), none]) rfl fun d => ?_
  unfold fn_151
  refine a_w0 (Nat.le_succ _) ti_151_0 rfl ?_
  refine a_w1 (a := (0, H 133 7)) (Nat.le_succ _) ti_151_1 rfl ?_
  refine a_w8_1 (Nat.le_succ _) ti_151_4 ?_ ?_
  · refine a_w0 (Nat.le_succ _) ti_151_10 rfl ?_
    refine a_w16 (Nat.le_succ _) ti_151_11 ?_
    refine a_w1 (a := (0, H 133 7)) (Nat.le_succ _) ti_151_12 rfl ?_
    refine a_w2 (z := 1) (Nat.le_succ _) ti_151_15 (by decide) ?_
    refine a_w6 (a := (0, a_w ((H 133 7) - 1))) (Nat.le_succ _) ti_151_16 rfl ?_
    refine a_w10 (Nat.le_succ _) ti_151_17 rfl rfl rfl (fun H1 => ?_)
    refine a_w2 (z := 0) (Nat.le_succ _) ti_151_20 (by decide) ?_
    refine a_w11 (lo' := [some (2, 133), some (0, 0)]) (Nat.le_succ _) ti_151_21 rfl ?_
    refine a_wk (a_wlp (fun (s : Int × a_P) => [some (2, 133), some (0, s.1)]) (fun (s : Int × a_P) => s.2) (fun N1 hN1 n22 hn22 s1 => ?_) a_fuel (a_fuel_le (by omega)) (0, H1)) (Nat.le_refl _) ⟨rfl, rfl, trivial⟩
    · refine a_w0 (Nat.le_refl _) ti_151_22 rfl ?_
      refine a_w2 (z := 47) (Nat.le_succ _) ti_151_23 (by decide) ?_
      refine a_w9_3 (Nat.le_succ _) ti_151_25 ?_ ?_
      · refine a_w0 (Nat.le_succ _) ti_151_54 rfl ?_
        refine a_w1 (a := (0, s1.2 133 7)) (Nat.le_succ _) ti_151_55 rfl ?_
        exact a_w4 (Nat.le_succ _) ti_151_58 rfl rfl rfl
      · refine a_w0 (Nat.le_succ _) ti_151_28 rfl ?_
        refine a_w1 (a := (2, 134)) (Nat.le_succ _) ti_151_29 rfl ?_
        refine a_w0 (Nat.le_succ _) ti_151_32 rfl ?_
        refine a_w0 (Nat.le_succ _) ti_151_33 rfl ?_
        refine a_w1 (a := (2, 137)) (Nat.le_succ _) ti_151_34 rfl ?_
        refine a_w2 (z := 47) (Nat.le_succ _) ti_151_37 (by decide) ?_
        refine a_w0 (Nat.le_succ _) ti_151_39 rfl ?_
        refine a_w1 (a := (0, s1.2 133 7)) (Nat.le_succ _) ti_151_40 rfl ?_
        refine a_w6 (a := (0, a_w (47 * (s1.2 133 7)))) (Nat.le_succ _) ti_151_43 rfl ?_
        refine a_w0 (Nat.le_succ _) ti_151_44 rfl ?_
        refine a_w6 (a := (0, a_w ((a_w (47 * (s1.2 133 7))) + s1.1))) (Nat.le_succ _) ti_151_45 rfl ?_
        refine a_w5 (kk := 0) (Nat.le_succ _) ti_151_46 (fun _ => rfl) ?_
        refine a_w12 (Nat.le_succ _) ti_151_47 (Or.inl ⟨rfl, rfl⟩) (fun H2 => ?_)
        refine a_w13 (c' := 1) (lof := fun x1 => [some (2, 133), some (0, x1)]) (Nat.le_succ _) ti_151_48 rfl (by decide) rfl (fun _ => rfl) (fun x1 => ?_)
        refine a_w7 (Nat.le_succ _) ti_151_51 ?_
        exact a_wk (hn22 (x1, H2)) (by omega) ⟨rfl, rfl, trivial⟩
  · refine a_w2 (z := (-4)) (Nat.le_succ _) ti_151_7 (by decide) ?_
    exact a_w4 (Nat.le_succ _) ti_151_9 rfl rfl rfl
/-- CarriedGateModel.seed(I)I -/
noncomputable def fn_152 (a1 : Int) (H : a_P) : a_F :=
  (if a1 < 0 then ((-1), H)
  else a_bd (H 134 6) fun x1 =>
  a_bd (a_up H 134 6 a1) fun H1 =>
  (x1, H1))
theorem ti_152_0 : (q_I 152).2 0 = some (0, 0, 0, 1, 0, 1, []) := rfl
theorem ti_152_1 : (q_I 152).2 1 = some (8, 3, 0, 6, 0, 4, []) := rfl
theorem ti_152_4 : (q_I 152).2 4 = some (2, 0, (-1), 0, 0, 5, []) := rfl
theorem ti_152_5 : (q_I 152).2 5 = some (4, 0, 0, 0, 0, 6, []) := rfl
theorem ti_152_6 : (q_I 152).2 6 = some (0, 4, 0, 0, 2, 7, []) := rfl
theorem ti_152_7 : (q_I 152).2 7 = some (1, 0, 7, 6, 0, 10, [795]) := rfl
theorem ti_152_10 : (q_I 152).2 10 = some (2, 1, 6, 0, 0, 12, []) := rfl
theorem ti_152_12 : (q_I 152).2 12 = some (5, 10, 0, 0, 0, 13, []) := rfl
theorem ti_152_13 : (q_I 152).2 13 = some (11, 0, 0, 2, 0, 14, []) := rfl
theorem ti_152_14 : (q_I 152).2 14 = some (0, 4, 0, 0, 2, 15, []) := rfl
theorem ti_152_15 : (q_I 152).2 15 = some (1, 0, 7, 6, 0, 18, [795]) := rfl
theorem ti_152_18 : (q_I 152).2 18 = some (2, 1, 6, 0, 0, 20, []) := rfl
theorem ti_152_20 : (q_I 152).2 20 = some (0, 0, 0, 1, 0, 21, []) := rfl
theorem ti_152_21 : (q_I 152).2 21 = some (12, 10, 0, 0, 0, 22, []) := rfl
theorem ti_152_22 : (q_I 152).2 22 = some (0, 0, 0, 2, 0, 23, []) := rfl
theorem ti_152_23 : (q_I 152).2 23 = some (4, 0, 0, 0, 0, 24, []) := rfl
theorem mt_152 (a1 : Int) (H : a_P) : a_mt id 0 152 [(2, 133), (0, a1)] H (fn_152 a1 H) := by
  refine a_mtI (lo := [some (2, 133), some (0, a1), none]) rfl fun d => ?_
  unfold fn_152
  refine a_w0 (Nat.le_succ _) ti_152_0 rfl ?_
  refine a_w8_3 (Nat.le_succ _) ti_152_1 ?_ ?_
  · refine a_w0 (Nat.le_succ _) ti_152_6 rfl ?_
    refine a_w1 (a := (2, 134)) (Nat.le_succ _) ti_152_7 rfl ?_
    refine a_w2 (z := 6) (Nat.le_succ _) ti_152_10 (by decide) ?_
    refine a_w5 (kk := 0) (Nat.le_succ _) ti_152_12 (fun _ => rfl) ?_
    refine a_w11b (lof := fun x1 => [some (2, 133), some (0, a1), some (0, x1)]) (Nat.le_succ _) ti_152_13 (fun _ => rfl) (fun x1 => ?_)
    refine a_w0 (Nat.le_succ _) ti_152_14 rfl ?_
    refine a_w1 (a := (2, 134)) (Nat.le_succ _) ti_152_15 rfl ?_
    refine a_w2 (z := 6) (Nat.le_succ _) ti_152_18 (by decide) ?_
    refine a_w0 (Nat.le_succ _) ti_152_20 rfl ?_
    refine a_w12 (Nat.le_succ _) ti_152_21 (Or.inl ⟨rfl, rfl⟩) (fun H1 => ?_)
    refine a_w0 (Nat.le_succ _) ti_152_22 rfl ?_
    exact a_w4 (Nat.le_succ _) ti_152_23 rfl rfl rfl
  · refine a_w2 (z := (-1)) (Nat.le_succ _) ti_152_4 (by decide) ?_
    exact a_w4 (Nat.le_succ _) ti_152_5 rfl rfl rfl
/-- CarriedGateModel.asides()V -/
noncomputable def fn_153 (H : a_P) : a_P :=
  a_lp (fun (s1 : Int × a_P) => s1.2) (fun (s1 : Int × a_P) n2 => (if s1.1 < 47 then a_bd (a_up s1.2 138 s1.1 (s1.2 134 s1.1)) fun H1 =>
  a_bd (a_w (s1.1 + 1)) fun x1 =>
  n2 (x1, H1)
  else s1.2)) a_fuel (0, H)
theorem ti_153_0 : (q_I 153).2 0 = some (2, 0, 0, 0, 0, 1, []) := rfl
theorem ti_153_1 : (q_I 153).2 1 = some (11, 0, 0, 1, 0, 2, []) := rfl
theorem ti_153_2 : (q_I 153).2 2 = some (0, 0, 0, 1, 0, 3, []) := rfl
theorem ti_153_3 : (q_I 153).2 3 = some (2, 1, 47, 0, 0, 5, []) := rfl
theorem ti_153_5 : (q_I 153).2 5 = some (9, 3, 0, 26, 0, 8, []) := rfl
theorem ti_153_8 : (q_I 153).2 8 = some (0, 4, 0, 0, 2, 9, []) := rfl
theorem ti_153_9 : (q_I 153).2 9 = some (1, 0, 22, 6, 8, 12, [803]) := rfl
theorem ti_153_12 : (q_I 153).2 12 = some (0, 0, 0, 1, 0, 13, []) := rfl
theorem ti_153_13 : (q_I 153).2 13 = some (0, 4, 0, 0, 2, 14, []) := rfl
theorem ti_153_14 : (q_I 153).2 14 = some (1, 0, 7, 6, 0, 17, [795]) := rfl
theorem ti_153_17 : (q_I 153).2 17 = some (0, 0, 0, 1, 0, 18, []) := rfl
theorem ti_153_18 : (q_I 153).2 18 = some (5, 10, 0, 0, 0, 19, []) := rfl
theorem ti_153_19 : (q_I 153).2 19 = some (12, 10, 0, 0, 0, 20, []) := rfl
theorem ti_153_20 : (q_I 153).2 20 = some (13, 0, 1, 1, 0, 23, []) := rfl
theorem ti_153_23 : (q_I 153).2 23 = some (7, 0, 0, 2, 0, 26, []) := rfl
theorem ti_153_26 : (q_I 153).2 26 = some (4, 4, 0, 0, 0, 27, []) := rfl
theorem mt_153 (H : a_P) : a_mt a_pv 9 153 [(2, 133)] H (fn_153 H) := by
  refine a_mtI (lo := [some (2, 133), none]) rfl fun d => ?_
  unfold fn_153
  refine a_w2 (z := 0) (Nat.le_succ _) ti_153_0 (by decide) ?_
  refine a_w11 (lo' := [some (2, 133), some (0, 0)]) (Nat.le_succ _) ti_153_1 rfl ?_
  refine a_wk (a_wlp (fun (s : Int × a_P) => [some (2, 133), some (0, s.1)]) (fun (s : Int × a_P) => s.2) (fun N1 hN1 n2 hn2 s1 => ?_) a_fuel (a_fuel_le (by omega)) (0, H)) (Nat.le_refl _) ⟨rfl, rfl, trivial⟩
  · refine a_w0 (Nat.le_refl _) ti_153_2 rfl ?_
    refine a_w2 (z := 47) (Nat.le_succ _) ti_153_3 (by decide) ?_
    refine a_w9_3 (Nat.le_succ _) ti_153_5 ?_ ?_
    · exact a_w4v (Nat.le_succ _) ti_153_26 rfl rfl
    · refine a_w0 (Nat.le_succ _) ti_153_8 rfl ?_
      refine a_w1 (a := (2, 138)) (Nat.le_succ _) ti_153_9 rfl ?_
      refine a_w0 (Nat.le_succ _) ti_153_12 rfl ?_
      refine a_w0 (Nat.le_succ _) ti_153_13 rfl ?_
      refine a_w1 (a := (2, 134)) (Nat.le_succ _) ti_153_14 rfl ?_
      refine a_w0 (Nat.le_succ _) ti_153_17 rfl ?_
      refine a_w5 (kk := 0) (Nat.le_succ _) ti_153_18 (fun _ => rfl) ?_
      refine a_w12 (Nat.le_succ _) ti_153_19 (Or.inl ⟨rfl, rfl⟩) (fun H1 => ?_)
      refine a_w13 (c' := 1) (lof := fun x1 => [some (2, 133), some (0, x1)]) (Nat.le_succ _) ti_153_20 rfl (by decide) rfl (fun _ => rfl) (fun x1 => ?_)
      refine a_w7 (Nat.le_succ _) ti_153_23 ?_
      exact a_wk (hn2 (x1, H1)) (by omega) ⟨rfl, rfl, trivial⟩
/-- CarriedGateModel.backs()V -/
noncomputable def fn_154 (H : a_P) : a_P :=
  a_lp (fun (s1 : Int × a_P) => s1.2) (fun (s1 : Int × a_P) n2 => (if s1.1 < 47 then a_bd (a_up s1.2 134 s1.1 (s1.2 138 s1.1)) fun H1 =>
  a_bd (a_w (s1.1 + 1)) fun x1 =>
  n2 (x1, H1)
  else s1.2)) a_fuel (0, H)
theorem ti_154_0 : (q_I 154).2 0 = some (2, 0, 0, 0, 0, 1, []) := rfl
theorem ti_154_1 : (q_I 154).2 1 = some (11, 0, 0, 1, 0, 2, []) := rfl
theorem ti_154_2 : (q_I 154).2 2 = some (0, 0, 0, 1, 0, 3, []) := rfl
theorem ti_154_3 : (q_I 154).2 3 = some (2, 1, 47, 0, 0, 5, []) := rfl
theorem ti_154_5 : (q_I 154).2 5 = some (9, 3, 0, 26, 0, 8, []) := rfl
theorem ti_154_8 : (q_I 154).2 8 = some (0, 4, 0, 0, 2, 9, []) := rfl
theorem ti_154_9 : (q_I 154).2 9 = some (1, 0, 7, 6, 0, 12, [795]) := rfl
theorem ti_154_12 : (q_I 154).2 12 = some (0, 0, 0, 1, 0, 13, []) := rfl
theorem ti_154_13 : (q_I 154).2 13 = some (0, 4, 0, 0, 2, 14, []) := rfl
theorem ti_154_14 : (q_I 154).2 14 = some (1, 0, 22, 6, 8, 17, [803]) := rfl
theorem ti_154_17 : (q_I 154).2 17 = some (0, 0, 0, 1, 0, 18, []) := rfl
theorem ti_154_18 : (q_I 154).2 18 = some (5, 10, 0, 0, 0, 19, []) := rfl
theorem ti_154_19 : (q_I 154).2 19 = some (12, 10, 0, 0, 0, 20, []) := rfl
theorem ti_154_20 : (q_I 154).2 20 = some (13, 0, 1, 1, 0, 23, []) := rfl
theorem ti_154_23 : (q_I 154).2 23 = some (7, 0, 0, 2, 0, 26, []) := rfl
theorem ti_154_26 : (q_I 154).2 26 = some (4, 4, 0, 0, 0, 27, []) := rfl
theorem mt_154 (H : a_P) : a_mt a_pv 9 154 [(2, 133)] H (fn_154 H) := by
  refine a_mtI (lo := [some (2, 133), none]) rfl fun d => ?_
  unfold fn_154
  refine a_w2 (z := 0) (Nat.le_succ _) ti_154_0 (by decide) ?_
  refine a_w11 (lo' := [some (2, 133), some (0, 0)]) (Nat.le_succ _) ti_154_1 rfl ?_
  refine a_wk (a_wlp (fun (s : Int × a_P) => [some (2, 133), some (0, s.1)]) (fun (s : Int × a_P) => s.2) (fun N1 hN1 n2 hn2 s1 => ?_) a_fuel (a_fuel_le (by omega)) (0, H)) (Nat.le_refl _) ⟨rfl, rfl, trivial⟩
  · refine a_w0 (Nat.le_refl _) ti_154_2 rfl ?_
    refine a_w2 (z := 47) (Nat.le_succ _) ti_154_3 (by decide) ?_
    refine a_w9_3 (Nat.le_succ _) ti_154_5 ?_ ?_
    · exact a_w4v (Nat.le_succ _) ti_154_26 rfl rfl
    · refine a_w0 (Nat.le_succ _) ti_154_8 rfl ?_
      refine a_w1 (a := (2, 134)) (Nat.le_succ _) ti_154_9 rfl ?_
      refine a_w0 (Nat.le_succ _) ti_154_12 rfl ?_
      refine a_w0 (Nat.le_succ _) ti_154_13 rfl ?_
      refine a_w1 (a := (2, 138)) (Nat.le_succ _) ti_154_14 rfl ?_
      refine a_w0 (Nat.le_succ _) ti_154_17 rfl ?_
      refine a_w5 (kk := 0) (Nat.le_succ _) ti_154_18 (fun _ => rfl) ?_
      refine a_w12 (Nat.le_succ _) ti_154_19 (Or.inl ⟨rfl, rfl⟩) (fun H1 => ?_)
      refine a_w13 (c' := 1) (lof := fun x1 => [some (2, 133), some (0, x1)]) (Nat.le_succ _) ti_154_20 rfl (by decide) rfl (fun _ => rfl) (fun x1 => ?_)
      refine a_w7 (Nat.le_succ _) ti_154_23 ?_
      exact a_wk (hn2 (x1, H1)) (by omega) ⟨rfl, rfl, trivial⟩
/-- CarriedGateModel.goesOn(I)V -/
noncomputable def fn_155 (a1 : Int) (H : a_P) : a_P :=
  a_lp (fun (s1 : Int × a_P) => s1.2) (fun (s1 : Int × a_P) n2 => (if s1.1 < a1 then a_bd (fn_124 s1.2) fun H1 =>
  a_bd (a_w (s1.1 + 1)) fun x1 =>
  n2 (x1, H1)
  else s1.2)) a_fuel (0, H)
theorem ti_155_0 : (q_I 155).2 0 = some (2, 0, 0, 0, 0, 1, []) := rfl
theorem ti_155_1 : (q_I 155).2 1 = some (11, 0, 0, 2, 0, 2, []) := rfl
theorem ti_155_2 : (q_I 155).2 2 = some (0, 0, 0, 2, 0, 3, []) := rfl
theorem ti_155_3 : (q_I 155).2 3 = some (0, 0, 0, 1, 0, 4, []) := rfl
theorem ti_155_4 : (q_I 155).2 4 = some (9, 3, 0, 17, 0, 7, []) := rfl
theorem ti_155_7 : (q_I 155).2 7 = some (0, 4, 0, 0, 2, 8, []) := rfl
theorem ti_155_8 : (q_I 155).2 8 = some (3, 0, 173, 124, 1, 11, [983, 6]) := rfl
theorem ti_155_11 : (q_I 155).2 11 = some (13, 0, 1, 2, 0, 14, []) := rfl
theorem ti_155_14 : (q_I 155).2 14 = some (7, 0, 0, 2, 0, 17, []) := rfl
theorem ti_155_17 : (q_I 155).2 17 = some (4, 4, 0, 0, 0, 18, []) := rfl
theorem mt_155 (a1 : Int) (H : a_P) : a_mt a_pv 9 155 [(2, 133), (0, a1)] H (fn_155 a1 H) := by
  refine a_mtI (lo := [some (2, 133), some (0, a1), none]) rfl fun d => ?_
  unfold fn_155
  refine a_w2 (z := 0) (Nat.le_succ _) ti_155_0 (by decide) ?_
  refine a_w11 (lo' := [some (2, 133), some (0, a1), some (0, 0)]) (Nat.le_succ _) ti_155_1 rfl ?_
  refine a_wk (a_wlp (fun (s : Int × a_P) => [some (2, 133), some (0, a1), some (0, s.1)]) (fun (s : Int × a_P) => s.2) (fun N1 hN1 n2 hn2 s1 => ?_) a_fuel (a_fuel_le (by omega)) (0, H)) (Nat.le_refl _) ⟨rfl, rfl, rfl, trivial⟩
  · refine a_w0 (Nat.le_refl _) ti_155_2 rfl ?_
    refine a_w0 (Nat.le_succ _) ti_155_3 rfl ?_
    refine a_w9_3 (Nat.le_succ _) ti_155_4 ?_ ?_
    · exact a_w4v (Nat.le_succ _) ti_155_17 rfl rfl
    · refine a_w0 (Nat.le_succ _) ti_155_7 rfl ?_
      refine a_w3v (args := [(2, 133)]) (Nat.le_succ _) ti_155_8 (mt_124 s1.2) rfl rfl (fun H1 => ?_)
      refine a_w13 (c' := 1) (lof := fun x1 => [some (2, 133), some (0, a1), some (0, x1)]) (Nat.le_succ _) ti_155_11 rfl (by decide) rfl (fun _ => rfl) (fun x1 => ?_)
      refine a_w7 (Nat.le_succ _) ti_155_14 ?_
      exact a_wk (hn2 (x1, H1)) (by omega) ⟨rfl, rfl, rfl, trivial⟩
/-- CarriedGateModel.ahead(I)I -/
noncomputable def fn_156 (a1 : Int) (H : a_P) : a_F :=
  (if (fn_108 a1 0 40) = 0 then ((-1), H)
  else a_bd (fn_153 H) fun H1 =>
  a_bd (fn_155 a1 H1) fun H2 =>
  a_bd (fn_120 H2) fun x1 =>
  a_bd (fn_154 H2) fun H3 =>
  (x1, H3))
theorem ti_156_0 : (q_I 156).2 0 = some (0, 0, 0, 1, 0, 1, []) := rfl
theorem ti_156_1 : (q_I 156).2 1 = some (14, 4, 0, 0, 0, 2, []) := rfl
theorem ti_156_2 : (q_I 156).2 2 = some (15, 0, 0, 0, 0, 3, []) := rfl
theorem ti_156_3 : (q_I 156).2 3 = some (15, 1, 40, 168, 0, 6, [978]) := rfl
theorem ti_156_6 : (q_I 156).2 6 = some (3, 1, 51, 108, 3, 9, [867, 6]) := rfl
theorem ti_156_9 : (q_I 156).2 9 = some (8, 1, 0, 14, 0, 12, []) := rfl
theorem ti_156_12 : (q_I 156).2 12 = some (2, 0, (-1), 0, 0, 13, []) := rfl
theorem ti_156_13 : (q_I 156).2 13 = some (4, 0, 0, 0, 0, 14, []) := rfl
theorem ti_156_14 : (q_I 156).2 14 = some (0, 4, 0, 0, 2, 15, []) := rfl
theorem ti_156_15 : (q_I 156).2 15 = some (3, 0, 187, 153, 1, 18, [1048, 6]) := rfl
theorem ti_156_18 : (q_I 156).2 18 = some (0, 4, 0, 0, 2, 19, []) := rfl
theorem ti_156_19 : (q_I 156).2 19 = some (0, 0, 0, 1, 0, 20, []) := rfl
theorem ti_156_20 : (q_I 156).2 20 = some (3, 0, 190, 155, 2, 23, [1052, 6]) := rfl
theorem ti_156_23 : (q_I 156).2 23 = some (0, 4, 0, 0, 2, 24, []) := rfl
theorem ti_156_24 : (q_I 156).2 24 = some (3, 0, 91, 120, 1, 27, [887, 6]) := rfl
theorem ti_156_27 : (q_I 156).2 27 = some (11, 0, 0, 2, 0, 28, []) := rfl
theorem ti_156_28 : (q_I 156).2 28 = some (0, 4, 0, 0, 2, 29, []) := rfl
theorem ti_156_29 : (q_I 156).2 29 = some (3, 0, 193, 154, 1, 32, [1056, 6]) := rfl
theorem ti_156_32 : (q_I 156).2 32 = some (0, 0, 0, 2, 0, 33, []) := rfl
theorem ti_156_33 : (q_I 156).2 33 = some (4, 0, 0, 0, 0, 34, []) := rfl
theorem mt_156 (a1 : Int) (H : a_P) : a_mt id 0 156 [(2, 133), (0, a1)] H (fn_156 a1 H) := by
  refine a_mtI (lo := [some (2, 133), some (0, a1), none]) rfl fun d => ?_
  unfold fn_156
  refine a_w0 (Nat.le_succ _) ti_156_0 rfl ?_
  refine a_w14 (a := (1, a1)) (Nat.le_succ _) ti_156_1 rfl ?_
  refine a_w15 (z := 0) (Nat.le_succ _) ti_156_2 (by decide) ?_
  refine a_w15 (z := 40) (Nat.le_succ _) ti_156_3 (by decide) ?_
  refine a_w3p (args := [(1, a1), (1, 0), (1, 40)]) (Nat.le_succ _) ti_156_6 (mt_108 a1 0 40 H) rfl rfl rfl rfl ?_
  refine a_w8_1 (Nat.le_succ _) ti_156_9 ?_ ?_
  · refine a_w0 (Nat.le_succ _) ti_156_14 rfl ?_
    refine a_w3v (args := [(2, 133)]) (Nat.le_succ _) ti_156_15 (mt_153 H) rfl rfl (fun H1 => ?_)
    refine a_w0 (Nat.le_succ _) ti_156_18 rfl ?_
    refine a_w0 (Nat.le_succ _) ti_156_19 rfl ?_
    refine a_w3v (args := [(2, 133), (0, a1)]) (Nat.le_succ _) ti_156_20 (mt_155 a1 H1) rfl rfl (fun H2 => ?_)
    refine a_w0 (Nat.le_succ _) ti_156_23 rfl ?_
    refine a_w3p (args := [(2, 133)]) (Nat.le_succ _) ti_156_24 (mt_120 H2) rfl rfl rfl rfl ?_
    refine a_w11b (lof := fun x1 => [some (2, 133), some (0, a1), some (0, x1)]) (Nat.le_succ _) ti_156_27 (fun _ => rfl) (fun x1 => ?_)
    refine a_w0 (Nat.le_succ _) ti_156_28 rfl ?_
    refine a_w3v (args := [(2, 133)]) (Nat.le_succ _) ti_156_29 (mt_154 H2) rfl rfl (fun H3 => ?_)
    refine a_w0 (Nat.le_succ _) ti_156_32 rfl ?_
    exact a_w4 (Nat.le_succ _) ti_156_33 rfl rfl rfl
  · refine a_w2 (z := (-1)) (Nat.le_succ _) ti_156_12 (by decide) ?_
    exact a_w4 (Nat.le_succ _) ti_156_13 rfl rfl rfl
/-- CarriedGateModel.then(III)I -/
noncomputable def fn_157 (a1 : Int) (a2 : Int) (a3 : Int) (H : a_P) : a_F :=
  a_jn (fun (s1 : Unit) => ((-1), H)) fun j32 =>
  (if (fn_110 a1 H) = 0 then j32 ()
  else (if (fn_108 a2 0 40) = 0 then j32 ()
  else (if (fn_108 a3 0 2) = 0 then j32 ()
  else a_bd (fn_153 H) fun H1 =>
  a_bd (fn_155 a2 H1) fun H2 =>
  a_jn (fun (s2 : Int) => a_bd (fn_154 H2) fun H3 =>
  (s2, H3)) fun j91 =>
  (if a3 = 0 then j91 (H2 134 (a_w (15 + a1)))
  else (if a3 = 1 then j91 (H2 134 (a_w (39 + a1)))
  else (if (H2 134 3) = a1 then j91 1
  else j91 0))))))
theorem ti_157_0 : (q_I 157).2 0 = some (0, 4, 0, 0, 2, 1, []) := rfl
theorem ti_157_1 : (q_I 157).2 1 = some (0, 0, 0, 1, 0, 2, []) := rfl
theorem ti_157_2 : (q_I 157).2 2 = some (3, 0, 115, 110, 2, 5, [883, 6]) := rfl
theorem ti_157_5 : (q_I 157).2 5 = some (8, 0, 0, 32, 0, 8, []) := rfl
theorem ti_157_8 : (q_I 157).2 8 = some (0, 0, 0, 2, 0, 9, []) := rfl
theorem ti_157_9 : (q_I 157).2 9 = some (14, 4, 0, 0, 0, 10, []) := rfl
theorem ti_157_10 : (q_I 157).2 10 = some (15, 0, 0, 0, 0, 11, []) := rfl
theorem ti_157_11 : (q_I 157).2 11 = some (15, 1, 40, 168, 0, 14, [978]) := rfl
theorem ti_157_14 : (q_I 157).2 14 = some (3, 1, 51, 108, 3, 17, [867, 6]) := rfl
theorem ti_157_17 : (q_I 157).2 17 = some (8, 0, 0, 32, 0, 20, []) := rfl
theorem ti_157_20 : (q_I 157).2 20 = some (0, 0, 0, 3, 0, 21, []) := rfl
theorem ti_157_21 : (q_I 157).2 21 = some (14, 4, 0, 0, 0, 22, []) := rfl
theorem ti_157_22 : (q_I 157).2 22 = some (15, 0, 0, 0, 0, 23, []) := rfl
theorem ti_157_23 : (q_I 157).2 23 = some (15, 1, 2, 196, 0, 26, [1064]) := rfl
theorem ti_157_26 : (q_I 157).2 26 = some (3, 1, 51, 108, 3, 29, [867, 6]) := rfl
theorem ti_157_29 : (q_I 157).2 29 = some (8, 1, 0, 34, 0, 32, []) := rfl
theorem ti_157_34 : (q_I 157).2 34 = some (0, 4, 0, 0, 2, 35, []) := rfl
theorem ti_157_35 : (q_I 157).2 35 = some (3, 0, 187, 153, 1, 38, [1048, 6]) := rfl
theorem ti_157_38 : (q_I 157).2 38 = some (0, 4, 0, 0, 2, 39, []) := rfl
theorem ti_157_39 : (q_I 157).2 39 = some (0, 0, 0, 2, 0, 40, []) := rfl
theorem ti_157_40 : (q_I 157).2 40 = some (3, 0, 190, 155, 2, 43, [1052, 6]) := rfl
theorem ti_157_43 : (q_I 157).2 43 = some (0, 0, 0, 3, 0, 44, []) := rfl
theorem ti_157_44 : (q_I 157).2 44 = some (8, 1, 0, 59, 0, 47, []) := rfl
theorem ti_157_47 : (q_I 157).2 47 = some (0, 4, 0, 0, 2, 48, []) := rfl
theorem ti_157_48 : (q_I 157).2 48 = some (1, 0, 7, 6, 0, 51, [795]) := rfl
theorem ti_157_51 : (q_I 157).2 51 = some (2, 1, 15, 0, 0, 53, []) := rfl
theorem ti_157_53 : (q_I 157).2 53 = some (0, 0, 0, 1, 0, 54, []) := rfl
theorem ti_157_54 : (q_I 157).2 54 = some (6, 0, 0, 0, 0, 55, []) := rfl
theorem ti_157_55 : (q_I 157).2 55 = some (5, 10, 0, 0, 0, 56, []) := rfl
theorem ti_157_56 : (q_I 157).2 56 = some (7, 0, 0, 91, 0, 59, []) := rfl
theorem ti_157_59 : (q_I 157).2 59 = some (0, 0, 0, 3, 0, 60, []) := rfl
theorem ti_157_60 : (q_I 157).2 60 = some (2, 0, 1, 0, 0, 61, []) := rfl
theorem ti_157_61 : (q_I 157).2 61 = some (9, 1, 0, 76, 0, 64, []) := rfl
theorem ti_157_64 : (q_I 157).2 64 = some (0, 4, 0, 0, 2, 65, []) := rfl
theorem ti_157_65 : (q_I 157).2 65 = some (1, 0, 7, 6, 0, 68, [795]) := rfl
theorem ti_157_68 : (q_I 157).2 68 = some (2, 1, 39, 0, 0, 70, []) := rfl
theorem ti_157_70 : (q_I 157).2 70 = some (0, 0, 0, 1, 0, 71, []) := rfl
theorem ti_157_71 : (q_I 157).2 71 = some (6, 0, 0, 0, 0, 72, []) := rfl
theorem ti_157_72 : (q_I 157).2 72 = some (5, 10, 0, 0, 0, 73, []) := rfl
theorem ti_157_73 : (q_I 157).2 73 = some (7, 0, 0, 91, 0, 76, []) := rfl
theorem ti_157_76 : (q_I 157).2 76 = some (0, 4, 0, 0, 2, 77, []) := rfl
theorem ti_157_77 : (q_I 157).2 77 = some (1, 0, 7, 6, 0, 80, [795]) := rfl
theorem ti_157_80 : (q_I 157).2 80 = some (2, 0, 3, 0, 0, 81, []) := rfl
theorem ti_157_81 : (q_I 157).2 81 = some (5, 10, 0, 0, 0, 82, []) := rfl
theorem ti_157_82 : (q_I 157).2 82 = some (0, 0, 0, 1, 0, 83, []) := rfl
theorem ti_157_83 : (q_I 157).2 83 = some (9, 1, 0, 90, 0, 86, []) := rfl
theorem ti_157_86 : (q_I 157).2 86 = some (2, 0, 1, 0, 0, 87, []) := rfl
theorem ti_157_87 : (q_I 157).2 87 = some (7, 0, 0, 91, 0, 90, []) := rfl
theorem ti_157_90 : (q_I 157).2 90 = some (2, 0, 0, 0, 0, 91, []) := rfl
theorem ti_157_91 : (q_I 157).2 91 = some (11, 1, 0, 4, 0, 93, []) := rfl
theorem ti_157_93 : (q_I 157).2 93 = some (0, 4, 0, 0, 2, 94, []) := rfl
theorem ti_157_94 : (q_I 157).2 94 = some (3, 0, 193, 154, 1, 97, [1056, 6]) := rfl
theorem ti_157_97 : (q_I 157).2 97 = some (0, 1, 0, 4, 0, 99, []) := rfl
theorem ti_157_99 : (q_I 157).2 99 = some (4, 0, 0, 0, 0, 100, []) := rfl
theorem ti_157_32 : (q_I 157).2 32 = some (2, 0, (-1), 0, 0, 33, []) := rfl
theorem ti_157_33 : (q_I 157).2 33 = some (4, 0, 0, 0, 0, 34, []) := rfl
theorem mt_157 (a1 : Int) (a2 : Int) (a3 : Int) (H : a_P) : a_mt id 0 157 [(2, 133), (0, a1), (0, a2), (0, a3)] H (fn_157 a1 a2 a3 H) := by
  refine a_mtI (lo := [some (2, 133), some (0, a1), some (0, a2), some (0, a3), none]) rfl fun d => ?_
  unfold fn_157
  refine a_w0 (Nat.le_succ _) ti_157_0 rfl ?_
  refine a_w0 (Nat.le_succ _) ti_157_1 rfl ?_
  refine a_w3p (args := [(2, 133), (0, a1)]) (Nat.le_succ _) ti_157_2 (mt_110 a1 H) rfl rfl rfl rfl ?_
  refine a_wjn 32 (fun (s : Unit) => [none, none, none, none, none]) (fun (s : Unit) => []) (fun (s : Unit) => H) (fun s1 => ?_) (fun j32 hj32 => ?_)
  · refine a_w2 (z := (-1)) (Nat.le_succ _) ti_157_32 (by decide) ?_
    exact a_w4 (Nat.le_succ _) ti_157_33 rfl rfl rfl
  · refine a_w8_0 (Nat.le_succ _) ti_157_5 ?_ ?_
    · exact a_wk (hj32 ()) (by omega) trivial
    · refine a_w0 (Nat.le_succ _) ti_157_8 rfl ?_
      refine a_w14 (a := (1, a2)) (Nat.le_succ _) ti_157_9 rfl ?_
      refine a_w15 (z := 0) (Nat.le_succ _) ti_157_10 (by decide) ?_
      refine a_w15 (z := 40) (Nat.le_succ _) ti_157_11 (by decide) ?_
      refine a_w3p (args := [(1, a2), (1, 0), (1, 40)]) (Nat.le_succ _) ti_157_14 (mt_108 a2 0 40 H) rfl rfl rfl rfl ?_
      refine a_w8_0 (Nat.le_succ _) ti_157_17 ?_ ?_
      · exact a_wk (hj32 ()) (by omega) trivial
      · refine a_w0 (Nat.le_succ _) ti_157_20 rfl ?_
        refine a_w14 (a := (1, a3)) (Nat.le_succ _) ti_157_21 rfl ?_
        refine a_w15 (z := 0) (Nat.le_succ _) ti_157_22 (by decide) ?_
        refine a_w15 (z := 2) (Nat.le_succ _) ti_157_23 (by decide) ?_
        refine a_w3p (args := [(1, a3), (1, 0), (1, 2)]) (Nat.le_succ _) ti_157_26 (mt_108 a3 0 2 H) rfl rfl rfl rfl ?_
        refine a_w8_1 (Nat.le_succ _) ti_157_29 ?_ ?_
        · refine a_w0 (Nat.le_succ _) ti_157_34 rfl ?_
          refine a_w3v (args := [(2, 133)]) (Nat.le_succ _) ti_157_35 (mt_153 H) rfl rfl (fun H1 => ?_)
          refine a_w0 (Nat.le_succ _) ti_157_38 rfl ?_
          refine a_w0 (Nat.le_succ _) ti_157_39 rfl ?_
          refine a_w3v (args := [(2, 133), (0, a2)]) (Nat.le_succ _) ti_157_40 (mt_155 a2 H1) rfl rfl (fun H2 => ?_)
          refine a_w0 (Nat.le_succ _) ti_157_43 rfl ?_
          refine a_wjn 91 (fun (s : Int) => [some (2, 133), none, none, none, none]) (fun (s : Int) => [(0, s)]) (fun (s : Int) => H2) (fun s2 => ?_) (fun j91 hj91 => ?_)
          · refine a_w11 (lo' := [some (2, 133), none, none, none, some (0, s2)]) (Nat.le_succ _) ti_157_91 rfl ?_
            refine a_w0 (Nat.le_succ _) ti_157_93 rfl ?_
            refine a_w3v (args := [(2, 133)]) (Nat.le_succ _) ti_157_94 (mt_154 H2) rfl rfl (fun H3 => ?_)
            refine a_w0 (Nat.le_succ _) ti_157_97 rfl ?_
            exact a_w4 (Nat.le_succ _) ti_157_99 rfl rfl rfl
          · refine a_w8_1 (Nat.le_succ _) ti_157_44 ?_ ?_
            · refine a_w0 (Nat.le_succ _) ti_157_59 rfl ?_
              refine a_w2 (z := 1) (Nat.le_succ _) ti_157_60 (by decide) ?_
              refine a_w9_1 (Nat.le_succ _) ti_157_61 ?_ ?_
              · refine a_w0 (Nat.le_succ _) ti_157_76 rfl ?_
                refine a_w1 (a := (2, 134)) (Nat.le_succ _) ti_157_77 rfl ?_
                refine a_w2 (z := 3) (Nat.le_succ _) ti_157_80 (by decide) ?_
                refine a_w5 (kk := 0) (Nat.le_succ _) ti_157_81 (fun _ => rfl) ?_
                refine a_w0 (Nat.le_succ _) ti_157_82 rfl ?_
                refine a_w9_1 (Nat.le_succ _) ti_157_83 ?_ ?_
                · refine a_w2 (z := 0) (Nat.le_succ _) ti_157_90 (by decide) ?_
                  exact a_wk (hj91 0) (by omega) ⟨rfl, trivial⟩
                · refine a_w2 (z := 1) (Nat.le_succ _) ti_157_86 (by decide) ?_
                  refine a_w7 (Nat.le_succ _) ti_157_87 ?_
                  exact a_wk (hj91 1) (by omega) ⟨rfl, trivial⟩
              · refine a_w0 (Nat.le_succ _) ti_157_64 rfl ?_
                refine a_w1 (a := (2, 134)) (Nat.le_succ _) ti_157_65 rfl ?_
                refine a_w2 (z := 39) (Nat.le_succ _) ti_157_68 (by decide) ?_
                refine a_w0 (Nat.le_succ _) ti_157_70 rfl ?_
                refine a_w6 (a := (0, a_w (39 + a1))) (Nat.le_succ _) ti_157_71 rfl ?_
                refine a_w5 (kk := 0) (Nat.le_succ _) ti_157_72 (fun _ => rfl) ?_
                refine a_w7 (Nat.le_succ _) ti_157_73 ?_
                exact a_wk (hj91 (H2 134 (a_w (39 + a1)))) (by omega) ⟨rfl, trivial⟩
            · refine a_w0 (Nat.le_succ _) ti_157_47 rfl ?_
              refine a_w1 (a := (2, 134)) (Nat.le_succ _) ti_157_48 rfl ?_
              refine a_w2 (z := 15) (Nat.le_succ _) ti_157_51 (by decide) ?_
              refine a_w0 (Nat.le_succ _) ti_157_53 rfl ?_
              refine a_w6 (a := (0, a_w (15 + a1))) (Nat.le_succ _) ti_157_54 rfl ?_
              refine a_w5 (kk := 0) (Nat.le_succ _) ti_157_55 (fun _ => rfl) ?_
              refine a_w7 (Nat.le_succ _) ti_157_56 ?_
              exact a_wk (hj91 (H2 134 (a_w (15 + a1)))) (by omega) ⟨rfl, trivial⟩
        · exact a_wk (hj32 ()) (by omega) trivial
/-- CarriedGateModel.lies()I -/
noncomputable def fn_158 (H : a_P) : a_F :=
  a_bd (fn_153 H) fun H1 =>
  a_jn (fun (s1 : Int × a_P) => a_bd (fn_154 s1.2) fun H2 =>
  a_jn (fun (s2 : Int) => (s2, H2)) fun j45 =>
  (if s1.1 < 41 then j45 s1.1
  else j45 (-4))) fun j29 =>
  a_lp (fun (s3 : Int × a_P) => (0, s3.2)) (fun (s3 : Int × a_P) n6 => (if s3.1 < 41 then (if (fn_117 s3.2) = 0 then j29 (s3.1, s3.2)
  else a_bd (fn_124 s3.2) fun H3 =>
  a_bd (a_w (s3.1 + 1)) fun x1 =>
  n6 (x1, H3))
  else j29 (s3.1, s3.2))) a_fuel (0, H1)
theorem ti_158_0 : (q_I 158).2 0 = some (0, 4, 0, 0, 2, 1, []) := rfl
theorem ti_158_1 : (q_I 158).2 1 = some (3, 0, 187, 153, 1, 4, [1048, 6]) := rfl
theorem ti_158_4 : (q_I 158).2 4 = some (2, 0, 0, 0, 0, 5, []) := rfl
theorem ti_158_5 : (q_I 158).2 5 = some (11, 0, 0, 1, 0, 6, []) := rfl
theorem ti_158_6 : (q_I 158).2 6 = some (0, 0, 0, 1, 0, 7, []) := rfl
theorem ti_158_7 : (q_I 158).2 7 = some (2, 1, 41, 0, 0, 9, []) := rfl
theorem ti_158_9 : (q_I 158).2 9 = some (9, 3, 0, 29, 0, 12, []) := rfl
theorem ti_158_12 : (q_I 158).2 12 = some (0, 4, 0, 0, 2, 13, []) := rfl
theorem ti_158_13 : (q_I 158).2 13 = some (3, 0, 76, 117, 1, 16, [891, 6]) := rfl
theorem ti_158_16 : (q_I 158).2 16 = some (8, 0, 0, 29, 0, 19, []) := rfl
theorem ti_158_19 : (q_I 158).2 19 = some (0, 4, 0, 0, 2, 20, []) := rfl
theorem ti_158_20 : (q_I 158).2 20 = some (3, 0, 173, 124, 1, 23, [983, 6]) := rfl
theorem ti_158_23 : (q_I 158).2 23 = some (13, 0, 1, 1, 0, 26, []) := rfl
theorem ti_158_26 : (q_I 158).2 26 = some (7, 0, 0, 6, 0, 29, []) := rfl
theorem ti_158_29 : (q_I 158).2 29 = some (0, 4, 0, 0, 2, 30, []) := rfl
theorem ti_158_30 : (q_I 158).2 30 = some (3, 0, 193, 154, 1, 33, [1056, 6]) := rfl
theorem ti_158_33 : (q_I 158).2 33 = some (0, 0, 0, 1, 0, 34, []) := rfl
theorem ti_158_34 : (q_I 158).2 34 = some (2, 1, 41, 0, 0, 36, []) := rfl
theorem ti_158_36 : (q_I 158).2 36 = some (9, 3, 0, 43, 0, 39, []) := rfl
theorem ti_158_39 : (q_I 158).2 39 = some (0, 0, 0, 1, 0, 40, []) := rfl
theorem ti_158_40 : (q_I 158).2 40 = some (7, 0, 0, 45, 0, 43, []) := rfl
theorem ti_158_43 : (q_I 158).2 43 = some (2, 1, (-4), 0, 0, 45, []) := rfl
theorem ti_158_45 : (q_I 158).2 45 = some (4, 0, 0, 0, 0, 46, []) := rfl
theorem mt_158 (H : a_P) : a_mt id 0 158 [(2, 133)] H (fn_158 H) := by
  refine a_mtI (lo := [some (2, 133), none]) rfl fun d => ?_
  unfold fn_158
  refine a_w0 (Nat.le_succ _) ti_158_0 rfl ?_
  refine a_w3v (args := [(2, 133)]) (Nat.le_succ _) ti_158_1 (mt_153 H) rfl rfl (fun H1 => ?_)
  refine a_w2 (z := 0) (Nat.le_succ _) ti_158_4 (by decide) ?_
  refine a_w11 (lo' := [some (2, 133), some (0, 0)]) (Nat.le_succ _) ti_158_5 rfl ?_
  refine a_wjn 29 (fun (s : Int × a_P) => [some (2, 133), some (0, s.1)]) (fun (s : Int × a_P) => []) (fun (s : Int × a_P) => s.2) (fun s1 => ?_) (fun j29 hj29 => ?_)
  · refine a_w0 (Nat.le_succ _) ti_158_29 rfl ?_
    refine a_w3v (args := [(2, 133)]) (Nat.le_succ _) ti_158_30 (mt_154 s1.2) rfl rfl (fun H2 => ?_)
    refine a_w0 (Nat.le_succ _) ti_158_33 rfl ?_
    refine a_w2 (z := 41) (Nat.le_succ _) ti_158_34 (by decide) ?_
    refine a_wjn 45 (fun (s : Int) => [none, none]) (fun (s : Int) => [(0, s)]) (fun (s : Int) => H2) (fun s2 => ?_) (fun j45 hj45 => ?_)
    · exact a_w4 (Nat.le_succ _) ti_158_45 rfl rfl rfl
    · refine a_w9_3 (Nat.le_succ _) ti_158_36 ?_ ?_
      · refine a_w2 (z := (-4)) (Nat.le_succ _) ti_158_43 (by decide) ?_
        exact a_wk (hj45 (-4)) (by omega) trivial
      · refine a_w0 (Nat.le_succ _) ti_158_39 rfl ?_
        refine a_w7 (Nat.le_succ _) ti_158_40 ?_
        exact a_wk (hj45 s1.1) (by omega) trivial
  · refine a_wk (a_wlp (fun (s : Int × a_P) => [some (2, 133), some (0, s.1)]) (fun (s : Int × a_P) => s.2) (fun N1 hN1 n6 hn6 s3 => ?_) a_fuel (a_fuel_le (by omega)) (0, H1)) (Nat.le_refl _) ⟨rfl, rfl, trivial⟩
    · refine a_w0 (Nat.le_refl _) ti_158_6 rfl ?_
      refine a_w2 (z := 41) (Nat.le_succ _) ti_158_7 (by decide) ?_
      refine a_w9_3 (Nat.le_succ _) ti_158_9 ?_ ?_
      · exact a_wk (hj29 (s3.1, s3.2)) (by omega) ⟨rfl, rfl, trivial⟩
      · refine a_w0 (Nat.le_succ _) ti_158_12 rfl ?_
        refine a_w3p (args := [(2, 133)]) (Nat.le_succ _) ti_158_13 (mt_117 s3.2) rfl rfl rfl rfl ?_
        refine a_w8_0 (Nat.le_succ _) ti_158_16 ?_ ?_
        · exact a_wk (hj29 (s3.1, s3.2)) (by omega) ⟨rfl, rfl, trivial⟩
        · refine a_w0 (Nat.le_succ _) ti_158_19 rfl ?_
          refine a_w3v (args := [(2, 133)]) (Nat.le_succ _) ti_158_20 (mt_124 s3.2) rfl rfl (fun H3 => ?_)
          refine a_w13 (c' := 1) (lof := fun x1 => [some (2, 133), some (0, x1)]) (Nat.le_succ _) ti_158_23 rfl (by decide) rfl (fun _ => rfl) (fun x1 => ?_)
          refine a_w7 (Nat.le_succ _) ti_158_26 ?_
          exact a_wk (hn6 (x1, H3)) (by omega) ⟨rfl, rfl, trivial⟩
/-- CarriedGateModel.wetBehind(I)I -/
noncomputable def fn_159 (a1 : Int) (H : a_P) : a_F :=
  a_bd (fn_155 a1 H) fun H1 =>
  a_bd (fn_129 H1) fun x1 =>
  a_bd (fn_154 H1) fun H2 =>
  (x1, H2)
theorem ti_159_0 : (q_I 159).2 0 = some (0, 4, 0, 0, 2, 1, []) := rfl
theorem ti_159_1 : (q_I 159).2 1 = some (0, 0, 0, 1, 0, 2, []) := rfl
theorem ti_159_2 : (q_I 159).2 2 = some (3, 0, 190, 155, 2, 5, [1052, 6]) := rfl
theorem ti_159_5 : (q_I 159).2 5 = some (0, 4, 0, 0, 2, 6, []) := rfl
theorem ti_159_6 : (q_I 159).2 6 = some (3, 0, 118, 129, 1, 9, [924, 6]) := rfl
theorem ti_159_9 : (q_I 159).2 9 = some (11, 0, 0, 2, 0, 10, []) := rfl
theorem ti_159_10 : (q_I 159).2 10 = some (0, 4, 0, 0, 2, 11, []) := rfl
theorem ti_159_11 : (q_I 159).2 11 = some (3, 0, 193, 154, 1, 14, [1056, 6]) := rfl
theorem ti_159_14 : (q_I 159).2 14 = some (0, 0, 0, 2, 0, 15, []) := rfl
theorem ti_159_15 : (q_I 159).2 15 = some (4, 0, 0, 0, 0, 16, []) := rfl
theorem mt_159 (a1 : Int) (H : a_P) : a_mt id 0 159 [(2, 133), (0, a1)] H (fn_159 a1 H) := by
  refine a_mtI (lo := [some (2, 133), some (0, a1), none]) rfl fun d => ?_
  unfold fn_159
  refine a_w0 (Nat.le_succ _) ti_159_0 rfl ?_
  refine a_w0 (Nat.le_succ _) ti_159_1 rfl ?_
  refine a_w3v (args := [(2, 133), (0, a1)]) (Nat.le_succ _) ti_159_2 (mt_155 a1 H) rfl rfl (fun H1 => ?_)
  refine a_w0 (Nat.le_succ _) ti_159_5 rfl ?_
  refine a_w3p (args := [(2, 133)]) (Nat.le_succ _) ti_159_6 (mt_129 H1) rfl rfl rfl rfl ?_
  refine a_w11b (lof := fun x1 => [some (2, 133), some (0, a1), some (0, x1)]) (Nat.le_succ _) ti_159_9 (fun _ => rfl) (fun x1 => ?_)
  refine a_w0 (Nat.le_succ _) ti_159_10 rfl ?_
  refine a_w3v (args := [(2, 133)]) (Nat.le_succ _) ti_159_11 (mt_154 H1) rfl rfl (fun H2 => ?_)
  refine a_w0 (Nat.le_succ _) ti_159_14 rfl ?_
  exact a_w4 (Nat.le_succ _) ti_159_15 rfl rfl rfl
/-- CarriedGateModel.wet(I)I -/
noncomputable def fn_160 (a1 : Int) (H : a_P) : a_F :=
  (if (fn_108 a1 0 40) = 0 then ((-1), H)
  else a_bd (fn_153 H) fun H1 =>
  a_bd (fn_159 a1 H1) fun g1 =>
  (g1.1, g1.2))
theorem ti_160_0 : (q_I 160).2 0 = some (0, 0, 0, 1, 0, 1, []) := rfl
theorem ti_160_1 : (q_I 160).2 1 = some (14, 4, 0, 0, 0, 2, []) := rfl
theorem ti_160_2 : (q_I 160).2 2 = some (15, 0, 0, 0, 0, 3, []) := rfl
theorem ti_160_3 : (q_I 160).2 3 = some (15, 1, 40, 168, 0, 6, [978]) := rfl
theorem ti_160_6 : (q_I 160).2 6 = some (3, 1, 51, 108, 3, 9, [867, 6]) := rfl
theorem ti_160_9 : (q_I 160).2 9 = some (8, 1, 0, 14, 0, 12, []) := rfl
theorem ti_160_12 : (q_I 160).2 12 = some (2, 0, (-1), 0, 0, 13, []) := rfl
theorem ti_160_13 : (q_I 160).2 13 = some (4, 0, 0, 0, 0, 14, []) := rfl
theorem ti_160_14 : (q_I 160).2 14 = some (0, 4, 0, 0, 2, 15, []) := rfl
theorem ti_160_15 : (q_I 160).2 15 = some (3, 0, 187, 153, 1, 18, [1048, 6]) := rfl
theorem ti_160_18 : (q_I 160).2 18 = some (0, 4, 0, 0, 2, 19, []) := rfl
theorem ti_160_19 : (q_I 160).2 19 = some (0, 0, 0, 1, 0, 20, []) := rfl
theorem ti_160_20 : (q_I 160).2 20 = some (3, 0, 198, 159, 2, 23, [1073, 6]) := rfl
theorem ti_160_23 : (q_I 160).2 23 = some (4, 0, 0, 0, 0, 24, []) := rfl
theorem mt_160 (a1 : Int) (H : a_P) : a_mt id 0 160 [(2, 133), (0, a1)] H (fn_160 a1 H) := by
  refine a_mtI (lo := [some (2, 133), some (0, a1)]) rfl fun d => ?_
  unfold fn_160
  refine a_w0 (Nat.le_succ _) ti_160_0 rfl ?_
  refine a_w14 (a := (1, a1)) (Nat.le_succ _) ti_160_1 rfl ?_
  refine a_w15 (z := 0) (Nat.le_succ _) ti_160_2 (by decide) ?_
  refine a_w15 (z := 40) (Nat.le_succ _) ti_160_3 (by decide) ?_
  refine a_w3p (args := [(1, a1), (1, 0), (1, 40)]) (Nat.le_succ _) ti_160_6 (mt_108 a1 0 40 H) rfl rfl rfl rfl ?_
  refine a_w8_1 (Nat.le_succ _) ti_160_9 ?_ ?_
  · refine a_w0 (Nat.le_succ _) ti_160_14 rfl ?_
    refine a_w3v (args := [(2, 133)]) (Nat.le_succ _) ti_160_15 (mt_153 H) rfl rfl (fun H1 => ?_)
    refine a_w0 (Nat.le_succ _) ti_160_18 rfl ?_
    refine a_w0 (Nat.le_succ _) ti_160_19 rfl ?_
    refine a_w3i (args := [(2, 133), (0, a1)]) (Nat.le_succ _) ti_160_20 (mt_159 a1 H1) (fun _ => rfl) rfl rfl (fun g1 => ?_)
    exact a_w4 (Nat.le_succ _) ti_160_23 rfl rfl rfl
  · refine a_w2 (z := (-1)) (Nat.le_succ _) ti_160_12 (by decide) ?_
    exact a_w4 (Nat.le_succ _) ti_160_13 rfl rfl rfl
/-- CarriedGateModel.facing(II)I -/
noncomputable def fn_161 (a1 : Int) (a2 : Int) (H : a_P) : a_F :=
  a_jn (fun (s1 : Unit) => ((-1), H)) fun j22 =>
  (if (fn_108 a1 1 40) = 0 then j22 ()
  else (if (fn_108 a2 0 1) = 0 then j22 ()
  else a_bd (fn_153 H) fun H1 =>
  a_jn (fun (s2 : Int × Int × a_P) => a_jn (fun (s3 : Int) => (s3, s2.2.2)) fun j105 =>
  (if a2 = 0 then j105 s2.1
  else j105 s2.2.1)) fun j95 =>
  a_lp (fun (s4 : Int × Int × Int × a_P) => (0, s4.2.2.2)) (fun (s4 : Int × Int × Int × a_P) n38 => (if s4.2.2.1 < 4 then a_bd (a_up s4.2.2.2 134 2 s4.2.2.1) fun H2 =>
  a_bd (fn_159 a1 H2) fun g1 =>
  a_jn (fun (s5 : Int) => a_jn (fun (s6 : Int) => a_bd (a_w (s4.2.2.1 + 1)) fun x1 =>
  n38 (s5, s6, x1, g1.2)) fun j87 =>
  (if g1.1 < s4.2.1 then j87 g1.1
  else j87 s4.2.1)) fun j72 =>
  (if g1.1 < s4.2.1 then j72 s4.2.2.1
  else j72 s4.1)
  else j95 (s4.1, s4.2.1, s4.2.2.2))) a_fuel (0, 9999, 0, H1)))
theorem ti_161_0 : (q_I 161).2 0 = some (0, 0, 0, 1, 0, 1, []) := rfl
theorem ti_161_1 : (q_I 161).2 1 = some (14, 4, 0, 0, 0, 2, []) := rfl
theorem ti_161_2 : (q_I 161).2 2 = some (15, 0, 1, 0, 0, 3, []) := rfl
theorem ti_161_3 : (q_I 161).2 3 = some (15, 1, 40, 168, 0, 6, [978]) := rfl
theorem ti_161_6 : (q_I 161).2 6 = some (3, 1, 51, 108, 3, 9, [867, 6]) := rfl
theorem ti_161_9 : (q_I 161).2 9 = some (8, 0, 0, 22, 0, 12, []) := rfl
theorem ti_161_12 : (q_I 161).2 12 = some (0, 0, 0, 2, 0, 13, []) := rfl
theorem ti_161_13 : (q_I 161).2 13 = some (14, 4, 0, 0, 0, 14, []) := rfl
theorem ti_161_14 : (q_I 161).2 14 = some (15, 0, 0, 0, 0, 15, []) := rfl
theorem ti_161_15 : (q_I 161).2 15 = some (15, 0, 1, 0, 0, 16, []) := rfl
theorem ti_161_16 : (q_I 161).2 16 = some (3, 1, 51, 108, 3, 19, [867, 6]) := rfl
theorem ti_161_19 : (q_I 161).2 19 = some (8, 1, 0, 24, 0, 22, []) := rfl
theorem ti_161_24 : (q_I 161).2 24 = some (0, 4, 0, 0, 2, 25, []) := rfl
theorem ti_161_25 : (q_I 161).2 25 = some (3, 0, 187, 153, 1, 28, [1048, 6]) := rfl
theorem ti_161_28 : (q_I 161).2 28 = some (2, 0, 0, 0, 0, 29, []) := rfl
theorem ti_161_29 : (q_I 161).2 29 = some (11, 0, 0, 3, 0, 30, []) := rfl
theorem ti_161_30 : (q_I 161).2 30 = some (2, 2, 9999, 0, 0, 33, []) := rfl
theorem ti_161_33 : (q_I 161).2 33 = some (11, 1, 0, 4, 0, 35, []) := rfl
theorem ti_161_35 : (q_I 161).2 35 = some (2, 0, 0, 0, 0, 36, []) := rfl
theorem ti_161_36 : (q_I 161).2 36 = some (11, 1, 0, 5, 0, 38, []) := rfl
theorem ti_161_38 : (q_I 161).2 38 = some (0, 1, 0, 5, 0, 40, []) := rfl
theorem ti_161_40 : (q_I 161).2 40 = some (2, 0, 4, 0, 0, 41, []) := rfl
theorem ti_161_41 : (q_I 161).2 41 = some (9, 3, 0, 95, 0, 44, []) := rfl
theorem ti_161_44 : (q_I 161).2 44 = some (0, 4, 0, 0, 2, 45, []) := rfl
theorem ti_161_45 : (q_I 161).2 45 = some (1, 0, 7, 6, 0, 48, [795]) := rfl
theorem ti_161_48 : (q_I 161).2 48 = some (2, 0, 2, 0, 0, 49, []) := rfl
theorem ti_161_49 : (q_I 161).2 49 = some (0, 1, 0, 5, 0, 51, []) := rfl
theorem ti_161_51 : (q_I 161).2 51 = some (12, 10, 0, 0, 0, 52, []) := rfl
theorem ti_161_52 : (q_I 161).2 52 = some (0, 4, 0, 0, 2, 53, []) := rfl
theorem ti_161_53 : (q_I 161).2 53 = some (0, 0, 0, 1, 0, 54, []) := rfl
theorem ti_161_54 : (q_I 161).2 54 = some (3, 0, 198, 159, 2, 57, [1073, 6]) := rfl
theorem ti_161_57 : (q_I 161).2 57 = some (11, 1, 0, 6, 0, 59, []) := rfl
theorem ti_161_59 : (q_I 161).2 59 = some (0, 1, 0, 6, 0, 61, []) := rfl
theorem ti_161_61 : (q_I 161).2 61 = some (0, 1, 0, 4, 0, 63, []) := rfl
theorem ti_161_63 : (q_I 161).2 63 = some (9, 3, 0, 71, 0, 66, []) := rfl
theorem ti_161_66 : (q_I 161).2 66 = some (0, 1, 0, 5, 0, 68, []) := rfl
theorem ti_161_68 : (q_I 161).2 68 = some (7, 0, 0, 72, 0, 71, []) := rfl
theorem ti_161_71 : (q_I 161).2 71 = some (0, 0, 0, 3, 0, 72, []) := rfl
theorem ti_161_72 : (q_I 161).2 72 = some (11, 0, 0, 3, 0, 73, []) := rfl
theorem ti_161_73 : (q_I 161).2 73 = some (0, 1, 0, 6, 0, 75, []) := rfl
theorem ti_161_75 : (q_I 161).2 75 = some (0, 1, 0, 4, 0, 77, []) := rfl
theorem ti_161_77 : (q_I 161).2 77 = some (9, 3, 0, 85, 0, 80, []) := rfl
theorem ti_161_80 : (q_I 161).2 80 = some (0, 1, 0, 6, 0, 82, []) := rfl
theorem ti_161_82 : (q_I 161).2 82 = some (7, 0, 0, 87, 0, 85, []) := rfl
theorem ti_161_85 : (q_I 161).2 85 = some (0, 1, 0, 4, 0, 87, []) := rfl
theorem ti_161_87 : (q_I 161).2 87 = some (11, 1, 0, 4, 0, 89, []) := rfl
theorem ti_161_89 : (q_I 161).2 89 = some (13, 0, 1, 5, 0, 92, []) := rfl
theorem ti_161_92 : (q_I 161).2 92 = some (7, 0, 0, 38, 0, 95, []) := rfl
theorem ti_161_95 : (q_I 161).2 95 = some (0, 0, 0, 2, 0, 96, []) := rfl
theorem ti_161_96 : (q_I 161).2 96 = some (8, 1, 0, 103, 0, 99, []) := rfl
theorem ti_161_99 : (q_I 161).2 99 = some (0, 0, 0, 3, 0, 100, []) := rfl
theorem ti_161_100 : (q_I 161).2 100 = some (7, 0, 0, 105, 0, 103, []) := rfl
theorem ti_161_103 : (q_I 161).2 103 = some (0, 1, 0, 4, 0, 105, []) := rfl
theorem ti_161_105 : (q_I 161).2 105 = some (4, 0, 0, 0, 0, 106, []) := rfl
theorem ti_161_22 : (q_I 161).2 22 = some (2, 0, (-1), 0, 0, 23, []) := rfl
theorem ti_161_23 : (q_I 161).2 23 = some (4, 0, 0, 0, 0, 24, []) := rfl
theorem mt_161 (a1 : Int) (a2 : Int) (H : a_P) : a_mt id 0 161 [(2, 133), (0, a1), (0, a2)] H (fn_161 a1 a2 H) := by
  refine a_mtI (lo := [some (2, 133), some (0, a1), some (0, a2), none, none, none, none]) rfl fun d => ?_
  unfold fn_161
  refine a_w0 (Nat.le_succ _) ti_161_0 rfl ?_
  refine a_w14 (a := (1, a1)) (Nat.le_succ _) ti_161_1 rfl ?_
  refine a_w15 (z := 1) (Nat.le_succ _) ti_161_2 (by decide) ?_
  refine a_w15 (z := 40) (Nat.le_succ _) ti_161_3 (by decide) ?_
  refine a_w3p (args := [(1, a1), (1, 1), (1, 40)]) (Nat.le_succ _) ti_161_6 (mt_108 a1 1 40 H) rfl rfl rfl rfl ?_
  refine a_wjn 22 (fun (s : Unit) => [none, none, none, none, none, none, none]) (fun (s : Unit) => []) (fun (s : Unit) => H) (fun s1 => ?_) (fun j22 hj22 => ?_)
  · refine a_w2 (z := (-1)) (Nat.le_succ _) ti_161_22 (by decide) ?_
    exact a_w4 (Nat.le_succ _) ti_161_23 rfl rfl rfl
  · refine a_w8_0 (Nat.le_succ _) ti_161_9 ?_ ?_
    · exact a_wk (hj22 ()) (by omega) trivial
    · refine a_w0 (Nat.le_succ _) ti_161_12 rfl ?_
      refine a_w14 (a := (1, a2)) (Nat.le_succ _) ti_161_13 rfl ?_
      refine a_w15 (z := 0) (Nat.le_succ _) ti_161_14 (by decide) ?_
      refine a_w15 (z := 1) (Nat.le_succ _) ti_161_15 (by decide) ?_
      refine a_w3p (args := [(1, a2), (1, 0), (1, 1)]) (Nat.le_succ _) ti_161_16 (mt_108 a2 0 1 H) rfl rfl rfl rfl ?_
      refine a_w8_1 (Nat.le_succ _) ti_161_19 ?_ ?_
      · refine a_w0 (Nat.le_succ _) ti_161_24 rfl ?_
        refine a_w3v (args := [(2, 133)]) (Nat.le_succ _) ti_161_25 (mt_153 H) rfl rfl (fun H1 => ?_)
        refine a_w2 (z := 0) (Nat.le_succ _) ti_161_28 (by decide) ?_
        refine a_w11 (lo' := [some (2, 133), some (0, a1), some (0, a2), some (0, 0), none, none, none]) (Nat.le_succ _) ti_161_29 rfl ?_
        refine a_w2 (z := 9999) (Nat.le_succ _) ti_161_30 (by decide) ?_
        refine a_w11 (lo' := [some (2, 133), some (0, a1), some (0, a2), some (0, 0), some (0, 9999), none, none]) (Nat.le_succ _) ti_161_33 rfl ?_
        refine a_w2 (z := 0) (Nat.le_succ _) ti_161_35 (by decide) ?_
        refine a_w11 (lo' := [some (2, 133), some (0, a1), some (0, a2), some (0, 0), some (0, 9999), some (0, 0), none]) (Nat.le_succ _) ti_161_36 rfl ?_
        refine a_wjn 95 (fun (s : Int × Int × a_P) => [none, none, some (0, a2), some (0, s.1), some (0, s.2.1), none, none]) (fun (s : Int × Int × a_P) => []) (fun (s : Int × Int × a_P) => s.2.2) (fun s2 => ?_) (fun j95 hj95 => ?_)
        · refine a_w0 (Nat.le_succ _) ti_161_95 rfl ?_
          refine a_wjn 105 (fun (s : Int) => [none, none, none, none, none, none, none]) (fun (s : Int) => [(0, s)]) (fun (s : Int) => s2.2.2) (fun s3 => ?_) (fun j105 hj105 => ?_)
          · exact a_w4 (Nat.le_succ _) ti_161_105 rfl rfl rfl
          · refine a_w8_1 (Nat.le_succ _) ti_161_96 ?_ ?_
            · refine a_w0 (Nat.le_succ _) ti_161_103 rfl ?_
              exact a_wk (hj105 s2.2.1) (by omega) trivial
            · refine a_w0 (Nat.le_succ _) ti_161_99 rfl ?_
              refine a_w7 (Nat.le_succ _) ti_161_100 ?_
              exact a_wk (hj105 s2.1) (by omega) trivial
        · refine a_wk (a_wlp (fun (s : Int × Int × Int × a_P) => [some (2, 133), some (0, a1), some (0, a2), some (0, s.1), some (0, s.2.1), some (0, s.2.2.1), none]) (fun (s : Int × Int × Int × a_P) => s.2.2.2) (fun N1 hN1 n38 hn38 s4 => ?_) a_fuel (a_fuel_le (by omega)) (0, 9999, 0, H1)) (Nat.le_refl _) ⟨rfl, rfl, rfl, rfl, rfl, rfl, trivial⟩
          · refine a_w0 (Nat.le_refl _) ti_161_38 rfl ?_
            refine a_w2 (z := 4) (Nat.le_succ _) ti_161_40 (by decide) ?_
            refine a_w9_3 (Nat.le_succ _) ti_161_41 ?_ ?_
            · exact a_wk (hj95 (s4.1, s4.2.1, s4.2.2.2)) (by omega) ⟨rfl, rfl, rfl, trivial⟩
            · refine a_w0 (Nat.le_succ _) ti_161_44 rfl ?_
              refine a_w1 (a := (2, 134)) (Nat.le_succ _) ti_161_45 rfl ?_
              refine a_w2 (z := 2) (Nat.le_succ _) ti_161_48 (by decide) ?_
              refine a_w0 (Nat.le_succ _) ti_161_49 rfl ?_
              refine a_w12 (Nat.le_succ _) ti_161_51 (Or.inl ⟨rfl, rfl⟩) (fun H2 => ?_)
              refine a_w0 (Nat.le_succ _) ti_161_52 rfl ?_
              refine a_w0 (Nat.le_succ _) ti_161_53 rfl ?_
              refine a_w3i (args := [(2, 133), (0, a1)]) (Nat.le_succ _) ti_161_54 (mt_159 a1 H2) (fun _ => rfl) rfl rfl (fun g1 => ?_)
              refine a_w11 (lo' := [some (2, 133), some (0, a1), some (0, a2), some (0, s4.1), some (0, s4.2.1), some (0, s4.2.2.1), some (0, g1.1)]) (Nat.le_succ _) ti_161_57 rfl ?_
              refine a_w0 (Nat.le_succ _) ti_161_59 rfl ?_
              refine a_w0 (Nat.le_succ _) ti_161_61 rfl ?_
              refine a_wjn 72 (fun (s : Int) => [some (2, 133), some (0, a1), some (0, a2), none, some (0, s4.2.1), some (0, s4.2.2.1), some (0, g1.1)]) (fun (s : Int) => [(0, s)]) (fun (s : Int) => g1.2) (fun s5 => ?_) (fun j72 hj72 => ?_)
              · refine a_w11 (lo' := [some (2, 133), some (0, a1), some (0, a2), some (0, s5), some (0, s4.2.1), some (0, s4.2.2.1), some (0, g1.1)]) (Nat.le_succ _) ti_161_72 rfl ?_
                refine a_w0 (Nat.le_succ _) ti_161_73 rfl ?_
                refine a_w0 (Nat.le_succ _) ti_161_75 rfl ?_
                refine a_wjn 87 (fun (s : Int) => [some (2, 133), some (0, a1), some (0, a2), some (0, s5), none, some (0, s4.2.2.1), none]) (fun (s : Int) => [(0, s)]) (fun (s : Int) => g1.2) (fun s6 => ?_) (fun j87 hj87 => ?_)
                · refine a_w11 (lo' := [some (2, 133), some (0, a1), some (0, a2), some (0, s5), some (0, s6), some (0, s4.2.2.1), none]) (Nat.le_succ _) ti_161_87 rfl ?_
                  refine a_w13 (c' := 1) (lof := fun x1 => [some (2, 133), some (0, a1), some (0, a2), some (0, s5), some (0, s6), some (0, x1), none]) (Nat.le_succ _) ti_161_89 rfl (by decide) rfl (fun _ => rfl) (fun x1 => ?_)
                  refine a_w7 (Nat.le_succ _) ti_161_92 ?_
                  exact a_wk (hn38 (s5, s6, x1, g1.2)) (by omega) ⟨rfl, rfl, rfl, rfl, rfl, rfl, trivial⟩
                · refine a_w9_3 (Nat.le_succ _) ti_161_77 ?_ ?_
                  · refine a_w0 (Nat.le_succ _) ti_161_85 rfl ?_
                    exact a_wk (hj87 s4.2.1) (by omega) ⟨rfl, rfl, rfl, rfl, rfl, trivial⟩
                  · refine a_w0 (Nat.le_succ _) ti_161_80 rfl ?_
                    refine a_w7 (Nat.le_succ _) ti_161_82 ?_
                    exact a_wk (hj87 g1.1) (by omega) ⟨rfl, rfl, rfl, rfl, rfl, trivial⟩
              · refine a_w9_3 (Nat.le_succ _) ti_161_63 ?_ ?_
                · refine a_w0 (Nat.le_succ _) ti_161_71 rfl ?_
                  exact a_wk (hj72 s4.1) (by omega) ⟨rfl, rfl, rfl, rfl, rfl, rfl, trivial⟩
                · refine a_w0 (Nat.le_succ _) ti_161_66 rfl ?_
                  refine a_w7 (Nat.le_succ _) ti_161_68 ?_
                  exact a_wk (hj72 s4.2.2.1) (by omega) ⟨rfl, rfl, rfl, rfl, rfl, rfl, trivial⟩
      · exact a_wk (hj22 ()) (by omega) trivial
/-- CarriedGateModel.isSome(I)Z -/
noncomputable def fn_162 (a1 : Int) (H : a_P) : Int :=
  fn_108 a1 0 (a_w ((a_shl 1 (H 134 0)) - 1))
theorem ti_162_0 : (q_I 162).2 0 = some (0, 0, 0, 1, 0, 1, []) := rfl
theorem ti_162_1 : (q_I 162).2 1 = some (14, 4, 0, 0, 0, 2, []) := rfl
theorem ti_162_2 : (q_I 162).2 2 = some (15, 0, 0, 0, 0, 3, []) := rfl
theorem ti_162_3 : (q_I 162).2 3 = some (2, 0, 1, 0, 0, 4, []) := rfl
theorem ti_162_4 : (q_I 162).2 4 = some (0, 4, 0, 0, 2, 5, []) := rfl
theorem ti_162_5 : (q_I 162).2 5 = some (1, 0, 7, 6, 0, 8, [795]) := rfl
theorem ti_162_8 : (q_I 162).2 8 = some (2, 0, 0, 0, 0, 9, []) := rfl
theorem ti_162_9 : (q_I 162).2 9 = some (5, 10, 0, 0, 0, 10, []) := rfl
theorem ti_162_10 : (q_I 162).2 10 = some (6, 8, 0, 0, 0, 11, []) := rfl
theorem ti_162_11 : (q_I 162).2 11 = some (2, 0, 1, 0, 0, 12, []) := rfl
theorem ti_162_12 : (q_I 162).2 12 = some (6, 1, 0, 0, 0, 13, []) := rfl
theorem ti_162_13 : (q_I 162).2 13 = some (14, 4, 0, 0, 0, 14, []) := rfl
theorem ti_162_14 : (q_I 162).2 14 = some (3, 1, 51, 108, 3, 17, [867, 6]) := rfl
theorem ti_162_17 : (q_I 162).2 17 = some (4, 3, 0, 0, 0, 18, []) := rfl
theorem mt_162 (a1 : Int) (H : a_P) : a_mt (a_pp H) 0 162 [(2, 133), (0, a1)] H (fn_162 a1 H) := by
  refine a_mtI (lo := [some (2, 133), some (0, a1)]) rfl fun d => ?_
  unfold fn_162
  refine a_w0 (Nat.le_succ _) ti_162_0 rfl ?_
  refine a_w14 (a := (1, a1)) (Nat.le_succ _) ti_162_1 rfl ?_
  refine a_w15 (z := 0) (Nat.le_succ _) ti_162_2 (by decide) ?_
  refine a_w2 (z := 1) (Nat.le_succ _) ti_162_3 (by decide) ?_
  refine a_w0 (Nat.le_succ _) ti_162_4 rfl ?_
  refine a_w1 (a := (2, 134)) (Nat.le_succ _) ti_162_5 rfl ?_
  refine a_w2 (z := 0) (Nat.le_succ _) ti_162_8 (by decide) ?_
  refine a_w5 (kk := 0) (Nat.le_succ _) ti_162_9 (fun _ => rfl) ?_
  refine a_w6 (a := (0, a_shl 1 (H 134 0))) (Nat.le_succ _) ti_162_10 rfl ?_
  refine a_w2 (z := 1) (Nat.le_succ _) ti_162_11 (by decide) ?_
  refine a_w6 (a := (0, a_w ((a_shl 1 (H 134 0)) - 1))) (Nat.le_succ _) ti_162_12 rfl ?_
  refine a_w14 (a := (1, (a_w ((a_shl 1 (H 134 0)) - 1)))) (Nat.le_succ _) ti_162_13 rfl ?_
  refine a_w3p (args := [(1, a1), (1, 0), (1, (a_w ((a_shl 1 (H 134 0)) - 1)))]) (Nat.le_succ _) ti_162_14 (mt_108 a1 0 (a_w ((a_shl 1 (H 134 0)) - 1)) H) rfl rfl rfl rfl ?_
  exact a_w4 (Nat.le_succ _) ti_162_17 rfl rfl rfl
/-- CarriedGateModel.bits(I)I -/
noncomputable def fn_163 (a0 : Int) : Int :=
  a_lp (fun (s1 : Int × Int) => 0) (fun (s1 : Int × Int) n4 => (if s1.2 < 8 then a_bd (a_w (s1.1 + (a_and (a_shr a0 s1.2) 1))) fun x1 =>
  a_bd (a_w (s1.2 + 1)) fun x2 =>
  n4 (x1, x2)
  else s1.1)) a_fuel (0, 0)
theorem ti_163_0 : (q_I 163).2 0 = some (2, 0, 0, 0, 0, 1, []) := rfl
theorem ti_163_1 : (q_I 163).2 1 = some (11, 0, 0, 1, 0, 2, []) := rfl
theorem ti_163_2 : (q_I 163).2 2 = some (2, 0, 0, 0, 0, 3, []) := rfl
theorem ti_163_3 : (q_I 163).2 3 = some (11, 0, 0, 2, 0, 4, []) := rfl
theorem ti_163_4 : (q_I 163).2 4 = some (0, 0, 0, 2, 0, 5, []) := rfl
theorem ti_163_5 : (q_I 163).2 5 = some (2, 1, 8, 0, 0, 7, []) := rfl
theorem ti_163_7 : (q_I 163).2 7 = some (9, 3, 0, 24, 0, 10, []) := rfl
theorem ti_163_10 : (q_I 163).2 10 = some (0, 0, 0, 1, 0, 11, []) := rfl
theorem ti_163_11 : (q_I 163).2 11 = some (0, 0, 0, 0, 0, 12, []) := rfl
theorem ti_163_12 : (q_I 163).2 12 = some (0, 0, 0, 2, 0, 13, []) := rfl
theorem ti_163_13 : (q_I 163).2 13 = some (6, 9, 0, 0, 0, 14, []) := rfl
theorem ti_163_14 : (q_I 163).2 14 = some (2, 0, 1, 0, 0, 15, []) := rfl
theorem ti_163_15 : (q_I 163).2 15 = some (6, 5, 0, 0, 0, 16, []) := rfl
theorem ti_163_16 : (q_I 163).2 16 = some (6, 0, 0, 0, 0, 17, []) := rfl
theorem ti_163_17 : (q_I 163).2 17 = some (11, 0, 0, 1, 0, 18, []) := rfl
theorem ti_163_18 : (q_I 163).2 18 = some (13, 0, 1, 2, 0, 21, []) := rfl
theorem ti_163_21 : (q_I 163).2 21 = some (7, 0, 0, 4, 0, 24, []) := rfl
theorem ti_163_24 : (q_I 163).2 24 = some (0, 0, 0, 1, 0, 25, []) := rfl
theorem ti_163_25 : (q_I 163).2 25 = some (4, 0, 0, 0, 0, 26, []) := rfl
theorem mt_163 (a0 : Int) (H : a_P) : a_mt (a_pp H) 0 163 [(0, a0)] H (fn_163 a0) := by
  refine a_mtI (lo := [some (0, a0), none, none]) rfl fun d => ?_
  unfold fn_163
  refine a_w2 (z := 0) (Nat.le_succ _) ti_163_0 (by decide) ?_
  refine a_w11 (lo' := [some (0, a0), some (0, 0), none]) (Nat.le_succ _) ti_163_1 rfl ?_
  refine a_w2 (z := 0) (Nat.le_succ _) ti_163_2 (by decide) ?_
  refine a_w11 (lo' := [some (0, a0), some (0, 0), some (0, 0)]) (Nat.le_succ _) ti_163_3 rfl ?_
  refine a_wk (a_wlp (fun (s : Int × Int) => [some (0, a0), some (0, s.1), some (0, s.2)]) (fun (s : Int × Int) => H) (fun N1 hN1 n4 hn4 s1 => ?_) a_fuel (a_fuel_le (by omega)) (0, 0)) (Nat.le_refl _) ⟨rfl, rfl, rfl, trivial⟩
  · refine a_w0 (Nat.le_refl _) ti_163_4 rfl ?_
    refine a_w2 (z := 8) (Nat.le_succ _) ti_163_5 (by decide) ?_
    refine a_w9_3 (Nat.le_succ _) ti_163_7 ?_ ?_
    · refine a_w0 (Nat.le_succ _) ti_163_24 rfl ?_
      exact a_w4 (Nat.le_succ _) ti_163_25 rfl rfl rfl
    · refine a_w0 (Nat.le_succ _) ti_163_10 rfl ?_
      refine a_w0 (Nat.le_succ _) ti_163_11 rfl ?_
      refine a_w0 (Nat.le_succ _) ti_163_12 rfl ?_
      refine a_w6 (a := (0, a_shr a0 s1.2)) (Nat.le_succ _) ti_163_13 rfl ?_
      refine a_w2 (z := 1) (Nat.le_succ _) ti_163_14 (by decide) ?_
      refine a_w6 (a := (0, a_and (a_shr a0 s1.2) 1)) (Nat.le_succ _) ti_163_15 rfl ?_
      refine a_w6 (a := (0, a_w (s1.1 + (a_and (a_shr a0 s1.2) 1)))) (Nat.le_succ _) ti_163_16 rfl ?_
      refine a_w11b (lof := fun x1 => [some (0, a0), some (0, x1), some (0, s1.2)]) (Nat.le_succ _) ti_163_17 (fun _ => rfl) (fun x1 => ?_)
      refine a_w13 (c' := 1) (lof := fun x2 => [some (0, a0), some (0, x1), some (0, x2)]) (Nat.le_succ _) ti_163_18 rfl (by decide) rfl (fun _ => rfl) (fun x2 => ?_)
      refine a_w7 (Nat.le_succ _) ti_163_21 ?_
      exact a_wk (hn4 (x1, x2)) (by omega) ⟨rfl, rfl, rfl, trivial⟩
/-- CarriedGateModel.comesNearest(I)V -/
noncomputable def fn_164 (a1 : Int) (H : a_P) : a_P :=
  a_bd (a_up H 133 9 99) fun H1 =>
  a_bd (fn_153 H1) fun H2 =>
  a_bd (H2 134 3) fun x1 =>
  a_bd (H2 134 1) fun x2 =>
  a_lp (fun (s1 : Int × a_P) => s1.2) (fun (s1 : Int × a_P) n27 => (if s1.1 < 144 then a_bd (fn_114 (a_div s1.1 4) x2) fun x3 =>
  a_jn (fun (s2 : Int) => a_bd (a_w (x3 + s2)) fun x4 =>
  a_jn (fun (s3 : a_P) => a_bd (a_w (s1.1 + 1)) fun x5 =>
  n27 (x5, s3)) fun j264 =>
  (if x3 < (s1.2 134 (a_w (31 + x1))) then a_bd (a_up s1.2 134 1 (a_div s1.1 4)) fun H3 =>
  a_bd (a_up H3 134 2 (a_rem s1.1 4)) fun H4 =>
  a_bd (a_up H4 134 (a_w (15 + x1)) (a_div s1.1 4)) fun H5 =>
  a_bd (a_xor (fn_119 H5) a1) fun x6 =>
  a_bd (fn_154 H5) fun H6 =>
  a_jn (fun (s4 : Int) => a_jn (fun (s5 : Int) => a_bd (a_up H6 133 9 s5) fun H7 =>
  a_jn (fun (s6 : Int) => a_bd (a_up H7 133 10 s6) fun H8 =>
  a_jn (fun (s7 : Int) => a_bd (a_up H8 133 11 s7) fun H9 =>
  a_jn (fun (s8 : Int) => a_bd (a_up H9 133 12 s8) fun H10 =>
  a_jn (fun (s9 : Int) => a_bd (a_up H10 133 13 s9) fun H11 =>
  j264 H11) fun j261 =>
  (if s4 = 0 then j261 (H10 133 13)
  else j261 (a_rem s1.1 4))) fun j241 =>
  (if s4 = 0 then j241 (H9 133 12)
  else j241 (a_div s1.1 4))) fun j221 =>
  (if s4 = 0 then j221 (H8 133 11)
  else j221 x4)) fun j203 =>
  (if s4 = 0 then j203 (H7 133 10)
  else j203 x6)) fun j185 =>
  (if s4 = 0 then j185 (H6 133 9)
  else j185 (fn_163 x6))) fun j165 =>
  a_jn (fun (s10 : Unit) => j165 1) fun j160 =>
  (if (fn_163 x6) < (H6 133 9) then j160 ()
  else a_jn (fun (s11 : Unit) => j165 0) fun j164 =>
  (if (fn_163 x6) = (H6 133 9) then (if x4 < (H6 133 11) then j160 ()
  else j164 ())
  else j164 ()))
  else j264 s1.2)) fun j65 =>
  (if (a_rem s1.1 4) = (s1.2 138 2) then j65 0
  else j65 1)
  else s1.2)) a_fuel (0, H2)
theorem ti_164_0 : (q_I 164).2 0 = some (0, 4, 0, 0, 2, 1, []) := rfl
theorem ti_164_1 : (q_I 164).2 1 = some (2, 1, 99, 0, 0, 3, []) := rfl
theorem ti_164_3 : (q_I 164).2 3 = some (10, 0, 201, 6, 9, 6, [804]) := rfl
theorem ti_164_6 : (q_I 164).2 6 = some (0, 4, 0, 0, 2, 7, []) := rfl
theorem ti_164_7 : (q_I 164).2 7 = some (3, 0, 187, 153, 1, 10, [1048, 6]) := rfl
theorem ti_164_10 : (q_I 164).2 10 = some (0, 4, 0, 0, 2, 11, []) := rfl
theorem ti_164_11 : (q_I 164).2 11 = some (1, 0, 7, 6, 0, 14, [795]) := rfl
theorem ti_164_14 : (q_I 164).2 14 = some (2, 0, 3, 0, 0, 15, []) := rfl
theorem ti_164_15 : (q_I 164).2 15 = some (5, 10, 0, 0, 0, 16, []) := rfl
theorem ti_164_16 : (q_I 164).2 16 = some (11, 0, 0, 2, 0, 17, []) := rfl
theorem ti_164_17 : (q_I 164).2 17 = some (0, 4, 0, 0, 2, 18, []) := rfl
theorem ti_164_18 : (q_I 164).2 18 = some (1, 0, 7, 6, 0, 21, [795]) := rfl
theorem ti_164_21 : (q_I 164).2 21 = some (2, 0, 1, 0, 0, 22, []) := rfl
theorem ti_164_22 : (q_I 164).2 22 = some (5, 10, 0, 0, 0, 23, []) := rfl
theorem ti_164_23 : (q_I 164).2 23 = some (11, 0, 0, 3, 0, 24, []) := rfl
theorem ti_164_24 : (q_I 164).2 24 = some (2, 0, 0, 0, 0, 25, []) := rfl
theorem ti_164_25 : (q_I 164).2 25 = some (11, 1, 0, 4, 0, 27, []) := rfl
theorem ti_164_27 : (q_I 164).2 27 = some (0, 1, 0, 4, 0, 29, []) := rfl
theorem ti_164_29 : (q_I 164).2 29 = some (2, 2, 144, 0, 0, 32, []) := rfl
theorem ti_164_32 : (q_I 164).2 32 = some (9, 3, 0, 270, 0, 35, []) := rfl
theorem ti_164_35 : (q_I 164).2 35 = some (0, 1, 0, 4, 0, 37, []) := rfl
theorem ti_164_37 : (q_I 164).2 37 = some (2, 0, 4, 0, 0, 38, []) := rfl
theorem ti_164_38 : (q_I 164).2 38 = some (6, 3, 0, 0, 0, 39, []) := rfl
theorem ti_164_39 : (q_I 164).2 39 = some (0, 0, 0, 3, 0, 40, []) := rfl
theorem ti_164_40 : (q_I 164).2 40 = some (3, 1, 69, 114, 2, 43, [910, 6]) := rfl
theorem ti_164_43 : (q_I 164).2 43 = some (11, 1, 0, 5, 0, 45, []) := rfl
theorem ti_164_45 : (q_I 164).2 45 = some (0, 1, 0, 5, 0, 47, []) := rfl
theorem ti_164_47 : (q_I 164).2 47 = some (0, 1, 0, 4, 0, 49, []) := rfl
theorem ti_164_49 : (q_I 164).2 49 = some (2, 0, 4, 0, 0, 50, []) := rfl
theorem ti_164_50 : (q_I 164).2 50 = some (6, 4, 0, 0, 0, 51, []) := rfl
theorem ti_164_51 : (q_I 164).2 51 = some (0, 4, 0, 0, 2, 52, []) := rfl
theorem ti_164_52 : (q_I 164).2 52 = some (1, 0, 22, 6, 8, 55, [803]) := rfl
theorem ti_164_55 : (q_I 164).2 55 = some (2, 0, 2, 0, 0, 56, []) := rfl
theorem ti_164_56 : (q_I 164).2 56 = some (5, 10, 0, 0, 0, 57, []) := rfl
theorem ti_164_57 : (q_I 164).2 57 = some (9, 1, 0, 64, 0, 60, []) := rfl
theorem ti_164_60 : (q_I 164).2 60 = some (2, 0, 0, 0, 0, 61, []) := rfl
theorem ti_164_61 : (q_I 164).2 61 = some (7, 0, 0, 65, 0, 64, []) := rfl
theorem ti_164_64 : (q_I 164).2 64 = some (2, 0, 1, 0, 0, 65, []) := rfl
theorem ti_164_65 : (q_I 164).2 65 = some (6, 0, 0, 0, 0, 66, []) := rfl
theorem ti_164_66 : (q_I 164).2 66 = some (11, 1, 0, 6, 0, 68, []) := rfl
theorem ti_164_68 : (q_I 164).2 68 = some (0, 1, 0, 5, 0, 70, []) := rfl
theorem ti_164_70 : (q_I 164).2 70 = some (0, 4, 0, 0, 2, 71, []) := rfl
theorem ti_164_71 : (q_I 164).2 71 = some (1, 0, 7, 6, 0, 74, [795]) := rfl
theorem ti_164_74 : (q_I 164).2 74 = some (2, 1, 31, 0, 0, 76, []) := rfl
theorem ti_164_76 : (q_I 164).2 76 = some (0, 0, 0, 2, 0, 77, []) := rfl
theorem ti_164_77 : (q_I 164).2 77 = some (6, 0, 0, 0, 0, 78, []) := rfl
theorem ti_164_78 : (q_I 164).2 78 = some (5, 10, 0, 0, 0, 79, []) := rfl
theorem ti_164_79 : (q_I 164).2 79 = some (9, 3, 0, 264, 0, 82, []) := rfl
theorem ti_164_82 : (q_I 164).2 82 = some (0, 4, 0, 0, 2, 83, []) := rfl
theorem ti_164_83 : (q_I 164).2 83 = some (1, 0, 7, 6, 0, 86, [795]) := rfl
theorem ti_164_86 : (q_I 164).2 86 = some (2, 0, 1, 0, 0, 87, []) := rfl
theorem ti_164_87 : (q_I 164).2 87 = some (0, 1, 0, 4, 0, 89, []) := rfl
theorem ti_164_89 : (q_I 164).2 89 = some (2, 0, 4, 0, 0, 90, []) := rfl
theorem ti_164_90 : (q_I 164).2 90 = some (6, 3, 0, 0, 0, 91, []) := rfl
theorem ti_164_91 : (q_I 164).2 91 = some (12, 10, 0, 0, 0, 92, []) := rfl
theorem ti_164_92 : (q_I 164).2 92 = some (0, 4, 0, 0, 2, 93, []) := rfl
theorem ti_164_93 : (q_I 164).2 93 = some (1, 0, 7, 6, 0, 96, [795]) := rfl
theorem ti_164_96 : (q_I 164).2 96 = some (2, 0, 2, 0, 0, 97, []) := rfl
theorem ti_164_97 : (q_I 164).2 97 = some (0, 1, 0, 4, 0, 99, []) := rfl
theorem ti_164_99 : (q_I 164).2 99 = some (2, 0, 4, 0, 0, 100, []) := rfl
theorem ti_164_100 : (q_I 164).2 100 = some (6, 4, 0, 0, 0, 101, []) := rfl
theorem ti_164_101 : (q_I 164).2 101 = some (12, 10, 0, 0, 0, 102, []) := rfl
theorem ti_164_102 : (q_I 164).2 102 = some (0, 4, 0, 0, 2, 103, []) := rfl
theorem ti_164_103 : (q_I 164).2 103 = some (1, 0, 7, 6, 0, 106, [795]) := rfl
theorem ti_164_106 : (q_I 164).2 106 = some (2, 1, 15, 0, 0, 108, []) := rfl
theorem ti_164_108 : (q_I 164).2 108 = some (0, 0, 0, 2, 0, 109, []) := rfl
theorem ti_164_109 : (q_I 164).2 109 = some (6, 0, 0, 0, 0, 110, []) := rfl
theorem ti_164_110 : (q_I 164).2 110 = some (0, 1, 0, 4, 0, 112, []) := rfl
theorem ti_164_112 : (q_I 164).2 112 = some (2, 0, 4, 0, 0, 113, []) := rfl
theorem ti_164_113 : (q_I 164).2 113 = some (6, 3, 0, 0, 0, 114, []) := rfl
theorem ti_164_114 : (q_I 164).2 114 = some (12, 10, 0, 0, 0, 115, []) := rfl
theorem ti_164_115 : (q_I 164).2 115 = some (0, 4, 0, 0, 2, 116, []) := rfl
theorem ti_164_116 : (q_I 164).2 116 = some (3, 0, 80, 119, 1, 119, [895, 6]) := rfl
theorem ti_164_119 : (q_I 164).2 119 = some (0, 0, 0, 1, 0, 120, []) := rfl
theorem ti_164_120 : (q_I 164).2 120 = some (6, 7, 0, 0, 0, 121, []) := rfl
theorem ti_164_121 : (q_I 164).2 121 = some (11, 1, 0, 7, 0, 123, []) := rfl
theorem ti_164_123 : (q_I 164).2 123 = some (0, 4, 0, 0, 2, 124, []) := rfl
theorem ti_164_124 : (q_I 164).2 124 = some (3, 0, 193, 154, 1, 127, [1056, 6]) := rfl
theorem ti_164_127 : (q_I 164).2 127 = some (0, 1, 0, 7, 0, 129, []) := rfl
theorem ti_164_129 : (q_I 164).2 129 = some (3, 1, 204, 163, 1, 132, [1093, 6]) := rfl
theorem ti_164_132 : (q_I 164).2 132 = some (0, 4, 0, 0, 2, 133, []) := rfl
theorem ti_164_133 : (q_I 164).2 133 = some (1, 0, 201, 6, 9, 136, [804]) := rfl
theorem ti_164_136 : (q_I 164).2 136 = some (9, 2, 0, 160, 0, 139, []) := rfl
theorem ti_164_139 : (q_I 164).2 139 = some (0, 1, 0, 7, 0, 141, []) := rfl
theorem ti_164_141 : (q_I 164).2 141 = some (3, 1, 204, 163, 1, 144, [1093, 6]) := rfl
theorem ti_164_144 : (q_I 164).2 144 = some (0, 4, 0, 0, 2, 145, []) := rfl
theorem ti_164_145 : (q_I 164).2 145 = some (1, 0, 201, 6, 9, 148, [804]) := rfl
theorem ti_164_148 : (q_I 164).2 148 = some (9, 1, 0, 164, 0, 151, []) := rfl
theorem ti_164_151 : (q_I 164).2 151 = some (0, 1, 0, 6, 0, 153, []) := rfl
theorem ti_164_153 : (q_I 164).2 153 = some (0, 4, 0, 0, 2, 154, []) := rfl
theorem ti_164_154 : (q_I 164).2 154 = some (1, 0, 207, 6, 11, 157, [806]) := rfl
theorem ti_164_157 : (q_I 164).2 157 = some (9, 3, 0, 164, 0, 160, []) := rfl
theorem ti_164_164 : (q_I 164).2 164 = some (2, 0, 0, 0, 0, 165, []) := rfl
theorem ti_164_160 : (q_I 164).2 160 = some (2, 0, 1, 0, 0, 161, []) := rfl
theorem ti_164_161 : (q_I 164).2 161 = some (7, 0, 0, 165, 0, 164, []) := rfl
theorem ti_164_165 : (q_I 164).2 165 = some (11, 1, 0, 8, 0, 167, []) := rfl
theorem ti_164_167 : (q_I 164).2 167 = some (0, 4, 0, 0, 2, 168, []) := rfl
theorem ti_164_168 : (q_I 164).2 168 = some (0, 1, 0, 8, 0, 170, []) := rfl
theorem ti_164_170 : (q_I 164).2 170 = some (8, 0, 0, 181, 0, 173, []) := rfl
theorem ti_164_173 : (q_I 164).2 173 = some (0, 1, 0, 7, 0, 175, []) := rfl
theorem ti_164_175 : (q_I 164).2 175 = some (3, 1, 204, 163, 1, 178, [1093, 6]) := rfl
theorem ti_164_178 : (q_I 164).2 178 = some (7, 0, 0, 185, 0, 181, []) := rfl
theorem ti_164_181 : (q_I 164).2 181 = some (0, 4, 0, 0, 2, 182, []) := rfl
theorem ti_164_182 : (q_I 164).2 182 = some (1, 0, 201, 6, 9, 185, [804]) := rfl
theorem ti_164_185 : (q_I 164).2 185 = some (10, 0, 201, 6, 9, 188, [804]) := rfl
theorem ti_164_188 : (q_I 164).2 188 = some (0, 4, 0, 0, 2, 189, []) := rfl
theorem ti_164_189 : (q_I 164).2 189 = some (0, 1, 0, 8, 0, 191, []) := rfl
theorem ti_164_191 : (q_I 164).2 191 = some (8, 0, 0, 199, 0, 194, []) := rfl
theorem ti_164_194 : (q_I 164).2 194 = some (0, 1, 0, 7, 0, 196, []) := rfl
theorem ti_164_196 : (q_I 164).2 196 = some (7, 0, 0, 203, 0, 199, []) := rfl
theorem ti_164_199 : (q_I 164).2 199 = some (0, 4, 0, 0, 2, 200, []) := rfl
theorem ti_164_200 : (q_I 164).2 200 = some (1, 0, 210, 6, 10, 203, [805]) := rfl
theorem ti_164_203 : (q_I 164).2 203 = some (10, 0, 210, 6, 10, 206, [805]) := rfl
theorem ti_164_206 : (q_I 164).2 206 = some (0, 4, 0, 0, 2, 207, []) := rfl
theorem ti_164_207 : (q_I 164).2 207 = some (0, 1, 0, 8, 0, 209, []) := rfl
theorem ti_164_209 : (q_I 164).2 209 = some (8, 0, 0, 217, 0, 212, []) := rfl
theorem ti_164_212 : (q_I 164).2 212 = some (0, 1, 0, 6, 0, 214, []) := rfl
theorem ti_164_214 : (q_I 164).2 214 = some (7, 0, 0, 221, 0, 217, []) := rfl
theorem ti_164_217 : (q_I 164).2 217 = some (0, 4, 0, 0, 2, 218, []) := rfl
theorem ti_164_218 : (q_I 164).2 218 = some (1, 0, 207, 6, 11, 221, [806]) := rfl
theorem ti_164_221 : (q_I 164).2 221 = some (10, 0, 207, 6, 11, 224, [806]) := rfl
theorem ti_164_224 : (q_I 164).2 224 = some (0, 4, 0, 0, 2, 225, []) := rfl
theorem ti_164_225 : (q_I 164).2 225 = some (0, 1, 0, 8, 0, 227, []) := rfl
theorem ti_164_227 : (q_I 164).2 227 = some (8, 0, 0, 237, 0, 230, []) := rfl
theorem ti_164_230 : (q_I 164).2 230 = some (0, 1, 0, 4, 0, 232, []) := rfl
theorem ti_164_232 : (q_I 164).2 232 = some (2, 0, 4, 0, 0, 233, []) := rfl
theorem ti_164_233 : (q_I 164).2 233 = some (6, 3, 0, 0, 0, 234, []) := rfl
theorem ti_164_234 : (q_I 164).2 234 = some (7, 0, 0, 241, 0, 237, []) := rfl
theorem ti_164_237 : (q_I 164).2 237 = some (0, 4, 0, 0, 2, 238, []) := rfl
theorem ti_164_238 : (q_I 164).2 238 = some (1, 0, 213, 6, 12, 241, [807]) := rfl
theorem ti_164_241 : (q_I 164).2 241 = some (10, 0, 213, 6, 12, 244, [807]) := rfl
theorem ti_164_244 : (q_I 164).2 244 = some (0, 4, 0, 0, 2, 245, []) := rfl
theorem ti_164_245 : (q_I 164).2 245 = some (0, 1, 0, 8, 0, 247, []) := rfl
theorem ti_164_247 : (q_I 164).2 247 = some (8, 0, 0, 257, 0, 250, []) := rfl
theorem ti_164_250 : (q_I 164).2 250 = some (0, 1, 0, 4, 0, 252, []) := rfl
theorem ti_164_252 : (q_I 164).2 252 = some (2, 0, 4, 0, 0, 253, []) := rfl
theorem ti_164_253 : (q_I 164).2 253 = some (6, 4, 0, 0, 0, 254, []) := rfl
theorem ti_164_254 : (q_I 164).2 254 = some (7, 0, 0, 261, 0, 257, []) := rfl
theorem ti_164_257 : (q_I 164).2 257 = some (0, 4, 0, 0, 2, 258, []) := rfl
theorem ti_164_258 : (q_I 164).2 258 = some (1, 0, 216, 6, 13, 261, [808]) := rfl
theorem ti_164_261 : (q_I 164).2 261 = some (10, 0, 216, 6, 13, 264, [808]) := rfl
theorem ti_164_264 : (q_I 164).2 264 = some (13, 0, 1, 4, 0, 267, []) := rfl
theorem ti_164_267 : (q_I 164).2 267 = some (7, 0, 0, 27, 0, 270, []) := rfl
theorem ti_164_270 : (q_I 164).2 270 = some (4, 4, 0, 0, 0, 271, []) := rfl
theorem mt_164 (a1 : Int) (H : a_P) : a_mt a_pv 9 164 [(2, 133), (0, a1)] H (fn_164 a1 H) := by
  refine a_mtI (lo := [some (2, 133), some (0, a1), none, none, none, none, none, none, none]) rfl fun d => ?_
  unfold fn_164
  refine a_w0 (Nat.le_succ _) ti_164_0 rfl ?_
  refine a_w2 (z := 99) (Nat.le_succ _) ti_164_1 (by decide) ?_
  refine a_w10 (Nat.le_succ _) ti_164_3 rfl rfl rfl (fun H1 => ?_)
  refine a_w0 (Nat.le_succ _) ti_164_6 rfl ?_
  refine a_w3v (args := [(2, 133)]) (Nat.le_succ _) ti_164_7 (mt_153 H1) rfl rfl (fun H2 => ?_)
  refine a_w0 (Nat.le_succ _) ti_164_10 rfl ?_
  refine a_w1 (a := (2, 134)) (Nat.le_succ _) ti_164_11 rfl ?_
  refine a_w2 (z := 3) (Nat.le_succ _) ti_164_14 (by decide) ?_
  refine a_w5 (kk := 0) (Nat.le_succ _) ti_164_15 (fun _ => rfl) ?_
  refine a_w11b (lof := fun x1 => [some (2, 133), some (0, a1), some (0, x1), none, none, none, none, none, none]) (Nat.le_succ _) ti_164_16 (fun _ => rfl) (fun x1 => ?_)
  refine a_w0 (Nat.le_succ _) ti_164_17 rfl ?_
  refine a_w1 (a := (2, 134)) (Nat.le_succ _) ti_164_18 rfl ?_
  refine a_w2 (z := 1) (Nat.le_succ _) ti_164_21 (by decide) ?_
  refine a_w5 (kk := 0) (Nat.le_succ _) ti_164_22 (fun _ => rfl) ?_
  refine a_w11b (lof := fun x2 => [some (2, 133), some (0, a1), some (0, x1), some (0, x2), none, none, none, none, none]) (Nat.le_succ _) ti_164_23 (fun _ => rfl) (fun x2 => ?_)
  refine a_w2 (z := 0) (Nat.le_succ _) ti_164_24 (by decide) ?_
  refine a_w11 (lo' := [some (2, 133), some (0, a1), some (0, x1), some (0, x2), some (0, 0), none, none, none, none]) (Nat.le_succ _) ti_164_25 rfl ?_
  refine a_wk (a_wlp (fun (s : Int × a_P) => [some (2, 133), some (0, a1), some (0, x1), some (0, x2), some (0, s.1), none, none, none, none]) (fun (s : Int × a_P) => s.2) (fun N1 hN1 n27 hn27 s1 => ?_) a_fuel (a_fuel_le (by omega)) (0, H2)) (Nat.le_refl _) ⟨rfl, rfl, rfl, rfl, rfl, trivial⟩
  · refine a_w0 (Nat.le_refl _) ti_164_27 rfl ?_
    refine a_w2 (z := 144) (Nat.le_succ _) ti_164_29 (by decide) ?_
    refine a_w9_3 (Nat.le_succ _) ti_164_32 ?_ ?_
    · exact a_w4v (Nat.le_succ _) ti_164_270 rfl rfl
    · refine a_w0 (Nat.le_succ _) ti_164_35 rfl ?_
      refine a_w2 (z := 4) (Nat.le_succ _) ti_164_37 (by decide) ?_
      refine a_w6 (a := (0, a_div s1.1 4)) (Nat.le_succ _) ti_164_38 rfl ?_
      refine a_w0 (Nat.le_succ _) ti_164_39 rfl ?_
      refine a_w3p (args := [(0, a_div s1.1 4), (0, x2)]) (Nat.le_succ _) ti_164_40 (mt_114 (a_div s1.1 4) x2 s1.2) rfl rfl rfl rfl ?_
      refine a_w11b (lof := fun x3 => [some (2, 133), some (0, a1), some (0, x1), some (0, x2), some (0, s1.1), some (0, x3), none, none, none]) (Nat.le_succ _) ti_164_43 (fun _ => rfl) (fun x3 => ?_)
      refine a_w0 (Nat.le_succ _) ti_164_45 rfl ?_
      refine a_w0 (Nat.le_succ _) ti_164_47 rfl ?_
      refine a_w2 (z := 4) (Nat.le_succ _) ti_164_49 (by decide) ?_
      refine a_w6 (a := (0, a_rem s1.1 4)) (Nat.le_succ _) ti_164_50 rfl ?_
      refine a_w0 (Nat.le_succ _) ti_164_51 rfl ?_
      refine a_w1 (a := (2, 138)) (Nat.le_succ _) ti_164_52 rfl ?_
      refine a_w2 (z := 2) (Nat.le_succ _) ti_164_55 (by decide) ?_
      refine a_w5 (kk := 0) (Nat.le_succ _) ti_164_56 (fun _ => rfl) ?_
      refine a_wjn 65 (fun (s : Int) => [some (2, 133), some (0, a1), some (0, x1), some (0, x2), some (0, s1.1), some (0, x3), none, none, none]) (fun (s : Int) => [(0, s), (0, x3)]) (fun (s : Int) => s1.2) (fun s2 => ?_) (fun j65 hj65 => ?_)
      · refine a_w6 (a := (0, a_w (x3 + s2))) (Nat.le_succ _) ti_164_65 rfl ?_
        refine a_w11b (lof := fun x4 => [some (2, 133), some (0, a1), some (0, x1), some (0, x2), some (0, s1.1), some (0, x3), some (0, x4), none, none]) (Nat.le_succ _) ti_164_66 (fun _ => rfl) (fun x4 => ?_)
        refine a_w0 (Nat.le_succ _) ti_164_68 rfl ?_
        refine a_w0 (Nat.le_succ _) ti_164_70 rfl ?_
        refine a_w1 (a := (2, 134)) (Nat.le_succ _) ti_164_71 rfl ?_
        refine a_w2 (z := 31) (Nat.le_succ _) ti_164_74 (by decide) ?_
        refine a_w0 (Nat.le_succ _) ti_164_76 rfl ?_
        refine a_w6 (a := (0, a_w (31 + x1))) (Nat.le_succ _) ti_164_77 rfl ?_
        refine a_w5 (kk := 0) (Nat.le_succ _) ti_164_78 (fun _ => rfl) ?_
        refine a_wjn 264 (fun (s : a_P) => [some (2, 133), some (0, a1), some (0, x1), some (0, x2), some (0, s1.1), none, none, none, none]) (fun (s : a_P) => []) (fun (s : a_P) => s) (fun s3 => ?_) (fun j264 hj264 => ?_)
        · refine a_w13 (c' := 1) (lof := fun x5 => [some (2, 133), some (0, a1), some (0, x1), some (0, x2), some (0, x5), none, none, none, none]) (Nat.le_succ _) ti_164_264 rfl (by decide) rfl (fun _ => rfl) (fun x5 => ?_)
          refine a_w7 (Nat.le_succ _) ti_164_267 ?_
          exact a_wk (hn27 (x5, s3)) (by omega) ⟨rfl, rfl, rfl, rfl, rfl, trivial⟩
        · refine a_w9_3 (Nat.le_succ _) ti_164_79 ?_ ?_
          · exact a_wk (hj264 s1.2) (by omega) ⟨rfl, rfl, rfl, rfl, rfl, trivial⟩
          · refine a_w0 (Nat.le_succ _) ti_164_82 rfl ?_
            refine a_w1 (a := (2, 134)) (Nat.le_succ _) ti_164_83 rfl ?_
            refine a_w2 (z := 1) (Nat.le_succ _) ti_164_86 (by decide) ?_
            refine a_w0 (Nat.le_succ _) ti_164_87 rfl ?_
            refine a_w2 (z := 4) (Nat.le_succ _) ti_164_89 (by decide) ?_
            refine a_w6 (a := (0, a_div s1.1 4)) (Nat.le_succ _) ti_164_90 rfl ?_
            refine a_w12 (Nat.le_succ _) ti_164_91 (Or.inl ⟨rfl, rfl⟩) (fun H3 => ?_)
            refine a_w0 (Nat.le_succ _) ti_164_92 rfl ?_
            refine a_w1 (a := (2, 134)) (Nat.le_succ _) ti_164_93 rfl ?_
            refine a_w2 (z := 2) (Nat.le_succ _) ti_164_96 (by decide) ?_
            refine a_w0 (Nat.le_succ _) ti_164_97 rfl ?_
            refine a_w2 (z := 4) (Nat.le_succ _) ti_164_99 (by decide) ?_
            refine a_w6 (a := (0, a_rem s1.1 4)) (Nat.le_succ _) ti_164_100 rfl ?_
            refine a_w12 (Nat.le_succ _) ti_164_101 (Or.inl ⟨rfl, rfl⟩) (fun H4 => ?_)
            refine a_w0 (Nat.le_succ _) ti_164_102 rfl ?_
            refine a_w1 (a := (2, 134)) (Nat.le_succ _) ti_164_103 rfl ?_
            refine a_w2 (z := 15) (Nat.le_succ _) ti_164_106 (by decide) ?_
            refine a_w0 (Nat.le_succ _) ti_164_108 rfl ?_
            refine a_w6 (a := (0, a_w (15 + x1))) (Nat.le_succ _) ti_164_109 rfl ?_
            refine a_w0 (Nat.le_succ _) ti_164_110 rfl ?_
            refine a_w2 (z := 4) (Nat.le_succ _) ti_164_112 (by decide) ?_
            refine a_w6 (a := (0, a_div s1.1 4)) (Nat.le_succ _) ti_164_113 rfl ?_
            refine a_w12 (Nat.le_succ _) ti_164_114 (Or.inl ⟨rfl, rfl⟩) (fun H5 => ?_)
            refine a_w0 (Nat.le_succ _) ti_164_115 rfl ?_
            refine a_w3p (args := [(2, 133)]) (Nat.le_succ _) ti_164_116 (mt_119 H5) rfl rfl rfl rfl ?_
            refine a_w0 (Nat.le_succ _) ti_164_119 rfl ?_
            refine a_w6 (a := (0, a_xor (fn_119 H5) a1)) (Nat.le_succ _) ti_164_120 rfl ?_
            refine a_w11b (lof := fun x6 => [some (2, 133), some (0, a1), some (0, x1), some (0, x2), some (0, s1.1), some (0, x3), some (0, x4), some (0, x6), none]) (Nat.le_succ _) ti_164_121 (fun _ => rfl) (fun x6 => ?_)
            refine a_w0 (Nat.le_succ _) ti_164_123 rfl ?_
            refine a_w3v (args := [(2, 133)]) (Nat.le_succ _) ti_164_124 (mt_154 H5) rfl rfl (fun H6 => ?_)
            refine a_w0 (Nat.le_succ _) ti_164_127 rfl ?_
            refine a_w3p (args := [(0, x6)]) (Nat.le_succ _) ti_164_129 (mt_163 x6 H6) rfl rfl rfl rfl ?_
            refine a_w0 (Nat.le_succ _) ti_164_132 rfl ?_
            refine a_w1 (a := (0, H6 133 9)) (Nat.le_succ _) ti_164_133 rfl ?_
            refine a_wjn 165 (fun (s : Int) => [some (2, 133), some (0, a1), some (0, x1), some (0, x2), some (0, s1.1), none, some (0, x4), some (0, x6), none]) (fun (s : Int) => [(0, s)]) (fun (s : Int) => H6) (fun s4 => ?_) (fun j165 hj165 => ?_)
            · refine a_w11 (lo' := [some (2, 133), some (0, a1), some (0, x1), some (0, x2), some (0, s1.1), none, some (0, x4), some (0, x6), some (0, s4)]) (Nat.le_succ _) ti_164_165 rfl ?_
              refine a_w0 (Nat.le_succ _) ti_164_167 rfl ?_
              refine a_w0 (Nat.le_succ _) ti_164_168 rfl ?_
              refine a_wjn 185 (fun (s : Int) => [some (2, 133), some (0, a1), some (0, x1), some (0, x2), some (0, s1.1), none, some (0, x4), some (0, x6), some (0, s4)]) (fun (s : Int) => [(0, s), (2, 133)]) (fun (s : Int) => H6) (fun s5 => ?_) (fun j185 hj185 => ?_)
              · refine a_w10 (Nat.le_succ _) ti_164_185 rfl rfl rfl (fun H7 => ?_)
                refine a_w0 (Nat.le_succ _) ti_164_188 rfl ?_
                refine a_w0 (Nat.le_succ _) ti_164_189 rfl ?_
                refine a_wjn 203 (fun (s : Int) => [some (2, 133), some (0, a1), some (0, x1), some (0, x2), some (0, s1.1), none, some (0, x4), none, some (0, s4)]) (fun (s : Int) => [(0, s), (2, 133)]) (fun (s : Int) => H7) (fun s6 => ?_) (fun j203 hj203 => ?_)
                · refine a_w10 (Nat.le_succ _) ti_164_203 rfl rfl rfl (fun H8 => ?_)
                  refine a_w0 (Nat.le_succ _) ti_164_206 rfl ?_
                  refine a_w0 (Nat.le_succ _) ti_164_207 rfl ?_
                  refine a_wjn 221 (fun (s : Int) => [some (2, 133), some (0, a1), some (0, x1), some (0, x2), some (0, s1.1), none, none, none, some (0, s4)]) (fun (s : Int) => [(0, s), (2, 133)]) (fun (s : Int) => H8) (fun s7 => ?_) (fun j221 hj221 => ?_)
                  · refine a_w10 (Nat.le_succ _) ti_164_221 rfl rfl rfl (fun H9 => ?_)
                    refine a_w0 (Nat.le_succ _) ti_164_224 rfl ?_
                    refine a_w0 (Nat.le_succ _) ti_164_225 rfl ?_
                    refine a_wjn 241 (fun (s : Int) => [some (2, 133), some (0, a1), some (0, x1), some (0, x2), some (0, s1.1), none, none, none, some (0, s4)]) (fun (s : Int) => [(0, s), (2, 133)]) (fun (s : Int) => H9) (fun s8 => ?_) (fun j241 hj241 => ?_)
                    · refine a_w10 (Nat.le_succ _) ti_164_241 rfl rfl rfl (fun H10 => ?_)
                      refine a_w0 (Nat.le_succ _) ti_164_244 rfl ?_
                      refine a_w0 (Nat.le_succ _) ti_164_245 rfl ?_
                      refine a_wjn 261 (fun (s : Int) => [some (2, 133), some (0, a1), some (0, x1), some (0, x2), some (0, s1.1), none, none, none, none]) (fun (s : Int) => [(0, s), (2, 133)]) (fun (s : Int) => H10) (fun s9 => ?_) (fun j261 hj261 => ?_)
                      · refine a_w10 (Nat.le_succ _) ti_164_261 rfl rfl rfl (fun H11 => ?_)
                        exact a_wk (hj264 H11) (by omega) ⟨rfl, rfl, rfl, rfl, rfl, trivial⟩
                      · refine a_w8_0 (Nat.le_succ _) ti_164_247 ?_ ?_
                        · refine a_w0 (Nat.le_succ _) ti_164_257 rfl ?_
                          refine a_w1 (a := (0, H10 133 13)) (Nat.le_succ _) ti_164_258 rfl ?_
                          exact a_wk (hj261 (H10 133 13)) (by omega) ⟨rfl, rfl, rfl, rfl, rfl, trivial⟩
                        · refine a_w0 (Nat.le_succ _) ti_164_250 rfl ?_
                          refine a_w2 (z := 4) (Nat.le_succ _) ti_164_252 (by decide) ?_
                          refine a_w6 (a := (0, a_rem s1.1 4)) (Nat.le_succ _) ti_164_253 rfl ?_
                          refine a_w7 (Nat.le_succ _) ti_164_254 ?_
                          exact a_wk (hj261 (a_rem s1.1 4)) (by omega) ⟨rfl, rfl, rfl, rfl, rfl, trivial⟩
                    · refine a_w8_0 (Nat.le_succ _) ti_164_227 ?_ ?_
                      · refine a_w0 (Nat.le_succ _) ti_164_237 rfl ?_
                        refine a_w1 (a := (0, H9 133 12)) (Nat.le_succ _) ti_164_238 rfl ?_
                        exact a_wk (hj241 (H9 133 12)) (by omega) ⟨rfl, rfl, rfl, rfl, rfl, rfl, trivial⟩
                      · refine a_w0 (Nat.le_succ _) ti_164_230 rfl ?_
                        refine a_w2 (z := 4) (Nat.le_succ _) ti_164_232 (by decide) ?_
                        refine a_w6 (a := (0, a_div s1.1 4)) (Nat.le_succ _) ti_164_233 rfl ?_
                        refine a_w7 (Nat.le_succ _) ti_164_234 ?_
                        exact a_wk (hj241 (a_div s1.1 4)) (by omega) ⟨rfl, rfl, rfl, rfl, rfl, rfl, trivial⟩
                  · refine a_w8_0 (Nat.le_succ _) ti_164_209 ?_ ?_
                    · refine a_w0 (Nat.le_succ _) ti_164_217 rfl ?_
                      refine a_w1 (a := (0, H8 133 11)) (Nat.le_succ _) ti_164_218 rfl ?_
                      exact a_wk (hj221 (H8 133 11)) (by omega) ⟨rfl, rfl, rfl, rfl, rfl, rfl, trivial⟩
                    · refine a_w0 (Nat.le_succ _) ti_164_212 rfl ?_
                      refine a_w7 (Nat.le_succ _) ti_164_214 ?_
                      exact a_wk (hj221 x4) (by omega) ⟨rfl, rfl, rfl, rfl, rfl, rfl, trivial⟩
                · refine a_w8_0 (Nat.le_succ _) ti_164_191 ?_ ?_
                  · refine a_w0 (Nat.le_succ _) ti_164_199 rfl ?_
                    refine a_w1 (a := (0, H7 133 10)) (Nat.le_succ _) ti_164_200 rfl ?_
                    exact a_wk (hj203 (H7 133 10)) (by omega) ⟨rfl, rfl, rfl, rfl, rfl, rfl, rfl, trivial⟩
                  · refine a_w0 (Nat.le_succ _) ti_164_194 rfl ?_
                    refine a_w7 (Nat.le_succ _) ti_164_196 ?_
                    exact a_wk (hj203 x6) (by omega) ⟨rfl, rfl, rfl, rfl, rfl, rfl, rfl, trivial⟩
              · refine a_w8_0 (Nat.le_succ _) ti_164_170 ?_ ?_
                · refine a_w0 (Nat.le_succ _) ti_164_181 rfl ?_
                  refine a_w1 (a := (0, H6 133 9)) (Nat.le_succ _) ti_164_182 rfl ?_
                  exact a_wk (hj185 (H6 133 9)) (by omega) ⟨rfl, rfl, rfl, rfl, rfl, rfl, rfl, rfl, trivial⟩
                · refine a_w0 (Nat.le_succ _) ti_164_173 rfl ?_
                  refine a_w3p (args := [(0, x6)]) (Nat.le_succ _) ti_164_175 (mt_163 x6 H6) rfl rfl rfl rfl ?_
                  refine a_w7 (Nat.le_succ _) ti_164_178 ?_
                  exact a_wk (hj185 (fn_163 x6)) (by omega) ⟨rfl, rfl, rfl, rfl, rfl, rfl, rfl, rfl, trivial⟩
            · refine a_wjn 160 (fun (s : Unit) => [some (2, 133), some (0, a1), some (0, x1), some (0, x2), some (0, s1.1), none, some (0, x4), some (0, x6), none]) (fun (s : Unit) => []) (fun (s : Unit) => H6) (fun s10 => ?_) (fun j160 hj160 => ?_)
              · refine a_w2 (z := 1) (Nat.le_succ _) ti_164_160 (by decide) ?_
                refine a_w7 (Nat.le_succ _) ti_164_161 ?_
                exact a_wk (hj165 1) (by omega) ⟨rfl, rfl, rfl, rfl, rfl, rfl, rfl, trivial⟩
              · refine a_w9_2 (Nat.le_succ _) ti_164_136 ?_ ?_
                · exact a_wk (hj160 ()) (by omega) ⟨rfl, rfl, rfl, rfl, rfl, rfl, rfl, trivial⟩
                · refine a_w0 (Nat.le_succ _) ti_164_139 rfl ?_
                  refine a_w3p (args := [(0, x6)]) (Nat.le_succ _) ti_164_141 (mt_163 x6 H6) rfl rfl rfl rfl ?_
                  refine a_w0 (Nat.le_succ _) ti_164_144 rfl ?_
                  refine a_w1 (a := (0, H6 133 9)) (Nat.le_succ _) ti_164_145 rfl ?_
                  refine a_wjn 164 (fun (s : Unit) => [some (2, 133), some (0, a1), some (0, x1), some (0, x2), some (0, s1.1), none, some (0, x4), some (0, x6), none]) (fun (s : Unit) => []) (fun (s : Unit) => H6) (fun s11 => ?_) (fun j164 hj164 => ?_)
                  · refine a_w2 (z := 0) (Nat.le_succ _) ti_164_164 (by decide) ?_
                    exact a_wk (hj165 0) (by omega) ⟨rfl, rfl, rfl, rfl, rfl, rfl, rfl, trivial⟩
                  · refine a_w9_1 (Nat.le_succ _) ti_164_148 ?_ ?_
                    · exact a_wk (hj164 ()) (by omega) ⟨rfl, rfl, rfl, rfl, rfl, rfl, rfl, trivial⟩
                    · refine a_w0 (Nat.le_succ _) ti_164_151 rfl ?_
                      refine a_w0 (Nat.le_succ _) ti_164_153 rfl ?_
                      refine a_w1 (a := (0, H6 133 11)) (Nat.le_succ _) ti_164_154 rfl ?_
                      refine a_w9_3 (Nat.le_succ _) ti_164_157 ?_ ?_
                      · exact a_wk (hj164 ()) (by omega) ⟨rfl, rfl, rfl, rfl, rfl, rfl, rfl, trivial⟩
                      · exact a_wk (hj160 ()) (by omega) ⟨rfl, rfl, rfl, rfl, rfl, rfl, rfl, trivial⟩
      · refine a_w9_1 (Nat.le_succ _) ti_164_57 ?_ ?_
        · refine a_w2 (z := 1) (Nat.le_succ _) ti_164_64 (by decide) ?_
          exact a_wk (hj65 1) (by omega) ⟨rfl, rfl, rfl, rfl, rfl, rfl, trivial⟩
        · refine a_w2 (z := 0) (Nat.le_succ _) ti_164_60 (by decide) ?_
          refine a_w7 (Nat.le_succ _) ti_164_61 ?_
          exact a_wk (hj65 0) (by omega) ⟨rfl, rfl, rfl, rfl, rfl, rfl, trivial⟩

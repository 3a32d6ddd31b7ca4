/-- CarriedGateModel.hour()V -/
noncomputable def fn_124 (H : a_P) : a_P :=
  a_jn (fun (s1 : Int) => a_bd (fn_123 s1 H) fun H1 =>
  H1) fun j28 =>
  (if (a_and (a_shr (H 134 4) (a_rem (H 134 5) 6)) 1) = 1 then j28 1
  else j28 0)
theorem ti_124_0 : (q_I 124).2 0 = some (0, 4, 0, 0, 2, 1, []) := rfl
theorem ti_124_1 : (q_I 124).2 1 = some (0, 4, 0, 0, 2, 2, []) := rfl
theorem ti_124_2 : (q_I 124).2 2 = some (1, 0, 7, 6, 0, 5, [795]) := rfl
theorem ti_124_5 : (q_I 124).2 5 = some (2, 0, 4, 0, 0, 6, []) := rfl
theorem ti_124_6 : (q_I 124).2 6 = some (5, 10, 0, 0, 0, 7, []) := rfl
theorem ti_124_7 : (q_I 124).2 7 = some (0, 4, 0, 0, 2, 8, []) := rfl
theorem ti_124_8 : (q_I 124).2 8 = some (1, 0, 7, 6, 0, 11, [795]) := rfl
theorem ti_124_11 : (q_I 124).2 11 = some (2, 0, 5, 0, 0, 12, []) := rfl
theorem ti_124_12 : (q_I 124).2 12 = some (5, 10, 0, 0, 0, 13, []) := rfl
theorem ti_124_13 : (q_I 124).2 13 = some (2, 1, 6, 0, 0, 15, []) := rfl
theorem ti_124_15 : (q_I 124).2 15 = some (6, 4, 0, 0, 0, 16, []) := rfl
theorem ti_124_16 : (q_I 124).2 16 = some (6, 9, 0, 0, 0, 17, []) := rfl
theorem ti_124_17 : (q_I 124).2 17 = some (2, 0, 1, 0, 0, 18, []) := rfl
theorem ti_124_18 : (q_I 124).2 18 = some (6, 5, 0, 0, 0, 19, []) := rfl
theorem ti_124_19 : (q_I 124).2 19 = some (2, 0, 1, 0, 0, 20, []) := rfl
theorem ti_124_20 : (q_I 124).2 20 = some (9, 1, 0, 27, 0, 23, []) := rfl
theorem ti_124_23 : (q_I 124).2 23 = some (2, 0, 1, 0, 0, 24, []) := rfl
theorem ti_124_24 : (q_I 124).2 24 = some (7, 0, 0, 28, 0, 27, []) := rfl
theorem ti_124_27 : (q_I 124).2 27 = some (2, 0, 0, 0, 0, 28, []) := rfl
theorem ti_124_28 : (q_I 124).2 28 = some (3, 0, 97, 123, 2, 31, [987, 6]) := rfl
theorem ti_124_31 : (q_I 124).2 31 = some (4, 4, 0, 0, 0, 32, []) := rfl
theorem mt_124 (H : a_P) : a_mt a_pv 9 124 [(2, 133)] H (fn_124 H) := by
  refine a_mtI (lo := [some (2, 133)]) rfl fun d => ?_
  unfold fn_124
  refine a_w0 (Nat.le_succ _) ti_124_0 rfl ?_
  refine a_w0 (Nat.le_succ _) ti_124_1 rfl ?_
  refine a_w1 (a := (2, 134)) (Nat.le_succ _) ti_124_2 rfl ?_
  refine a_w2 (z := 4) (Nat.le_succ _) ti_124_5 (by decide) ?_
  refine a_w5 (kk := 0) (Nat.le_succ _) ti_124_6 (fun _ => rfl) ?_
  refine a_w0 (Nat.le_succ _) ti_124_7 rfl ?_
  refine a_w1 (a := (2, 134)) (Nat.le_succ _) ti_124_8 rfl ?_
  refine a_w2 (z := 5) (Nat.le_succ _) ti_124_11 (by decide) ?_
  refine a_w5 (kk := 0) (Nat.le_succ _) ti_124_12 (fun _ => rfl) ?_
  refine a_w2 (z := 6) (Nat.le_succ _) ti_124_13 (by decide) ?_
  refine a_w6 (a := (0, a_rem (H 134 5) 6)) (Nat.le_succ _) ti_124_15 rfl ?_
  refine a_w6 (a := (0, a_shr (H 134 4) (a_rem (H 134 5) 6))) (Nat.le_succ _) ti_124_16 rfl ?_
  refine a_w2 (z := 1) (Nat.le_succ _) ti_124_17 (by decide) ?_
  refine a_w6 (a := (0, a_and (a_shr (H 134 4) (a_rem (H 134 5) 6)) 1)) (Nat.le_succ _) ti_124_18 rfl ?_
  refine a_w2 (z := 1) (Nat.le_succ _) ti_124_19 (by decide) ?_
  refine a_wjn 28 (fun (s : Int) => [none]) (fun (s : Int) => [(0, s), (2, 133)]) (fun (s : Int) => H) (fun s1 => ?_) (fun j28 hj28 => ?_)
  · refine a_w3v (args := [(2, 133), (0, s1)]) (Nat.le_succ _) ti_124_28 (mt_123 s1 H) rfl rfl (fun H1 => ?_)
    exact a_w4v (Nat.le_succ _) ti_124_31 rfl rfl
  · refine a_w9_1 (Nat.le_succ _) ti_124_20 ?_ ?_
    · refine a_w2 (z := 0) (Nat.le_succ _) ti_124_27 (by decide) ?_
      exact a_wk (hj28 0) (by omega) trivial
    · refine a_w2 (z := 1) (Nat.le_succ _) ti_124_23 (by decide) ?_
      refine a_w7 (Nat.le_succ _) ti_124_24 ?_
      exact a_wk (hj28 1) (by omega) trivial
/-- CarriedGateModel.notes()V -/
noncomputable def fn_142 (H : a_P) : a_P :=
  a_jn (fun (s1 : a_P) => a_jn (fun (s2 : a_P) => a_bd (a_up s2 133 7 (a_w ((s2 133 7) + 1))) fun H1 =>
  H1) fun j80 =>
  a_lp (fun (s3 : Int × a_P) => s3.2) (fun (s3 : Int × a_P) n48 => (if s3.1 < 47 then a_bd (a_up s3.2 137 (a_w ((a_w (47 * (s3.2 133 7))) + s3.1)) (s3.2 134 s3.1)) fun H2 =>
  a_bd (a_w (s3.1 + 1)) fun x1 =>
  n48 (x1, H2)
  else j80 s3.2)) a_fuel (0, s1)) fun j46 =>
  (if (H 133 7) = 8 then a_jn (fun (s4 : a_P) => a_bd (a_up s4 133 7 7) fun H3 =>
  j46 H3) fun j40 =>
  a_lp (fun (s5 : Int × a_P) => s5.2) (fun (s5 : Int × a_P) n12 => (if s5.1 < 376 then a_bd (a_up s5.2 137 (a_w (s5.1 - 47)) (s5.2 137 s5.1)) fun H4 =>
  a_bd (a_w (s5.1 + 1)) fun x2 =>
  n12 (x2, H4)
  else j40 s5.2)) a_fuel (47, H)
  else j46 H)
theorem ti_142_0 : (q_I 142).2 0 = some (0, 4, 0, 0, 2, 1, []) := rfl
theorem ti_142_1 : (q_I 142).2 1 = some (1, 0, 101, 6, 7, 4, [802]) := rfl
theorem ti_142_4 : (q_I 142).2 4 = some (2, 1, 8, 0, 0, 6, []) := rfl
theorem ti_142_6 : (q_I 142).2 6 = some (9, 1, 0, 46, 0, 9, []) := rfl
theorem ti_142_9 : (q_I 142).2 9 = some (2, 1, 47, 0, 0, 11, []) := rfl
theorem ti_142_11 : (q_I 142).2 11 = some (11, 0, 0, 1, 0, 12, []) := rfl
theorem ti_142_12 : (q_I 142).2 12 = some (0, 0, 0, 1, 0, 13, []) := rfl
theorem ti_142_13 : (q_I 142).2 13 = some (2, 2, 376, 0, 0, 16, []) := rfl
theorem ti_142_16 : (q_I 142).2 16 = some (9, 3, 0, 40, 0, 19, []) := rfl
theorem ti_142_19 : (q_I 142).2 19 = some (0, 4, 0, 0, 2, 20, []) := rfl
theorem ti_142_20 : (q_I 142).2 20 = some (1, 0, 19, 6, 6, 23, [801]) := rfl
theorem ti_142_23 : (q_I 142).2 23 = some (0, 0, 0, 1, 0, 24, []) := rfl
theorem ti_142_24 : (q_I 142).2 24 = some (2, 1, 47, 0, 0, 26, []) := rfl
theorem ti_142_26 : (q_I 142).2 26 = some (6, 1, 0, 0, 0, 27, []) := rfl
theorem ti_142_27 : (q_I 142).2 27 = some (0, 4, 0, 0, 2, 28, []) := rfl
theorem ti_142_28 : (q_I 142).2 28 = some (1, 0, 19, 6, 6, 31, [801]) := rfl
theorem ti_142_31 : (q_I 142).2 31 = some (0, 0, 0, 1, 0, 32, []) := rfl
theorem ti_142_32 : (q_I 142).2 32 = some (5, 10, 0, 0, 0, 33, []) := rfl
theorem ti_142_33 : (q_I 142).2 33 = some (12, 10, 0, 0, 0, 34, []) := rfl
theorem ti_142_34 : (q_I 142).2 34 = some (13, 0, 1, 1, 0, 37, []) := rfl
theorem ti_142_37 : (q_I 142).2 37 = some (7, 0, 0, 12, 0, 40, []) := rfl
theorem ti_142_40 : (q_I 142).2 40 = some (0, 4, 0, 0, 2, 41, []) := rfl
theorem ti_142_41 : (q_I 142).2 41 = some (2, 1, 7, 0, 0, 43, []) := rfl
theorem ti_142_43 : (q_I 142).2 43 = some (10, 0, 101, 6, 7, 46, [802]) := rfl
theorem ti_142_46 : (q_I 142).2 46 = some (2, 0, 0, 0, 0, 47, []) := rfl
theorem ti_142_47 : (q_I 142).2 47 = some (11, 0, 0, 1, 0, 48, []) := rfl
theorem ti_142_48 : (q_I 142).2 48 = some (0, 0, 0, 1, 0, 49, []) := rfl
theorem ti_142_49 : (q_I 142).2 49 = some (2, 1, 47, 0, 0, 51, []) := rfl
theorem ti_142_51 : (q_I 142).2 51 = some (9, 3, 0, 80, 0, 54, []) := rfl
theorem ti_142_54 : (q_I 142).2 54 = some (0, 4, 0, 0, 2, 55, []) := rfl
theorem ti_142_55 : (q_I 142).2 55 = some (1, 0, 19, 6, 6, 58, [801]) := rfl
theorem ti_142_58 : (q_I 142).2 58 = some (2, 1, 47, 0, 0, 60, []) := rfl
theorem ti_142_60 : (q_I 142).2 60 = some (0, 4, 0, 0, 2, 61, []) := rfl
theorem ti_142_61 : (q_I 142).2 61 = some (1, 0, 101, 6, 7, 64, [802]) := rfl
theorem ti_142_64 : (q_I 142).2 64 = some (6, 2, 0, 0, 0, 65, []) := rfl
theorem ti_142_65 : (q_I 142).2 65 = some (0, 0, 0, 1, 0, 66, []) := rfl
theorem ti_142_66 : (q_I 142).2 66 = some (6, 0, 0, 0, 0, 67, []) := rfl
theorem ti_142_67 : (q_I 142).2 67 = some (0, 4, 0, 0, 2, 68, []) := rfl
theorem ti_142_68 : (q_I 142).2 68 = some (1, 0, 7, 6, 0, 71, [795]) := rfl
theorem ti_142_71 : (q_I 142).2 71 = some (0, 0, 0, 1, 0, 72, []) := rfl
theorem ti_142_72 : (q_I 142).2 72 = some (5, 10, 0, 0, 0, 73, []) := rfl
theorem ti_142_73 : (q_I 142).2 73 = some (12, 10, 0, 0, 0, 74, []) := rfl
theorem ti_142_74 : (q_I 142).2 74 = some (13, 0, 1, 1, 0, 77, []) := rfl
theorem ti_142_77 : (q_I 142).2 77 = some (7, 0, 0, 48, 0, 80, []) := rfl
theorem ti_142_80 : (q_I 142).2 80 = some (0, 4, 0, 0, 2, 81, []) := rfl
theorem ti_142_81 : (q_I 142).2 81 = some (16, 0, 0, 0, 0, 82, []) := rfl
theorem ti_142_82 : (q_I 142).2 82 = some (1, 0, 101, 6, 7, 85, [802]) := rfl
theorem ti_142_85 : (q_I 142).2 85 = some (2, 0, 1, 0, 0, 86, []) := rfl
theorem ti_142_86 : (q_I 142).2 86 = some (6, 0, 0, 0, 0, 87, []) := rfl
theorem ti_142_87 : (q_I 142).2 87 = some (10, 0, 101, 6, 7, 90, [802]) := rfl
theorem ti_142_90 : (q_I 142).2 90 = some (4, 4, 0, 0, 0, 91, []) := rfl
theorem mt_142 (H : a_P) : a_mt a_pv 9 142 [(2, 133)] H (fn_142 H) := by
  refine a_mtI (lo := [some (2, 133), none]) rfl fun d => ?_
  unfold fn_142
  refine a_w0 (Nat.le_succ _) ti_142_0 rfl ?_
  refine a_w1 (a := (0, H 133 7)) (Nat.le_succ _) ti_142_1 rfl ?_
  refine a_w2 (z := 8) (Nat.le_succ _) ti_142_4 (by decide) ?_
  refine a_wjn 46 (fun (s : a_P) => [some (2, 133), none]) (fun (s : a_P) => []) (fun (s : a_P) => s) (fun s1 => ?_) (fun j46 hj46 => ?_)
  · refine a_w2 (z := 0) (Nat.le_succ _) ti_142_46 (by decide) ?_
    refine a_w11 (lo' := [some (2, 133), some (0, 0)]) (Nat.le_succ _) ti_142_47 rfl ?_
    refine a_wjn 80 (fun (s : a_P) => [some (2, 133), none]) (fun (s : a_P) => []) (fun (s : a_P) => s) (fun s2 => ?_) (fun j80 hj80 => ?_)
    · refine a_w0 (Nat.le_succ _) ti_142_80 rfl ?_
      refine a_w16 (Nat.le_succ _) ti_142_81 ?_
      refine a_w1 (a := (0, s2 133 7)) (Nat.le_succ _) ti_142_82 rfl ?_
      refine a_w2 (z := 1) (Nat.le_succ _) ti_142_85 (by decide) ?_
      refine a_w6 (a := (0, a_w ((s2 133 7) + 1))) (Nat.le_succ _) ti_142_86 rfl ?_
      refine a_w10 (Nat.le_succ _) ti_142_87 rfl rfl rfl (fun H1 => ?_)
      exact a_w4v (Nat.le_succ _) ti_142_90 rfl rfl
    · refine a_wk (a_wlp (fun (s : Int × a_P) => [some (2, 133), some (0, s.1)]) (fun (s : Int × a_P) => s.2) (fun N1 hN1 n48 hn48 s3 => ?_) a_fuel (a_fuel_le (by omega)) (0, s1)) (Nat.le_refl _) ⟨rfl, rfl, trivial⟩
      · refine a_w0 (Nat.le_refl _) ti_142_48 rfl ?_
        refine a_w2 (z := 47) (Nat.le_succ _) ti_142_49 (by decide) ?_
        refine a_w9_3 (Nat.le_succ _) ti_142_51 ?_ ?_
        · exact a_wk (hj80 s3.2) (by omega) ⟨rfl, trivial⟩
        · refine a_w0 (Nat.le_succ _) ti_142_54 rfl ?_
          refine a_w1 (a := (2, 137)) (Nat.le_succ _) ti_142_55 rfl ?_
          refine a_w2 (z := 47) (Nat.le_succ _) ti_142_58 (by decide) ?_
          refine a_w0 (Nat.le_succ _) ti_142_60 rfl ?_
          refine a_w1 (a := (0, s3.2 133 7)) (Nat.le_succ _) ti_142_61 rfl ?_
          refine a_w6 (a := (0, a_w (47 * (s3.2 133 7)))) (Nat.le_succ _) ti_142_64 rfl ?_
          refine a_w0 (Nat.le_succ _) ti_142_65 rfl ?_
          refine a_w6 (a := (0, a_w ((a_w (47 * (s3.2 133 7))) + s3.1))) (Nat.le_succ _) ti_142_66 rfl ?_
          refine a_w0 (Nat.le_succ _) ti_142_67 rfl ?_
          refine a_w1 (a := (2, 134)) (Nat.le_succ _) ti_142_68 rfl ?_
          refine a_w0 (Nat.le_succ _) ti_142_71 rfl ?_
          refine a_w5 (kk := 0) (Nat.le_succ _) ti_142_72 (fun _ => rfl) ?_
          refine a_w12 (Nat.le_succ _) ti_142_73 (Or.inl ⟨rfl, rfl⟩) (fun H2 => ?_)
          refine a_w13 (c' := 1) (lof := fun x1 => [some (2, 133), some (0, x1)]) (Nat.le_succ _) ti_142_74 rfl (by decide) rfl (fun _ => rfl) (fun x1 => ?_)
          refine a_w7 (Nat.le_succ _) ti_142_77 ?_
          exact a_wk (hn48 (x1, H2)) (by omega) ⟨rfl, rfl, trivial⟩
  · refine a_w9_1 (Nat.le_succ _) ti_142_6 ?_ ?_
    · exact a_wk (hj46 H) (by omega) ⟨rfl, trivial⟩
    · refine a_w2 (z := 47) (Nat.le_succ _) ti_142_9 (by decide) ?_
      refine a_w11 (lo' := [some (2, 133), some (0, 47)]) (Nat.le_succ _) ti_142_11 rfl ?_
      refine a_wjn 40 (fun (s : a_P) => [some (2, 133), none]) (fun (s : a_P) => []) (fun (s : a_P) => s) (fun s4 => ?_) (fun j40 hj40 => ?_)
      · refine a_w0 (Nat.le_succ _) ti_142_40 rfl ?_
        refine a_w2 (z := 7) (Nat.le_succ _) ti_142_41 (by decide) ?_
        refine a_w10 (Nat.le_succ _) ti_142_43 rfl rfl rfl (fun H3 => ?_)
        exact a_wk (hj46 H3) (by omega) ⟨rfl, trivial⟩
      · refine a_wk (a_wlp (fun (s : Int × a_P) => [some (2, 133), some (0, s.1)]) (fun (s : Int × a_P) => s.2) (fun N2 hN2 n12 hn12 s5 => ?_) a_fuel (a_fuel_le (by omega)) (47, H)) (Nat.le_refl _) ⟨rfl, rfl, trivial⟩
        · refine a_w0 (Nat.le_refl _) ti_142_12 rfl ?_
          refine a_w2 (z := 376) (Nat.le_succ _) ti_142_13 (by decide) ?_
          refine a_w9_3 (Nat.le_succ _) ti_142_16 ?_ ?_
          · exact a_wk (hj40 s5.2) (by omega) ⟨rfl, trivial⟩
          · refine a_w0 (Nat.le_succ _) ti_142_19 rfl ?_
            refine a_w1 (a := (2, 137)) (Nat.le_succ _) ti_142_20 rfl ?_
            refine a_w0 (Nat.le_succ _) ti_142_23 rfl ?_
            refine a_w2 (z := 47) (Nat.le_succ _) ti_142_24 (by decide) ?_
            refine a_w6 (a := (0, a_w (s5.1 - 47))) (Nat.le_succ _) ti_142_26 rfl ?_
            refine a_w0 (Nat.le_succ _) ti_142_27 rfl ?_
            refine a_w1 (a := (2, 137)) (Nat.le_succ _) ti_142_28 rfl ?_
            refine a_w0 (Nat.le_succ _) ti_142_31 rfl ?_
            refine a_w5 (kk := 0) (Nat.le_succ _) ti_142_32 (fun _ => rfl) ?_
            refine a_w12 (Nat.le_succ _) ti_142_33 (Or.inl ⟨rfl, rfl⟩) (fun H4 => ?_)
            refine a_w13 (c' := 1) (lof := fun x2 => [some (2, 133), some (0, x2)]) (Nat.le_succ _) ti_142_34 rfl (by decide) rfl (fun _ => rfl) (fun x2 => ?_)
            refine a_w7 (Nat.le_succ _) ti_142_37 ?_
            exact a_wk (hn12 (x2, H4)) (by omega) ⟨rfl, rfl, trivial⟩
/-- CarriedGateModel.hours(I)I -/
noncomputable def fn_143 (a1 : Int) (H : a_P) : a_F :=
  (if (fn_108 a1 1 40) = 0 then ((-1), H)
  else (if 9999 < (a_w ((H 134 5) + a1)) then ((-3), H)
  else a_lp (fun (s1 : Int × a_P) => (0, s1.2)) (fun (s1 : Int × a_P) n33 => (if s1.1 < a1 then a_bd (fn_142 s1.2) fun H1 =>
  a_bd (fn_124 H1) fun H2 =>
  a_bd (a_w (s1.1 + 1)) fun x1 =>
  n33 (x1, H2)
  else (fn_120 s1.2, s1.2))) a_fuel (0, H)))
theorem ti_143_0 : (q_I 143).2 0 = some (0, 0, 0, 1, 0, 1, []) := rfl
theorem ti_143_1 : (q_I 143).2 1 = some (14, 4, 0, 0, 0, 2, []) := rfl
theorem ti_143_2 : (q_I 143).2 2 = some (15, 0, 1, 0, 0, 3, []) := rfl
theorem ti_143_3 : (q_I 143).2 3 = some (15, 1, 40, 168, 0, 6, [978]) := rfl
theorem ti_143_6 : (q_I 143).2 6 = some (3, 1, 51, 108, 3, 9, [867, 6]) := rfl
theorem ti_143_9 : (q_I 143).2 9 = some (8, 1, 0, 14, 0, 12, []) := rfl
theorem ti_143_12 : (q_I 143).2 12 = some (2, 0, (-1), 0, 0, 13, []) := rfl
theorem ti_143_13 : (q_I 143).2 13 = some (4, 0, 0, 0, 0, 14, []) := rfl
theorem ti_143_14 : (q_I 143).2 14 = some (0, 4, 0, 0, 2, 15, []) := rfl
theorem ti_143_15 : (q_I 143).2 15 = some (1, 0, 7, 6, 0, 18, [795]) := rfl
theorem ti_143_18 : (q_I 143).2 18 = some (2, 0, 5, 0, 0, 19, []) := rfl
theorem ti_143_19 : (q_I 143).2 19 = some (5, 10, 0, 0, 0, 20, []) := rfl
theorem ti_143_20 : (q_I 143).2 20 = some (0, 0, 0, 1, 0, 21, []) := rfl
theorem ti_143_21 : (q_I 143).2 21 = some (6, 0, 0, 0, 0, 22, []) := rfl
theorem ti_143_22 : (q_I 143).2 22 = some (2, 2, 9999, 0, 0, 25, []) := rfl
theorem ti_143_25 : (q_I 143).2 25 = some (9, 5, 0, 31, 0, 28, []) := rfl
theorem ti_143_28 : (q_I 143).2 28 = some (2, 1, (-3), 0, 0, 30, []) := rfl
theorem ti_143_30 : (q_I 143).2 30 = some (4, 0, 0, 0, 0, 31, []) := rfl
theorem ti_143_31 : (q_I 143).2 31 = some (2, 0, 0, 0, 0, 32, []) := rfl
theorem ti_143_32 : (q_I 143).2 32 = some (11, 0, 0, 2, 0, 33, []) := rfl
theorem ti_143_33 : (q_I 143).2 33 = some (0, 0, 0, 2, 0, 34, []) := rfl
theorem ti_143_34 : (q_I 143).2 34 = some (0, 0, 0, 1, 0, 35, []) := rfl
theorem ti_143_35 : (q_I 143).2 35 = some (9, 3, 0, 52, 0, 38, []) := rfl
theorem ti_143_38 : (q_I 143).2 38 = some (0, 4, 0, 0, 2, 39, []) := rfl
theorem ti_143_39 : (q_I 143).2 39 = some (3, 0, 170, 142, 1, 42, [979, 6]) := rfl
theorem ti_143_42 : (q_I 143).2 42 = some (0, 4, 0, 0, 2, 43, []) := rfl
theorem ti_143_43 : (q_I 143).2 43 = some (3, 0, 173, 124, 1, 46, [983, 6]) := rfl
theorem ti_143_46 : (q_I 143).2 46 = some (13, 0, 1, 2, 0, 49, []) := rfl
theorem ti_143_49 : (q_I 143).2 49 = some (7, 0, 0, 33, 0, 52, []) := rfl
theorem ti_143_52 : (q_I 143).2 52 = some (0, 4, 0, 0, 2, 53, []) := rfl
theorem ti_143_53 : (q_I 143).2 53 = some (3, 0, 91, 120, 1, 56, [887, 6]) := rfl
theorem ti_143_56 : (q_I 143).2 56 = some (4, 0, 0, 0, 0, 57, []) := rfl
theorem mt_143 (a1 : Int) (H : a_P) : a_mt id 0 143 [(2, 133), (0, a1)] H (fn_143 a1 H) := by
  refine a_mtI (lo := [some (2, 133), some (0, a1), none]) rfl fun d => ?_
  unfold fn_143
  refine a_w0 (Nat.le_succ _) ti_143_0 rfl ?_
  refine a_w14 (a := (1, a1)) (Nat.le_succ _) ti_143_1 rfl ?_
  refine a_w15 (z := 1) (Nat.le_succ _) ti_143_2 (by decide) ?_
  refine a_w15 (z := 40) (Nat.le_succ _) ti_143_3 (by decide) ?_
  refine a_w3p (args := [(1, a1), (1, 1), (1, 40)]) (Nat.le_succ _) ti_143_6 (mt_108 a1 1 40 H) rfl rfl rfl rfl ?_
  refine a_w8_1 (Nat.le_succ _) ti_143_9 ?_ ?_
  · refine a_w0 (Nat.le_succ _) ti_143_14 rfl ?_
    refine a_w1 (a := (2, 134)) (Nat.le_succ _) ti_143_15 rfl ?_
    refine a_w2 (z := 5) (Nat.le_succ _) ti_143_18 (by decide) ?_
    refine a_w5 (kk := 0) (Nat.le_succ _) ti_143_19 (fun _ => rfl) ?_
    refine a_w0 (Nat.le_succ _) ti_143_20 rfl ?_
    refine a_w6 (a := (0, a_w ((H 134 5) + a1))) (Nat.le_succ _) ti_143_21 rfl ?_
    refine a_w2 (z := 9999) (Nat.le_succ _) ti_143_22 (by decide) ?_
    refine a_w9_5 (Nat.le_succ _) ti_143_25 ?_ ?_
    · refine a_w2 (z := 0) (Nat.le_succ _) ti_143_31 (by decide) ?_
      refine a_w11 (lo' := [some (2, 133), some (0, a1), some (0, 0)]) (Nat.le_succ _) ti_143_32 rfl ?_
      refine a_wk (a_wlp (fun (s : Int × a_P) => [some (2, 133), some (0, a1), some (0, s.1)]) (fun (s : Int × a_P) => s.2) (fun N1 hN1 n33 hn33 s1 => ?_) a_fuel (a_fuel_le (by omega)) (0, H)) (Nat.le_refl _) ⟨rfl, rfl, rfl, trivial⟩
      · refine a_w0 (Nat.le_refl _) ti_143_33 rfl ?_
        refine a_w0 (Nat.le_succ _) ti_143_34 rfl ?_
        refine a_w9_3 (Nat.le_succ _) ti_143_35 ?_ ?_
        · refine a_w0 (Nat.le_succ _) ti_143_52 rfl ?_
          refine a_w3p (args := [(2, 133)]) (Nat.le_succ _) ti_143_53 (mt_120 s1.2) rfl rfl rfl rfl ?_
          exact a_w4 (Nat.le_succ _) ti_143_56 rfl rfl rfl
        · refine a_w0 (Nat.le_succ _) ti_143_38 rfl ?_
          refine a_w3v (args := [(2, 133)]) (Nat.le_succ _) ti_143_39 (mt_142 s1.2) rfl rfl (fun H1 => ?_)
          refine a_w0 (Nat.le_succ _) ti_143_42 rfl ?_
          refine a_w3v (args := [(2, 133)]) (Nat.le_succ _) ti_143_43 (mt_124 H1) rfl rfl (fun H2 => ?_)
          refine a_w13 (c' := 1) (lof := fun x1 => [some (2, 133), some (0, a1), some (0, x1)]) (Nat.le_succ _) ti_143_46 rfl (by decide) rfl (fun _ => rfl) (fun x1 => ?_)
          refine a_w7 (Nat.le_succ _) ti_143_49 ?_
          exact a_wk (hn33 (x1, H2)) (by omega) ⟨rfl, rfl, rfl, trivial⟩
    · refine a_w2 (z := (-3)) (Nat.le_succ _) ti_143_28 (by decide) ?_
      exact a_w4 (Nat.le_succ _) ti_143_30 rfl rfl rfl
  · refine a_w2 (z := (-1)) (Nat.le_succ _) ti_143_12 (by decide) ?_
    exact a_w4 (Nat.le_succ _) ti_143_13 rfl rfl rfl
/-- CarriedGateModel.carry(I)I -/
noncomputable def fn_144 (a1 : Int) (H : a_P) : a_F :=
  (if (fn_108 a1 0 3) = 0 then ((-1), H)
  else a_bd (fn_112 (H 134 1) a1) fun x1 =>
  a_bd (H 134 3) fun x2 =>
  a_jn (fun (s1 : Unit) => ((-2), H)) fun j57 =>
  (if x2 = (-4) then j57 ()
  else (if x1 = (-4) then j57 ()
  else (if (H 134 (a_w (31 + x2))) < 2 then j57 ()
  else a_bd (fn_142 H) fun H1 =>
  a_bd (a_up H1 134 1 x1) fun H2 =>
  a_bd (a_up H2 134 (a_w (15 + x2)) x1) fun H3 =>
  a_bd (a_up H3 134 (a_w (31 + x2)) (a_w ((H3 134 (a_w (31 + x2))) - 1))) fun H4 =>
  (x1, H4)))))
theorem ti_144_0 : (q_I 144).2 0 = some (0, 0, 0, 1, 0, 1, []) := rfl
theorem ti_144_1 : (q_I 144).2 1 = some (14, 4, 0, 0, 0, 2, []) := rfl
theorem ti_144_2 : (q_I 144).2 2 = some (15, 0, 0, 0, 0, 3, []) := rfl
theorem ti_144_3 : (q_I 144).2 3 = some (15, 1, 3, 176, 0, 6, [1006]) := rfl
theorem ti_144_6 : (q_I 144).2 6 = some (3, 1, 51, 108, 3, 9, [867, 6]) := rfl
theorem ti_144_9 : (q_I 144).2 9 = some (8, 1, 0, 14, 0, 12, []) := rfl
theorem ti_144_12 : (q_I 144).2 12 = some (2, 0, (-1), 0, 0, 13, []) := rfl
theorem ti_144_13 : (q_I 144).2 13 = some (4, 0, 0, 0, 0, 14, []) := rfl
theorem ti_144_14 : (q_I 144).2 14 = some (0, 4, 0, 0, 2, 15, []) := rfl
theorem ti_144_15 : (q_I 144).2 15 = some (1, 0, 7, 6, 0, 18, [795]) := rfl
theorem ti_144_18 : (q_I 144).2 18 = some (2, 0, 1, 0, 0, 19, []) := rfl
theorem ti_144_19 : (q_I 144).2 19 = some (5, 10, 0, 0, 0, 20, []) := rfl
theorem ti_144_20 : (q_I 144).2 20 = some (0, 0, 0, 1, 0, 21, []) := rfl
theorem ti_144_21 : (q_I 144).2 21 = some (3, 1, 84, 112, 2, 24, [995, 6]) := rfl
theorem ti_144_24 : (q_I 144).2 24 = some (11, 0, 0, 2, 0, 25, []) := rfl
theorem ti_144_25 : (q_I 144).2 25 = some (0, 4, 0, 0, 2, 26, []) := rfl
theorem ti_144_26 : (q_I 144).2 26 = some (1, 0, 7, 6, 0, 29, [795]) := rfl
theorem ti_144_29 : (q_I 144).2 29 = some (2, 0, 3, 0, 0, 30, []) := rfl
theorem ti_144_30 : (q_I 144).2 30 = some (5, 10, 0, 0, 0, 31, []) := rfl
theorem ti_144_31 : (q_I 144).2 31 = some (11, 0, 0, 3, 0, 32, []) := rfl
theorem ti_144_32 : (q_I 144).2 32 = some (0, 0, 0, 3, 0, 33, []) := rfl
theorem ti_144_33 : (q_I 144).2 33 = some (2, 1, (-4), 0, 0, 35, []) := rfl
theorem ti_144_35 : (q_I 144).2 35 = some (9, 0, 0, 57, 0, 38, []) := rfl
theorem ti_144_38 : (q_I 144).2 38 = some (0, 0, 0, 2, 0, 39, []) := rfl
theorem ti_144_39 : (q_I 144).2 39 = some (2, 1, (-4), 0, 0, 41, []) := rfl
theorem ti_144_41 : (q_I 144).2 41 = some (9, 0, 0, 57, 0, 44, []) := rfl
theorem ti_144_44 : (q_I 144).2 44 = some (0, 4, 0, 0, 2, 45, []) := rfl
theorem ti_144_45 : (q_I 144).2 45 = some (1, 0, 7, 6, 0, 48, [795]) := rfl
theorem ti_144_48 : (q_I 144).2 48 = some (2, 1, 31, 0, 0, 50, []) := rfl
theorem ti_144_50 : (q_I 144).2 50 = some (0, 0, 0, 3, 0, 51, []) := rfl
theorem ti_144_51 : (q_I 144).2 51 = some (6, 0, 0, 0, 0, 52, []) := rfl
theorem ti_144_52 : (q_I 144).2 52 = some (5, 10, 0, 0, 0, 53, []) := rfl
theorem ti_144_53 : (q_I 144).2 53 = some (2, 0, 2, 0, 0, 54, []) := rfl
theorem ti_144_54 : (q_I 144).2 54 = some (9, 3, 0, 60, 0, 57, []) := rfl
theorem ti_144_60 : (q_I 144).2 60 = some (0, 4, 0, 0, 2, 61, []) := rfl
theorem ti_144_61 : (q_I 144).2 61 = some (3, 0, 170, 142, 1, 64, [979, 6]) := rfl
theorem ti_144_64 : (q_I 144).2 64 = some (0, 4, 0, 0, 2, 65, []) := rfl
theorem ti_144_65 : (q_I 144).2 65 = some (1, 0, 7, 6, 0, 68, [795]) := rfl
theorem ti_144_68 : (q_I 144).2 68 = some (2, 0, 1, 0, 0, 69, []) := rfl
theorem ti_144_69 : (q_I 144).2 69 = some (0, 0, 0, 2, 0, 70, []) := rfl
theorem ti_144_70 : (q_I 144).2 70 = some (12, 10, 0, 0, 0, 71, []) := rfl
theorem ti_144_71 : (q_I 144).2 71 = some (0, 4, 0, 0, 2, 72, []) := rfl
theorem ti_144_72 : (q_I 144).2 72 = some (1, 0, 7, 6, 0, 75, [795]) := rfl
theorem ti_144_75 : (q_I 144).2 75 = some (2, 1, 15, 0, 0, 77, []) := rfl
theorem ti_144_77 : (q_I 144).2 77 = some (0, 0, 0, 3, 0, 78, []) := rfl
theorem ti_144_78 : (q_I 144).2 78 = some (6, 0, 0, 0, 0, 79, []) := rfl
theorem ti_144_79 : (q_I 144).2 79 = some (0, 0, 0, 2, 0, 80, []) := rfl
theorem ti_144_80 : (q_I 144).2 80 = some (12, 10, 0, 0, 0, 81, []) := rfl
theorem ti_144_81 : (q_I 144).2 81 = some (0, 4, 0, 0, 2, 82, []) := rfl
theorem ti_144_82 : (q_I 144).2 82 = some (1, 0, 7, 6, 0, 85, [795]) := rfl
theorem ti_144_85 : (q_I 144).2 85 = some (2, 1, 31, 0, 0, 87, []) := rfl
theorem ti_144_87 : (q_I 144).2 87 = some (0, 0, 0, 3, 0, 88, []) := rfl
theorem ti_144_88 : (q_I 144).2 88 = some (6, 0, 0, 0, 0, 89, []) := rfl
theorem ti_144_89 : (q_I 144).2 89 = some (17, 0, 0, 0, 0, 90, []) := rfl
theorem ti_144_90 : (q_I 144).2 90 = some (5, 10, 0, 0, 0, 91, []) := rfl
theorem ti_144_91 : (q_I 144).2 91 = some (2, 0, 1, 0, 0, 92, []) := rfl
theorem ti_144_92 : (q_I 144).2 92 = some (6, 1, 0, 0, 0, 93, []) := rfl
theorem ti_144_93 : (q_I 144).2 93 = some (12, 10, 0, 0, 0, 94, []) := rfl
theorem ti_144_94 : (q_I 144).2 94 = some (0, 0, 0, 2, 0, 95, []) := rfl
theorem ti_144_95 : (q_I 144).2 95 = some (4, 0, 0, 0, 0, 96, []) := rfl
theorem ti_144_57 : (q_I 144).2 57 = some (2, 1, (-2), 0, 0, 59, []) := rfl
theorem ti_144_59 : (q_I 144).2 59 = some (4, 0, 0, 0, 0, 60, []) := rfl
theorem mt_144 (a1 : Int) (H : a_P) : a_mt id 0 144 [(2, 133), (0, a1)] H (fn_144 a1 H) := by
  refine a_mtI (lo := [some (2, 133), some (0, a1), none, none]) rfl fun d => ?_
  unfold fn_144
  refine a_w0 (Nat.le_succ _) ti_144_0 rfl ?_
  refine a_w14 (a := (1, a1)) (Nat.le_succ _) ti_144_1 rfl ?_
  refine a_w15 (z := 0) (Nat.le_succ _) ti_144_2 (by decide) ?_
  refine a_w15 (z := 3) (Nat.le_succ _) ti_144_3 (by decide) ?_
  refine a_w3p (args := [(1, a1), (1, 0), (1, 3)]) (Nat.le_succ _) ti_144_6 (mt_108 a1 0 3 H) rfl rfl rfl rfl ?_
  refine a_w8_1 (Nat.le_succ _) ti_144_9 ?_ ?_
  · refine a_w0 (Nat.le_succ _) ti_144_14 rfl ?_
    refine a_w1 (a := (2, 134)) (Nat.le_succ _) ti_144_15 rfl ?_
    refine a_w2 (z := 1) (Nat.le_succ _) ti_144_18 (by decide) ?_
    refine a_w5 (kk := 0) (Nat.le_succ _) ti_144_19 (fun _ => rfl) ?_
    refine a_w0 (Nat.le_succ _) ti_144_20 rfl ?_
    refine a_w3p (args := [(0, H 134 1), (0, a1)]) (Nat.le_succ _) ti_144_21 (mt_112 (H 134 1) a1 H) rfl rfl rfl rfl ?_
    refine a_w11b (lof := fun x1 => [some (2, 133), some (0, a1), some (0, x1), none]) (Nat.le_succ _) ti_144_24 (fun _ => rfl) (fun x1 => ?_)
    refine a_w0 (Nat.le_succ _) ti_144_25 rfl ?_
    refine a_w1 (a := (2, 134)) (Nat.le_succ _) ti_144_26 rfl ?_
    refine a_w2 (z := 3) (Nat.le_succ _) ti_144_29 (by decide) ?_
    refine a_w5 (kk := 0) (Nat.le_succ _) ti_144_30 (fun _ => rfl) ?_
    refine a_w11b (lof := fun x2 => [some (2, 133), some (0, a1), some (0, x1), some (0, x2)]) (Nat.le_succ _) ti_144_31 (fun _ => rfl) (fun x2 => ?_)
    refine a_w0 (Nat.le_succ _) ti_144_32 rfl ?_
    refine a_w2 (z := (-4)) (Nat.le_succ _) ti_144_33 (by decide) ?_
    refine a_wjn 57 (fun (s : Unit) => [none, none, none, none]) (fun (s : Unit) => []) (fun (s : Unit) => H) (fun s1 => ?_) (fun j57 hj57 => ?_)
    · refine a_w2 (z := (-2)) (Nat.le_succ _) ti_144_57 (by decide) ?_
      exact a_w4 (Nat.le_succ _) ti_144_59 rfl rfl rfl
    · refine a_w9_0 (Nat.le_succ _) ti_144_35 ?_ ?_
      · exact a_wk (hj57 ()) (by omega) trivial
      · refine a_w0 (Nat.le_succ _) ti_144_38 rfl ?_
        refine a_w2 (z := (-4)) (Nat.le_succ _) ti_144_39 (by decide) ?_
        refine a_w9_0 (Nat.le_succ _) ti_144_41 ?_ ?_
        · exact a_wk (hj57 ()) (by omega) trivial
        · refine a_w0 (Nat.le_succ _) ti_144_44 rfl ?_
          refine a_w1 (a := (2, 134)) (Nat.le_succ _) ti_144_45 rfl ?_
          refine a_w2 (z := 31) (Nat.le_succ _) ti_144_48 (by decide) ?_
          refine a_w0 (Nat.le_succ _) ti_144_50 rfl ?_
          refine a_w6 (a := (0, a_w (31 + x2))) (Nat.le_succ _) ti_144_51 rfl ?_
          refine a_w5 (kk := 0) (Nat.le_succ _) ti_144_52 (fun _ => rfl) ?_
          refine a_w2 (z := 2) (Nat.le_succ _) ti_144_53 (by decide) ?_
          refine a_w9_3 (Nat.le_succ _) ti_144_54 ?_ ?_
          · refine a_w0 (Nat.le_succ _) ti_144_60 rfl ?_
            refine a_w3v (args := [(2, 133)]) (Nat.le_succ _) ti_144_61 (mt_142 H) rfl rfl (fun H1 => ?_)
            refine a_w0 (Nat.le_succ _) ti_144_64 rfl ?_
            refine a_w1 (a := (2, 134)) (Nat.le_succ _) ti_144_65 rfl ?_
            refine a_w2 (z := 1) (Nat.le_succ _) ti_144_68 (by decide) ?_
            refine a_w0 (Nat.le_succ _) ti_144_69 rfl ?_
            refine a_w12 (Nat.le_succ _) ti_144_70 (Or.inl ⟨rfl, rfl⟩) (fun H2 => ?_)
            refine a_w0 (Nat.le_succ _) ti_144_71 rfl ?_
            refine a_w1 (a := (2, 134)) (Nat.le_succ _) ti_144_72 rfl ?_
            refine a_w2 (z := 15) (Nat.le_succ _) ti_144_75 (by decide) ?_
            refine a_w0 (Nat.le_succ _) ti_144_77 rfl ?_
            refine a_w6 (a := (0, a_w (15 + x2))) (Nat.le_succ _) ti_144_78 rfl ?_
            refine a_w0 (Nat.le_succ _) ti_144_79 rfl ?_
            refine a_w12 (Nat.le_succ _) ti_144_80 (Or.inl ⟨rfl, rfl⟩) (fun H3 => ?_)
            refine a_w0 (Nat.le_succ _) ti_144_81 rfl ?_
            refine a_w1 (a := (2, 134)) (Nat.le_succ _) ti_144_82 rfl ?_
            refine a_w2 (z := 31) (Nat.le_succ _) ti_144_85 (by decide) ?_
            refine a_w0 (Nat.le_succ _) ti_144_87 rfl ?_
            refine a_w6 (a := (0, a_w (31 + x2))) (Nat.le_succ _) ti_144_88 rfl ?_
            refine a_w17 (Nat.le_succ _) ti_144_89 ?_
            refine a_w5 (kk := 0) (Nat.le_succ _) ti_144_90 (fun _ => rfl) ?_
            refine a_w2 (z := 1) (Nat.le_succ _) ti_144_91 (by decide) ?_
            refine a_w6 (a := (0, a_w ((H3 134 (a_w (31 + x2))) - 1))) (Nat.le_succ _) ti_144_92 rfl ?_
            refine a_w12 (Nat.le_succ _) ti_144_93 (Or.inl ⟨rfl, rfl⟩) (fun H4 => ?_)
            refine a_w0 (Nat.le_succ _) ti_144_94 rfl ?_
            exact a_w4 (Nat.le_succ _) ti_144_95 rfl rfl rfl
          · exact a_wk (hj57 ()) (by omega) trivial
  · refine a_w2 (z := (-1)) (Nat.le_succ _) ti_144_12 (by decide) ?_
    exact a_w4 (Nat.le_succ _) ti_144_13 rfl rfl rfl
/-- CarriedGateModel.turn(I)I -/
noncomputable def fn_145 (a1 : Int) (H : a_P) : a_F :=
  (if (fn_108 a1 0 3) = 0 then ((-1), H)
  else (if (H 134 2) = a1 then ((-2), H)
  else a_bd (fn_142 H) fun H1 =>
  a_bd (a_up H1 134 2 a1) fun H2 =>
  (fn_120 H2, H2)))
theorem ti_145_0 : (q_I 145).2 0 = some (0, 0, 0, 1, 0, 1, []) := rfl
theorem ti_145_1 : (q_I 145).2 1 = some (14, 4, 0, 0, 0, 2, []) := rfl
theorem ti_145_2 : (q_I 145).2 2 = some (15, 0, 0, 0, 0, 3, []) := rfl
theorem ti_145_3 : (q_I 145).2 3 = some (15, 1, 3, 176, 0, 6, [1006]) := rfl
theorem ti_145_6 : (q_I 145).2 6 = some (3, 1, 51, 108, 3, 9, [867, 6]) := rfl
theorem ti_145_9 : (q_I 145).2 9 = some (8, 1, 0, 14, 0, 12, []) := rfl
theorem ti_145_12 : (q_I 145).2 12 = some (2, 0, (-1), 0, 0, 13, []) := rfl
theorem ti_145_13 : (q_I 145).2 13 = some (4, 0, 0, 0, 0, 14, []) := rfl
theorem ti_145_14 : (q_I 145).2 14 = some (0, 4, 0, 0, 2, 15, []) := rfl
theorem ti_145_15 : (q_I 145).2 15 = some (1, 0, 7, 6, 0, 18, [795]) := rfl
theorem ti_145_18 : (q_I 145).2 18 = some (2, 0, 2, 0, 0, 19, []) := rfl
theorem ti_145_19 : (q_I 145).2 19 = some (5, 10, 0, 0, 0, 20, []) := rfl
theorem ti_145_20 : (q_I 145).2 20 = some (0, 0, 0, 1, 0, 21, []) := rfl
theorem ti_145_21 : (q_I 145).2 21 = some (9, 1, 0, 27, 0, 24, []) := rfl
theorem ti_145_24 : (q_I 145).2 24 = some (2, 1, (-2), 0, 0, 26, []) := rfl
theorem ti_145_26 : (q_I 145).2 26 = some (4, 0, 0, 0, 0, 27, []) := rfl
theorem ti_145_27 : (q_I 145).2 27 = some (0, 4, 0, 0, 2, 28, []) := rfl
theorem ti_145_28 : (q_I 145).2 28 = some (3, 0, 170, 142, 1, 31, [979, 6]) := rfl
theorem ti_145_31 : (q_I 145).2 31 = some (0, 4, 0, 0, 2, 32, []) := rfl
theorem ti_145_32 : (q_I 145).2 32 = some (1, 0, 7, 6, 0, 35, [795]) := rfl
theorem ti_145_35 : (q_I 145).2 35 = some (2, 0, 2, 0, 0, 36, []) := rfl
theorem ti_145_36 : (q_I 145).2 36 = some (0, 0, 0, 1, 0, 37, []) := rfl
theorem ti_145_37 : (q_I 145).2 37 = some (12, 10, 0, 0, 0, 38, []) := rfl
theorem ti_145_38 : (q_I 145).2 38 = some (0, 4, 0, 0, 2, 39, []) := rfl
theorem ti_145_39 : (q_I 145).2 39 = some (3, 0, 91, 120, 1, 42, [887, 6]) := rfl
theorem ti_145_42 : (q_I 145).2 42 = some (4, 0, 0, 0, 0, 43, []) := rfl
theorem mt_145 (a1 : Int) (H : a_P) : a_mt id 0 145 [(2, 133), (0, a1)] H (fn_145 a1 H) := by
  refine a_mtI (lo := [some (2, 133), some (0, a1)]) rfl fun d => ?_
  unfold fn_145
  refine a_w0 (Nat.le_succ _) ti_145_0 rfl ?_
  refine a_w14 (a := (1, a1)) (Nat.le_succ _) ti_145_1 rfl ?_
  refine a_w15 (z := 0) (Nat.le_succ _) ti_145_2 (by decide) ?_
  refine a_w15 (z := 3) (Nat.le_succ _) ti_145_3 (by decide) ?_
  refine a_w3p (args := [(1, a1), (1, 0), (1, 3)]) (Nat.le_succ _) ti_145_6 (mt_108 a1 0 3 H) rfl rfl rfl rfl ?_
  refine a_w8_1 (Nat.le_succ _) ti_145_9 ?_ ?_
  · refine a_w0 (Nat.le_succ _) ti_145_14 rfl ?_
    refine a_w1 (a := (2, 134)) (Nat.le_succ _) ti_145_15 rfl ?_
    refine a_w2 (z := 2) (Nat.le_succ _) ti_145_18 (by decide) ?_
    refine a_w5 (kk := 0) (Nat.le_succ _) ti_145_19 (fun _ => rfl) ?_
    refine a_w0 (Nat.le_succ _) ti_145_20 rfl ?_
    refine a_w9_1 (Nat.le_succ _) ti_145_21 ?_ ?_
    · refine a_w0 (Nat.le_succ _) ti_145_27 rfl ?_
      refine a_w3v (args := [(2, 133)]) (Nat.le_succ _) ti_145_28 (mt_142 H) rfl rfl (fun H1 => ?_)
      refine a_w0 (Nat.le_succ _) ti_145_31 rfl ?_
      refine a_w1 (a := (2, 134)) (Nat.le_succ _) ti_145_32 rfl ?_
      refine a_w2 (z := 2) (Nat.le_succ _) ti_145_35 (by decide) ?_
      refine a_w0 (Nat.le_succ _) ti_145_36 rfl ?_
      refine a_w12 (Nat.le_succ _) ti_145_37 (Or.inl ⟨rfl, rfl⟩) (fun H2 => ?_)
      refine a_w0 (Nat.le_succ _) ti_145_38 rfl ?_
      refine a_w3p (args := [(2, 133)]) (Nat.le_succ _) ti_145_39 (mt_120 H2) rfl rfl rfl rfl ?_
      exact a_w4 (Nat.le_succ _) ti_145_42 rfl rfl rfl
    · refine a_w2 (z := (-2)) (Nat.le_succ _) ti_145_24 (by decide) ?_
      exact a_w4 (Nat.le_succ _) ti_145_26 rfl rfl rfl
  · refine a_w2 (z := (-1)) (Nat.le_succ _) ti_145_12 (by decide) ?_
    exact a_w4 (Nat.le_succ _) ti_145_13 rfl rfl rfl
/-- CarriedGateModel.hand(I)I -/
noncomputable def fn_146 (a1 : Int) (H : a_P) : a_F :=
  (if (fn_110 a1 H) = 0 then ((-1), H)
  else a_bd (H 134 3) fun x1 =>
  a_jn (fun (s1 : Unit) => ((-2), H)) fun j57 =>
  (if a1 = x1 then j57 ()
  else (if (H 134 (a_w (31 + a1))) < 1 then j57 ()
  else (if 1 < (fn_114 (H 134 (a_w (15 + a1))) (H 134 1)) then j57 ()
  else a_bd (fn_142 H) fun H1 =>
  a_bd (a_up H1 134 3 a1) fun H2 =>
  a_bd (a_up H2 134 (a_w (15 + a1)) (H2 134 1)) fun H3 =>
  (x1, H3)))))
theorem ti_146_0 : (q_I 146).2 0 = some (0, 4, 0, 0, 2, 1, []) := rfl
theorem ti_146_1 : (q_I 146).2 1 = some (0, 0, 0, 1, 0, 2, []) := rfl
theorem ti_146_2 : (q_I 146).2 2 = some (3, 0, 115, 110, 2, 5, [883, 6]) := rfl
theorem ti_146_5 : (q_I 146).2 5 = some (8, 1, 0, 10, 0, 8, []) := rfl
theorem ti_146_8 : (q_I 146).2 8 = some (2, 0, (-1), 0, 0, 9, []) := rfl
theorem ti_146_9 : (q_I 146).2 9 = some (4, 0, 0, 0, 0, 10, []) := rfl
theorem ti_146_10 : (q_I 146).2 10 = some (0, 4, 0, 0, 2, 11, []) := rfl
theorem ti_146_11 : (q_I 146).2 11 = some (1, 0, 7, 6, 0, 14, [795]) := rfl
theorem ti_146_14 : (q_I 146).2 14 = some (2, 0, 3, 0, 0, 15, []) := rfl
theorem ti_146_15 : (q_I 146).2 15 = some (5, 10, 0, 0, 0, 16, []) := rfl
theorem ti_146_16 : (q_I 146).2 16 = some (11, 0, 0, 2, 0, 17, []) := rfl
theorem ti_146_17 : (q_I 146).2 17 = some (0, 0, 0, 1, 0, 18, []) := rfl
theorem ti_146_18 : (q_I 146).2 18 = some (0, 0, 0, 2, 0, 19, []) := rfl
theorem ti_146_19 : (q_I 146).2 19 = some (9, 0, 0, 57, 0, 22, []) := rfl
theorem ti_146_22 : (q_I 146).2 22 = some (0, 4, 0, 0, 2, 23, []) := rfl
theorem ti_146_23 : (q_I 146).2 23 = some (1, 0, 7, 6, 0, 26, [795]) := rfl
theorem ti_146_26 : (q_I 146).2 26 = some (2, 1, 31, 0, 0, 28, []) := rfl
theorem ti_146_28 : (q_I 146).2 28 = some (0, 0, 0, 1, 0, 29, []) := rfl
theorem ti_146_29 : (q_I 146).2 29 = some (6, 0, 0, 0, 0, 30, []) := rfl
theorem ti_146_30 : (q_I 146).2 30 = some (5, 10, 0, 0, 0, 31, []) := rfl
theorem ti_146_31 : (q_I 146).2 31 = some (2, 0, 1, 0, 0, 32, []) := rfl
theorem ti_146_32 : (q_I 146).2 32 = some (9, 2, 0, 57, 0, 35, []) := rfl
theorem ti_146_35 : (q_I 146).2 35 = some (0, 4, 0, 0, 2, 36, []) := rfl
theorem ti_146_36 : (q_I 146).2 36 = some (1, 0, 7, 6, 0, 39, [795]) := rfl
theorem ti_146_39 : (q_I 146).2 39 = some (2, 1, 15, 0, 0, 41, []) := rfl
theorem ti_146_41 : (q_I 146).2 41 = some (0, 0, 0, 1, 0, 42, []) := rfl
theorem ti_146_42 : (q_I 146).2 42 = some (6, 0, 0, 0, 0, 43, []) := rfl
theorem ti_146_43 : (q_I 146).2 43 = some (5, 10, 0, 0, 0, 44, []) := rfl
theorem ti_146_44 : (q_I 146).2 44 = some (0, 4, 0, 0, 2, 45, []) := rfl
theorem ti_146_45 : (q_I 146).2 45 = some (1, 0, 7, 6, 0, 48, [795]) := rfl
theorem ti_146_48 : (q_I 146).2 48 = some (2, 0, 1, 0, 0, 49, []) := rfl
theorem ti_146_49 : (q_I 146).2 49 = some (5, 10, 0, 0, 0, 50, []) := rfl
theorem ti_146_50 : (q_I 146).2 50 = some (3, 1, 69, 114, 2, 53, [910, 6]) := rfl
theorem ti_146_53 : (q_I 146).2 53 = some (2, 0, 1, 0, 0, 54, []) := rfl
theorem ti_146_54 : (q_I 146).2 54 = some (9, 5, 0, 60, 0, 57, []) := rfl
theorem ti_146_60 : (q_I 146).2 60 = some (0, 4, 0, 0, 2, 61, []) := rfl
theorem ti_146_61 : (q_I 146).2 61 = some (3, 0, 170, 142, 1, 64, [979, 6]) := rfl
theorem ti_146_64 : (q_I 146).2 64 = some (0, 4, 0, 0, 2, 65, []) := rfl
theorem ti_146_65 : (q_I 146).2 65 = some (1, 0, 7, 6, 0, 68, [795]) := rfl
theorem ti_146_68 : (q_I 146).2 68 = some (2, 0, 3, 0, 0, 69, []) := rfl
theorem ti_146_69 : (q_I 146).2 69 = some (0, 0, 0, 1, 0, 70, []) := rfl
theorem ti_146_70 : (q_I 146).2 70 = some (12, 10, 0, 0, 0, 71, []) := rfl
theorem ti_146_71 : (q_I 146).2 71 = some (0, 4, 0, 0, 2, 72, []) := rfl
theorem ti_146_72 : (q_I 146).2 72 = some (1, 0, 7, 6, 0, 75, [795]) := rfl
theorem ti_146_75 : (q_I 146).2 75 = some (2, 1, 15, 0, 0, 77, []) := rfl
theorem ti_146_77 : (q_I 146).2 77 = some (0, 0, 0, 1, 0, 78, []) := rfl
theorem ti_146_78 : (q_I 146).2 78 = some (6, 0, 0, 0, 0, 79, []) := rfl
theorem ti_146_79 : (q_I 146).2 79 = some (0, 4, 0, 0, 2, 80, []) := rfl
theorem ti_146_80 : (q_I 146).2 80 = some (1, 0, 7, 6, 0, 83, [795]) := rfl
theorem ti_146_83 : (q_I 146).2 83 = some (2, 0, 1, 0, 0, 84, []) := rfl
theorem ti_146_84 : (q_I 146).2 84 = some (5, 10, 0, 0, 0, 85, []) := rfl
theorem ti_146_85 : (q_I 146).2 85 = some (12, 10, 0, 0, 0, 86, []) := rfl
theorem ti_146_86 : (q_I 146).2 86 = some (0, 0, 0, 2, 0, 87, []) := rfl
theorem ti_146_87 : (q_I 146).2 87 = some (4, 0, 0, 0, 0, 88, []) := rfl
theorem ti_146_57 : (q_I 146).2 57 = some (2, 1, (-2), 0, 0, 59, []) := rfl
theorem ti_146_59 : (q_I 146).2 59 = some (4, 0, 0, 0, 0, 60, []) := rfl
theorem mt_146 (a1 : Int) (H : a_P) : a_mt id 0 146 [(2, 133), (0, a1)] H (fn_146 a1 H) := by
  refine a_mtI (lo := [some (2, 133), some (0, a1), none]) rfl fun d => ?_
  unfold fn_146
  refine a_w0 (Nat.le_succ _) ti_146_0 rfl ?_
  refine a_w0 (Nat.le_succ _) ti_146_1 rfl ?_
  refine a_w3p (args := [(2, 133), (0, a1)]) (Nat.le_succ _) ti_146_2 (mt_110 a1 H) rfl rfl rfl rfl ?_
  refine a_w8_1 (Nat.le_succ _) ti_146_5 ?_ ?_
  · refine a_w0 (Nat.le_succ _) ti_146_10 rfl ?_
    refine a_w1 (a := (2, 134)) (Nat.le_succ _) ti_146_11 rfl ?_
    refine a_w2 (z := 3) (Nat.le_succ _) ti_146_14 (by decide) ?_
    refine a_w5 (kk := 0) (Nat.le_succ _) ti_146_15 (fun _ => rfl) ?_
    refine a_w11b (lof := fun x1 => [some (2, 133), some (0, a1), some (0, x1)]) (Nat.le_succ _) ti_146_16 (fun _ => rfl) (fun x1 => ?_)
    refine a_w0 (Nat.le_succ _) ti_146_17 rfl ?_
    refine a_w0 (Nat.le_succ _) ti_146_18 rfl ?_
    refine a_wjn 57 (fun (s : Unit) => [none, none, none]) (fun (s : Unit) => []) (fun (s : Unit) => H) (fun s1 => ?_) (fun j57 hj57 => ?_)
    · refine a_w2 (z := (-2)) (Nat.le_succ _) ti_146_57 (by decide) ?_
      exact a_w4 (Nat.le_succ _) ti_146_59 rfl rfl rfl
    · refine a_w9_0 (Nat.le_succ _) ti_146_19 ?_ ?_
      · exact a_wk (hj57 ()) (by omega) trivial
      · refine a_w0 (Nat.le_succ _) ti_146_22 rfl ?_
        refine a_w1 (a := (2, 134)) (Nat.le_succ _) ti_146_23 rfl ?_
        refine a_w2 (z := 31) (Nat.le_succ _) ti_146_26 (by decide) ?_
        refine a_w0 (Nat.le_succ _) ti_146_28 rfl ?_
        refine a_w6 (a := (0, a_w (31 + a1))) (Nat.le_succ _) ti_146_29 rfl ?_
        refine a_w5 (kk := 0) (Nat.le_succ _) ti_146_30 (fun _ => rfl) ?_
        refine a_w2 (z := 1) (Nat.le_succ _) ti_146_31 (by decide) ?_
        refine a_w9_2 (Nat.le_succ _) ti_146_32 ?_ ?_
        · exact a_wk (hj57 ()) (by omega) trivial
        · refine a_w0 (Nat.le_succ _) ti_146_35 rfl ?_
          refine a_w1 (a := (2, 134)) (Nat.le_succ _) ti_146_36 rfl ?_
          refine a_w2 (z := 15) (Nat.le_succ _) ti_146_39 (by decide) ?_
          refine a_w0 (Nat.le_succ _) ti_146_41 rfl ?_
          refine a_w6 (a := (0, a_w (15 + a1))) (Nat.le_succ _) ti_146_42 rfl ?_
          refine a_w5 (kk := 0) (Nat.le_succ _) ti_146_43 (fun _ => rfl) ?_
          refine a_w0 (Nat.le_succ _) ti_146_44 rfl ?_
          refine a_w1 (a := (2, 134)) (Nat.le_succ _) ti_146_45 rfl ?_
          refine a_w2 (z := 1) (Nat.le_succ _) ti_146_48 (by decide) ?_
          refine a_w5 (kk := 0) (Nat.le_succ _) ti_146_49 (fun _ => rfl) ?_
          refine a_w3p (args := [(0, H 134 (a_w (15 + a1))), (0, H 134 1)]) (Nat.le_succ _) ti_146_50 (mt_114 (H 134 (a_w (15 + a1))) (H 134 1) H) rfl rfl rfl rfl ?_
          refine a_w2 (z := 1) (Nat.le_succ _) ti_146_53 (by decide) ?_
          refine a_w9_5 (Nat.le_succ _) ti_146_54 ?_ ?_
          · refine a_w0 (Nat.le_succ _) ti_146_60 rfl ?_
            refine a_w3v (args := [(2, 133)]) (Nat.le_succ _) ti_146_61 (mt_142 H) rfl rfl (fun H1 => ?_)
            refine a_w0 (Nat.le_succ _) ti_146_64 rfl ?_
            refine a_w1 (a := (2, 134)) (Nat.le_succ _) ti_146_65 rfl ?_
            refine a_w2 (z := 3) (Nat.le_succ _) ti_146_68 (by decide) ?_
            refine a_w0 (Nat.le_succ _) ti_146_69 rfl ?_
            refine a_w12 (Nat.le_succ _) ti_146_70 (Or.inl ⟨rfl, rfl⟩) (fun H2 => ?_)
            refine a_w0 (Nat.le_succ _) ti_146_71 rfl ?_
            refine a_w1 (a := (2, 134)) (Nat.le_succ _) ti_146_72 rfl ?_
            refine a_w2 (z := 15) (Nat.le_succ _) ti_146_75 (by decide) ?_
            refine a_w0 (Nat.le_succ _) ti_146_77 rfl ?_
            refine a_w6 (a := (0, a_w (15 + a1))) (Nat.le_succ _) ti_146_78 rfl ?_
            refine a_w0 (Nat.le_succ _) ti_146_79 rfl ?_
            refine a_w1 (a := (2, 134)) (Nat.le_succ _) ti_146_80 rfl ?_
            refine a_w2 (z := 1) (Nat.le_succ _) ti_146_83 (by decide) ?_
            refine a_w5 (kk := 0) (Nat.le_succ _) ti_146_84 (fun _ => rfl) ?_
            refine a_w12 (Nat.le_succ _) ti_146_85 (Or.inl ⟨rfl, rfl⟩) (fun H3 => ?_)
            refine a_w0 (Nat.le_succ _) ti_146_86 rfl ?_
            exact a_w4 (Nat.le_succ _) ti_146_87 rfl rfl rfl
          · exact a_wk (hj57 ()) (by omega) trivial
  · refine a_w2 (z := (-1)) (Nat.le_succ _) ti_146_8 (by decide) ?_
    exact a_w4 (Nat.le_succ _) ti_146_9 rfl rfl rfl
/-- CarriedGateModel.lay()I -/
noncomputable def fn_147 (H : a_P) : a_F :=
  a_bd (H 134 3) fun x1 =>
  (if x1 = (-4) then ((-2), H)
  else a_bd (fn_142 H) fun H1 =>
  a_bd (a_up H1 134 3 (-4)) fun H2 =>
  (x1, H2))
theorem ti_147_0 : (q_I 147).2 0 = some (0, 4, 0, 0, 2, 1, []) := rfl
theorem ti_147_1 : (q_I 147).2 1 = some (1, 0, 7, 6, 0, 4, [795]) := rfl
theorem ti_147_4 : (q_I 147).2 4 = some (2, 0, 3, 0, 0, 5, []) := rfl
theorem ti_147_5 : (q_I 147).2 5 = some (5, 10, 0, 0, 0, 6, []) := rfl
theorem ti_147_6 : (q_I 147).2 6 = some (11, 0, 0, 1, 0, 7, []) := rfl
theorem ti_147_7 : (q_I 147).2 7 = some (0, 0, 0, 1, 0, 8, []) := rfl
theorem ti_147_8 : (q_I 147).2 8 = some (2, 1, (-4), 0, 0, 10, []) := rfl
theorem ti_147_10 : (q_I 147).2 10 = some (9, 1, 0, 16, 0, 13, []) := rfl
theorem ti_147_13 : (q_I 147).2 13 = some (2, 1, (-2), 0, 0, 15, []) := rfl
theorem ti_147_15 : (q_I 147).2 15 = some (4, 0, 0, 0, 0, 16, []) := rfl
theorem ti_147_16 : (q_I 147).2 16 = some (0, 4, 0, 0, 2, 17, []) := rfl
theorem ti_147_17 : (q_I 147).2 17 = some (3, 0, 170, 142, 1, 20, [979, 6]) := rfl
theorem ti_147_20 : (q_I 147).2 20 = some (0, 4, 0, 0, 2, 21, []) := rfl
theorem ti_147_21 : (q_I 147).2 21 = some (1, 0, 7, 6, 0, 24, [795]) := rfl
theorem ti_147_24 : (q_I 147).2 24 = some (2, 0, 3, 0, 0, 25, []) := rfl
theorem ti_147_25 : (q_I 147).2 25 = some (2, 1, (-4), 0, 0, 27, []) := rfl
theorem ti_147_27 : (q_I 147).2 27 = some (12, 10, 0, 0, 0, 28, []) := rfl
theorem ti_147_28 : (q_I 147).2 28 = some (0, 0, 0, 1, 0, 29, []) := rfl
theorem ti_147_29 : (q_I 147).2 29 = some (4, 0, 0, 0, 0, 30, []) := rfl
theorem mt_147 (H : a_P) : a_mt id 0 147 [(2, 133)] H (fn_147 H) := by
  refine a_mtI (lo := [some (2, 133), none]) rfl fun d => ?_
  unfold fn_147
  refine a_w0 (Nat.le_succ _) ti_147_0 rfl ?_
  refine a_w1 (a := (2, 134)) (Nat.le_succ _) ti_147_1 rfl ?_
  refine a_w2 (z := 3) (Nat.le_succ _) ti_147_4 (by decide) ?_
  refine a_w5 (kk := 0) (Nat.le_succ _) ti_147_5 (fun _ => rfl) ?_
  refine a_w11b (lof := fun x1 => [some (2, 133), some (0, x1)]) (Nat.le_succ _) ti_147_6 (fun _ => rfl) (fun x1 => ?_)
  refine a_w0 (Nat.le_succ _) ti_147_7 rfl ?_
  refine a_w2 (z := (-4)) (Nat.le_succ _) ti_147_8 (by decide) ?_
  refine a_w9_1 (Nat.le_succ _) ti_147_10 ?_ ?_
  · refine a_w0 (Nat.le_succ _) ti_147_16 rfl ?_
    refine a_w3v (args := [(2, 133)]) (Nat.le_succ _) ti_147_17 (mt_142 H) rfl rfl (fun H1 => ?_)
    refine a_w0 (Nat.le_succ _) ti_147_20 rfl ?_
    refine a_w1 (a := (2, 134)) (Nat.le_succ _) ti_147_21 rfl ?_
    refine a_w2 (z := 3) (Nat.le_succ _) ti_147_24 (by decide) ?_
    refine a_w2 (z := (-4)) (Nat.le_succ _) ti_147_25 (by decide) ?_
    refine a_w12 (Nat.le_succ _) ti_147_27 (Or.inl ⟨rfl, rfl⟩) (fun H2 => ?_)
    refine a_w0 (Nat.le_succ _) ti_147_28 rfl ?_
    exact a_w4 (Nat.le_succ _) ti_147_29 rfl rfl rfl
  · refine a_w2 (z := (-2)) (Nat.le_succ _) ti_147_13 (by decide) ?_
    exact a_w4 (Nat.le_succ _) ti_147_15 rfl rfl rfl
/-- CarriedGateModel.send(II)I -/
noncomputable def fn_148 (a1 : Int) (a2 : Int) (H : a_P) : a_F :=
  a_jn (fun (s1 : Unit) => ((-1), H)) fun j20 =>
  (if (fn_110 a1 H) = 0 then j20 ()
  else (if (fn_108 a2 0 4) = 0 then j20 ()
  else a_bd (H 134 (a_w (23 + a1))) fun x1 =>
  (if x1 = a2 then ((-2), H)
  else a_bd (fn_142 H) fun H1 =>
  a_bd (a_up H1 134 (a_w (23 + a1)) a2) fun H2 =>
  (x1, H2))))
theorem ti_148_0 : (q_I 148).2 0 = some (0, 4, 0, 0, 2, 1, []) := rfl
theorem ti_148_1 : (q_I 148).2 1 = some (0, 0, 0, 1, 0, 2, []) := rfl
theorem ti_148_2 : (q_I 148).2 2 = some (3, 0, 115, 110, 2, 5, [883, 6]) := rfl
theorem ti_148_5 : (q_I 148).2 5 = some (8, 0, 0, 20, 0, 8, []) := rfl
theorem ti_148_8 : (q_I 148).2 8 = some (0, 0, 0, 2, 0, 9, []) := rfl
theorem ti_148_9 : (q_I 148).2 9 = some (14, 4, 0, 0, 0, 10, []) := rfl
theorem ti_148_10 : (q_I 148).2 10 = some (15, 0, 0, 0, 0, 11, []) := rfl
theorem ti_148_11 : (q_I 148).2 11 = some (15, 1, 4, 104, 0, 14, [866]) := rfl
theorem ti_148_14 : (q_I 148).2 14 = some (3, 1, 51, 108, 3, 17, [867, 6]) := rfl
theorem ti_148_17 : (q_I 148).2 17 = some (8, 1, 0, 22, 0, 20, []) := rfl
theorem ti_148_22 : (q_I 148).2 22 = some (0, 4, 0, 0, 2, 23, []) := rfl
theorem ti_148_23 : (q_I 148).2 23 = some (1, 0, 7, 6, 0, 26, [795]) := rfl
theorem ti_148_26 : (q_I 148).2 26 = some (2, 1, 23, 0, 0, 28, []) := rfl
theorem ti_148_28 : (q_I 148).2 28 = some (0, 0, 0, 1, 0, 29, []) := rfl
theorem ti_148_29 : (q_I 148).2 29 = some (6, 0, 0, 0, 0, 30, []) := rfl
theorem ti_148_30 : (q_I 148).2 30 = some (5, 10, 0, 0, 0, 31, []) := rfl
theorem ti_148_31 : (q_I 148).2 31 = some (11, 0, 0, 3, 0, 32, []) := rfl
theorem ti_148_32 : (q_I 148).2 32 = some (0, 0, 0, 3, 0, 33, []) := rfl
theorem ti_148_33 : (q_I 148).2 33 = some (0, 0, 0, 2, 0, 34, []) := rfl
theorem ti_148_34 : (q_I 148).2 34 = some (9, 1, 0, 40, 0, 37, []) := rfl
theorem ti_148_37 : (q_I 148).2 37 = some (2, 1, (-2), 0, 0, 39, []) := rfl
theorem ti_148_39 : (q_I 148).2 39 = some (4, 0, 0, 0, 0, 40, []) := rfl
theorem ti_148_40 : (q_I 148).2 40 = some (0, 4, 0, 0, 2, 41, []) := rfl
theorem ti_148_41 : (q_I 148).2 41 = some (3, 0, 170, 142, 1, 44, [979, 6]) := rfl
theorem ti_148_44 : (q_I 148).2 44 = some (0, 4, 0, 0, 2, 45, []) := rfl
theorem ti_148_45 : (q_I 148).2 45 = some (1, 0, 7, 6, 0, 48, [795]) := rfl
theorem ti_148_48 : (q_I 148).2 48 = some (2, 1, 23, 0, 0, 50, []) := rfl
theorem ti_148_50 : (q_I 148).2 50 = some (0, 0, 0, 1, 0, 51, []) := rfl
theorem ti_148_51 : (q_I 148).2 51 = some (6, 0, 0, 0, 0, 52, []) := rfl
theorem ti_148_52 : (q_I 148).2 52 = some (0, 0, 0, 2, 0, 53, []) := rfl
theorem ti_148_53 : (q_I 148).2 53 = some (12, 10, 0, 0, 0, 54, []) := rfl
theorem ti_148_54 : (q_I 148).2 54 = some (0, 0, 0, 3, 0, 55, []) := rfl
theorem ti_148_55 : (q_I 148).2 55 = some (4, 0, 0, 0, 0, 56, []) := rfl
theorem ti_148_20 : (q_I 148).2 20 = some (2, 0, (-1), 0, 0, 21, []) := rfl
theorem ti_148_21 : (q_I 148).2 21 = some (4, 0, 0, 0, 0, 22, []) := rfl
theorem mt_148 (a1 : Int) (a2 : Int) (H : a_P) : a_mt id 0 148 [(2, 133), (0, a1), (0, a2)] H (fn_148 a1 a2 H) := by
  refine a_mtI (lo := [some (2, 133), some (0, a1), some (0, a2), none]) rfl fun d => ?_
  unfold fn_148
  refine a_w0 (Nat.le_succ _) ti_148_0 rfl ?_
  refine a_w0 (Nat.le_succ _) ti_148_1 rfl ?_
  refine a_w3p (args := [(2, 133), (0, a1)]) (Nat.le_succ _) ti_148_2 (mt_110 a1 H) rfl rfl rfl rfl ?_
  refine a_wjn 20 (fun (s : Unit) => [none, none, none, none]) (fun (s : Unit) => []) (fun (s : Unit) => H) (fun s1 => ?_) (fun j20 hj20 => ?_)
  · refine a_w2 (z := (-1)) (Nat.le_succ _) ti_148_20 (by decide) ?_
    exact a_w4 (Nat.le_succ _) ti_148_21 rfl rfl rfl
  · refine a_w8_0 (Nat.le_succ _) ti_148_5 ?_ ?_
    · exact a_wk (hj20 ()) (by omega) trivial
    · refine a_w0 (Nat.le_succ _) ti_148_8 rfl ?_
      refine a_w14 (a := (1, a2)) (Nat.le_succ _) ti_148_9 rfl ?_
      refine a_w15 (z := 0) (Nat.le_succ _) ti_148_10 (by decide) ?_
      refine a_w15 (z := 4) (Nat.le_succ _) ti_148_11 (by decide) ?_
      refine a_w3p (args := [(1, a2), (1, 0), (1, 4)]) (Nat.le_succ _) ti_148_14 (mt_108 a2 0 4 H) rfl rfl rfl rfl ?_
      refine a_w8_1 (Nat.le_succ _) ti_148_17 ?_ ?_
      · refine a_w0 (Nat.le_succ _) ti_148_22 rfl ?_
        refine a_w1 (a := (2, 134)) (Nat.le_succ _) ti_148_23 rfl ?_
        refine a_w2 (z := 23) (Nat.le_succ _) ti_148_26 (by decide) ?_
        refine a_w0 (Nat.le_succ _) ti_148_28 rfl ?_
        refine a_w6 (a := (0, a_w (23 + a1))) (Nat.le_succ _) ti_148_29 rfl ?_
        refine a_w5 (kk := 0) (Nat.le_succ _) ti_148_30 (fun _ => rfl) ?_
        refine a_w11b (lof := fun x1 => [some (2, 133), some (0, a1), some (0, a2), some (0, x1)]) (Nat.le_succ _) ti_148_31 (fun _ => rfl) (fun x1 => ?_)
        refine a_w0 (Nat.le_succ _) ti_148_32 rfl ?_
        refine a_w0 (Nat.le_succ _) ti_148_33 rfl ?_
        refine a_w9_1 (Nat.le_succ _) ti_148_34 ?_ ?_
        · refine a_w0 (Nat.le_succ _) ti_148_40 rfl ?_
          refine a_w3v (args := [(2, 133)]) (Nat.le_succ _) ti_148_41 (mt_142 H) rfl rfl (fun H1 => ?_)
          refine a_w0 (Nat.le_succ _) ti_148_44 rfl ?_
          refine a_w1 (a := (2, 134)) (Nat.le_succ _) ti_148_45 rfl ?_
          refine a_w2 (z := 23) (Nat.le_succ _) ti_148_48 (by decide) ?_
          refine a_w0 (Nat.le_succ _) ti_148_50 rfl ?_
          refine a_w6 (a := (0, a_w (23 + a1))) (Nat.le_succ _) ti_148_51 rfl ?_
          refine a_w0 (Nat.le_succ _) ti_148_52 rfl ?_
          refine a_w12 (Nat.le_succ _) ti_148_53 (Or.inl ⟨rfl, rfl⟩) (fun H2 => ?_)
          refine a_w0 (Nat.le_succ _) ti_148_54 rfl ?_
          exact a_w4 (Nat.le_succ _) ti_148_55 rfl rfl rfl
        · refine a_w2 (z := (-2)) (Nat.le_succ _) ti_148_37 (by decide) ?_
          exact a_w4 (Nat.le_succ _) ti_148_39 rfl rfl rfl
      · exact a_wk (hj20 ()) (by omega) trivial
/-- CarriedGateModel.rain(I)I -/
noncomputable def fn_149 (a1 : Int) (H : a_P) : a_F :=
  (if (fn_108 a1 0 63) = 0 then ((-1), H)
  else a_bd (H 134 4) fun x1 =>
  (if x1 = a1 then ((-2), H)
  else a_bd (fn_142 H) fun H1 =>
  a_bd (a_up H1 134 4 a1) fun H2 =>
  (x1, H2)))
theorem ti_149_0 : (q_I 149).2 0 = some (0, 0, 0, 1, 0, 1, []) := rfl
theorem ti_149_1 : (q_I 149).2 1 = some (14, 4, 0, 0, 0, 2, []) := rfl
theorem ti_149_2 : (q_I 149).2 2 = some (15, 0, 0, 0, 0, 3, []) := rfl
theorem ti_149_3 : (q_I 149).2 3 = some (15, 1, 63, 178, 0, 6, [1027]) := rfl
theorem ti_149_6 : (q_I 149).2 6 = some (3, 1, 51, 108, 3, 9, [867, 6]) := rfl
theorem ti_149_9 : (q_I 149).2 9 = some (8, 1, 0, 14, 0, 12, []) := rfl
theorem ti_149_12 : (q_I 149).2 12 = some (2, 0, (-1), 0, 0, 13, []) := rfl
theorem ti_149_13 : (q_I 149).2 13 = some (4, 0, 0, 0, 0, 14, []) := rfl
theorem ti_149_14 : (q_I 149).2 14 = some (0, 4, 0, 0, 2, 15, []) := rfl
theorem ti_149_15 : (q_I 149).2 15 = some (1, 0, 7, 6, 0, 18, [795]) := rfl
theorem ti_149_18 : (q_I 149).2 18 = some (2, 0, 4, 0, 0, 19, []) := rfl
theorem ti_149_19 : (q_I 149).2 19 = some (5, 10, 0, 0, 0, 20, []) := rfl
theorem ti_149_20 : (q_I 149).2 20 = some (11, 0, 0, 2, 0, 21, []) := rfl
theorem ti_149_21 : (q_I 149).2 21 = some (0, 0, 0, 2, 0, 22, []) := rfl
theorem ti_149_22 : (q_I 149).2 22 = some (0, 0, 0, 1, 0, 23, []) := rfl
theorem ti_149_23 : (q_I 149).2 23 = some (9, 1, 0, 29, 0, 26, []) := rfl
theorem ti_149_26 : (q_I 149).2 26 = some (2, 1, (-2), 0, 0, 28, []) := rfl
theorem ti_149_28 : (q_I 149).2 28 = some (4, 0, 0, 0, 0, 29, []) := rfl
theorem ti_149_29 : (q_I 149).2 29 = some (0, 4, 0, 0, 2, 30, []) := rfl
theorem ti_149_30 : (q_I 149).2 30 = some (3, 0, 170, 142, 1, 33, [979, 6]) := rfl
theorem ti_149_33 : (q_I 149).2 33 = some (0, 4, 0, 0, 2, 34, []) := rfl
theorem ti_149_34 : (q_I 149).2 34 = some (1, 0, 7, 6, 0, 37, [795]) := rfl
theorem ti_149_37 : (q_I 149).2 37 = some (2, 0, 4, 0, 0, 38, []) := rfl
theorem ti_149_38 : (q_I 149).2 38 = some (0, 0, 0, 1, 0, 39, []) := rfl
theorem ti_149_39 : (q_I 149).2 39 = some (12, 10, 0, 0, 0, 40, []) := rfl
theorem ti_149_40 : (q_I 149).2 40 = some (0, 0, 0, 2, 0, 41, []) := rfl
theorem ti_149_41 : (q_I 149).2 41 = some (4, 0, 0, 0, 0, 42, []) := rfl
theorem mt_149 (a1 : Int) (H : a_P) : a_mt id 0 149 [(2, 133), (0, a1)] H (fn_149 a1 H) := by
  refine a_mtI (lo := [some (2, 133), some (0, a1), none]) rfl fun d => ?_
  unfold fn_149
  refine a_w0 (Nat.le_succ _) ti_149_0 rfl ?_
  refine a_w14 (a := (1, a1)) (Nat.le_succ _) ti_149_1 rfl ?_
  refine a_w15 (z := 0) (Nat.le_succ _) ti_149_2 (by decide) ?_
  refine a_w15 (z := 63) (Nat.le_succ _) ti_149_3 (by decide) ?_
  refine a_w3p (args := [(1, a1), (1, 0), (1, 63)]) (Nat.le_succ _) ti_149_6 (mt_108 a1 0 63 H) rfl rfl rfl rfl ?_
  refine a_w8_1 (Nat.le_succ _) ti_149_9 ?_ ?_
  · refine a_w0 (Nat.le_succ _) ti_149_14 rfl ?_
    refine a_w1 (a := (2, 134)) (Nat.le_succ _) ti_149_15 rfl ?_
    refine a_w2 (z := 4) (Nat.le_succ _) ti_149_18 (by decide) ?_
    refine a_w5 (kk := 0) (Nat.le_succ _) ti_149_19 (fun _ => rfl) ?_
    refine a_w11b (lof := fun x1 => [some (2, 133), some (0, a1), some (0, x1)]) (Nat.le_succ _) ti_149_20 (fun _ => rfl) (fun x1 => ?_)
    refine a_w0 (Nat.le_succ _) ti_149_21 rfl ?_
    refine a_w0 (Nat.le_succ _) ti_149_22 rfl ?_
    refine a_w9_1 (Nat.le_succ _) ti_149_23 ?_ ?_
    · refine a_w0 (Nat.le_succ _) ti_149_29 rfl ?_
      refine a_w3v (args := [(2, 133)]) (Nat.le_succ _) ti_149_30 (mt_142 H) rfl rfl (fun H1 => ?_)
      refine a_w0 (Nat.le_succ _) ti_149_33 rfl ?_
      refine a_w1 (a := (2, 134)) (Nat.le_succ _) ti_149_34 rfl ?_
      refine a_w2 (z := 4) (Nat.le_succ _) ti_149_37 (by decide) ?_
      refine a_w0 (Nat.le_succ _) ti_149_38 rfl ?_
      refine a_w12 (Nat.le_succ _) ti_149_39 (Or.inl ⟨rfl, rfl⟩) (fun H2 => ?_)
      refine a_w0 (Nat.le_succ _) ti_149_40 rfl ?_
      exact a_w4 (Nat.le_succ _) ti_149_41 rfl rfl rfl
    · refine a_w2 (z := (-2)) (Nat.le_succ _) ti_149_26 (by decide) ?_
      exact a_w4 (Nat.le_succ _) ti_149_28 rfl rfl rfl
  · refine a_w2 (z := (-1)) (Nat.le_succ _) ti_149_12 (by decide) ?_
    exact a_w4 (Nat.le_succ _) ti_149_13 rfl rfl rfl
/-- CarriedGateModel.drift(I)I -/
noncomputable def fn_150 (a1 : Int) (H : a_P) : a_F :=
  (if (fn_108 a1 1 40) = 0 then ((-1), H)
  else (if 9999 < (a_w ((H 134 5) + a1)) then ((-3), H)
  else a_lp (fun (s1 : Int × a_P) => (0, s1.2)) (fun (s1 : Int × a_P) n33 => (if s1.1 < a1 then a_bd (fn_142 s1.2) fun H1 =>
  a_bd (a_lrm (a_wl ((a_wl ((H1 134 6) * 1103515245)) + 12345)) 2147483648) fun x1 =>
  a_bd (a_up H1 134 6 (a_w x1)) fun H2 =>
  a_jn (fun (s2 : a_P) => a_bd (fn_124 s2) fun H3 =>
  a_bd (a_w (s1.1 + 1)) fun x2 =>
  n33 (x2, H3)) fun j119 =>
  (if 0 < (H2 134 0) then a_bd (a_up H2 134 (a_w (23 + (a_rem (a_div (H2 134 6) 65536) (H2 134 0)))) (a_rem (a_div (H2 134 6) 128) 5)) fun H4 =>
  j119 H4
  else j119 H2)
  else (fn_120 s1.2, s1.2))) a_fuel (0, H)))
theorem ti_150_0 : (q_I 150).2 0 = some (0, 0, 0, 1, 0, 1, []) := rfl
theorem ti_150_1 : (q_I 150).2 1 = some (14, 4, 0, 0, 0, 2, []) := rfl
theorem ti_150_2 : (q_I 150).2 2 = some (15, 0, 1, 0, 0, 3, []) := rfl
theorem ti_150_3 : (q_I 150).2 3 = some (15, 1, 40, 168, 0, 6, [978]) := rfl
theorem ti_150_6 : (q_I 150).2 6 = some (3, 1, 51, 108, 3, 9, [867, 6]) := rfl
theorem ti_150_9 : (q_I 150).2 9 = some (8, 1, 0, 14, 0, 12, []) := rfl
theorem ti_150_12 : (q_I 150).2 12 = some (2, 0, (-1), 0, 0, 13, []) := rfl
theorem ti_150_13 : (q_I 150).2 13 = some (4, 0, 0, 0, 0, 14, []) := rfl
theorem ti_150_14 : (q_I 150).2 14 = some (0, 4, 0, 0, 2, 15, []) := rfl
theorem ti_150_15 : (q_I 150).2 15 = some (1, 0, 7, 6, 0, 18, [795]) := rfl
theorem ti_150_18 : (q_I 150).2 18 = some (2, 0, 5, 0, 0, 19, []) := rfl
theorem ti_150_19 : (q_I 150).2 19 = some (5, 10, 0, 0, 0, 20, []) := rfl
theorem ti_150_20 : (q_I 150).2 20 = some (0, 0, 0, 1, 0, 21, []) := rfl
theorem ti_150_21 : (q_I 150).2 21 = some (6, 0, 0, 0, 0, 22, []) := rfl
theorem ti_150_22 : (q_I 150).2 22 = some (2, 2, 9999, 0, 0, 25, []) := rfl
theorem ti_150_25 : (q_I 150).2 25 = some (9, 5, 0, 31, 0, 28, []) := rfl
theorem ti_150_28 : (q_I 150).2 28 = some (2, 1, (-3), 0, 0, 30, []) := rfl
theorem ti_150_30 : (q_I 150).2 30 = some (4, 0, 0, 0, 0, 31, []) := rfl
theorem ti_150_31 : (q_I 150).2 31 = some (2, 0, 0, 0, 0, 32, []) := rfl
theorem ti_150_32 : (q_I 150).2 32 = some (11, 0, 0, 2, 0, 33, []) := rfl
theorem ti_150_33 : (q_I 150).2 33 = some (0, 0, 0, 2, 0, 34, []) := rfl
theorem ti_150_34 : (q_I 150).2 34 = some (0, 0, 0, 1, 0, 35, []) := rfl
theorem ti_150_35 : (q_I 150).2 35 = some (9, 3, 0, 129, 0, 38, []) := rfl
theorem ti_150_38 : (q_I 150).2 38 = some (0, 4, 0, 0, 2, 39, []) := rfl
theorem ti_150_39 : (q_I 150).2 39 = some (3, 0, 170, 142, 1, 42, [979, 6]) := rfl
theorem ti_150_42 : (q_I 150).2 42 = some (0, 4, 0, 0, 2, 43, []) := rfl
theorem ti_150_43 : (q_I 150).2 43 = some (1, 0, 7, 6, 0, 46, [795]) := rfl
theorem ti_150_46 : (q_I 150).2 46 = some (2, 1, 6, 0, 0, 48, []) := rfl
theorem ti_150_48 : (q_I 150).2 48 = some (5, 10, 0, 0, 0, 49, []) := rfl
theorem ti_150_49 : (q_I 150).2 49 = some (14, 4, 0, 0, 0, 50, []) := rfl
theorem ti_150_50 : (q_I 150).2 50 = some (15, 1, 1103515245, 180, 0, 53, [1032]) := rfl
theorem ti_150_53 : (q_I 150).2 53 = some (6, 13, 0, 0, 0, 54, []) := rfl
theorem ti_150_54 : (q_I 150).2 54 = some (15, 1, 12345, 182, 0, 57, [1033]) := rfl
theorem ti_150_57 : (q_I 150).2 57 = some (6, 11, 0, 0, 0, 58, []) := rfl
theorem ti_150_58 : (q_I 150).2 58 = some (15, 1, 2147483648, 184, 0, 61, [1034]) := rfl
theorem ti_150_61 : (q_I 150).2 61 = some (6, 15, 0, 0, 0, 62, []) := rfl
theorem ti_150_62 : (q_I 150).2 62 = some (11, 2, 0, 3, 1, 63, []) := rfl
theorem ti_150_63 : (q_I 150).2 63 = some (0, 4, 0, 0, 2, 64, []) := rfl
theorem ti_150_64 : (q_I 150).2 64 = some (1, 0, 7, 6, 0, 67, [795]) := rfl
theorem ti_150_67 : (q_I 150).2 67 = some (2, 1, 6, 0, 0, 69, []) := rfl
theorem ti_150_69 : (q_I 150).2 69 = some (0, 2, 0, 3, 1, 70, []) := rfl
theorem ti_150_70 : (q_I 150).2 70 = some (14, 5, 0, 0, 0, 71, []) := rfl
theorem ti_150_71 : (q_I 150).2 71 = some (12, 10, 0, 0, 0, 72, []) := rfl
theorem ti_150_72 : (q_I 150).2 72 = some (0, 4, 0, 0, 2, 73, []) := rfl
theorem ti_150_73 : (q_I 150).2 73 = some (1, 0, 7, 6, 0, 76, [795]) := rfl
theorem ti_150_76 : (q_I 150).2 76 = some (2, 0, 0, 0, 0, 77, []) := rfl
theorem ti_150_77 : (q_I 150).2 77 = some (5, 10, 0, 0, 0, 78, []) := rfl
theorem ti_150_78 : (q_I 150).2 78 = some (8, 5, 0, 119, 0, 81, []) := rfl
theorem ti_150_81 : (q_I 150).2 81 = some (0, 4, 0, 0, 2, 82, []) := rfl
theorem ti_150_82 : (q_I 150).2 82 = some (1, 0, 7, 6, 0, 85, [795]) := rfl
theorem ti_150_85 : (q_I 150).2 85 = some (2, 1, 23, 0, 0, 87, []) := rfl
theorem ti_150_87 : (q_I 150).2 87 = some (0, 4, 0, 0, 2, 88, []) := rfl
theorem ti_150_88 : (q_I 150).2 88 = some (1, 0, 7, 6, 0, 91, [795]) := rfl
theorem ti_150_91 : (q_I 150).2 91 = some (2, 1, 6, 0, 0, 93, []) := rfl
theorem ti_150_93 : (q_I 150).2 93 = some (5, 10, 0, 0, 0, 94, []) := rfl
theorem ti_150_94 : (q_I 150).2 94 = some (2, 3, 65536, 186, 0, 96, [1035]) := rfl
theorem ti_150_96 : (q_I 150).2 96 = some (6, 3, 0, 0, 0, 97, []) := rfl
theorem ti_150_97 : (q_I 150).2 97 = some (0, 4, 0, 0, 2, 98, []) := rfl
theorem ti_150_98 : (q_I 150).2 98 = some (1, 0, 7, 6, 0, 101, [795]) := rfl
theorem ti_150_101 : (q_I 150).2 101 = some (2, 0, 0, 0, 0, 102, []) := rfl
theorem ti_150_102 : (q_I 150).2 102 = some (5, 10, 0, 0, 0, 103, []) := rfl
theorem ti_150_103 : (q_I 150).2 103 = some (6, 4, 0, 0, 0, 104, []) := rfl
theorem ti_150_104 : (q_I 150).2 104 = some (6, 0, 0, 0, 0, 105, []) := rfl
theorem ti_150_105 : (q_I 150).2 105 = some (0, 4, 0, 0, 2, 106, []) := rfl
theorem ti_150_106 : (q_I 150).2 106 = some (1, 0, 7, 6, 0, 109, [795]) := rfl
theorem ti_150_109 : (q_I 150).2 109 = some (2, 1, 6, 0, 0, 111, []) := rfl
theorem ti_150_111 : (q_I 150).2 111 = some (5, 10, 0, 0, 0, 112, []) := rfl
theorem ti_150_112 : (q_I 150).2 112 = some (2, 2, 128, 0, 0, 115, []) := rfl
theorem ti_150_115 : (q_I 150).2 115 = some (6, 3, 0, 0, 0, 116, []) := rfl
theorem ti_150_116 : (q_I 150).2 116 = some (2, 0, 5, 0, 0, 117, []) := rfl
theorem ti_150_117 : (q_I 150).2 117 = some (6, 4, 0, 0, 0, 118, []) := rfl
theorem ti_150_118 : (q_I 150).2 118 = some (12, 10, 0, 0, 0, 119, []) := rfl
theorem ti_150_119 : (q_I 150).2 119 = some (0, 4, 0, 0, 2, 120, []) := rfl
theorem ti_150_120 : (q_I 150).2 120 = some (3, 0, 173, 124, 1, 123, [983, 6]) := rfl
theorem ti_150_123 : (q_I 150).2 123 = some (13, 0, 1, 2, 0, 126, []) := rfl
theorem ti_150_126 : (q_I 150).2 126 = some (7, 0, 0, 33, 0, 129, []) := rfl
theorem ti_150_129 : (q_I 150).2 129 = some (0, 4, 0, 0, 2, 130, []) := rfl
theorem ti_150_130 : (q_I 150).2 130 = some (3, 0, 91, 120, 1, 133, [887, 6]) := rfl
theorem ti_150_133 : (q_I 150).2 133 = some (4, 0, 0, 0, 0, 134, []) := rfl
theorem mt_150 (a1 : Int) (H : a_P) : a_mt id 0 150 [(2, 133), (0, a1)] H (fn_150 a1 H) := by
  refine a_mtI (lo := [some (2, 133), some (0, a1), none, none, none]) rfl fun d => ?_
  unfold fn_150
  refine a_w0 (Nat.le_succ _) ti_150_0 rfl ?_
  refine a_w14 (a := (1, a1)) (Nat.le_succ _) ti_150_1 rfl ?_
  refine a_w15 (z := 1) (Nat.le_succ _) ti_150_2 (by decide) ?_
  refine a_w15 (z := 40) (Nat.le_succ _) ti_150_3 (by decide) ?_
  refine a_w3p (args := [(1, a1), (1, 1), (1, 40)]) (Nat.le_succ _) ti_150_6 (mt_108 a1 1 40 H) rfl rfl rfl rfl ?_
  refine a_w8_1 (Nat.le_succ _) ti_150_9 ?_ ?_
  · refine a_w0 (Nat.le_succ _) ti_150_14 rfl ?_
    refine a_w1 (a := (2, 134)) (Nat.le_succ _) ti_150_15 rfl ?_
    refine a_w2 (z := 5) (Nat.le_succ _) ti_150_18 (by decide) ?_
    refine a_w5 (kk := 0) (Nat.le_succ _) ti_150_19 (fun _ => rfl) ?_
    refine a_w0 (Nat.le_succ _) ti_150_20 rfl ?_
    refine a_w6 (a := (0, a_w ((H 134 5) + a1))) (Nat.le_succ _) ti_150_21 rfl ?_
    refine a_w2 (z := 9999) (Nat.le_succ _) ti_150_22 (by decide) ?_
    refine a_w9_5 (Nat.le_succ _) ti_150_25 ?_ ?_
    · refine a_w2 (z := 0) (Nat.le_succ _) ti_150_31 (by decide) ?_
      refine a_w11 (lo' := [some (2, 133), some (0, a1), some (0, 0), none, none]) (Nat.le_succ _) ti_150_32 rfl ?_
      refine a_wk (a_wlp (fun (s : Int × a_P) => [some (2, 133), some (0, a1), some (0, s.1), none, none]) (fun (s : Int × a_P) => s.2) (fun N1 hN1 n33 hn33 s1 => ?_) a_fuel (a_fuel_le (by omega)) (0, H)) (Nat.le_refl _) ⟨rfl, rfl, rfl, trivial⟩
      · refine a_w0 (Nat.le_refl _) ti_150_33 rfl ?_
        refine a_w0 (Nat.le_succ _) ti_150_34 rfl ?_
        refine a_w9_3 (Nat.le_succ _) ti_150_35 ?_ ?_
        · refine a_w0 (Nat.le_succ _) ti_150_129 rfl ?_
          refine a_w3p (args := [(2, 133)]) (Nat.le_succ _) ti_150_130 (mt_120 s1.2) rfl rfl rfl rfl ?_
          exact a_w4 (Nat.le_succ _) ti_150_133 rfl rfl rfl
        · refine a_w0 (Nat.le_succ _) ti_150_38 rfl ?_
          refine a_w3v (args := [(2, 133)]) (Nat.le_succ _) ti_150_39 (mt_142 s1.2) rfl rfl (fun H1 => ?_)
          refine a_w0 (Nat.le_succ _) ti_150_42 rfl ?_
          refine a_w1 (a := (2, 134)) (Nat.le_succ _) ti_150_43 rfl ?_
          refine a_w2 (z := 6) (Nat.le_succ _) ti_150_46 (by decide) ?_
          refine a_w5 (kk := 0) (Nat.le_succ _) ti_150_48 (fun _ => rfl) ?_
          refine a_w14 (a := (1, (H1 134 6))) (Nat.le_succ _) ti_150_49 rfl ?_
          refine a_w15 (z := 1103515245) (Nat.le_succ _) ti_150_50 (by decide) ?_
          refine a_w6 (a := (1, a_wl ((H1 134 6) * 1103515245))) (Nat.le_succ _) ti_150_53 rfl ?_
          refine a_w15 (z := 12345) (Nat.le_succ _) ti_150_54 (by decide) ?_
          refine a_w6 (a := (1, a_wl ((a_wl ((H1 134 6) * 1103515245)) + 12345))) (Nat.le_succ _) ti_150_57 rfl ?_
          refine a_w15 (z := 2147483648) (Nat.le_succ _) ti_150_58 (by decide) ?_
          refine a_w6 (a := (1, a_lrm (a_wl ((a_wl ((H1 134 6) * 1103515245)) + 12345)) 2147483648)) (Nat.le_succ _) ti_150_61 rfl ?_
          refine a_w11b (lof := fun x1 => [some (2, 133), some (0, a1), some (0, s1.1), some (1, x1), none]) (Nat.le_succ _) ti_150_62 (fun _ => rfl) (fun x1 => ?_)
          refine a_w0 (Nat.le_succ _) ti_150_63 rfl ?_
          refine a_w1 (a := (2, 134)) (Nat.le_succ _) ti_150_64 rfl ?_
          refine a_w2 (z := 6) (Nat.le_succ _) ti_150_67 (by decide) ?_
          refine a_w0 (Nat.le_succ _) ti_150_69 rfl ?_
          refine a_w14 (a := (0, a_w x1)) (Nat.le_succ _) ti_150_70 rfl ?_
          refine a_w12 (Nat.le_succ _) ti_150_71 (Or.inl ⟨rfl, rfl⟩) (fun H2 => ?_)
          refine a_w0 (Nat.le_succ _) ti_150_72 rfl ?_
          refine a_w1 (a := (2, 134)) (Nat.le_succ _) ti_150_73 rfl ?_
          refine a_w2 (z := 0) (Nat.le_succ _) ti_150_76 (by decide) ?_
          refine a_w5 (kk := 0) (Nat.le_succ _) ti_150_77 (fun _ => rfl) ?_
          refine a_wjn 119 (fun (s : a_P) => [some (2, 133), some (0, a1), some (0, s1.1), none, none]) (fun (s : a_P) => []) (fun (s : a_P) => s) (fun s2 => ?_) (fun j119 hj119 => ?_)
          · refine a_w0 (Nat.le_succ _) ti_150_119 rfl ?_
            refine a_w3v (args := [(2, 133)]) (Nat.le_succ _) ti_150_120 (mt_124 s2) rfl rfl (fun H3 => ?_)
            refine a_w13 (c' := 1) (lof := fun x2 => [some (2, 133), some (0, a1), some (0, x2), none, none]) (Nat.le_succ _) ti_150_123 rfl (by decide) rfl (fun _ => rfl) (fun x2 => ?_)
            refine a_w7 (Nat.le_succ _) ti_150_126 ?_
            exact a_wk (hn33 (x2, H3)) (by omega) ⟨rfl, rfl, rfl, trivial⟩
          · refine a_w8_5 (Nat.le_succ _) ti_150_78 ?_ ?_
            · exact a_wk (hj119 H2) (by omega) ⟨rfl, rfl, rfl, trivial⟩
            · refine a_w0 (Nat.le_succ _) ti_150_81 rfl ?_
              refine a_w1 (a := (2, 134)) (Nat.le_succ _) ti_150_82 rfl ?_
              refine a_w2 (z := 23) (Nat.le_succ _) ti_150_85 (by decide) ?_
              refine a_w0 (Nat.le_succ _) ti_150_87 rfl ?_
              refine a_w1 (a := (2, 134)) (Nat.le_succ _) ti_150_88 rfl ?_
              refine a_w2 (z := 6) (Nat.le_succ _) ti_150_91 (by decide) ?_
              refine a_w5 (kk := 0) (Nat.le_succ _) ti_150_93 (fun _ => rfl) ?_
              refine a_w2 (z := 65536) (Nat.le_succ _) ti_150_94 (by decide) ?_
              refine a_w6 (a := (0, a_div (H2 134 6) 65536)) (Nat.le_succ _) ti_150_96 rfl ?_
              refine a_w0 (Nat.le_succ _) ti_150_97 rfl ?_
              refine a_w1 (a := (2, 134)) (Nat.le_succ _) ti_150_98 rfl ?_
              refine a_w2 (z := 0) (Nat.le_succ _) ti_150_101 (by decide) ?_
              refine a_w5 (kk := 0) (Nat.le_succ _) ti_150_102 (fun _ => rfl) ?_
              refine a_w6 (a := (0, a_rem (a_div (H2 134 6) 65536) (H2 134 0))) (Nat.le_succ _) ti_150_103 rfl ?_
              refine a_w6 (a := (0, a_w (23 + (a_rem (a_div (H2 134 6) 65536) (H2 134 0))))) (Nat.le_succ _) ti_150_104 rfl ?_
              refine a_w0 (Nat.le_succ _) ti_150_105 rfl ?_
              refine a_w1 (a := (2, 134)) (Nat.le_succ _) ti_150_106 rfl ?_
              refine a_w2 (z := 6) (Nat.le_succ _) ti_150_109 (by decide) ?_
              refine a_w5 (kk := 0) (Nat.le_succ _) ti_150_111 (fun _ => rfl) ?_
              refine a_w2 (z := 128) (Nat.le_succ _) ti_150_112 (by decide) ?_
              refine a_w6 (a := (0, a_div (H2 134 6) 128)) (Nat.le_succ _) ti_150_115 rfl ?_
              refine a_w2 (z := 5) (Nat.le_succ _) ti_150_116 (by decide) ?_
              refine a_w6 (a := (0, a_rem (a_div (H2 134 6) 128) 5)) (Nat.le_succ _) ti_150_117 rfl ?_
              refine a_w12 (Nat.le_succ _) ti_150_118 (Or.inl ⟨rfl, rfl⟩) (fun H4 => ?_)
              exact a_wk (hj119 H4) (by omega) ⟨rfl, rfl, rfl, trivial⟩
    · refine a_w2 (z := (-3)) (Nat.le_succ _) ti_150_28 (by decide) ?_
      exact a_w4 (Nat.le_succ _) ti_150_30 rfl rfl rfl
  · refine a_w2 (z := (-1)) (Nat.le_succ _) ti_150_12 (by decide) ?_
    exact a_w4 (Nat.le_succ _) ti_150_13 rfl rfl rfl

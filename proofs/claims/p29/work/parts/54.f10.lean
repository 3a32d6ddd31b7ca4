/-- CarriedGateModel.type(I)I -/
noncomputable def fn_131 (a1 : Int) (H : a_P) : a_F :=
  (if (fn_108 a1 32 126) = 0 then ((-1), H)
  else (if (H 133 2) = 90 then ((-3), H)
  else a_bd (a_up H 135 (H 133 2) a1) fun H1 =>
  a_bd (a_up H1 133 2 (a_w ((H1 133 2) + 1))) fun H2 =>
  (H2 133 2, H2)))
theorem ti_131_0 : (q_I 131).2 0 = some (0, 0, 0, 1, 0, 1, []) := rfl
theorem ti_131_1 : (q_I 131).2 1 = some (14, 4, 0, 0, 0, 2, []) := rfl
theorem ti_131_2 : (q_I 131).2 2 = some (15, 1, 32, 121, 0, 5, [932]) := rfl
theorem ti_131_5 : (q_I 131).2 5 = some (15, 1, 126, 123, 0, 8, [933]) := rfl
theorem ti_131_8 : (q_I 131).2 8 = some (3, 1, 51, 108, 3, 11, [867, 6]) := rfl
theorem ti_131_11 : (q_I 131).2 11 = some (8, 1, 0, 16, 0, 14, []) := rfl
theorem ti_131_14 : (q_I 131).2 14 = some (2, 0, (-1), 0, 0, 15, []) := rfl
theorem ti_131_15 : (q_I 131).2 15 = some (4, 0, 0, 0, 0, 16, []) := rfl
theorem ti_131_16 : (q_I 131).2 16 = some (0, 4, 0, 0, 2, 17, []) := rfl
theorem ti_131_17 : (q_I 131).2 17 = some (1, 0, 125, 6, 2, 20, [797]) := rfl
theorem ti_131_20 : (q_I 131).2 20 = some (2, 1, 90, 0, 0, 22, []) := rfl
theorem ti_131_22 : (q_I 131).2 22 = some (9, 1, 0, 28, 0, 25, []) := rfl
theorem ti_131_25 : (q_I 131).2 25 = some (2, 1, (-3), 0, 0, 27, []) := rfl
theorem ti_131_27 : (q_I 131).2 27 = some (4, 0, 0, 0, 0, 28, []) := rfl
theorem ti_131_28 : (q_I 131).2 28 = some (0, 4, 0, 0, 2, 29, []) := rfl
theorem ti_131_29 : (q_I 131).2 29 = some (1, 0, 13, 6, 1, 32, [796]) := rfl
theorem ti_131_32 : (q_I 131).2 32 = some (0, 4, 0, 0, 2, 33, []) := rfl
theorem ti_131_33 : (q_I 131).2 33 = some (1, 0, 125, 6, 2, 36, [797]) := rfl
theorem ti_131_36 : (q_I 131).2 36 = some (0, 0, 0, 1, 0, 37, []) := rfl
theorem ti_131_37 : (q_I 131).2 37 = some (12, 10, 0, 0, 0, 38, []) := rfl
theorem ti_131_38 : (q_I 131).2 38 = some (0, 4, 0, 0, 2, 39, []) := rfl
theorem ti_131_39 : (q_I 131).2 39 = some (16, 0, 0, 0, 0, 40, []) := rfl
theorem ti_131_40 : (q_I 131).2 40 = some (1, 0, 125, 6, 2, 43, [797]) := rfl
theorem ti_131_43 : (q_I 131).2 43 = some (2, 0, 1, 0, 0, 44, []) := rfl
theorem ti_131_44 : (q_I 131).2 44 = some (6, 0, 0, 0, 0, 45, []) := rfl
theorem ti_131_45 : (q_I 131).2 45 = some (10, 0, 125, 6, 2, 48, [797]) := rfl
theorem ti_131_48 : (q_I 131).2 48 = some (0, 4, 0, 0, 2, 49, []) := rfl
theorem ti_131_49 : (q_I 131).2 49 = some (1, 0, 125, 6, 2, 52, [797]) := rfl
theorem ti_131_52 : (q_I 131).2 52 = some (4, 0, 0, 0, 0, 53, []) := rfl
theorem mt_131 (a1 : Int) (H : a_P) : a_mt id 0 131 [(2, 133), (0, a1)] H (fn_131 a1 H) := by
  refine a_mtI (lo := [some (2, 133), some (0, a1)]) rfl fun d => ?_
  unfold fn_131
  refine a_w0 (Nat.le_succ _) ti_131_0 rfl ?_
  refine a_w14 (a := (1, a1)) (Nat.le_succ _) ti_131_1 rfl ?_
  refine a_w15 (z := 32) (Nat.le_succ _) ti_131_2 (by decide) ?_
  refine a_w15 (z := 126) (Nat.le_succ _) ti_131_5 (by decide) ?_
  refine a_w3p (args := [(1, a1), (1, 32), (1, 126)]) (Nat.le_succ _) ti_131_8 (mt_108 a1 32 126 H) rfl rfl rfl rfl ?_
  refine a_w8_1 (Nat.le_succ _) ti_131_11 ?_ ?_
  · refine a_w0 (Nat.le_succ _) ti_131_16 rfl ?_
    refine a_w1 (a := (0, H 133 2)) (Nat.le_succ _) ti_131_17 rfl ?_
    refine a_w2 (z := 90) (Nat.le_succ _) ti_131_20 (by decide) ?_
    refine a_w9_1 (Nat.le_succ _) ti_131_22 ?_ ?_
    · refine a_w0 (Nat.le_succ _) ti_131_28 rfl ?_
      refine a_w1 (a := (2, 135)) (Nat.le_succ _) ti_131_29 rfl ?_
      refine a_w0 (Nat.le_succ _) ti_131_32 rfl ?_
      refine a_w1 (a := (0, H 133 2)) (Nat.le_succ _) ti_131_33 rfl ?_
      refine a_w0 (Nat.le_succ _) ti_131_36 rfl ?_
      refine a_w12 (Nat.le_succ _) ti_131_37 (Or.inl ⟨rfl, rfl⟩) (fun H1 => ?_)
      refine a_w0 (Nat.le_succ _) ti_131_38 rfl ?_
      refine a_w16 (Nat.le_succ _) ti_131_39 ?_
      refine a_w1 (a := (0, H1 133 2)) (Nat.le_succ _) ti_131_40 rfl ?_
      refine a_w2 (z := 1) (Nat.le_succ _) ti_131_43 (by decide) ?_
      refine a_w6 (a := (0, a_w ((H1 133 2) + 1))) (Nat.le_succ _) ti_131_44 rfl ?_
      refine a_w10 (Nat.le_succ _) ti_131_45 rfl rfl rfl (fun H2 => ?_)
      refine a_w0 (Nat.le_succ _) ti_131_48 rfl ?_
      refine a_w1 (a := (0, H2 133 2)) (Nat.le_succ _) ti_131_49 rfl ?_
      exact a_w4 (Nat.le_succ _) ti_131_52 rfl rfl rfl
    · refine a_w2 (z := (-3)) (Nat.le_succ _) ti_131_25 (by decide) ?_
      exact a_w4 (Nat.le_succ _) ti_131_27 rfl rfl rfl
  · refine a_w2 (z := (-1)) (Nat.le_succ _) ti_131_14 (by decide) ?_
    exact a_w4 (Nat.le_succ _) ti_131_15 rfl rfl rfl
/-- CarriedGateModel.here()I -/
noncomputable def fn_132 (H : a_P) : a_F :=
  a_jn (fun (s1 : a_P) => a_jn (fun (s2 : Int) => (s2, s1)) fun j62 =>
  (if (s1 133 3) < (s1 133 2) then j62 (s1 135 (s1 133 3))
  else j62 0)) fun j38 =>
  a_lp (fun (s3 : a_P) => (0, s3)) (fun (s3 : a_P) n0 => (if (s3 133 3) < (s3 133 2) then (if (s3 135 (s3 133 3)) = 32 then a_bd (a_up s3 133 3 (a_w ((s3 133 3) + 1))) fun H1 =>
  n0 H1
  else j38 s3)
  else j38 s3)) a_fuel H
theorem ti_132_0 : (q_I 132).2 0 = some (0, 4, 0, 0, 2, 1, []) := rfl
theorem ti_132_1 : (q_I 132).2 1 = some (1, 0, 128, 6, 3, 4, [798]) := rfl
theorem ti_132_4 : (q_I 132).2 4 = some (0, 4, 0, 0, 2, 5, []) := rfl
theorem ti_132_5 : (q_I 132).2 5 = some (1, 0, 125, 6, 2, 8, [797]) := rfl
theorem ti_132_8 : (q_I 132).2 8 = some (9, 3, 0, 38, 0, 11, []) := rfl
theorem ti_132_11 : (q_I 132).2 11 = some (0, 4, 0, 0, 2, 12, []) := rfl
theorem ti_132_12 : (q_I 132).2 12 = some (1, 0, 13, 6, 1, 15, [796]) := rfl
theorem ti_132_15 : (q_I 132).2 15 = some (0, 4, 0, 0, 2, 16, []) := rfl
theorem ti_132_16 : (q_I 132).2 16 = some (1, 0, 128, 6, 3, 19, [798]) := rfl
theorem ti_132_19 : (q_I 132).2 19 = some (5, 10, 0, 0, 0, 20, []) := rfl
theorem ti_132_20 : (q_I 132).2 20 = some (2, 1, 32, 0, 0, 22, []) := rfl
theorem ti_132_22 : (q_I 132).2 22 = some (9, 1, 0, 38, 0, 25, []) := rfl
theorem ti_132_25 : (q_I 132).2 25 = some (0, 4, 0, 0, 2, 26, []) := rfl
theorem ti_132_26 : (q_I 132).2 26 = some (16, 0, 0, 0, 0, 27, []) := rfl
theorem ti_132_27 : (q_I 132).2 27 = some (1, 0, 128, 6, 3, 30, [798]) := rfl
theorem ti_132_30 : (q_I 132).2 30 = some (2, 0, 1, 0, 0, 31, []) := rfl
theorem ti_132_31 : (q_I 132).2 31 = some (6, 0, 0, 0, 0, 32, []) := rfl
theorem ti_132_32 : (q_I 132).2 32 = some (10, 0, 128, 6, 3, 35, [798]) := rfl
theorem ti_132_35 : (q_I 132).2 35 = some (7, 0, 0, 0, 0, 38, []) := rfl
theorem ti_132_38 : (q_I 132).2 38 = some (0, 4, 0, 0, 2, 39, []) := rfl
theorem ti_132_39 : (q_I 132).2 39 = some (1, 0, 128, 6, 3, 42, [798]) := rfl
theorem ti_132_42 : (q_I 132).2 42 = some (0, 4, 0, 0, 2, 43, []) := rfl
theorem ti_132_43 : (q_I 132).2 43 = some (1, 0, 125, 6, 2, 46, [797]) := rfl
theorem ti_132_46 : (q_I 132).2 46 = some (9, 3, 0, 61, 0, 49, []) := rfl
theorem ti_132_49 : (q_I 132).2 49 = some (0, 4, 0, 0, 2, 50, []) := rfl
theorem ti_132_50 : (q_I 132).2 50 = some (1, 0, 13, 6, 1, 53, [796]) := rfl
theorem ti_132_53 : (q_I 132).2 53 = some (0, 4, 0, 0, 2, 54, []) := rfl
theorem ti_132_54 : (q_I 132).2 54 = some (1, 0, 128, 6, 3, 57, [798]) := rfl
theorem ti_132_57 : (q_I 132).2 57 = some (5, 10, 0, 0, 0, 58, []) := rfl
theorem ti_132_58 : (q_I 132).2 58 = some (7, 0, 0, 62, 0, 61, []) := rfl
theorem ti_132_61 : (q_I 132).2 61 = some (2, 0, 0, 0, 0, 62, []) := rfl
theorem ti_132_62 : (q_I 132).2 62 = some (4, 0, 0, 0, 0, 63, []) := rfl
theorem mt_132 (H : a_P) : a_mt id 0 132 [(2, 133)] H (fn_132 H) := by
  refine a_mtI (lo := [some (2, 133)]) rfl fun d => ?_
  unfold fn_132
  refine a_wjn 38 (fun (s : a_P) => [some (2, 133)]) (fun (s : a_P) => []) (fun (s : a_P) => s) (fun s1 => ?_) (fun j38 hj38 => ?_)
  · refine a_w0 (Nat.le_succ _) ti_132_38 rfl ?_
    refine a_w1 (a := (0, s1 133 3)) (Nat.le_succ _) ti_132_39 rfl ?_
    refine a_w0 (Nat.le_succ _) ti_132_42 rfl ?_
    refine a_w1 (a := (0, s1 133 2)) (Nat.le_succ _) ti_132_43 rfl ?_
    refine a_wjn 62 (fun (s : Int) => [none]) (fun (s : Int) => [(0, s)]) (fun (s : Int) => s1) (fun s2 => ?_) (fun j62 hj62 => ?_)
    · exact a_w4 (Nat.le_succ _) ti_132_62 rfl rfl rfl
    · refine a_w9_3 (Nat.le_succ _) ti_132_46 ?_ ?_
      · refine a_w2 (z := 0) (Nat.le_succ _) ti_132_61 (by decide) ?_
        exact a_wk (hj62 0) (by omega) trivial
      · refine a_w0 (Nat.le_succ _) ti_132_49 rfl ?_
        refine a_w1 (a := (2, 135)) (Nat.le_succ _) ti_132_50 rfl ?_
        refine a_w0 (Nat.le_succ _) ti_132_53 rfl ?_
        refine a_w1 (a := (0, s1 133 3)) (Nat.le_succ _) ti_132_54 rfl ?_
        refine a_w5 (kk := 0) (Nat.le_succ _) ti_132_57 (fun _ => rfl) ?_
        refine a_w7 (Nat.le_succ _) ti_132_58 ?_
        exact a_wk (hj62 (s1 135 (s1 133 3))) (by omega) trivial
  · refine a_wk (a_wlp (fun (s : a_P) => [some (2, 133)]) (fun (s : a_P) => s) (fun N1 hN1 n0 hn0 s3 => ?_) a_fuel (a_fuel_le (by omega)) H) (Nat.le_refl _) ⟨rfl, trivial⟩
    · refine a_w0 (Nat.le_refl _) ti_132_0 rfl ?_
      refine a_w1 (a := (0, s3 133 3)) (Nat.le_succ _) ti_132_1 rfl ?_
      refine a_w0 (Nat.le_succ _) ti_132_4 rfl ?_
      refine a_w1 (a := (0, s3 133 2)) (Nat.le_succ _) ti_132_5 rfl ?_
      refine a_w9_3 (Nat.le_succ _) ti_132_8 ?_ ?_
      · exact a_wk (hj38 s3) (by omega) ⟨rfl, trivial⟩
      · refine a_w0 (Nat.le_succ _) ti_132_11 rfl ?_
        refine a_w1 (a := (2, 135)) (Nat.le_succ _) ti_132_12 rfl ?_
        refine a_w0 (Nat.le_succ _) ti_132_15 rfl ?_
        refine a_w1 (a := (0, s3 133 3)) (Nat.le_succ _) ti_132_16 rfl ?_
        refine a_w5 (kk := 0) (Nat.le_succ _) ti_132_19 (fun _ => rfl) ?_
        refine a_w2 (z := 32) (Nat.le_succ _) ti_132_20 (by decide) ?_
        refine a_w9_1 (Nat.le_succ _) ti_132_22 ?_ ?_
        · exact a_wk (hj38 s3) (by omega) ⟨rfl, trivial⟩
        · refine a_w0 (Nat.le_succ _) ti_132_25 rfl ?_
          refine a_w16 (Nat.le_succ _) ti_132_26 ?_
          refine a_w1 (a := (0, s3 133 3)) (Nat.le_succ _) ti_132_27 rfl ?_
          refine a_w2 (z := 1) (Nat.le_succ _) ti_132_30 (by decide) ?_
          refine a_w6 (a := (0, a_w ((s3 133 3) + 1))) (Nat.le_succ _) ti_132_31 rfl ?_
          refine a_w10 (Nat.le_succ _) ti_132_32 rfl rfl rfl (fun H1 => ?_)
          refine a_w7 (Nat.le_succ _) ti_132_35 ?_
          exact a_wk (hn0 H1) (by omega) ⟨rfl, trivial⟩
/-- CarriedGateModel.has(I)Z -/
noncomputable def fn_133 (a1 : Int) (H : a_P) : a_F :=
  a_bd (fn_132 H) fun g1 =>
  (if g1.1 = a1 then a_bd (a_up g1.2 133 3 (a_w ((g1.2 133 3) + 1))) fun H1 =>
  (1, H1)
  else (0, g1.2))
theorem ti_133_0 : (q_I 133).2 0 = some (0, 4, 0, 0, 2, 1, []) := rfl
theorem ti_133_1 : (q_I 133).2 1 = some (3, 0, 131, 132, 1, 4, [942, 6]) := rfl
theorem ti_133_4 : (q_I 133).2 4 = some (0, 0, 0, 1, 0, 5, []) := rfl
theorem ti_133_5 : (q_I 133).2 5 = some (9, 0, 0, 10, 0, 8, []) := rfl
theorem ti_133_8 : (q_I 133).2 8 = some (2, 0, 0, 0, 0, 9, []) := rfl
theorem ti_133_9 : (q_I 133).2 9 = some (4, 3, 0, 0, 0, 10, []) := rfl
theorem ti_133_10 : (q_I 133).2 10 = some (0, 4, 0, 0, 2, 11, []) := rfl
theorem ti_133_11 : (q_I 133).2 11 = some (16, 0, 0, 0, 0, 12, []) := rfl
theorem ti_133_12 : (q_I 133).2 12 = some (1, 0, 128, 6, 3, 15, [798]) := rfl
theorem ti_133_15 : (q_I 133).2 15 = some (2, 0, 1, 0, 0, 16, []) := rfl
theorem ti_133_16 : (q_I 133).2 16 = some (6, 0, 0, 0, 0, 17, []) := rfl
theorem ti_133_17 : (q_I 133).2 17 = some (10, 0, 128, 6, 3, 20, [798]) := rfl
theorem ti_133_20 : (q_I 133).2 20 = some (2, 0, 1, 0, 0, 21, []) := rfl
theorem ti_133_21 : (q_I 133).2 21 = some (4, 3, 0, 0, 0, 22, []) := rfl
theorem mt_133 (a1 : Int) (H : a_P) : a_mt id 0 133 [(2, 133), (0, a1)] H (fn_133 a1 H) := by
  refine a_mtI (lo := [some (2, 133), some (0, a1)]) rfl fun d => ?_
  unfold fn_133
  refine a_w0 (Nat.le_succ _) ti_133_0 rfl ?_
  refine a_w3i (args := [(2, 133)]) (Nat.le_succ _) ti_133_1 (mt_132 H) (fun _ => rfl) rfl rfl (fun g1 => ?_)
  refine a_w0 (Nat.le_succ _) ti_133_4 rfl ?_
  refine a_w9_0 (Nat.le_succ _) ti_133_5 ?_ ?_
  · refine a_w0 (Nat.le_succ _) ti_133_10 rfl ?_
    refine a_w16 (Nat.le_succ _) ti_133_11 ?_
    refine a_w1 (a := (0, g1.2 133 3)) (Nat.le_succ _) ti_133_12 rfl ?_
    refine a_w2 (z := 1) (Nat.le_succ _) ti_133_15 (by decide) ?_
    refine a_w6 (a := (0, a_w ((g1.2 133 3) + 1))) (Nat.le_succ _) ti_133_16 rfl ?_
    refine a_w10 (Nat.le_succ _) ti_133_17 rfl rfl rfl (fun H1 => ?_)
    refine a_w2 (z := 1) (Nat.le_succ _) ti_133_20 (by decide) ?_
    exact a_w4 (Nat.le_succ _) ti_133_21 rfl rfl rfl
  · refine a_w2 (z := 0) (Nat.le_succ _) ti_133_8 (by decide) ?_
    exact a_w4 (Nat.le_succ _) ti_133_9 rfl rfl rfl
/-- CarriedGateModel.number(I)I -/
noncomputable def fn_134 (a1 : Int) (H : a_P) : a_F :=
  a_bd (fn_132 H) fun g1 =>
  (if (fn_108 g1.1 48 57) = 0 then ((-1), g1.2)
  else a_bd (g1.2 133 3) fun x1 =>
  a_bd (a_w ((g1.2 135 (g1.2 133 3)) - 48)) fun x2 =>
  a_bd (a_up g1.2 133 3 (a_w ((g1.2 133 3) + 1))) fun H1 =>
  a_jn (fun (s1 : Int × a_P) => (if a1 < s1.1 then a_bd (a_up s1.2 133 3 x1) fun H2 =>
  ((-1), H2)
  else (s1.1, s1.2))) fun j108 =>
  (if (H1 133 3) < (H1 133 2) then (if (fn_108 (H1 135 (H1 133 3)) 48 57) = 0 then j108 (x2, H1)
  else a_bd (a_w ((a_w ((a_w (10 * x2)) + (H1 135 (H1 133 3)))) - 48)) fun x3 =>
  a_bd (a_up H1 133 3 (a_w ((H1 133 3) + 1))) fun H3 =>
  j108 (x3, H3))
  else j108 (x2, H1)))
theorem ti_134_0 : (q_I 134).2 0 = some (0, 4, 0, 0, 2, 1, []) := rfl
theorem ti_134_1 : (q_I 134).2 1 = some (3, 0, 131, 132, 1, 4, [942, 6]) := rfl
theorem ti_134_4 : (q_I 134).2 4 = some (14, 4, 0, 0, 0, 5, []) := rfl
theorem ti_134_5 : (q_I 134).2 5 = some (15, 1, 48, 134, 0, 8, [946]) := rfl
theorem ti_134_8 : (q_I 134).2 8 = some (15, 1, 57, 136, 0, 11, [947]) := rfl
theorem ti_134_11 : (q_I 134).2 11 = some (3, 1, 51, 108, 3, 14, [867, 6]) := rfl
theorem ti_134_14 : (q_I 134).2 14 = some (8, 1, 0, 19, 0, 17, []) := rfl
theorem ti_134_17 : (q_I 134).2 17 = some (2, 0, (-1), 0, 0, 18, []) := rfl
theorem ti_134_18 : (q_I 134).2 18 = some (4, 0, 0, 0, 0, 19, []) := rfl
theorem ti_134_19 : (q_I 134).2 19 = some (0, 4, 0, 0, 2, 20, []) := rfl
theorem ti_134_20 : (q_I 134).2 20 = some (1, 0, 128, 6, 3, 23, [798]) := rfl
theorem ti_134_23 : (q_I 134).2 23 = some (11, 0, 0, 2, 0, 24, []) := rfl
theorem ti_134_24 : (q_I 134).2 24 = some (0, 4, 0, 0, 2, 25, []) := rfl
theorem ti_134_25 : (q_I 134).2 25 = some (1, 0, 13, 6, 1, 28, [796]) := rfl
theorem ti_134_28 : (q_I 134).2 28 = some (0, 4, 0, 0, 2, 29, []) := rfl
theorem ti_134_29 : (q_I 134).2 29 = some (1, 0, 128, 6, 3, 32, [798]) := rfl
theorem ti_134_32 : (q_I 134).2 32 = some (5, 10, 0, 0, 0, 33, []) := rfl
theorem ti_134_33 : (q_I 134).2 33 = some (2, 1, 48, 0, 0, 35, []) := rfl
theorem ti_134_35 : (q_I 134).2 35 = some (6, 1, 0, 0, 0, 36, []) := rfl
theorem ti_134_36 : (q_I 134).2 36 = some (11, 0, 0, 3, 0, 37, []) := rfl
theorem ti_134_37 : (q_I 134).2 37 = some (0, 4, 0, 0, 2, 38, []) := rfl
theorem ti_134_38 : (q_I 134).2 38 = some (16, 0, 0, 0, 0, 39, []) := rfl
theorem ti_134_39 : (q_I 134).2 39 = some (1, 0, 128, 6, 3, 42, [798]) := rfl
theorem ti_134_42 : (q_I 134).2 42 = some (2, 0, 1, 0, 0, 43, []) := rfl
theorem ti_134_43 : (q_I 134).2 43 = some (6, 0, 0, 0, 0, 44, []) := rfl
theorem ti_134_44 : (q_I 134).2 44 = some (10, 0, 128, 6, 3, 47, [798]) := rfl
theorem ti_134_47 : (q_I 134).2 47 = some (0, 4, 0, 0, 2, 48, []) := rfl
theorem ti_134_48 : (q_I 134).2 48 = some (1, 0, 128, 6, 3, 51, [798]) := rfl
theorem ti_134_51 : (q_I 134).2 51 = some (0, 4, 0, 0, 2, 52, []) := rfl
theorem ti_134_52 : (q_I 134).2 52 = some (1, 0, 125, 6, 2, 55, [797]) := rfl
theorem ti_134_55 : (q_I 134).2 55 = some (9, 3, 0, 108, 0, 58, []) := rfl
theorem ti_134_58 : (q_I 134).2 58 = some (0, 4, 0, 0, 2, 59, []) := rfl
theorem ti_134_59 : (q_I 134).2 59 = some (1, 0, 13, 6, 1, 62, [796]) := rfl
theorem ti_134_62 : (q_I 134).2 62 = some (0, 4, 0, 0, 2, 63, []) := rfl
theorem ti_134_63 : (q_I 134).2 63 = some (1, 0, 128, 6, 3, 66, [798]) := rfl
theorem ti_134_66 : (q_I 134).2 66 = some (5, 10, 0, 0, 0, 67, []) := rfl
theorem ti_134_67 : (q_I 134).2 67 = some (14, 4, 0, 0, 0, 68, []) := rfl
theorem ti_134_68 : (q_I 134).2 68 = some (15, 1, 48, 134, 0, 71, [946]) := rfl
theorem ti_134_71 : (q_I 134).2 71 = some (15, 1, 57, 136, 0, 74, [947]) := rfl
theorem ti_134_74 : (q_I 134).2 74 = some (3, 1, 51, 108, 3, 77, [867, 6]) := rfl
theorem ti_134_77 : (q_I 134).2 77 = some (8, 0, 0, 108, 0, 80, []) := rfl
theorem ti_134_80 : (q_I 134).2 80 = some (2, 1, 10, 0, 0, 82, []) := rfl
theorem ti_134_82 : (q_I 134).2 82 = some (0, 0, 0, 3, 0, 83, []) := rfl
theorem ti_134_83 : (q_I 134).2 83 = some (6, 2, 0, 0, 0, 84, []) := rfl
theorem ti_134_84 : (q_I 134).2 84 = some (0, 4, 0, 0, 2, 85, []) := rfl
theorem ti_134_85 : (q_I 134).2 85 = some (1, 0, 13, 6, 1, 88, [796]) := rfl
theorem ti_134_88 : (q_I 134).2 88 = some (0, 4, 0, 0, 2, 89, []) := rfl
theorem ti_134_89 : (q_I 134).2 89 = some (1, 0, 128, 6, 3, 92, [798]) := rfl
theorem ti_134_92 : (q_I 134).2 92 = some (5, 10, 0, 0, 0, 93, []) := rfl
theorem ti_134_93 : (q_I 134).2 93 = some (6, 0, 0, 0, 0, 94, []) := rfl
theorem ti_134_94 : (q_I 134).2 94 = some (2, 1, 48, 0, 0, 96, []) := rfl
theorem ti_134_96 : (q_I 134).2 96 = some (6, 1, 0, 0, 0, 97, []) := rfl
theorem ti_134_97 : (q_I 134).2 97 = some (11, 0, 0, 3, 0, 98, []) := rfl
theorem ti_134_98 : (q_I 134).2 98 = some (0, 4, 0, 0, 2, 99, []) := rfl
theorem ti_134_99 : (q_I 134).2 99 = some (16, 0, 0, 0, 0, 100, []) := rfl
theorem ti_134_100 : (q_I 134).2 100 = some (1, 0, 128, 6, 3, 103, [798]) := rfl
theorem ti_134_103 : (q_I 134).2 103 = some (2, 0, 1, 0, 0, 104, []) := rfl
theorem ti_134_104 : (q_I 134).2 104 = some (6, 0, 0, 0, 0, 105, []) := rfl
theorem ti_134_105 : (q_I 134).2 105 = some (10, 0, 128, 6, 3, 108, [798]) := rfl
theorem ti_134_108 : (q_I 134).2 108 = some (0, 0, 0, 3, 0, 109, []) := rfl
theorem ti_134_109 : (q_I 134).2 109 = some (0, 0, 0, 1, 0, 110, []) := rfl
theorem ti_134_110 : (q_I 134).2 110 = some (9, 5, 0, 120, 0, 113, []) := rfl
theorem ti_134_113 : (q_I 134).2 113 = some (0, 4, 0, 0, 2, 114, []) := rfl
theorem ti_134_114 : (q_I 134).2 114 = some (0, 0, 0, 2, 0, 115, []) := rfl
theorem ti_134_115 : (q_I 134).2 115 = some (10, 0, 128, 6, 3, 118, [798]) := rfl
theorem ti_134_118 : (q_I 134).2 118 = some (2, 0, (-1), 0, 0, 119, []) := rfl
theorem ti_134_119 : (q_I 134).2 119 = some (4, 0, 0, 0, 0, 120, []) := rfl
theorem ti_134_120 : (q_I 134).2 120 = some (0, 0, 0, 3, 0, 121, []) := rfl
theorem ti_134_121 : (q_I 134).2 121 = some (4, 0, 0, 0, 0, 122, []) := rfl
theorem mt_134 (a1 : Int) (H : a_P) : a_mt id 0 134 [(2, 133), (0, a1)] H (fn_134 a1 H) := by
  refine a_mtI (lo := [some (2, 133), some (0, a1), none, none]) rfl fun d => ?_
  unfold fn_134
  refine a_w0 (Nat.le_succ _) ti_134_0 rfl ?_
  refine a_w3i (args := [(2, 133)]) (Nat.le_succ _) ti_134_1 (mt_132 H) (fun _ => rfl) rfl rfl (fun g1 => ?_)
  refine a_w14 (a := (1, g1.1)) (Nat.le_succ _) ti_134_4 rfl ?_
  refine a_w15 (z := 48) (Nat.le_succ _) ti_134_5 (by decide) ?_
  refine a_w15 (z := 57) (Nat.le_succ _) ti_134_8 (by decide) ?_
  refine a_w3p (args := [(1, g1.1), (1, 48), (1, 57)]) (Nat.le_succ _) ti_134_11 (mt_108 g1.1 48 57 g1.2) rfl rfl rfl rfl ?_
  refine a_w8_1 (Nat.le_succ _) ti_134_14 ?_ ?_
  · refine a_w0 (Nat.le_succ _) ti_134_19 rfl ?_
    refine a_w1 (a := (0, g1.2 133 3)) (Nat.le_succ _) ti_134_20 rfl ?_
    refine a_w11b (lof := fun x1 => [some (2, 133), some (0, a1), some (0, x1), none]) (Nat.le_succ _) ti_134_23 (fun _ => rfl) (fun x1 => ?_)
    refine a_w0 (Nat.le_succ _) ti_134_24 rfl ?_
    refine a_w1 (a := (2, 135)) (Nat.le_succ _) ti_134_25 rfl ?_
    refine a_w0 (Nat.le_succ _) ti_134_28 rfl ?_
    refine a_w1 (a := (0, g1.2 133 3)) (Nat.le_succ _) ti_134_29 rfl ?_
    refine a_w5 (kk := 0) (Nat.le_succ _) ti_134_32 (fun _ => rfl) ?_
    refine a_w2 (z := 48) (Nat.le_succ _) ti_134_33 (by decide) ?_
    refine a_w6 (a := (0, a_w ((g1.2 135 (g1.2 133 3)) - 48))) (Nat.le_succ _) ti_134_35 rfl ?_
    refine a_w11b (lof := fun x2 => [some (2, 133), some (0, a1), some (0, x1), some (0, x2)]) (Nat.le_succ _) ti_134_36 (fun _ => rfl) (fun x2 => ?_)
    refine a_w0 (Nat.le_succ _) ti_134_37 rfl ?_
    refine a_w16 (Nat.le_succ _) ti_134_38 ?_
    refine a_w1 (a := (0, g1.2 133 3)) (Nat.le_succ _) ti_134_39 rfl ?_
    refine a_w2 (z := 1) (Nat.le_succ _) ti_134_42 (by decide) ?_
    refine a_w6 (a := (0, a_w ((g1.2 133 3) + 1))) (Nat.le_succ _) ti_134_43 rfl ?_
    refine a_w10 (Nat.le_succ _) ti_134_44 rfl rfl rfl (fun H1 => ?_)
    refine a_w0 (Nat.le_succ _) ti_134_47 rfl ?_
    refine a_w1 (a := (0, H1 133 3)) (Nat.le_succ _) ti_134_48 rfl ?_
    refine a_w0 (Nat.le_succ _) ti_134_51 rfl ?_
    refine a_w1 (a := (0, H1 133 2)) (Nat.le_succ _) ti_134_52 rfl ?_
    refine a_wjn 108 (fun (s : Int × a_P) => [some (2, 133), some (0, a1), some (0, x1), some (0, s.1)]) (fun (s : Int × a_P) => []) (fun (s : Int × a_P) => s.2) (fun s1 => ?_) (fun j108 hj108 => ?_)
    · refine a_w0 (Nat.le_succ _) ti_134_108 rfl ?_
      refine a_w0 (Nat.le_succ _) ti_134_109 rfl ?_
      refine a_w9_5 (Nat.le_succ _) ti_134_110 ?_ ?_
      · refine a_w0 (Nat.le_succ _) ti_134_120 rfl ?_
        exact a_w4 (Nat.le_succ _) ti_134_121 rfl rfl rfl
      · refine a_w0 (Nat.le_succ _) ti_134_113 rfl ?_
        refine a_w0 (Nat.le_succ _) ti_134_114 rfl ?_
        refine a_w10 (Nat.le_succ _) ti_134_115 rfl rfl rfl (fun H2 => ?_)
        refine a_w2 (z := (-1)) (Nat.le_succ _) ti_134_118 (by decide) ?_
        exact a_w4 (Nat.le_succ _) ti_134_119 rfl rfl rfl
    · refine a_w9_3 (Nat.le_succ _) ti_134_55 ?_ ?_
      · exact a_wk (hj108 (x2, H1)) (by omega) ⟨rfl, rfl, rfl, rfl, trivial⟩
      · refine a_w0 (Nat.le_succ _) ti_134_58 rfl ?_
        refine a_w1 (a := (2, 135)) (Nat.le_succ _) ti_134_59 rfl ?_
        refine a_w0 (Nat.le_succ _) ti_134_62 rfl ?_
        refine a_w1 (a := (0, H1 133 3)) (Nat.le_succ _) ti_134_63 rfl ?_
        refine a_w5 (kk := 0) (Nat.le_succ _) ti_134_66 (fun _ => rfl) ?_
        refine a_w14 (a := (1, (H1 135 (H1 133 3)))) (Nat.le_succ _) ti_134_67 rfl ?_
        refine a_w15 (z := 48) (Nat.le_succ _) ti_134_68 (by decide) ?_
        refine a_w15 (z := 57) (Nat.le_succ _) ti_134_71 (by decide) ?_
        refine a_w3p (args := [(1, (H1 135 (H1 133 3))), (1, 48), (1, 57)]) (Nat.le_succ _) ti_134_74 (mt_108 (H1 135 (H1 133 3)) 48 57 H1) rfl rfl rfl rfl ?_
        refine a_w8_0 (Nat.le_succ _) ti_134_77 ?_ ?_
        · exact a_wk (hj108 (x2, H1)) (by omega) ⟨rfl, rfl, rfl, rfl, trivial⟩
        · refine a_w2 (z := 10) (Nat.le_succ _) ti_134_80 (by decide) ?_
          refine a_w0 (Nat.le_succ _) ti_134_82 rfl ?_
          refine a_w6 (a := (0, a_w (10 * x2))) (Nat.le_succ _) ti_134_83 rfl ?_
          refine a_w0 (Nat.le_succ _) ti_134_84 rfl ?_
          refine a_w1 (a := (2, 135)) (Nat.le_succ _) ti_134_85 rfl ?_
          refine a_w0 (Nat.le_succ _) ti_134_88 rfl ?_
          refine a_w1 (a := (0, H1 133 3)) (Nat.le_succ _) ti_134_89 rfl ?_
          refine a_w5 (kk := 0) (Nat.le_succ _) ti_134_92 (fun _ => rfl) ?_
          refine a_w6 (a := (0, a_w ((a_w (10 * x2)) + (H1 135 (H1 133 3))))) (Nat.le_succ _) ti_134_93 rfl ?_
          refine a_w2 (z := 48) (Nat.le_succ _) ti_134_94 (by decide) ?_
          refine a_w6 (a := (0, a_w ((a_w ((a_w (10 * x2)) + (H1 135 (H1 133 3)))) - 48))) (Nat.le_succ _) ti_134_96 rfl ?_
          refine a_w11b (lof := fun x3 => [some (2, 133), some (0, a1), some (0, x1), some (0, x3)]) (Nat.le_succ _) ti_134_97 (fun _ => rfl) (fun x3 => ?_)
          refine a_w0 (Nat.le_succ _) ti_134_98 rfl ?_
          refine a_w16 (Nat.le_succ _) ti_134_99 ?_
          refine a_w1 (a := (0, H1 133 3)) (Nat.le_succ _) ti_134_100 rfl ?_
          refine a_w2 (z := 1) (Nat.le_succ _) ti_134_103 (by decide) ?_
          refine a_w6 (a := (0, a_w ((H1 133 3) + 1))) (Nat.le_succ _) ti_134_104 rfl ?_
          refine a_w10 (Nat.le_succ _) ti_134_105 rfl rfl rfl (fun H3 => ?_)
          exact a_wk (hj108 (x3, H3)) (by omega) ⟨rfl, rfl, rfl, rfl, trivial⟩
  · refine a_w2 (z := (-1)) (Nat.le_succ _) ti_134_17 (by decide) ?_
    exact a_w4 (Nat.le_succ _) ti_134_18 rfl rfl rfl
/-- CarriedGateModel.wayBy(IZ)I -/
noncomputable def fn_135 (a0 : Int) (a1 : Int) : Int :=
  a_jn (fun (s1 : Int) => s1) fun j55 =>
  (if a0 = 110 then j55 0
  else (if a0 = 101 then j55 1
  else (if a0 = 115 then j55 2
  else (if a0 = 119 then j55 3
  else a_jn (fun (s2 : Unit) => j55 (-1)) fun j54 =>
  (if a0 = 46 then (if a1 = 0 then j54 ()
  else j55 4)
  else j54 ())))))
theorem ti_135_0 : (q_I 135).2 0 = some (0, 0, 0, 0, 0, 1, []) := rfl
theorem ti_135_1 : (q_I 135).2 1 = some (2, 1, 110, 0, 0, 3, []) := rfl
theorem ti_135_3 : (q_I 135).2 3 = some (9, 1, 0, 10, 0, 6, []) := rfl
theorem ti_135_6 : (q_I 135).2 6 = some (2, 0, 0, 0, 0, 7, []) := rfl
theorem ti_135_7 : (q_I 135).2 7 = some (7, 0, 0, 55, 0, 10, []) := rfl
theorem ti_135_10 : (q_I 135).2 10 = some (0, 0, 0, 0, 0, 11, []) := rfl
theorem ti_135_11 : (q_I 135).2 11 = some (2, 1, 101, 0, 0, 13, []) := rfl
theorem ti_135_13 : (q_I 135).2 13 = some (9, 1, 0, 20, 0, 16, []) := rfl
theorem ti_135_16 : (q_I 135).2 16 = some (2, 0, 1, 0, 0, 17, []) := rfl
theorem ti_135_17 : (q_I 135).2 17 = some (7, 0, 0, 55, 0, 20, []) := rfl
theorem ti_135_20 : (q_I 135).2 20 = some (0, 0, 0, 0, 0, 21, []) := rfl
theorem ti_135_21 : (q_I 135).2 21 = some (2, 1, 115, 0, 0, 23, []) := rfl
theorem ti_135_23 : (q_I 135).2 23 = some (9, 1, 0, 30, 0, 26, []) := rfl
theorem ti_135_26 : (q_I 135).2 26 = some (2, 0, 2, 0, 0, 27, []) := rfl
theorem ti_135_27 : (q_I 135).2 27 = some (7, 0, 0, 55, 0, 30, []) := rfl
theorem ti_135_30 : (q_I 135).2 30 = some (0, 0, 0, 0, 0, 31, []) := rfl
theorem ti_135_31 : (q_I 135).2 31 = some (2, 1, 119, 0, 0, 33, []) := rfl
theorem ti_135_33 : (q_I 135).2 33 = some (9, 1, 0, 40, 0, 36, []) := rfl
theorem ti_135_36 : (q_I 135).2 36 = some (2, 0, 3, 0, 0, 37, []) := rfl
theorem ti_135_37 : (q_I 135).2 37 = some (7, 0, 0, 55, 0, 40, []) := rfl
theorem ti_135_40 : (q_I 135).2 40 = some (0, 0, 0, 0, 0, 41, []) := rfl
theorem ti_135_41 : (q_I 135).2 41 = some (2, 1, 46, 0, 0, 43, []) := rfl
theorem ti_135_43 : (q_I 135).2 43 = some (9, 1, 0, 54, 0, 46, []) := rfl
theorem ti_135_46 : (q_I 135).2 46 = some (0, 0, 0, 1, 0, 47, []) := rfl
theorem ti_135_47 : (q_I 135).2 47 = some (8, 0, 0, 54, 0, 50, []) := rfl
theorem ti_135_50 : (q_I 135).2 50 = some (2, 0, 4, 0, 0, 51, []) := rfl
theorem ti_135_51 : (q_I 135).2 51 = some (7, 0, 0, 55, 0, 54, []) := rfl
theorem ti_135_54 : (q_I 135).2 54 = some (2, 0, (-1), 0, 0, 55, []) := rfl
theorem ti_135_55 : (q_I 135).2 55 = some (4, 0, 0, 0, 0, 56, []) := rfl
theorem mt_135 (a0 : Int) (a1 : Int) (H : a_P) : a_mt (a_pp H) 0 135 [(0, a0), (0, a1)] H (fn_135 a0 a1) := by
  refine a_mtI (lo := [some (0, a0), some (0, a1)]) rfl fun d => ?_
  unfold fn_135
  refine a_w0 (Nat.le_succ _) ti_135_0 rfl ?_
  refine a_w2 (z := 110) (Nat.le_succ _) ti_135_1 (by decide) ?_
  refine a_wjn 55 (fun (s : Int) => [none, none]) (fun (s : Int) => [(0, s)]) (fun (s : Int) => H) (fun s1 => ?_) (fun j55 hj55 => ?_)
  · exact a_w4 (Nat.le_succ _) ti_135_55 rfl rfl rfl
  · refine a_w9_1 (Nat.le_succ _) ti_135_3 ?_ ?_
    · refine a_w0 (Nat.le_succ _) ti_135_10 rfl ?_
      refine a_w2 (z := 101) (Nat.le_succ _) ti_135_11 (by decide) ?_
      refine a_w9_1 (Nat.le_succ _) ti_135_13 ?_ ?_
      · refine a_w0 (Nat.le_succ _) ti_135_20 rfl ?_
        refine a_w2 (z := 115) (Nat.le_succ _) ti_135_21 (by decide) ?_
        refine a_w9_1 (Nat.le_succ _) ti_135_23 ?_ ?_
        · refine a_w0 (Nat.le_succ _) ti_135_30 rfl ?_
          refine a_w2 (z := 119) (Nat.le_succ _) ti_135_31 (by decide) ?_
          refine a_w9_1 (Nat.le_succ _) ti_135_33 ?_ ?_
          · refine a_w0 (Nat.le_succ _) ti_135_40 rfl ?_
            refine a_w2 (z := 46) (Nat.le_succ _) ti_135_41 (by decide) ?_
            refine a_wjn 54 (fun (s : Unit) => [none, none]) (fun (s : Unit) => []) (fun (s : Unit) => H) (fun s2 => ?_) (fun j54 hj54 => ?_)
            · refine a_w2 (z := (-1)) (Nat.le_succ _) ti_135_54 (by decide) ?_
              exact a_wk (hj55 (-1)) (by omega) trivial
            · refine a_w9_1 (Nat.le_succ _) ti_135_43 ?_ ?_
              · exact a_wk (hj54 ()) (by omega) trivial
              · refine a_w0 (Nat.le_succ _) ti_135_46 rfl ?_
                refine a_w8_0 (Nat.le_succ _) ti_135_47 ?_ ?_
                · exact a_wk (hj54 ()) (by omega) trivial
                · refine a_w2 (z := 4) (Nat.le_succ _) ti_135_50 (by decide) ?_
                  refine a_w7 (Nat.le_succ _) ti_135_51 ?_
                  exact a_wk (hj55 4) (by omega) trivial
          · refine a_w2 (z := 3) (Nat.le_succ _) ti_135_36 (by decide) ?_
            refine a_w7 (Nat.le_succ _) ti_135_37 ?_
            exact a_wk (hj55 3) (by omega) trivial
        · refine a_w2 (z := 2) (Nat.le_succ _) ti_135_26 (by decide) ?_
          refine a_w7 (Nat.le_succ _) ti_135_27 ?_
          exact a_wk (hj55 2) (by omega) trivial
      · refine a_w2 (z := 1) (Nat.le_succ _) ti_135_16 (by decide) ?_
        refine a_w7 (Nat.le_succ _) ti_135_17 ?_
        exact a_wk (hj55 1) (by omega) trivial
    · refine a_w2 (z := 0) (Nat.le_succ _) ti_135_6 (by decide) ?_
      refine a_w7 (Nat.le_succ _) ti_135_7 ?_
      exact a_wk (hj55 0) (by omega) trivial
/-- CarriedGateModel.way(Z)I -/
noncomputable def fn_136 (a1 : Int) (H : a_P) : a_F :=
  a_bd (fn_132 H) fun g1 =>
  a_bd (fn_135 g1.1 a1) fun x1 =>
  a_jn (fun (s1 : Int) => a_bd (a_up g1.2 133 3 (a_w ((g1.2 133 3) + s1))) fun H1 =>
  (x1, H1)) fun j23 =>
  (if x1 < 0 then j23 0
  else j23 1)
theorem ti_136_0 : (q_I 136).2 0 = some (0, 4, 0, 0, 2, 1, []) := rfl
theorem ti_136_1 : (q_I 136).2 1 = some (3, 0, 131, 132, 1, 4, [942, 6]) := rfl
theorem ti_136_4 : (q_I 136).2 4 = some (0, 0, 0, 1, 0, 5, []) := rfl
theorem ti_136_5 : (q_I 136).2 5 = some (3, 1, 138, 135, 2, 8, [952, 6]) := rfl
theorem ti_136_8 : (q_I 136).2 8 = some (11, 0, 0, 2, 0, 9, []) := rfl
theorem ti_136_9 : (q_I 136).2 9 = some (0, 4, 0, 0, 2, 10, []) := rfl
theorem ti_136_10 : (q_I 136).2 10 = some (16, 0, 0, 0, 0, 11, []) := rfl
theorem ti_136_11 : (q_I 136).2 11 = some (1, 0, 128, 6, 3, 14, [798]) := rfl
theorem ti_136_14 : (q_I 136).2 14 = some (0, 0, 0, 2, 0, 15, []) := rfl
theorem ti_136_15 : (q_I 136).2 15 = some (8, 3, 0, 22, 0, 18, []) := rfl
theorem ti_136_18 : (q_I 136).2 18 = some (2, 0, 0, 0, 0, 19, []) := rfl
theorem ti_136_19 : (q_I 136).2 19 = some (7, 0, 0, 23, 0, 22, []) := rfl
theorem ti_136_22 : (q_I 136).2 22 = some (2, 0, 1, 0, 0, 23, []) := rfl
theorem ti_136_23 : (q_I 136).2 23 = some (6, 0, 0, 0, 0, 24, []) := rfl
theorem ti_136_24 : (q_I 136).2 24 = some (10, 0, 128, 6, 3, 27, [798]) := rfl
theorem ti_136_27 : (q_I 136).2 27 = some (0, 0, 0, 2, 0, 28, []) := rfl
theorem ti_136_28 : (q_I 136).2 28 = some (4, 0, 0, 0, 0, 29, []) := rfl
theorem mt_136 (a1 : Int) (H : a_P) : a_mt id 0 136 [(2, 133), (0, a1)] H (fn_136 a1 H) := by
  refine a_mtI (lo := [some (2, 133), some (0, a1), none]) rfl fun d => ?_
  unfold fn_136
  refine a_w0 (Nat.le_succ _) ti_136_0 rfl ?_
  refine a_w3i (args := [(2, 133)]) (Nat.le_succ _) ti_136_1 (mt_132 H) (fun _ => rfl) rfl rfl (fun g1 => ?_)
  refine a_w0 (Nat.le_succ _) ti_136_4 rfl ?_
  refine a_w3p (args := [(0, g1.1), (0, a1)]) (Nat.le_succ _) ti_136_5 (mt_135 g1.1 a1 g1.2) rfl rfl rfl rfl ?_
  refine a_w11b (lof := fun x1 => [some (2, 133), some (0, a1), some (0, x1)]) (Nat.le_succ _) ti_136_8 (fun _ => rfl) (fun x1 => ?_)
  refine a_w0 (Nat.le_succ _) ti_136_9 rfl ?_
  refine a_w16 (Nat.le_succ _) ti_136_10 ?_
  refine a_w1 (a := (0, g1.2 133 3)) (Nat.le_succ _) ti_136_11 rfl ?_
  refine a_w0 (Nat.le_succ _) ti_136_14 rfl ?_
  refine a_wjn 23 (fun (s : Int) => [none, none, some (0, x1)]) (fun (s : Int) => [(0, s), (0, g1.2 133 3), (2, 133)]) (fun (s : Int) => g1.2) (fun s1 => ?_) (fun j23 hj23 => ?_)
  · refine a_w6 (a := (0, a_w ((g1.2 133 3) + s1))) (Nat.le_succ _) ti_136_23 rfl ?_
    refine a_w10 (Nat.le_succ _) ti_136_24 rfl rfl rfl (fun H1 => ?_)
    refine a_w0 (Nat.le_succ _) ti_136_27 rfl ?_
    exact a_w4 (Nat.le_succ _) ti_136_28 rfl rfl rfl
  · refine a_w8_3 (Nat.le_succ _) ti_136_15 ?_ ?_
    · refine a_w2 (z := 1) (Nat.le_succ _) ti_136_22 (by decide) ?_
      exact a_wk (hj23 1) (by omega) ⟨rfl, trivial⟩
    · refine a_w2 (z := 0) (Nat.le_succ _) ti_136_18 (by decide) ?_
      refine a_w7 (Nat.le_succ _) ti_136_19 ?_
      exact a_wk (hj23 0) (by omega) ⟨rfl, trivial⟩
/-- CarriedGateModel.kindBy(I)I -/
noncomputable def fn_137 (a0 : Int) : Int :=
  a_jn (fun (s1 : Int) => s1) fun j51 =>
  (if a0 = 103 then j51 0
  else (if a0 = 115 then j51 1
  else (if a0 = 116 then j51 2
  else (if a0 = 104 then j51 3
  else (if a0 = 112 then j51 4
  else j51 (-1))))))
theorem ti_137_0 : (q_I 137).2 0 = some (0, 0, 0, 0, 0, 1, []) := rfl
theorem ti_137_1 : (q_I 137).2 1 = some (2, 1, 103, 0, 0, 3, []) := rfl
theorem ti_137_3 : (q_I 137).2 3 = some (9, 1, 0, 10, 0, 6, []) := rfl
theorem ti_137_6 : (q_I 137).2 6 = some (2, 0, 0, 0, 0, 7, []) := rfl
theorem ti_137_7 : (q_I 137).2 7 = some (7, 0, 0, 51, 0, 10, []) := rfl
theorem ti_137_10 : (q_I 137).2 10 = some (0, 0, 0, 0, 0, 11, []) := rfl
theorem ti_137_11 : (q_I 137).2 11 = some (2, 1, 115, 0, 0, 13, []) := rfl
theorem ti_137_13 : (q_I 137).2 13 = some (9, 1, 0, 20, 0, 16, []) := rfl
theorem ti_137_16 : (q_I 137).2 16 = some (2, 0, 1, 0, 0, 17, []) := rfl
theorem ti_137_17 : (q_I 137).2 17 = some (7, 0, 0, 51, 0, 20, []) := rfl
theorem ti_137_20 : (q_I 137).2 20 = some (0, 0, 0, 0, 0, 21, []) := rfl
theorem ti_137_21 : (q_I 137).2 21 = some (2, 1, 116, 0, 0, 23, []) := rfl
theorem ti_137_23 : (q_I 137).2 23 = some (9, 1, 0, 30, 0, 26, []) := rfl
theorem ti_137_26 : (q_I 137).2 26 = some (2, 0, 2, 0, 0, 27, []) := rfl
theorem ti_137_27 : (q_I 137).2 27 = some (7, 0, 0, 51, 0, 30, []) := rfl
theorem ti_137_30 : (q_I 137).2 30 = some (0, 0, 0, 0, 0, 31, []) := rfl
theorem ti_137_31 : (q_I 137).2 31 = some (2, 1, 104, 0, 0, 33, []) := rfl
theorem ti_137_33 : (q_I 137).2 33 = some (9, 1, 0, 40, 0, 36, []) := rfl
theorem ti_137_36 : (q_I 137).2 36 = some (2, 0, 3, 0, 0, 37, []) := rfl
theorem ti_137_37 : (q_I 137).2 37 = some (7, 0, 0, 51, 0, 40, []) := rfl
theorem ti_137_40 : (q_I 137).2 40 = some (0, 0, 0, 0, 0, 41, []) := rfl
theorem ti_137_41 : (q_I 137).2 41 = some (2, 1, 112, 0, 0, 43, []) := rfl
theorem ti_137_43 : (q_I 137).2 43 = some (9, 1, 0, 50, 0, 46, []) := rfl
theorem ti_137_46 : (q_I 137).2 46 = some (2, 0, 4, 0, 0, 47, []) := rfl
theorem ti_137_47 : (q_I 137).2 47 = some (7, 0, 0, 51, 0, 50, []) := rfl
theorem ti_137_50 : (q_I 137).2 50 = some (2, 0, (-1), 0, 0, 51, []) := rfl
theorem ti_137_51 : (q_I 137).2 51 = some (4, 0, 0, 0, 0, 52, []) := rfl
theorem mt_137 (a0 : Int) (H : a_P) : a_mt (a_pp H) 0 137 [(0, a0)] H (fn_137 a0) := by
  refine a_mtI (lo := [some (0, a0)]) rfl fun d => ?_
  unfold fn_137
  refine a_w0 (Nat.le_succ _) ti_137_0 rfl ?_
  refine a_w2 (z := 103) (Nat.le_succ _) ti_137_1 (by decide) ?_
  refine a_wjn 51 (fun (s : Int) => [none]) (fun (s : Int) => [(0, s)]) (fun (s : Int) => H) (fun s1 => ?_) (fun j51 hj51 => ?_)
  · exact a_w4 (Nat.le_succ _) ti_137_51 rfl rfl rfl
  · refine a_w9_1 (Nat.le_succ _) ti_137_3 ?_ ?_
    · refine a_w0 (Nat.le_succ _) ti_137_10 rfl ?_
      refine a_w2 (z := 115) (Nat.le_succ _) ti_137_11 (by decide) ?_
      refine a_w9_1 (Nat.le_succ _) ti_137_13 ?_ ?_
      · refine a_w0 (Nat.le_succ _) ti_137_20 rfl ?_
        refine a_w2 (z := 116) (Nat.le_succ _) ti_137_21 (by decide) ?_
        refine a_w9_1 (Nat.le_succ _) ti_137_23 ?_ ?_
        · refine a_w0 (Nat.le_succ _) ti_137_30 rfl ?_
          refine a_w2 (z := 104) (Nat.le_succ _) ti_137_31 (by decide) ?_
          refine a_w9_1 (Nat.le_succ _) ti_137_33 ?_ ?_
          · refine a_w0 (Nat.le_succ _) ti_137_40 rfl ?_
            refine a_w2 (z := 112) (Nat.le_succ _) ti_137_41 (by decide) ?_
            refine a_w9_1 (Nat.le_succ _) ti_137_43 ?_ ?_
            · refine a_w2 (z := (-1)) (Nat.le_succ _) ti_137_50 (by decide) ?_
              exact a_wk (hj51 (-1)) (by omega) trivial
            · refine a_w2 (z := 4) (Nat.le_succ _) ti_137_46 (by decide) ?_
              refine a_w7 (Nat.le_succ _) ti_137_47 ?_
              exact a_wk (hj51 4) (by omega) trivial
          · refine a_w2 (z := 3) (Nat.le_succ _) ti_137_36 (by decide) ?_
            refine a_w7 (Nat.le_succ _) ti_137_37 ?_
            exact a_wk (hj51 3) (by omega) trivial
        · refine a_w2 (z := 2) (Nat.le_succ _) ti_137_26 (by decide) ?_
          refine a_w7 (Nat.le_succ _) ti_137_27 ?_
          exact a_wk (hj51 2) (by omega) trivial
      · refine a_w2 (z := 1) (Nat.le_succ _) ti_137_16 (by decide) ?_
        refine a_w7 (Nat.le_succ _) ti_137_17 ?_
        exact a_wk (hj51 1) (by omega) trivial
    · refine a_w2 (z := 0) (Nat.le_succ _) ti_137_6 (by decide) ?_
      refine a_w7 (Nat.le_succ _) ti_137_7 ?_
      exact a_wk (hj51 0) (by omega) trivial
/-- CarriedGateModel.readsPerson(II)Z -/
noncomputable def fn_138 (a1 : Int) (a2 : Int) (H : a_P) : a_F :=
  a_bd (fn_132 H) fun g1 =>
  a_bd (a_up g1.2 136 a1 (fn_137 g1.1)) fun H1 =>
  (if (H1 136 a1) < 0 then (0, H1)
  else a_bd (a_up H1 133 3 (a_w ((H1 133 3) + 1))) fun H2 =>
  a_bd (fn_134 35 H2) fun g2 =>
  a_bd (a_up g2.2 136 (a_w (a1 + 1)) g2.1) fun H3 =>
  (if (H3 136 (a_w (a1 + 1))) < 0 then (0, H3)
  else a_bd (fn_136 1 H3) fun g3 =>
  a_bd (a_up g3.2 136 (a_w (a1 + 2)) g3.1) fun H4 =>
  (if (H4 136 (a_w (a1 + 2))) < 0 then (0, H4)
  else a_bd (fn_134 20 H4) fun g4 =>
  a_bd (a_up g4.2 136 (a_w (a1 + 3)) g4.1) fun H5 =>
  (if (H5 136 (a_w (a1 + 3))) < 0 then (0, H5)
  else a_jn (fun (s1 : Int) => a_jn (fun (s2 : a_P) => (1, s2)) fun j172 =>
  (if s1 = 0 then j172 H5
  else a_bd (fn_133 42 H5) fun g5 =>
  (if g5.1 = 0 then j172 g5.2
  else a_bd (a_up g5.2 133 5 (a_div a1 4)) fun H6 =>
  j172 H6))) fun j151 =>
  a_jn (fun (s3 : Unit) => j151 0) fun j150 =>
  (if (H5 133 5) = (-4) then (if 0 < (H5 136 (a_w (a1 + 3))) then (if (H5 136 (a_w (a1 + 1))) = a2 then j151 1
  else j150 ())
  else j150 ())
  else j150 ())))))
theorem ti_138_0 : (q_I 138).2 0 = some (0, 4, 0, 0, 2, 1, []) := rfl
theorem ti_138_1 : (q_I 138).2 1 = some (1, 0, 16, 6, 4, 4, [799]) := rfl
theorem ti_138_4 : (q_I 138).2 4 = some (0, 0, 0, 1, 0, 5, []) := rfl
theorem ti_138_5 : (q_I 138).2 5 = some (0, 4, 0, 0, 2, 6, []) := rfl
theorem ti_138_6 : (q_I 138).2 6 = some (3, 0, 131, 132, 1, 9, [942, 6]) := rfl
theorem ti_138_9 : (q_I 138).2 9 = some (3, 1, 142, 137, 1, 12, [967, 6]) := rfl
theorem ti_138_12 : (q_I 138).2 12 = some (12, 10, 0, 0, 0, 13, []) := rfl
theorem ti_138_13 : (q_I 138).2 13 = some (0, 4, 0, 0, 2, 14, []) := rfl
theorem ti_138_14 : (q_I 138).2 14 = some (1, 0, 16, 6, 4, 17, [799]) := rfl
theorem ti_138_17 : (q_I 138).2 17 = some (0, 0, 0, 1, 0, 18, []) := rfl
theorem ti_138_18 : (q_I 138).2 18 = some (5, 10, 0, 0, 0, 19, []) := rfl
theorem ti_138_19 : (q_I 138).2 19 = some (8, 3, 0, 24, 0, 22, []) := rfl
theorem ti_138_22 : (q_I 138).2 22 = some (2, 0, 0, 0, 0, 23, []) := rfl
theorem ti_138_23 : (q_I 138).2 23 = some (4, 3, 0, 0, 0, 24, []) := rfl
theorem ti_138_24 : (q_I 138).2 24 = some (0, 4, 0, 0, 2, 25, []) := rfl
theorem ti_138_25 : (q_I 138).2 25 = some (16, 0, 0, 0, 0, 26, []) := rfl
theorem ti_138_26 : (q_I 138).2 26 = some (1, 0, 128, 6, 3, 29, [798]) := rfl
theorem ti_138_29 : (q_I 138).2 29 = some (2, 0, 1, 0, 0, 30, []) := rfl
theorem ti_138_30 : (q_I 138).2 30 = some (6, 0, 0, 0, 0, 31, []) := rfl
theorem ti_138_31 : (q_I 138).2 31 = some (10, 0, 128, 6, 3, 34, [798]) := rfl
theorem ti_138_34 : (q_I 138).2 34 = some (0, 4, 0, 0, 2, 35, []) := rfl
theorem ti_138_35 : (q_I 138).2 35 = some (1, 0, 16, 6, 4, 38, [799]) := rfl
theorem ti_138_38 : (q_I 138).2 38 = some (0, 0, 0, 1, 0, 39, []) := rfl
theorem ti_138_39 : (q_I 138).2 39 = some (2, 0, 1, 0, 0, 40, []) := rfl
theorem ti_138_40 : (q_I 138).2 40 = some (6, 0, 0, 0, 0, 41, []) := rfl
theorem ti_138_41 : (q_I 138).2 41 = some (0, 4, 0, 0, 2, 42, []) := rfl
theorem ti_138_42 : (q_I 138).2 42 = some (2, 1, 35, 0, 0, 44, []) := rfl
theorem ti_138_44 : (q_I 138).2 44 = some (3, 0, 145, 134, 2, 47, [938, 6]) := rfl
theorem ti_138_47 : (q_I 138).2 47 = some (12, 10, 0, 0, 0, 48, []) := rfl
theorem ti_138_48 : (q_I 138).2 48 = some (0, 4, 0, 0, 2, 49, []) := rfl
theorem ti_138_49 : (q_I 138).2 49 = some (1, 0, 16, 6, 4, 52, [799]) := rfl
theorem ti_138_52 : (q_I 138).2 52 = some (0, 0, 0, 1, 0, 53, []) := rfl
theorem ti_138_53 : (q_I 138).2 53 = some (2, 0, 1, 0, 0, 54, []) := rfl
theorem ti_138_54 : (q_I 138).2 54 = some (6, 0, 0, 0, 0, 55, []) := rfl
theorem ti_138_55 : (q_I 138).2 55 = some (5, 10, 0, 0, 0, 56, []) := rfl
theorem ti_138_56 : (q_I 138).2 56 = some (8, 3, 0, 61, 0, 59, []) := rfl
theorem ti_138_59 : (q_I 138).2 59 = some (2, 0, 0, 0, 0, 60, []) := rfl
theorem ti_138_60 : (q_I 138).2 60 = some (4, 3, 0, 0, 0, 61, []) := rfl
theorem ti_138_61 : (q_I 138).2 61 = some (0, 4, 0, 0, 2, 62, []) := rfl
theorem ti_138_62 : (q_I 138).2 62 = some (1, 0, 16, 6, 4, 65, [799]) := rfl
theorem ti_138_65 : (q_I 138).2 65 = some (0, 0, 0, 1, 0, 66, []) := rfl
theorem ti_138_66 : (q_I 138).2 66 = some (2, 0, 2, 0, 0, 67, []) := rfl
theorem ti_138_67 : (q_I 138).2 67 = some (6, 0, 0, 0, 0, 68, []) := rfl
theorem ti_138_68 : (q_I 138).2 68 = some (0, 4, 0, 0, 2, 69, []) := rfl
theorem ti_138_69 : (q_I 138).2 69 = some (2, 0, 1, 0, 0, 70, []) := rfl
theorem ti_138_70 : (q_I 138).2 70 = some (3, 0, 148, 136, 2, 73, [948, 6]) := rfl
theorem ti_138_73 : (q_I 138).2 73 = some (12, 10, 0, 0, 0, 74, []) := rfl
theorem ti_138_74 : (q_I 138).2 74 = some (0, 4, 0, 0, 2, 75, []) := rfl
theorem ti_138_75 : (q_I 138).2 75 = some (1, 0, 16, 6, 4, 78, [799]) := rfl
theorem ti_138_78 : (q_I 138).2 78 = some (0, 0, 0, 1, 0, 79, []) := rfl
theorem ti_138_79 : (q_I 138).2 79 = some (2, 0, 2, 0, 0, 80, []) := rfl
theorem ti_138_80 : (q_I 138).2 80 = some (6, 0, 0, 0, 0, 81, []) := rfl
theorem ti_138_81 : (q_I 138).2 81 = some (5, 10, 0, 0, 0, 82, []) := rfl
theorem ti_138_82 : (q_I 138).2 82 = some (8, 3, 0, 87, 0, 85, []) := rfl
theorem ti_138_85 : (q_I 138).2 85 = some (2, 0, 0, 0, 0, 86, []) := rfl
theorem ti_138_86 : (q_I 138).2 86 = some (4, 3, 0, 0, 0, 87, []) := rfl
theorem ti_138_87 : (q_I 138).2 87 = some (0, 4, 0, 0, 2, 88, []) := rfl
theorem ti_138_88 : (q_I 138).2 88 = some (1, 0, 16, 6, 4, 91, [799]) := rfl
theorem ti_138_91 : (q_I 138).2 91 = some (0, 0, 0, 1, 0, 92, []) := rfl
theorem ti_138_92 : (q_I 138).2 92 = some (2, 0, 3, 0, 0, 93, []) := rfl
theorem ti_138_93 : (q_I 138).2 93 = some (6, 0, 0, 0, 0, 94, []) := rfl
theorem ti_138_94 : (q_I 138).2 94 = some (0, 4, 0, 0, 2, 95, []) := rfl
theorem ti_138_95 : (q_I 138).2 95 = some (2, 1, 20, 0, 0, 97, []) := rfl
theorem ti_138_97 : (q_I 138).2 97 = some (3, 0, 145, 134, 2, 100, [938, 6]) := rfl
theorem ti_138_100 : (q_I 138).2 100 = some (12, 10, 0, 0, 0, 101, []) := rfl
theorem ti_138_101 : (q_I 138).2 101 = some (0, 4, 0, 0, 2, 102, []) := rfl
theorem ti_138_102 : (q_I 138).2 102 = some (1, 0, 16, 6, 4, 105, [799]) := rfl
theorem ti_138_105 : (q_I 138).2 105 = some (0, 0, 0, 1, 0, 106, []) := rfl
theorem ti_138_106 : (q_I 138).2 106 = some (2, 0, 3, 0, 0, 107, []) := rfl
theorem ti_138_107 : (q_I 138).2 107 = some (6, 0, 0, 0, 0, 108, []) := rfl
theorem ti_138_108 : (q_I 138).2 108 = some (5, 10, 0, 0, 0, 109, []) := rfl
theorem ti_138_109 : (q_I 138).2 109 = some (8, 3, 0, 114, 0, 112, []) := rfl
theorem ti_138_112 : (q_I 138).2 112 = some (2, 0, 0, 0, 0, 113, []) := rfl
theorem ti_138_113 : (q_I 138).2 113 = some (4, 3, 0, 0, 0, 114, []) := rfl
theorem ti_138_114 : (q_I 138).2 114 = some (0, 4, 0, 0, 2, 115, []) := rfl
theorem ti_138_115 : (q_I 138).2 115 = some (1, 0, 152, 6, 5, 118, [800]) := rfl
theorem ti_138_118 : (q_I 138).2 118 = some (2, 1, (-4), 0, 0, 120, []) := rfl
theorem ti_138_120 : (q_I 138).2 120 = some (9, 1, 0, 150, 0, 123, []) := rfl
theorem ti_138_123 : (q_I 138).2 123 = some (0, 4, 0, 0, 2, 124, []) := rfl
theorem ti_138_124 : (q_I 138).2 124 = some (1, 0, 16, 6, 4, 127, [799]) := rfl
theorem ti_138_127 : (q_I 138).2 127 = some (0, 0, 0, 1, 0, 128, []) := rfl
theorem ti_138_128 : (q_I 138).2 128 = some (2, 0, 3, 0, 0, 129, []) := rfl
theorem ti_138_129 : (q_I 138).2 129 = some (6, 0, 0, 0, 0, 130, []) := rfl
theorem ti_138_130 : (q_I 138).2 130 = some (5, 10, 0, 0, 0, 131, []) := rfl
theorem ti_138_131 : (q_I 138).2 131 = some (8, 5, 0, 150, 0, 134, []) := rfl
theorem ti_138_134 : (q_I 138).2 134 = some (0, 4, 0, 0, 2, 135, []) := rfl
theorem ti_138_135 : (q_I 138).2 135 = some (1, 0, 16, 6, 4, 138, [799]) := rfl
theorem ti_138_138 : (q_I 138).2 138 = some (0, 0, 0, 1, 0, 139, []) := rfl
theorem ti_138_139 : (q_I 138).2 139 = some (2, 0, 1, 0, 0, 140, []) := rfl
theorem ti_138_140 : (q_I 138).2 140 = some (6, 0, 0, 0, 0, 141, []) := rfl
theorem ti_138_141 : (q_I 138).2 141 = some (5, 10, 0, 0, 0, 142, []) := rfl
theorem ti_138_142 : (q_I 138).2 142 = some (0, 0, 0, 2, 0, 143, []) := rfl
theorem ti_138_143 : (q_I 138).2 143 = some (9, 1, 0, 150, 0, 146, []) := rfl
theorem ti_138_146 : (q_I 138).2 146 = some (2, 0, 1, 0, 0, 147, []) := rfl
theorem ti_138_147 : (q_I 138).2 147 = some (7, 0, 0, 151, 0, 150, []) := rfl
theorem ti_138_150 : (q_I 138).2 150 = some (2, 0, 0, 0, 0, 151, []) := rfl
theorem ti_138_151 : (q_I 138).2 151 = some (11, 0, 0, 3, 0, 152, []) := rfl
theorem ti_138_152 : (q_I 138).2 152 = some (0, 0, 0, 3, 0, 153, []) := rfl
theorem ti_138_153 : (q_I 138).2 153 = some (8, 0, 0, 172, 0, 156, []) := rfl
theorem ti_138_156 : (q_I 138).2 156 = some (0, 4, 0, 0, 2, 157, []) := rfl
theorem ti_138_157 : (q_I 138).2 157 = some (2, 1, 42, 0, 0, 159, []) := rfl
theorem ti_138_159 : (q_I 138).2 159 = some (3, 0, 155, 133, 2, 162, [955, 6]) := rfl
theorem ti_138_162 : (q_I 138).2 162 = some (8, 0, 0, 172, 0, 165, []) := rfl
theorem ti_138_165 : (q_I 138).2 165 = some (0, 4, 0, 0, 2, 166, []) := rfl
theorem ti_138_166 : (q_I 138).2 166 = some (0, 0, 0, 1, 0, 167, []) := rfl
theorem ti_138_167 : (q_I 138).2 167 = some (2, 0, 4, 0, 0, 168, []) := rfl
theorem ti_138_168 : (q_I 138).2 168 = some (6, 3, 0, 0, 0, 169, []) := rfl
theorem ti_138_169 : (q_I 138).2 169 = some (10, 0, 152, 6, 5, 172, [800]) := rfl
theorem ti_138_172 : (q_I 138).2 172 = some (2, 0, 1, 0, 0, 173, []) := rfl
theorem ti_138_173 : (q_I 138).2 173 = some (4, 3, 0, 0, 0, 174, []) := rfl
theorem mt_138 (a1 : Int) (a2 : Int) (H : a_P) : a_mt id 0 138 [(2, 133), (0, a1), (0, a2)] H (fn_138 a1 a2 H) := by
  refine a_mtI (lo := [some (2, 133), some (0, a1), some (0, a2), none]) rfl fun d => ?_
  unfold fn_138
  refine a_w0 (Nat.le_succ _) ti_138_0 rfl ?_
  refine a_w1 (a := (2, 136)) (Nat.le_succ _) ti_138_1 rfl ?_
  refine a_w0 (Nat.le_succ _) ti_138_4 rfl ?_
  refine a_w0 (Nat.le_succ _) ti_138_5 rfl ?_
  refine a_w3i (args := [(2, 133)]) (Nat.le_succ _) ti_138_6 (mt_132 H) (fun _ => rfl) rfl rfl (fun g1 => ?_)
  refine a_w3p (args := [(0, g1.1)]) (Nat.le_succ _) ti_138_9 (mt_137 g1.1 g1.2) rfl rfl rfl rfl ?_
  refine a_w12 (Nat.le_succ _) ti_138_12 (Or.inl ⟨rfl, rfl⟩) (fun H1 => ?_)
  refine a_w0 (Nat.le_succ _) ti_138_13 rfl ?_
  refine a_w1 (a := (2, 136)) (Nat.le_succ _) ti_138_14 rfl ?_
  refine a_w0 (Nat.le_succ _) ti_138_17 rfl ?_
  refine a_w5 (kk := 0) (Nat.le_succ _) ti_138_18 (fun _ => rfl) ?_
  refine a_w8_3 (Nat.le_succ _) ti_138_19 ?_ ?_
  · refine a_w0 (Nat.le_succ _) ti_138_24 rfl ?_
    refine a_w16 (Nat.le_succ _) ti_138_25 ?_
    refine a_w1 (a := (0, H1 133 3)) (Nat.le_succ _) ti_138_26 rfl ?_
    refine a_w2 (z := 1) (Nat.le_succ _) ti_138_29 (by decide) ?_
    refine a_w6 (a := (0, a_w ((H1 133 3) + 1))) (Nat.le_succ _) ti_138_30 rfl ?_
    refine a_w10 (Nat.le_succ _) ti_138_31 rfl rfl rfl (fun H2 => ?_)
    refine a_w0 (Nat.le_succ _) ti_138_34 rfl ?_
    refine a_w1 (a := (2, 136)) (Nat.le_succ _) ti_138_35 rfl ?_
    refine a_w0 (Nat.le_succ _) ti_138_38 rfl ?_
    refine a_w2 (z := 1) (Nat.le_succ _) ti_138_39 (by decide) ?_
    refine a_w6 (a := (0, a_w (a1 + 1))) (Nat.le_succ _) ti_138_40 rfl ?_
    refine a_w0 (Nat.le_succ _) ti_138_41 rfl ?_
    refine a_w2 (z := 35) (Nat.le_succ _) ti_138_42 (by decide) ?_
    refine a_w3i (args := [(2, 133), (0, 35)]) (Nat.le_succ _) ti_138_44 (mt_134 35 H2) (fun _ => rfl) rfl rfl (fun g2 => ?_)
    refine a_w12 (Nat.le_succ _) ti_138_47 (Or.inl ⟨rfl, rfl⟩) (fun H3 => ?_)
    refine a_w0 (Nat.le_succ _) ti_138_48 rfl ?_
    refine a_w1 (a := (2, 136)) (Nat.le_succ _) ti_138_49 rfl ?_
    refine a_w0 (Nat.le_succ _) ti_138_52 rfl ?_
    refine a_w2 (z := 1) (Nat.le_succ _) ti_138_53 (by decide) ?_
    refine a_w6 (a := (0, a_w (a1 + 1))) (Nat.le_succ _) ti_138_54 rfl ?_
    refine a_w5 (kk := 0) (Nat.le_succ _) ti_138_55 (fun _ => rfl) ?_
    refine a_w8_3 (Nat.le_succ _) ti_138_56 ?_ ?_
    · refine a_w0 (Nat.le_succ _) ti_138_61 rfl ?_
      refine a_w1 (a := (2, 136)) (Nat.le_succ _) ti_138_62 rfl ?_
      refine a_w0 (Nat.le_succ _) ti_138_65 rfl ?_
      refine a_w2 (z := 2) (Nat.le_succ _) ti_138_66 (by decide) ?_
      refine a_w6 (a := (0, a_w (a1 + 2))) (Nat.le_succ _) ti_138_67 rfl ?_
      refine a_w0 (Nat.le_succ _) ti_138_68 rfl ?_
      refine a_w2 (z := 1) (Nat.le_succ _) ti_138_69 (by decide) ?_
      refine a_w3i (args := [(2, 133), (0, 1)]) (Nat.le_succ _) ti_138_70 (mt_136 1 H3) (fun _ => rfl) rfl rfl (fun g3 => ?_)
      refine a_w12 (Nat.le_succ _) ti_138_73 (Or.inl ⟨rfl, rfl⟩) (fun H4 => ?_)
      refine a_w0 (Nat.le_succ _) ti_138_74 rfl ?_
      refine a_w1 (a := (2, 136)) (Nat.le_succ _) ti_138_75 rfl ?_
      refine a_w0 (Nat.le_succ _) ti_138_78 rfl ?_
      refine a_w2 (z := 2) (Nat.le_succ _) ti_138_79 (by decide) ?_
      refine a_w6 (a := (0, a_w (a1 + 2))) (Nat.le_succ _) ti_138_80 rfl ?_
      refine a_w5 (kk := 0) (Nat.le_succ _) ti_138_81 (fun _ => rfl) ?_
      refine a_w8_3 (Nat.le_succ _) ti_138_82 ?_ ?_
      · refine a_w0 (Nat.le_succ _) ti_138_87 rfl ?_
        refine a_w1 (a := (2, 136)) (Nat.le_succ _) ti_138_88 rfl ?_
        refine a_w0 (Nat.le_succ _) ti_138_91 rfl ?_
        refine a_w2 (z := 3) (Nat.le_succ _) ti_138_92 (by decide) ?_
        refine a_w6 (a := (0, a_w (a1 + 3))) (Nat.le_succ _) ti_138_93 rfl ?_
        refine a_w0 (Nat.le_succ _) ti_138_94 rfl ?_
        refine a_w2 (z := 20) (Nat.le_succ _) ti_138_95 (by decide) ?_
        refine a_w3i (args := [(2, 133), (0, 20)]) (Nat.le_succ _) ti_138_97 (mt_134 20 H4) (fun _ => rfl) rfl rfl (fun g4 => ?_)
        refine a_w12 (Nat.le_succ _) ti_138_100 (Or.inl ⟨rfl, rfl⟩) (fun H5 => ?_)
        refine a_w0 (Nat.le_succ _) ti_138_101 rfl ?_
        refine a_w1 (a := (2, 136)) (Nat.le_succ _) ti_138_102 rfl ?_
        refine a_w0 (Nat.le_succ _) ti_138_105 rfl ?_
        refine a_w2 (z := 3) (Nat.le_succ _) ti_138_106 (by decide) ?_
        refine a_w6 (a := (0, a_w (a1 + 3))) (Nat.le_succ _) ti_138_107 rfl ?_
        refine a_w5 (kk := 0) (Nat.le_succ _) ti_138_108 (fun _ => rfl) ?_
        refine a_w8_3 (Nat.le_succ _) ti_138_109 ?_ ?_
        · refine a_w0 (Nat.le_succ _) ti_138_114 rfl ?_
          refine a_w1 (a := (0, H5 133 5)) (Nat.le_succ _) ti_138_115 rfl ?_
          refine a_w2 (z := (-4)) (Nat.le_succ _) ti_138_118 (by decide) ?_
          refine a_wjn 151 (fun (s : Int) => [some (2, 133), some (0, a1), none, none]) (fun (s : Int) => [(0, s)]) (fun (s : Int) => H5) (fun s1 => ?_) (fun j151 hj151 => ?_)
          · refine a_w11 (lo' := [some (2, 133), some (0, a1), none, some (0, s1)]) (Nat.le_succ _) ti_138_151 rfl ?_
            refine a_w0 (Nat.le_succ _) ti_138_152 rfl ?_
            refine a_wjn 172 (fun (s : a_P) => [none, none, none, none]) (fun (s : a_P) => []) (fun (s : a_P) => s) (fun s2 => ?_) (fun j172 hj172 => ?_)
            · refine a_w2 (z := 1) (Nat.le_succ _) ti_138_172 (by decide) ?_
              exact a_w4 (Nat.le_succ _) ti_138_173 rfl rfl rfl
            · refine a_w8_0 (Nat.le_succ _) ti_138_153 ?_ ?_
              · exact a_wk (hj172 H5) (by omega) trivial
              · refine a_w0 (Nat.le_succ _) ti_138_156 rfl ?_
                refine a_w2 (z := 42) (Nat.le_succ _) ti_138_157 (by decide) ?_
                refine a_w3i (args := [(2, 133), (0, 42)]) (Nat.le_succ _) ti_138_159 (mt_133 42 H5) (fun _ => rfl) rfl rfl (fun g5 => ?_)
                refine a_w8_0 (Nat.le_succ _) ti_138_162 ?_ ?_
                · exact a_wk (hj172 g5.2) (by omega) trivial
                · refine a_w0 (Nat.le_succ _) ti_138_165 rfl ?_
                  refine a_w0 (Nat.le_succ _) ti_138_166 rfl ?_
                  refine a_w2 (z := 4) (Nat.le_succ _) ti_138_167 (by decide) ?_
                  refine a_w6 (a := (0, a_div a1 4)) (Nat.le_succ _) ti_138_168 rfl ?_
                  refine a_w10 (Nat.le_succ _) ti_138_169 rfl rfl rfl (fun H6 => ?_)
                  exact a_wk (hj172 H6) (by omega) trivial
          · refine a_wjn 150 (fun (s : Unit) => [some (2, 133), some (0, a1), none, none]) (fun (s : Unit) => []) (fun (s : Unit) => H5) (fun s3 => ?_) (fun j150 hj150 => ?_)
            · refine a_w2 (z := 0) (Nat.le_succ _) ti_138_150 (by decide) ?_
              exact a_wk (hj151 0) (by omega) ⟨rfl, rfl, trivial⟩
            · refine a_w9_1 (Nat.le_succ _) ti_138_120 ?_ ?_
              · exact a_wk (hj150 ()) (by omega) ⟨rfl, rfl, trivial⟩
              · refine a_w0 (Nat.le_succ _) ti_138_123 rfl ?_
                refine a_w1 (a := (2, 136)) (Nat.le_succ _) ti_138_124 rfl ?_
                refine a_w0 (Nat.le_succ _) ti_138_127 rfl ?_
                refine a_w2 (z := 3) (Nat.le_succ _) ti_138_128 (by decide) ?_
                refine a_w6 (a := (0, a_w (a1 + 3))) (Nat.le_succ _) ti_138_129 rfl ?_
                refine a_w5 (kk := 0) (Nat.le_succ _) ti_138_130 (fun _ => rfl) ?_
                refine a_w8_5 (Nat.le_succ _) ti_138_131 ?_ ?_
                · exact a_wk (hj150 ()) (by omega) ⟨rfl, rfl, trivial⟩
                · refine a_w0 (Nat.le_succ _) ti_138_134 rfl ?_
                  refine a_w1 (a := (2, 136)) (Nat.le_succ _) ti_138_135 rfl ?_
                  refine a_w0 (Nat.le_succ _) ti_138_138 rfl ?_
                  refine a_w2 (z := 1) (Nat.le_succ _) ti_138_139 (by decide) ?_
                  refine a_w6 (a := (0, a_w (a1 + 1))) (Nat.le_succ _) ti_138_140 rfl ?_
                  refine a_w5 (kk := 0) (Nat.le_succ _) ti_138_141 (fun _ => rfl) ?_
                  refine a_w0 (Nat.le_succ _) ti_138_142 rfl ?_
                  refine a_w9_1 (Nat.le_succ _) ti_138_143 ?_ ?_
                  · exact a_wk (hj150 ()) (by omega) ⟨rfl, rfl, trivial⟩
                  · refine a_w2 (z := 1) (Nat.le_succ _) ti_138_146 (by decide) ?_
                    refine a_w7 (Nat.le_succ _) ti_138_147 ?_
                    exact a_wk (hj151 1) (by omega) ⟨rfl, rfl, trivial⟩
        · refine a_w2 (z := 0) (Nat.le_succ _) ti_138_112 (by decide) ?_
          exact a_w4 (Nat.le_succ _) ti_138_113 rfl rfl rfl
      · refine a_w2 (z := 0) (Nat.le_succ _) ti_138_85 (by decide) ?_
        exact a_w4 (Nat.le_succ _) ti_138_86 rfl rfl rfl
    · refine a_w2 (z := 0) (Nat.le_succ _) ti_138_59 (by decide) ?_
      exact a_w4 (Nat.le_succ _) ti_138_60 rfl rfl rfl
  · refine a_w2 (z := 0) (Nat.le_succ _) ti_138_22 (by decide) ?_
    exact a_w4 (Nat.le_succ _) ti_138_23 rfl rfl rfl
/-- CarriedGateModel.peopleRead(I)I -/
noncomputable def fn_139 (a1 : Int) (H : a_P) : a_F :=
  a_lp (fun (s1 : Int × Int × a_P) => (0, s1.2.2)) (fun (s1 : Int × Int × a_P) n4 => (if s1.2.1 = 0 then (s1.1, s1.2.2)
  else a_bd (fn_138 (a_w (4 * s1.1)) a1 s1.2.2) fun g1 =>
  (if g1.1 = 0 then ((-1), g1.2)
  else a_bd (a_w (s1.1 + 1)) fun x1 =>
  a_jn (fun (s2 : Int × a_P) => n4 (x1, s2.1, s2.2)) fun j44 =>
  a_jn (fun (s3 : a_P) => j44 (0, s3)) fun j43 =>
  (if x1 < 8 then a_bd (fn_133 44 g1.2) fun g2 =>
  (if g2.1 = 0 then j43 g2.2
  else j44 (1, g2.2))
  else j43 g1.2)))) a_fuel (0, 1, H)
theorem ti_139_0 : (q_I 139).2 0 = some (2, 0, 0, 0, 0, 1, []) := rfl
theorem ti_139_1 : (q_I 139).2 1 = some (11, 0, 0, 2, 0, 2, []) := rfl
theorem ti_139_2 : (q_I 139).2 2 = some (2, 0, 1, 0, 0, 3, []) := rfl
theorem ti_139_3 : (q_I 139).2 3 = some (11, 0, 0, 3, 0, 4, []) := rfl
theorem ti_139_4 : (q_I 139).2 4 = some (0, 0, 0, 3, 0, 5, []) := rfl
theorem ti_139_5 : (q_I 139).2 5 = some (8, 0, 0, 48, 0, 8, []) := rfl
theorem ti_139_8 : (q_I 139).2 8 = some (0, 4, 0, 0, 2, 9, []) := rfl
theorem ti_139_9 : (q_I 139).2 9 = some (2, 0, 4, 0, 0, 10, []) := rfl
theorem ti_139_10 : (q_I 139).2 10 = some (0, 0, 0, 2, 0, 11, []) := rfl
theorem ti_139_11 : (q_I 139).2 11 = some (6, 2, 0, 0, 0, 12, []) := rfl
theorem ti_139_12 : (q_I 139).2 12 = some (0, 0, 0, 1, 0, 13, []) := rfl
theorem ti_139_13 : (q_I 139).2 13 = some (3, 0, 158, 138, 3, 16, [963, 6]) := rfl
theorem ti_139_16 : (q_I 139).2 16 = some (8, 1, 0, 21, 0, 19, []) := rfl
theorem ti_139_19 : (q_I 139).2 19 = some (2, 0, (-1), 0, 0, 20, []) := rfl
theorem ti_139_20 : (q_I 139).2 20 = some (4, 0, 0, 0, 0, 21, []) := rfl
theorem ti_139_21 : (q_I 139).2 21 = some (13, 0, 1, 2, 0, 24, []) := rfl
theorem ti_139_24 : (q_I 139).2 24 = some (0, 0, 0, 2, 0, 25, []) := rfl
theorem ti_139_25 : (q_I 139).2 25 = some (2, 1, 8, 0, 0, 27, []) := rfl
theorem ti_139_27 : (q_I 139).2 27 = some (9, 3, 0, 43, 0, 30, []) := rfl
theorem ti_139_30 : (q_I 139).2 30 = some (0, 4, 0, 0, 2, 31, []) := rfl
theorem ti_139_31 : (q_I 139).2 31 = some (2, 1, 44, 0, 0, 33, []) := rfl
theorem ti_139_33 : (q_I 139).2 33 = some (3, 0, 155, 133, 2, 36, [955, 6]) := rfl
theorem ti_139_36 : (q_I 139).2 36 = some (8, 0, 0, 43, 0, 39, []) := rfl
theorem ti_139_39 : (q_I 139).2 39 = some (2, 0, 1, 0, 0, 40, []) := rfl
theorem ti_139_40 : (q_I 139).2 40 = some (7, 0, 0, 44, 0, 43, []) := rfl
theorem ti_139_43 : (q_I 139).2 43 = some (2, 0, 0, 0, 0, 44, []) := rfl
theorem ti_139_44 : (q_I 139).2 44 = some (11, 0, 0, 3, 0, 45, []) := rfl
theorem ti_139_45 : (q_I 139).2 45 = some (7, 0, 0, 4, 0, 48, []) := rfl
theorem ti_139_48 : (q_I 139).2 48 = some (0, 0, 0, 2, 0, 49, []) := rfl
theorem ti_139_49 : (q_I 139).2 49 = some (4, 0, 0, 0, 0, 50, []) := rfl
theorem mt_139 (a1 : Int) (H : a_P) : a_mt id 0 139 [(2, 133), (0, a1)] H (fn_139 a1 H) := by
  refine a_mtI (lo := [some (2, 133), some (0, a1), none, none]) rfl fun d => ?_
  unfold fn_139
  refine a_w2 (z := 0) (Nat.le_succ _) ti_139_0 (by decide) ?_
  refine a_w11 (lo' := [some (2, 133), some (0, a1), some (0, 0), none]) (Nat.le_succ _) ti_139_1 rfl ?_
  refine a_w2 (z := 1) (Nat.le_succ _) ti_139_2 (by decide) ?_
  refine a_w11 (lo' := [some (2, 133), some (0, a1), some (0, 0), some (0, 1)]) (Nat.le_succ _) ti_139_3 rfl ?_
  refine a_wk (a_wlp (fun (s : Int × Int × a_P) => [some (2, 133), some (0, a1), some (0, s.1), some (0, s.2.1)]) (fun (s : Int × Int × a_P) => s.2.2) (fun N1 hN1 n4 hn4 s1 => ?_) a_fuel (a_fuel_le (by omega)) (0, 1, H)) (Nat.le_refl _) ⟨rfl, rfl, rfl, rfl, trivial⟩
  · refine a_w0 (Nat.le_refl _) ti_139_4 rfl ?_
    refine a_w8_0 (Nat.le_succ _) ti_139_5 ?_ ?_
    · refine a_w0 (Nat.le_succ _) ti_139_48 rfl ?_
      exact a_w4 (Nat.le_succ _) ti_139_49 rfl rfl rfl
    · refine a_w0 (Nat.le_succ _) ti_139_8 rfl ?_
      refine a_w2 (z := 4) (Nat.le_succ _) ti_139_9 (by decide) ?_
      refine a_w0 (Nat.le_succ _) ti_139_10 rfl ?_
      refine a_w6 (a := (0, a_w (4 * s1.1))) (Nat.le_succ _) ti_139_11 rfl ?_
      refine a_w0 (Nat.le_succ _) ti_139_12 rfl ?_
      refine a_w3i (args := [(2, 133), (0, a_w (4 * s1.1)), (0, a1)]) (Nat.le_succ _) ti_139_13 (mt_138 (a_w (4 * s1.1)) a1 s1.2.2) (fun _ => rfl) rfl rfl (fun g1 => ?_)
      refine a_w8_1 (Nat.le_succ _) ti_139_16 ?_ ?_
      · refine a_w13 (c' := 1) (lof := fun x1 => [some (2, 133), some (0, a1), some (0, x1), some (0, s1.2.1)]) (Nat.le_succ _) ti_139_21 rfl (by decide) rfl (fun _ => rfl) (fun x1 => ?_)
        refine a_w0 (Nat.le_succ _) ti_139_24 rfl ?_
        refine a_w2 (z := 8) (Nat.le_succ _) ti_139_25 (by decide) ?_
        refine a_wjn 44 (fun (s : Int × a_P) => [some (2, 133), some (0, a1), some (0, x1), none]) (fun (s : Int × a_P) => [(0, s.1)]) (fun (s : Int × a_P) => s.2) (fun s2 => ?_) (fun j44 hj44 => ?_)
        · refine a_w11 (lo' := [some (2, 133), some (0, a1), some (0, x1), some (0, s2.1)]) (Nat.le_succ _) ti_139_44 rfl ?_
          refine a_w7 (Nat.le_succ _) ti_139_45 ?_
          exact a_wk (hn4 (x1, s2.1, s2.2)) (by omega) ⟨rfl, rfl, rfl, rfl, trivial⟩
        · refine a_wjn 43 (fun (s : a_P) => [some (2, 133), some (0, a1), some (0, x1), none]) (fun (s : a_P) => []) (fun (s : a_P) => s) (fun s3 => ?_) (fun j43 hj43 => ?_)
          · refine a_w2 (z := 0) (Nat.le_succ _) ti_139_43 (by decide) ?_
            exact a_wk (hj44 (0, s3)) (by omega) ⟨rfl, rfl, rfl, trivial⟩
          · refine a_w9_3 (Nat.le_succ _) ti_139_27 ?_ ?_
            · exact a_wk (hj43 g1.2) (by omega) ⟨rfl, rfl, rfl, trivial⟩
            · refine a_w0 (Nat.le_succ _) ti_139_30 rfl ?_
              refine a_w2 (z := 44) (Nat.le_succ _) ti_139_31 (by decide) ?_
              refine a_w3i (args := [(2, 133), (0, 44)]) (Nat.le_succ _) ti_139_33 (mt_133 44 g1.2) (fun _ => rfl) rfl rfl (fun g2 => ?_)
              refine a_w8_0 (Nat.le_succ _) ti_139_36 ?_ ?_
              · exact a_wk (hj43 g2.2) (by omega) ⟨rfl, rfl, rfl, trivial⟩
              · refine a_w2 (z := 1) (Nat.le_succ _) ti_139_39 (by decide) ?_
                refine a_w7 (Nat.le_succ _) ti_139_40 ?_
                exact a_wk (hj44 (1, g2.2)) (by omega) ⟨rfl, rfl, rfl, trivial⟩
      · refine a_w2 (z := (-1)) (Nat.le_succ _) ti_139_19 (by decide) ?_
        exact a_w4 (Nat.le_succ _) ti_139_20 rfl rfl rfl

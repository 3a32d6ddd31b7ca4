/-- CarriedGate.side(I)I -/
noncomputable def fn_57 (a1 : Int) (H : a_P) : Int :=
  a_jn (fun (s1 : Int) => s1) fun j21 =>
  (if (fn_91 a1 36) = 0 then j21 (-1)
  else j21 (fn_19 1 a1 H))
theorem ti_57_0 : (q_I 57).2 0 = some (0, 0, 0, 1, 0, 1, []) := rfl
theorem ti_57_1 : (q_I 57).2 1 = some (2, 1, 36, 0, 0, 3, []) := rfl
theorem ti_57_3 : (q_I 57).2 3 = some (3, 1, 64, 91, 2, 6, [269, 5]) := rfl
theorem ti_57_6 : (q_I 57).2 6 = some (8, 0, 0, 20, 0, 9, []) := rfl
theorem ti_57_9 : (q_I 57).2 9 = some (0, 4, 0, 0, 2, 10, []) := rfl
theorem ti_57_10 : (q_I 57).2 10 = some (1, 0, 10, 5, 0, 13, [231]) := rfl
theorem ti_57_13 : (q_I 57).2 13 = some (0, 0, 0, 1, 0, 14, []) := rfl
theorem ti_57_14 : (q_I 57).2 14 = some (3, 0, 109, 19, 2, 17, [316, 2]) := rfl
theorem ti_57_17 : (q_I 57).2 17 = some (7, 0, 0, 21, 0, 20, []) := rfl
theorem ti_57_20 : (q_I 57).2 20 = some (2, 0, (-1), 0, 0, 21, []) := rfl
theorem ti_57_21 : (q_I 57).2 21 = some (4, 0, 0, 0, 0, 22, []) := rfl
theorem mt_57 (a1 : Int) (H : a_P) : a_mt (a_pp H) 0 57 [(2, 0), (0, a1)] H (fn_57 a1 H) := by
  refine a_mtI (lo := [some (2, 0), some (0, a1)]) rfl fun d => ?_
  unfold fn_57
  refine a_w0 (Nat.le_succ _) ti_57_0 rfl ?_
  refine a_w2 (z := 36) (Nat.le_succ _) ti_57_1 (by decide) ?_
  refine a_w3p (args := [(0, a1), (0, 36)]) (Nat.le_succ _) ti_57_3 (mt_91 a1 36 H) rfl rfl rfl rfl ?_
  refine a_wjn 21 (fun (s : Int) => [none, none]) (fun (s : Int) => [(0, s)]) (fun (s : Int) => H) (fun s1 => ?_) (fun j21 hj21 => ?_)
  · exact a_w4 (Nat.le_succ _) ti_57_21 rfl rfl rfl
  · refine a_w8_0 (Nat.le_succ _) ti_57_6 ?_ ?_
    · refine a_w2 (z := (-1)) (Nat.le_succ _) ti_57_20 (by decide) ?_
      exact a_wk (hj21 (-1)) (by omega) trivial
    · refine a_w0 (Nat.le_succ _) ti_57_9 rfl ?_
      refine a_w1 (a := (2, 1)) (Nat.le_succ _) ti_57_10 rfl ?_
      refine a_w0 (Nat.le_succ _) ti_57_13 rfl ?_
      refine a_w3p (args := [(2, 1), (0, a1)]) (Nat.le_succ _) ti_57_14 (mt_19 1 a1 H) rfl rfl rfl rfl ?_
      refine a_w7 (Nat.le_succ _) ti_57_17 ?_
      exact a_wk (hj21 (fn_19 1 a1 H)) (by omega) trivial
/-- CarriedGate$Tape.addLetter(C)Z -/
noncomputable def fn_43 (a1 : Int) (H : a_P) : a_F :=
  a_jn (fun (s1 : Unit) => (0, H)) fun j16 =>
  (if (H 119 1) < 0 then j16 ()
  else (if (H 119 1) < 90 then a_bd (a_up H 120 (H 119 1) (a_chr a1)) fun H1 =>
  a_bd (a_up H1 119 1 (a_w ((H1 119 1) + 1))) fun H2 =>
  (1, H2)
  else j16 ()))
theorem ti_43_0 : (q_I 43).2 0 = some (0, 4, 0, 0, 2, 1, []) := rfl
theorem ti_43_1 : (q_I 43).2 1 = some (1, 0, 15, 4, 1, 4, [166]) := rfl
theorem ti_43_4 : (q_I 43).2 4 = some (8, 2, 0, 16, 0, 7, []) := rfl
theorem ti_43_7 : (q_I 43).2 7 = some (0, 4, 0, 0, 2, 8, []) := rfl
theorem ti_43_8 : (q_I 43).2 8 = some (1, 0, 15, 4, 1, 11, [166]) := rfl
theorem ti_43_11 : (q_I 43).2 11 = some (2, 1, 90, 0, 0, 13, []) := rfl
theorem ti_43_13 : (q_I 43).2 13 = some (9, 2, 0, 18, 0, 16, []) := rfl
theorem ti_43_18 : (q_I 43).2 18 = some (0, 4, 0, 0, 2, 19, []) := rfl
theorem ti_43_19 : (q_I 43).2 19 = some (1, 0, 11, 4, 0, 22, [165]) := rfl
theorem ti_43_22 : (q_I 43).2 22 = some (0, 4, 0, 0, 2, 23, []) := rfl
theorem ti_43_23 : (q_I 43).2 23 = some (1, 0, 15, 4, 1, 26, [166]) := rfl
theorem ti_43_26 : (q_I 43).2 26 = some (0, 0, 0, 1, 0, 27, []) := rfl
theorem ti_43_27 : (q_I 43).2 27 = some (12, 12, 0, 0, 0, 28, []) := rfl
theorem ti_43_28 : (q_I 43).2 28 = some (0, 4, 0, 0, 2, 29, []) := rfl
theorem ti_43_29 : (q_I 43).2 29 = some (16, 0, 0, 0, 0, 30, []) := rfl
theorem ti_43_30 : (q_I 43).2 30 = some (1, 0, 15, 4, 1, 33, [166]) := rfl
theorem ti_43_33 : (q_I 43).2 33 = some (2, 0, 1, 0, 0, 34, []) := rfl
theorem ti_43_34 : (q_I 43).2 34 = some (6, 0, 0, 0, 0, 35, []) := rfl
theorem ti_43_35 : (q_I 43).2 35 = some (10, 0, 15, 4, 1, 38, [166]) := rfl
theorem ti_43_38 : (q_I 43).2 38 = some (2, 0, 1, 0, 0, 39, []) := rfl
theorem ti_43_39 : (q_I 43).2 39 = some (4, 3, 0, 0, 0, 40, []) := rfl
theorem ti_43_16 : (q_I 43).2 16 = some (2, 0, 0, 0, 0, 17, []) := rfl
theorem ti_43_17 : (q_I 43).2 17 = some (4, 3, 0, 0, 0, 18, []) := rfl
theorem mt_43 (a1 : Int) (H : a_P) : a_mt id 0 43 [(2, 119), (0, a1)] H (fn_43 a1 H) := by
  refine a_mtI (lo := [some (2, 119), some (0, a1)]) rfl fun d => ?_
  unfold fn_43
  refine a_w0 (Nat.le_succ _) ti_43_0 rfl ?_
  refine a_w1 (a := (0, H 119 1)) (Nat.le_succ _) ti_43_1 rfl ?_
  refine a_wjn 16 (fun (s : Unit) => [none, none]) (fun (s : Unit) => []) (fun (s : Unit) => H) (fun s1 => ?_) (fun j16 hj16 => ?_)
  · refine a_w2 (z := 0) (Nat.le_succ _) ti_43_16 (by decide) ?_
    exact a_w4 (Nat.le_succ _) ti_43_17 rfl rfl rfl
  · refine a_w8_2 (Nat.le_succ _) ti_43_4 ?_ ?_
    · exact a_wk (hj16 ()) (by omega) trivial
    · refine a_w0 (Nat.le_succ _) ti_43_7 rfl ?_
      refine a_w1 (a := (0, H 119 1)) (Nat.le_succ _) ti_43_8 rfl ?_
      refine a_w2 (z := 90) (Nat.le_succ _) ti_43_11 (by decide) ?_
      refine a_w9_2 (Nat.le_succ _) ti_43_13 ?_ ?_
      · refine a_w0 (Nat.le_succ _) ti_43_18 rfl ?_
        refine a_w1 (a := (2, 120)) (Nat.le_succ _) ti_43_19 rfl ?_
        refine a_w0 (Nat.le_succ _) ti_43_22 rfl ?_
        refine a_w1 (a := (0, H 119 1)) (Nat.le_succ _) ti_43_23 rfl ?_
        refine a_w0 (Nat.le_succ _) ti_43_26 rfl ?_
        refine a_w12c (Nat.le_succ _) ti_43_27 (fun H1 => ?_)
        refine a_w0 (Nat.le_succ _) ti_43_28 rfl ?_
        refine a_w16 (Nat.le_succ _) ti_43_29 ?_
        refine a_w1 (a := (0, H1 119 1)) (Nat.le_succ _) ti_43_30 rfl ?_
        refine a_w2 (z := 1) (Nat.le_succ _) ti_43_33 (by decide) ?_
        refine a_w6 (a := (0, a_w ((H1 119 1) + 1))) (Nat.le_succ _) ti_43_34 rfl ?_
        refine a_w10 (Nat.le_succ _) ti_43_35 rfl rfl rfl (fun H2 => ?_)
        refine a_w2 (z := 1) (Nat.le_succ _) ti_43_38 (by decide) ?_
        exact a_w4 (Nat.le_succ _) ti_43_39 rfl rfl rfl
      · exact a_wk (hj16 ()) (by omega) trivial
/-- CarriedGate.type(I)I -/
noncomputable def fn_58 (a1 : Int) (H : a_P) : a_F :=
  a_jn (fun (s1 : Unit) => ((-1), H)) fun j12 =>
  (if a1 < 32 then j12 ()
  else (if 126 < a1 then j12 ()
  else a_bd (fn_43 (a_i2c a1) H) fun g1 =>
  a_jn (fun (s2 : Int) => (s2, g1.2)) fun j38 =>
  (if g1.1 = 0 then j38 (-3)
  else j38 (g1.2 119 1))))
theorem ti_58_0 : (q_I 58).2 0 = some (0, 0, 0, 1, 0, 1, []) := rfl
theorem ti_58_1 : (q_I 58).2 1 = some (2, 1, 32, 0, 0, 3, []) := rfl
theorem ti_58_3 : (q_I 58).2 3 = some (9, 2, 0, 12, 0, 6, []) := rfl
theorem ti_58_6 : (q_I 58).2 6 = some (0, 0, 0, 1, 0, 7, []) := rfl
theorem ti_58_7 : (q_I 58).2 7 = some (2, 1, 126, 0, 0, 9, []) := rfl
theorem ti_58_9 : (q_I 58).2 9 = some (9, 5, 0, 14, 0, 12, []) := rfl
theorem ti_58_14 : (q_I 58).2 14 = some (0, 4, 0, 0, 2, 15, []) := rfl
theorem ti_58_15 : (q_I 58).2 15 = some (1, 0, 39, 5, 6, 18, [237]) := rfl
theorem ti_58_18 : (q_I 58).2 18 = some (0, 0, 0, 1, 0, 19, []) := rfl
theorem ti_58_19 : (q_I 58).2 19 = some (14, 3, 0, 0, 0, 20, []) := rfl
theorem ti_58_20 : (q_I 58).2 20 = some (3, 0, 112, 43, 2, 23, [328, 4]) := rfl
theorem ti_58_23 : (q_I 58).2 23 = some (8, 0, 0, 36, 0, 26, []) := rfl
theorem ti_58_26 : (q_I 58).2 26 = some (0, 4, 0, 0, 2, 27, []) := rfl
theorem ti_58_27 : (q_I 58).2 27 = some (1, 0, 39, 5, 6, 30, [237]) := rfl
theorem ti_58_30 : (q_I 58).2 30 = some (1, 0, 116, 4, 1, 33, [167]) := rfl
theorem ti_58_33 : (q_I 58).2 33 = some (7, 0, 0, 38, 0, 36, []) := rfl
theorem ti_58_36 : (q_I 58).2 36 = some (2, 1, (-3), 0, 0, 38, []) := rfl
theorem ti_58_38 : (q_I 58).2 38 = some (4, 0, 0, 0, 0, 39, []) := rfl
theorem ti_58_12 : (q_I 58).2 12 = some (2, 0, (-1), 0, 0, 13, []) := rfl
theorem ti_58_13 : (q_I 58).2 13 = some (4, 0, 0, 0, 0, 14, []) := rfl
theorem mt_58 (a1 : Int) (H : a_P) : a_mt id 0 58 [(2, 0), (0, a1)] H (fn_58 a1 H) := by
  refine a_mtI (lo := [some (2, 0), some (0, a1)]) rfl fun d => ?_
  unfold fn_58
  refine a_w0 (Nat.le_succ _) ti_58_0 rfl ?_
  refine a_w2 (z := 32) (Nat.le_succ _) ti_58_1 (by decide) ?_
  refine a_wjn 12 (fun (s : Unit) => [none, none]) (fun (s : Unit) => []) (fun (s : Unit) => H) (fun s1 => ?_) (fun j12 hj12 => ?_)
  · refine a_w2 (z := (-1)) (Nat.le_succ _) ti_58_12 (by decide) ?_
    exact a_w4 (Nat.le_succ _) ti_58_13 rfl rfl rfl
  · refine a_w9_2 (Nat.le_succ _) ti_58_3 ?_ ?_
    · exact a_wk (hj12 ()) (by omega) trivial
    · refine a_w0 (Nat.le_succ _) ti_58_6 rfl ?_
      refine a_w2 (z := 126) (Nat.le_succ _) ti_58_7 (by decide) ?_
      refine a_w9_5 (Nat.le_succ _) ti_58_9 ?_ ?_
      · refine a_w0 (Nat.le_succ _) ti_58_14 rfl ?_
        refine a_w1 (a := (2, 119)) (Nat.le_succ _) ti_58_15 rfl ?_
        refine a_w0 (Nat.le_succ _) ti_58_18 rfl ?_
        refine a_w14 (a := (0, a_i2c a1)) (Nat.le_succ _) ti_58_19 rfl ?_
        refine a_w3i (args := [(2, 119), (0, a_i2c a1)]) (Nat.le_succ _) ti_58_20 (mt_43 (a_i2c a1) H) (fun _ => rfl) rfl rfl (fun g1 => ?_)
        refine a_wjn 38 (fun (s : Int) => [none, none]) (fun (s : Int) => [(0, s)]) (fun (s : Int) => g1.2) (fun s2 => ?_) (fun j38 hj38 => ?_)
        · exact a_w4 (Nat.le_succ _) ti_58_38 rfl rfl rfl
        · refine a_w8_0 (Nat.le_succ _) ti_58_23 ?_ ?_
          · refine a_w2 (z := (-3)) (Nat.le_succ _) ti_58_36 (by decide) ?_
            exact a_wk (hj38 (-3)) (by omega) trivial
          · refine a_w0 (Nat.le_succ _) ti_58_26 rfl ?_
            refine a_w1 (a := (2, 119)) (Nat.le_succ _) ti_58_27 rfl ?_
            refine a_w1 (a := (0, g1.2 119 1)) (Nat.le_succ _) ti_58_30 rfl ?_
            refine a_w7 (Nat.le_succ _) ti_58_33 ?_
            exact a_wk (hj38 (g1.2 119 1)) (by omega) trivial
      · exact a_wk (hj12 ()) (by omega) trivial
/-- CarriedGate$Plain.becomeLike(LCarriedGate$Plain;)V -/
noncomputable def fn_10 (p : Int) (a1 : Int) (H : a_P) : a_P :=
  a_bd (a_up H p 0 (H a1 0)) fun H1 =>
  a_bd (a_up H1 p 1 (H1 a1 1)) fun H2 =>
  a_bd (a_up H2 p 2 (H2 a1 2)) fun H3 =>
  a_bd (a_up H3 p 3 (H3 a1 3)) fun H4 =>
  a_bd (a_up H4 p 4 (H4 a1 4)) fun H5 =>
  a_bd (a_up H5 p 5 (H5 a1 5)) fun H6 =>
  a_bd (a_up H6 p 6 (H6 a1 6)) fun H7 =>
  a_bd (a_cp H7 (a1 + 1) 0 (p + 1) 0 8) fun H8 =>
  a_bd (a_cp H8 (a1 + 2) 0 (p + 2) 0 8) fun H9 =>
  a_bd (a_cp H9 (a1 + 3) 0 (p + 3) 0 8) fun H10 =>
  a_bd (a_cp H10 (a1 + 4) 0 (p + 4) 0 8) fun H11 =>
  a_bd (a_cp H11 (a1 + 5) 0 (p + 5) 0 8) fun H12 =>
  H12
theorem ti_10_0 : (q_I 10).2 0 = some (0, 4, 0, 0, 2, 1, []) := rfl
theorem ti_10_1 : (q_I 10).2 1 = some (0, 4, 0, 1, 2, 2, []) := rfl
theorem ti_10_2 : (q_I 10).2 2 = some (1, 0, 9, 2, 0, 5, [83]) := rfl
theorem ti_10_5 : (q_I 10).2 5 = some (10, 0, 9, 2, 0, 8, [83]) := rfl
theorem ti_10_8 : (q_I 10).2 8 = some (0, 4, 0, 0, 2, 9, []) := rfl
theorem ti_10_9 : (q_I 10).2 9 = some (0, 4, 0, 1, 2, 10, []) := rfl
theorem ti_10_10 : (q_I 10).2 10 = some (1, 0, 15, 2, 1, 13, [86]) := rfl
theorem ti_10_13 : (q_I 10).2 13 = some (10, 0, 15, 2, 1, 16, [86]) := rfl
theorem ti_10_16 : (q_I 10).2 16 = some (0, 4, 0, 0, 2, 17, []) := rfl
theorem ti_10_17 : (q_I 10).2 17 = some (0, 4, 0, 1, 2, 18, []) := rfl
theorem ti_10_18 : (q_I 10).2 18 = some (1, 0, 18, 2, 2, 21, [89]) := rfl
theorem ti_10_21 : (q_I 10).2 21 = some (10, 0, 18, 2, 2, 24, [89]) := rfl
theorem ti_10_24 : (q_I 10).2 24 = some (0, 4, 0, 0, 2, 25, []) := rfl
theorem ti_10_25 : (q_I 10).2 25 = some (0, 4, 0, 1, 2, 26, []) := rfl
theorem ti_10_26 : (q_I 10).2 26 = some (1, 0, 21, 2, 3, 29, [92]) := rfl
theorem ti_10_29 : (q_I 10).2 29 = some (10, 0, 21, 2, 3, 32, [92]) := rfl
theorem ti_10_32 : (q_I 10).2 32 = some (0, 4, 0, 0, 2, 33, []) := rfl
theorem ti_10_33 : (q_I 10).2 33 = some (0, 4, 0, 1, 2, 34, []) := rfl
theorem ti_10_34 : (q_I 10).2 34 = some (1, 0, 24, 2, 4, 37, [95]) := rfl
theorem ti_10_37 : (q_I 10).2 37 = some (10, 0, 24, 2, 4, 40, [95]) := rfl
theorem ti_10_40 : (q_I 10).2 40 = some (0, 4, 0, 0, 2, 41, []) := rfl
theorem ti_10_41 : (q_I 10).2 41 = some (0, 4, 0, 1, 2, 42, []) := rfl
theorem ti_10_42 : (q_I 10).2 42 = some (1, 0, 27, 2, 5, 45, [98]) := rfl
theorem ti_10_45 : (q_I 10).2 45 = some (10, 0, 27, 2, 5, 48, [98]) := rfl
theorem ti_10_48 : (q_I 10).2 48 = some (0, 4, 0, 0, 2, 49, []) := rfl
theorem ti_10_49 : (q_I 10).2 49 = some (0, 4, 0, 1, 2, 50, []) := rfl
theorem ti_10_50 : (q_I 10).2 50 = some (1, 0, 30, 2, 6, 53, [100]) := rfl
theorem ti_10_53 : (q_I 10).2 53 = some (10, 0, 30, 2, 6, 56, [100]) := rfl
theorem ti_10_56 : (q_I 10).2 56 = some (0, 4, 0, 1, 2, 57, []) := rfl
theorem ti_10_57 : (q_I 10).2 57 = some (1, 0, 33, 2, 7, 60, [103]) := rfl
theorem ti_10_60 : (q_I 10).2 60 = some (2, 0, 0, 0, 0, 61, []) := rfl
theorem ti_10_61 : (q_I 10).2 61 = some (0, 4, 0, 0, 2, 62, []) := rfl
theorem ti_10_62 : (q_I 10).2 62 = some (1, 0, 33, 2, 7, 65, [103]) := rfl
theorem ti_10_65 : (q_I 10).2 65 = some (2, 0, 0, 0, 0, 66, []) := rfl
theorem ti_10_66 : (q_I 10).2 66 = some (2, 1, 8, 0, 0, 68, []) := rfl
theorem ti_10_68 : (q_I 10).2 68 = some (19, 0, 49, 0, 0, 71, [470]) := rfl
theorem ti_10_71 : (q_I 10).2 71 = some (0, 4, 0, 1, 2, 72, []) := rfl
theorem ti_10_72 : (q_I 10).2 72 = some (1, 0, 37, 2, 8, 75, [105]) := rfl
theorem ti_10_75 : (q_I 10).2 75 = some (2, 0, 0, 0, 0, 76, []) := rfl
theorem ti_10_76 : (q_I 10).2 76 = some (0, 4, 0, 0, 2, 77, []) := rfl
theorem ti_10_77 : (q_I 10).2 77 = some (1, 0, 37, 2, 8, 80, [105]) := rfl
theorem ti_10_80 : (q_I 10).2 80 = some (2, 0, 0, 0, 0, 81, []) := rfl
theorem ti_10_81 : (q_I 10).2 81 = some (2, 1, 8, 0, 0, 83, []) := rfl
theorem ti_10_83 : (q_I 10).2 83 = some (19, 0, 49, 0, 0, 86, [470]) := rfl
theorem ti_10_86 : (q_I 10).2 86 = some (0, 4, 0, 1, 2, 87, []) := rfl
theorem ti_10_87 : (q_I 10).2 87 = some (1, 0, 40, 2, 9, 90, [107]) := rfl
theorem ti_10_90 : (q_I 10).2 90 = some (2, 0, 0, 0, 0, 91, []) := rfl
theorem ti_10_91 : (q_I 10).2 91 = some (0, 4, 0, 0, 2, 92, []) := rfl
theorem ti_10_92 : (q_I 10).2 92 = some (1, 0, 40, 2, 9, 95, [107]) := rfl
theorem ti_10_95 : (q_I 10).2 95 = some (2, 0, 0, 0, 0, 96, []) := rfl
theorem ti_10_96 : (q_I 10).2 96 = some (2, 1, 8, 0, 0, 98, []) := rfl
theorem ti_10_98 : (q_I 10).2 98 = some (19, 0, 49, 0, 0, 101, [470]) := rfl
theorem ti_10_101 : (q_I 10).2 101 = some (0, 4, 0, 1, 2, 102, []) := rfl
theorem ti_10_102 : (q_I 10).2 102 = some (1, 0, 43, 2, 10, 105, [109]) := rfl
theorem ti_10_105 : (q_I 10).2 105 = some (2, 0, 0, 0, 0, 106, []) := rfl
theorem ti_10_106 : (q_I 10).2 106 = some (0, 4, 0, 0, 2, 107, []) := rfl
theorem ti_10_107 : (q_I 10).2 107 = some (1, 0, 43, 2, 10, 110, [109]) := rfl
theorem ti_10_110 : (q_I 10).2 110 = some (2, 0, 0, 0, 0, 111, []) := rfl
theorem ti_10_111 : (q_I 10).2 111 = some (2, 1, 8, 0, 0, 113, []) := rfl
theorem ti_10_113 : (q_I 10).2 113 = some (19, 0, 49, 0, 0, 116, [470]) := rfl
theorem ti_10_116 : (q_I 10).2 116 = some (0, 4, 0, 1, 2, 117, []) := rfl
theorem ti_10_117 : (q_I 10).2 117 = some (1, 0, 46, 2, 11, 120, [111]) := rfl
theorem ti_10_120 : (q_I 10).2 120 = some (2, 0, 0, 0, 0, 121, []) := rfl
theorem ti_10_121 : (q_I 10).2 121 = some (0, 4, 0, 0, 2, 122, []) := rfl
theorem ti_10_122 : (q_I 10).2 122 = some (1, 0, 46, 2, 11, 125, [111]) := rfl
theorem ti_10_125 : (q_I 10).2 125 = some (2, 0, 0, 0, 0, 126, []) := rfl
theorem ti_10_126 : (q_I 10).2 126 = some (2, 1, 8, 0, 0, 128, []) := rfl
theorem ti_10_128 : (q_I 10).2 128 = some (19, 0, 49, 0, 0, 131, [470]) := rfl
theorem ti_10_131 : (q_I 10).2 131 = some (4, 4, 0, 0, 0, 132, []) := rfl
theorem mt_10 (p : Int) (a1 : Int) (H : a_P) : a_mt a_pv 9 10 [(2, p), (2, a1)] H (fn_10 p a1 H) := by
  refine a_mtI (lo := [some (2, p), some (2, a1)]) rfl fun d => ?_
  unfold fn_10
  refine a_w0 (Nat.le_succ _) ti_10_0 rfl ?_
  refine a_w0 (Nat.le_succ _) ti_10_1 rfl ?_
  refine a_w1 (a := (0, H a1 0)) (Nat.le_succ _) ti_10_2 rfl ?_
  refine a_w10 (Nat.le_succ _) ti_10_5 rfl rfl rfl (fun H1 => ?_)
  refine a_w0 (Nat.le_succ _) ti_10_8 rfl ?_
  refine a_w0 (Nat.le_succ _) ti_10_9 rfl ?_
  refine a_w1 (a := (0, H1 a1 1)) (Nat.le_succ _) ti_10_10 rfl ?_
  refine a_w10 (Nat.le_succ _) ti_10_13 rfl rfl rfl (fun H2 => ?_)
  refine a_w0 (Nat.le_succ _) ti_10_16 rfl ?_
  refine a_w0 (Nat.le_succ _) ti_10_17 rfl ?_
  refine a_w1 (a := (0, H2 a1 2)) (Nat.le_succ _) ti_10_18 rfl ?_
  refine a_w10 (Nat.le_succ _) ti_10_21 rfl rfl rfl (fun H3 => ?_)
  refine a_w0 (Nat.le_succ _) ti_10_24 rfl ?_
  refine a_w0 (Nat.le_succ _) ti_10_25 rfl ?_
  refine a_w1 (a := (0, H3 a1 3)) (Nat.le_succ _) ti_10_26 rfl ?_
  refine a_w10 (Nat.le_succ _) ti_10_29 rfl rfl rfl (fun H4 => ?_)
  refine a_w0 (Nat.le_succ _) ti_10_32 rfl ?_
  refine a_w0 (Nat.le_succ _) ti_10_33 rfl ?_
  refine a_w1 (a := (0, H4 a1 4)) (Nat.le_succ _) ti_10_34 rfl ?_
  refine a_w10 (Nat.le_succ _) ti_10_37 rfl rfl rfl (fun H5 => ?_)
  refine a_w0 (Nat.le_succ _) ti_10_40 rfl ?_
  refine a_w0 (Nat.le_succ _) ti_10_41 rfl ?_
  refine a_w1 (a := (0, H5 a1 5)) (Nat.le_succ _) ti_10_42 rfl ?_
  refine a_w10 (Nat.le_succ _) ti_10_45 rfl rfl rfl (fun H6 => ?_)
  refine a_w0 (Nat.le_succ _) ti_10_48 rfl ?_
  refine a_w0 (Nat.le_succ _) ti_10_49 rfl ?_
  refine a_w1 (a := (0, H6 a1 6)) (Nat.le_succ _) ti_10_50 rfl ?_
  refine a_w10 (Nat.le_succ _) ti_10_53 rfl rfl rfl (fun H7 => ?_)
  refine a_w0 (Nat.le_succ _) ti_10_56 rfl ?_
  refine a_w1 (a := (2, (a1 + 1))) (Nat.le_succ _) ti_10_57 rfl ?_
  refine a_w2 (z := 0) (Nat.le_succ _) ti_10_60 (by decide) ?_
  refine a_w0 (Nat.le_succ _) ti_10_61 rfl ?_
  refine a_w1 (a := (2, (p + 1))) (Nat.le_succ _) ti_10_62 rfl ?_
  refine a_w2 (z := 0) (Nat.le_succ _) ti_10_65 (by decide) ?_
  refine a_w2 (z := 8) (Nat.le_succ _) ti_10_66 (by decide) ?_
  refine a_w19 (Nat.le_succ _) ti_10_68 (fun H8 => ?_)
  refine a_w0 (Nat.le_succ _) ti_10_71 rfl ?_
  refine a_w1 (a := (2, (a1 + 2))) (Nat.le_succ _) ti_10_72 rfl ?_
  refine a_w2 (z := 0) (Nat.le_succ _) ti_10_75 (by decide) ?_
  refine a_w0 (Nat.le_succ _) ti_10_76 rfl ?_
  refine a_w1 (a := (2, (p + 2))) (Nat.le_succ _) ti_10_77 rfl ?_
  refine a_w2 (z := 0) (Nat.le_succ _) ti_10_80 (by decide) ?_
  refine a_w2 (z := 8) (Nat.le_succ _) ti_10_81 (by decide) ?_
  refine a_w19 (Nat.le_succ _) ti_10_83 (fun H9 => ?_)
  refine a_w0 (Nat.le_succ _) ti_10_86 rfl ?_
  refine a_w1 (a := (2, (a1 + 3))) (Nat.le_succ _) ti_10_87 rfl ?_
  refine a_w2 (z := 0) (Nat.le_succ _) ti_10_90 (by decide) ?_
  refine a_w0 (Nat.le_succ _) ti_10_91 rfl ?_
  refine a_w1 (a := (2, (p + 3))) (Nat.le_succ _) ti_10_92 rfl ?_
  refine a_w2 (z := 0) (Nat.le_succ _) ti_10_95 (by decide) ?_
  refine a_w2 (z := 8) (Nat.le_succ _) ti_10_96 (by decide) ?_
  refine a_w19 (Nat.le_succ _) ti_10_98 (fun H10 => ?_)
  refine a_w0 (Nat.le_succ _) ti_10_101 rfl ?_
  refine a_w1 (a := (2, (a1 + 4))) (Nat.le_succ _) ti_10_102 rfl ?_
  refine a_w2 (z := 0) (Nat.le_succ _) ti_10_105 (by decide) ?_
  refine a_w0 (Nat.le_succ _) ti_10_106 rfl ?_
  refine a_w1 (a := (2, (p + 4))) (Nat.le_succ _) ti_10_107 rfl ?_
  refine a_w2 (z := 0) (Nat.le_succ _) ti_10_110 (by decide) ?_
  refine a_w2 (z := 8) (Nat.le_succ _) ti_10_111 (by decide) ?_
  refine a_w19 (Nat.le_succ _) ti_10_113 (fun H11 => ?_)
  refine a_w0 (Nat.le_succ _) ti_10_116 rfl ?_
  refine a_w1 (a := (2, (a1 + 5))) (Nat.le_succ _) ti_10_117 rfl ?_
  refine a_w2 (z := 0) (Nat.le_succ _) ti_10_120 (by decide) ?_
  refine a_w0 (Nat.le_succ _) ti_10_121 rfl ?_
  refine a_w1 (a := (2, (p + 5))) (Nat.le_succ _) ti_10_122 rfl ?_
  refine a_w2 (z := 0) (Nat.le_succ _) ti_10_125 (by decide) ?_
  refine a_w2 (z := 8) (Nat.le_succ _) ti_10_126 (by decide) ?_
  refine a_w19 (Nat.le_succ _) ti_10_128 (fun H12 => ?_)
  exact a_w4v (Nat.le_succ _) ti_10_131 rfl rfl
/-- CarriedGate$Tape.failAt(I)V -/
noncomputable def fn_47 (a1 : Int) (H : a_P) : a_P :=
  a_jn (fun (s1 : a_P) => s1) fun j15 =>
  (if (H 119 3) = 0 then a_bd (a_up H 119 3 (a_w ((-20) - a1))) fun H1 =>
  j15 H1
  else j15 H)
theorem ti_47_0 : (q_I 47).2 0 = some (0, 4, 0, 0, 2, 1, []) := rfl
theorem ti_47_1 : (q_I 47).2 1 = some (1, 0, 22, 4, 3, 4, [169]) := rfl
theorem ti_47_4 : (q_I 47).2 4 = some (8, 1, 0, 15, 0, 7, []) := rfl
theorem ti_47_7 : (q_I 47).2 7 = some (0, 4, 0, 0, 2, 8, []) := rfl
theorem ti_47_8 : (q_I 47).2 8 = some (2, 1, (-20), 0, 0, 10, []) := rfl
theorem ti_47_10 : (q_I 47).2 10 = some (0, 0, 0, 1, 0, 11, []) := rfl
theorem ti_47_11 : (q_I 47).2 11 = some (6, 1, 0, 0, 0, 12, []) := rfl
theorem ti_47_12 : (q_I 47).2 12 = some (10, 0, 22, 4, 3, 15, [169]) := rfl
theorem ti_47_15 : (q_I 47).2 15 = some (4, 4, 0, 0, 0, 16, []) := rfl
theorem mt_47 (a1 : Int) (H : a_P) : a_mt a_pv 9 47 [(2, 119), (0, a1)] H (fn_47 a1 H) := by
  refine a_mtI (lo := [some (2, 119), some (0, a1)]) rfl fun d => ?_
  unfold fn_47
  refine a_w0 (Nat.le_succ _) ti_47_0 rfl ?_
  refine a_w1 (a := (0, H 119 3)) (Nat.le_succ _) ti_47_1 rfl ?_
  refine a_wjn 15 (fun (s : a_P) => [none, none]) (fun (s : a_P) => []) (fun (s : a_P) => s) (fun s1 => ?_) (fun j15 hj15 => ?_)
  · exact a_w4v (Nat.le_succ _) ti_47_15 rfl rfl
  · refine a_w8_1 (Nat.le_succ _) ti_47_4 ?_ ?_
    · exact a_wk (hj15 H) (by omega) trivial
    · refine a_w0 (Nat.le_succ _) ti_47_7 rfl ?_
      refine a_w2 (z := (-20)) (Nat.le_succ _) ti_47_8 (by decide) ?_
      refine a_w0 (Nat.le_succ _) ti_47_10 rfl ?_
      refine a_w6 (a := (0, a_w ((-20) - a1))) (Nat.le_succ _) ti_47_11 rfl ?_
      refine a_w10 (Nat.le_succ _) ti_47_12 rfl rfl rfl (fun H1 => ?_)
      exact a_wk (hj15 H1) (by omega) trivial
/-- CarriedGate$Tape.letterAt(I)C -/
noncomputable def fn_49 (a1 : Int) (H : a_P) : Int :=
  a_jn (fun (s1 : Int) => s1) fun j28 =>
  a_jn (fun (s2 : Unit) => j28 0) fun j27 =>
  (if a1 < 0 then j27 ()
  else (if a1 < (H 119 1) then (if a1 < 90 then j28 (H 120 a1)
  else j27 ())
  else j27 ()))
theorem ti_49_0 : (q_I 49).2 0 = some (0, 0, 0, 1, 0, 1, []) := rfl
theorem ti_49_1 : (q_I 49).2 1 = some (8, 2, 0, 27, 0, 4, []) := rfl
theorem ti_49_4 : (q_I 49).2 4 = some (0, 0, 0, 1, 0, 5, []) := rfl
theorem ti_49_5 : (q_I 49).2 5 = some (0, 4, 0, 0, 2, 6, []) := rfl
theorem ti_49_6 : (q_I 49).2 6 = some (1, 0, 15, 4, 1, 9, [166]) := rfl
theorem ti_49_9 : (q_I 49).2 9 = some (9, 3, 0, 27, 0, 12, []) := rfl
theorem ti_49_12 : (q_I 49).2 12 = some (0, 0, 0, 1, 0, 13, []) := rfl
theorem ti_49_13 : (q_I 49).2 13 = some (2, 1, 90, 0, 0, 15, []) := rfl
theorem ti_49_15 : (q_I 49).2 15 = some (9, 3, 0, 27, 0, 18, []) := rfl
theorem ti_49_18 : (q_I 49).2 18 = some (0, 4, 0, 0, 2, 19, []) := rfl
theorem ti_49_19 : (q_I 49).2 19 = some (1, 0, 11, 4, 0, 22, [165]) := rfl
theorem ti_49_22 : (q_I 49).2 22 = some (0, 0, 0, 1, 0, 23, []) := rfl
theorem ti_49_23 : (q_I 49).2 23 = some (5, 12, 0, 0, 0, 24, []) := rfl
theorem ti_49_24 : (q_I 49).2 24 = some (7, 0, 0, 28, 0, 27, []) := rfl
theorem ti_49_27 : (q_I 49).2 27 = some (2, 0, 0, 0, 0, 28, []) := rfl
theorem ti_49_28 : (q_I 49).2 28 = some (4, 2, 0, 0, 0, 29, []) := rfl
theorem mt_49 (a1 : Int) (H : a_P) : a_mt (a_pp H) 0 49 [(2, 119), (0, a1)] H (fn_49 a1 H) := by
  refine a_mtI (lo := [some (2, 119), some (0, a1)]) rfl fun d => ?_
  unfold fn_49
  refine a_w0 (Nat.le_succ _) ti_49_0 rfl ?_
  refine a_wjn 28 (fun (s : Int) => [none, none]) (fun (s : Int) => [(0, s)]) (fun (s : Int) => H) (fun s1 => ?_) (fun j28 hj28 => ?_)
  · exact a_w4 (Nat.le_succ _) ti_49_28 rfl rfl rfl
  · refine a_wjn 27 (fun (s : Unit) => [none, none]) (fun (s : Unit) => []) (fun (s : Unit) => H) (fun s2 => ?_) (fun j27 hj27 => ?_)
    · refine a_w2 (z := 0) (Nat.le_succ _) ti_49_27 (by decide) ?_
      exact a_wk (hj28 0) (by omega) trivial
    · refine a_w8_2 (Nat.le_succ _) ti_49_1 ?_ ?_
      · exact a_wk (hj27 ()) (by omega) trivial
      · refine a_w0 (Nat.le_succ _) ti_49_4 rfl ?_
        refine a_w0 (Nat.le_succ _) ti_49_5 rfl ?_
        refine a_w1 (a := (0, H 119 1)) (Nat.le_succ _) ti_49_6 rfl ?_
        refine a_w9_3 (Nat.le_succ _) ti_49_9 ?_ ?_
        · exact a_wk (hj27 ()) (by omega) trivial
        · refine a_w0 (Nat.le_succ _) ti_49_12 rfl ?_
          refine a_w2 (z := 90) (Nat.le_succ _) ti_49_13 (by decide) ?_
          refine a_w9_3 (Nat.le_succ _) ti_49_15 ?_ ?_
          · exact a_wk (hj27 ()) (by omega) trivial
          · refine a_w0 (Nat.le_succ _) ti_49_18 rfl ?_
            refine a_w1 (a := (2, 120)) (Nat.le_succ _) ti_49_19 rfl ?_
            refine a_w0 (Nat.le_succ _) ti_49_22 rfl ?_
            refine a_w5 (kk := 0) (Nat.le_succ _) ti_49_23 (fun _ => rfl) ?_
            refine a_w7 (Nat.le_succ _) ti_49_24 ?_
            exact a_wk (hj28 (H 120 a1)) (by omega) trivial
/-- CarriedGate$Tape.peek()C -/
noncomputable def fn_48 (H : a_P) : a_F :=
  a_jn (fun (s1 : a_P) => (fn_49 (s1 119 2) s1, s1)) fun j37 =>
  a_lp (fun (s2 : a_P) => (0, s2)) (fun (s2 : a_P) n0 => (if (s2 119 2) < (s2 119 1) then (if (fn_49 (s2 119 2) s2) = 32 then a_bd (a_up s2 119 2 (a_w ((s2 119 2) + 1))) fun H1 =>
  n0 H1
  else j37 s2)
  else j37 s2)) a_fuel H
theorem ti_48_0 : (q_I 48).2 0 = some (0, 4, 0, 0, 2, 1, []) := rfl
theorem ti_48_1 : (q_I 48).2 1 = some (1, 0, 19, 4, 2, 4, [168]) := rfl
theorem ti_48_4 : (q_I 48).2 4 = some (0, 4, 0, 0, 2, 5, []) := rfl
theorem ti_48_5 : (q_I 48).2 5 = some (1, 0, 15, 4, 1, 8, [166]) := rfl
theorem ti_48_8 : (q_I 48).2 8 = some (9, 3, 0, 37, 0, 11, []) := rfl
theorem ti_48_11 : (q_I 48).2 11 = some (0, 4, 0, 0, 2, 12, []) := rfl
theorem ti_48_12 : (q_I 48).2 12 = some (0, 4, 0, 0, 2, 13, []) := rfl
theorem ti_48_13 : (q_I 48).2 13 = some (1, 0, 19, 4, 2, 16, [168]) := rfl
theorem ti_48_16 : (q_I 48).2 16 = some (3, 0, 86, 49, 2, 19, [348, 4]) := rfl
theorem ti_48_19 : (q_I 48).2 19 = some (2, 1, 32, 0, 0, 21, []) := rfl
theorem ti_48_21 : (q_I 48).2 21 = some (9, 1, 0, 37, 0, 24, []) := rfl
theorem ti_48_24 : (q_I 48).2 24 = some (0, 4, 0, 0, 2, 25, []) := rfl
theorem ti_48_25 : (q_I 48).2 25 = some (16, 0, 0, 0, 0, 26, []) := rfl
theorem ti_48_26 : (q_I 48).2 26 = some (1, 0, 19, 4, 2, 29, [168]) := rfl
theorem ti_48_29 : (q_I 48).2 29 = some (2, 0, 1, 0, 0, 30, []) := rfl
theorem ti_48_30 : (q_I 48).2 30 = some (6, 0, 0, 0, 0, 31, []) := rfl
theorem ti_48_31 : (q_I 48).2 31 = some (10, 0, 19, 4, 2, 34, [168]) := rfl
theorem ti_48_34 : (q_I 48).2 34 = some (7, 0, 0, 0, 0, 37, []) := rfl
theorem ti_48_37 : (q_I 48).2 37 = some (0, 4, 0, 0, 2, 38, []) := rfl
theorem ti_48_38 : (q_I 48).2 38 = some (0, 4, 0, 0, 2, 39, []) := rfl
theorem ti_48_39 : (q_I 48).2 39 = some (1, 0, 19, 4, 2, 42, [168]) := rfl
theorem ti_48_42 : (q_I 48).2 42 = some (3, 0, 86, 49, 2, 45, [348, 4]) := rfl
theorem ti_48_45 : (q_I 48).2 45 = some (4, 2, 0, 0, 0, 46, []) := rfl
theorem mt_48 (H : a_P) : a_mt id 0 48 [(2, 119)] H (fn_48 H) := by
  refine a_mtI (lo := [some (2, 119)]) rfl fun d => ?_
  unfold fn_48
  refine a_wjn 37 (fun (s : a_P) => [some (2, 119)]) (fun (s : a_P) => []) (fun (s : a_P) => s) (fun s1 => ?_) (fun j37 hj37 => ?_)
  · refine a_w0 (Nat.le_succ _) ti_48_37 rfl ?_
    refine a_w0 (Nat.le_succ _) ti_48_38 rfl ?_
    refine a_w1 (a := (0, s1 119 2)) (Nat.le_succ _) ti_48_39 rfl ?_
    refine a_w3p (args := [(2, 119), (0, s1 119 2)]) (Nat.le_succ _) ti_48_42 (mt_49 (s1 119 2) s1) rfl rfl rfl rfl ?_
    exact a_w4 (Nat.le_succ _) ti_48_45 rfl rfl rfl
  · refine a_wk (a_wlp (fun (s : a_P) => [some (2, 119)]) (fun (s : a_P) => s) (fun N1 hN1 n0 hn0 s2 => ?_) a_fuel (a_fuel_le (by omega)) H) (Nat.le_refl _) ⟨rfl, trivial⟩
    · refine a_w0 (Nat.le_refl _) ti_48_0 rfl ?_
      refine a_w1 (a := (0, s2 119 2)) (Nat.le_succ _) ti_48_1 rfl ?_
      refine a_w0 (Nat.le_succ _) ti_48_4 rfl ?_
      refine a_w1 (a := (0, s2 119 1)) (Nat.le_succ _) ti_48_5 rfl ?_
      refine a_w9_3 (Nat.le_succ _) ti_48_8 ?_ ?_
      · exact a_wk (hj37 s2) (by omega) ⟨rfl, trivial⟩
      · refine a_w0 (Nat.le_succ _) ti_48_11 rfl ?_
        refine a_w0 (Nat.le_succ _) ti_48_12 rfl ?_
        refine a_w1 (a := (0, s2 119 2)) (Nat.le_succ _) ti_48_13 rfl ?_
        refine a_w3p (args := [(2, 119), (0, s2 119 2)]) (Nat.le_succ _) ti_48_16 (mt_49 (s2 119 2) s2) rfl rfl rfl rfl ?_
        refine a_w2 (z := 32) (Nat.le_succ _) ti_48_19 (by decide) ?_
        refine a_w9_1 (Nat.le_succ _) ti_48_21 ?_ ?_
        · exact a_wk (hj37 s2) (by omega) ⟨rfl, trivial⟩
        · refine a_w0 (Nat.le_succ _) ti_48_24 rfl ?_
          refine a_w16 (Nat.le_succ _) ti_48_25 ?_
          refine a_w1 (a := (0, s2 119 2)) (Nat.le_succ _) ti_48_26 rfl ?_
          refine a_w2 (z := 1) (Nat.le_succ _) ti_48_29 (by decide) ?_
          refine a_w6 (a := (0, a_w ((s2 119 2) + 1))) (Nat.le_succ _) ti_48_30 rfl ?_
          refine a_w10 (Nat.le_succ _) ti_48_31 rfl rfl rfl (fun H1 => ?_)
          refine a_w7 (Nat.le_succ _) ti_48_34 ?_
          exact a_wk (hn0 H1) (by omega) ⟨rfl, trivial⟩
/-- java/lang/String.coder()B -/
noncomputable def fn_189 (p : Int) : Int :=
  a_jn (fun (s1 : Int) => s1) fun j14 =>
  j14 0
theorem ti_189_0 : (q_I 189).2 0 = some (27, 0, 1, 38, 0, 3, [376]) := rfl
theorem ti_189_3 : (q_I 189).2 3 = some (8, 0, 0, 13, 0, 6, []) := rfl
theorem ti_189_6 : (q_I 189).2 6 = some (0, 4, 0, 0, 2, 7, []) := rfl
theorem ti_189_7 : (q_I 189).2 7 = some (28, 9, 15, 0, 0, 10, [1176]) := rfl
theorem ti_189_10 : (q_I 189).2 10 = some (7, 0, 0, 14, 0, 13, []) := rfl
theorem ti_189_13 : (q_I 189).2 13 = some (2, 0, 1, 0, 0, 14, []) := rfl
theorem ti_189_14 : (q_I 189).2 14 = some (4, 5, 0, 0, 0, 15, []) := rfl
theorem mt_189 (p : Int) (H : a_P) : a_mt (a_pp H) 0 189 [(2, p)] H (fn_189 p) := by
  refine a_mtI (lo := [some (2, p)]) rfl fun d => ?_
  unfold fn_189
  refine a_w27 (z := 1) (Nat.le_succ _) ti_189_0 (by decide) ?_
  refine a_wjn 14 (fun (s : Int) => [none]) (fun (s : Int) => [(0, s)]) (fun (s : Int) => H) (fun s1 => ?_) (fun j14 hj14 => ?_)
  · exact a_w4 (Nat.le_succ _) ti_189_14 rfl rfl rfl
  · refine a_w8 (Nat.le_succ _) ti_189_3 (fun g => absurd g (by decide)) (fun _ => ?_)
    refine a_w0 (Nat.le_succ _) ti_189_6 rfl ?_
    refine a_w28 (a := (0, 0)) (Nat.le_succ _) ti_189_7 rfl ?_
    refine a_w7 (Nat.le_succ _) ti_189_10 ?_
    exact a_wk (hj14 0) (by omega) trivial
/-- java/lang/String.length()I -/
noncomputable def fn_188 (p : Int) : Int :=
  a_shr (a_tl (p + 1000)) (fn_189 p)
theorem ti_188_0 : (q_I 188).2 0 = some (0, 4, 0, 0, 2, 1, []) := rfl
theorem ti_188_1 : (q_I 188).2 1 = some (28, 8, 9, 0, 0, 4, [1177]) := rfl
theorem ti_188_4 : (q_I 188).2 4 = some (29, 10, 0, 0, 0, 5, []) := rfl
theorem ti_188_5 : (q_I 188).2 5 = some (0, 4, 0, 0, 2, 6, []) := rfl
theorem ti_188_6 : (q_I 188).2 6 = some (3, 4, 335, 189, 1, 9, [382, 99]) := rfl
theorem ti_188_9 : (q_I 188).2 9 = some (6, 9, 0, 0, 0, 10, []) := rfl
theorem ti_188_10 : (q_I 188).2 10 = some (4, 0, 0, 0, 0, 11, []) := rfl
theorem mt_188 (p : Int) (H : a_P) : a_mt (a_pp H) 0 188 [(2, p)] H (fn_188 p) := by
  refine a_mtI (lo := [some (2, p)]) rfl fun d => ?_
  unfold fn_188
  refine a_w0 (Nat.le_succ _) ti_188_0 rfl ?_
  refine a_w28 (a := (2, (p + 1000))) (Nat.le_succ _) ti_188_1 rfl ?_
  refine a_w29 (a := (0, a_tl (p + 1000))) (Nat.le_succ _) ti_188_4 rfl ?_
  refine a_w0 (Nat.le_succ _) ti_188_5 rfl ?_
  refine a_w3p (args := [(2, p)]) (Nat.le_succ _) ti_188_6 (mt_189 p H) rfl rfl rfl rfl ?_
  refine a_w6 (a := (0, a_shr (a_tl (p + 1000)) (fn_189 p))) (Nat.le_succ _) ti_188_9 rfl ?_
  exact a_w4 (Nat.le_succ _) ti_188_10 rfl rfl rfl
/-- java/lang/String.isLatin1()Z -/
noncomputable def fn_190 (p : Int) : Int :=
  a_jn (fun (s1 : Int) => s1) fun j18 =>
  a_jn (fun (s2 : Unit) => j18 0) fun j17 =>
  j18 1
theorem ti_190_0 : (q_I 190).2 0 = some (27, 0, 1, 38, 0, 3, [376]) := rfl
theorem ti_190_3 : (q_I 190).2 3 = some (8, 0, 0, 17, 0, 6, []) := rfl
theorem ti_190_6 : (q_I 190).2 6 = some (0, 4, 0, 0, 2, 7, []) := rfl
theorem ti_190_7 : (q_I 190).2 7 = some (28, 9, 15, 0, 0, 10, [1176]) := rfl
theorem ti_190_10 : (q_I 190).2 10 = some (8, 1, 0, 17, 0, 13, []) := rfl
theorem ti_190_13 : (q_I 190).2 13 = some (2, 0, 1, 0, 0, 14, []) := rfl
theorem ti_190_14 : (q_I 190).2 14 = some (7, 0, 0, 18, 0, 17, []) := rfl
theorem ti_190_17 : (q_I 190).2 17 = some (2, 0, 0, 0, 0, 18, []) := rfl
theorem ti_190_18 : (q_I 190).2 18 = some (4, 3, 0, 0, 0, 19, []) := rfl
theorem mt_190 (p : Int) (H : a_P) : a_mt (a_pp H) 0 190 [(2, p)] H (fn_190 p) := by
  refine a_mtI (lo := [some (2, p)]) rfl fun d => ?_
  unfold fn_190
  refine a_w27 (z := 1) (Nat.le_succ _) ti_190_0 (by decide) ?_
  refine a_wjn 18 (fun (s : Int) => [none]) (fun (s : Int) => [(0, s)]) (fun (s : Int) => H) (fun s1 => ?_) (fun j18 hj18 => ?_)
  · exact a_w4 (Nat.le_succ _) ti_190_18 rfl rfl rfl
  · refine a_wjn 17 (fun (s : Unit) => [none]) (fun (s : Unit) => []) (fun (s : Unit) => H) (fun s2 => ?_) (fun j17 hj17 => ?_)
    · refine a_w2 (z := 0) (Nat.le_succ _) ti_190_17 (by decide) ?_
      exact a_wk (hj18 0) (by omega) trivial
    · refine a_w8 (Nat.le_succ _) ti_190_3 (fun g => absurd g (by decide)) (fun _ => ?_)
      refine a_w0 (Nat.le_succ _) ti_190_6 rfl ?_
      refine a_w28 (a := (0, 0)) (Nat.le_succ _) ti_190_7 rfl ?_
      refine a_w8 (Nat.le_succ _) ti_190_10 (fun g => absurd g (by decide)) (fun _ => ?_)
      refine a_w2 (z := 1) (Nat.le_succ _) ti_190_13 (by decide) ?_
      refine a_w7 (Nat.le_succ _) ti_190_14 ?_
      exact a_wk (hj18 1) (by omega) trivial
/-- java/lang/StringLatin1.canEncode(I)Z -/
noncomputable def fn_191 (a0 : Int) : Int :=
  a_jn (fun (s1 : Int) => s1) fun j16 =>
  a_jn (fun (s2 : Unit) => j16 0) fun j15 =>
  (if a0 < 0 then j15 ()
  else (if 255 < a0 then j15 ()
  else j16 1))
theorem ti_191_0 : (q_I 191).2 0 = some (0, 0, 0, 0, 0, 1, []) := rfl
theorem ti_191_1 : (q_I 191).2 1 = some (8, 2, 0, 15, 0, 4, []) := rfl
theorem ti_191_4 : (q_I 191).2 4 = some (0, 0, 0, 0, 0, 5, []) := rfl
theorem ti_191_5 : (q_I 191).2 5 = some (2, 2, 255, 0, 0, 8, []) := rfl
theorem ti_191_8 : (q_I 191).2 8 = some (9, 4, 0, 15, 0, 11, []) := rfl
theorem ti_191_11 : (q_I 191).2 11 = some (2, 0, 1, 0, 0, 12, []) := rfl
theorem ti_191_12 : (q_I 191).2 12 = some (7, 0, 0, 16, 0, 15, []) := rfl
theorem ti_191_15 : (q_I 191).2 15 = some (2, 0, 0, 0, 0, 16, []) := rfl
theorem ti_191_16 : (q_I 191).2 16 = some (4, 3, 0, 0, 0, 17, []) := rfl
theorem mt_191 (a0 : Int) (H : a_P) : a_mt (a_pp H) 0 191 [(0, a0)] H (fn_191 a0) := by
  refine a_mtI (lo := [some (0, a0)]) rfl fun d => ?_
  unfold fn_191
  refine a_w0 (Nat.le_succ _) ti_191_0 rfl ?_
  refine a_wjn 16 (fun (s : Int) => [none]) (fun (s : Int) => [(0, s)]) (fun (s : Int) => H) (fun s1 => ?_) (fun j16 hj16 => ?_)
  · exact a_w4 (Nat.le_succ _) ti_191_16 rfl rfl rfl
  · refine a_wjn 15 (fun (s : Unit) => [none]) (fun (s : Unit) => []) (fun (s : Unit) => H) (fun s2 => ?_) (fun j15 hj15 => ?_)
    · refine a_w2 (z := 0) (Nat.le_succ _) ti_191_15 (by decide) ?_
      exact a_wk (hj16 0) (by omega) trivial
    · refine a_w8_2 (Nat.le_succ _) ti_191_1 ?_ ?_
      · exact a_wk (hj15 ()) (by omega) trivial
      · refine a_w0 (Nat.le_succ _) ti_191_4 rfl ?_
        refine a_w2 (z := 255) (Nat.le_succ _) ti_191_5 (by decide) ?_
        refine a_w9_4 (Nat.le_succ _) ti_191_8 ?_ ?_
        · exact a_wk (hj15 ()) (by omega) trivial
        · refine a_w2 (z := 1) (Nat.le_succ _) ti_191_11 (by decide) ?_
          refine a_w7 (Nat.le_succ _) ti_191_12 ?_
          exact a_wk (hj16 1) (by omega) trivial
/-- java/lang/StringLatin1.indexOfChar([BIII)I -/
noncomputable def fn_193 (a0 : Int) (a1 : Int) (a2 : Int) (a3 : Int) : Int :=
  a_bd (a_i2b a1) fun x1 =>
  a_lp (fun (s1 : Int) => 0) (fun (s1 : Int) n7 => (if s1 < a3 then (if (a_tg a0 s1) = x1 then s1
  else a_bd (a_w (s1 + 1)) fun x2 =>
  n7 x2)
  else (-1))) a_fuel a2
theorem ti_193_0 : (q_I 193).2 0 = some (0, 0, 0, 1, 0, 1, []) := rfl
theorem ti_193_1 : (q_I 193).2 1 = some (14, 1, 0, 0, 0, 2, []) := rfl
theorem ti_193_2 : (q_I 193).2 2 = some (11, 1, 0, 4, 0, 4, []) := rfl
theorem ti_193_4 : (q_I 193).2 4 = some (0, 0, 0, 2, 0, 5, []) := rfl
theorem ti_193_5 : (q_I 193).2 5 = some (11, 1, 0, 5, 0, 7, []) := rfl
theorem ti_193_7 : (q_I 193).2 7 = some (0, 1, 0, 5, 0, 9, []) := rfl
theorem ti_193_9 : (q_I 193).2 9 = some (0, 0, 0, 3, 0, 10, []) := rfl
theorem ti_193_10 : (q_I 193).2 10 = some (9, 3, 0, 31, 0, 13, []) := rfl
theorem ti_193_13 : (q_I 193).2 13 = some (0, 4, 0, 0, 2, 14, []) := rfl
theorem ti_193_14 : (q_I 193).2 14 = some (0, 1, 0, 5, 0, 16, []) := rfl
theorem ti_193_16 : (q_I 193).2 16 = some (30, 22, 0, 0, 0, 17, []) := rfl
theorem ti_193_17 : (q_I 193).2 17 = some (0, 1, 0, 4, 0, 19, []) := rfl
theorem ti_193_19 : (q_I 193).2 19 = some (9, 1, 0, 25, 0, 22, []) := rfl
theorem ti_193_22 : (q_I 193).2 22 = some (0, 1, 0, 5, 0, 24, []) := rfl
theorem ti_193_24 : (q_I 193).2 24 = some (4, 0, 0, 0, 0, 25, []) := rfl
theorem ti_193_25 : (q_I 193).2 25 = some (13, 0, 1, 5, 0, 28, []) := rfl
theorem ti_193_28 : (q_I 193).2 28 = some (7, 0, 0, 7, 0, 31, []) := rfl
theorem ti_193_31 : (q_I 193).2 31 = some (2, 0, (-1), 0, 0, 32, []) := rfl
theorem ti_193_32 : (q_I 193).2 32 = some (4, 0, 0, 0, 0, 33, []) := rfl
theorem mt_193 (a0 : Int) (a1 : Int) (a2 : Int) (a3 : Int) (H : a_P) : a_mt (a_pp H) 0 193 [(2, a0), (0, a1), (0, a2), (0, a3)] H (fn_193 a0 a1 a2 a3) := by
  refine a_mtI (lo := [some (2, a0), some (0, a1), some (0, a2), some (0, a3), none, none]) rfl fun d => ?_
  unfold fn_193
  refine a_w0 (Nat.le_succ _) ti_193_0 rfl ?_
  refine a_w14 (a := (0, a_i2b a1)) (Nat.le_succ _) ti_193_1 rfl ?_
  refine a_w11b (lof := fun x1 => [some (2, a0), some (0, a1), some (0, a2), some (0, a3), some (0, x1), none]) (Nat.le_succ _) ti_193_2 (fun _ => rfl) (fun x1 => ?_)
  refine a_w0 (Nat.le_succ _) ti_193_4 rfl ?_
  refine a_w11 (lo' := [some (2, a0), some (0, a1), some (0, a2), some (0, a3), some (0, x1), some (0, a2)]) (Nat.le_succ _) ti_193_5 rfl ?_
  refine a_wk (a_wlp (fun (s : Int) => [some (2, a0), none, none, some (0, a3), some (0, x1), some (0, s)]) (fun (s : Int) => H) (fun N1 hN1 n7 hn7 s1 => ?_) a_fuel (a_fuel_le (by omega)) a2) (Nat.le_refl _) ⟨rfl, rfl, rfl, rfl, trivial⟩
  · refine a_w0 (Nat.le_refl _) ti_193_7 rfl ?_
    refine a_w0 (Nat.le_succ _) ti_193_9 rfl ?_
    refine a_w9_3 (Nat.le_succ _) ti_193_10 ?_ ?_
    · refine a_w2 (z := (-1)) (Nat.le_succ _) ti_193_31 (by decide) ?_
      exact a_w4 (Nat.le_succ _) ti_193_32 rfl rfl rfl
    · refine a_w0 (Nat.le_succ _) ti_193_13 rfl ?_
      refine a_w0 (Nat.le_succ _) ti_193_14 rfl ?_
      refine a_w30 (a := (0, a_tg a0 s1)) (Nat.le_succ _) ti_193_16 rfl ?_
      refine a_w0 (Nat.le_succ _) ti_193_17 rfl ?_
      refine a_w9_1 (Nat.le_succ _) ti_193_19 ?_ ?_
      · refine a_w13 (c' := 1) (lof := fun x2 => [some (2, a0), none, none, some (0, a3), some (0, x1), some (0, x2)]) (Nat.le_succ _) ti_193_25 rfl (by decide) rfl (fun _ => rfl) (fun x2 => ?_)
        refine a_w7 (Nat.le_succ _) ti_193_28 ?_
        exact a_wk (hn7 x2) (by omega) ⟨rfl, rfl, rfl, rfl, trivial⟩
      · refine a_w0 (Nat.le_succ _) ti_193_22 rfl ?_
        exact a_w4 (Nat.le_succ _) ti_193_24 rfl rfl rfl
/-- java/lang/StringLatin1.indexOf([BIII)I -/
noncomputable def fn_192 (a0 : Int) (a1 : Int) (a2 : Int) (a3 : Int) : Int :=
  (if (fn_191 a1) = 0 then (-1)
  else a_bd (a_max a2 0) fun x1 =>
  a_bd (a_min a3 (a_tl a0)) fun x2 =>
  (if x1 < x2 then fn_193 a0 a1 x1 x2
  else (-1)))
theorem ti_192_0 : (q_I 192).2 0 = some (0, 0, 0, 1, 0, 1, []) := rfl
theorem ti_192_1 : (q_I 192).2 1 = some (3, 1, 88, 191, 1, 4, [389, 99]) := rfl
theorem ti_192_4 : (q_I 192).2 4 = some (8, 1, 0, 9, 0, 7, []) := rfl
theorem ti_192_7 : (q_I 192).2 7 = some (2, 0, (-1), 0, 0, 8, []) := rfl
theorem ti_192_8 : (q_I 192).2 8 = some (4, 0, 0, 0, 0, 9, []) := rfl
theorem ti_192_9 : (q_I 192).2 9 = some (0, 0, 0, 2, 0, 10, []) := rfl
theorem ti_192_10 : (q_I 192).2 10 = some (2, 0, 0, 0, 0, 11, []) := rfl
theorem ti_192_11 : (q_I 192).2 11 = some (26, 20, 92, 0, 0, 14, [392]) := rfl
theorem ti_192_14 : (q_I 192).2 14 = some (11, 0, 0, 2, 0, 15, []) := rfl
theorem ti_192_15 : (q_I 192).2 15 = some (0, 0, 0, 3, 0, 16, []) := rfl
theorem ti_192_16 : (q_I 192).2 16 = some (0, 4, 0, 0, 2, 17, []) := rfl
theorem ti_192_17 : (q_I 192).2 17 = some (29, 10, 0, 0, 0, 18, []) := rfl
theorem ti_192_18 : (q_I 192).2 18 = some (26, 21, 38, 0, 0, 21, [395]) := rfl
theorem ti_192_21 : (q_I 192).2 21 = some (11, 0, 0, 3, 0, 22, []) := rfl
theorem ti_192_22 : (q_I 192).2 22 = some (0, 0, 0, 2, 0, 23, []) := rfl
theorem ti_192_23 : (q_I 192).2 23 = some (0, 0, 0, 3, 0, 24, []) := rfl
theorem ti_192_24 : (q_I 192).2 24 = some (9, 2, 0, 29, 0, 27, []) := rfl
theorem ti_192_27 : (q_I 192).2 27 = some (2, 0, (-1), 0, 0, 28, []) := rfl
theorem ti_192_28 : (q_I 192).2 28 = some (4, 0, 0, 0, 0, 29, []) := rfl
theorem ti_192_29 : (q_I 192).2 29 = some (0, 4, 0, 0, 2, 30, []) := rfl
theorem ti_192_30 : (q_I 192).2 30 = some (0, 0, 0, 1, 0, 31, []) := rfl
theorem ti_192_31 : (q_I 192).2 31 = some (0, 0, 0, 2, 0, 32, []) := rfl
theorem ti_192_32 : (q_I 192).2 32 = some (0, 0, 0, 3, 0, 33, []) := rfl
theorem ti_192_33 : (q_I 192).2 33 = some (3, 1, 95, 193, 4, 36, [398, 99]) := rfl
theorem ti_192_36 : (q_I 192).2 36 = some (4, 0, 0, 0, 0, 37, []) := rfl
theorem mt_192 (a0 : Int) (a1 : Int) (a2 : Int) (a3 : Int) (H : a_P) : a_mt (a_pp H) 0 192 [(2, a0), (0, a1), (0, a2), (0, a3)] H (fn_192 a0 a1 a2 a3) := by
  refine a_mtI (lo := [some (2, a0), some (0, a1), some (0, a2), some (0, a3)]) rfl fun d => ?_
  unfold fn_192
  refine a_w0 (Nat.le_succ _) ti_192_0 rfl ?_
  refine a_w3p (args := [(0, a1)]) (Nat.le_succ _) ti_192_1 (mt_191 a1 H) rfl rfl rfl rfl ?_
  refine a_w8_1 (Nat.le_succ _) ti_192_4 ?_ ?_
  · refine a_w0 (Nat.le_succ _) ti_192_9 rfl ?_
    refine a_w2 (z := 0) (Nat.le_succ _) ti_192_10 (by decide) ?_
    refine a_w26 (a := (0, a_max a2 0)) (Nat.le_succ _) ti_192_11 rfl ?_
    refine a_w11b (lof := fun x1 => [some (2, a0), some (0, a1), some (0, x1), some (0, a3)]) (Nat.le_succ _) ti_192_14 (fun _ => rfl) (fun x1 => ?_)
    refine a_w0 (Nat.le_succ _) ti_192_15 rfl ?_
    refine a_w0 (Nat.le_succ _) ti_192_16 rfl ?_
    refine a_w29 (a := (0, a_tl a0)) (Nat.le_succ _) ti_192_17 rfl ?_
    refine a_w26 (a := (0, a_min a3 (a_tl a0))) (Nat.le_succ _) ti_192_18 rfl ?_
    refine a_w11b (lof := fun x2 => [some (2, a0), some (0, a1), some (0, x1), some (0, x2)]) (Nat.le_succ _) ti_192_21 (fun _ => rfl) (fun x2 => ?_)
    refine a_w0 (Nat.le_succ _) ti_192_22 rfl ?_
    refine a_w0 (Nat.le_succ _) ti_192_23 rfl ?_
    refine a_w9_2 (Nat.le_succ _) ti_192_24 ?_ ?_
    · refine a_w0 (Nat.le_succ _) ti_192_29 rfl ?_
      refine a_w0 (Nat.le_succ _) ti_192_30 rfl ?_
      refine a_w0 (Nat.le_succ _) ti_192_31 rfl ?_
      refine a_w0 (Nat.le_succ _) ti_192_32 rfl ?_
      refine a_w3p (args := [(2, a0), (0, a1), (0, x1), (0, x2)]) (Nat.le_succ _) ti_192_33 (mt_193 a0 a1 x1 x2 H) rfl rfl rfl rfl ?_
      exact a_w4 (Nat.le_succ _) ti_192_36 rfl rfl rfl
    · refine a_w2 (z := (-1)) (Nat.le_succ _) ti_192_27 (by decide) ?_
      exact a_w4 (Nat.le_succ _) ti_192_28 rfl rfl rfl
  · refine a_w2 (z := (-1)) (Nat.le_succ _) ti_192_7 (by decide) ?_
    exact a_w4 (Nat.le_succ _) ti_192_8 rfl rfl rfl
/-- java/lang/String.indexOf(II)I -/
noncomputable def fn_187 (p : Int) (a1 : Int) (a2 : Int) : Int :=
  (if (fn_190 p) = 0 then 0
  else fn_192 (p + 1000) a1 a2 (fn_188 p))
theorem ti_187_0 : (q_I 187).2 0 = some (0, 4, 0, 0, 2, 1, []) := rfl
theorem ti_187_1 : (q_I 187).2 1 = some (3, 4, 492, 190, 1, 4, [372, 99]) := rfl
theorem ti_187_4 : (q_I 187).2 4 = some (8, 0, 0, 23, 0, 7, []) := rfl
theorem ti_187_7 : (q_I 187).2 7 = some (0, 4, 0, 0, 2, 8, []) := rfl
theorem ti_187_8 : (q_I 187).2 8 = some (28, 8, 9, 0, 0, 11, [1177]) := rfl
theorem ti_187_11 : (q_I 187).2 11 = some (0, 0, 0, 1, 0, 12, []) := rfl
theorem ti_187_12 : (q_I 187).2 12 = some (0, 0, 0, 2, 0, 13, []) := rfl
theorem ti_187_13 : (q_I 187).2 13 = some (0, 4, 0, 0, 2, 14, []) := rfl
theorem ti_187_14 : (q_I 187).2 14 = some (3, 4, 505, 188, 1, 17, [378, 99]) := rfl
theorem ti_187_17 : (q_I 187).2 17 = some (3, 1, 637, 192, 4, 20, [386, 99]) := rfl
theorem ti_187_20 : (q_I 187).2 20 = some (7, 0, 0, 36, 0, 23, []) := rfl
theorem ti_187_36 : (q_I 187).2 36 = some (4, 0, 0, 0, 0, 37, []) := rfl
theorem ti_187_23 : (q_I 187).2 23 = some (0, 4, 0, 0, 2, 24, []) := rfl
theorem ti_187_24 : (q_I 187).2 24 = some (28, 8, 9, 0, 0, 27, [1177]) := rfl
theorem ti_187_27 : (q_I 187).2 27 = some (0, 0, 0, 1, 0, 28, []) := rfl
theorem ti_187_28 : (q_I 187).2 28 = some (0, 0, 0, 2, 0, 29, []) := rfl
theorem ti_187_29 : (q_I 187).2 29 = some (0, 4, 0, 0, 2, 30, []) := rfl
theorem ti_187_30 : (q_I 187).2 30 = some (3, 4, 505, 188, 1, 33, [378, 99]) := rfl
theorem ti_187_33 : (q_I 187).2 33 = none := rfl
theorem mt_187 (p : Int) (a1 : Int) (a2 : Int) (H : a_P) : a_mt (a_pp H) 0 187 [(2, p), (0, a1), (0, a2)] H (fn_187 p a1 a2) := by
  refine a_mtI (lo := [some (2, p), some (0, a1), some (0, a2)]) rfl fun d => ?_
  unfold fn_187
  refine a_w0 (Nat.le_succ _) ti_187_0 rfl ?_
  refine a_w3p (args := [(2, p)]) (Nat.le_succ _) ti_187_1 (mt_190 p H) rfl rfl rfl rfl ?_
  refine a_w8_0 (Nat.le_succ _) ti_187_4 ?_ ?_
  · refine a_w0 (Nat.le_succ _) ti_187_23 rfl ?_
    refine a_w28 (a := (2, (p + 1000))) (Nat.le_succ _) ti_187_24 rfl ?_
    refine a_w0 (Nat.le_succ _) ti_187_27 rfl ?_
    refine a_w0 (Nat.le_succ _) ti_187_28 rfl ?_
    refine a_w0 (Nat.le_succ _) ti_187_29 rfl ?_
    refine a_w3p (args := [(2, p)]) (Nat.le_succ _) ti_187_30 (mt_188 p H) rfl rfl rfl rfl ?_
    exact a_wno ti_187_33
  · refine a_w0 (Nat.le_succ _) ti_187_7 rfl ?_
    refine a_w28 (a := (2, (p + 1000))) (Nat.le_succ _) ti_187_8 rfl ?_
    refine a_w0 (Nat.le_succ _) ti_187_11 rfl ?_
    refine a_w0 (Nat.le_succ _) ti_187_12 rfl ?_
    refine a_w0 (Nat.le_succ _) ti_187_13 rfl ?_
    refine a_w3p (args := [(2, p)]) (Nat.le_succ _) ti_187_14 (mt_188 p H) rfl rfl rfl rfl ?_
    refine a_w3p (args := [(2, (p + 1000)), (0, a1), (0, a2), (0, fn_188 p)]) (Nat.le_succ _) ti_187_17 (mt_192 (p + 1000) a1 a2 (fn_188 p) H) rfl rfl rfl rfl ?_
    refine a_w7 (Nat.le_succ _) ti_187_20 ?_
    exact a_w4 (Nat.le_succ _) ti_187_36 rfl rfl rfl
/-- java/lang/String.indexOf(I)I -/
noncomputable def fn_186 (p : Int) (a1 : Int) : Int :=
  fn_187 p a1 0
theorem ti_186_0 : (q_I 186).2 0 = some (0, 4, 0, 0, 2, 1, []) := rfl
theorem ti_186_1 : (q_I 186).2 1 = some (0, 0, 0, 1, 0, 2, []) := rfl
theorem ti_186_2 : (q_I 186).2 2 = some (2, 0, 0, 0, 0, 3, []) := rfl
theorem ti_186_3 : (q_I 186).2 3 = some (3, 4, 633, 187, 3, 6, [368, 99]) := rfl
theorem ti_186_6 : (q_I 186).2 6 = some (4, 0, 0, 0, 0, 7, []) := rfl
theorem mt_186 (p : Int) (a1 : Int) (H : a_P) : a_mt (a_pp H) 0 186 [(2, p), (0, a1)] H (fn_186 p a1) := by
  refine a_mtI (lo := [some (2, p), some (0, a1)]) rfl fun d => ?_
  unfold fn_186
  refine a_w0 (Nat.le_succ _) ti_186_0 rfl ?_
  refine a_w0 (Nat.le_succ _) ti_186_1 rfl ?_
  refine a_w2 (z := 0) (Nat.le_succ _) ti_186_2 (by decide) ?_
  refine a_w3p (args := [(2, p), (0, a1), (0, 0)]) (Nat.le_succ _) ti_186_3 (mt_187 p a1 0 H) rfl rfl rfl rfl ?_
  exact a_w4 (Nat.le_succ _) ti_186_6 rfl rfl rfl
/-- CarriedGate$Tape.readLetter(Ljava/lang/String;)I -/
noncomputable def fn_51 (a1 : Int) (H : a_P) : a_F :=
  (if (H 119 3) = 0 then a_bd (fn_48 H) fun g1 =>
  a_bd (fn_186 a1 g1.1) fun x1 =>
  (if x1 < 0 then a_bd (fn_47 (g1.2 119 2) g1.2) fun H2 =>
  (0, H2)
  else a_bd (a_up g1.2 119 2 (a_w ((g1.2 119 2) + 1))) fun H1 =>
  (x1, H1))
  else (0, H))
theorem ti_51_0 : (q_I 51).2 0 = some (0, 4, 0, 0, 2, 1, []) := rfl
theorem ti_51_1 : (q_I 51).2 1 = some (1, 0, 22, 4, 3, 4, [169]) := rfl
theorem ti_51_4 : (q_I 51).2 4 = some (8, 0, 0, 9, 0, 7, []) := rfl
theorem ti_51_7 : (q_I 51).2 7 = some (2, 0, 0, 0, 0, 8, []) := rfl
theorem ti_51_8 : (q_I 51).2 8 = some (4, 0, 0, 0, 0, 9, []) := rfl
theorem ti_51_9 : (q_I 51).2 9 = some (0, 4, 0, 1, 2, 10, []) := rfl
theorem ti_51_10 : (q_I 51).2 10 = some (0, 4, 0, 0, 2, 11, []) := rfl
theorem ti_51_11 : (q_I 51).2 11 = some (3, 0, 63, 48, 1, 14, [344, 4]) := rfl
theorem ti_51_14 : (q_I 51).2 14 = some (3, 4, 90, 186, 2, 17, [364, 99]) := rfl
theorem ti_51_17 : (q_I 51).2 17 = some (11, 0, 0, 2, 0, 18, []) := rfl
theorem ti_51_18 : (q_I 51).2 18 = some (0, 0, 0, 2, 0, 19, []) := rfl
theorem ti_51_19 : (q_I 51).2 19 = some (8, 3, 0, 32, 0, 22, []) := rfl
theorem ti_51_22 : (q_I 51).2 22 = some (0, 4, 0, 0, 2, 23, []) := rfl
theorem ti_51_23 : (q_I 51).2 23 = some (0, 4, 0, 0, 2, 24, []) := rfl
theorem ti_51_24 : (q_I 51).2 24 = some (1, 0, 19, 4, 2, 27, [168]) := rfl
theorem ti_51_27 : (q_I 51).2 27 = some (3, 0, 67, 47, 2, 30, [355, 4]) := rfl
theorem ti_51_30 : (q_I 51).2 30 = some (2, 0, 0, 0, 0, 31, []) := rfl
theorem ti_51_31 : (q_I 51).2 31 = some (4, 0, 0, 0, 0, 32, []) := rfl
theorem ti_51_32 : (q_I 51).2 32 = some (0, 4, 0, 0, 2, 33, []) := rfl
theorem ti_51_33 : (q_I 51).2 33 = some (16, 0, 0, 0, 0, 34, []) := rfl
theorem ti_51_34 : (q_I 51).2 34 = some (1, 0, 19, 4, 2, 37, [168]) := rfl
theorem ti_51_37 : (q_I 51).2 37 = some (2, 0, 1, 0, 0, 38, []) := rfl
theorem ti_51_38 : (q_I 51).2 38 = some (6, 0, 0, 0, 0, 39, []) := rfl
theorem ti_51_39 : (q_I 51).2 39 = some (10, 0, 19, 4, 2, 42, [168]) := rfl
theorem ti_51_42 : (q_I 51).2 42 = some (0, 0, 0, 2, 0, 43, []) := rfl
theorem ti_51_43 : (q_I 51).2 43 = some (4, 0, 0, 0, 0, 44, []) := rfl
theorem mt_51 (a1 : Int) (H : a_P) : a_mt id 0 51 [(2, 119), (2, a1)] H (fn_51 a1 H) := by
  refine a_mtI (lo := [some (2, 119), some (2, a1), none]) rfl fun d => ?_
  unfold fn_51
  refine a_w0 (Nat.le_succ _) ti_51_0 rfl ?_
  refine a_w1 (a := (0, H 119 3)) (Nat.le_succ _) ti_51_1 rfl ?_
  refine a_w8_0 (Nat.le_succ _) ti_51_4 ?_ ?_
  · refine a_w0 (Nat.le_succ _) ti_51_9 rfl ?_
    refine a_w0 (Nat.le_succ _) ti_51_10 rfl ?_
    refine a_w3i (args := [(2, 119)]) (Nat.le_succ _) ti_51_11 (mt_48 H) (fun _ => rfl) rfl rfl (fun g1 => ?_)
    refine a_w3p (args := [(2, a1), (0, g1.1)]) (Nat.le_succ _) ti_51_14 (mt_186 a1 g1.1 g1.2) rfl rfl rfl rfl ?_
    refine a_w11b (lof := fun x1 => [some (2, 119), some (2, a1), some (0, x1)]) (Nat.le_succ _) ti_51_17 (fun _ => rfl) (fun x1 => ?_)
    refine a_w0 (Nat.le_succ _) ti_51_18 rfl ?_
    refine a_w8_3 (Nat.le_succ _) ti_51_19 ?_ ?_
    · refine a_w0 (Nat.le_succ _) ti_51_32 rfl ?_
      refine a_w16 (Nat.le_succ _) ti_51_33 ?_
      refine a_w1 (a := (0, g1.2 119 2)) (Nat.le_succ _) ti_51_34 rfl ?_
      refine a_w2 (z := 1) (Nat.le_succ _) ti_51_37 (by decide) ?_
      refine a_w6 (a := (0, a_w ((g1.2 119 2) + 1))) (Nat.le_succ _) ti_51_38 rfl ?_
      refine a_w10 (Nat.le_succ _) ti_51_39 rfl rfl rfl (fun H1 => ?_)
      refine a_w0 (Nat.le_succ _) ti_51_42 rfl ?_
      exact a_w4 (Nat.le_succ _) ti_51_43 rfl rfl rfl
    · refine a_w0 (Nat.le_succ _) ti_51_22 rfl ?_
      refine a_w0 (Nat.le_succ _) ti_51_23 rfl ?_
      refine a_w1 (a := (0, g1.2 119 2)) (Nat.le_succ _) ti_51_24 rfl ?_
      refine a_w3v (args := [(2, 119), (0, g1.2 119 2)]) (Nat.le_succ _) ti_51_27 (mt_47 (g1.2 119 2) g1.2) rfl rfl (fun H2 => ?_)
      refine a_w2 (z := 0) (Nat.le_succ _) ti_51_30 (by decide) ?_
      exact a_w4 (Nat.le_succ _) ti_51_31 rfl rfl rfl
  · refine a_w2 (z := 0) (Nat.le_succ _) ti_51_7 (by decide) ?_
    exact a_w4 (Nat.le_succ _) ti_51_8 rfl rfl rfl
/-- CarriedGate$Tape.isDigit(C)Z -/
noncomputable def fn_53 (a0 : Int) : Int :=
  a_jn (fun (s1 : Int) => s1) fun j17 =>
  a_jn (fun (s2 : Unit) => j17 0) fun j16 =>
  (if a0 < 48 then j16 ()
  else (if 57 < a0 then j16 ()
  else j17 1))
theorem ti_53_0 : (q_I 53).2 0 = some (0, 0, 0, 0, 0, 1, []) := rfl
theorem ti_53_1 : (q_I 53).2 1 = some (2, 1, 48, 0, 0, 3, []) := rfl
theorem ti_53_3 : (q_I 53).2 3 = some (9, 2, 0, 16, 0, 6, []) := rfl
theorem ti_53_6 : (q_I 53).2 6 = some (0, 0, 0, 0, 0, 7, []) := rfl
theorem ti_53_7 : (q_I 53).2 7 = some (2, 1, 57, 0, 0, 9, []) := rfl
theorem ti_53_9 : (q_I 53).2 9 = some (9, 4, 0, 16, 0, 12, []) := rfl
theorem ti_53_12 : (q_I 53).2 12 = some (2, 0, 1, 0, 0, 13, []) := rfl
theorem ti_53_13 : (q_I 53).2 13 = some (7, 0, 0, 17, 0, 16, []) := rfl
theorem ti_53_16 : (q_I 53).2 16 = some (2, 0, 0, 0, 0, 17, []) := rfl
theorem ti_53_17 : (q_I 53).2 17 = some (4, 3, 0, 0, 0, 18, []) := rfl
theorem mt_53 (a0 : Int) (H : a_P) : a_mt (a_pp H) 0 53 [(0, a0)] H (fn_53 a0) := by
  refine a_mtI (lo := [some (0, a0)]) rfl fun d => ?_
  unfold fn_53
  refine a_w0 (Nat.le_succ _) ti_53_0 rfl ?_
  refine a_w2 (z := 48) (Nat.le_succ _) ti_53_1 (by decide) ?_
  refine a_wjn 17 (fun (s : Int) => [none]) (fun (s : Int) => [(0, s)]) (fun (s : Int) => H) (fun s1 => ?_) (fun j17 hj17 => ?_)
  · exact a_w4 (Nat.le_succ _) ti_53_17 rfl rfl rfl
  · refine a_wjn 16 (fun (s : Unit) => [none]) (fun (s : Unit) => []) (fun (s : Unit) => H) (fun s2 => ?_) (fun j16 hj16 => ?_)
    · refine a_w2 (z := 0) (Nat.le_succ _) ti_53_16 (by decide) ?_
      exact a_wk (hj17 0) (by omega) trivial
    · refine a_w9_2 (Nat.le_succ _) ti_53_3 ?_ ?_
      · exact a_wk (hj16 ()) (by omega) trivial
      · refine a_w0 (Nat.le_succ _) ti_53_6 rfl ?_
        refine a_w2 (z := 57) (Nat.le_succ _) ti_53_7 (by decide) ?_
        refine a_w9_4 (Nat.le_succ _) ti_53_9 ?_ ?_
        · exact a_wk (hj16 ()) (by omega) trivial
        · refine a_w2 (z := 1) (Nat.le_succ _) ti_53_12 (by decide) ?_
          refine a_w7 (Nat.le_succ _) ti_53_13 ?_
          exact a_wk (hj17 1) (by omega) trivial
/-- CarriedGate$Tape.readNumber(I)I -/
noncomputable def fn_52 (a1 : Int) (H : a_P) : a_F :=
  (if (H 119 3) = 0 then a_bd (fn_48 H) fun g1 =>
  (if (fn_53 g1.1) = 0 then a_bd (fn_47 (g1.2 119 2) g1.2) fun H4 =>
  (0, H4)
  else a_bd (g1.2 119 2) fun x1 =>
  a_bd (a_w ((fn_49 (g1.2 119 2) g1.2) - 48)) fun x2 =>
  a_bd (a_up g1.2 119 2 (a_w ((g1.2 119 2) + 1))) fun H1 =>
  a_jn (fun (s1 : Int × a_P) => a_jn (fun (s2 : a_P) => (s1.1, s2)) fun j107 =>
  (if a1 < s1.1 then a_bd (fn_47 x1 s1.2) fun H2 =>
  j107 H2
  else j107 s1.2)) fun j97 =>
  (if (fn_53 (fn_49 (H1 119 2) H1)) = 0 then j97 (x2, H1)
  else a_bd (a_w ((a_w ((a_w (10 * x2)) + (fn_49 (H1 119 2) H1))) - 48)) fun x3 =>
  a_bd (a_up H1 119 2 (a_w ((H1 119 2) + 1))) fun H3 =>
  j97 (x3, H3)))
  else (0, H))
theorem ti_52_0 : (q_I 52).2 0 = some (0, 4, 0, 0, 2, 1, []) := rfl
theorem ti_52_1 : (q_I 52).2 1 = some (1, 0, 22, 4, 3, 4, [169]) := rfl
theorem ti_52_4 : (q_I 52).2 4 = some (8, 0, 0, 9, 0, 7, []) := rfl
theorem ti_52_7 : (q_I 52).2 7 = some (2, 0, 0, 0, 0, 8, []) := rfl
theorem ti_52_8 : (q_I 52).2 8 = some (4, 0, 0, 0, 0, 9, []) := rfl
theorem ti_52_9 : (q_I 52).2 9 = some (0, 4, 0, 0, 2, 10, []) := rfl
theorem ti_52_10 : (q_I 52).2 10 = some (3, 0, 63, 48, 1, 13, [344, 4]) := rfl
theorem ti_52_13 : (q_I 52).2 13 = some (3, 1, 95, 53, 1, 16, [352, 4]) := rfl
theorem ti_52_16 : (q_I 52).2 16 = some (8, 1, 0, 29, 0, 19, []) := rfl
theorem ti_52_19 : (q_I 52).2 19 = some (0, 4, 0, 0, 2, 20, []) := rfl
theorem ti_52_20 : (q_I 52).2 20 = some (0, 4, 0, 0, 2, 21, []) := rfl
theorem ti_52_21 : (q_I 52).2 21 = some (1, 0, 19, 4, 2, 24, [168]) := rfl
theorem ti_52_24 : (q_I 52).2 24 = some (3, 0, 67, 47, 2, 27, [355, 4]) := rfl
theorem ti_52_27 : (q_I 52).2 27 = some (2, 0, 0, 0, 0, 28, []) := rfl
theorem ti_52_28 : (q_I 52).2 28 = some (4, 0, 0, 0, 0, 29, []) := rfl
theorem ti_52_29 : (q_I 52).2 29 = some (0, 4, 0, 0, 2, 30, []) := rfl
theorem ti_52_30 : (q_I 52).2 30 = some (1, 0, 19, 4, 2, 33, [168]) := rfl
theorem ti_52_33 : (q_I 52).2 33 = some (11, 0, 0, 2, 0, 34, []) := rfl
theorem ti_52_34 : (q_I 52).2 34 = some (0, 4, 0, 0, 2, 35, []) := rfl
theorem ti_52_35 : (q_I 52).2 35 = some (0, 4, 0, 0, 2, 36, []) := rfl
theorem ti_52_36 : (q_I 52).2 36 = some (1, 0, 19, 4, 2, 39, [168]) := rfl
theorem ti_52_39 : (q_I 52).2 39 = some (3, 0, 86, 49, 2, 42, [348, 4]) := rfl
theorem ti_52_42 : (q_I 52).2 42 = some (2, 1, 48, 0, 0, 44, []) := rfl
theorem ti_52_44 : (q_I 52).2 44 = some (6, 1, 0, 0, 0, 45, []) := rfl
theorem ti_52_45 : (q_I 52).2 45 = some (11, 0, 0, 3, 0, 46, []) := rfl
theorem ti_52_46 : (q_I 52).2 46 = some (0, 4, 0, 0, 2, 47, []) := rfl
theorem ti_52_47 : (q_I 52).2 47 = some (16, 0, 0, 0, 0, 48, []) := rfl
theorem ti_52_48 : (q_I 52).2 48 = some (1, 0, 19, 4, 2, 51, [168]) := rfl
theorem ti_52_51 : (q_I 52).2 51 = some (2, 0, 1, 0, 0, 52, []) := rfl
theorem ti_52_52 : (q_I 52).2 52 = some (6, 0, 0, 0, 0, 53, []) := rfl
theorem ti_52_53 : (q_I 52).2 53 = some (10, 0, 19, 4, 2, 56, [168]) := rfl
theorem ti_52_56 : (q_I 52).2 56 = some (0, 4, 0, 0, 2, 57, []) := rfl
theorem ti_52_57 : (q_I 52).2 57 = some (0, 4, 0, 0, 2, 58, []) := rfl
theorem ti_52_58 : (q_I 52).2 58 = some (1, 0, 19, 4, 2, 61, [168]) := rfl
theorem ti_52_61 : (q_I 52).2 61 = some (3, 0, 86, 49, 2, 64, [348, 4]) := rfl
theorem ti_52_64 : (q_I 52).2 64 = some (3, 1, 95, 53, 1, 67, [352, 4]) := rfl
theorem ti_52_67 : (q_I 52).2 67 = some (8, 0, 0, 97, 0, 70, []) := rfl
theorem ti_52_70 : (q_I 52).2 70 = some (2, 1, 10, 0, 0, 72, []) := rfl
theorem ti_52_72 : (q_I 52).2 72 = some (0, 0, 0, 3, 0, 73, []) := rfl
theorem ti_52_73 : (q_I 52).2 73 = some (6, 2, 0, 0, 0, 74, []) := rfl
theorem ti_52_74 : (q_I 52).2 74 = some (0, 4, 0, 0, 2, 75, []) := rfl
theorem ti_52_75 : (q_I 52).2 75 = some (0, 4, 0, 0, 2, 76, []) := rfl
theorem ti_52_76 : (q_I 52).2 76 = some (1, 0, 19, 4, 2, 79, [168]) := rfl
theorem ti_52_79 : (q_I 52).2 79 = some (3, 0, 86, 49, 2, 82, [348, 4]) := rfl
theorem ti_52_82 : (q_I 52).2 82 = some (6, 0, 0, 0, 0, 83, []) := rfl
theorem ti_52_83 : (q_I 52).2 83 = some (2, 1, 48, 0, 0, 85, []) := rfl
theorem ti_52_85 : (q_I 52).2 85 = some (6, 1, 0, 0, 0, 86, []) := rfl
theorem ti_52_86 : (q_I 52).2 86 = some (11, 0, 0, 3, 0, 87, []) := rfl
theorem ti_52_87 : (q_I 52).2 87 = some (0, 4, 0, 0, 2, 88, []) := rfl
theorem ti_52_88 : (q_I 52).2 88 = some (16, 0, 0, 0, 0, 89, []) := rfl
theorem ti_52_89 : (q_I 52).2 89 = some (1, 0, 19, 4, 2, 92, [168]) := rfl
theorem ti_52_92 : (q_I 52).2 92 = some (2, 0, 1, 0, 0, 93, []) := rfl
theorem ti_52_93 : (q_I 52).2 93 = some (6, 0, 0, 0, 0, 94, []) := rfl
theorem ti_52_94 : (q_I 52).2 94 = some (10, 0, 19, 4, 2, 97, [168]) := rfl
theorem ti_52_97 : (q_I 52).2 97 = some (0, 0, 0, 3, 0, 98, []) := rfl
theorem ti_52_98 : (q_I 52).2 98 = some (0, 0, 0, 1, 0, 99, []) := rfl
theorem ti_52_99 : (q_I 52).2 99 = some (9, 5, 0, 107, 0, 102, []) := rfl
theorem ti_52_102 : (q_I 52).2 102 = some (0, 4, 0, 0, 2, 103, []) := rfl
theorem ti_52_103 : (q_I 52).2 103 = some (0, 0, 0, 2, 0, 104, []) := rfl
theorem ti_52_104 : (q_I 52).2 104 = some (3, 0, 67, 47, 2, 107, [355, 4]) := rfl
theorem ti_52_107 : (q_I 52).2 107 = some (0, 0, 0, 3, 0, 108, []) := rfl
theorem ti_52_108 : (q_I 52).2 108 = some (4, 0, 0, 0, 0, 109, []) := rfl
theorem mt_52 (a1 : Int) (H : a_P) : a_mt id 0 52 [(2, 119), (0, a1)] H (fn_52 a1 H) := by
  refine a_mtI (lo := [some (2, 119), some (0, a1), none, none]) rfl fun d => ?_
  unfold fn_52
  refine a_w0 (Nat.le_succ _) ti_52_0 rfl ?_
  refine a_w1 (a := (0, H 119 3)) (Nat.le_succ _) ti_52_1 rfl ?_
  refine a_w8_0 (Nat.le_succ _) ti_52_4 ?_ ?_
  · refine a_w0 (Nat.le_succ _) ti_52_9 rfl ?_
    refine a_w3i (args := [(2, 119)]) (Nat.le_succ _) ti_52_10 (mt_48 H) (fun _ => rfl) rfl rfl (fun g1 => ?_)
    refine a_w3p (args := [(0, g1.1)]) (Nat.le_succ _) ti_52_13 (mt_53 g1.1 g1.2) rfl rfl rfl rfl ?_
    refine a_w8_1 (Nat.le_succ _) ti_52_16 ?_ ?_
    · refine a_w0 (Nat.le_succ _) ti_52_29 rfl ?_
      refine a_w1 (a := (0, g1.2 119 2)) (Nat.le_succ _) ti_52_30 rfl ?_
      refine a_w11b (lof := fun x1 => [some (2, 119), some (0, a1), some (0, x1), none]) (Nat.le_succ _) ti_52_33 (fun _ => rfl) (fun x1 => ?_)
      refine a_w0 (Nat.le_succ _) ti_52_34 rfl ?_
      refine a_w0 (Nat.le_succ _) ti_52_35 rfl ?_
      refine a_w1 (a := (0, g1.2 119 2)) (Nat.le_succ _) ti_52_36 rfl ?_
      refine a_w3p (args := [(2, 119), (0, g1.2 119 2)]) (Nat.le_succ _) ti_52_39 (mt_49 (g1.2 119 2) g1.2) rfl rfl rfl rfl ?_
      refine a_w2 (z := 48) (Nat.le_succ _) ti_52_42 (by decide) ?_
      refine a_w6 (a := (0, a_w ((fn_49 (g1.2 119 2) g1.2) - 48))) (Nat.le_succ _) ti_52_44 rfl ?_
      refine a_w11b (lof := fun x2 => [some (2, 119), some (0, a1), some (0, x1), some (0, x2)]) (Nat.le_succ _) ti_52_45 (fun _ => rfl) (fun x2 => ?_)
      refine a_w0 (Nat.le_succ _) ti_52_46 rfl ?_
      refine a_w16 (Nat.le_succ _) ti_52_47 ?_
      refine a_w1 (a := (0, g1.2 119 2)) (Nat.le_succ _) ti_52_48 rfl ?_
      refine a_w2 (z := 1) (Nat.le_succ _) ti_52_51 (by decide) ?_
      refine a_w6 (a := (0, a_w ((g1.2 119 2) + 1))) (Nat.le_succ _) ti_52_52 rfl ?_
      refine a_w10 (Nat.le_succ _) ti_52_53 rfl rfl rfl (fun H1 => ?_)
      refine a_w0 (Nat.le_succ _) ti_52_56 rfl ?_
      refine a_w0 (Nat.le_succ _) ti_52_57 rfl ?_
      refine a_w1 (a := (0, H1 119 2)) (Nat.le_succ _) ti_52_58 rfl ?_
      refine a_w3p (args := [(2, 119), (0, H1 119 2)]) (Nat.le_succ _) ti_52_61 (mt_49 (H1 119 2) H1) rfl rfl rfl rfl ?_
      refine a_w3p (args := [(0, fn_49 (H1 119 2) H1)]) (Nat.le_succ _) ti_52_64 (mt_53 (fn_49 (H1 119 2) H1) H1) rfl rfl rfl rfl ?_
      refine a_wjn 97 (fun (s : Int × a_P) => [some (2, 119), some (0, a1), some (0, x1), some (0, s.1)]) (fun (s : Int × a_P) => []) (fun (s : Int × a_P) => s.2) (fun s1 => ?_) (fun j97 hj97 => ?_)
      · refine a_w0 (Nat.le_succ _) ti_52_97 rfl ?_
        refine a_w0 (Nat.le_succ _) ti_52_98 rfl ?_
        refine a_wjn 107 (fun (s : a_P) => [none, none, none, some (0, s1.1)]) (fun (s : a_P) => []) (fun (s : a_P) => s) (fun s2 => ?_) (fun j107 hj107 => ?_)
        · refine a_w0 (Nat.le_succ _) ti_52_107 rfl ?_
          exact a_w4 (Nat.le_succ _) ti_52_108 rfl rfl rfl
        · refine a_w9_5 (Nat.le_succ _) ti_52_99 ?_ ?_
          · exact a_wk (hj107 s1.2) (by omega) ⟨rfl, trivial⟩
          · refine a_w0 (Nat.le_succ _) ti_52_102 rfl ?_
            refine a_w0 (Nat.le_succ _) ti_52_103 rfl ?_
            refine a_w3v (args := [(2, 119), (0, x1)]) (Nat.le_succ _) ti_52_104 (mt_47 x1 s1.2) rfl rfl (fun H2 => ?_)
            exact a_wk (hj107 H2) (by omega) ⟨rfl, trivial⟩
      · refine a_w8_0 (Nat.le_succ _) ti_52_67 ?_ ?_
        · exact a_wk (hj97 (x2, H1)) (by omega) ⟨rfl, rfl, rfl, rfl, trivial⟩
        · refine a_w2 (z := 10) (Nat.le_succ _) ti_52_70 (by decide) ?_
          refine a_w0 (Nat.le_succ _) ti_52_72 rfl ?_
          refine a_w6 (a := (0, a_w (10 * x2))) (Nat.le_succ _) ti_52_73 rfl ?_
          refine a_w0 (Nat.le_succ _) ti_52_74 rfl ?_
          refine a_w0 (Nat.le_succ _) ti_52_75 rfl ?_
          refine a_w1 (a := (0, H1 119 2)) (Nat.le_succ _) ti_52_76 rfl ?_
          refine a_w3p (args := [(2, 119), (0, H1 119 2)]) (Nat.le_succ _) ti_52_79 (mt_49 (H1 119 2) H1) rfl rfl rfl rfl ?_
          refine a_w6 (a := (0, a_w ((a_w (10 * x2)) + (fn_49 (H1 119 2) H1)))) (Nat.le_succ _) ti_52_82 rfl ?_
          refine a_w2 (z := 48) (Nat.le_succ _) ti_52_83 (by decide) ?_
          refine a_w6 (a := (0, a_w ((a_w ((a_w (10 * x2)) + (fn_49 (H1 119 2) H1))) - 48))) (Nat.le_succ _) ti_52_85 rfl ?_
          refine a_w11b (lof := fun x3 => [some (2, 119), some (0, a1), some (0, x1), some (0, x3)]) (Nat.le_succ _) ti_52_86 (fun _ => rfl) (fun x3 => ?_)
          refine a_w0 (Nat.le_succ _) ti_52_87 rfl ?_
          refine a_w16 (Nat.le_succ _) ti_52_88 ?_
          refine a_w1 (a := (0, H1 119 2)) (Nat.le_succ _) ti_52_89 rfl ?_
          refine a_w2 (z := 1) (Nat.le_succ _) ti_52_92 (by decide) ?_
          refine a_w6 (a := (0, a_w ((H1 119 2) + 1))) (Nat.le_succ _) ti_52_93 rfl ?_
          refine a_w10 (Nat.le_succ _) ti_52_94 rfl rfl rfl (fun H3 => ?_)
          exact a_wk (hj97 (x3, H3)) (by omega) ⟨rfl, rfl, rfl, rfl, trivial⟩
    · refine a_w0 (Nat.le_succ _) ti_52_19 rfl ?_
      refine a_w0 (Nat.le_succ _) ti_52_20 rfl ?_
      refine a_w1 (a := (0, g1.2 119 2)) (Nat.le_succ _) ti_52_21 rfl ?_
      refine a_w3v (args := [(2, 119), (0, g1.2 119 2)]) (Nat.le_succ _) ti_52_24 (mt_47 (g1.2 119 2) g1.2) rfl rfl (fun H4 => ?_)
      refine a_w2 (z := 0) (Nat.le_succ _) ti_52_27 (by decide) ?_
      exact a_w4 (Nat.le_succ _) ti_52_28 rfl rfl rfl
  · refine a_w2 (z := 0) (Nat.le_succ _) ti_52_7 (by decide) ?_
    exact a_w4 (Nat.le_succ _) ti_52_8 rfl rfl rfl

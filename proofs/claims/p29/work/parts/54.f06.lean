/-- CarriedGate.duel(I)I -/
noncomputable def fn_79 (a1 : Int) (H : a_P) : a_F :=
  (if (fn_91 a1 6) = 0 then ((-1), H)
  else (if (fn_14 1 H) = 0 then (0, H)
  else a_bd (fn_96 H) fun H1 =>
  a_bd (a_w (a1 - 1)) fun x1 =>
  a_jn (fun (s1 : a_P) => a_jn (fun (s2 : Int) => (s2, s1)) fun j86 =>
  (if (fn_91 (s1 1 1) 4) = 0 then j86 0
  else j86 (s1 123 (s1 1 1)))) fun j56 =>
  a_lp (fun (s3 : Int × a_P) => (0, s3.2)) (fun (s3 : Int × a_P) n31 => (if s3.1 < 0 then j56 s3.2
  else a_jn (fun (s4 : Int) => a_bd (fn_97 s4 s3.2) fun H2 =>
  a_bd (a_w (s3.1 + (-1))) fun x2 =>
  n31 (x2, H2)) fun j47 =>
  (if (a_rem s3.1 2) = 0 then j47 1
  else j47 0))) a_fuel (x1, H1)))
theorem ti_79_0 : (q_I 79).2 0 = some (0, 0, 0, 1, 0, 1, []) := rfl
theorem ti_79_1 : (q_I 79).2 1 = some (2, 1, 6, 0, 0, 3, []) := rfl
theorem ti_79_3 : (q_I 79).2 3 = some (3, 1, 64, 91, 2, 6, [269, 5]) := rfl
theorem ti_79_6 : (q_I 79).2 6 = some (8, 1, 0, 11, 0, 9, []) := rfl
theorem ti_79_9 : (q_I 79).2 9 = some (2, 0, (-1), 0, 0, 10, []) := rfl
theorem ti_79_10 : (q_I 79).2 10 = some (4, 0, 0, 0, 0, 11, []) := rfl
theorem ti_79_11 : (q_I 79).2 11 = some (0, 4, 0, 0, 2, 12, []) := rfl
theorem ti_79_12 : (q_I 79).2 12 = some (1, 0, 10, 5, 0, 15, [231]) := rfl
theorem ti_79_15 : (q_I 79).2 15 = some (3, 0, 171, 14, 1, 18, [553, 2]) := rfl
theorem ti_79_18 : (q_I 79).2 18 = some (8, 1, 0, 23, 0, 21, []) := rfl
theorem ti_79_21 : (q_I 79).2 21 = some (2, 0, 0, 0, 0, 22, []) := rfl
theorem ti_79_22 : (q_I 79).2 22 = some (4, 0, 0, 0, 0, 23, []) := rfl
theorem ti_79_23 : (q_I 79).2 23 = some (0, 4, 0, 0, 2, 24, []) := rfl
theorem ti_79_24 : (q_I 79).2 24 = some (3, 0, 213, 96, 1, 27, [662, 5]) := rfl
theorem ti_79_27 : (q_I 79).2 27 = some (0, 0, 0, 1, 0, 28, []) := rfl
theorem ti_79_28 : (q_I 79).2 28 = some (2, 0, 1, 0, 0, 29, []) := rfl
theorem ti_79_29 : (q_I 79).2 29 = some (6, 1, 0, 0, 0, 30, []) := rfl
theorem ti_79_30 : (q_I 79).2 30 = some (11, 0, 0, 2, 0, 31, []) := rfl
theorem ti_79_31 : (q_I 79).2 31 = some (0, 0, 0, 2, 0, 32, []) := rfl
theorem ti_79_32 : (q_I 79).2 32 = some (8, 2, 0, 56, 0, 35, []) := rfl
theorem ti_79_35 : (q_I 79).2 35 = some (0, 4, 0, 0, 2, 36, []) := rfl
theorem ti_79_36 : (q_I 79).2 36 = some (0, 0, 0, 2, 0, 37, []) := rfl
theorem ti_79_37 : (q_I 79).2 37 = some (2, 0, 2, 0, 0, 38, []) := rfl
theorem ti_79_38 : (q_I 79).2 38 = some (6, 4, 0, 0, 0, 39, []) := rfl
theorem ti_79_39 : (q_I 79).2 39 = some (8, 1, 0, 46, 0, 42, []) := rfl
theorem ti_79_42 : (q_I 79).2 42 = some (2, 0, 1, 0, 0, 43, []) := rfl
theorem ti_79_43 : (q_I 79).2 43 = some (7, 0, 0, 47, 0, 46, []) := rfl
theorem ti_79_46 : (q_I 79).2 46 = some (2, 0, 0, 0, 0, 47, []) := rfl
theorem ti_79_47 : (q_I 79).2 47 = some (3, 0, 216, 97, 2, 50, [666, 5]) := rfl
theorem ti_79_50 : (q_I 79).2 50 = some (13, 0, (-1), 2, 0, 53, []) := rfl
theorem ti_79_53 : (q_I 79).2 53 = some (7, 0, 0, 31, 0, 56, []) := rfl
theorem ti_79_56 : (q_I 79).2 56 = some (0, 4, 0, 0, 2, 57, []) := rfl
theorem ti_79_57 : (q_I 79).2 57 = some (1, 0, 10, 5, 0, 60, [231]) := rfl
theorem ti_79_60 : (q_I 79).2 60 = some (1, 0, 133, 2, 1, 63, [88]) := rfl
theorem ti_79_63 : (q_I 79).2 63 = some (2, 0, 4, 0, 0, 64, []) := rfl
theorem ti_79_64 : (q_I 79).2 64 = some (3, 1, 64, 91, 2, 67, [269, 5]) := rfl
theorem ti_79_67 : (q_I 79).2 67 = some (8, 0, 0, 85, 0, 70, []) := rfl
theorem ti_79_70 : (q_I 79).2 70 = some (0, 4, 0, 0, 2, 71, []) := rfl
theorem ti_79_71 : (q_I 79).2 71 = some (1, 0, 56, 5, 9, 74, [240]) := rfl
theorem ti_79_74 : (q_I 79).2 74 = some (0, 4, 0, 0, 2, 75, []) := rfl
theorem ti_79_75 : (q_I 79).2 75 = some (1, 0, 10, 5, 0, 78, [231]) := rfl
theorem ti_79_78 : (q_I 79).2 78 = some (1, 0, 133, 2, 1, 81, [88]) := rfl
theorem ti_79_81 : (q_I 79).2 81 = some (5, 10, 0, 0, 0, 82, []) := rfl
theorem ti_79_82 : (q_I 79).2 82 = some (7, 0, 0, 86, 0, 85, []) := rfl
theorem ti_79_85 : (q_I 79).2 85 = some (2, 0, 0, 0, 0, 86, []) := rfl
theorem ti_79_86 : (q_I 79).2 86 = some (4, 0, 0, 0, 0, 87, []) := rfl
theorem mt_79 (a1 : Int) (H : a_P) : a_mt id 0 79 [(2, 0), (0, a1)] H (fn_79 a1 H) := by
  refine a_mtI (lo := [some (2, 0), some (0, a1), none]) rfl fun d => ?_
  unfold fn_79
  refine a_w0 (Nat.le_succ _) ti_79_0 rfl ?_
  refine a_w2 (z := 6) (Nat.le_succ _) ti_79_1 (by decide) ?_
  refine a_w3p (args := [(0, a1), (0, 6)]) (Nat.le_succ _) ti_79_3 (mt_91 a1 6 H) rfl rfl rfl rfl ?_
  refine a_w8_1 (Nat.le_succ _) ti_79_6 ?_ ?_
  · refine a_w0 (Nat.le_succ _) ti_79_11 rfl ?_
    refine a_w1 (a := (2, 1)) (Nat.le_succ _) ti_79_12 rfl ?_
    refine a_w3p (args := [(2, 1)]) (Nat.le_succ _) ti_79_15 (mt_14 1 H) rfl rfl rfl rfl ?_
    refine a_w8_1 (Nat.le_succ _) ti_79_18 ?_ ?_
    · refine a_w0 (Nat.le_succ _) ti_79_23 rfl ?_
      refine a_w3v (args := [(2, 0)]) (Nat.le_succ _) ti_79_24 (mt_96 H) rfl rfl (fun H1 => ?_)
      refine a_w0 (Nat.le_succ _) ti_79_27 rfl ?_
      refine a_w2 (z := 1) (Nat.le_succ _) ti_79_28 (by decide) ?_
      refine a_w6 (a := (0, a_w (a1 - 1))) (Nat.le_succ _) ti_79_29 rfl ?_
      refine a_w11b (lof := fun x1 => [some (2, 0), some (0, a1), some (0, x1)]) (Nat.le_succ _) ti_79_30 (fun _ => rfl) (fun x1 => ?_)
      refine a_wjn 56 (fun (s : a_P) => [some (2, 0), none, none]) (fun (s : a_P) => []) (fun (s : a_P) => s) (fun s1 => ?_) (fun j56 hj56 => ?_)
      · refine a_w0 (Nat.le_succ _) ti_79_56 rfl ?_
        refine a_w1 (a := (2, 1)) (Nat.le_succ _) ti_79_57 rfl ?_
        refine a_w1 (a := (0, s1 1 1)) (Nat.le_succ _) ti_79_60 rfl ?_
        refine a_w2 (z := 4) (Nat.le_succ _) ti_79_63 (by decide) ?_
        refine a_w3p (args := [(0, s1 1 1), (0, 4)]) (Nat.le_succ _) ti_79_64 (mt_91 (s1 1 1) 4 s1) rfl rfl rfl rfl ?_
        refine a_wjn 86 (fun (s : Int) => [none, none, none]) (fun (s : Int) => [(0, s)]) (fun (s : Int) => s1) (fun s2 => ?_) (fun j86 hj86 => ?_)
        · exact a_w4 (Nat.le_succ _) ti_79_86 rfl rfl rfl
        · refine a_w8_0 (Nat.le_succ _) ti_79_67 ?_ ?_
          · refine a_w2 (z := 0) (Nat.le_succ _) ti_79_85 (by decide) ?_
            exact a_wk (hj86 0) (by omega) trivial
          · refine a_w0 (Nat.le_succ _) ti_79_70 rfl ?_
            refine a_w1 (a := (2, 123)) (Nat.le_succ _) ti_79_71 rfl ?_
            refine a_w0 (Nat.le_succ _) ti_79_74 rfl ?_
            refine a_w1 (a := (2, 1)) (Nat.le_succ _) ti_79_75 rfl ?_
            refine a_w1 (a := (0, s1 1 1)) (Nat.le_succ _) ti_79_78 rfl ?_
            refine a_w5 (kk := 0) (Nat.le_succ _) ti_79_81 (fun _ => rfl) ?_
            refine a_w7 (Nat.le_succ _) ti_79_82 ?_
            exact a_wk (hj86 (s1 123 (s1 1 1))) (by omega) trivial
      · refine a_wk (a_wlp (fun (s : Int × a_P) => [some (2, 0), none, some (0, s.1)]) (fun (s : Int × a_P) => s.2) (fun N1 hN1 n31 hn31 s3 => ?_) a_fuel (a_fuel_le (by omega)) (x1, H1)) (Nat.le_refl _) ⟨rfl, rfl, trivial⟩
        · refine a_w0 (Nat.le_refl _) ti_79_31 rfl ?_
          refine a_w8_2 (Nat.le_succ _) ti_79_32 ?_ ?_
          · exact a_wk (hj56 s3.2) (by omega) ⟨rfl, trivial⟩
          · refine a_w0 (Nat.le_succ _) ti_79_35 rfl ?_
            refine a_w0 (Nat.le_succ _) ti_79_36 rfl ?_
            refine a_w2 (z := 2) (Nat.le_succ _) ti_79_37 (by decide) ?_
            refine a_w6 (a := (0, a_rem s3.1 2)) (Nat.le_succ _) ti_79_38 rfl ?_
            refine a_wjn 47 (fun (s : Int) => [some (2, 0), none, some (0, s3.1)]) (fun (s : Int) => [(0, s), (2, 0)]) (fun (s : Int) => s3.2) (fun s4 => ?_) (fun j47 hj47 => ?_)
            · refine a_w3v (args := [(2, 0), (0, s4)]) (Nat.le_succ _) ti_79_47 (mt_97 s4 s3.2) rfl rfl (fun H2 => ?_)
              refine a_w13 (c' := (-1)) (lof := fun x2 => [some (2, 0), none, some (0, x2)]) (Nat.le_succ _) ti_79_50 rfl (by decide) rfl (fun _ => rfl) (fun x2 => ?_)
              refine a_w7 (Nat.le_succ _) ti_79_53 ?_
              exact a_wk (hn31 (x2, H2)) (by omega) ⟨rfl, rfl, trivial⟩
            · refine a_w8_1 (Nat.le_succ _) ti_79_39 ?_ ?_
              · refine a_w2 (z := 0) (Nat.le_succ _) ti_79_46 (by decide) ?_
                exact a_wk (hj47 0) (by omega) ⟨rfl, rfl, trivial⟩
              · refine a_w2 (z := 1) (Nat.le_succ _) ti_79_42 (by decide) ?_
                refine a_w7 (Nat.le_succ _) ti_79_43 ?_
                exact a_wk (hj47 1) (by omega) ⟨rfl, rfl, trivial⟩
    · refine a_w2 (z := 0) (Nat.le_succ _) ti_79_21 (by decide) ?_
      exact a_w4 (Nat.le_succ _) ti_79_22 rfl rfl rfl
  · refine a_w2 (z := (-1)) (Nat.le_succ _) ti_79_9 (by decide) ?_
    exact a_w4 (Nat.le_succ _) ti_79_10 rfl rfl rfl
/-- CarriedGate.stood(II)I -/
noncomputable def fn_80 (a1 : Int) (a2 : Int) (H : a_P) : a_F :=
  a_jn (fun (s1 : Unit) => ((-1), H)) fun j19 =>
  (if (fn_13 1 a1 H) = 0 then j19 ()
  else (if (fn_91 a2 2) = 0 then j19 ()
  else a_bd (fn_10 7 1 H) fun H1 =>
  a_jn (fun (s2 : Int × Int × a_P) => a_jn (fun (s3 : Int) => (s3, s2.2.2)) fun j112 =>
  (if a2 = 0 then j112 s2.1
  else j112 s2.2.1)) fun j102 =>
  a_lp (fun (s4 : Int × Int × Int × a_P) => (0, s4.2.2.2)) (fun (s4 : Int × Int × Int × a_P) n41 => (if s4.2.2.1 < 144 then a_bd (a_up s4.2.2.2 7 0 (a_div s4.2.2.1 4)) fun H2 =>
  a_bd (a_up H2 7 1 (a_rem s4.2.2.1 4)) fun H3 =>
  a_jn (fun (s5 : Int × Int) => a_bd (a_w (s4.2.2.1 + 1)) fun x1 =>
  n41 (s5.1, s5.2, x1, H3)) fun j96 =>
  (if (fn_22 7 H3) = a1 then a_bd (a_w (s4.1 + 1)) fun x2 =>
  (if s4.2.1 = (-4) then j96 (x2, s4.2.2.1)
  else j96 (x2, s4.2.1))
  else j96 (s4.1, s4.2.1))
  else j102 (s4.1, s4.2.1, s4.2.2.2))) a_fuel (0, (-4), 0, H1)))
theorem ti_80_0 : (q_I 80).2 0 = some (0, 4, 0, 0, 2, 1, []) := rfl
theorem ti_80_1 : (q_I 80).2 1 = some (1, 0, 10, 5, 0, 4, [231]) := rfl
theorem ti_80_4 : (q_I 80).2 4 = some (0, 0, 0, 1, 0, 5, []) := rfl
theorem ti_80_5 : (q_I 80).2 5 = some (3, 0, 189, 13, 2, 8, [622, 2]) := rfl
theorem ti_80_8 : (q_I 80).2 8 = some (8, 0, 0, 19, 0, 11, []) := rfl
theorem ti_80_11 : (q_I 80).2 11 = some (0, 0, 0, 2, 0, 12, []) := rfl
theorem ti_80_12 : (q_I 80).2 12 = some (2, 0, 2, 0, 0, 13, []) := rfl
theorem ti_80_13 : (q_I 80).2 13 = some (3, 1, 64, 91, 2, 16, [269, 5]) := rfl
theorem ti_80_16 : (q_I 80).2 16 = some (8, 1, 0, 21, 0, 19, []) := rfl
theorem ti_80_21 : (q_I 80).2 21 = some (0, 4, 0, 0, 2, 22, []) := rfl
theorem ti_80_22 : (q_I 80).2 22 = some (1, 0, 16, 5, 1, 25, [232]) := rfl
theorem ti_80_25 : (q_I 80).2 25 = some (0, 4, 0, 0, 2, 26, []) := rfl
theorem ti_80_26 : (q_I 80).2 26 = some (1, 0, 10, 5, 0, 29, [231]) := rfl
theorem ti_80_29 : (q_I 80).2 29 = some (3, 0, 126, 10, 2, 32, [466, 2]) := rfl
theorem ti_80_32 : (q_I 80).2 32 = some (2, 0, 0, 0, 0, 33, []) := rfl
theorem ti_80_33 : (q_I 80).2 33 = some (11, 0, 0, 3, 0, 34, []) := rfl
theorem ti_80_34 : (q_I 80).2 34 = some (2, 1, (-4), 0, 0, 36, []) := rfl
theorem ti_80_36 : (q_I 80).2 36 = some (11, 1, 0, 4, 0, 38, []) := rfl
theorem ti_80_38 : (q_I 80).2 38 = some (2, 0, 0, 0, 0, 39, []) := rfl
theorem ti_80_39 : (q_I 80).2 39 = some (11, 1, 0, 5, 0, 41, []) := rfl
theorem ti_80_41 : (q_I 80).2 41 = some (0, 1, 0, 5, 0, 43, []) := rfl
theorem ti_80_43 : (q_I 80).2 43 = some (2, 2, 144, 0, 0, 46, []) := rfl
theorem ti_80_46 : (q_I 80).2 46 = some (9, 3, 0, 102, 0, 49, []) := rfl
theorem ti_80_49 : (q_I 80).2 49 = some (0, 4, 0, 0, 2, 50, []) := rfl
theorem ti_80_50 : (q_I 80).2 50 = some (1, 0, 16, 5, 1, 53, [232]) := rfl
theorem ti_80_53 : (q_I 80).2 53 = some (0, 1, 0, 5, 0, 55, []) := rfl
theorem ti_80_55 : (q_I 80).2 55 = some (2, 0, 4, 0, 0, 56, []) := rfl
theorem ti_80_56 : (q_I 80).2 56 = some (6, 3, 0, 0, 0, 57, []) := rfl
theorem ti_80_57 : (q_I 80).2 57 = some (10, 0, 130, 2, 0, 60, [85]) := rfl
theorem ti_80_60 : (q_I 80).2 60 = some (0, 4, 0, 0, 2, 61, []) := rfl
theorem ti_80_61 : (q_I 80).2 61 = some (1, 0, 16, 5, 1, 64, [232]) := rfl
theorem ti_80_64 : (q_I 80).2 64 = some (0, 1, 0, 5, 0, 66, []) := rfl
theorem ti_80_66 : (q_I 80).2 66 = some (2, 0, 4, 0, 0, 67, []) := rfl
theorem ti_80_67 : (q_I 80).2 67 = some (6, 4, 0, 0, 0, 68, []) := rfl
theorem ti_80_68 : (q_I 80).2 68 = some (10, 0, 133, 2, 1, 71, [88]) := rfl
theorem ti_80_71 : (q_I 80).2 71 = some (0, 4, 0, 0, 2, 72, []) := rfl
theorem ti_80_72 : (q_I 80).2 72 = some (1, 0, 16, 5, 1, 75, [232]) := rfl
theorem ti_80_75 : (q_I 80).2 75 = some (3, 0, 220, 22, 1, 78, [677, 2]) := rfl
theorem ti_80_78 : (q_I 80).2 78 = some (0, 0, 0, 1, 0, 79, []) := rfl
theorem ti_80_79 : (q_I 80).2 79 = some (9, 1, 0, 96, 0, 82, []) := rfl
theorem ti_80_82 : (q_I 80).2 82 = some (13, 0, 1, 3, 0, 85, []) := rfl
theorem ti_80_85 : (q_I 80).2 85 = some (0, 1, 0, 4, 0, 87, []) := rfl
theorem ti_80_87 : (q_I 80).2 87 = some (2, 1, (-4), 0, 0, 89, []) := rfl
theorem ti_80_89 : (q_I 80).2 89 = some (9, 1, 0, 96, 0, 92, []) := rfl
theorem ti_80_92 : (q_I 80).2 92 = some (0, 1, 0, 5, 0, 94, []) := rfl
theorem ti_80_94 : (q_I 80).2 94 = some (11, 1, 0, 4, 0, 96, []) := rfl
theorem ti_80_96 : (q_I 80).2 96 = some (13, 0, 1, 5, 0, 99, []) := rfl
theorem ti_80_99 : (q_I 80).2 99 = some (7, 0, 0, 41, 0, 102, []) := rfl
theorem ti_80_102 : (q_I 80).2 102 = some (0, 0, 0, 2, 0, 103, []) := rfl
theorem ti_80_103 : (q_I 80).2 103 = some (8, 1, 0, 110, 0, 106, []) := rfl
theorem ti_80_106 : (q_I 80).2 106 = some (0, 0, 0, 3, 0, 107, []) := rfl
theorem ti_80_107 : (q_I 80).2 107 = some (7, 0, 0, 112, 0, 110, []) := rfl
theorem ti_80_110 : (q_I 80).2 110 = some (0, 1, 0, 4, 0, 112, []) := rfl
theorem ti_80_112 : (q_I 80).2 112 = some (4, 0, 0, 0, 0, 113, []) := rfl
theorem ti_80_19 : (q_I 80).2 19 = some (2, 0, (-1), 0, 0, 20, []) := rfl
theorem ti_80_20 : (q_I 80).2 20 = some (4, 0, 0, 0, 0, 21, []) := rfl
theorem mt_80 (a1 : Int) (a2 : Int) (H : a_P) : a_mt id 0 80 [(2, 0), (0, a1), (0, a2)] H (fn_80 a1 a2 H) := by
  refine a_mtI (lo := [some (2, 0), some (0, a1), some (0, a2), none, none, none]) rfl fun d => ?_
  unfold fn_80
  refine a_w0 (Nat.le_succ _) ti_80_0 rfl ?_
  refine a_w1 (a := (2, 1)) (Nat.le_succ _) ti_80_1 rfl ?_
  refine a_w0 (Nat.le_succ _) ti_80_4 rfl ?_
  refine a_w3p (args := [(2, 1), (0, a1)]) (Nat.le_succ _) ti_80_5 (mt_13 1 a1 H) rfl rfl rfl rfl ?_
  refine a_wjn 19 (fun (s : Unit) => [none, none, none, none, none, none]) (fun (s : Unit) => []) (fun (s : Unit) => H) (fun s1 => ?_) (fun j19 hj19 => ?_)
  · refine a_w2 (z := (-1)) (Nat.le_succ _) ti_80_19 (by decide) ?_
    exact a_w4 (Nat.le_succ _) ti_80_20 rfl rfl rfl
  · refine a_w8_0 (Nat.le_succ _) ti_80_8 ?_ ?_
    · exact a_wk (hj19 ()) (by omega) trivial
    · refine a_w0 (Nat.le_succ _) ti_80_11 rfl ?_
      refine a_w2 (z := 2) (Nat.le_succ _) ti_80_12 (by decide) ?_
      refine a_w3p (args := [(0, a2), (0, 2)]) (Nat.le_succ _) ti_80_13 (mt_91 a2 2 H) rfl rfl rfl rfl ?_
      refine a_w8_1 (Nat.le_succ _) ti_80_16 ?_ ?_
      · refine a_w0 (Nat.le_succ _) ti_80_21 rfl ?_
        refine a_w1 (a := (2, 7)) (Nat.le_succ _) ti_80_22 rfl ?_
        refine a_w0 (Nat.le_succ _) ti_80_25 rfl ?_
        refine a_w1 (a := (2, 1)) (Nat.le_succ _) ti_80_26 rfl ?_
        refine a_w3v (args := [(2, 7), (2, 1)]) (Nat.le_succ _) ti_80_29 (mt_10 7 1 H) rfl rfl (fun H1 => ?_)
        refine a_w2 (z := 0) (Nat.le_succ _) ti_80_32 (by decide) ?_
        refine a_w11 (lo' := [some (2, 0), some (0, a1), some (0, a2), some (0, 0), none, none]) (Nat.le_succ _) ti_80_33 rfl ?_
        refine a_w2 (z := (-4)) (Nat.le_succ _) ti_80_34 (by decide) ?_
        refine a_w11 (lo' := [some (2, 0), some (0, a1), some (0, a2), some (0, 0), some (0, (-4)), none]) (Nat.le_succ _) ti_80_36 rfl ?_
        refine a_w2 (z := 0) (Nat.le_succ _) ti_80_38 (by decide) ?_
        refine a_w11 (lo' := [some (2, 0), some (0, a1), some (0, a2), some (0, 0), some (0, (-4)), some (0, 0)]) (Nat.le_succ _) ti_80_39 rfl ?_
        refine a_wjn 102 (fun (s : Int × Int × a_P) => [none, none, some (0, a2), some (0, s.1), some (0, s.2.1), none]) (fun (s : Int × Int × a_P) => []) (fun (s : Int × Int × a_P) => s.2.2) (fun s2 => ?_) (fun j102 hj102 => ?_)
        · refine a_w0 (Nat.le_succ _) ti_80_102 rfl ?_
          refine a_wjn 112 (fun (s : Int) => [none, none, none, none, none, none]) (fun (s : Int) => [(0, s)]) (fun (s : Int) => s2.2.2) (fun s3 => ?_) (fun j112 hj112 => ?_)
          · exact a_w4 (Nat.le_succ _) ti_80_112 rfl rfl rfl
          · refine a_w8_1 (Nat.le_succ _) ti_80_103 ?_ ?_
            · refine a_w0 (Nat.le_succ _) ti_80_110 rfl ?_
              exact a_wk (hj112 s2.2.1) (by omega) trivial
            · refine a_w0 (Nat.le_succ _) ti_80_106 rfl ?_
              refine a_w7 (Nat.le_succ _) ti_80_107 ?_
              exact a_wk (hj112 s2.1) (by omega) trivial
        · refine a_wk (a_wlp (fun (s : Int × Int × Int × a_P) => [some (2, 0), some (0, a1), some (0, a2), some (0, s.1), some (0, s.2.1), some (0, s.2.2.1)]) (fun (s : Int × Int × Int × a_P) => s.2.2.2) (fun N1 hN1 n41 hn41 s4 => ?_) a_fuel (a_fuel_le (by omega)) (0, (-4), 0, H1)) (Nat.le_refl _) ⟨rfl, rfl, rfl, rfl, rfl, rfl, trivial⟩
          · refine a_w0 (Nat.le_refl _) ti_80_41 rfl ?_
            refine a_w2 (z := 144) (Nat.le_succ _) ti_80_43 (by decide) ?_
            refine a_w9_3 (Nat.le_succ _) ti_80_46 ?_ ?_
            · exact a_wk (hj102 (s4.1, s4.2.1, s4.2.2.2)) (by omega) ⟨rfl, rfl, rfl, trivial⟩
            · refine a_w0 (Nat.le_succ _) ti_80_49 rfl ?_
              refine a_w1 (a := (2, 7)) (Nat.le_succ _) ti_80_50 rfl ?_
              refine a_w0 (Nat.le_succ _) ti_80_53 rfl ?_
              refine a_w2 (z := 4) (Nat.le_succ _) ti_80_55 (by decide) ?_
              refine a_w6 (a := (0, a_div s4.2.2.1 4)) (Nat.le_succ _) ti_80_56 rfl ?_
              refine a_w10 (Nat.le_succ _) ti_80_57 rfl rfl rfl (fun H2 => ?_)
              refine a_w0 (Nat.le_succ _) ti_80_60 rfl ?_
              refine a_w1 (a := (2, 7)) (Nat.le_succ _) ti_80_61 rfl ?_
              refine a_w0 (Nat.le_succ _) ti_80_64 rfl ?_
              refine a_w2 (z := 4) (Nat.le_succ _) ti_80_66 (by decide) ?_
              refine a_w6 (a := (0, a_rem s4.2.2.1 4)) (Nat.le_succ _) ti_80_67 rfl ?_
              refine a_w10 (Nat.le_succ _) ti_80_68 rfl rfl rfl (fun H3 => ?_)
              refine a_w0 (Nat.le_succ _) ti_80_71 rfl ?_
              refine a_w1 (a := (2, 7)) (Nat.le_succ _) ti_80_72 rfl ?_
              refine a_w3p (args := [(2, 7)]) (Nat.le_succ _) ti_80_75 (mt_22 7 H3) rfl rfl rfl rfl ?_
              refine a_w0 (Nat.le_succ _) ti_80_78 rfl ?_
              refine a_wjn 96 (fun (s : Int × Int) => [some (2, 0), some (0, a1), some (0, a2), some (0, s.1), some (0, s.2), some (0, s4.2.2.1)]) (fun (s : Int × Int) => []) (fun (s : Int × Int) => H3) (fun s5 => ?_) (fun j96 hj96 => ?_)
              · refine a_w13 (c' := 1) (lof := fun x1 => [some (2, 0), some (0, a1), some (0, a2), some (0, s5.1), some (0, s5.2), some (0, x1)]) (Nat.le_succ _) ti_80_96 rfl (by decide) rfl (fun _ => rfl) (fun x1 => ?_)
                refine a_w7 (Nat.le_succ _) ti_80_99 ?_
                exact a_wk (hn41 (s5.1, s5.2, x1, H3)) (by omega) ⟨rfl, rfl, rfl, rfl, rfl, rfl, trivial⟩
              · refine a_w9_1 (Nat.le_succ _) ti_80_79 ?_ ?_
                · exact a_wk (hj96 (s4.1, s4.2.1)) (by omega) ⟨rfl, rfl, rfl, rfl, rfl, rfl, trivial⟩
                · refine a_w13 (c' := 1) (lof := fun x2 => [some (2, 0), some (0, a1), some (0, a2), some (0, x2), some (0, s4.2.1), some (0, s4.2.2.1)]) (Nat.le_succ _) ti_80_82 rfl (by decide) rfl (fun _ => rfl) (fun x2 => ?_)
                  refine a_w0 (Nat.le_succ _) ti_80_85 rfl ?_
                  refine a_w2 (z := (-4)) (Nat.le_succ _) ti_80_87 (by decide) ?_
                  refine a_w9_1 (Nat.le_succ _) ti_80_89 ?_ ?_
                  · exact a_wk (hj96 (x2, s4.2.1)) (by omega) ⟨rfl, rfl, rfl, rfl, rfl, rfl, trivial⟩
                  · refine a_w0 (Nat.le_succ _) ti_80_92 rfl ?_
                    refine a_w11 (lo' := [some (2, 0), some (0, a1), some (0, a2), some (0, x2), some (0, s4.2.2.1), some (0, s4.2.2.1)]) (Nat.le_succ _) ti_80_94 rfl ?_
                    exact a_wk (hj96 (x2, s4.2.2.1)) (by omega) ⟨rfl, rfl, rfl, rfl, rfl, rfl, trivial⟩
      · exact a_wk (hj19 ()) (by omega) trivial
/-- CarriedGate.isAheadOfGate(I)Z -/
noncomputable def fn_98 (a1 : Int) (H : a_P) : Int :=
  a_jn (fun (s1 : Int) => s1) fun j26 =>
  a_jn (fun (s2 : Unit) => j26 0) fun j25 =>
  (if (fn_14 1 H) = 0 then j25 ()
  else (if (fn_19 1 a1 H) = 0 then j26 1
  else j25 ()))
theorem ti_98_0 : (q_I 98).2 0 = some (0, 4, 0, 0, 2, 1, []) := rfl
theorem ti_98_1 : (q_I 98).2 1 = some (1, 0, 10, 5, 0, 4, [231]) := rfl
theorem ti_98_4 : (q_I 98).2 4 = some (3, 0, 171, 14, 1, 7, [553, 2]) := rfl
theorem ti_98_7 : (q_I 98).2 7 = some (8, 0, 0, 25, 0, 10, []) := rfl
theorem ti_98_10 : (q_I 98).2 10 = some (0, 4, 0, 0, 2, 11, []) := rfl
theorem ti_98_11 : (q_I 98).2 11 = some (1, 0, 10, 5, 0, 14, [231]) := rfl
theorem ti_98_14 : (q_I 98).2 14 = some (0, 0, 0, 1, 0, 15, []) := rfl
theorem ti_98_15 : (q_I 98).2 15 = some (3, 0, 109, 19, 2, 18, [316, 2]) := rfl
theorem ti_98_18 : (q_I 98).2 18 = some (8, 1, 0, 25, 0, 21, []) := rfl
theorem ti_98_21 : (q_I 98).2 21 = some (2, 0, 1, 0, 0, 22, []) := rfl
theorem ti_98_22 : (q_I 98).2 22 = some (7, 0, 0, 26, 0, 25, []) := rfl
theorem ti_98_25 : (q_I 98).2 25 = some (2, 0, 0, 0, 0, 26, []) := rfl
theorem ti_98_26 : (q_I 98).2 26 = some (4, 3, 0, 0, 0, 27, []) := rfl
theorem mt_98 (a1 : Int) (H : a_P) : a_mt (a_pp H) 0 98 [(2, 0), (0, a1)] H (fn_98 a1 H) := by
  refine a_mtI (lo := [some (2, 0), some (0, a1)]) rfl fun d => ?_
  unfold fn_98
  refine a_w0 (Nat.le_succ _) ti_98_0 rfl ?_
  refine a_w1 (a := (2, 1)) (Nat.le_succ _) ti_98_1 rfl ?_
  refine a_w3p (args := [(2, 1)]) (Nat.le_succ _) ti_98_4 (mt_14 1 H) rfl rfl rfl rfl ?_
  refine a_wjn 26 (fun (s : Int) => [none, none]) (fun (s : Int) => [(0, s)]) (fun (s : Int) => H) (fun s1 => ?_) (fun j26 hj26 => ?_)
  · exact a_w4 (Nat.le_succ _) ti_98_26 rfl rfl rfl
  · refine a_wjn 25 (fun (s : Unit) => [none, none]) (fun (s : Unit) => []) (fun (s : Unit) => H) (fun s2 => ?_) (fun j25 hj25 => ?_)
    · refine a_w2 (z := 0) (Nat.le_succ _) ti_98_25 (by decide) ?_
      exact a_wk (hj26 0) (by omega) trivial
    · refine a_w8_0 (Nat.le_succ _) ti_98_7 ?_ ?_
      · exact a_wk (hj25 ()) (by omega) trivial
      · refine a_w0 (Nat.le_succ _) ti_98_10 rfl ?_
        refine a_w1 (a := (2, 1)) (Nat.le_succ _) ti_98_11 rfl ?_
        refine a_w0 (Nat.le_succ _) ti_98_14 rfl ?_
        refine a_w3p (args := [(2, 1), (0, a1)]) (Nat.le_succ _) ti_98_15 (mt_19 1 a1 H) rfl rfl rfl rfl ?_
        refine a_w8_1 (Nat.le_succ _) ti_98_18 ?_ ?_
        · exact a_wk (hj25 ()) (by omega) trivial
        · refine a_w2 (z := 1) (Nat.le_succ _) ti_98_21 (by decide) ?_
          refine a_w7 (Nat.le_succ _) ti_98_22 ?_
          exact a_wk (hj26 1) (by omega) trivial
/-- CarriedGate.isOpen(III)Z -/
noncomputable def fn_99 (a1 : Int) (a2 : Int) (a3 : Int) (H : a_P) : Int :=
  a_jn (fun (s1 : Int) => s1) fun j22 =>
  a_jn (fun (s2 : Unit) => j22 0) fun j21 =>
  (if (fn_98 a1 H) = 0 then (if (fn_16 a2 a3 a1) = 0 then j21 ()
  else j22 1)
  else j21 ())
theorem ti_99_0 : (q_I 99).2 0 = some (0, 4, 0, 0, 2, 1, []) := rfl
theorem ti_99_1 : (q_I 99).2 1 = some (0, 0, 0, 1, 0, 2, []) := rfl
theorem ti_99_2 : (q_I 99).2 2 = some (3, 0, 299, 98, 2, 5, [690, 5]) := rfl
theorem ti_99_5 : (q_I 99).2 5 = some (8, 1, 0, 21, 0, 8, []) := rfl
theorem ti_99_8 : (q_I 99).2 8 = some (0, 0, 0, 2, 0, 9, []) := rfl
theorem ti_99_9 : (q_I 99).2 9 = some (0, 0, 0, 3, 0, 10, []) := rfl
theorem ti_99_10 : (q_I 99).2 10 = some (0, 0, 0, 1, 0, 11, []) := rfl
theorem ti_99_11 : (q_I 99).2 11 = some (3, 1, 302, 16, 3, 14, [694, 2]) := rfl
theorem ti_99_14 : (q_I 99).2 14 = some (8, 0, 0, 21, 0, 17, []) := rfl
theorem ti_99_17 : (q_I 99).2 17 = some (2, 0, 1, 0, 0, 18, []) := rfl
theorem ti_99_18 : (q_I 99).2 18 = some (7, 0, 0, 22, 0, 21, []) := rfl
theorem ti_99_21 : (q_I 99).2 21 = some (2, 0, 0, 0, 0, 22, []) := rfl
theorem ti_99_22 : (q_I 99).2 22 = some (4, 3, 0, 0, 0, 23, []) := rfl
theorem mt_99 (a1 : Int) (a2 : Int) (a3 : Int) (H : a_P) : a_mt (a_pp H) 0 99 [(2, 0), (0, a1), (0, a2), (0, a3)] H (fn_99 a1 a2 a3 H) := by
  refine a_mtI (lo := [some (2, 0), some (0, a1), some (0, a2), some (0, a3)]) rfl fun d => ?_
  unfold fn_99
  refine a_w0 (Nat.le_succ _) ti_99_0 rfl ?_
  refine a_w0 (Nat.le_succ _) ti_99_1 rfl ?_
  refine a_w3p (args := [(2, 0), (0, a1)]) (Nat.le_succ _) ti_99_2 (mt_98 a1 H) rfl rfl rfl rfl ?_
  refine a_wjn 22 (fun (s : Int) => [none, none, none, none]) (fun (s : Int) => [(0, s)]) (fun (s : Int) => H) (fun s1 => ?_) (fun j22 hj22 => ?_)
  · exact a_w4 (Nat.le_succ _) ti_99_22 rfl rfl rfl
  · refine a_wjn 21 (fun (s : Unit) => [none, none, none, none]) (fun (s : Unit) => []) (fun (s : Unit) => H) (fun s2 => ?_) (fun j21 hj21 => ?_)
    · refine a_w2 (z := 0) (Nat.le_succ _) ti_99_21 (by decide) ?_
      exact a_wk (hj22 0) (by omega) trivial
    · refine a_w8_1 (Nat.le_succ _) ti_99_5 ?_ ?_
      · exact a_wk (hj21 ()) (by omega) trivial
      · refine a_w0 (Nat.le_succ _) ti_99_8 rfl ?_
        refine a_w0 (Nat.le_succ _) ti_99_9 rfl ?_
        refine a_w0 (Nat.le_succ _) ti_99_10 rfl ?_
        refine a_w3p (args := [(0, a2), (0, a3), (0, a1)]) (Nat.le_succ _) ti_99_11 (mt_16 a2 a3 a1 H) rfl rfl rfl rfl ?_
        refine a_w8_0 (Nat.le_succ _) ti_99_14 ?_ ?_
        · exact a_wk (hj21 ()) (by omega) trivial
        · refine a_w2 (z := 1) (Nat.le_succ _) ti_99_17 (by decide) ?_
          refine a_w7 (Nat.le_succ _) ti_99_18 ?_
          exact a_wk (hj22 1) (by omega) trivial
/-- CarriedGate.openCells(II)I -/
noncomputable def fn_100 (a1 : Int) (a2 : Int) (H : a_P) : Int :=
  a_lp (fun (s1 : Int × Int) => 0) (fun (s1 : Int × Int) n5 => (if s1.2 < 36 then a_jn (fun (s2 : Int) => a_bd (a_w (s1.2 + 1)) fun x1 =>
  n5 (s2, x1)) fun j26 =>
  (if (fn_99 s1.2 a1 a2 H) = 0 then j26 s1.1
  else a_bd (a_w (s1.1 + 1)) fun x2 =>
  j26 x2)
  else s1.1)) a_fuel (0, 0)
theorem ti_100_0 : (q_I 100).2 0 = some (2, 0, 0, 0, 0, 1, []) := rfl
theorem ti_100_1 : (q_I 100).2 1 = some (11, 0, 0, 3, 0, 2, []) := rfl
theorem ti_100_2 : (q_I 100).2 2 = some (2, 0, 0, 0, 0, 3, []) := rfl
theorem ti_100_3 : (q_I 100).2 3 = some (11, 1, 0, 4, 0, 5, []) := rfl
theorem ti_100_5 : (q_I 100).2 5 = some (0, 1, 0, 4, 0, 7, []) := rfl
theorem ti_100_7 : (q_I 100).2 7 = some (2, 1, 36, 0, 0, 9, []) := rfl
theorem ti_100_9 : (q_I 100).2 9 = some (9, 3, 0, 32, 0, 12, []) := rfl
theorem ti_100_12 : (q_I 100).2 12 = some (0, 4, 0, 0, 2, 13, []) := rfl
theorem ti_100_13 : (q_I 100).2 13 = some (0, 1, 0, 4, 0, 15, []) := rfl
theorem ti_100_15 : (q_I 100).2 15 = some (0, 0, 0, 1, 0, 16, []) := rfl
theorem ti_100_16 : (q_I 100).2 16 = some (0, 0, 0, 2, 0, 17, []) := rfl
theorem ti_100_17 : (q_I 100).2 17 = some (3, 0, 305, 99, 4, 20, [686, 5]) := rfl
theorem ti_100_20 : (q_I 100).2 20 = some (8, 0, 0, 26, 0, 23, []) := rfl
theorem ti_100_23 : (q_I 100).2 23 = some (13, 0, 1, 3, 0, 26, []) := rfl
theorem ti_100_26 : (q_I 100).2 26 = some (13, 0, 1, 4, 0, 29, []) := rfl
theorem ti_100_29 : (q_I 100).2 29 = some (7, 0, 0, 5, 0, 32, []) := rfl
theorem ti_100_32 : (q_I 100).2 32 = some (0, 0, 0, 3, 0, 33, []) := rfl
theorem ti_100_33 : (q_I 100).2 33 = some (4, 0, 0, 0, 0, 34, []) := rfl
theorem mt_100 (a1 : Int) (a2 : Int) (H : a_P) : a_mt (a_pp H) 0 100 [(2, 0), (0, a1), (0, a2)] H (fn_100 a1 a2 H) := by
  refine a_mtI (lo := [some (2, 0), some (0, a1), some (0, a2), none, none]) rfl fun d => ?_
  unfold fn_100
  refine a_w2 (z := 0) (Nat.le_succ _) ti_100_0 (by decide) ?_
  refine a_w11 (lo' := [some (2, 0), some (0, a1), some (0, a2), some (0, 0), none]) (Nat.le_succ _) ti_100_1 rfl ?_
  refine a_w2 (z := 0) (Nat.le_succ _) ti_100_2 (by decide) ?_
  refine a_w11 (lo' := [some (2, 0), some (0, a1), some (0, a2), some (0, 0), some (0, 0)]) (Nat.le_succ _) ti_100_3 rfl ?_
  refine a_wk (a_wlp (fun (s : Int × Int) => [some (2, 0), some (0, a1), some (0, a2), some (0, s.1), some (0, s.2)]) (fun (s : Int × Int) => H) (fun N1 hN1 n5 hn5 s1 => ?_) a_fuel (a_fuel_le (by omega)) (0, 0)) (Nat.le_refl _) ⟨rfl, rfl, rfl, rfl, rfl, trivial⟩
  · refine a_w0 (Nat.le_refl _) ti_100_5 rfl ?_
    refine a_w2 (z := 36) (Nat.le_succ _) ti_100_7 (by decide) ?_
    refine a_w9_3 (Nat.le_succ _) ti_100_9 ?_ ?_
    · refine a_w0 (Nat.le_succ _) ti_100_32 rfl ?_
      exact a_w4 (Nat.le_succ _) ti_100_33 rfl rfl rfl
    · refine a_w0 (Nat.le_succ _) ti_100_12 rfl ?_
      refine a_w0 (Nat.le_succ _) ti_100_13 rfl ?_
      refine a_w0 (Nat.le_succ _) ti_100_15 rfl ?_
      refine a_w0 (Nat.le_succ _) ti_100_16 rfl ?_
      refine a_w3p (args := [(2, 0), (0, s1.2), (0, a1), (0, a2)]) (Nat.le_succ _) ti_100_17 (mt_99 s1.2 a1 a2 H) rfl rfl rfl rfl ?_
      refine a_wjn 26 (fun (s : Int) => [some (2, 0), some (0, a1), some (0, a2), some (0, s), some (0, s1.2)]) (fun (s : Int) => []) (fun (s : Int) => H) (fun s2 => ?_) (fun j26 hj26 => ?_)
      · refine a_w13 (c' := 1) (lof := fun x1 => [some (2, 0), some (0, a1), some (0, a2), some (0, s2), some (0, x1)]) (Nat.le_succ _) ti_100_26 rfl (by decide) rfl (fun _ => rfl) (fun x1 => ?_)
        refine a_w7 (Nat.le_succ _) ti_100_29 ?_
        exact a_wk (hn5 (s2, x1)) (by omega) ⟨rfl, rfl, rfl, rfl, rfl, trivial⟩
      · refine a_w8_0 (Nat.le_succ _) ti_100_20 ?_ ?_
        · exact a_wk (hj26 s1.1) (by omega) ⟨rfl, rfl, rfl, rfl, rfl, trivial⟩
        · refine a_w13 (c' := 1) (lof := fun x2 => [some (2, 0), some (0, a1), some (0, a2), some (0, x2), some (0, s1.2)]) (Nat.le_succ _) ti_100_23 rfl (by decide) rfl (fun _ => rfl) (fun x2 => ?_)
          exact a_wk (hj26 x2) (by omega) ⟨rfl, rfl, rfl, rfl, rfl, trivial⟩
/-- CarriedGate.openPeople(II)I -/
noncomputable def fn_101 (a1 : Int) (a2 : Int) (H : a_P) : Int :=
  a_lp (fun (s1 : Int × Int) => 0) (fun (s1 : Int × Int) n5 => (if s1.2 < (H 1 6) then a_jn (fun (s2 : Int) => a_bd (a_w (s1.2 + 1)) fun x1 =>
  n5 (s2, x1)) fun j43 =>
  (if (fn_99 (H 3 s1.2) a1 a2 H) = 0 then j43 s1.1
  else a_bd (a_or s1.1 (a_shl 1 s1.2)) fun x2 =>
  j43 x2)
  else s1.1)) a_fuel (0, 0)
theorem ti_101_0 : (q_I 101).2 0 = some (2, 0, 0, 0, 0, 1, []) := rfl
theorem ti_101_1 : (q_I 101).2 1 = some (11, 0, 0, 3, 0, 2, []) := rfl
theorem ti_101_2 : (q_I 101).2 2 = some (2, 0, 0, 0, 0, 3, []) := rfl
theorem ti_101_3 : (q_I 101).2 3 = some (11, 1, 0, 4, 0, 5, []) := rfl
theorem ti_101_5 : (q_I 101).2 5 = some (0, 1, 0, 4, 0, 7, []) := rfl
theorem ti_101_7 : (q_I 101).2 7 = some (0, 4, 0, 0, 2, 8, []) := rfl
theorem ti_101_8 : (q_I 101).2 8 = some (1, 0, 10, 5, 0, 11, [231]) := rfl
theorem ti_101_11 : (q_I 101).2 11 = some (1, 0, 68, 2, 6, 14, [101]) := rfl
theorem ti_101_14 : (q_I 101).2 14 = some (9, 3, 0, 49, 0, 17, []) := rfl
theorem ti_101_17 : (q_I 101).2 17 = some (0, 4, 0, 0, 2, 18, []) := rfl
theorem ti_101_18 : (q_I 101).2 18 = some (0, 4, 0, 0, 2, 19, []) := rfl
theorem ti_101_19 : (q_I 101).2 19 = some (1, 0, 10, 5, 0, 22, [231]) := rfl
theorem ti_101_22 : (q_I 101).2 22 = some (1, 0, 86, 2, 8, 25, [106]) := rfl
theorem ti_101_25 : (q_I 101).2 25 = some (0, 1, 0, 4, 0, 27, []) := rfl
theorem ti_101_27 : (q_I 101).2 27 = some (5, 10, 0, 0, 0, 28, []) := rfl
theorem ti_101_28 : (q_I 101).2 28 = some (0, 0, 0, 1, 0, 29, []) := rfl
theorem ti_101_29 : (q_I 101).2 29 = some (0, 0, 0, 2, 0, 30, []) := rfl
theorem ti_101_30 : (q_I 101).2 30 = some (3, 0, 305, 99, 4, 33, [686, 5]) := rfl
theorem ti_101_33 : (q_I 101).2 33 = some (8, 0, 0, 43, 0, 36, []) := rfl
theorem ti_101_36 : (q_I 101).2 36 = some (0, 0, 0, 3, 0, 37, []) := rfl
theorem ti_101_37 : (q_I 101).2 37 = some (2, 0, 1, 0, 0, 38, []) := rfl
theorem ti_101_38 : (q_I 101).2 38 = some (0, 1, 0, 4, 0, 40, []) := rfl
theorem ti_101_40 : (q_I 101).2 40 = some (6, 8, 0, 0, 0, 41, []) := rfl
theorem ti_101_41 : (q_I 101).2 41 = some (6, 6, 0, 0, 0, 42, []) := rfl
theorem ti_101_42 : (q_I 101).2 42 = some (11, 0, 0, 3, 0, 43, []) := rfl
theorem ti_101_43 : (q_I 101).2 43 = some (13, 0, 1, 4, 0, 46, []) := rfl
theorem ti_101_46 : (q_I 101).2 46 = some (7, 0, 0, 5, 0, 49, []) := rfl
theorem ti_101_49 : (q_I 101).2 49 = some (0, 0, 0, 3, 0, 50, []) := rfl
theorem ti_101_50 : (q_I 101).2 50 = some (4, 0, 0, 0, 0, 51, []) := rfl
theorem mt_101 (a1 : Int) (a2 : Int) (H : a_P) : a_mt (a_pp H) 0 101 [(2, 0), (0, a1), (0, a2)] H (fn_101 a1 a2 H) := by
  refine a_mtI (lo := [some (2, 0), some (0, a1), some (0, a2), none, none]) rfl fun d => ?_
  unfold fn_101
  refine a_w2 (z := 0) (Nat.le_succ _) ti_101_0 (by decide) ?_
  refine a_w11 (lo' := [some (2, 0), some (0, a1), some (0, a2), some (0, 0), none]) (Nat.le_succ _) ti_101_1 rfl ?_
  refine a_w2 (z := 0) (Nat.le_succ _) ti_101_2 (by decide) ?_
  refine a_w11 (lo' := [some (2, 0), some (0, a1), some (0, a2), some (0, 0), some (0, 0)]) (Nat.le_succ _) ti_101_3 rfl ?_
  refine a_wk (a_wlp (fun (s : Int × Int) => [some (2, 0), some (0, a1), some (0, a2), some (0, s.1), some (0, s.2)]) (fun (s : Int × Int) => H) (fun N1 hN1 n5 hn5 s1 => ?_) a_fuel (a_fuel_le (by omega)) (0, 0)) (Nat.le_refl _) ⟨rfl, rfl, rfl, rfl, rfl, trivial⟩
  · refine a_w0 (Nat.le_refl _) ti_101_5 rfl ?_
    refine a_w0 (Nat.le_succ _) ti_101_7 rfl ?_
    refine a_w1 (a := (2, 1)) (Nat.le_succ _) ti_101_8 rfl ?_
    refine a_w1 (a := (0, H 1 6)) (Nat.le_succ _) ti_101_11 rfl ?_
    refine a_w9_3 (Nat.le_succ _) ti_101_14 ?_ ?_
    · refine a_w0 (Nat.le_succ _) ti_101_49 rfl ?_
      exact a_w4 (Nat.le_succ _) ti_101_50 rfl rfl rfl
    · refine a_w0 (Nat.le_succ _) ti_101_17 rfl ?_
      refine a_w0 (Nat.le_succ _) ti_101_18 rfl ?_
      refine a_w1 (a := (2, 1)) (Nat.le_succ _) ti_101_19 rfl ?_
      refine a_w1 (a := (2, 3)) (Nat.le_succ _) ti_101_22 rfl ?_
      refine a_w0 (Nat.le_succ _) ti_101_25 rfl ?_
      refine a_w5 (kk := 0) (Nat.le_succ _) ti_101_27 (fun _ => rfl) ?_
      refine a_w0 (Nat.le_succ _) ti_101_28 rfl ?_
      refine a_w0 (Nat.le_succ _) ti_101_29 rfl ?_
      refine a_w3p (args := [(2, 0), (0, H 3 s1.2), (0, a1), (0, a2)]) (Nat.le_succ _) ti_101_30 (mt_99 (H 3 s1.2) a1 a2 H) rfl rfl rfl rfl ?_
      refine a_wjn 43 (fun (s : Int) => [some (2, 0), some (0, a1), some (0, a2), some (0, s), some (0, s1.2)]) (fun (s : Int) => []) (fun (s : Int) => H) (fun s2 => ?_) (fun j43 hj43 => ?_)
      · refine a_w13 (c' := 1) (lof := fun x1 => [some (2, 0), some (0, a1), some (0, a2), some (0, s2), some (0, x1)]) (Nat.le_succ _) ti_101_43 rfl (by decide) rfl (fun _ => rfl) (fun x1 => ?_)
        refine a_w7 (Nat.le_succ _) ti_101_46 ?_
        exact a_wk (hn5 (s2, x1)) (by omega) ⟨rfl, rfl, rfl, rfl, rfl, trivial⟩
      · refine a_w8_0 (Nat.le_succ _) ti_101_33 ?_ ?_
        · exact a_wk (hj43 s1.1) (by omega) ⟨rfl, rfl, rfl, rfl, rfl, trivial⟩
        · refine a_w0 (Nat.le_succ _) ti_101_36 rfl ?_
          refine a_w2 (z := 1) (Nat.le_succ _) ti_101_37 (by decide) ?_
          refine a_w0 (Nat.le_succ _) ti_101_38 rfl ?_
          refine a_w6 (a := (0, a_shl 1 s1.2)) (Nat.le_succ _) ti_101_40 rfl ?_
          refine a_w6 (a := (0, a_or s1.1 (a_shl 1 s1.2))) (Nat.le_succ _) ti_101_41 rfl ?_
          refine a_w11b (lof := fun x2 => [some (2, 0), some (0, a1), some (0, a2), some (0, x2), some (0, s1.2)]) (Nat.le_succ _) ti_101_42 (fun _ => rfl) (fun x2 => ?_)
          exact a_wk (hj43 x2) (by omega) ⟨rfl, rfl, rfl, rfl, rfl, trivial⟩
/-- CarriedGate.areTwoRooms(II)Z -/
noncomputable def fn_102 (a1 : Int) (a2 : Int) (H : a_P) : Int :=
  a_lp (fun (s1 : Int) => 0) (fun (s1 : Int) n2 => (if s1 < 36 then a_jn (fun (s2 : Unit) => a_bd (a_w (s1 + 1)) fun x1 =>
  n2 x1) fun j27 =>
  (if (fn_98 s1 H) = 0 then j27 ()
  else (if (fn_16 a1 a2 s1) = 0 then 0
  else j27 ()))
  else 1)) a_fuel 0
theorem ti_102_0 : (q_I 102).2 0 = some (2, 0, 0, 0, 0, 1, []) := rfl
theorem ti_102_1 : (q_I 102).2 1 = some (11, 0, 0, 3, 0, 2, []) := rfl
theorem ti_102_2 : (q_I 102).2 2 = some (0, 0, 0, 3, 0, 3, []) := rfl
theorem ti_102_3 : (q_I 102).2 3 = some (2, 1, 36, 0, 0, 5, []) := rfl
theorem ti_102_5 : (q_I 102).2 5 = some (9, 3, 0, 33, 0, 8, []) := rfl
theorem ti_102_8 : (q_I 102).2 8 = some (0, 4, 0, 0, 2, 9, []) := rfl
theorem ti_102_9 : (q_I 102).2 9 = some (0, 0, 0, 3, 0, 10, []) := rfl
theorem ti_102_10 : (q_I 102).2 10 = some (3, 0, 299, 98, 2, 13, [690, 5]) := rfl
theorem ti_102_13 : (q_I 102).2 13 = some (8, 0, 0, 27, 0, 16, []) := rfl
theorem ti_102_16 : (q_I 102).2 16 = some (0, 0, 0, 1, 0, 17, []) := rfl
theorem ti_102_17 : (q_I 102).2 17 = some (0, 0, 0, 2, 0, 18, []) := rfl
theorem ti_102_18 : (q_I 102).2 18 = some (0, 0, 0, 3, 0, 19, []) := rfl
theorem ti_102_19 : (q_I 102).2 19 = some (3, 1, 302, 16, 3, 22, [694, 2]) := rfl
theorem ti_102_22 : (q_I 102).2 22 = some (8, 1, 0, 27, 0, 25, []) := rfl
theorem ti_102_25 : (q_I 102).2 25 = some (2, 0, 0, 0, 0, 26, []) := rfl
theorem ti_102_26 : (q_I 102).2 26 = some (4, 3, 0, 0, 0, 27, []) := rfl
theorem ti_102_27 : (q_I 102).2 27 = some (13, 0, 1, 3, 0, 30, []) := rfl
theorem ti_102_30 : (q_I 102).2 30 = some (7, 0, 0, 2, 0, 33, []) := rfl
theorem ti_102_33 : (q_I 102).2 33 = some (2, 0, 1, 0, 0, 34, []) := rfl
theorem ti_102_34 : (q_I 102).2 34 = some (4, 3, 0, 0, 0, 35, []) := rfl
theorem mt_102 (a1 : Int) (a2 : Int) (H : a_P) : a_mt (a_pp H) 0 102 [(2, 0), (0, a1), (0, a2)] H (fn_102 a1 a2 H) := by
  refine a_mtI (lo := [some (2, 0), some (0, a1), some (0, a2), none]) rfl fun d => ?_
  unfold fn_102
  refine a_w2 (z := 0) (Nat.le_succ _) ti_102_0 (by decide) ?_
  refine a_w11 (lo' := [some (2, 0), some (0, a1), some (0, a2), some (0, 0)]) (Nat.le_succ _) ti_102_1 rfl ?_
  refine a_wk (a_wlp (fun (s : Int) => [some (2, 0), some (0, a1), some (0, a2), some (0, s)]) (fun (s : Int) => H) (fun N1 hN1 n2 hn2 s1 => ?_) a_fuel (a_fuel_le (by omega)) 0) (Nat.le_refl _) ⟨rfl, rfl, rfl, rfl, trivial⟩
  · refine a_w0 (Nat.le_refl _) ti_102_2 rfl ?_
    refine a_w2 (z := 36) (Nat.le_succ _) ti_102_3 (by decide) ?_
    refine a_w9_3 (Nat.le_succ _) ti_102_5 ?_ ?_
    · refine a_w2 (z := 1) (Nat.le_succ _) ti_102_33 (by decide) ?_
      exact a_w4 (Nat.le_succ _) ti_102_34 rfl rfl rfl
    · refine a_w0 (Nat.le_succ _) ti_102_8 rfl ?_
      refine a_w0 (Nat.le_succ _) ti_102_9 rfl ?_
      refine a_w3p (args := [(2, 0), (0, s1)]) (Nat.le_succ _) ti_102_10 (mt_98 s1 H) rfl rfl rfl rfl ?_
      refine a_wjn 27 (fun (s : Unit) => [some (2, 0), some (0, a1), some (0, a2), some (0, s1)]) (fun (s : Unit) => []) (fun (s : Unit) => H) (fun s2 => ?_) (fun j27 hj27 => ?_)
      · refine a_w13 (c' := 1) (lof := fun x1 => [some (2, 0), some (0, a1), some (0, a2), some (0, x1)]) (Nat.le_succ _) ti_102_27 rfl (by decide) rfl (fun _ => rfl) (fun x1 => ?_)
        refine a_w7 (Nat.le_succ _) ti_102_30 ?_
        exact a_wk (hn2 x1) (by omega) ⟨rfl, rfl, rfl, rfl, trivial⟩
      · refine a_w8_0 (Nat.le_succ _) ti_102_13 ?_ ?_
        · exact a_wk (hj27 ()) (by omega) ⟨rfl, rfl, rfl, rfl, trivial⟩
        · refine a_w0 (Nat.le_succ _) ti_102_16 rfl ?_
          refine a_w0 (Nat.le_succ _) ti_102_17 rfl ?_
          refine a_w0 (Nat.le_succ _) ti_102_18 rfl ?_
          refine a_w3p (args := [(0, a1), (0, a2), (0, s1)]) (Nat.le_succ _) ti_102_19 (mt_16 a1 a2 s1 H) rfl rfl rfl rfl ?_
          refine a_w8_1 (Nat.le_succ _) ti_102_22 ?_ ?_
          · exact a_wk (hj27 ()) (by omega) ⟨rfl, rfl, rfl, rfl, trivial⟩
          · refine a_w2 (z := 0) (Nat.le_succ _) ti_102_25 (by decide) ?_
            exact a_w4 (Nat.le_succ _) ti_102_26 rfl rfl rfl
/-- CarriedGate.field(III)I -/
noncomputable def fn_81 (a1 : Int) (a2 : Int) (a3 : Int) (H : a_P) : Int :=
  a_jn (fun (s1 : Unit) => (-1)) fun j25 =>
  (if (fn_91 a1 36) = 0 then j25 ()
  else (if (fn_91 a2 4) = 0 then j25 ()
  else (if (fn_91 a3 3) = 0 then j25 ()
  else (if a3 = 0 then fn_100 a1 a2 H
  else (if a3 = 1 then fn_101 a1 a2 H
  else fn_92 (fn_102 a1 a2 H))))))
theorem ti_81_0 : (q_I 81).2 0 = some (0, 0, 0, 1, 0, 1, []) := rfl
theorem ti_81_1 : (q_I 81).2 1 = some (2, 1, 36, 0, 0, 3, []) := rfl
theorem ti_81_3 : (q_I 81).2 3 = some (3, 1, 64, 91, 2, 6, [269, 5]) := rfl
theorem ti_81_6 : (q_I 81).2 6 = some (8, 0, 0, 25, 0, 9, []) := rfl
theorem ti_81_9 : (q_I 81).2 9 = some (0, 0, 0, 2, 0, 10, []) := rfl
theorem ti_81_10 : (q_I 81).2 10 = some (2, 0, 4, 0, 0, 11, []) := rfl
theorem ti_81_11 : (q_I 81).2 11 = some (3, 1, 64, 91, 2, 14, [269, 5]) := rfl
theorem ti_81_14 : (q_I 81).2 14 = some (8, 0, 0, 25, 0, 17, []) := rfl
theorem ti_81_17 : (q_I 81).2 17 = some (0, 0, 0, 3, 0, 18, []) := rfl
theorem ti_81_18 : (q_I 81).2 18 = some (2, 0, 3, 0, 0, 19, []) := rfl
theorem ti_81_19 : (q_I 81).2 19 = some (3, 1, 64, 91, 2, 22, [269, 5]) := rfl
theorem ti_81_22 : (q_I 81).2 22 = some (8, 1, 0, 27, 0, 25, []) := rfl
theorem ti_81_27 : (q_I 81).2 27 = some (0, 0, 0, 3, 0, 28, []) := rfl
theorem ti_81_28 : (q_I 81).2 28 = some (8, 1, 0, 38, 0, 31, []) := rfl
theorem ti_81_31 : (q_I 81).2 31 = some (0, 4, 0, 0, 2, 32, []) := rfl
theorem ti_81_32 : (q_I 81).2 32 = some (0, 0, 0, 1, 0, 33, []) := rfl
theorem ti_81_33 : (q_I 81).2 33 = some (0, 0, 0, 2, 0, 34, []) := rfl
theorem ti_81_34 : (q_I 81).2 34 = some (3, 0, 223, 100, 3, 37, [682, 5]) := rfl
theorem ti_81_37 : (q_I 81).2 37 = some (4, 0, 0, 0, 0, 38, []) := rfl
theorem ti_81_38 : (q_I 81).2 38 = some (0, 0, 0, 3, 0, 39, []) := rfl
theorem ti_81_39 : (q_I 81).2 39 = some (2, 0, 1, 0, 0, 40, []) := rfl
theorem ti_81_40 : (q_I 81).2 40 = some (9, 1, 0, 50, 0, 43, []) := rfl
theorem ti_81_43 : (q_I 81).2 43 = some (0, 4, 0, 0, 2, 44, []) := rfl
theorem ti_81_44 : (q_I 81).2 44 = some (0, 0, 0, 1, 0, 45, []) := rfl
theorem ti_81_45 : (q_I 81).2 45 = some (0, 0, 0, 2, 0, 46, []) := rfl
theorem ti_81_46 : (q_I 81).2 46 = some (3, 0, 226, 101, 3, 49, [695, 5]) := rfl
theorem ti_81_49 : (q_I 81).2 49 = some (4, 0, 0, 0, 0, 50, []) := rfl
theorem ti_81_50 : (q_I 81).2 50 = some (0, 4, 0, 0, 2, 51, []) := rfl
theorem ti_81_51 : (q_I 81).2 51 = some (0, 0, 0, 1, 0, 52, []) := rfl
theorem ti_81_52 : (q_I 81).2 52 = some (0, 0, 0, 2, 0, 53, []) := rfl
theorem ti_81_53 : (q_I 81).2 53 = some (3, 0, 229, 102, 3, 56, [699, 5]) := rfl
theorem ti_81_56 : (q_I 81).2 56 = some (3, 1, 101, 92, 1, 59, [309, 5]) := rfl
theorem ti_81_59 : (q_I 81).2 59 = some (4, 0, 0, 0, 0, 60, []) := rfl
theorem ti_81_25 : (q_I 81).2 25 = some (2, 0, (-1), 0, 0, 26, []) := rfl
theorem ti_81_26 : (q_I 81).2 26 = some (4, 0, 0, 0, 0, 27, []) := rfl
theorem mt_81 (a1 : Int) (a2 : Int) (a3 : Int) (H : a_P) : a_mt (a_pp H) 0 81 [(2, 0), (0, a1), (0, a2), (0, a3)] H (fn_81 a1 a2 a3 H) := by
  refine a_mtI (lo := [some (2, 0), some (0, a1), some (0, a2), some (0, a3)]) rfl fun d => ?_
  unfold fn_81
  refine a_w0 (Nat.le_succ _) ti_81_0 rfl ?_
  refine a_w2 (z := 36) (Nat.le_succ _) ti_81_1 (by decide) ?_
  refine a_w3p (args := [(0, a1), (0, 36)]) (Nat.le_succ _) ti_81_3 (mt_91 a1 36 H) rfl rfl rfl rfl ?_
  refine a_wjn 25 (fun (s : Unit) => [none, none, none, none]) (fun (s : Unit) => []) (fun (s : Unit) => H) (fun s1 => ?_) (fun j25 hj25 => ?_)
  · refine a_w2 (z := (-1)) (Nat.le_succ _) ti_81_25 (by decide) ?_
    exact a_w4 (Nat.le_succ _) ti_81_26 rfl rfl rfl
  · refine a_w8_0 (Nat.le_succ _) ti_81_6 ?_ ?_
    · exact a_wk (hj25 ()) (by omega) trivial
    · refine a_w0 (Nat.le_succ _) ti_81_9 rfl ?_
      refine a_w2 (z := 4) (Nat.le_succ _) ti_81_10 (by decide) ?_
      refine a_w3p (args := [(0, a2), (0, 4)]) (Nat.le_succ _) ti_81_11 (mt_91 a2 4 H) rfl rfl rfl rfl ?_
      refine a_w8_0 (Nat.le_succ _) ti_81_14 ?_ ?_
      · exact a_wk (hj25 ()) (by omega) trivial
      · refine a_w0 (Nat.le_succ _) ti_81_17 rfl ?_
        refine a_w2 (z := 3) (Nat.le_succ _) ti_81_18 (by decide) ?_
        refine a_w3p (args := [(0, a3), (0, 3)]) (Nat.le_succ _) ti_81_19 (mt_91 a3 3 H) rfl rfl rfl rfl ?_
        refine a_w8_1 (Nat.le_succ _) ti_81_22 ?_ ?_
        · refine a_w0 (Nat.le_succ _) ti_81_27 rfl ?_
          refine a_w8_1 (Nat.le_succ _) ti_81_28 ?_ ?_
          · refine a_w0 (Nat.le_succ _) ti_81_38 rfl ?_
            refine a_w2 (z := 1) (Nat.le_succ _) ti_81_39 (by decide) ?_
            refine a_w9_1 (Nat.le_succ _) ti_81_40 ?_ ?_
            · refine a_w0 (Nat.le_succ _) ti_81_50 rfl ?_
              refine a_w0 (Nat.le_succ _) ti_81_51 rfl ?_
              refine a_w0 (Nat.le_succ _) ti_81_52 rfl ?_
              refine a_w3p (args := [(2, 0), (0, a1), (0, a2)]) (Nat.le_succ _) ti_81_53 (mt_102 a1 a2 H) rfl rfl rfl rfl ?_
              refine a_w3p (args := [(0, fn_102 a1 a2 H)]) (Nat.le_succ _) ti_81_56 (mt_92 (fn_102 a1 a2 H) H) rfl rfl rfl rfl ?_
              exact a_w4 (Nat.le_succ _) ti_81_59 rfl rfl rfl
            · refine a_w0 (Nat.le_succ _) ti_81_43 rfl ?_
              refine a_w0 (Nat.le_succ _) ti_81_44 rfl ?_
              refine a_w0 (Nat.le_succ _) ti_81_45 rfl ?_
              refine a_w3p (args := [(2, 0), (0, a1), (0, a2)]) (Nat.le_succ _) ti_81_46 (mt_101 a1 a2 H) rfl rfl rfl rfl ?_
              exact a_w4 (Nat.le_succ _) ti_81_49 rfl rfl rfl
          · refine a_w0 (Nat.le_succ _) ti_81_31 rfl ?_
            refine a_w0 (Nat.le_succ _) ti_81_32 rfl ?_
            refine a_w0 (Nat.le_succ _) ti_81_33 rfl ?_
            refine a_w3p (args := [(2, 0), (0, a1), (0, a2)]) (Nat.le_succ _) ti_81_34 (mt_100 a1 a2 H) rfl rfl rfl rfl ?_
            exact a_w4 (Nat.le_succ _) ti_81_37 rfl rfl rfl
        · exact a_wk (hj25 ()) (by omega) trivial
/-- CarriedGate.hoursIn(II)I -/
noncomputable def fn_103 (a1 : Int) (a2 : Int) (H : a_P) : a_F :=
  a_bd (fn_10 7 1 H) fun H1 =>
  a_lp (fun (s1 : Int × Int × a_P) => (0, s1.2.2)) (fun (s1 : Int × Int × a_P) n16 => (if s1.2.1 < a2 then a_bd (fn_28 7 s1.2.2) fun H2 =>
  a_jn (fun (s2 : Int) => a_bd (fn_30 7 H2) fun H3 =>
  a_bd (a_w (s1.2.1 + 1)) fun x1 =>
  n16 (s2, x1, H3)) fun j47 =>
  (if (fn_21 7 a1 H2) = 0 then j47 s1.1
  else a_bd (a_or s1.1 (a_shl 1 s1.2.1)) fun x2 =>
  j47 x2)
  else (s1.1, s1.2.2))) a_fuel (0, 0, H1)
theorem ti_103_0 : (q_I 103).2 0 = some (0, 4, 0, 0, 2, 1, []) := rfl
theorem ti_103_1 : (q_I 103).2 1 = some (1, 0, 16, 5, 1, 4, [232]) := rfl
theorem ti_103_4 : (q_I 103).2 4 = some (0, 4, 0, 0, 2, 5, []) := rfl
theorem ti_103_5 : (q_I 103).2 5 = some (1, 0, 10, 5, 0, 8, [231]) := rfl
theorem ti_103_8 : (q_I 103).2 8 = some (3, 0, 126, 10, 2, 11, [466, 2]) := rfl
theorem ti_103_11 : (q_I 103).2 11 = some (2, 0, 0, 0, 0, 12, []) := rfl
theorem ti_103_12 : (q_I 103).2 12 = some (11, 0, 0, 3, 0, 13, []) := rfl
theorem ti_103_13 : (q_I 103).2 13 = some (2, 0, 0, 0, 0, 14, []) := rfl
theorem ti_103_14 : (q_I 103).2 14 = some (11, 1, 0, 4, 0, 16, []) := rfl
theorem ti_103_16 : (q_I 103).2 16 = some (0, 1, 0, 4, 0, 18, []) := rfl
theorem ti_103_18 : (q_I 103).2 18 = some (0, 0, 0, 2, 0, 19, []) := rfl
theorem ti_103_19 : (q_I 103).2 19 = some (9, 3, 0, 60, 0, 22, []) := rfl
theorem ti_103_22 : (q_I 103).2 22 = some (0, 4, 0, 0, 2, 23, []) := rfl
theorem ti_103_23 : (q_I 103).2 23 = some (1, 0, 16, 5, 1, 26, [232]) := rfl
theorem ti_103_26 : (q_I 103).2 26 = some (3, 0, 309, 28, 1, 29, [711, 2]) := rfl
theorem ti_103_29 : (q_I 103).2 29 = some (0, 4, 0, 0, 2, 30, []) := rfl
theorem ti_103_30 : (q_I 103).2 30 = some (1, 0, 16, 5, 1, 33, [232]) := rfl
theorem ti_103_33 : (q_I 103).2 33 = some (0, 0, 0, 1, 0, 34, []) := rfl
theorem ti_103_34 : (q_I 103).2 34 = some (3, 0, 98, 21, 2, 37, [288, 2]) := rfl
theorem ti_103_37 : (q_I 103).2 37 = some (8, 0, 0, 47, 0, 40, []) := rfl
theorem ti_103_40 : (q_I 103).2 40 = some (0, 0, 0, 3, 0, 41, []) := rfl
theorem ti_103_41 : (q_I 103).2 41 = some (2, 0, 1, 0, 0, 42, []) := rfl
theorem ti_103_42 : (q_I 103).2 42 = some (0, 1, 0, 4, 0, 44, []) := rfl
theorem ti_103_44 : (q_I 103).2 44 = some (6, 8, 0, 0, 0, 45, []) := rfl
theorem ti_103_45 : (q_I 103).2 45 = some (6, 6, 0, 0, 0, 46, []) := rfl
theorem ti_103_46 : (q_I 103).2 46 = some (11, 0, 0, 3, 0, 47, []) := rfl
theorem ti_103_47 : (q_I 103).2 47 = some (0, 4, 0, 0, 2, 48, []) := rfl
theorem ti_103_48 : (q_I 103).2 48 = some (1, 0, 16, 5, 1, 51, [232]) := rfl
theorem ti_103_51 : (q_I 103).2 51 = some (3, 0, 312, 30, 1, 54, [712, 2]) := rfl
theorem ti_103_54 : (q_I 103).2 54 = some (13, 0, 1, 4, 0, 57, []) := rfl
theorem ti_103_57 : (q_I 103).2 57 = some (7, 0, 0, 16, 0, 60, []) := rfl
theorem ti_103_60 : (q_I 103).2 60 = some (0, 0, 0, 3, 0, 61, []) := rfl
theorem ti_103_61 : (q_I 103).2 61 = some (4, 0, 0, 0, 0, 62, []) := rfl
theorem mt_103 (a1 : Int) (a2 : Int) (H : a_P) : a_mt id 0 103 [(2, 0), (0, a1), (0, a2)] H (fn_103 a1 a2 H) := by
  refine a_mtI (lo := [some (2, 0), some (0, a1), some (0, a2), none, none]) rfl fun d => ?_
  unfold fn_103
  refine a_w0 (Nat.le_succ _) ti_103_0 rfl ?_
  refine a_w1 (a := (2, 7)) (Nat.le_succ _) ti_103_1 rfl ?_
  refine a_w0 (Nat.le_succ _) ti_103_4 rfl ?_
  refine a_w1 (a := (2, 1)) (Nat.le_succ _) ti_103_5 rfl ?_
  refine a_w3v (args := [(2, 7), (2, 1)]) (Nat.le_succ _) ti_103_8 (mt_10 7 1 H) rfl rfl (fun H1 => ?_)
  refine a_w2 (z := 0) (Nat.le_succ _) ti_103_11 (by decide) ?_
  refine a_w11 (lo' := [some (2, 0), some (0, a1), some (0, a2), some (0, 0), none]) (Nat.le_succ _) ti_103_12 rfl ?_
  refine a_w2 (z := 0) (Nat.le_succ _) ti_103_13 (by decide) ?_
  refine a_w11 (lo' := [some (2, 0), some (0, a1), some (0, a2), some (0, 0), some (0, 0)]) (Nat.le_succ _) ti_103_14 rfl ?_
  refine a_wk (a_wlp (fun (s : Int × Int × a_P) => [some (2, 0), some (0, a1), some (0, a2), some (0, s.1), some (0, s.2.1)]) (fun (s : Int × Int × a_P) => s.2.2) (fun N1 hN1 n16 hn16 s1 => ?_) a_fuel (a_fuel_le (by omega)) (0, 0, H1)) (Nat.le_refl _) ⟨rfl, rfl, rfl, rfl, rfl, trivial⟩
  · refine a_w0 (Nat.le_refl _) ti_103_16 rfl ?_
    refine a_w0 (Nat.le_succ _) ti_103_18 rfl ?_
    refine a_w9_3 (Nat.le_succ _) ti_103_19 ?_ ?_
    · refine a_w0 (Nat.le_succ _) ti_103_60 rfl ?_
      exact a_w4 (Nat.le_succ _) ti_103_61 rfl rfl rfl
    · refine a_w0 (Nat.le_succ _) ti_103_22 rfl ?_
      refine a_w1 (a := (2, 7)) (Nat.le_succ _) ti_103_23 rfl ?_
      refine a_w3v (args := [(2, 7)]) (Nat.le_succ _) ti_103_26 (mt_28 7 s1.2.2) rfl rfl (fun H2 => ?_)
      refine a_w0 (Nat.le_succ _) ti_103_29 rfl ?_
      refine a_w1 (a := (2, 7)) (Nat.le_succ _) ti_103_30 rfl ?_
      refine a_w0 (Nat.le_succ _) ti_103_33 rfl ?_
      refine a_w3p (args := [(2, 7), (0, a1)]) (Nat.le_succ _) ti_103_34 (mt_21 7 a1 H2) rfl rfl rfl rfl ?_
      refine a_wjn 47 (fun (s : Int) => [some (2, 0), some (0, a1), some (0, a2), some (0, s), some (0, s1.2.1)]) (fun (s : Int) => []) (fun (s : Int) => H2) (fun s2 => ?_) (fun j47 hj47 => ?_)
      · refine a_w0 (Nat.le_succ _) ti_103_47 rfl ?_
        refine a_w1 (a := (2, 7)) (Nat.le_succ _) ti_103_48 rfl ?_
        refine a_w3v (args := [(2, 7)]) (Nat.le_succ _) ti_103_51 (mt_30 7 H2) rfl rfl (fun H3 => ?_)
        refine a_w13 (c' := 1) (lof := fun x1 => [some (2, 0), some (0, a1), some (0, a2), some (0, s2), some (0, x1)]) (Nat.le_succ _) ti_103_54 rfl (by decide) rfl (fun _ => rfl) (fun x1 => ?_)
        refine a_w7 (Nat.le_succ _) ti_103_57 ?_
        exact a_wk (hn16 (s2, x1, H3)) (by omega) ⟨rfl, rfl, rfl, rfl, rfl, trivial⟩
      · refine a_w8_0 (Nat.le_succ _) ti_103_37 ?_ ?_
        · exact a_wk (hj47 s1.1) (by omega) ⟨rfl, rfl, rfl, rfl, rfl, trivial⟩
        · refine a_w0 (Nat.le_succ _) ti_103_40 rfl ?_
          refine a_w2 (z := 1) (Nat.le_succ _) ti_103_41 (by decide) ?_
          refine a_w0 (Nat.le_succ _) ti_103_42 rfl ?_
          refine a_w6 (a := (0, a_shl 1 s1.2.1)) (Nat.le_succ _) ti_103_44 rfl ?_
          refine a_w6 (a := (0, a_or s1.1 (a_shl 1 s1.2.1))) (Nat.le_succ _) ti_103_45 rfl ?_
          refine a_w11b (lof := fun x2 => [some (2, 0), some (0, a1), some (0, a2), some (0, x2), some (0, s1.2.1)]) (Nat.le_succ _) ti_103_46 (fun _ => rfl) (fun x2 => ?_)
          exact a_wk (hj47 x2) (by omega) ⟨rfl, rfl, rfl, rfl, rfl, trivial⟩
/-- CarriedGate.wetBehind(III)I -/
noncomputable def fn_104 (a1 : Int) (a2 : Int) (a3 : Int) (H : a_P) : Int :=
  a_bd (H 6 a1) fun x1 =>
  a_lp (fun (s1 : Int × Int) => 0) (fun (s1 : Int × Int) n14 => (if s1.2 < a2 then a_jn (fun (s2 : Int) => a_bd (a_w (s1.2 + 1)) fun x2 =>
  n14 (s2, x2)) fun j46 =>
  (if (a_and (a_shr a3 s1.2) 1) = 1 then a_bd (fn_25 (H 2 a1) s1.1) fun x3 =>
  j46 x3
  else j46 s1.1)
  else s1.1)) a_fuel (x1, 0)
theorem ti_104_0 : (q_I 104).2 0 = some (0, 4, 0, 0, 2, 1, []) := rfl
theorem ti_104_1 : (q_I 104).2 1 = some (1, 0, 10, 5, 0, 4, [231]) := rfl
theorem ti_104_4 : (q_I 104).2 4 = some (1, 0, 95, 2, 11, 7, [112]) := rfl
theorem ti_104_7 : (q_I 104).2 7 = some (0, 0, 0, 1, 0, 8, []) := rfl
theorem ti_104_8 : (q_I 104).2 8 = some (5, 10, 0, 0, 0, 9, []) := rfl
theorem ti_104_9 : (q_I 104).2 9 = some (11, 1, 0, 4, 0, 11, []) := rfl
theorem ti_104_11 : (q_I 104).2 11 = some (2, 0, 0, 0, 0, 12, []) := rfl
theorem ti_104_12 : (q_I 104).2 12 = some (11, 1, 0, 5, 0, 14, []) := rfl
theorem ti_104_14 : (q_I 104).2 14 = some (0, 1, 0, 5, 0, 16, []) := rfl
theorem ti_104_16 : (q_I 104).2 16 = some (0, 0, 0, 2, 0, 17, []) := rfl
theorem ti_104_17 : (q_I 104).2 17 = some (9, 3, 0, 52, 0, 20, []) := rfl
theorem ti_104_20 : (q_I 104).2 20 = some (0, 0, 0, 3, 0, 21, []) := rfl
theorem ti_104_21 : (q_I 104).2 21 = some (0, 1, 0, 5, 0, 23, []) := rfl
theorem ti_104_23 : (q_I 104).2 23 = some (6, 9, 0, 0, 0, 24, []) := rfl
theorem ti_104_24 : (q_I 104).2 24 = some (2, 0, 1, 0, 0, 25, []) := rfl
theorem ti_104_25 : (q_I 104).2 25 = some (6, 5, 0, 0, 0, 26, []) := rfl
theorem ti_104_26 : (q_I 104).2 26 = some (2, 0, 1, 0, 0, 27, []) := rfl
theorem ti_104_27 : (q_I 104).2 27 = some (9, 1, 0, 46, 0, 30, []) := rfl
theorem ti_104_30 : (q_I 104).2 30 = some (0, 4, 0, 0, 2, 31, []) := rfl
theorem ti_104_31 : (q_I 104).2 31 = some (1, 0, 10, 5, 0, 34, [231]) := rfl
theorem ti_104_34 : (q_I 104).2 34 = some (1, 0, 83, 2, 7, 37, [104]) := rfl
theorem ti_104_37 : (q_I 104).2 37 = some (0, 0, 0, 1, 0, 38, []) := rfl
theorem ti_104_38 : (q_I 104).2 38 = some (5, 10, 0, 0, 0, 39, []) := rfl
theorem ti_104_39 : (q_I 104).2 39 = some (0, 1, 0, 4, 0, 41, []) := rfl
theorem ti_104_41 : (q_I 104).2 41 = some (3, 1, 315, 25, 2, 44, [717, 2]) := rfl
theorem ti_104_44 : (q_I 104).2 44 = some (11, 1, 0, 4, 0, 46, []) := rfl
theorem ti_104_46 : (q_I 104).2 46 = some (13, 0, 1, 5, 0, 49, []) := rfl
theorem ti_104_49 : (q_I 104).2 49 = some (7, 0, 0, 14, 0, 52, []) := rfl
theorem ti_104_52 : (q_I 104).2 52 = some (0, 1, 0, 4, 0, 54, []) := rfl
theorem ti_104_54 : (q_I 104).2 54 = some (4, 0, 0, 0, 0, 55, []) := rfl
theorem mt_104 (a1 : Int) (a2 : Int) (a3 : Int) (H : a_P) : a_mt (a_pp H) 0 104 [(2, 0), (0, a1), (0, a2), (0, a3)] H (fn_104 a1 a2 a3 H) := by
  refine a_mtI (lo := [some (2, 0), some (0, a1), some (0, a2), some (0, a3), none, none]) rfl fun d => ?_
  unfold fn_104
  refine a_w0 (Nat.le_succ _) ti_104_0 rfl ?_
  refine a_w1 (a := (2, 1)) (Nat.le_succ _) ti_104_1 rfl ?_
  refine a_w1 (a := (2, 6)) (Nat.le_succ _) ti_104_4 rfl ?_
  refine a_w0 (Nat.le_succ _) ti_104_7 rfl ?_
  refine a_w5 (kk := 0) (Nat.le_succ _) ti_104_8 (fun _ => rfl) ?_
  refine a_w11b (lof := fun x1 => [some (2, 0), some (0, a1), some (0, a2), some (0, a3), some (0, x1), none]) (Nat.le_succ _) ti_104_9 (fun _ => rfl) (fun x1 => ?_)
  refine a_w2 (z := 0) (Nat.le_succ _) ti_104_11 (by decide) ?_
  refine a_w11 (lo' := [some (2, 0), some (0, a1), some (0, a2), some (0, a3), some (0, x1), some (0, 0)]) (Nat.le_succ _) ti_104_12 rfl ?_
  refine a_wk (a_wlp (fun (s : Int × Int) => [some (2, 0), some (0, a1), some (0, a2), some (0, a3), some (0, s.1), some (0, s.2)]) (fun (s : Int × Int) => H) (fun N1 hN1 n14 hn14 s1 => ?_) a_fuel (a_fuel_le (by omega)) (x1, 0)) (Nat.le_refl _) ⟨rfl, rfl, rfl, rfl, rfl, rfl, trivial⟩
  · refine a_w0 (Nat.le_refl _) ti_104_14 rfl ?_
    refine a_w0 (Nat.le_succ _) ti_104_16 rfl ?_
    refine a_w9_3 (Nat.le_succ _) ti_104_17 ?_ ?_
    · refine a_w0 (Nat.le_succ _) ti_104_52 rfl ?_
      exact a_w4 (Nat.le_succ _) ti_104_54 rfl rfl rfl
    · refine a_w0 (Nat.le_succ _) ti_104_20 rfl ?_
      refine a_w0 (Nat.le_succ _) ti_104_21 rfl ?_
      refine a_w6 (a := (0, a_shr a3 s1.2)) (Nat.le_succ _) ti_104_23 rfl ?_
      refine a_w2 (z := 1) (Nat.le_succ _) ti_104_24 (by decide) ?_
      refine a_w6 (a := (0, a_and (a_shr a3 s1.2) 1)) (Nat.le_succ _) ti_104_25 rfl ?_
      refine a_w2 (z := 1) (Nat.le_succ _) ti_104_26 (by decide) ?_
      refine a_wjn 46 (fun (s : Int) => [some (2, 0), some (0, a1), some (0, a2), some (0, a3), some (0, s), some (0, s1.2)]) (fun (s : Int) => []) (fun (s : Int) => H) (fun s2 => ?_) (fun j46 hj46 => ?_)
      · refine a_w13 (c' := 1) (lof := fun x2 => [some (2, 0), some (0, a1), some (0, a2), some (0, a3), some (0, s2), some (0, x2)]) (Nat.le_succ _) ti_104_46 rfl (by decide) rfl (fun _ => rfl) (fun x2 => ?_)
        refine a_w7 (Nat.le_succ _) ti_104_49 ?_
        exact a_wk (hn14 (s2, x2)) (by omega) ⟨rfl, rfl, rfl, rfl, rfl, rfl, trivial⟩
      · refine a_w9_1 (Nat.le_succ _) ti_104_27 ?_ ?_
        · exact a_wk (hj46 s1.1) (by omega) ⟨rfl, rfl, rfl, rfl, rfl, rfl, trivial⟩
        · refine a_w0 (Nat.le_succ _) ti_104_30 rfl ?_
          refine a_w1 (a := (2, 1)) (Nat.le_succ _) ti_104_31 rfl ?_
          refine a_w1 (a := (2, 2)) (Nat.le_succ _) ti_104_34 rfl ?_
          refine a_w0 (Nat.le_succ _) ti_104_37 rfl ?_
          refine a_w5 (kk := 0) (Nat.le_succ _) ti_104_38 (fun _ => rfl) ?_
          refine a_w0 (Nat.le_succ _) ti_104_39 rfl ?_
          refine a_w3p (args := [(0, H 2 a1), (0, s1.1)]) (Nat.le_succ _) ti_104_41 (mt_25 (H 2 a1) s1.1 H) rfl rfl rfl rfl ?_
          refine a_w11b (lof := fun x3 => [some (2, 0), some (0, a1), some (0, a2), some (0, a3), some (0, x3), some (0, s1.2)]) (Nat.le_succ _) ti_104_44 (fun _ => rfl) (fun x3 => ?_)
          exact a_wk (hj46 x3) (by omega) ⟨rfl, rfl, rfl, rfl, rfl, rfl, trivial⟩
/-- CarriedGate.oddsOf(III)I -/
noncomputable def fn_105 (a0 : Int) (a1 : Int) (a2 : Int) : Int :=
  a_lp (fun (s1 : Int × Int) => 0) (fun (s1 : Int × Int) n5 => (if s1.2 < a1 then a_jn (fun (s2 : Int) => a_bd (a_w (s1.1 * s2)) fun x1 =>
  a_bd (a_w (s1.2 + 1)) fun x2 =>
  n5 (x1, x2)) fun j30 =>
  (if (a_and (a_shr a0 s1.2) 1) = 1 then j30 a2
  else j30 (a_w (10 - a2)))
  else s1.1)) a_fuel (1, 0)
theorem ti_105_0 : (q_I 105).2 0 = some (2, 0, 1, 0, 0, 1, []) := rfl
theorem ti_105_1 : (q_I 105).2 1 = some (11, 0, 0, 3, 0, 2, []) := rfl
theorem ti_105_2 : (q_I 105).2 2 = some (2, 0, 0, 0, 0, 3, []) := rfl
theorem ti_105_3 : (q_I 105).2 3 = some (11, 1, 0, 4, 0, 5, []) := rfl
theorem ti_105_5 : (q_I 105).2 5 = some (0, 1, 0, 4, 0, 7, []) := rfl
theorem ti_105_7 : (q_I 105).2 7 = some (0, 0, 0, 1, 0, 8, []) := rfl
theorem ti_105_8 : (q_I 105).2 8 = some (9, 3, 0, 38, 0, 11, []) := rfl
theorem ti_105_11 : (q_I 105).2 11 = some (0, 0, 0, 3, 0, 12, []) := rfl
theorem ti_105_12 : (q_I 105).2 12 = some (0, 0, 0, 0, 0, 13, []) := rfl
theorem ti_105_13 : (q_I 105).2 13 = some (0, 1, 0, 4, 0, 15, []) := rfl
theorem ti_105_15 : (q_I 105).2 15 = some (6, 9, 0, 0, 0, 16, []) := rfl
theorem ti_105_16 : (q_I 105).2 16 = some (2, 0, 1, 0, 0, 17, []) := rfl
theorem ti_105_17 : (q_I 105).2 17 = some (6, 5, 0, 0, 0, 18, []) := rfl
theorem ti_105_18 : (q_I 105).2 18 = some (2, 0, 1, 0, 0, 19, []) := rfl
theorem ti_105_19 : (q_I 105).2 19 = some (9, 1, 0, 26, 0, 22, []) := rfl
theorem ti_105_22 : (q_I 105).2 22 = some (0, 0, 0, 2, 0, 23, []) := rfl
theorem ti_105_23 : (q_I 105).2 23 = some (7, 0, 0, 30, 0, 26, []) := rfl
theorem ti_105_26 : (q_I 105).2 26 = some (2, 1, 10, 0, 0, 28, []) := rfl
theorem ti_105_28 : (q_I 105).2 28 = some (0, 0, 0, 2, 0, 29, []) := rfl
theorem ti_105_29 : (q_I 105).2 29 = some (6, 1, 0, 0, 0, 30, []) := rfl
theorem ti_105_30 : (q_I 105).2 30 = some (6, 2, 0, 0, 0, 31, []) := rfl
theorem ti_105_31 : (q_I 105).2 31 = some (11, 0, 0, 3, 0, 32, []) := rfl
theorem ti_105_32 : (q_I 105).2 32 = some (13, 0, 1, 4, 0, 35, []) := rfl
theorem ti_105_35 : (q_I 105).2 35 = some (7, 0, 0, 5, 0, 38, []) := rfl
theorem ti_105_38 : (q_I 105).2 38 = some (0, 0, 0, 3, 0, 39, []) := rfl
theorem ti_105_39 : (q_I 105).2 39 = some (4, 0, 0, 0, 0, 40, []) := rfl
theorem mt_105 (a0 : Int) (a1 : Int) (a2 : Int) (H : a_P) : a_mt (a_pp H) 0 105 [(0, a0), (0, a1), (0, a2)] H (fn_105 a0 a1 a2) := by
  refine a_mtI (lo := [some (0, a0), some (0, a1), some (0, a2), none, none]) rfl fun d => ?_
  unfold fn_105
  refine a_w2 (z := 1) (Nat.le_succ _) ti_105_0 (by decide) ?_
  refine a_w11 (lo' := [some (0, a0), some (0, a1), some (0, a2), some (0, 1), none]) (Nat.le_succ _) ti_105_1 rfl ?_
  refine a_w2 (z := 0) (Nat.le_succ _) ti_105_2 (by decide) ?_
  refine a_w11 (lo' := [some (0, a0), some (0, a1), some (0, a2), some (0, 1), some (0, 0)]) (Nat.le_succ _) ti_105_3 rfl ?_
  refine a_wk (a_wlp (fun (s : Int × Int) => [some (0, a0), some (0, a1), some (0, a2), some (0, s.1), some (0, s.2)]) (fun (s : Int × Int) => H) (fun N1 hN1 n5 hn5 s1 => ?_) a_fuel (a_fuel_le (by omega)) (1, 0)) (Nat.le_refl _) ⟨rfl, rfl, rfl, rfl, rfl, trivial⟩
  · refine a_w0 (Nat.le_refl _) ti_105_5 rfl ?_
    refine a_w0 (Nat.le_succ _) ti_105_7 rfl ?_
    refine a_w9_3 (Nat.le_succ _) ti_105_8 ?_ ?_
    · refine a_w0 (Nat.le_succ _) ti_105_38 rfl ?_
      exact a_w4 (Nat.le_succ _) ti_105_39 rfl rfl rfl
    · refine a_w0 (Nat.le_succ _) ti_105_11 rfl ?_
      refine a_w0 (Nat.le_succ _) ti_105_12 rfl ?_
      refine a_w0 (Nat.le_succ _) ti_105_13 rfl ?_
      refine a_w6 (a := (0, a_shr a0 s1.2)) (Nat.le_succ _) ti_105_15 rfl ?_
      refine a_w2 (z := 1) (Nat.le_succ _) ti_105_16 (by decide) ?_
      refine a_w6 (a := (0, a_and (a_shr a0 s1.2) 1)) (Nat.le_succ _) ti_105_17 rfl ?_
      refine a_w2 (z := 1) (Nat.le_succ _) ti_105_18 (by decide) ?_
      refine a_wjn 30 (fun (s : Int) => [some (0, a0), some (0, a1), some (0, a2), none, some (0, s1.2)]) (fun (s : Int) => [(0, s), (0, s1.1)]) (fun (s : Int) => H) (fun s2 => ?_) (fun j30 hj30 => ?_)
      · refine a_w6 (a := (0, a_w (s1.1 * s2))) (Nat.le_succ _) ti_105_30 rfl ?_
        refine a_w11b (lof := fun x1 => [some (0, a0), some (0, a1), some (0, a2), some (0, x1), some (0, s1.2)]) (Nat.le_succ _) ti_105_31 (fun _ => rfl) (fun x1 => ?_)
        refine a_w13 (c' := 1) (lof := fun x2 => [some (0, a0), some (0, a1), some (0, a2), some (0, x1), some (0, x2)]) (Nat.le_succ _) ti_105_32 rfl (by decide) rfl (fun _ => rfl) (fun x2 => ?_)
        refine a_w7 (Nat.le_succ _) ti_105_35 ?_
        exact a_wk (hn5 (x1, x2)) (by omega) ⟨rfl, rfl, rfl, rfl, rfl, trivial⟩
      · refine a_w9_1 (Nat.le_succ _) ti_105_19 ?_ ?_
        · refine a_w2 (z := 10) (Nat.le_succ _) ti_105_26 (by decide) ?_
          refine a_w0 (Nat.le_succ _) ti_105_28 rfl ?_
          refine a_w6 (a := (0, a_w (10 - a2))) (Nat.le_succ _) ti_105_29 rfl ?_
          exact a_wk (hj30 (a_w (10 - a2))) (by omega) ⟨rfl, rfl, rfl, rfl, trivial⟩
        · refine a_w0 (Nat.le_succ _) ti_105_22 rfl ?_
          refine a_w7 (Nat.le_succ _) ti_105_23 ?_
          exact a_wk (hj30 a2) (by omega) ⟨rfl, rfl, rfl, rfl, trivial⟩

/-- CarriedGate$Tape.readPerson(LCarriedGate$Plain;)V -/
noncomputable def fn_46 (a1 : Int) (H : a_P) : a_P :=
  a_bd (fn_51 74 H) fun g1 =>
  a_bd (fn_52 35 g1.2) fun g2 =>
  a_bd (fn_51 76 g2.2) fun g3 =>
  a_bd (fn_52 20 g3.2) fun g4 =>
  (if (g4.2 119 3) = 0 then a_bd (fn_11 a1 g1.1 g2.1 g3.1 g4.1 g4.2) fun g5 =>
  a_bd (fn_48 g5.2) fun g6 =>
  (if g6.1 = 42 then a_jn (fun (s1 : Unit) => a_bd (fn_47 (g6.2 119 2) g6.2) fun H1 =>
  H1) fun j81 =>
  (if (fn_14 a1 g6.2) = 0 then (if g4.1 < 1 then j81 ()
  else (if g2.1 = (g6.2 a1 0) then a_bd (a_up g6.2 119 2 (a_w ((g6.2 119 2) + 1))) fun H2 =>
  a_bd (a_up H2 a1 2 g5.1) fun H3 =>
  H3
  else j81 ()))
  else j81 ())
  else g6.2)
  else g4.2)
theorem ti_46_0 : (q_I 46).2 0 = some (0, 4, 0, 0, 2, 1, []) := rfl
theorem ti_46_1 : (q_I 46).2 1 = some (24, 0, 0, 74, 0, 3, [462]) := rfl
theorem ti_46_3 : (q_I 46).2 3 = some (3, 0, 45, 51, 2, 6, [360, 4]) := rfl
theorem ti_46_6 : (q_I 46).2 6 = some (11, 0, 0, 2, 0, 7, []) := rfl
theorem ti_46_7 : (q_I 46).2 7 = some (0, 4, 0, 0, 2, 8, []) := rfl
theorem ti_46_8 : (q_I 46).2 8 = some (2, 1, 35, 0, 0, 10, []) := rfl
theorem ti_46_10 : (q_I 46).2 10 = some (3, 0, 36, 52, 2, 13, [340, 4]) := rfl
theorem ti_46_13 : (q_I 46).2 13 = some (11, 0, 0, 3, 0, 14, []) := rfl
theorem ti_46_14 : (q_I 46).2 14 = some (0, 4, 0, 0, 2, 15, []) := rfl
theorem ti_46_15 : (q_I 46).2 15 = some (24, 0, 0, 76, 0, 17, [463]) := rfl
theorem ti_46_17 : (q_I 46).2 17 = some (3, 0, 45, 51, 2, 20, [360, 4]) := rfl
theorem ti_46_20 : (q_I 46).2 20 = some (11, 1, 0, 4, 0, 22, []) := rfl
theorem ti_46_22 : (q_I 46).2 22 = some (0, 4, 0, 0, 2, 23, []) := rfl
theorem ti_46_23 : (q_I 46).2 23 = some (2, 1, 20, 0, 0, 25, []) := rfl
theorem ti_46_25 : (q_I 46).2 25 = some (3, 0, 36, 52, 2, 28, [340, 4]) := rfl
theorem ti_46_28 : (q_I 46).2 28 = some (11, 1, 0, 5, 0, 30, []) := rfl
theorem ti_46_30 : (q_I 46).2 30 = some (0, 4, 0, 0, 2, 31, []) := rfl
theorem ti_46_31 : (q_I 46).2 31 = some (1, 0, 22, 4, 3, 34, [169]) := rfl
theorem ti_46_34 : (q_I 46).2 34 = some (8, 0, 0, 38, 0, 37, []) := rfl
theorem ti_46_37 : (q_I 46).2 37 = some (4, 4, 0, 0, 0, 38, []) := rfl
theorem ti_46_38 : (q_I 46).2 38 = some (0, 4, 0, 1, 2, 39, []) := rfl
theorem ti_46_39 : (q_I 46).2 39 = some (0, 0, 0, 2, 0, 40, []) := rfl
theorem ti_46_40 : (q_I 46).2 40 = some (0, 0, 0, 3, 0, 41, []) := rfl
theorem ti_46_41 : (q_I 46).2 41 = some (0, 1, 0, 4, 0, 43, []) := rfl
theorem ti_46_43 : (q_I 46).2 43 = some (0, 1, 0, 5, 0, 45, []) := rfl
theorem ti_46_45 : (q_I 46).2 45 = some (3, 0, 78, 11, 5, 48, [464, 2]) := rfl
theorem ti_46_48 : (q_I 46).2 48 = some (11, 1, 0, 6, 0, 50, []) := rfl
theorem ti_46_50 : (q_I 46).2 50 = some (0, 4, 0, 0, 2, 51, []) := rfl
theorem ti_46_51 : (q_I 46).2 51 = some (3, 0, 63, 48, 1, 54, [344, 4]) := rfl
theorem ti_46_54 : (q_I 46).2 54 = some (2, 1, 42, 0, 0, 56, []) := rfl
theorem ti_46_56 : (q_I 46).2 56 = some (9, 0, 0, 60, 0, 59, []) := rfl
theorem ti_46_59 : (q_I 46).2 59 = some (4, 4, 0, 0, 0, 60, []) := rfl
theorem ti_46_60 : (q_I 46).2 60 = some (0, 4, 0, 1, 2, 61, []) := rfl
theorem ti_46_61 : (q_I 46).2 61 = some (3, 0, 82, 14, 1, 64, [465, 2]) := rfl
theorem ti_46_64 : (q_I 46).2 64 = some (8, 1, 0, 81, 0, 67, []) := rfl
theorem ti_46_67 : (q_I 46).2 67 = some (0, 1, 0, 5, 0, 69, []) := rfl
theorem ti_46_69 : (q_I 46).2 69 = some (2, 0, 1, 0, 0, 70, []) := rfl
theorem ti_46_70 : (q_I 46).2 70 = some (9, 2, 0, 81, 0, 73, []) := rfl
theorem ti_46_73 : (q_I 46).2 73 = some (0, 0, 0, 3, 0, 74, []) := rfl
theorem ti_46_74 : (q_I 46).2 74 = some (0, 4, 0, 1, 2, 75, []) := rfl
theorem ti_46_75 : (q_I 46).2 75 = some (1, 0, 40, 2, 0, 78, [84]) := rfl
theorem ti_46_78 : (q_I 46).2 78 = some (9, 0, 0, 90, 0, 81, []) := rfl
theorem ti_46_90 : (q_I 46).2 90 = some (0, 4, 0, 0, 2, 91, []) := rfl
theorem ti_46_91 : (q_I 46).2 91 = some (16, 0, 0, 0, 0, 92, []) := rfl
theorem ti_46_92 : (q_I 46).2 92 = some (1, 0, 19, 4, 2, 95, [168]) := rfl
theorem ti_46_95 : (q_I 46).2 95 = some (2, 0, 1, 0, 0, 96, []) := rfl
theorem ti_46_96 : (q_I 46).2 96 = some (6, 0, 0, 0, 0, 97, []) := rfl
theorem ti_46_97 : (q_I 46).2 97 = some (10, 0, 19, 4, 2, 100, [168]) := rfl
theorem ti_46_100 : (q_I 46).2 100 = some (0, 4, 0, 1, 2, 101, []) := rfl
theorem ti_46_101 : (q_I 46).2 101 = some (0, 1, 0, 6, 0, 103, []) := rfl
theorem ti_46_103 : (q_I 46).2 103 = some (10, 0, 30, 2, 2, 106, [90]) := rfl
theorem ti_46_106 : (q_I 46).2 106 = some (4, 4, 0, 0, 0, 107, []) := rfl
theorem ti_46_81 : (q_I 46).2 81 = some (0, 4, 0, 0, 2, 82, []) := rfl
theorem ti_46_82 : (q_I 46).2 82 = some (0, 4, 0, 0, 2, 83, []) := rfl
theorem ti_46_83 : (q_I 46).2 83 = some (1, 0, 19, 4, 2, 86, [168]) := rfl
theorem ti_46_86 : (q_I 46).2 86 = some (3, 0, 67, 47, 2, 89, [355, 4]) := rfl
theorem ti_46_89 : (q_I 46).2 89 = some (4, 4, 0, 0, 0, 90, []) := rfl
theorem mt_46 (a1 : Int) (H : a_P) : a_mt a_pv 9 46 [(2, 119), (2, a1)] H (fn_46 a1 H) := by
  refine a_mtI (lo := [some (2, 119), some (2, a1), none, none, none, none, none]) rfl fun d => ?_
  unfold fn_46
  refine a_w0 (Nat.le_succ _) ti_46_0 rfl ?_
  refine a_w24 (z := 74) (Nat.le_succ _) ti_46_1 (by decide) ?_
  refine a_w3i (args := [(2, 119), (2, 74)]) (Nat.le_succ _) ti_46_3 (mt_51 74 H) (fun _ => rfl) rfl rfl (fun g1 => ?_)
  refine a_w11 (lo' := [some (2, 119), some (2, a1), some (0, g1.1), none, none, none, none]) (Nat.le_succ _) ti_46_6 rfl ?_
  refine a_w0 (Nat.le_succ _) ti_46_7 rfl ?_
  refine a_w2 (z := 35) (Nat.le_succ _) ti_46_8 (by decide) ?_
  refine a_w3i (args := [(2, 119), (0, 35)]) (Nat.le_succ _) ti_46_10 (mt_52 35 g1.2) (fun _ => rfl) rfl rfl (fun g2 => ?_)
  refine a_w11 (lo' := [some (2, 119), some (2, a1), some (0, g1.1), some (0, g2.1), none, none, none]) (Nat.le_succ _) ti_46_13 rfl ?_
  refine a_w0 (Nat.le_succ _) ti_46_14 rfl ?_
  refine a_w24 (z := 76) (Nat.le_succ _) ti_46_15 (by decide) ?_
  refine a_w3i (args := [(2, 119), (2, 76)]) (Nat.le_succ _) ti_46_17 (mt_51 76 g2.2) (fun _ => rfl) rfl rfl (fun g3 => ?_)
  refine a_w11 (lo' := [some (2, 119), some (2, a1), some (0, g1.1), some (0, g2.1), some (0, g3.1), none, none]) (Nat.le_succ _) ti_46_20 rfl ?_
  refine a_w0 (Nat.le_succ _) ti_46_22 rfl ?_
  refine a_w2 (z := 20) (Nat.le_succ _) ti_46_23 (by decide) ?_
  refine a_w3i (args := [(2, 119), (0, 20)]) (Nat.le_succ _) ti_46_25 (mt_52 20 g3.2) (fun _ => rfl) rfl rfl (fun g4 => ?_)
  refine a_w11 (lo' := [some (2, 119), some (2, a1), some (0, g1.1), some (0, g2.1), some (0, g3.1), some (0, g4.1), none]) (Nat.le_succ _) ti_46_28 rfl ?_
  refine a_w0 (Nat.le_succ _) ti_46_30 rfl ?_
  refine a_w1 (a := (0, g4.2 119 3)) (Nat.le_succ _) ti_46_31 rfl ?_
  refine a_w8_0 (Nat.le_succ _) ti_46_34 ?_ ?_
  · refine a_w0 (Nat.le_succ _) ti_46_38 rfl ?_
    refine a_w0 (Nat.le_succ _) ti_46_39 rfl ?_
    refine a_w0 (Nat.le_succ _) ti_46_40 rfl ?_
    refine a_w0 (Nat.le_succ _) ti_46_41 rfl ?_
    refine a_w0 (Nat.le_succ _) ti_46_43 rfl ?_
    refine a_w3i (args := [(2, a1), (0, g1.1), (0, g2.1), (0, g3.1), (0, g4.1)]) (Nat.le_succ _) ti_46_45 (mt_11 a1 g1.1 g2.1 g3.1 g4.1 g4.2) (fun _ => rfl) rfl rfl (fun g5 => ?_)
    refine a_w11 (lo' := [some (2, 119), some (2, a1), some (0, g1.1), some (0, g2.1), some (0, g3.1), some (0, g4.1), some (0, g5.1)]) (Nat.le_succ _) ti_46_48 rfl ?_
    refine a_w0 (Nat.le_succ _) ti_46_50 rfl ?_
    refine a_w3i (args := [(2, 119)]) (Nat.le_succ _) ti_46_51 (mt_48 g5.2) (fun _ => rfl) rfl rfl (fun g6 => ?_)
    refine a_w2 (z := 42) (Nat.le_succ _) ti_46_54 (by decide) ?_
    refine a_w9_0 (Nat.le_succ _) ti_46_56 ?_ ?_
    · refine a_w0 (Nat.le_succ _) ti_46_60 rfl ?_
      refine a_w3p (args := [(2, a1)]) (Nat.le_succ _) ti_46_61 (mt_14 a1 g6.2) rfl rfl rfl rfl ?_
      refine a_wjn 81 (fun (s : Unit) => [some (2, 119), none, none, none, none, none, none]) (fun (s : Unit) => []) (fun (s : Unit) => g6.2) (fun s1 => ?_) (fun j81 hj81 => ?_)
      · refine a_w0 (Nat.le_succ _) ti_46_81 rfl ?_
        refine a_w0 (Nat.le_succ _) ti_46_82 rfl ?_
        refine a_w1 (a := (0, g6.2 119 2)) (Nat.le_succ _) ti_46_83 rfl ?_
        refine a_w3v (args := [(2, 119), (0, g6.2 119 2)]) (Nat.le_succ _) ti_46_86 (mt_47 (g6.2 119 2) g6.2) rfl rfl (fun H1 => ?_)
        exact a_w4v (Nat.le_succ _) ti_46_89 rfl rfl
      · refine a_w8_1 (Nat.le_succ _) ti_46_64 ?_ ?_
        · exact a_wk (hj81 ()) (by omega) ⟨rfl, trivial⟩
        · refine a_w0 (Nat.le_succ _) ti_46_67 rfl ?_
          refine a_w2 (z := 1) (Nat.le_succ _) ti_46_69 (by decide) ?_
          refine a_w9_2 (Nat.le_succ _) ti_46_70 ?_ ?_
          · exact a_wk (hj81 ()) (by omega) ⟨rfl, trivial⟩
          · refine a_w0 (Nat.le_succ _) ti_46_73 rfl ?_
            refine a_w0 (Nat.le_succ _) ti_46_74 rfl ?_
            refine a_w1 (a := (0, g6.2 a1 0)) (Nat.le_succ _) ti_46_75 rfl ?_
            refine a_w9_0 (Nat.le_succ _) ti_46_78 ?_ ?_
            · refine a_w0 (Nat.le_succ _) ti_46_90 rfl ?_
              refine a_w16 (Nat.le_succ _) ti_46_91 ?_
              refine a_w1 (a := (0, g6.2 119 2)) (Nat.le_succ _) ti_46_92 rfl ?_
              refine a_w2 (z := 1) (Nat.le_succ _) ti_46_95 (by decide) ?_
              refine a_w6 (a := (0, a_w ((g6.2 119 2) + 1))) (Nat.le_succ _) ti_46_96 rfl ?_
              refine a_w10 (Nat.le_succ _) ti_46_97 rfl rfl rfl (fun H2 => ?_)
              refine a_w0 (Nat.le_succ _) ti_46_100 rfl ?_
              refine a_w0 (Nat.le_succ _) ti_46_101 rfl ?_
              refine a_w10 (Nat.le_succ _) ti_46_103 rfl rfl rfl (fun H3 => ?_)
              exact a_w4v (Nat.le_succ _) ti_46_106 rfl rfl
            · exact a_wk (hj81 ()) (by omega) ⟨rfl, trivial⟩
    · exact a_w4v (Nat.le_succ _) ti_46_59 rfl rfl
  · exact a_w4v (Nat.le_succ _) ti_46_37 rfl rfl
/-- CarriedGate$Tape.skips(C)Z -/
noncomputable def fn_50 (a1 : Int) (H : a_P) : a_F :=
  a_jn (fun (s1 : a_P) => (0, s1)) fun j15 =>
  (if (H 119 3) = 0 then a_bd (fn_48 H) fun g1 =>
  (if g1.1 = a1 then a_bd (a_up g1.2 119 2 (a_w ((g1.2 119 2) + 1))) fun H1 =>
  (1, H1)
  else j15 g1.2)
  else j15 H)
theorem ti_50_0 : (q_I 50).2 0 = some (0, 4, 0, 0, 2, 1, []) := rfl
theorem ti_50_1 : (q_I 50).2 1 = some (1, 0, 22, 4, 3, 4, [169]) := rfl
theorem ti_50_4 : (q_I 50).2 4 = some (8, 1, 0, 15, 0, 7, []) := rfl
theorem ti_50_7 : (q_I 50).2 7 = some (0, 4, 0, 0, 2, 8, []) := rfl
theorem ti_50_8 : (q_I 50).2 8 = some (3, 0, 63, 48, 1, 11, [344, 4]) := rfl
theorem ti_50_11 : (q_I 50).2 11 = some (0, 0, 0, 1, 0, 12, []) := rfl
theorem ti_50_12 : (q_I 50).2 12 = some (9, 0, 0, 17, 0, 15, []) := rfl
theorem ti_50_17 : (q_I 50).2 17 = some (0, 4, 0, 0, 2, 18, []) := rfl
theorem ti_50_18 : (q_I 50).2 18 = some (16, 0, 0, 0, 0, 19, []) := rfl
theorem ti_50_19 : (q_I 50).2 19 = some (1, 0, 19, 4, 2, 22, [168]) := rfl
theorem ti_50_22 : (q_I 50).2 22 = some (2, 0, 1, 0, 0, 23, []) := rfl
theorem ti_50_23 : (q_I 50).2 23 = some (6, 0, 0, 0, 0, 24, []) := rfl
theorem ti_50_24 : (q_I 50).2 24 = some (10, 0, 19, 4, 2, 27, [168]) := rfl
theorem ti_50_27 : (q_I 50).2 27 = some (2, 0, 1, 0, 0, 28, []) := rfl
theorem ti_50_28 : (q_I 50).2 28 = some (4, 3, 0, 0, 0, 29, []) := rfl
theorem ti_50_15 : (q_I 50).2 15 = some (2, 0, 0, 0, 0, 16, []) := rfl
theorem ti_50_16 : (q_I 50).2 16 = some (4, 3, 0, 0, 0, 17, []) := rfl
theorem mt_50 (a1 : Int) (H : a_P) : a_mt id 0 50 [(2, 119), (0, a1)] H (fn_50 a1 H) := by
  refine a_mtI (lo := [some (2, 119), some (0, a1)]) rfl fun d => ?_
  unfold fn_50
  refine a_w0 (Nat.le_succ _) ti_50_0 rfl ?_
  refine a_w1 (a := (0, H 119 3)) (Nat.le_succ _) ti_50_1 rfl ?_
  refine a_wjn 15 (fun (s : a_P) => [none, none]) (fun (s : a_P) => []) (fun (s : a_P) => s) (fun s1 => ?_) (fun j15 hj15 => ?_)
  · refine a_w2 (z := 0) (Nat.le_succ _) ti_50_15 (by decide) ?_
    exact a_w4 (Nat.le_succ _) ti_50_16 rfl rfl rfl
  · refine a_w8_1 (Nat.le_succ _) ti_50_4 ?_ ?_
    · exact a_wk (hj15 H) (by omega) trivial
    · refine a_w0 (Nat.le_succ _) ti_50_7 rfl ?_
      refine a_w3i (args := [(2, 119)]) (Nat.le_succ _) ti_50_8 (mt_48 H) (fun _ => rfl) rfl rfl (fun g1 => ?_)
      refine a_w0 (Nat.le_succ _) ti_50_11 rfl ?_
      refine a_w9_0 (Nat.le_succ _) ti_50_12 ?_ ?_
      · refine a_w0 (Nat.le_succ _) ti_50_17 rfl ?_
        refine a_w16 (Nat.le_succ _) ti_50_18 ?_
        refine a_w1 (a := (0, g1.2 119 2)) (Nat.le_succ _) ti_50_19 rfl ?_
        refine a_w2 (z := 1) (Nat.le_succ _) ti_50_22 (by decide) ?_
        refine a_w6 (a := (0, a_w ((g1.2 119 2) + 1))) (Nat.le_succ _) ti_50_23 rfl ?_
        refine a_w10 (Nat.le_succ _) ti_50_24 rfl rfl rfl (fun H1 => ?_)
        refine a_w2 (z := 1) (Nat.le_succ _) ti_50_27 (by decide) ?_
        exact a_w4 (Nat.le_succ _) ti_50_28 rfl rfl rfl
      · exact a_wk (hj15 g1.2) (by omega) trivial
/-- CarriedGate$Tape.readPeople(LCarriedGate$Plain;)V -/
noncomputable def fn_45 (a1 : Int) (H : a_P) : a_P :=
  a_jn (fun (s1 : a_P) => s1) fun j35 =>
  a_lp (fun (s2 : Int × a_P) => s2.2) (fun (s2 : Int × a_P) n2 => (if s2.1 < 8 then a_bd (fn_46 a1 s2.2) fun H1 =>
  (if (H1 119 3) = 0 then (if s2.1 = 7 then j35 H1
  else a_bd (fn_50 44 H1) fun g1 =>
  (if g1.1 = 0 then j35 g1.2
  else a_bd (a_w (s2.1 + 1)) fun x1 =>
  n2 (x1, g1.2)))
  else j35 H1)
  else s2.2)) a_fuel (0, H)
theorem ti_45_0 : (q_I 45).2 0 = some (2, 0, 0, 0, 0, 1, []) := rfl
theorem ti_45_1 : (q_I 45).2 1 = some (11, 0, 0, 2, 0, 2, []) := rfl
theorem ti_45_2 : (q_I 45).2 2 = some (0, 0, 0, 2, 0, 3, []) := rfl
theorem ti_45_3 : (q_I 45).2 3 = some (2, 1, 8, 0, 0, 5, []) := rfl
theorem ti_45_5 : (q_I 45).2 5 = some (9, 3, 0, 42, 0, 8, []) := rfl
theorem ti_45_8 : (q_I 45).2 8 = some (0, 4, 0, 0, 2, 9, []) := rfl
theorem ti_45_9 : (q_I 45).2 9 = some (0, 4, 0, 1, 2, 10, []) := rfl
theorem ti_45_10 : (q_I 45).2 10 = some (3, 0, 71, 46, 2, 13, [458, 4]) := rfl
theorem ti_45_13 : (q_I 45).2 13 = some (0, 4, 0, 0, 2, 14, []) := rfl
theorem ti_45_14 : (q_I 45).2 14 = some (1, 0, 22, 4, 3, 17, [169]) := rfl
theorem ti_45_17 : (q_I 45).2 17 = some (8, 1, 0, 35, 0, 20, []) := rfl
theorem ti_45_20 : (q_I 45).2 20 = some (0, 0, 0, 2, 0, 21, []) := rfl
theorem ti_45_21 : (q_I 45).2 21 = some (2, 1, 7, 0, 0, 23, []) := rfl
theorem ti_45_23 : (q_I 45).2 23 = some (9, 0, 0, 35, 0, 26, []) := rfl
theorem ti_45_26 : (q_I 45).2 26 = some (0, 4, 0, 0, 2, 27, []) := rfl
theorem ti_45_27 : (q_I 45).2 27 = some (2, 1, 44, 0, 0, 29, []) := rfl
theorem ti_45_29 : (q_I 45).2 29 = some (3, 0, 52, 50, 2, 32, [450, 4]) := rfl
theorem ti_45_32 : (q_I 45).2 32 = some (8, 1, 0, 36, 0, 35, []) := rfl
theorem ti_45_36 : (q_I 45).2 36 = some (13, 0, 1, 2, 0, 39, []) := rfl
theorem ti_45_39 : (q_I 45).2 39 = some (7, 0, 0, 2, 0, 42, []) := rfl
theorem ti_45_35 : (q_I 45).2 35 = some (4, 4, 0, 0, 0, 36, []) := rfl
theorem ti_45_42 : (q_I 45).2 42 = some (4, 4, 0, 0, 0, 43, []) := rfl
theorem mt_45 (a1 : Int) (H : a_P) : a_mt a_pv 9 45 [(2, 119), (2, a1)] H (fn_45 a1 H) := by
  refine a_mtI (lo := [some (2, 119), some (2, a1), none]) rfl fun d => ?_
  unfold fn_45
  refine a_w2 (z := 0) (Nat.le_succ _) ti_45_0 (by decide) ?_
  refine a_w11 (lo' := [some (2, 119), some (2, a1), some (0, 0)]) (Nat.le_succ _) ti_45_1 rfl ?_
  refine a_wjn 35 (fun (s : a_P) => [none, none, none]) (fun (s : a_P) => []) (fun (s : a_P) => s) (fun s1 => ?_) (fun j35 hj35 => ?_)
  · exact a_w4v (Nat.le_succ _) ti_45_35 rfl rfl
  · refine a_wk (a_wlp (fun (s : Int × a_P) => [some (2, 119), some (2, a1), some (0, s.1)]) (fun (s : Int × a_P) => s.2) (fun N1 hN1 n2 hn2 s2 => ?_) a_fuel (a_fuel_le (by omega)) (0, H)) (Nat.le_refl _) ⟨rfl, rfl, rfl, trivial⟩
    · refine a_w0 (Nat.le_refl _) ti_45_2 rfl ?_
      refine a_w2 (z := 8) (Nat.le_succ _) ti_45_3 (by decide) ?_
      refine a_w9_3 (Nat.le_succ _) ti_45_5 ?_ ?_
      · exact a_w4v (Nat.le_succ _) ti_45_42 rfl rfl
      · refine a_w0 (Nat.le_succ _) ti_45_8 rfl ?_
        refine a_w0 (Nat.le_succ _) ti_45_9 rfl ?_
        refine a_w3v (args := [(2, 119), (2, a1)]) (Nat.le_succ _) ti_45_10 (mt_46 a1 s2.2) rfl rfl (fun H1 => ?_)
        refine a_w0 (Nat.le_succ _) ti_45_13 rfl ?_
        refine a_w1 (a := (0, H1 119 3)) (Nat.le_succ _) ti_45_14 rfl ?_
        refine a_w8_1 (Nat.le_succ _) ti_45_17 ?_ ?_
        · exact a_wk (hj35 H1) (by omega) trivial
        · refine a_w0 (Nat.le_succ _) ti_45_20 rfl ?_
          refine a_w2 (z := 7) (Nat.le_succ _) ti_45_21 (by decide) ?_
          refine a_w9_0 (Nat.le_succ _) ti_45_23 ?_ ?_
          · exact a_wk (hj35 H1) (by omega) trivial
          · refine a_w0 (Nat.le_succ _) ti_45_26 rfl ?_
            refine a_w2 (z := 44) (Nat.le_succ _) ti_45_27 (by decide) ?_
            refine a_w3i (args := [(2, 119), (0, 44)]) (Nat.le_succ _) ti_45_29 (mt_50 44 H1) (fun _ => rfl) rfl rfl (fun g1 => ?_)
            refine a_w8_1 (Nat.le_succ _) ti_45_32 ?_ ?_
            · refine a_w13 (c' := 1) (lof := fun x1 => [some (2, 119), some (2, a1), some (0, x1)]) (Nat.le_succ _) ti_45_36 rfl (by decide) rfl (fun _ => rfl) (fun x1 => ?_)
              refine a_w7 (Nat.le_succ _) ti_45_39 ?_
              exact a_wk (hn2 (x1, g1.2)) (by omega) ⟨rfl, rfl, rfl, trivial⟩
            · exact a_wk (hj35 g1.2) (by omega) trivial
/-- CarriedGate$Tape.readPlain(LCarriedGate$Plain;)I -/
noncomputable def fn_44 (a1 : Int) (H : a_P) : a_F :=
  a_bd (a_up H 119 2 0) fun H1 =>
  a_bd (a_up H1 119 3 0) fun H2 =>
  a_bd (a_up H2 a1 6 0) fun H3 =>
  a_bd (a_up H3 a1 2 (-4)) fun H4 =>
  a_bd (a_up H4 a1 4 0) fun H5 =>
  a_bd (fn_52 35 H5) fun g1 =>
  a_bd (a_up g1.2 a1 0 g1.1) fun H6 =>
  a_bd (fn_51 43 H6) fun g2 =>
  a_bd (a_up g2.2 a1 1 g2.1) fun H7 =>
  a_bd (fn_50 47 H7) fun g3 =>
  a_jn (fun (s1 : Int × a_P) => a_bd (a_up s1.2 a1 3 s1.1) fun H8 =>
  a_bd (fn_50 59 H8) fun g4 =>
  a_jn (fun (s2 : a_P) => a_bd (fn_48 s2) fun g5 =>
  a_jn (fun (s3 : a_P) => (s3 119 3, s3)) fun j98 =>
  (if g5.1 = 0 then j98 g5.2
  else a_bd (fn_47 (g5.2 119 2) g5.2) fun H9 =>
  j98 H9)) fun j83 =>
  (if g4.1 = 0 then j83 g4.2
  else a_bd (fn_45 a1 g4.2) fun H10 =>
  j83 H10)) fun j66 =>
  (if g3.1 = 0 then j66 (0, g3.2)
  else a_bd (fn_52 63 g3.2) fun g6 =>
  j66 (g6.1, g6.2))
theorem ti_44_0 : (q_I 44).2 0 = some (0, 4, 0, 0, 2, 1, []) := rfl
theorem ti_44_1 : (q_I 44).2 1 = some (2, 0, 0, 0, 0, 2, []) := rfl
theorem ti_44_2 : (q_I 44).2 2 = some (10, 0, 19, 4, 2, 5, [168]) := rfl
theorem ti_44_5 : (q_I 44).2 5 = some (0, 4, 0, 0, 2, 6, []) := rfl
theorem ti_44_6 : (q_I 44).2 6 = some (2, 0, 0, 0, 0, 7, []) := rfl
theorem ti_44_7 : (q_I 44).2 7 = some (10, 0, 22, 4, 3, 10, [169]) := rfl
theorem ti_44_10 : (q_I 44).2 10 = some (0, 4, 0, 1, 2, 11, []) := rfl
theorem ti_44_11 : (q_I 44).2 11 = some (2, 0, 0, 0, 0, 12, []) := rfl
theorem ti_44_12 : (q_I 44).2 12 = some (10, 0, 25, 2, 6, 15, [102]) := rfl
theorem ti_44_15 : (q_I 44).2 15 = some (0, 4, 0, 1, 2, 16, []) := rfl
theorem ti_44_16 : (q_I 44).2 16 = some (2, 1, (-4), 0, 0, 18, []) := rfl
theorem ti_44_18 : (q_I 44).2 18 = some (10, 0, 30, 2, 2, 21, [90]) := rfl
theorem ti_44_21 : (q_I 44).2 21 = some (0, 4, 0, 1, 2, 22, []) := rfl
theorem ti_44_22 : (q_I 44).2 22 = some (2, 0, 0, 0, 0, 23, []) := rfl
theorem ti_44_23 : (q_I 44).2 23 = some (10, 0, 33, 2, 4, 26, [96]) := rfl
theorem ti_44_26 : (q_I 44).2 26 = some (0, 4, 0, 1, 2, 27, []) := rfl
theorem ti_44_27 : (q_I 44).2 27 = some (0, 4, 0, 0, 2, 28, []) := rfl
theorem ti_44_28 : (q_I 44).2 28 = some (2, 1, 35, 0, 0, 30, []) := rfl
theorem ti_44_30 : (q_I 44).2 30 = some (3, 0, 36, 52, 2, 33, [340, 4]) := rfl
theorem ti_44_33 : (q_I 44).2 33 = some (10, 0, 40, 2, 0, 36, [84]) := rfl
theorem ti_44_36 : (q_I 44).2 36 = some (0, 4, 0, 1, 2, 37, []) := rfl
theorem ti_44_37 : (q_I 44).2 37 = some (0, 4, 0, 0, 2, 38, []) := rfl
theorem ti_44_38 : (q_I 44).2 38 = some (24, 0, 0, 43, 0, 40, [359]) := rfl
theorem ti_44_40 : (q_I 44).2 40 = some (3, 0, 45, 51, 2, 43, [360, 4]) := rfl
theorem ti_44_43 : (q_I 44).2 43 = some (10, 0, 49, 2, 1, 46, [87]) := rfl
theorem ti_44_46 : (q_I 44).2 46 = some (0, 4, 0, 1, 2, 47, []) := rfl
theorem ti_44_47 : (q_I 44).2 47 = some (0, 4, 0, 0, 2, 48, []) := rfl
theorem ti_44_48 : (q_I 44).2 48 = some (2, 1, 47, 0, 0, 50, []) := rfl
theorem ti_44_50 : (q_I 44).2 50 = some (3, 0, 52, 50, 2, 53, [450, 4]) := rfl
theorem ti_44_53 : (q_I 44).2 53 = some (8, 0, 0, 65, 0, 56, []) := rfl
theorem ti_44_56 : (q_I 44).2 56 = some (0, 4, 0, 0, 2, 57, []) := rfl
theorem ti_44_57 : (q_I 44).2 57 = some (2, 1, 63, 0, 0, 59, []) := rfl
theorem ti_44_59 : (q_I 44).2 59 = some (3, 0, 36, 52, 2, 62, [340, 4]) := rfl
theorem ti_44_62 : (q_I 44).2 62 = some (7, 0, 0, 66, 0, 65, []) := rfl
theorem ti_44_65 : (q_I 44).2 65 = some (2, 0, 0, 0, 0, 66, []) := rfl
theorem ti_44_66 : (q_I 44).2 66 = some (10, 0, 56, 2, 3, 69, [93]) := rfl
theorem ti_44_69 : (q_I 44).2 69 = some (0, 4, 0, 0, 2, 70, []) := rfl
theorem ti_44_70 : (q_I 44).2 70 = some (2, 1, 59, 0, 0, 72, []) := rfl
theorem ti_44_72 : (q_I 44).2 72 = some (3, 0, 52, 50, 2, 75, [450, 4]) := rfl
theorem ti_44_75 : (q_I 44).2 75 = some (8, 0, 0, 83, 0, 78, []) := rfl
theorem ti_44_78 : (q_I 44).2 78 = some (0, 4, 0, 0, 2, 79, []) := rfl
theorem ti_44_79 : (q_I 44).2 79 = some (0, 4, 0, 1, 2, 80, []) := rfl
theorem ti_44_80 : (q_I 44).2 80 = some (3, 0, 59, 45, 2, 83, [454, 4]) := rfl
theorem ti_44_83 : (q_I 44).2 83 = some (0, 4, 0, 0, 2, 84, []) := rfl
theorem ti_44_84 : (q_I 44).2 84 = some (3, 0, 63, 48, 1, 87, [344, 4]) := rfl
theorem ti_44_87 : (q_I 44).2 87 = some (8, 0, 0, 98, 0, 90, []) := rfl
theorem ti_44_90 : (q_I 44).2 90 = some (0, 4, 0, 0, 2, 91, []) := rfl
theorem ti_44_91 : (q_I 44).2 91 = some (0, 4, 0, 0, 2, 92, []) := rfl
theorem ti_44_92 : (q_I 44).2 92 = some (1, 0, 19, 4, 2, 95, [168]) := rfl
theorem ti_44_95 : (q_I 44).2 95 = some (3, 0, 67, 47, 2, 98, [355, 4]) := rfl
theorem ti_44_98 : (q_I 44).2 98 = some (0, 4, 0, 0, 2, 99, []) := rfl
theorem ti_44_99 : (q_I 44).2 99 = some (1, 0, 22, 4, 3, 102, [169]) := rfl
theorem ti_44_102 : (q_I 44).2 102 = some (4, 0, 0, 0, 0, 103, []) := rfl
theorem mt_44 (a1 : Int) (H : a_P) : a_mt id 0 44 [(2, 119), (2, a1)] H (fn_44 a1 H) := by
  refine a_mtI (lo := [some (2, 119), some (2, a1)]) rfl fun d => ?_
  unfold fn_44
  refine a_w0 (Nat.le_succ _) ti_44_0 rfl ?_
  refine a_w2 (z := 0) (Nat.le_succ _) ti_44_1 (by decide) ?_
  refine a_w10 (Nat.le_succ _) ti_44_2 rfl rfl rfl (fun H1 => ?_)
  refine a_w0 (Nat.le_succ _) ti_44_5 rfl ?_
  refine a_w2 (z := 0) (Nat.le_succ _) ti_44_6 (by decide) ?_
  refine a_w10 (Nat.le_succ _) ti_44_7 rfl rfl rfl (fun H2 => ?_)
  refine a_w0 (Nat.le_succ _) ti_44_10 rfl ?_
  refine a_w2 (z := 0) (Nat.le_succ _) ti_44_11 (by decide) ?_
  refine a_w10 (Nat.le_succ _) ti_44_12 rfl rfl rfl (fun H3 => ?_)
  refine a_w0 (Nat.le_succ _) ti_44_15 rfl ?_
  refine a_w2 (z := (-4)) (Nat.le_succ _) ti_44_16 (by decide) ?_
  refine a_w10 (Nat.le_succ _) ti_44_18 rfl rfl rfl (fun H4 => ?_)
  refine a_w0 (Nat.le_succ _) ti_44_21 rfl ?_
  refine a_w2 (z := 0) (Nat.le_succ _) ti_44_22 (by decide) ?_
  refine a_w10 (Nat.le_succ _) ti_44_23 rfl rfl rfl (fun H5 => ?_)
  refine a_w0 (Nat.le_succ _) ti_44_26 rfl ?_
  refine a_w0 (Nat.le_succ _) ti_44_27 rfl ?_
  refine a_w2 (z := 35) (Nat.le_succ _) ti_44_28 (by decide) ?_
  refine a_w3i (args := [(2, 119), (0, 35)]) (Nat.le_succ _) ti_44_30 (mt_52 35 H5) (fun _ => rfl) rfl rfl (fun g1 => ?_)
  refine a_w10 (Nat.le_succ _) ti_44_33 rfl rfl rfl (fun H6 => ?_)
  refine a_w0 (Nat.le_succ _) ti_44_36 rfl ?_
  refine a_w0 (Nat.le_succ _) ti_44_37 rfl ?_
  refine a_w24 (z := 43) (Nat.le_succ _) ti_44_38 (by decide) ?_
  refine a_w3i (args := [(2, 119), (2, 43)]) (Nat.le_succ _) ti_44_40 (mt_51 43 H6) (fun _ => rfl) rfl rfl (fun g2 => ?_)
  refine a_w10 (Nat.le_succ _) ti_44_43 rfl rfl rfl (fun H7 => ?_)
  refine a_w0 (Nat.le_succ _) ti_44_46 rfl ?_
  refine a_w0 (Nat.le_succ _) ti_44_47 rfl ?_
  refine a_w2 (z := 47) (Nat.le_succ _) ti_44_48 (by decide) ?_
  refine a_w3i (args := [(2, 119), (0, 47)]) (Nat.le_succ _) ti_44_50 (mt_50 47 H7) (fun _ => rfl) rfl rfl (fun g3 => ?_)
  refine a_wjn 66 (fun (s : Int × a_P) => [some (2, 119), some (2, a1)]) (fun (s : Int × a_P) => [(0, s.1), (2, a1)]) (fun (s : Int × a_P) => s.2) (fun s1 => ?_) (fun j66 hj66 => ?_)
  · refine a_w10 (Nat.le_succ _) ti_44_66 rfl rfl rfl (fun H8 => ?_)
    refine a_w0 (Nat.le_succ _) ti_44_69 rfl ?_
    refine a_w2 (z := 59) (Nat.le_succ _) ti_44_70 (by decide) ?_
    refine a_w3i (args := [(2, 119), (0, 59)]) (Nat.le_succ _) ti_44_72 (mt_50 59 H8) (fun _ => rfl) rfl rfl (fun g4 => ?_)
    refine a_wjn 83 (fun (s : a_P) => [some (2, 119), none]) (fun (s : a_P) => []) (fun (s : a_P) => s) (fun s2 => ?_) (fun j83 hj83 => ?_)
    · refine a_w0 (Nat.le_succ _) ti_44_83 rfl ?_
      refine a_w3i (args := [(2, 119)]) (Nat.le_succ _) ti_44_84 (mt_48 s2) (fun _ => rfl) rfl rfl (fun g5 => ?_)
      refine a_wjn 98 (fun (s : a_P) => [some (2, 119), none]) (fun (s : a_P) => []) (fun (s : a_P) => s) (fun s3 => ?_) (fun j98 hj98 => ?_)
      · refine a_w0 (Nat.le_succ _) ti_44_98 rfl ?_
        refine a_w1 (a := (0, s3 119 3)) (Nat.le_succ _) ti_44_99 rfl ?_
        exact a_w4 (Nat.le_succ _) ti_44_102 rfl rfl rfl
      · refine a_w8_0 (Nat.le_succ _) ti_44_87 ?_ ?_
        · exact a_wk (hj98 g5.2) (by omega) ⟨rfl, trivial⟩
        · refine a_w0 (Nat.le_succ _) ti_44_90 rfl ?_
          refine a_w0 (Nat.le_succ _) ti_44_91 rfl ?_
          refine a_w1 (a := (0, g5.2 119 2)) (Nat.le_succ _) ti_44_92 rfl ?_
          refine a_w3v (args := [(2, 119), (0, g5.2 119 2)]) (Nat.le_succ _) ti_44_95 (mt_47 (g5.2 119 2) g5.2) rfl rfl (fun H9 => ?_)
          exact a_wk (hj98 H9) (by omega) ⟨rfl, trivial⟩
    · refine a_w8_0 (Nat.le_succ _) ti_44_75 ?_ ?_
      · exact a_wk (hj83 g4.2) (by omega) ⟨rfl, trivial⟩
      · refine a_w0 (Nat.le_succ _) ti_44_78 rfl ?_
        refine a_w0 (Nat.le_succ _) ti_44_79 rfl ?_
        refine a_w3v (args := [(2, 119), (2, a1)]) (Nat.le_succ _) ti_44_80 (mt_45 a1 g4.2) rfl rfl (fun H10 => ?_)
        exact a_wk (hj83 H10) (by omega) ⟨rfl, trivial⟩
  · refine a_w8_0 (Nat.le_succ _) ti_44_53 ?_ ?_
    · refine a_w2 (z := 0) (Nat.le_succ _) ti_44_65 (by decide) ?_
      exact a_wk (hj66 (0, g3.2)) (by omega) ⟨rfl, rfl, trivial⟩
    · refine a_w0 (Nat.le_succ _) ti_44_56 rfl ?_
      refine a_w2 (z := 63) (Nat.le_succ _) ti_44_57 (by decide) ?_
      refine a_w3i (args := [(2, 119), (0, 63)]) (Nat.le_succ _) ti_44_59 (mt_52 63 g3.2) (fun _ => rfl) rfl rfl (fun g6 => ?_)
      refine a_w7 (Nat.le_succ _) ti_44_62 ?_
      exact a_wk (hj66 (g6.1, g6.2)) (by omega) ⟨rfl, rfl, trivial⟩
/-- CarriedGate.plain()I -/
noncomputable def fn_59 (H : a_P) : a_F :=
  a_bd (fn_44 7 H) fun g1 =>
  a_bd (a_up g1.2 119 1 0) fun H1 =>
  (if g1.1 = 0 then a_bd (a_up H1 7 5 (H1 1 5)) fun H2 =>
  a_bd (fn_10 1 7 H2) fun H3 =>
  a_bd (fn_3 13 H3) fun H4 =>
  (H4 1 6, H4)
  else (g1.1, H1))
theorem ti_59_0 : (q_I 59).2 0 = some (0, 4, 0, 0, 2, 1, []) := rfl
theorem ti_59_1 : (q_I 59).2 1 = some (1, 0, 39, 5, 6, 4, [237]) := rfl
theorem ti_59_4 : (q_I 59).2 4 = some (0, 4, 0, 0, 2, 5, []) := rfl
theorem ti_59_5 : (q_I 59).2 5 = some (1, 0, 16, 5, 1, 8, [232]) := rfl
theorem ti_59_8 : (q_I 59).2 8 = some (3, 0, 119, 44, 2, 11, [336, 4]) := rfl
theorem ti_59_11 : (q_I 59).2 11 = some (11, 0, 0, 1, 0, 12, []) := rfl
theorem ti_59_12 : (q_I 59).2 12 = some (0, 4, 0, 0, 2, 13, []) := rfl
theorem ti_59_13 : (q_I 59).2 13 = some (1, 0, 39, 5, 6, 16, [237]) := rfl
theorem ti_59_16 : (q_I 59).2 16 = some (2, 0, 0, 0, 0, 17, []) := rfl
theorem ti_59_17 : (q_I 59).2 17 = some (10, 0, 116, 4, 1, 20, [167]) := rfl
theorem ti_59_20 : (q_I 59).2 20 = some (0, 0, 0, 1, 0, 21, []) := rfl
theorem ti_59_21 : (q_I 59).2 21 = some (8, 0, 0, 26, 0, 24, []) := rfl
theorem ti_59_24 : (q_I 59).2 24 = some (0, 0, 0, 1, 0, 25, []) := rfl
theorem ti_59_25 : (q_I 59).2 25 = some (4, 0, 0, 0, 0, 26, []) := rfl
theorem ti_59_26 : (q_I 59).2 26 = some (0, 4, 0, 0, 2, 27, []) := rfl
theorem ti_59_27 : (q_I 59).2 27 = some (1, 0, 16, 5, 1, 30, [232]) := rfl
theorem ti_59_30 : (q_I 59).2 30 = some (0, 4, 0, 0, 2, 31, []) := rfl
theorem ti_59_31 : (q_I 59).2 31 = some (1, 0, 10, 5, 0, 34, [231]) := rfl
theorem ti_59_34 : (q_I 59).2 34 = some (1, 0, 123, 2, 5, 37, [99]) := rfl
theorem ti_59_37 : (q_I 59).2 37 = some (10, 0, 123, 2, 5, 40, [99]) := rfl
theorem ti_59_40 : (q_I 59).2 40 = some (0, 4, 0, 0, 2, 41, []) := rfl
theorem ti_59_41 : (q_I 59).2 41 = some (1, 0, 10, 5, 0, 44, [231]) := rfl
theorem ti_59_44 : (q_I 59).2 44 = some (0, 4, 0, 0, 2, 45, []) := rfl
theorem ti_59_45 : (q_I 59).2 45 = some (1, 0, 16, 5, 1, 48, [232]) := rfl
theorem ti_59_48 : (q_I 59).2 48 = some (3, 0, 126, 10, 2, 51, [466, 2]) := rfl
theorem ti_59_51 : (q_I 59).2 51 = some (0, 4, 0, 0, 2, 52, []) := rfl
theorem ti_59_52 : (q_I 59).2 52 = some (1, 0, 22, 5, 2, 55, [233]) := rfl
theorem ti_59_55 : (q_I 59).2 55 = some (3, 0, 72, 3, 1, 58, [272, 0]) := rfl
theorem ti_59_58 : (q_I 59).2 58 = some (0, 4, 0, 0, 2, 59, []) := rfl
theorem ti_59_59 : (q_I 59).2 59 = some (1, 0, 10, 5, 0, 62, [231]) := rfl
theorem ti_59_62 : (q_I 59).2 62 = some (1, 0, 68, 2, 6, 65, [101]) := rfl
theorem ti_59_65 : (q_I 59).2 65 = some (4, 0, 0, 0, 0, 66, []) := rfl
theorem mt_59 (H : a_P) : a_mt id 0 59 [(2, 0)] H (fn_59 H) := by
  refine a_mtI (lo := [some (2, 0), none]) rfl fun d => ?_
  unfold fn_59
  refine a_w0 (Nat.le_succ _) ti_59_0 rfl ?_
  refine a_w1 (a := (2, 119)) (Nat.le_succ _) ti_59_1 rfl ?_
  refine a_w0 (Nat.le_succ _) ti_59_4 rfl ?_
  refine a_w1 (a := (2, 7)) (Nat.le_succ _) ti_59_5 rfl ?_
  refine a_w3i (args := [(2, 119), (2, 7)]) (Nat.le_succ _) ti_59_8 (mt_44 7 H) (fun _ => rfl) rfl rfl (fun g1 => ?_)
  refine a_w11 (lo' := [some (2, 0), some (0, g1.1)]) (Nat.le_succ _) ti_59_11 rfl ?_
  refine a_w0 (Nat.le_succ _) ti_59_12 rfl ?_
  refine a_w1 (a := (2, 119)) (Nat.le_succ _) ti_59_13 rfl ?_
  refine a_w2 (z := 0) (Nat.le_succ _) ti_59_16 (by decide) ?_
  refine a_w10 (Nat.le_succ _) ti_59_17 rfl rfl rfl (fun H1 => ?_)
  refine a_w0 (Nat.le_succ _) ti_59_20 rfl ?_
  refine a_w8_0 (Nat.le_succ _) ti_59_21 ?_ ?_
  · refine a_w0 (Nat.le_succ _) ti_59_26 rfl ?_
    refine a_w1 (a := (2, 7)) (Nat.le_succ _) ti_59_27 rfl ?_
    refine a_w0 (Nat.le_succ _) ti_59_30 rfl ?_
    refine a_w1 (a := (2, 1)) (Nat.le_succ _) ti_59_31 rfl ?_
    refine a_w1 (a := (0, H1 1 5)) (Nat.le_succ _) ti_59_34 rfl ?_
    refine a_w10 (Nat.le_succ _) ti_59_37 rfl rfl rfl (fun H2 => ?_)
    refine a_w0 (Nat.le_succ _) ti_59_40 rfl ?_
    refine a_w1 (a := (2, 1)) (Nat.le_succ _) ti_59_41 rfl ?_
    refine a_w0 (Nat.le_succ _) ti_59_44 rfl ?_
    refine a_w1 (a := (2, 7)) (Nat.le_succ _) ti_59_45 rfl ?_
    refine a_w3v (args := [(2, 1), (2, 7)]) (Nat.le_succ _) ti_59_48 (mt_10 1 7 H2) rfl rfl (fun H3 => ?_)
    refine a_w0 (Nat.le_succ _) ti_59_51 rfl ?_
    refine a_w1 (a := (2, 13)) (Nat.le_succ _) ti_59_52 rfl ?_
    refine a_w3v (args := [(2, 13)]) (Nat.le_succ _) ti_59_55 (mt_3 13 H3) rfl rfl (fun H4 => ?_)
    refine a_w0 (Nat.le_succ _) ti_59_58 rfl ?_
    refine a_w1 (a := (2, 1)) (Nat.le_succ _) ti_59_59 rfl ?_
    refine a_w1 (a := (0, H4 1 6)) (Nat.le_succ _) ti_59_62 rfl ?_
    exact a_w4 (Nat.le_succ _) ti_59_65 rfl rfl rfl
  · refine a_w0 (Nat.le_succ _) ti_59_24 rfl ?_
    exact a_w4 (Nat.le_succ _) ti_59_25 rfl rfl rfl
/-- CarriedGate$Plain.whoIsLetIn()I -/
noncomputable def fn_22 (p : Int) (H : a_P) : Int :=
  a_lp (fun (s1 : Int × Int) => 0) (fun (s1 : Int × Int) n4 => (if s1.2 < (H p 6) then a_jn (fun (s2 : Int) => a_bd (a_w (s1.2 + 1)) fun x1 =>
  n4 (s2, x1)) fun j26 =>
  (if (fn_20 p s1.2 H) = 0 then j26 s1.1
  else a_bd (a_or s1.1 (a_shl 1 s1.2)) fun x2 =>
  j26 x2)
  else s1.1)) a_fuel (0, 0)
theorem ti_22_0 : (q_I 22).2 0 = some (2, 0, 0, 0, 0, 1, []) := rfl
theorem ti_22_1 : (q_I 22).2 1 = some (11, 0, 0, 1, 0, 2, []) := rfl
theorem ti_22_2 : (q_I 22).2 2 = some (2, 0, 0, 0, 0, 3, []) := rfl
theorem ti_22_3 : (q_I 22).2 3 = some (11, 0, 0, 2, 0, 4, []) := rfl
theorem ti_22_4 : (q_I 22).2 4 = some (0, 0, 0, 2, 0, 5, []) := rfl
theorem ti_22_5 : (q_I 22).2 5 = some (0, 4, 0, 0, 2, 6, []) := rfl
theorem ti_22_6 : (q_I 22).2 6 = some (1, 0, 30, 2, 6, 9, [100]) := rfl
theorem ti_22_9 : (q_I 22).2 9 = some (9, 3, 0, 32, 0, 12, []) := rfl
theorem ti_22_12 : (q_I 22).2 12 = some (0, 4, 0, 0, 2, 13, []) := rfl
theorem ti_22_13 : (q_I 22).2 13 = some (0, 0, 0, 2, 0, 14, []) := rfl
theorem ti_22_14 : (q_I 22).2 14 = some (3, 0, 73, 20, 2, 17, [296, 2]) := rfl
theorem ti_22_17 : (q_I 22).2 17 = some (8, 0, 0, 26, 0, 20, []) := rfl
theorem ti_22_20 : (q_I 22).2 20 = some (0, 0, 0, 1, 0, 21, []) := rfl
theorem ti_22_21 : (q_I 22).2 21 = some (2, 0, 1, 0, 0, 22, []) := rfl
theorem ti_22_22 : (q_I 22).2 22 = some (0, 0, 0, 2, 0, 23, []) := rfl
theorem ti_22_23 : (q_I 22).2 23 = some (6, 8, 0, 0, 0, 24, []) := rfl
theorem ti_22_24 : (q_I 22).2 24 = some (6, 6, 0, 0, 0, 25, []) := rfl
theorem ti_22_25 : (q_I 22).2 25 = some (11, 0, 0, 1, 0, 26, []) := rfl
theorem ti_22_26 : (q_I 22).2 26 = some (13, 0, 1, 2, 0, 29, []) := rfl
theorem ti_22_29 : (q_I 22).2 29 = some (7, 0, 0, 4, 0, 32, []) := rfl
theorem ti_22_32 : (q_I 22).2 32 = some (0, 0, 0, 1, 0, 33, []) := rfl
theorem ti_22_33 : (q_I 22).2 33 = some (4, 0, 0, 0, 0, 34, []) := rfl
theorem mt_22 (p : Int) (H : a_P) : a_mt (a_pp H) 0 22 [(2, p)] H (fn_22 p H) := by
  refine a_mtI (lo := [some (2, p), none, none]) rfl fun d => ?_
  unfold fn_22
  refine a_w2 (z := 0) (Nat.le_succ _) ti_22_0 (by decide) ?_
  refine a_w11 (lo' := [some (2, p), some (0, 0), none]) (Nat.le_succ _) ti_22_1 rfl ?_
  refine a_w2 (z := 0) (Nat.le_succ _) ti_22_2 (by decide) ?_
  refine a_w11 (lo' := [some (2, p), some (0, 0), some (0, 0)]) (Nat.le_succ _) ti_22_3 rfl ?_
  refine a_wk (a_wlp (fun (s : Int × Int) => [some (2, p), some (0, s.1), some (0, s.2)]) (fun (s : Int × Int) => H) (fun N1 hN1 n4 hn4 s1 => ?_) a_fuel (a_fuel_le (by omega)) (0, 0)) (Nat.le_refl _) ⟨rfl, rfl, rfl, trivial⟩
  · refine a_w0 (Nat.le_refl _) ti_22_4 rfl ?_
    refine a_w0 (Nat.le_succ _) ti_22_5 rfl ?_
    refine a_w1 (a := (0, H p 6)) (Nat.le_succ _) ti_22_6 rfl ?_
    refine a_w9_3 (Nat.le_succ _) ti_22_9 ?_ ?_
    · refine a_w0 (Nat.le_succ _) ti_22_32 rfl ?_
      exact a_w4 (Nat.le_succ _) ti_22_33 rfl rfl rfl
    · refine a_w0 (Nat.le_succ _) ti_22_12 rfl ?_
      refine a_w0 (Nat.le_succ _) ti_22_13 rfl ?_
      refine a_w3p (args := [(2, p), (0, s1.2)]) (Nat.le_succ _) ti_22_14 (mt_20 p s1.2 H) rfl rfl rfl rfl ?_
      refine a_wjn 26 (fun (s : Int) => [some (2, p), some (0, s), some (0, s1.2)]) (fun (s : Int) => []) (fun (s : Int) => H) (fun s2 => ?_) (fun j26 hj26 => ?_)
      · refine a_w13 (c' := 1) (lof := fun x1 => [some (2, p), some (0, s2), some (0, x1)]) (Nat.le_succ _) ti_22_26 rfl (by decide) rfl (fun _ => rfl) (fun x1 => ?_)
        refine a_w7 (Nat.le_succ _) ti_22_29 ?_
        exact a_wk (hn4 (s2, x1)) (by omega) ⟨rfl, rfl, rfl, trivial⟩
      · refine a_w8_0 (Nat.le_succ _) ti_22_17 ?_ ?_
        · exact a_wk (hj26 s1.1) (by omega) ⟨rfl, rfl, rfl, trivial⟩
        · refine a_w0 (Nat.le_succ _) ti_22_20 rfl ?_
          refine a_w2 (z := 1) (Nat.le_succ _) ti_22_21 (by decide) ?_
          refine a_w0 (Nat.le_succ _) ti_22_22 rfl ?_
          refine a_w6 (a := (0, a_shl 1 s1.2)) (Nat.le_succ _) ti_22_23 rfl ?_
          refine a_w6 (a := (0, a_or s1.1 (a_shl 1 s1.2))) (Nat.le_succ _) ti_22_24 rfl ?_
          refine a_w11b (lof := fun x2 => [some (2, p), some (0, x2), some (0, s1.2)]) (Nat.le_succ _) ti_22_25 (fun _ => rfl) (fun x2 => ?_)
          exact a_wk (hj26 x2) (by omega) ⟨rfl, rfl, rfl, trivial⟩
/-- CarriedGate$Plain.whoIsIn()I -/
noncomputable def fn_23 (p : Int) (H : a_P) : Int :=
  a_jn (fun (s1 : Int) => s1) fun j15 =>
  (if (fn_14 p H) = 0 then j15 0
  else j15 (fn_22 p H))
theorem ti_23_0 : (q_I 23).2 0 = some (0, 4, 0, 0, 2, 1, []) := rfl
theorem ti_23_1 : (q_I 23).2 1 = some (3, 0, 69, 14, 1, 4, [292, 2]) := rfl
theorem ti_23_4 : (q_I 23).2 4 = some (8, 0, 0, 14, 0, 7, []) := rfl
theorem ti_23_7 : (q_I 23).2 7 = some (0, 4, 0, 0, 2, 8, []) := rfl
theorem ti_23_8 : (q_I 23).2 8 = some (3, 0, 77, 22, 1, 11, [482, 2]) := rfl
theorem ti_23_11 : (q_I 23).2 11 = some (7, 0, 0, 15, 0, 14, []) := rfl
theorem ti_23_14 : (q_I 23).2 14 = some (2, 0, 0, 0, 0, 15, []) := rfl
theorem ti_23_15 : (q_I 23).2 15 = some (4, 0, 0, 0, 0, 16, []) := rfl
theorem mt_23 (p : Int) (H : a_P) : a_mt (a_pp H) 0 23 [(2, p)] H (fn_23 p H) := by
  refine a_mtI (lo := [some (2, p)]) rfl fun d => ?_
  unfold fn_23
  refine a_w0 (Nat.le_succ _) ti_23_0 rfl ?_
  refine a_w3p (args := [(2, p)]) (Nat.le_succ _) ti_23_1 (mt_14 p H) rfl rfl rfl rfl ?_
  refine a_wjn 15 (fun (s : Int) => [none]) (fun (s : Int) => [(0, s)]) (fun (s : Int) => H) (fun s1 => ?_) (fun j15 hj15 => ?_)
  · exact a_w4 (Nat.le_succ _) ti_23_15 rfl rfl rfl
  · refine a_w8_0 (Nat.le_succ _) ti_23_4 ?_ ?_
    · refine a_w2 (z := 0) (Nat.le_succ _) ti_23_14 (by decide) ?_
      exact a_wk (hj15 0) (by omega) trivial
    · refine a_w0 (Nat.le_succ _) ti_23_7 rfl ?_
      refine a_w3p (args := [(2, p)]) (Nat.le_succ _) ti_23_8 (mt_22 p H) rfl rfl rfl rfl ?_
      refine a_w7 (Nat.le_succ _) ti_23_11 ?_
      exact a_wk (hj15 (fn_22 p H)) (by omega) trivial
/-- CarriedGate$Plain.allWet()I -/
noncomputable def fn_24 (p : Int) (H : a_P) : Int :=
  a_lp (fun (s1 : Int × Int) => 0) (fun (s1 : Int × Int) n4 => (if s1.2 < (H p 6) then a_bd (a_w (s1.1 + (H (p + 5) s1.2))) fun x1 =>
  a_bd (a_w (s1.2 + 1)) fun x2 =>
  n4 (x1, x2)
  else s1.1)) a_fuel (0, 0)
theorem ti_24_0 : (q_I 24).2 0 = some (2, 0, 0, 0, 0, 1, []) := rfl
theorem ti_24_1 : (q_I 24).2 1 = some (11, 0, 0, 1, 0, 2, []) := rfl
theorem ti_24_2 : (q_I 24).2 2 = some (2, 0, 0, 0, 0, 3, []) := rfl
theorem ti_24_3 : (q_I 24).2 3 = some (11, 0, 0, 2, 0, 4, []) := rfl
theorem ti_24_4 : (q_I 24).2 4 = some (0, 0, 0, 2, 0, 5, []) := rfl
theorem ti_24_5 : (q_I 24).2 5 = some (0, 4, 0, 0, 2, 6, []) := rfl
theorem ti_24_6 : (q_I 24).2 6 = some (1, 0, 30, 2, 6, 9, [100]) := rfl
theorem ti_24_9 : (q_I 24).2 9 = some (9, 3, 0, 27, 0, 12, []) := rfl
theorem ti_24_12 : (q_I 24).2 12 = some (0, 0, 0, 1, 0, 13, []) := rfl
theorem ti_24_13 : (q_I 24).2 13 = some (0, 4, 0, 0, 2, 14, []) := rfl
theorem ti_24_14 : (q_I 24).2 14 = some (1, 0, 46, 2, 11, 17, [111]) := rfl
theorem ti_24_17 : (q_I 24).2 17 = some (0, 0, 0, 2, 0, 18, []) := rfl
theorem ti_24_18 : (q_I 24).2 18 = some (5, 10, 0, 0, 0, 19, []) := rfl
theorem ti_24_19 : (q_I 24).2 19 = some (6, 0, 0, 0, 0, 20, []) := rfl
theorem ti_24_20 : (q_I 24).2 20 = some (11, 0, 0, 1, 0, 21, []) := rfl
theorem ti_24_21 : (q_I 24).2 21 = some (13, 0, 1, 2, 0, 24, []) := rfl
theorem ti_24_24 : (q_I 24).2 24 = some (7, 0, 0, 4, 0, 27, []) := rfl
theorem ti_24_27 : (q_I 24).2 27 = some (0, 0, 0, 1, 0, 28, []) := rfl
theorem ti_24_28 : (q_I 24).2 28 = some (4, 0, 0, 0, 0, 29, []) := rfl
theorem mt_24 (p : Int) (H : a_P) : a_mt (a_pp H) 0 24 [(2, p)] H (fn_24 p H) := by
  refine a_mtI (lo := [some (2, p), none, none]) rfl fun d => ?_
  unfold fn_24
  refine a_w2 (z := 0) (Nat.le_succ _) ti_24_0 (by decide) ?_
  refine a_w11 (lo' := [some (2, p), some (0, 0), none]) (Nat.le_succ _) ti_24_1 rfl ?_
  refine a_w2 (z := 0) (Nat.le_succ _) ti_24_2 (by decide) ?_
  refine a_w11 (lo' := [some (2, p), some (0, 0), some (0, 0)]) (Nat.le_succ _) ti_24_3 rfl ?_
  refine a_wk (a_wlp (fun (s : Int × Int) => [some (2, p), some (0, s.1), some (0, s.2)]) (fun (s : Int × Int) => H) (fun N1 hN1 n4 hn4 s1 => ?_) a_fuel (a_fuel_le (by omega)) (0, 0)) (Nat.le_refl _) ⟨rfl, rfl, rfl, trivial⟩
  · refine a_w0 (Nat.le_refl _) ti_24_4 rfl ?_
    refine a_w0 (Nat.le_succ _) ti_24_5 rfl ?_
    refine a_w1 (a := (0, H p 6)) (Nat.le_succ _) ti_24_6 rfl ?_
    refine a_w9_3 (Nat.le_succ _) ti_24_9 ?_ ?_
    · refine a_w0 (Nat.le_succ _) ti_24_27 rfl ?_
      exact a_w4 (Nat.le_succ _) ti_24_28 rfl rfl rfl
    · refine a_w0 (Nat.le_succ _) ti_24_12 rfl ?_
      refine a_w0 (Nat.le_succ _) ti_24_13 rfl ?_
      refine a_w1 (a := (2, (p + 5))) (Nat.le_succ _) ti_24_14 rfl ?_
      refine a_w0 (Nat.le_succ _) ti_24_17 rfl ?_
      refine a_w5 (kk := 0) (Nat.le_succ _) ti_24_18 (fun _ => rfl) ?_
      refine a_w6 (a := (0, a_w (s1.1 + (H (p + 5) s1.2)))) (Nat.le_succ _) ti_24_19 rfl ?_
      refine a_w11b (lof := fun x1 => [some (2, p), some (0, x1), some (0, s1.2)]) (Nat.le_succ _) ti_24_20 (fun _ => rfl) (fun x1 => ?_)
      refine a_w13 (c' := 1) (lof := fun x2 => [some (2, p), some (0, x1), some (0, x2)]) (Nat.le_succ _) ti_24_21 rfl (by decide) rfl (fun _ => rfl) (fun x2 => ?_)
      refine a_w7 (Nat.le_succ _) ti_24_24 ?_
      exact a_wk (hn4 (x1, x2)) (by omega) ⟨rfl, rfl, rfl, trivial⟩
/-- CarriedGate.count(I)I -/
noncomputable def fn_60 (a1 : Int) (H : a_P) : Int :=
  a_sw a1 0 ((-1)) [H 1 6,
  H 1 0,
  H 1 1,
  H 1 2,
  H 1 3,
  H 1 4,
  fn_23 1 H,
  fn_24 1 H,
  H 13 2]
theorem ti_60_0 : (q_I 60).2 0 = some (0, 0, 0, 1, 0, 1, []) := rfl
theorem ti_60_1 : (q_I 60).2 1 = some (18, 9, 0, 124, 0, 52, [52, 60, 68, 76, 84, 92, 100, 108, 116]) := rfl
theorem ti_60_124 : (q_I 60).2 124 = some (2, 0, (-1), 0, 0, 125, []) := rfl
theorem ti_60_125 : (q_I 60).2 125 = some (4, 0, 0, 0, 0, 126, []) := rfl
theorem ti_60_116 : (q_I 60).2 116 = some (0, 4, 0, 0, 2, 117, []) := rfl
theorem ti_60_117 : (q_I 60).2 117 = some (1, 0, 22, 5, 2, 120, [233]) := rfl
theorem ti_60_120 : (q_I 60).2 120 = some (1, 0, 152, 0, 2, 123, [151]) := rfl
theorem ti_60_123 : (q_I 60).2 123 = some (4, 0, 0, 0, 0, 124, []) := rfl
theorem ti_60_108 : (q_I 60).2 108 = some (0, 4, 0, 0, 2, 109, []) := rfl
theorem ti_60_109 : (q_I 60).2 109 = some (1, 0, 10, 5, 0, 112, [231]) := rfl
theorem ti_60_112 : (q_I 60).2 112 = some (3, 0, 149, 24, 1, 115, [486, 2]) := rfl
theorem ti_60_115 : (q_I 60).2 115 = some (4, 0, 0, 0, 0, 116, []) := rfl
theorem ti_60_100 : (q_I 60).2 100 = some (0, 4, 0, 0, 2, 101, []) := rfl
theorem ti_60_101 : (q_I 60).2 101 = some (1, 0, 10, 5, 0, 104, [231]) := rfl
theorem ti_60_104 : (q_I 60).2 104 = some (3, 0, 145, 23, 1, 107, [478, 2]) := rfl
theorem ti_60_107 : (q_I 60).2 107 = some (4, 0, 0, 0, 0, 108, []) := rfl
theorem ti_60_92 : (q_I 60).2 92 = some (0, 4, 0, 0, 2, 93, []) := rfl
theorem ti_60_93 : (q_I 60).2 93 = some (1, 0, 10, 5, 0, 96, [231]) := rfl
theorem ti_60_96 : (q_I 60).2 96 = some (1, 0, 142, 2, 4, 99, [97]) := rfl
theorem ti_60_99 : (q_I 60).2 99 = some (4, 0, 0, 0, 0, 100, []) := rfl
theorem ti_60_84 : (q_I 60).2 84 = some (0, 4, 0, 0, 2, 85, []) := rfl
theorem ti_60_85 : (q_I 60).2 85 = some (1, 0, 10, 5, 0, 88, [231]) := rfl
theorem ti_60_88 : (q_I 60).2 88 = some (1, 0, 139, 2, 3, 91, [94]) := rfl
theorem ti_60_91 : (q_I 60).2 91 = some (4, 0, 0, 0, 0, 92, []) := rfl
theorem ti_60_76 : (q_I 60).2 76 = some (0, 4, 0, 0, 2, 77, []) := rfl
theorem ti_60_77 : (q_I 60).2 77 = some (1, 0, 10, 5, 0, 80, [231]) := rfl
theorem ti_60_80 : (q_I 60).2 80 = some (1, 0, 136, 2, 2, 83, [91]) := rfl
theorem ti_60_83 : (q_I 60).2 83 = some (4, 0, 0, 0, 0, 84, []) := rfl
theorem ti_60_68 : (q_I 60).2 68 = some (0, 4, 0, 0, 2, 69, []) := rfl
theorem ti_60_69 : (q_I 60).2 69 = some (1, 0, 10, 5, 0, 72, [231]) := rfl
theorem ti_60_72 : (q_I 60).2 72 = some (1, 0, 133, 2, 1, 75, [88]) := rfl
theorem ti_60_75 : (q_I 60).2 75 = some (4, 0, 0, 0, 0, 76, []) := rfl
theorem ti_60_60 : (q_I 60).2 60 = some (0, 4, 0, 0, 2, 61, []) := rfl
theorem ti_60_61 : (q_I 60).2 61 = some (1, 0, 10, 5, 0, 64, [231]) := rfl
theorem ti_60_64 : (q_I 60).2 64 = some (1, 0, 130, 2, 0, 67, [85]) := rfl
theorem ti_60_67 : (q_I 60).2 67 = some (4, 0, 0, 0, 0, 68, []) := rfl
theorem ti_60_52 : (q_I 60).2 52 = some (0, 4, 0, 0, 2, 53, []) := rfl
theorem ti_60_53 : (q_I 60).2 53 = some (1, 0, 10, 5, 0, 56, [231]) := rfl
theorem ti_60_56 : (q_I 60).2 56 = some (1, 0, 68, 2, 6, 59, [101]) := rfl
theorem ti_60_59 : (q_I 60).2 59 = some (4, 0, 0, 0, 0, 60, []) := rfl
theorem mt_60 (a1 : Int) (H : a_P) : a_mt (a_pp H) 0 60 [(2, 0), (0, a1)] H (fn_60 a1 H) := by
  refine a_mtI (lo := [some (2, 0), some (0, a1)]) rfl fun d => ?_
  unfold fn_60
  refine a_w0 (Nat.le_succ _) ti_60_0 rfl ?_
  refine a_w18 (Nat.le_succ _) ti_60_1 rfl ⟨?_, ?_, ?_, ?_, ?_, ?_, ?_, ?_, ?_, trivial⟩ ?_
  · refine a_w0 (Nat.le_succ _) ti_60_52 rfl ?_
    refine a_w1 (a := (2, 1)) (Nat.le_succ _) ti_60_53 rfl ?_
    refine a_w1 (a := (0, H 1 6)) (Nat.le_succ _) ti_60_56 rfl ?_
    exact a_w4 (Nat.le_succ _) ti_60_59 rfl rfl rfl
  · refine a_w0 (Nat.le_succ _) ti_60_60 rfl ?_
    refine a_w1 (a := (2, 1)) (Nat.le_succ _) ti_60_61 rfl ?_
    refine a_w1 (a := (0, H 1 0)) (Nat.le_succ _) ti_60_64 rfl ?_
    exact a_w4 (Nat.le_succ _) ti_60_67 rfl rfl rfl
  · refine a_w0 (Nat.le_succ _) ti_60_68 rfl ?_
    refine a_w1 (a := (2, 1)) (Nat.le_succ _) ti_60_69 rfl ?_
    refine a_w1 (a := (0, H 1 1)) (Nat.le_succ _) ti_60_72 rfl ?_
    exact a_w4 (Nat.le_succ _) ti_60_75 rfl rfl rfl
  · refine a_w0 (Nat.le_succ _) ti_60_76 rfl ?_
    refine a_w1 (a := (2, 1)) (Nat.le_succ _) ti_60_77 rfl ?_
    refine a_w1 (a := (0, H 1 2)) (Nat.le_succ _) ti_60_80 rfl ?_
    exact a_w4 (Nat.le_succ _) ti_60_83 rfl rfl rfl
  · refine a_w0 (Nat.le_succ _) ti_60_84 rfl ?_
    refine a_w1 (a := (2, 1)) (Nat.le_succ _) ti_60_85 rfl ?_
    refine a_w1 (a := (0, H 1 3)) (Nat.le_succ _) ti_60_88 rfl ?_
    exact a_w4 (Nat.le_succ _) ti_60_91 rfl rfl rfl
  · refine a_w0 (Nat.le_succ _) ti_60_92 rfl ?_
    refine a_w1 (a := (2, 1)) (Nat.le_succ _) ti_60_93 rfl ?_
    refine a_w1 (a := (0, H 1 4)) (Nat.le_succ _) ti_60_96 rfl ?_
    exact a_w4 (Nat.le_succ _) ti_60_99 rfl rfl rfl
  · refine a_w0 (Nat.le_succ _) ti_60_100 rfl ?_
    refine a_w1 (a := (2, 1)) (Nat.le_succ _) ti_60_101 rfl ?_
    refine a_w3p (args := [(2, 1)]) (Nat.le_succ _) ti_60_104 (mt_23 1 H) rfl rfl rfl rfl ?_
    exact a_w4 (Nat.le_succ _) ti_60_107 rfl rfl rfl
  · refine a_w0 (Nat.le_succ _) ti_60_108 rfl ?_
    refine a_w1 (a := (2, 1)) (Nat.le_succ _) ti_60_109 rfl ?_
    refine a_w3p (args := [(2, 1)]) (Nat.le_succ _) ti_60_112 (mt_24 1 H) rfl rfl rfl rfl ?_
    exact a_w4 (Nat.le_succ _) ti_60_115 rfl rfl rfl
  · refine a_w0 (Nat.le_succ _) ti_60_116 rfl ?_
    refine a_w1 (a := (2, 13)) (Nat.le_succ _) ti_60_117 rfl ?_
    refine a_w1 (a := (0, H 13 2)) (Nat.le_succ _) ti_60_120 rfl ?_
    exact a_w4 (Nat.le_succ _) ti_60_123 rfl rfl rfl
  · refine a_w2 (z := (-1)) (Nat.le_succ _) ti_60_124 (by decide) ?_
    exact a_w4 (Nat.le_succ _) ti_60_125 rfl rfl rfl
/-- CarriedGate$Past.keep(LCarriedGate$Plain;)V -/
noncomputable def fn_1 (p : Int) (a1 : Int) (H : a_P) : a_P :=
  a_bd (fn_10 ((p + 1) + (1 + 6 * (a_rem (a_w ((H p 1) + (H p 2))) 8))) a1 H) fun H1 =>
  a_jn (fun (s1 : a_P) => s1) fun j56 =>
  (if (H1 p 2) < 8 then a_bd (a_up H1 p 2 (a_w ((H1 p 2) + 1))) fun H3 =>
  j56 H3
  else a_bd (a_up H1 p 1 (a_rem (a_w ((H1 p 1) + 1)) 8)) fun H2 =>
  j56 H2)
theorem ti_1_0 : (q_I 1).2 0 = some (0, 4, 0, 0, 2, 1, []) := rfl
theorem ti_1_1 : (q_I 1).2 1 = some (1, 0, 11, 0, 0, 4, [148]) := rfl
theorem ti_1_4 : (q_I 1).2 4 = some (0, 4, 0, 0, 2, 5, []) := rfl
theorem ti_1_5 : (q_I 1).2 5 = some (1, 0, 15, 0, 1, 8, [149]) := rfl
theorem ti_1_8 : (q_I 1).2 8 = some (0, 4, 0, 0, 2, 9, []) := rfl
theorem ti_1_9 : (q_I 1).2 9 = some (1, 0, 19, 0, 2, 12, [150]) := rfl
theorem ti_1_12 : (q_I 1).2 12 = some (6, 0, 0, 0, 0, 13, []) := rfl
theorem ti_1_13 : (q_I 1).2 13 = some (2, 1, 8, 0, 0, 15, []) := rfl
theorem ti_1_15 : (q_I 1).2 15 = some (6, 4, 0, 0, 0, 16, []) := rfl
theorem ti_1_16 : (q_I 1).2 16 = some (5, 13, 0, 0, 0, 17, []) := rfl
theorem ti_1_17 : (q_I 1).2 17 = some (0, 4, 0, 1, 2, 18, []) := rfl
theorem ti_1_18 : (q_I 1).2 18 = some (3, 0, 23, 10, 2, 21, [498, 2]) := rfl
theorem ti_1_21 : (q_I 1).2 21 = some (0, 4, 0, 0, 2, 22, []) := rfl
theorem ti_1_22 : (q_I 1).2 22 = some (1, 0, 19, 0, 2, 25, [150]) := rfl
theorem ti_1_25 : (q_I 1).2 25 = some (2, 1, 8, 0, 0, 27, []) := rfl
theorem ti_1_27 : (q_I 1).2 27 = some (9, 3, 0, 43, 0, 30, []) := rfl
theorem ti_1_30 : (q_I 1).2 30 = some (0, 4, 0, 0, 2, 31, []) := rfl
theorem ti_1_31 : (q_I 1).2 31 = some (16, 0, 0, 0, 0, 32, []) := rfl
theorem ti_1_32 : (q_I 1).2 32 = some (1, 0, 19, 0, 2, 35, [150]) := rfl
theorem ti_1_35 : (q_I 1).2 35 = some (2, 0, 1, 0, 0, 36, []) := rfl
theorem ti_1_36 : (q_I 1).2 36 = some (6, 0, 0, 0, 0, 37, []) := rfl
theorem ti_1_37 : (q_I 1).2 37 = some (10, 0, 19, 0, 2, 40, [150]) := rfl
theorem ti_1_40 : (q_I 1).2 40 = some (7, 0, 0, 56, 0, 43, []) := rfl
theorem ti_1_43 : (q_I 1).2 43 = some (0, 4, 0, 0, 2, 44, []) := rfl
theorem ti_1_44 : (q_I 1).2 44 = some (0, 4, 0, 0, 2, 45, []) := rfl
theorem ti_1_45 : (q_I 1).2 45 = some (1, 0, 15, 0, 1, 48, [149]) := rfl
theorem ti_1_48 : (q_I 1).2 48 = some (2, 0, 1, 0, 0, 49, []) := rfl
theorem ti_1_49 : (q_I 1).2 49 = some (6, 0, 0, 0, 0, 50, []) := rfl
theorem ti_1_50 : (q_I 1).2 50 = some (2, 1, 8, 0, 0, 52, []) := rfl
theorem ti_1_52 : (q_I 1).2 52 = some (6, 4, 0, 0, 0, 53, []) := rfl
theorem ti_1_53 : (q_I 1).2 53 = some (10, 0, 15, 0, 1, 56, [149]) := rfl
theorem ti_1_56 : (q_I 1).2 56 = some (4, 4, 0, 0, 0, 57, []) := rfl
theorem mt_1 (p : Int) (a1 : Int) (H : a_P) : a_mt a_pv 9 1 [(2, p), (2, a1)] H (fn_1 p a1 H) := by
  refine a_mtI (lo := [some (2, p), some (2, a1)]) rfl fun d => ?_
  unfold fn_1
  refine a_w0 (Nat.le_succ _) ti_1_0 rfl ?_
  refine a_w1 (a := (2, (p + 1))) (Nat.le_succ _) ti_1_1 rfl ?_
  refine a_w0 (Nat.le_succ _) ti_1_4 rfl ?_
  refine a_w1 (a := (0, H p 1)) (Nat.le_succ _) ti_1_5 rfl ?_
  refine a_w0 (Nat.le_succ _) ti_1_8 rfl ?_
  refine a_w1 (a := (0, H p 2)) (Nat.le_succ _) ti_1_9 rfl ?_
  refine a_w6 (a := (0, a_w ((H p 1) + (H p 2)))) (Nat.le_succ _) ti_1_12 rfl ?_
  refine a_w2 (z := 8) (Nat.le_succ _) ti_1_13 (by decide) ?_
  refine a_w6 (a := (0, a_rem (a_w ((H p 1) + (H p 2))) 8)) (Nat.le_succ _) ti_1_15 rfl ?_
  refine a_w5r (Nat.le_succ _) ti_1_16 (fun _ => rfl) ?_
  refine a_w0 (Nat.le_succ _) ti_1_17 rfl ?_
  refine a_w3v (args := [(2, ((p + 1) + (1 + 6 * (a_rem (a_w ((H p 1) + (H p 2))) 8)))), (2, a1)]) (Nat.le_succ _) ti_1_18 (mt_10 ((p + 1) + (1 + 6 * (a_rem (a_w ((H p 1) + (H p 2))) 8))) a1 H) rfl rfl (fun H1 => ?_)
  refine a_w0 (Nat.le_succ _) ti_1_21 rfl ?_
  refine a_w1 (a := (0, H1 p 2)) (Nat.le_succ _) ti_1_22 rfl ?_
  refine a_w2 (z := 8) (Nat.le_succ _) ti_1_25 (by decide) ?_
  refine a_wjn 56 (fun (s : a_P) => [none, none]) (fun (s : a_P) => []) (fun (s : a_P) => s) (fun s1 => ?_) (fun j56 hj56 => ?_)
  · exact a_w4v (Nat.le_succ _) ti_1_56 rfl rfl
  · refine a_w9_3 (Nat.le_succ _) ti_1_27 ?_ ?_
    · refine a_w0 (Nat.le_succ _) ti_1_43 rfl ?_
      refine a_w0 (Nat.le_succ _) ti_1_44 rfl ?_
      refine a_w1 (a := (0, H1 p 1)) (Nat.le_succ _) ti_1_45 rfl ?_
      refine a_w2 (z := 1) (Nat.le_succ _) ti_1_48 (by decide) ?_
      refine a_w6 (a := (0, a_w ((H1 p 1) + 1))) (Nat.le_succ _) ti_1_49 rfl ?_
      refine a_w2 (z := 8) (Nat.le_succ _) ti_1_50 (by decide) ?_
      refine a_w6 (a := (0, a_rem (a_w ((H1 p 1) + 1)) 8)) (Nat.le_succ _) ti_1_52 rfl ?_
      refine a_w10 (Nat.le_succ _) ti_1_53 rfl rfl rfl (fun H2 => ?_)
      exact a_wk (hj56 H2) (by omega) trivial
    · refine a_w0 (Nat.le_succ _) ti_1_30 rfl ?_
      refine a_w16 (Nat.le_succ _) ti_1_31 ?_
      refine a_w1 (a := (0, H1 p 2)) (Nat.le_succ _) ti_1_32 rfl ?_
      refine a_w2 (z := 1) (Nat.le_succ _) ti_1_35 (by decide) ?_
      refine a_w6 (a := (0, a_w ((H1 p 2) + 1))) (Nat.le_succ _) ti_1_36 rfl ?_
      refine a_w10 (Nat.le_succ _) ti_1_37 rfl rfl rfl (fun H3 => ?_)
      refine a_w7 (Nat.le_succ _) ti_1_40 ?_
      exact a_wk (hj56 H3) (by omega) trivial
/-- CarriedGate$Plain.stepFrom(II)I -/
noncomputable def fn_17 (a0 : Int) (a1 : Int) : Int :=
  a_sw a1 0 (a0) [a_jn (fun (s1 : Int) => s1) fun j47 =>
  (if 0 < (a_div a0 6) then j47 (a_w (a0 - 6))
  else j47 (-1)),
  a_jn (fun (s2 : Int) => s2) fun j63 =>
  (if (a_rem a0 6) < 5 then j63 (a_w (a0 + 1))
  else j63 (-1)),
  a_jn (fun (s3 : Int) => s3) fun j80 =>
  (if (a_div a0 6) < 5 then j80 (a_w (a0 + 6))
  else j80 (-1)),
  a_jn (fun (s4 : Int) => s4) fun j95 =>
  (if 0 < (a_rem a0 6) then j95 (a_w (a0 - 1))
  else j95 (-1))]
theorem ti_17_0 : (q_I 17).2 0 = some (0, 0, 0, 1, 0, 1, []) := rfl
theorem ti_17_1 : (q_I 17).2 1 = some (18, 4, 0, 96, 0, 32, [32, 48, 64, 81]) := rfl
theorem ti_17_96 : (q_I 17).2 96 = some (0, 0, 0, 0, 0, 97, []) := rfl
theorem ti_17_97 : (q_I 17).2 97 = some (4, 0, 0, 0, 0, 98, []) := rfl
theorem ti_17_81 : (q_I 17).2 81 = some (0, 0, 0, 0, 0, 82, []) := rfl
theorem ti_17_82 : (q_I 17).2 82 = some (2, 1, 6, 0, 0, 84, []) := rfl
theorem ti_17_84 : (q_I 17).2 84 = some (6, 4, 0, 0, 0, 85, []) := rfl
theorem ti_17_85 : (q_I 17).2 85 = some (8, 5, 0, 94, 0, 88, []) := rfl
theorem ti_17_88 : (q_I 17).2 88 = some (0, 0, 0, 0, 0, 89, []) := rfl
theorem ti_17_89 : (q_I 17).2 89 = some (2, 0, 1, 0, 0, 90, []) := rfl
theorem ti_17_90 : (q_I 17).2 90 = some (6, 1, 0, 0, 0, 91, []) := rfl
theorem ti_17_91 : (q_I 17).2 91 = some (7, 0, 0, 95, 0, 94, []) := rfl
theorem ti_17_94 : (q_I 17).2 94 = some (2, 0, (-1), 0, 0, 95, []) := rfl
theorem ti_17_95 : (q_I 17).2 95 = some (4, 0, 0, 0, 0, 96, []) := rfl
theorem ti_17_64 : (q_I 17).2 64 = some (0, 0, 0, 0, 0, 65, []) := rfl
theorem ti_17_65 : (q_I 17).2 65 = some (2, 1, 6, 0, 0, 67, []) := rfl
theorem ti_17_67 : (q_I 17).2 67 = some (6, 3, 0, 0, 0, 68, []) := rfl
theorem ti_17_68 : (q_I 17).2 68 = some (2, 0, 5, 0, 0, 69, []) := rfl
theorem ti_17_69 : (q_I 17).2 69 = some (9, 3, 0, 79, 0, 72, []) := rfl
theorem ti_17_72 : (q_I 17).2 72 = some (0, 0, 0, 0, 0, 73, []) := rfl
theorem ti_17_73 : (q_I 17).2 73 = some (2, 1, 6, 0, 0, 75, []) := rfl
theorem ti_17_75 : (q_I 17).2 75 = some (6, 0, 0, 0, 0, 76, []) := rfl
theorem ti_17_76 : (q_I 17).2 76 = some (7, 0, 0, 80, 0, 79, []) := rfl
theorem ti_17_79 : (q_I 17).2 79 = some (2, 0, (-1), 0, 0, 80, []) := rfl
theorem ti_17_80 : (q_I 17).2 80 = some (4, 0, 0, 0, 0, 81, []) := rfl
theorem ti_17_48 : (q_I 17).2 48 = some (0, 0, 0, 0, 0, 49, []) := rfl
theorem ti_17_49 : (q_I 17).2 49 = some (2, 1, 6, 0, 0, 51, []) := rfl
theorem ti_17_51 : (q_I 17).2 51 = some (6, 4, 0, 0, 0, 52, []) := rfl
theorem ti_17_52 : (q_I 17).2 52 = some (2, 0, 5, 0, 0, 53, []) := rfl
theorem ti_17_53 : (q_I 17).2 53 = some (9, 3, 0, 62, 0, 56, []) := rfl
theorem ti_17_56 : (q_I 17).2 56 = some (0, 0, 0, 0, 0, 57, []) := rfl
theorem ti_17_57 : (q_I 17).2 57 = some (2, 0, 1, 0, 0, 58, []) := rfl
theorem ti_17_58 : (q_I 17).2 58 = some (6, 0, 0, 0, 0, 59, []) := rfl
theorem ti_17_59 : (q_I 17).2 59 = some (7, 0, 0, 63, 0, 62, []) := rfl
theorem ti_17_62 : (q_I 17).2 62 = some (2, 0, (-1), 0, 0, 63, []) := rfl
theorem ti_17_63 : (q_I 17).2 63 = some (4, 0, 0, 0, 0, 64, []) := rfl
theorem ti_17_32 : (q_I 17).2 32 = some (0, 0, 0, 0, 0, 33, []) := rfl
theorem ti_17_33 : (q_I 17).2 33 = some (2, 1, 6, 0, 0, 35, []) := rfl
theorem ti_17_35 : (q_I 17).2 35 = some (6, 3, 0, 0, 0, 36, []) := rfl
theorem ti_17_36 : (q_I 17).2 36 = some (8, 5, 0, 46, 0, 39, []) := rfl
theorem ti_17_39 : (q_I 17).2 39 = some (0, 0, 0, 0, 0, 40, []) := rfl
theorem ti_17_40 : (q_I 17).2 40 = some (2, 1, 6, 0, 0, 42, []) := rfl
theorem ti_17_42 : (q_I 17).2 42 = some (6, 1, 0, 0, 0, 43, []) := rfl
theorem ti_17_43 : (q_I 17).2 43 = some (7, 0, 0, 47, 0, 46, []) := rfl
theorem ti_17_46 : (q_I 17).2 46 = some (2, 0, (-1), 0, 0, 47, []) := rfl
theorem ti_17_47 : (q_I 17).2 47 = some (4, 0, 0, 0, 0, 48, []) := rfl
theorem mt_17 (a0 : Int) (a1 : Int) (H : a_P) : a_mt (a_pp H) 0 17 [(0, a0), (0, a1)] H (fn_17 a0 a1) := by
  refine a_mtI (lo := [some (0, a0), some (0, a1)]) rfl fun d => ?_
  unfold fn_17
  refine a_w0 (Nat.le_succ _) ti_17_0 rfl ?_
  refine a_w18 (Nat.le_succ _) ti_17_1 rfl ⟨?_, ?_, ?_, ?_, trivial⟩ ?_
  · refine a_w0 (Nat.le_succ _) ti_17_32 rfl ?_
    refine a_w2 (z := 6) (Nat.le_succ _) ti_17_33 (by decide) ?_
    refine a_w6 (a := (0, a_div a0 6)) (Nat.le_succ _) ti_17_35 rfl ?_
    refine a_wjn 47 (fun (s : Int) => [none, none]) (fun (s : Int) => [(0, s)]) (fun (s : Int) => H) (fun s1 => ?_) (fun j47 hj47 => ?_)
    · exact a_w4 (Nat.le_succ _) ti_17_47 rfl rfl rfl
    · refine a_w8_5 (Nat.le_succ _) ti_17_36 ?_ ?_
      · refine a_w2 (z := (-1)) (Nat.le_succ _) ti_17_46 (by decide) ?_
        exact a_wk (hj47 (-1)) (by omega) trivial
      · refine a_w0 (Nat.le_succ _) ti_17_39 rfl ?_
        refine a_w2 (z := 6) (Nat.le_succ _) ti_17_40 (by decide) ?_
        refine a_w6 (a := (0, a_w (a0 - 6))) (Nat.le_succ _) ti_17_42 rfl ?_
        refine a_w7 (Nat.le_succ _) ti_17_43 ?_
        exact a_wk (hj47 (a_w (a0 - 6))) (by omega) trivial
  · refine a_w0 (Nat.le_succ _) ti_17_48 rfl ?_
    refine a_w2 (z := 6) (Nat.le_succ _) ti_17_49 (by decide) ?_
    refine a_w6 (a := (0, a_rem a0 6)) (Nat.le_succ _) ti_17_51 rfl ?_
    refine a_w2 (z := 5) (Nat.le_succ _) ti_17_52 (by decide) ?_
    refine a_wjn 63 (fun (s : Int) => [none, none]) (fun (s : Int) => [(0, s)]) (fun (s : Int) => H) (fun s2 => ?_) (fun j63 hj63 => ?_)
    · exact a_w4 (Nat.le_succ _) ti_17_63 rfl rfl rfl
    · refine a_w9_3 (Nat.le_succ _) ti_17_53 ?_ ?_
      · refine a_w2 (z := (-1)) (Nat.le_succ _) ti_17_62 (by decide) ?_
        exact a_wk (hj63 (-1)) (by omega) trivial
      · refine a_w0 (Nat.le_succ _) ti_17_56 rfl ?_
        refine a_w2 (z := 1) (Nat.le_succ _) ti_17_57 (by decide) ?_
        refine a_w6 (a := (0, a_w (a0 + 1))) (Nat.le_succ _) ti_17_58 rfl ?_
        refine a_w7 (Nat.le_succ _) ti_17_59 ?_
        exact a_wk (hj63 (a_w (a0 + 1))) (by omega) trivial
  · refine a_w0 (Nat.le_succ _) ti_17_64 rfl ?_
    refine a_w2 (z := 6) (Nat.le_succ _) ti_17_65 (by decide) ?_
    refine a_w6 (a := (0, a_div a0 6)) (Nat.le_succ _) ti_17_67 rfl ?_
    refine a_w2 (z := 5) (Nat.le_succ _) ti_17_68 (by decide) ?_
    refine a_wjn 80 (fun (s : Int) => [none, none]) (fun (s : Int) => [(0, s)]) (fun (s : Int) => H) (fun s3 => ?_) (fun j80 hj80 => ?_)
    · exact a_w4 (Nat.le_succ _) ti_17_80 rfl rfl rfl
    · refine a_w9_3 (Nat.le_succ _) ti_17_69 ?_ ?_
      · refine a_w2 (z := (-1)) (Nat.le_succ _) ti_17_79 (by decide) ?_
        exact a_wk (hj80 (-1)) (by omega) trivial
      · refine a_w0 (Nat.le_succ _) ti_17_72 rfl ?_
        refine a_w2 (z := 6) (Nat.le_succ _) ti_17_73 (by decide) ?_
        refine a_w6 (a := (0, a_w (a0 + 6))) (Nat.le_succ _) ti_17_75 rfl ?_
        refine a_w7 (Nat.le_succ _) ti_17_76 ?_
        exact a_wk (hj80 (a_w (a0 + 6))) (by omega) trivial
  · refine a_w0 (Nat.le_succ _) ti_17_81 rfl ?_
    refine a_w2 (z := 6) (Nat.le_succ _) ti_17_82 (by decide) ?_
    refine a_w6 (a := (0, a_rem a0 6)) (Nat.le_succ _) ti_17_84 rfl ?_
    refine a_wjn 95 (fun (s : Int) => [none, none]) (fun (s : Int) => [(0, s)]) (fun (s : Int) => H) (fun s4 => ?_) (fun j95 hj95 => ?_)
    · exact a_w4 (Nat.le_succ _) ti_17_95 rfl rfl rfl
    · refine a_w8_5 (Nat.le_succ _) ti_17_85 ?_ ?_
      · refine a_w2 (z := (-1)) (Nat.le_succ _) ti_17_94 (by decide) ?_
        exact a_wk (hj95 (-1)) (by omega) trivial
      · refine a_w0 (Nat.le_succ _) ti_17_88 rfl ?_
        refine a_w2 (z := 1) (Nat.le_succ _) ti_17_89 (by decide) ?_
        refine a_w6 (a := (0, a_w (a0 - 1))) (Nat.le_succ _) ti_17_90 rfl ?_
        refine a_w7 (Nat.le_succ _) ti_17_91 ?_
        exact a_wk (hj95 (a_w (a0 - 1))) (by omega) trivial
  · refine a_w0 (Nat.le_succ _) ti_17_96 rfl ?_
    exact a_w4 (Nat.le_succ _) ti_17_97 rfl rfl rfl
/-- CarriedGate$Plain.walkAll()V -/
noncomputable def fn_28 (p : Int) (H : a_P) : a_P :=
  a_lp (fun (s1 : Int × a_P) => s1.2) (fun (s1 : Int × a_P) n2 => (if s1.1 < (s1.2 p 6) then a_jn (fun (s2 : a_P) => a_bd (a_w (s1.1 + 1)) fun x1 =>
  n2 (x1, s2)) fun j78 =>
  (if s1.1 = (s1.2 p 2) then j78 s1.2
  else (if (s1.2 (p + 3) s1.1) = 4 then j78 s1.2
  else a_bd (fn_17 (s1.2 (p + 2) s1.1) (s1.2 (p + 3) s1.1)) fun x2 =>
  (if x2 = (-1) then a_bd (a_up s1.2 (p + 3) s1.1 (a_rem (a_w ((s1.2 (p + 3) s1.1) + 2)) 4)) fun H2 =>
  j78 H2
  else a_bd (a_up s1.2 (p + 2) s1.1 x2) fun H1 =>
  j78 H1)))
  else s1.2)) a_fuel (0, H)
theorem ti_28_0 : (q_I 28).2 0 = some (2, 0, 0, 0, 0, 1, []) := rfl
theorem ti_28_1 : (q_I 28).2 1 = some (11, 0, 0, 1, 0, 2, []) := rfl
theorem ti_28_2 : (q_I 28).2 2 = some (0, 0, 0, 1, 0, 3, []) := rfl
theorem ti_28_3 : (q_I 28).2 3 = some (0, 4, 0, 0, 2, 4, []) := rfl
theorem ti_28_4 : (q_I 28).2 4 = some (1, 0, 30, 2, 6, 7, [100]) := rfl
theorem ti_28_7 : (q_I 28).2 7 = some (9, 3, 0, 84, 0, 10, []) := rfl
theorem ti_28_10 : (q_I 28).2 10 = some (0, 0, 0, 1, 0, 11, []) := rfl
theorem ti_28_11 : (q_I 28).2 11 = some (0, 4, 0, 0, 2, 12, []) := rfl
theorem ti_28_12 : (q_I 28).2 12 = some (1, 0, 18, 2, 2, 15, [89]) := rfl
theorem ti_28_15 : (q_I 28).2 15 = some (9, 0, 0, 78, 0, 18, []) := rfl
theorem ti_28_18 : (q_I 28).2 18 = some (0, 4, 0, 0, 2, 19, []) := rfl
theorem ti_28_19 : (q_I 28).2 19 = some (1, 0, 40, 2, 9, 22, [107]) := rfl
theorem ti_28_22 : (q_I 28).2 22 = some (0, 0, 0, 1, 0, 23, []) := rfl
theorem ti_28_23 : (q_I 28).2 23 = some (5, 10, 0, 0, 0, 24, []) := rfl
theorem ti_28_24 : (q_I 28).2 24 = some (2, 0, 4, 0, 0, 25, []) := rfl
theorem ti_28_25 : (q_I 28).2 25 = some (9, 1, 0, 31, 0, 28, []) := rfl
theorem ti_28_28 : (q_I 28).2 28 = some (7, 0, 0, 78, 0, 31, []) := rfl
theorem ti_28_31 : (q_I 28).2 31 = some (0, 4, 0, 0, 2, 32, []) := rfl
theorem ti_28_32 : (q_I 28).2 32 = some (1, 0, 37, 2, 8, 35, [105]) := rfl
theorem ti_28_35 : (q_I 28).2 35 = some (0, 0, 0, 1, 0, 36, []) := rfl
theorem ti_28_36 : (q_I 28).2 36 = some (5, 10, 0, 0, 0, 37, []) := rfl
theorem ti_28_37 : (q_I 28).2 37 = some (0, 4, 0, 0, 2, 38, []) := rfl
theorem ti_28_38 : (q_I 28).2 38 = some (1, 0, 40, 2, 9, 41, [107]) := rfl
theorem ti_28_41 : (q_I 28).2 41 = some (0, 0, 0, 1, 0, 42, []) := rfl
theorem ti_28_42 : (q_I 28).2 42 = some (5, 10, 0, 0, 0, 43, []) := rfl
theorem ti_28_43 : (q_I 28).2 43 = some (3, 1, 96, 17, 2, 46, [507, 2]) := rfl
theorem ti_28_46 : (q_I 28).2 46 = some (11, 0, 0, 2, 0, 47, []) := rfl
theorem ti_28_47 : (q_I 28).2 47 = some (0, 0, 0, 2, 0, 48, []) := rfl
theorem ti_28_48 : (q_I 28).2 48 = some (2, 0, (-1), 0, 0, 49, []) := rfl
theorem ti_28_49 : (q_I 28).2 49 = some (9, 1, 0, 71, 0, 52, []) := rfl
theorem ti_28_52 : (q_I 28).2 52 = some (0, 4, 0, 0, 2, 53, []) := rfl
theorem ti_28_53 : (q_I 28).2 53 = some (1, 0, 40, 2, 9, 56, [107]) := rfl
theorem ti_28_56 : (q_I 28).2 56 = some (0, 0, 0, 1, 0, 57, []) := rfl
theorem ti_28_57 : (q_I 28).2 57 = some (0, 4, 0, 0, 2, 58, []) := rfl
theorem ti_28_58 : (q_I 28).2 58 = some (1, 0, 40, 2, 9, 61, [107]) := rfl
theorem ti_28_61 : (q_I 28).2 61 = some (0, 0, 0, 1, 0, 62, []) := rfl
theorem ti_28_62 : (q_I 28).2 62 = some (5, 10, 0, 0, 0, 63, []) := rfl
theorem ti_28_63 : (q_I 28).2 63 = some (2, 0, 2, 0, 0, 64, []) := rfl
theorem ti_28_64 : (q_I 28).2 64 = some (6, 0, 0, 0, 0, 65, []) := rfl
theorem ti_28_65 : (q_I 28).2 65 = some (2, 0, 4, 0, 0, 66, []) := rfl
theorem ti_28_66 : (q_I 28).2 66 = some (6, 4, 0, 0, 0, 67, []) := rfl
theorem ti_28_67 : (q_I 28).2 67 = some (12, 10, 0, 0, 0, 68, []) := rfl
theorem ti_28_68 : (q_I 28).2 68 = some (7, 0, 0, 78, 0, 71, []) := rfl
theorem ti_28_71 : (q_I 28).2 71 = some (0, 4, 0, 0, 2, 72, []) := rfl
theorem ti_28_72 : (q_I 28).2 72 = some (1, 0, 37, 2, 8, 75, [105]) := rfl
theorem ti_28_75 : (q_I 28).2 75 = some (0, 0, 0, 1, 0, 76, []) := rfl
theorem ti_28_76 : (q_I 28).2 76 = some (0, 0, 0, 2, 0, 77, []) := rfl
theorem ti_28_77 : (q_I 28).2 77 = some (12, 10, 0, 0, 0, 78, []) := rfl
theorem ti_28_78 : (q_I 28).2 78 = some (13, 0, 1, 1, 0, 81, []) := rfl
theorem ti_28_81 : (q_I 28).2 81 = some (7, 0, 0, 2, 0, 84, []) := rfl
theorem ti_28_84 : (q_I 28).2 84 = some (4, 4, 0, 0, 0, 85, []) := rfl
theorem mt_28 (p : Int) (H : a_P) : a_mt a_pv 9 28 [(2, p)] H (fn_28 p H) := by
  refine a_mtI (lo := [some (2, p), none, none]) rfl fun d => ?_
  unfold fn_28
  refine a_w2 (z := 0) (Nat.le_succ _) ti_28_0 (by decide) ?_
  refine a_w11 (lo' := [some (2, p), some (0, 0), none]) (Nat.le_succ _) ti_28_1 rfl ?_
  refine a_wk (a_wlp (fun (s : Int × a_P) => [some (2, p), some (0, s.1), none]) (fun (s : Int × a_P) => s.2) (fun N1 hN1 n2 hn2 s1 => ?_) a_fuel (a_fuel_le (by omega)) (0, H)) (Nat.le_refl _) ⟨rfl, rfl, trivial⟩
  · refine a_w0 (Nat.le_refl _) ti_28_2 rfl ?_
    refine a_w0 (Nat.le_succ _) ti_28_3 rfl ?_
    refine a_w1 (a := (0, s1.2 p 6)) (Nat.le_succ _) ti_28_4 rfl ?_
    refine a_w9_3 (Nat.le_succ _) ti_28_7 ?_ ?_
    · exact a_w4v (Nat.le_succ _) ti_28_84 rfl rfl
    · refine a_w0 (Nat.le_succ _) ti_28_10 rfl ?_
      refine a_w0 (Nat.le_succ _) ti_28_11 rfl ?_
      refine a_w1 (a := (0, s1.2 p 2)) (Nat.le_succ _) ti_28_12 rfl ?_
      refine a_wjn 78 (fun (s : a_P) => [some (2, p), some (0, s1.1), none]) (fun (s : a_P) => []) (fun (s : a_P) => s) (fun s2 => ?_) (fun j78 hj78 => ?_)
      · refine a_w13 (c' := 1) (lof := fun x1 => [some (2, p), some (0, x1), none]) (Nat.le_succ _) ti_28_78 rfl (by decide) rfl (fun _ => rfl) (fun x1 => ?_)
        refine a_w7 (Nat.le_succ _) ti_28_81 ?_
        exact a_wk (hn2 (x1, s2)) (by omega) ⟨rfl, rfl, trivial⟩
      · refine a_w9_0 (Nat.le_succ _) ti_28_15 ?_ ?_
        · exact a_wk (hj78 s1.2) (by omega) ⟨rfl, rfl, trivial⟩
        · refine a_w0 (Nat.le_succ _) ti_28_18 rfl ?_
          refine a_w1 (a := (2, (p + 3))) (Nat.le_succ _) ti_28_19 rfl ?_
          refine a_w0 (Nat.le_succ _) ti_28_22 rfl ?_
          refine a_w5 (kk := 0) (Nat.le_succ _) ti_28_23 (fun _ => rfl) ?_
          refine a_w2 (z := 4) (Nat.le_succ _) ti_28_24 (by decide) ?_
          refine a_w9_1 (Nat.le_succ _) ti_28_25 ?_ ?_
          · refine a_w0 (Nat.le_succ _) ti_28_31 rfl ?_
            refine a_w1 (a := (2, (p + 2))) (Nat.le_succ _) ti_28_32 rfl ?_
            refine a_w0 (Nat.le_succ _) ti_28_35 rfl ?_
            refine a_w5 (kk := 0) (Nat.le_succ _) ti_28_36 (fun _ => rfl) ?_
            refine a_w0 (Nat.le_succ _) ti_28_37 rfl ?_
            refine a_w1 (a := (2, (p + 3))) (Nat.le_succ _) ti_28_38 rfl ?_
            refine a_w0 (Nat.le_succ _) ti_28_41 rfl ?_
            refine a_w5 (kk := 0) (Nat.le_succ _) ti_28_42 (fun _ => rfl) ?_
            refine a_w3p (args := [(0, s1.2 (p + 2) s1.1), (0, s1.2 (p + 3) s1.1)]) (Nat.le_succ _) ti_28_43 (mt_17 (s1.2 (p + 2) s1.1) (s1.2 (p + 3) s1.1) s1.2) rfl rfl rfl rfl ?_
            refine a_w11b (lof := fun x2 => [some (2, p), some (0, s1.1), some (0, x2)]) (Nat.le_succ _) ti_28_46 (fun _ => rfl) (fun x2 => ?_)
            refine a_w0 (Nat.le_succ _) ti_28_47 rfl ?_
            refine a_w2 (z := (-1)) (Nat.le_succ _) ti_28_48 (by decide) ?_
            refine a_w9_1 (Nat.le_succ _) ti_28_49 ?_ ?_
            · refine a_w0 (Nat.le_succ _) ti_28_71 rfl ?_
              refine a_w1 (a := (2, (p + 2))) (Nat.le_succ _) ti_28_72 rfl ?_
              refine a_w0 (Nat.le_succ _) ti_28_75 rfl ?_
              refine a_w0 (Nat.le_succ _) ti_28_76 rfl ?_
              refine a_w12 (Nat.le_succ _) ti_28_77 (Or.inl ⟨rfl, rfl⟩) (fun H1 => ?_)
              exact a_wk (hj78 H1) (by omega) ⟨rfl, rfl, trivial⟩
            · refine a_w0 (Nat.le_succ _) ti_28_52 rfl ?_
              refine a_w1 (a := (2, (p + 3))) (Nat.le_succ _) ti_28_53 rfl ?_
              refine a_w0 (Nat.le_succ _) ti_28_56 rfl ?_
              refine a_w0 (Nat.le_succ _) ti_28_57 rfl ?_
              refine a_w1 (a := (2, (p + 3))) (Nat.le_succ _) ti_28_58 rfl ?_
              refine a_w0 (Nat.le_succ _) ti_28_61 rfl ?_
              refine a_w5 (kk := 0) (Nat.le_succ _) ti_28_62 (fun _ => rfl) ?_
              refine a_w2 (z := 2) (Nat.le_succ _) ti_28_63 (by decide) ?_
              refine a_w6 (a := (0, a_w ((s1.2 (p + 3) s1.1) + 2))) (Nat.le_succ _) ti_28_64 rfl ?_
              refine a_w2 (z := 4) (Nat.le_succ _) ti_28_65 (by decide) ?_
              refine a_w6 (a := (0, a_rem (a_w ((s1.2 (p + 3) s1.1) + 2)) 4)) (Nat.le_succ _) ti_28_66 rfl ?_
              refine a_w12 (Nat.le_succ _) ti_28_67 (Or.inl ⟨rfl, rfl⟩) (fun H2 => ?_)
              refine a_w7 (Nat.le_succ _) ti_28_68 ?_
              exact a_wk (hj78 H2) (by omega) ⟨rfl, rfl, trivial⟩
          · refine a_w7 (Nat.le_succ _) ti_28_28 ?_
            exact a_wk (hj78 s1.2) (by omega) ⟨rfl, rfl, trivial⟩

/-- CarriedGate.greatestShared(II)I -/
noncomputable def fn_106 (a0 : Int) (a1 : Int) : Int :=
  a_jn (fun (s1 : Int) => s1) fun j35 =>
  a_lp (fun (s2 : Int × Int × Int) => 0) (fun (s2 : Int × Int × Int) n7 => (if s2.2.2 < 1000 then (if s2.2.1 = 0 then j35 s2.1
  else a_bd (a_rem s2.1 s2.2.1) fun x1 =>
  a_bd (a_w (s2.2.2 + 1)) fun x2 =>
  n7 (s2.2.1, x1, x2))
  else j35 s2.1)) a_fuel (a0, a1, 0)
theorem ti_106_0 : (q_I 106).2 0 = some (0, 0, 0, 0, 0, 1, []) := rfl
theorem ti_106_1 : (q_I 106).2 1 = some (11, 0, 0, 2, 0, 2, []) := rfl
theorem ti_106_2 : (q_I 106).2 2 = some (0, 0, 0, 1, 0, 3, []) := rfl
theorem ti_106_3 : (q_I 106).2 3 = some (11, 0, 0, 3, 0, 4, []) := rfl
theorem ti_106_4 : (q_I 106).2 4 = some (2, 0, 0, 0, 0, 5, []) := rfl
theorem ti_106_5 : (q_I 106).2 5 = some (11, 1, 0, 4, 0, 7, []) := rfl
theorem ti_106_7 : (q_I 106).2 7 = some (0, 1, 0, 4, 0, 9, []) := rfl
theorem ti_106_9 : (q_I 106).2 9 = some (2, 2, 1000, 0, 0, 12, []) := rfl
theorem ti_106_12 : (q_I 106).2 12 = some (9, 3, 0, 35, 0, 15, []) := rfl
theorem ti_106_15 : (q_I 106).2 15 = some (0, 0, 0, 3, 0, 16, []) := rfl
theorem ti_106_16 : (q_I 106).2 16 = some (8, 0, 0, 35, 0, 19, []) := rfl
theorem ti_106_19 : (q_I 106).2 19 = some (0, 0, 0, 2, 0, 20, []) := rfl
theorem ti_106_20 : (q_I 106).2 20 = some (0, 0, 0, 3, 0, 21, []) := rfl
theorem ti_106_21 : (q_I 106).2 21 = some (6, 4, 0, 0, 0, 22, []) := rfl
theorem ti_106_22 : (q_I 106).2 22 = some (11, 1, 0, 5, 0, 24, []) := rfl
theorem ti_106_24 : (q_I 106).2 24 = some (0, 0, 0, 3, 0, 25, []) := rfl
theorem ti_106_25 : (q_I 106).2 25 = some (11, 0, 0, 2, 0, 26, []) := rfl
theorem ti_106_26 : (q_I 106).2 26 = some (0, 1, 0, 5, 0, 28, []) := rfl
theorem ti_106_28 : (q_I 106).2 28 = some (11, 0, 0, 3, 0, 29, []) := rfl
theorem ti_106_29 : (q_I 106).2 29 = some (13, 0, 1, 4, 0, 32, []) := rfl
theorem ti_106_32 : (q_I 106).2 32 = some (7, 0, 0, 7, 0, 35, []) := rfl
theorem ti_106_35 : (q_I 106).2 35 = some (0, 0, 0, 2, 0, 36, []) := rfl
theorem ti_106_36 : (q_I 106).2 36 = some (4, 0, 0, 0, 0, 37, []) := rfl
theorem mt_106 (a0 : Int) (a1 : Int) (H : a_P) : a_mt (a_pp H) 0 106 [(0, a0), (0, a1)] H (fn_106 a0 a1) := by
  refine a_mtI (lo := [some (0, a0), some (0, a1), none, none, none, none]) rfl fun d => ?_
  unfold fn_106
  refine a_w0 (Nat.le_succ _) ti_106_0 rfl ?_
  refine a_w11 (lo' := [some (0, a0), some (0, a1), some (0, a0), none, none, none]) (Nat.le_succ _) ti_106_1 rfl ?_
  refine a_w0 (Nat.le_succ _) ti_106_2 rfl ?_
  refine a_w11 (lo' := [some (0, a0), some (0, a1), some (0, a0), some (0, a1), none, none]) (Nat.le_succ _) ti_106_3 rfl ?_
  refine a_w2 (z := 0) (Nat.le_succ _) ti_106_4 (by decide) ?_
  refine a_w11 (lo' := [some (0, a0), some (0, a1), some (0, a0), some (0, a1), some (0, 0), none]) (Nat.le_succ _) ti_106_5 rfl ?_
  refine a_wjn 35 (fun (s : Int) => [none, none, some (0, s), none, none, none]) (fun (s : Int) => []) (fun (s : Int) => H) (fun s1 => ?_) (fun j35 hj35 => ?_)
  · refine a_w0 (Nat.le_succ _) ti_106_35 rfl ?_
    exact a_w4 (Nat.le_succ _) ti_106_36 rfl rfl rfl
  · refine a_wk (a_wlp (fun (s : Int × Int × Int) => [none, none, some (0, s.1), some (0, s.2.1), some (0, s.2.2), none]) (fun (s : Int × Int × Int) => H) (fun N1 hN1 n7 hn7 s2 => ?_) a_fuel (a_fuel_le (by omega)) (a0, a1, 0)) (Nat.le_refl _) ⟨rfl, rfl, rfl, trivial⟩
    · refine a_w0 (Nat.le_refl _) ti_106_7 rfl ?_
      refine a_w2 (z := 1000) (Nat.le_succ _) ti_106_9 (by decide) ?_
      refine a_w9_3 (Nat.le_succ _) ti_106_12 ?_ ?_
      · exact a_wk (hj35 s2.1) (by omega) ⟨rfl, trivial⟩
      · refine a_w0 (Nat.le_succ _) ti_106_15 rfl ?_
        refine a_w8_0 (Nat.le_succ _) ti_106_16 ?_ ?_
        · exact a_wk (hj35 s2.1) (by omega) ⟨rfl, trivial⟩
        · refine a_w0 (Nat.le_succ _) ti_106_19 rfl ?_
          refine a_w0 (Nat.le_succ _) ti_106_20 rfl ?_
          refine a_w6 (a := (0, a_rem s2.1 s2.2.1)) (Nat.le_succ _) ti_106_21 rfl ?_
          refine a_w11b (lof := fun x1 => [none, none, some (0, s2.1), some (0, s2.2.1), some (0, s2.2.2), some (0, x1)]) (Nat.le_succ _) ti_106_22 (fun _ => rfl) (fun x1 => ?_)
          refine a_w0 (Nat.le_succ _) ti_106_24 rfl ?_
          refine a_w11 (lo' := [none, none, some (0, s2.2.1), some (0, s2.2.1), some (0, s2.2.2), some (0, x1)]) (Nat.le_succ _) ti_106_25 rfl ?_
          refine a_w0 (Nat.le_succ _) ti_106_26 rfl ?_
          refine a_w11 (lo' := [none, none, some (0, s2.2.1), some (0, x1), some (0, s2.2.2), some (0, x1)]) (Nat.le_succ _) ti_106_28 rfl ?_
          refine a_w13 (c' := 1) (lof := fun x2 => [none, none, some (0, s2.2.1), some (0, x1), some (0, x2), some (0, x1)]) (Nat.le_succ _) ti_106_29 rfl (by decide) rfl (fun _ => rfl) (fun x2 => ?_)
          refine a_w7 (Nat.le_succ _) ti_106_32 ?_
          exact a_wk (hn7 (s2.2.1, x1, x2)) (by omega) ⟨rfl, rfl, rfl, trivial⟩
/-- CarriedGate.dry(IIIII)I -/
noncomputable def fn_82 (a1 : Int) (a2 : Int) (a3 : Int) (a4 : Int) (a5 : Int) (H : a_P) : a_F :=
  a_jn (fun (s1 : Unit) => ((-1), H)) fun j29 =>
  (if (fn_12 1 a1 H) = 0 then j29 ()
  else (if (fn_91 a2 100) = 0 then j29 ()
  else (if (fn_91 a3 7) = 0 then j29 ()
  else a_jn (fun (s2 : Unit) => ((-1), H)) fun j50 =>
  (if (fn_91 a4 11) = 0 then j50 ()
  else (if (fn_91 a5 2) = 0 then j50 ()
  else a_bd (fn_103 a1 a3 H) fun g1 =>
  a_jn (fun (s3 : Int) => a_jn (fun (s4 : Int) => a_bd (fn_106 s4 s3) fun x1 =>
  (if x1 = 0 then ((-1), g1.2)
  else a_jn (fun (s5 : Int) => (a_div s5 x1, g1.2)) fun j163 =>
  (if a5 = 0 then j163 s4
  else j163 s3))) fun j135 =>
  a_lp (fun (s6 : Int × Int) => (0, g1.2)) (fun (s6 : Int × Int) n91 => (if s6.2 < (a_shl 1 a3) then a_jn (fun (s7 : Int) => a_bd (a_w (s6.2 + 1)) fun x2 =>
  n91 (s7, x2)) fun j129 =>
  (if a2 < (fn_104 a1 a3 (a_and s6.2 (a_xor g1.1 (-1))) g1.2) then j129 s6.1
  else a_bd (a_w (s6.1 + (fn_105 s6.2 a3 a4))) fun x3 =>
  j129 x3)
  else j135 s6.1)) a_fuel (0, 0)) fun j88 =>
  a_lp (fun (s8 : Int × Int) => (0, g1.2)) (fun (s8 : Int × Int) n69 => (if s8.2 < a3 then a_bd (a_w (s8.1 * 10)) fun x4 =>
  a_bd (a_w (s8.2 + 1)) fun x5 =>
  n69 (x4, x5)
  else j88 s8.1)) a_fuel (1, 0))))))
theorem ti_82_0 : (q_I 82).2 0 = some (0, 4, 0, 0, 2, 1, []) := rfl
theorem ti_82_1 : (q_I 82).2 1 = some (1, 0, 10, 5, 0, 4, [231]) := rfl
theorem ti_82_4 : (q_I 82).2 4 = some (0, 0, 0, 1, 0, 5, []) := rfl
theorem ti_82_5 : (q_I 82).2 5 = some (3, 0, 79, 12, 2, 8, [284, 2]) := rfl
theorem ti_82_8 : (q_I 82).2 8 = some (8, 0, 0, 29, 0, 11, []) := rfl
theorem ti_82_11 : (q_I 82).2 11 = some (0, 0, 0, 2, 0, 12, []) := rfl
theorem ti_82_12 : (q_I 82).2 12 = some (2, 1, 100, 0, 0, 14, []) := rfl
theorem ti_82_14 : (q_I 82).2 14 = some (3, 1, 64, 91, 2, 17, [269, 5]) := rfl
theorem ti_82_17 : (q_I 82).2 17 = some (8, 0, 0, 29, 0, 20, []) := rfl
theorem ti_82_20 : (q_I 82).2 20 = some (0, 0, 0, 3, 0, 21, []) := rfl
theorem ti_82_21 : (q_I 82).2 21 = some (2, 1, 7, 0, 0, 23, []) := rfl
theorem ti_82_23 : (q_I 82).2 23 = some (3, 1, 64, 91, 2, 26, [269, 5]) := rfl
theorem ti_82_26 : (q_I 82).2 26 = some (8, 1, 0, 31, 0, 29, []) := rfl
theorem ti_82_31 : (q_I 82).2 31 = some (0, 1, 0, 4, 0, 33, []) := rfl
theorem ti_82_33 : (q_I 82).2 33 = some (2, 1, 11, 0, 0, 35, []) := rfl
theorem ti_82_35 : (q_I 82).2 35 = some (3, 1, 64, 91, 2, 38, [269, 5]) := rfl
theorem ti_82_38 : (q_I 82).2 38 = some (8, 0, 0, 50, 0, 41, []) := rfl
theorem ti_82_41 : (q_I 82).2 41 = some (0, 1, 0, 5, 0, 43, []) := rfl
theorem ti_82_43 : (q_I 82).2 43 = some (2, 0, 2, 0, 0, 44, []) := rfl
theorem ti_82_44 : (q_I 82).2 44 = some (3, 1, 64, 91, 2, 47, [269, 5]) := rfl
theorem ti_82_47 : (q_I 82).2 47 = some (8, 1, 0, 52, 0, 50, []) := rfl
theorem ti_82_52 : (q_I 82).2 52 = some (0, 4, 0, 0, 2, 53, []) := rfl
theorem ti_82_53 : (q_I 82).2 53 = some (0, 0, 0, 1, 0, 54, []) := rfl
theorem ti_82_54 : (q_I 82).2 54 = some (0, 0, 0, 3, 0, 55, []) := rfl
theorem ti_82_55 : (q_I 82).2 55 = some (3, 0, 232, 103, 3, 58, [707, 5]) := rfl
theorem ti_82_58 : (q_I 82).2 58 = some (11, 1, 0, 6, 0, 60, []) := rfl
theorem ti_82_60 : (q_I 82).2 60 = some (2, 0, 0, 0, 0, 61, []) := rfl
theorem ti_82_61 : (q_I 82).2 61 = some (11, 1, 0, 7, 0, 63, []) := rfl
theorem ti_82_63 : (q_I 82).2 63 = some (2, 0, 1, 0, 0, 64, []) := rfl
theorem ti_82_64 : (q_I 82).2 64 = some (11, 1, 0, 8, 0, 66, []) := rfl
theorem ti_82_66 : (q_I 82).2 66 = some (2, 0, 0, 0, 0, 67, []) := rfl
theorem ti_82_67 : (q_I 82).2 67 = some (11, 1, 0, 9, 0, 69, []) := rfl
theorem ti_82_69 : (q_I 82).2 69 = some (0, 1, 0, 9, 0, 71, []) := rfl
theorem ti_82_71 : (q_I 82).2 71 = some (0, 0, 0, 3, 0, 72, []) := rfl
theorem ti_82_72 : (q_I 82).2 72 = some (9, 3, 0, 88, 0, 75, []) := rfl
theorem ti_82_75 : (q_I 82).2 75 = some (0, 1, 0, 8, 0, 77, []) := rfl
theorem ti_82_77 : (q_I 82).2 77 = some (2, 1, 10, 0, 0, 79, []) := rfl
theorem ti_82_79 : (q_I 82).2 79 = some (6, 2, 0, 0, 0, 80, []) := rfl
theorem ti_82_80 : (q_I 82).2 80 = some (11, 1, 0, 8, 0, 82, []) := rfl
theorem ti_82_82 : (q_I 82).2 82 = some (13, 0, 1, 9, 0, 85, []) := rfl
theorem ti_82_85 : (q_I 82).2 85 = some (7, 0, 0, 69, 0, 88, []) := rfl
theorem ti_82_88 : (q_I 82).2 88 = some (2, 0, 0, 0, 0, 89, []) := rfl
theorem ti_82_89 : (q_I 82).2 89 = some (11, 1, 0, 9, 0, 91, []) := rfl
theorem ti_82_91 : (q_I 82).2 91 = some (0, 1, 0, 9, 0, 93, []) := rfl
theorem ti_82_93 : (q_I 82).2 93 = some (2, 0, 1, 0, 0, 94, []) := rfl
theorem ti_82_94 : (q_I 82).2 94 = some (0, 0, 0, 3, 0, 95, []) := rfl
theorem ti_82_95 : (q_I 82).2 95 = some (6, 8, 0, 0, 0, 96, []) := rfl
theorem ti_82_96 : (q_I 82).2 96 = some (9, 3, 0, 135, 0, 99, []) := rfl
theorem ti_82_99 : (q_I 82).2 99 = some (0, 4, 0, 0, 2, 100, []) := rfl
theorem ti_82_100 : (q_I 82).2 100 = some (0, 0, 0, 1, 0, 101, []) := rfl
theorem ti_82_101 : (q_I 82).2 101 = some (0, 0, 0, 3, 0, 102, []) := rfl
theorem ti_82_102 : (q_I 82).2 102 = some (0, 1, 0, 9, 0, 104, []) := rfl
theorem ti_82_104 : (q_I 82).2 104 = some (0, 1, 0, 6, 0, 106, []) := rfl
theorem ti_82_106 : (q_I 82).2 106 = some (2, 0, (-1), 0, 0, 107, []) := rfl
theorem ti_82_107 : (q_I 82).2 107 = some (6, 7, 0, 0, 0, 108, []) := rfl
theorem ti_82_108 : (q_I 82).2 108 = some (6, 5, 0, 0, 0, 109, []) := rfl
theorem ti_82_109 : (q_I 82).2 109 = some (3, 0, 235, 104, 4, 112, [713, 5]) := rfl
theorem ti_82_112 : (q_I 82).2 112 = some (0, 0, 0, 2, 0, 113, []) := rfl
theorem ti_82_113 : (q_I 82).2 113 = some (9, 4, 0, 129, 0, 116, []) := rfl
theorem ti_82_116 : (q_I 82).2 116 = some (0, 1, 0, 7, 0, 118, []) := rfl
theorem ti_82_118 : (q_I 82).2 118 = some (0, 1, 0, 9, 0, 120, []) := rfl
theorem ti_82_120 : (q_I 82).2 120 = some (0, 0, 0, 3, 0, 121, []) := rfl
theorem ti_82_121 : (q_I 82).2 121 = some (0, 1, 0, 4, 0, 123, []) := rfl
theorem ti_82_123 : (q_I 82).2 123 = some (3, 1, 239, 105, 3, 126, [718, 5]) := rfl
theorem ti_82_126 : (q_I 82).2 126 = some (6, 0, 0, 0, 0, 127, []) := rfl
theorem ti_82_127 : (q_I 82).2 127 = some (11, 1, 0, 7, 0, 129, []) := rfl
theorem ti_82_129 : (q_I 82).2 129 = some (13, 0, 1, 9, 0, 132, []) := rfl
theorem ti_82_132 : (q_I 82).2 132 = some (7, 0, 0, 91, 0, 135, []) := rfl
theorem ti_82_135 : (q_I 82).2 135 = some (0, 1, 0, 7, 0, 137, []) := rfl
theorem ti_82_137 : (q_I 82).2 137 = some (0, 1, 0, 8, 0, 139, []) := rfl
theorem ti_82_139 : (q_I 82).2 139 = some (3, 1, 242, 106, 2, 142, [721, 5]) := rfl
theorem ti_82_142 : (q_I 82).2 142 = some (11, 1, 0, 9, 0, 144, []) := rfl
theorem ti_82_144 : (q_I 82).2 144 = some (0, 1, 0, 9, 0, 146, []) := rfl
theorem ti_82_146 : (q_I 82).2 146 = some (8, 1, 0, 151, 0, 149, []) := rfl
theorem ti_82_149 : (q_I 82).2 149 = some (2, 0, (-1), 0, 0, 150, []) := rfl
theorem ti_82_150 : (q_I 82).2 150 = some (4, 0, 0, 0, 0, 151, []) := rfl
theorem ti_82_151 : (q_I 82).2 151 = some (0, 1, 0, 5, 0, 153, []) := rfl
theorem ti_82_153 : (q_I 82).2 153 = some (8, 1, 0, 161, 0, 156, []) := rfl
theorem ti_82_156 : (q_I 82).2 156 = some (0, 1, 0, 7, 0, 158, []) := rfl
theorem ti_82_158 : (q_I 82).2 158 = some (7, 0, 0, 163, 0, 161, []) := rfl
theorem ti_82_161 : (q_I 82).2 161 = some (0, 1, 0, 8, 0, 163, []) := rfl
theorem ti_82_163 : (q_I 82).2 163 = some (0, 1, 0, 9, 0, 165, []) := rfl
theorem ti_82_165 : (q_I 82).2 165 = some (6, 3, 0, 0, 0, 166, []) := rfl
theorem ti_82_166 : (q_I 82).2 166 = some (4, 0, 0, 0, 0, 167, []) := rfl
theorem ti_82_50 : (q_I 82).2 50 = some (2, 0, (-1), 0, 0, 51, []) := rfl
theorem ti_82_51 : (q_I 82).2 51 = some (4, 0, 0, 0, 0, 52, []) := rfl
theorem ti_82_29 : (q_I 82).2 29 = some (2, 0, (-1), 0, 0, 30, []) := rfl
theorem ti_82_30 : (q_I 82).2 30 = some (4, 0, 0, 0, 0, 31, []) := rfl
theorem mt_82 (a1 : Int) (a2 : Int) (a3 : Int) (a4 : Int) (a5 : Int) (H : a_P) : a_mt id 0 82 [(2, 0), (0, a1), (0, a2), (0, a3), (0, a4), (0, a5)] H (fn_82 a1 a2 a3 a4 a5 H) := by
  refine a_mtI (lo := [some (2, 0), some (0, a1), some (0, a2), some (0, a3), some (0, a4), some (0, a5), none, none, none, none]) rfl fun d => ?_
  unfold fn_82
  refine a_w0 (Nat.le_succ _) ti_82_0 rfl ?_
  refine a_w1 (a := (2, 1)) (Nat.le_succ _) ti_82_1 rfl ?_
  refine a_w0 (Nat.le_succ _) ti_82_4 rfl ?_
  refine a_w3p (args := [(2, 1), (0, a1)]) (Nat.le_succ _) ti_82_5 (mt_12 1 a1 H) rfl rfl rfl rfl ?_
  refine a_wjn 29 (fun (s : Unit) => [none, none, none, none, none, none, none, none, none, none]) (fun (s : Unit) => []) (fun (s : Unit) => H) (fun s1 => ?_) (fun j29 hj29 => ?_)
  · refine a_w2 (z := (-1)) (Nat.le_succ _) ti_82_29 (by decide) ?_
    exact a_w4 (Nat.le_succ _) ti_82_30 rfl rfl rfl
  · refine a_w8_0 (Nat.le_succ _) ti_82_8 ?_ ?_
    · exact a_wk (hj29 ()) (by omega) trivial
    · refine a_w0 (Nat.le_succ _) ti_82_11 rfl ?_
      refine a_w2 (z := 100) (Nat.le_succ _) ti_82_12 (by decide) ?_
      refine a_w3p (args := [(0, a2), (0, 100)]) (Nat.le_succ _) ti_82_14 (mt_91 a2 100 H) rfl rfl rfl rfl ?_
      refine a_w8_0 (Nat.le_succ _) ti_82_17 ?_ ?_
      · exact a_wk (hj29 ()) (by omega) trivial
      · refine a_w0 (Nat.le_succ _) ti_82_20 rfl ?_
        refine a_w2 (z := 7) (Nat.le_succ _) ti_82_21 (by decide) ?_
        refine a_w3p (args := [(0, a3), (0, 7)]) (Nat.le_succ _) ti_82_23 (mt_91 a3 7 H) rfl rfl rfl rfl ?_
        refine a_w8_1 (Nat.le_succ _) ti_82_26 ?_ ?_
        · refine a_w0 (Nat.le_succ _) ti_82_31 rfl ?_
          refine a_w2 (z := 11) (Nat.le_succ _) ti_82_33 (by decide) ?_
          refine a_w3p (args := [(0, a4), (0, 11)]) (Nat.le_succ _) ti_82_35 (mt_91 a4 11 H) rfl rfl rfl rfl ?_
          refine a_wjn 50 (fun (s : Unit) => [none, none, none, none, none, none, none, none, none, none]) (fun (s : Unit) => []) (fun (s : Unit) => H) (fun s2 => ?_) (fun j50 hj50 => ?_)
          · refine a_w2 (z := (-1)) (Nat.le_succ _) ti_82_50 (by decide) ?_
            exact a_w4 (Nat.le_succ _) ti_82_51 rfl rfl rfl
          · refine a_w8_0 (Nat.le_succ _) ti_82_38 ?_ ?_
            · exact a_wk (hj50 ()) (by omega) trivial
            · refine a_w0 (Nat.le_succ _) ti_82_41 rfl ?_
              refine a_w2 (z := 2) (Nat.le_succ _) ti_82_43 (by decide) ?_
              refine a_w3p (args := [(0, a5), (0, 2)]) (Nat.le_succ _) ti_82_44 (mt_91 a5 2 H) rfl rfl rfl rfl ?_
              refine a_w8_1 (Nat.le_succ _) ti_82_47 ?_ ?_
              · refine a_w0 (Nat.le_succ _) ti_82_52 rfl ?_
                refine a_w0 (Nat.le_succ _) ti_82_53 rfl ?_
                refine a_w0 (Nat.le_succ _) ti_82_54 rfl ?_
                refine a_w3i (args := [(2, 0), (0, a1), (0, a3)]) (Nat.le_succ _) ti_82_55 (mt_103 a1 a3 H) (fun _ => rfl) rfl rfl (fun g1 => ?_)
                refine a_w11 (lo' := [some (2, 0), some (0, a1), some (0, a2), some (0, a3), some (0, a4), some (0, a5), some (0, g1.1), none, none, none]) (Nat.le_succ _) ti_82_58 rfl ?_
                refine a_w2 (z := 0) (Nat.le_succ _) ti_82_60 (by decide) ?_
                refine a_w11 (lo' := [some (2, 0), some (0, a1), some (0, a2), some (0, a3), some (0, a4), some (0, a5), some (0, g1.1), some (0, 0), none, none]) (Nat.le_succ _) ti_82_61 rfl ?_
                refine a_w2 (z := 1) (Nat.le_succ _) ti_82_63 (by decide) ?_
                refine a_w11 (lo' := [some (2, 0), some (0, a1), some (0, a2), some (0, a3), some (0, a4), some (0, a5), some (0, g1.1), some (0, 0), some (0, 1), none]) (Nat.le_succ _) ti_82_64 rfl ?_
                refine a_w2 (z := 0) (Nat.le_succ _) ti_82_66 (by decide) ?_
                refine a_w11 (lo' := [some (2, 0), some (0, a1), some (0, a2), some (0, a3), some (0, a4), some (0, a5), some (0, g1.1), some (0, 0), some (0, 1), some (0, 0)]) (Nat.le_succ _) ti_82_67 rfl ?_
                refine a_wjn 88 (fun (s : Int) => [some (2, 0), some (0, a1), some (0, a2), some (0, a3), some (0, a4), some (0, a5), some (0, g1.1), some (0, 0), some (0, s), none]) (fun (s : Int) => []) (fun (s : Int) => g1.2) (fun s3 => ?_) (fun j88 hj88 => ?_)
                · refine a_w2 (z := 0) (Nat.le_succ _) ti_82_88 (by decide) ?_
                  refine a_w11 (lo' := [some (2, 0), some (0, a1), some (0, a2), some (0, a3), some (0, a4), some (0, a5), some (0, g1.1), some (0, 0), some (0, s3), some (0, 0)]) (Nat.le_succ _) ti_82_89 rfl ?_
                  refine a_wjn 135 (fun (s : Int) => [none, none, none, none, none, some (0, a5), none, some (0, s), some (0, s3), none]) (fun (s : Int) => []) (fun (s : Int) => g1.2) (fun s4 => ?_) (fun j135 hj135 => ?_)
                  · refine a_w0 (Nat.le_succ _) ti_82_135 rfl ?_
                    refine a_w0 (Nat.le_succ _) ti_82_137 rfl ?_
                    refine a_w3p (args := [(0, s4), (0, s3)]) (Nat.le_succ _) ti_82_139 (mt_106 s4 s3 g1.2) rfl rfl rfl rfl ?_
                    refine a_w11b (lof := fun x1 => [none, none, none, none, none, some (0, a5), none, some (0, s4), some (0, s3), some (0, x1)]) (Nat.le_succ _) ti_82_142 (fun _ => rfl) (fun x1 => ?_)
                    refine a_w0 (Nat.le_succ _) ti_82_144 rfl ?_
                    refine a_w8_1 (Nat.le_succ _) ti_82_146 ?_ ?_
                    · refine a_w0 (Nat.le_succ _) ti_82_151 rfl ?_
                      refine a_wjn 163 (fun (s : Int) => [none, none, none, none, none, none, none, none, none, some (0, x1)]) (fun (s : Int) => [(0, s)]) (fun (s : Int) => g1.2) (fun s5 => ?_) (fun j163 hj163 => ?_)
                      · refine a_w0 (Nat.le_succ _) ti_82_163 rfl ?_
                        refine a_w6 (a := (0, a_div s5 x1)) (Nat.le_succ _) ti_82_165 rfl ?_
                        exact a_w4 (Nat.le_succ _) ti_82_166 rfl rfl rfl
                      · refine a_w8_1 (Nat.le_succ _) ti_82_153 ?_ ?_
                        · refine a_w0 (Nat.le_succ _) ti_82_161 rfl ?_
                          exact a_wk (hj163 s3) (by omega) ⟨rfl, trivial⟩
                        · refine a_w0 (Nat.le_succ _) ti_82_156 rfl ?_
                          refine a_w7 (Nat.le_succ _) ti_82_158 ?_
                          exact a_wk (hj163 s4) (by omega) ⟨rfl, trivial⟩
                    · refine a_w2 (z := (-1)) (Nat.le_succ _) ti_82_149 (by decide) ?_
                      exact a_w4 (Nat.le_succ _) ti_82_150 rfl rfl rfl
                  · refine a_wk (a_wlp (fun (s : Int × Int) => [some (2, 0), some (0, a1), some (0, a2), some (0, a3), some (0, a4), some (0, a5), some (0, g1.1), some (0, s.1), some (0, s3), some (0, s.2)]) (fun (s : Int × Int) => g1.2) (fun N1 hN1 n91 hn91 s6 => ?_) a_fuel (a_fuel_le (by omega)) (0, 0)) (Nat.le_refl _) ⟨rfl, rfl, rfl, rfl, rfl, rfl, rfl, rfl, rfl, rfl, trivial⟩
                    · refine a_w0 (Nat.le_refl _) ti_82_91 rfl ?_
                      refine a_w2 (z := 1) (Nat.le_succ _) ti_82_93 (by decide) ?_
                      refine a_w0 (Nat.le_succ _) ti_82_94 rfl ?_
                      refine a_w6 (a := (0, a_shl 1 a3)) (Nat.le_succ _) ti_82_95 rfl ?_
                      refine a_w9_3 (Nat.le_succ _) ti_82_96 ?_ ?_
                      · exact a_wk (hj135 s6.1) (by omega) ⟨rfl, rfl, rfl, trivial⟩
                      · refine a_w0 (Nat.le_succ _) ti_82_99 rfl ?_
                        refine a_w0 (Nat.le_succ _) ti_82_100 rfl ?_
                        refine a_w0 (Nat.le_succ _) ti_82_101 rfl ?_
                        refine a_w0 (Nat.le_succ _) ti_82_102 rfl ?_
                        refine a_w0 (Nat.le_succ _) ti_82_104 rfl ?_
                        refine a_w2 (z := (-1)) (Nat.le_succ _) ti_82_106 (by decide) ?_
                        refine a_w6 (a := (0, a_xor g1.1 (-1))) (Nat.le_succ _) ti_82_107 rfl ?_
                        refine a_w6 (a := (0, a_and s6.2 (a_xor g1.1 (-1)))) (Nat.le_succ _) ti_82_108 rfl ?_
                        refine a_w3p (args := [(2, 0), (0, a1), (0, a3), (0, a_and s6.2 (a_xor g1.1 (-1)))]) (Nat.le_succ _) ti_82_109 (mt_104 a1 a3 (a_and s6.2 (a_xor g1.1 (-1))) g1.2) rfl rfl rfl rfl ?_
                        refine a_w0 (Nat.le_succ _) ti_82_112 rfl ?_
                        refine a_wjn 129 (fun (s : Int) => [some (2, 0), some (0, a1), some (0, a2), some (0, a3), some (0, a4), some (0, a5), some (0, g1.1), some (0, s), some (0, s3), some (0, s6.2)]) (fun (s : Int) => []) (fun (s : Int) => g1.2) (fun s7 => ?_) (fun j129 hj129 => ?_)
                        · refine a_w13 (c' := 1) (lof := fun x2 => [some (2, 0), some (0, a1), some (0, a2), some (0, a3), some (0, a4), some (0, a5), some (0, g1.1), some (0, s7), some (0, s3), some (0, x2)]) (Nat.le_succ _) ti_82_129 rfl (by decide) rfl (fun _ => rfl) (fun x2 => ?_)
                          refine a_w7 (Nat.le_succ _) ti_82_132 ?_
                          exact a_wk (hn91 (s7, x2)) (by omega) ⟨rfl, rfl, rfl, rfl, rfl, rfl, rfl, rfl, rfl, rfl, trivial⟩
                        · refine a_w9_4 (Nat.le_succ _) ti_82_113 ?_ ?_
                          · exact a_wk (hj129 s6.1) (by omega) ⟨rfl, rfl, rfl, rfl, rfl, rfl, rfl, rfl, rfl, rfl, trivial⟩
                          · refine a_w0 (Nat.le_succ _) ti_82_116 rfl ?_
                            refine a_w0 (Nat.le_succ _) ti_82_118 rfl ?_
                            refine a_w0 (Nat.le_succ _) ti_82_120 rfl ?_
                            refine a_w0 (Nat.le_succ _) ti_82_121 rfl ?_
                            refine a_w3p (args := [(0, s6.2), (0, a3), (0, a4)]) (Nat.le_succ _) ti_82_123 (mt_105 s6.2 a3 a4 g1.2) rfl rfl rfl rfl ?_
                            refine a_w6 (a := (0, a_w (s6.1 + (fn_105 s6.2 a3 a4)))) (Nat.le_succ _) ti_82_126 rfl ?_
                            refine a_w11b (lof := fun x3 => [some (2, 0), some (0, a1), some (0, a2), some (0, a3), some (0, a4), some (0, a5), some (0, g1.1), some (0, x3), some (0, s3), some (0, s6.2)]) (Nat.le_succ _) ti_82_127 (fun _ => rfl) (fun x3 => ?_)
                            exact a_wk (hj129 x3) (by omega) ⟨rfl, rfl, rfl, rfl, rfl, rfl, rfl, rfl, rfl, rfl, trivial⟩
                · refine a_wk (a_wlp (fun (s : Int × Int) => [some (2, 0), some (0, a1), some (0, a2), some (0, a3), some (0, a4), some (0, a5), some (0, g1.1), some (0, 0), some (0, s.1), some (0, s.2)]) (fun (s : Int × Int) => g1.2) (fun N2 hN2 n69 hn69 s8 => ?_) a_fuel (a_fuel_le (by omega)) (1, 0)) (Nat.le_refl _) ⟨rfl, rfl, rfl, rfl, rfl, rfl, rfl, rfl, rfl, rfl, trivial⟩
                  · refine a_w0 (Nat.le_refl _) ti_82_69 rfl ?_
                    refine a_w0 (Nat.le_succ _) ti_82_71 rfl ?_
                    refine a_w9_3 (Nat.le_succ _) ti_82_72 ?_ ?_
                    · exact a_wk (hj88 s8.1) (by omega) ⟨rfl, rfl, rfl, rfl, rfl, rfl, rfl, rfl, rfl, trivial⟩
                    · refine a_w0 (Nat.le_succ _) ti_82_75 rfl ?_
                      refine a_w2 (z := 10) (Nat.le_succ _) ti_82_77 (by decide) ?_
                      refine a_w6 (a := (0, a_w (s8.1 * 10))) (Nat.le_succ _) ti_82_79 rfl ?_
                      refine a_w11b (lof := fun x4 => [some (2, 0), some (0, a1), some (0, a2), some (0, a3), some (0, a4), some (0, a5), some (0, g1.1), some (0, 0), some (0, x4), some (0, s8.2)]) (Nat.le_succ _) ti_82_80 (fun _ => rfl) (fun x4 => ?_)
                      refine a_w13 (c' := 1) (lof := fun x5 => [some (2, 0), some (0, a1), some (0, a2), some (0, a3), some (0, a4), some (0, a5), some (0, g1.1), some (0, 0), some (0, x4), some (0, x5)]) (Nat.le_succ _) ti_82_82 rfl (by decide) rfl (fun _ => rfl) (fun x5 => ?_)
                      refine a_w7 (Nat.le_succ _) ti_82_85 ?_
                      exact a_wk (hn69 (x4, x5)) (by omega) ⟨rfl, rfl, rfl, rfl, rfl, rfl, rfl, rfl, rfl, rfl, trivial⟩
              · exact a_wk (hj50 ()) (by omega) trivial
        · exact a_wk (hj29 ()) (by omega) trivial
/-- CarriedGate$Past.becomeLike(LCarriedGate$Past;)V -/
noncomputable def fn_4 (p : Int) (a1 : Int) (H : a_P) : a_P :=
  a_bd (a_up H p 1 (H a1 1)) fun H1 =>
  a_bd (a_up H1 p 2 (H1 a1 2)) fun H2 =>
  a_lp (fun (s1 : Int × a_P) => s1.2) (fun (s1 : Int × a_P) n18 => (if s1.1 < 8 then a_bd (fn_10 ((p + 1) + (1 + 6 * s1.1)) ((a1 + 1) + (1 + 6 * s1.1)) s1.2) fun H3 =>
  a_bd (a_w (s1.1 + 1)) fun x1 =>
  n18 (x1, H3)
  else s1.2)) a_fuel (0, H2)
theorem ti_4_0 : (q_I 4).2 0 = some (0, 4, 0, 0, 2, 1, []) := rfl
theorem ti_4_1 : (q_I 4).2 1 = some (0, 4, 0, 1, 2, 2, []) := rfl
theorem ti_4_2 : (q_I 4).2 2 = some (1, 0, 15, 0, 1, 5, [149]) := rfl
theorem ti_4_5 : (q_I 4).2 5 = some (10, 0, 15, 0, 1, 8, [149]) := rfl
theorem ti_4_8 : (q_I 4).2 8 = some (0, 4, 0, 0, 2, 9, []) := rfl
theorem ti_4_9 : (q_I 4).2 9 = some (0, 4, 0, 1, 2, 10, []) := rfl
theorem ti_4_10 : (q_I 4).2 10 = some (1, 0, 19, 0, 2, 13, [150]) := rfl
theorem ti_4_13 : (q_I 4).2 13 = some (10, 0, 19, 0, 2, 16, [150]) := rfl
theorem ti_4_16 : (q_I 4).2 16 = some (2, 0, 0, 0, 0, 17, []) := rfl
theorem ti_4_17 : (q_I 4).2 17 = some (11, 0, 0, 2, 0, 18, []) := rfl
theorem ti_4_18 : (q_I 4).2 18 = some (0, 0, 0, 2, 0, 19, []) := rfl
theorem ti_4_19 : (q_I 4).2 19 = some (2, 1, 8, 0, 0, 21, []) := rfl
theorem ti_4_21 : (q_I 4).2 21 = some (9, 3, 0, 45, 0, 24, []) := rfl
theorem ti_4_24 : (q_I 4).2 24 = some (0, 4, 0, 0, 2, 25, []) := rfl
theorem ti_4_25 : (q_I 4).2 25 = some (1, 0, 11, 0, 0, 28, [148]) := rfl
theorem ti_4_28 : (q_I 4).2 28 = some (0, 0, 0, 2, 0, 29, []) := rfl
theorem ti_4_29 : (q_I 4).2 29 = some (5, 13, 0, 0, 0, 30, []) := rfl
theorem ti_4_30 : (q_I 4).2 30 = some (0, 4, 0, 1, 2, 31, []) := rfl
theorem ti_4_31 : (q_I 4).2 31 = some (1, 0, 11, 0, 0, 34, [148]) := rfl
theorem ti_4_34 : (q_I 4).2 34 = some (0, 0, 0, 2, 0, 35, []) := rfl
theorem ti_4_35 : (q_I 4).2 35 = some (5, 13, 0, 0, 0, 36, []) := rfl
theorem ti_4_36 : (q_I 4).2 36 = some (3, 0, 23, 10, 2, 39, [498, 2]) := rfl
theorem ti_4_39 : (q_I 4).2 39 = some (13, 0, 1, 2, 0, 42, []) := rfl
theorem ti_4_42 : (q_I 4).2 42 = some (7, 0, 0, 18, 0, 45, []) := rfl
theorem ti_4_45 : (q_I 4).2 45 = some (4, 4, 0, 0, 0, 46, []) := rfl
theorem mt_4 (p : Int) (a1 : Int) (H : a_P) : a_mt a_pv 9 4 [(2, p), (2, a1)] H (fn_4 p a1 H) := by
  refine a_mtI (lo := [some (2, p), some (2, a1), none]) rfl fun d => ?_
  unfold fn_4
  refine a_w0 (Nat.le_succ _) ti_4_0 rfl ?_
  refine a_w0 (Nat.le_succ _) ti_4_1 rfl ?_
  refine a_w1 (a := (0, H a1 1)) (Nat.le_succ _) ti_4_2 rfl ?_
  refine a_w10 (Nat.le_succ _) ti_4_5 rfl rfl rfl (fun H1 => ?_)
  refine a_w0 (Nat.le_succ _) ti_4_8 rfl ?_
  refine a_w0 (Nat.le_succ _) ti_4_9 rfl ?_
  refine a_w1 (a := (0, H1 a1 2)) (Nat.le_succ _) ti_4_10 rfl ?_
  refine a_w10 (Nat.le_succ _) ti_4_13 rfl rfl rfl (fun H2 => ?_)
  refine a_w2 (z := 0) (Nat.le_succ _) ti_4_16 (by decide) ?_
  refine a_w11 (lo' := [some (2, p), some (2, a1), some (0, 0)]) (Nat.le_succ _) ti_4_17 rfl ?_
  refine a_wk (a_wlp (fun (s : Int × a_P) => [some (2, p), some (2, a1), some (0, s.1)]) (fun (s : Int × a_P) => s.2) (fun N1 hN1 n18 hn18 s1 => ?_) a_fuel (a_fuel_le (by omega)) (0, H2)) (Nat.le_refl _) ⟨rfl, rfl, rfl, trivial⟩
  · refine a_w0 (Nat.le_refl _) ti_4_18 rfl ?_
    refine a_w2 (z := 8) (Nat.le_succ _) ti_4_19 (by decide) ?_
    refine a_w9_3 (Nat.le_succ _) ti_4_21 ?_ ?_
    · exact a_w4v (Nat.le_succ _) ti_4_45 rfl rfl
    · refine a_w0 (Nat.le_succ _) ti_4_24 rfl ?_
      refine a_w1 (a := (2, (p + 1))) (Nat.le_succ _) ti_4_25 rfl ?_
      refine a_w0 (Nat.le_succ _) ti_4_28 rfl ?_
      refine a_w5r (Nat.le_succ _) ti_4_29 (fun _ => rfl) ?_
      refine a_w0 (Nat.le_succ _) ti_4_30 rfl ?_
      refine a_w1 (a := (2, (a1 + 1))) (Nat.le_succ _) ti_4_31 rfl ?_
      refine a_w0 (Nat.le_succ _) ti_4_34 rfl ?_
      refine a_w5r (Nat.le_succ _) ti_4_35 (fun _ => rfl) ?_
      refine a_w3v (args := [(2, ((p + 1) + (1 + 6 * s1.1))), (2, ((a1 + 1) + (1 + 6 * s1.1)))]) (Nat.le_succ _) ti_4_36 (mt_10 ((p + 1) + (1 + 6 * s1.1)) ((a1 + 1) + (1 + 6 * s1.1)) s1.2) rfl rfl (fun H3 => ?_)
      refine a_w13 (c' := 1) (lof := fun x1 => [some (2, p), some (2, a1), some (0, x1)]) (Nat.le_succ _) ti_4_39 rfl (by decide) rfl (fun _ => rfl) (fun x1 => ?_)
      refine a_w7 (Nat.le_succ _) ti_4_42 ?_
      exact a_wk (hn18 (x1, H3)) (by omega) ⟨rfl, rfl, rfl, trivial⟩
/-- CarriedGate.image()I -/
noncomputable def fn_83 (H : a_P) : a_F :=
  a_bd (fn_10 63 1 H) fun H1 =>
  a_bd (fn_4 69 13 H1) fun H2 =>
  a_bd (a_up H2 0 5 1) fun H3 =>
  (1, H3)
theorem ti_83_0 : (q_I 83).2 0 = some (0, 4, 0, 0, 2, 1, []) := rfl
theorem ti_83_1 : (q_I 83).2 1 = some (1, 0, 26, 5, 3, 4, [234]) := rfl
theorem ti_83_4 : (q_I 83).2 4 = some (0, 4, 0, 0, 2, 5, []) := rfl
theorem ti_83_5 : (q_I 83).2 5 = some (1, 0, 10, 5, 0, 8, [231]) := rfl
theorem ti_83_8 : (q_I 83).2 8 = some (3, 0, 126, 10, 2, 11, [466, 2]) := rfl
theorem ti_83_11 : (q_I 83).2 11 = some (0, 4, 0, 0, 2, 12, []) := rfl
theorem ti_83_12 : (q_I 83).2 12 = some (1, 0, 29, 5, 4, 15, [235]) := rfl
theorem ti_83_15 : (q_I 83).2 15 = some (0, 4, 0, 0, 2, 16, []) := rfl
theorem ti_83_16 : (q_I 83).2 16 = some (1, 0, 22, 5, 2, 19, [233]) := rfl
theorem ti_83_19 : (q_I 83).2 19 = some (3, 0, 245, 4, 2, 22, [728, 0]) := rfl
theorem ti_83_22 : (q_I 83).2 22 = some (0, 4, 0, 0, 2, 23, []) := rfl
theorem ti_83_23 : (q_I 83).2 23 = some (2, 0, 1, 0, 0, 24, []) := rfl
theorem ti_83_24 : (q_I 83).2 24 = some (10, 3, 32, 5, 5, 27, [236]) := rfl
theorem ti_83_27 : (q_I 83).2 27 = some (2, 0, 1, 0, 0, 28, []) := rfl
theorem ti_83_28 : (q_I 83).2 28 = some (4, 0, 0, 0, 0, 29, []) := rfl
theorem mt_83 (H : a_P) : a_mt id 0 83 [(2, 0)] H (fn_83 H) := by
  refine a_mtI (lo := [some (2, 0)]) rfl fun d => ?_
  unfold fn_83
  refine a_w0 (Nat.le_succ _) ti_83_0 rfl ?_
  refine a_w1 (a := (2, 63)) (Nat.le_succ _) ti_83_1 rfl ?_
  refine a_w0 (Nat.le_succ _) ti_83_4 rfl ?_
  refine a_w1 (a := (2, 1)) (Nat.le_succ _) ti_83_5 rfl ?_
  refine a_w3v (args := [(2, 63), (2, 1)]) (Nat.le_succ _) ti_83_8 (mt_10 63 1 H) rfl rfl (fun H1 => ?_)
  refine a_w0 (Nat.le_succ _) ti_83_11 rfl ?_
  refine a_w1 (a := (2, 69)) (Nat.le_succ _) ti_83_12 rfl ?_
  refine a_w0 (Nat.le_succ _) ti_83_15 rfl ?_
  refine a_w1 (a := (2, 13)) (Nat.le_succ _) ti_83_16 rfl ?_
  refine a_w3v (args := [(2, 69), (2, 13)]) (Nat.le_succ _) ti_83_19 (mt_4 69 13 H1) rfl rfl (fun H2 => ?_)
  refine a_w0 (Nat.le_succ _) ti_83_22 rfl ?_
  refine a_w2 (z := 1) (Nat.le_succ _) ti_83_23 (by decide) ?_
  refine a_w10 (Nat.le_succ _) ti_83_24 rfl rfl rfl (fun H3 => ?_)
  refine a_w2 (z := 1) (Nat.le_succ _) ti_83_27 (by decide) ?_
  exact a_w4 (Nat.le_succ _) ti_83_28 rfl rfl rfl
/-- CarriedGate.restore()I -/
noncomputable def fn_84 (H : a_P) : a_F :=
  (if (H 0 5) = 0 then ((-4), H)
  else a_bd (fn_10 1 63 H) fun H1 =>
  a_bd (fn_4 13 69 H1) fun H2 =>
  (1, H2))
theorem ti_84_0 : (q_I 84).2 0 = some (0, 4, 0, 0, 2, 1, []) := rfl
theorem ti_84_1 : (q_I 84).2 1 = some (1, 0, 32, 5, 5, 4, [236]) := rfl
theorem ti_84_4 : (q_I 84).2 4 = some (8, 1, 0, 10, 0, 7, []) := rfl
theorem ti_84_7 : (q_I 84).2 7 = some (2, 1, (-4), 0, 0, 9, []) := rfl
theorem ti_84_9 : (q_I 84).2 9 = some (4, 0, 0, 0, 0, 10, []) := rfl
theorem ti_84_10 : (q_I 84).2 10 = some (0, 4, 0, 0, 2, 11, []) := rfl
theorem ti_84_11 : (q_I 84).2 11 = some (1, 0, 10, 5, 0, 14, [231]) := rfl
theorem ti_84_14 : (q_I 84).2 14 = some (0, 4, 0, 0, 2, 15, []) := rfl
theorem ti_84_15 : (q_I 84).2 15 = some (1, 0, 26, 5, 3, 18, [234]) := rfl
theorem ti_84_18 : (q_I 84).2 18 = some (3, 0, 126, 10, 2, 21, [466, 2]) := rfl
theorem ti_84_21 : (q_I 84).2 21 = some (0, 4, 0, 0, 2, 22, []) := rfl
theorem ti_84_22 : (q_I 84).2 22 = some (1, 0, 22, 5, 2, 25, [233]) := rfl
theorem ti_84_25 : (q_I 84).2 25 = some (0, 4, 0, 0, 2, 26, []) := rfl
theorem ti_84_26 : (q_I 84).2 26 = some (1, 0, 29, 5, 4, 29, [235]) := rfl
theorem ti_84_29 : (q_I 84).2 29 = some (3, 0, 245, 4, 2, 32, [728, 0]) := rfl
theorem ti_84_32 : (q_I 84).2 32 = some (2, 0, 1, 0, 0, 33, []) := rfl
theorem ti_84_33 : (q_I 84).2 33 = some (4, 0, 0, 0, 0, 34, []) := rfl
theorem mt_84 (H : a_P) : a_mt id 0 84 [(2, 0)] H (fn_84 H) := by
  refine a_mtI (lo := [some (2, 0)]) rfl fun d => ?_
  unfold fn_84
  refine a_w0 (Nat.le_succ _) ti_84_0 rfl ?_
  refine a_w1 (a := (0, H 0 5)) (Nat.le_succ _) ti_84_1 rfl ?_
  refine a_w8_1 (Nat.le_succ _) ti_84_4 ?_ ?_
  · refine a_w0 (Nat.le_succ _) ti_84_10 rfl ?_
    refine a_w1 (a := (2, 1)) (Nat.le_succ _) ti_84_11 rfl ?_
    refine a_w0 (Nat.le_succ _) ti_84_14 rfl ?_
    refine a_w1 (a := (2, 63)) (Nat.le_succ _) ti_84_15 rfl ?_
    refine a_w3v (args := [(2, 1), (2, 63)]) (Nat.le_succ _) ti_84_18 (mt_10 1 63 H) rfl rfl (fun H1 => ?_)
    refine a_w0 (Nat.le_succ _) ti_84_21 rfl ?_
    refine a_w1 (a := (2, 13)) (Nat.le_succ _) ti_84_22 rfl ?_
    refine a_w0 (Nat.le_succ _) ti_84_25 rfl ?_
    refine a_w1 (a := (2, 69)) (Nat.le_succ _) ti_84_26 rfl ?_
    refine a_w3v (args := [(2, 13), (2, 69)]) (Nat.le_succ _) ti_84_29 (mt_4 13 69 H1) rfl rfl (fun H2 => ?_)
    refine a_w2 (z := 1) (Nat.le_succ _) ti_84_32 (by decide) ?_
    exact a_w4 (Nat.le_succ _) ti_84_33 rfl rfl rfl
  · refine a_w2 (z := (-4)) (Nat.le_succ _) ti_84_7 (by decide) ?_
    exact a_w4 (Nat.le_succ _) ti_84_9 rfl rfl rfl
/-- CarriedGate$Sheet.hasItems(II)Z -/
noncomputable def fn_38 (p : Int) (a1 : Int) (a2 : Int) (H : a_P) : Int :=
  a_jn (fun (s1 : Int) => s1) fun j31 =>
  a_jn (fun (s2 : Unit) => j31 0) fun j30 =>
  (if a1 < 0 then j30 ()
  else (if a2 < 0 then j30 ()
  else (if (H p 2) < a2 then j30 ()
  else (if (a_w ((H p 2) - a2)) < a1 then j30 ()
  else j31 1))))
theorem ti_38_0 : (q_I 38).2 0 = some (0, 0, 0, 1, 0, 1, []) := rfl
theorem ti_38_1 : (q_I 38).2 1 = some (8, 2, 0, 30, 0, 4, []) := rfl
theorem ti_38_4 : (q_I 38).2 4 = some (0, 0, 0, 2, 0, 5, []) := rfl
theorem ti_38_5 : (q_I 38).2 5 = some (8, 2, 0, 30, 0, 8, []) := rfl
theorem ti_38_8 : (q_I 38).2 8 = some (0, 0, 0, 2, 0, 9, []) := rfl
theorem ti_38_9 : (q_I 38).2 9 = some (0, 4, 0, 0, 2, 10, []) := rfl
theorem ti_38_10 : (q_I 38).2 10 = some (1, 0, 19, 3, 2, 13, [217]) := rfl
theorem ti_38_13 : (q_I 38).2 13 = some (9, 4, 0, 30, 0, 16, []) := rfl
theorem ti_38_16 : (q_I 38).2 16 = some (0, 0, 0, 1, 0, 17, []) := rfl
theorem ti_38_17 : (q_I 38).2 17 = some (0, 4, 0, 0, 2, 18, []) := rfl
theorem ti_38_18 : (q_I 38).2 18 = some (1, 0, 19, 3, 2, 21, [217]) := rfl
theorem ti_38_21 : (q_I 38).2 21 = some (0, 0, 0, 2, 0, 22, []) := rfl
theorem ti_38_22 : (q_I 38).2 22 = some (6, 1, 0, 0, 0, 23, []) := rfl
theorem ti_38_23 : (q_I 38).2 23 = some (9, 4, 0, 30, 0, 26, []) := rfl
theorem ti_38_26 : (q_I 38).2 26 = some (2, 0, 1, 0, 0, 27, []) := rfl
theorem ti_38_27 : (q_I 38).2 27 = some (7, 0, 0, 31, 0, 30, []) := rfl
theorem ti_38_30 : (q_I 38).2 30 = some (2, 0, 0, 0, 0, 31, []) := rfl
theorem ti_38_31 : (q_I 38).2 31 = some (4, 3, 0, 0, 0, 32, []) := rfl
theorem mt_38 (p : Int) (a1 : Int) (a2 : Int) (H : a_P) : a_mt (a_pp H) 0 38 [(2, p), (0, a1), (0, a2)] H (fn_38 p a1 a2 H) := by
  refine a_mtI (lo := [some (2, p), some (0, a1), some (0, a2)]) rfl fun d => ?_
  unfold fn_38
  refine a_w0 (Nat.le_succ _) ti_38_0 rfl ?_
  refine a_wjn 31 (fun (s : Int) => [none, none, none]) (fun (s : Int) => [(0, s)]) (fun (s : Int) => H) (fun s1 => ?_) (fun j31 hj31 => ?_)
  · exact a_w4 (Nat.le_succ _) ti_38_31 rfl rfl rfl
  · refine a_wjn 30 (fun (s : Unit) => [none, none, none]) (fun (s : Unit) => []) (fun (s : Unit) => H) (fun s2 => ?_) (fun j30 hj30 => ?_)
    · refine a_w2 (z := 0) (Nat.le_succ _) ti_38_30 (by decide) ?_
      exact a_wk (hj31 0) (by omega) trivial
    · refine a_w8_2 (Nat.le_succ _) ti_38_1 ?_ ?_
      · exact a_wk (hj30 ()) (by omega) trivial
      · refine a_w0 (Nat.le_succ _) ti_38_4 rfl ?_
        refine a_w8_2 (Nat.le_succ _) ti_38_5 ?_ ?_
        · exact a_wk (hj30 ()) (by omega) trivial
        · refine a_w0 (Nat.le_succ _) ti_38_8 rfl ?_
          refine a_w0 (Nat.le_succ _) ti_38_9 rfl ?_
          refine a_w1 (a := (0, H p 2)) (Nat.le_succ _) ti_38_10 rfl ?_
          refine a_w9_4 (Nat.le_succ _) ti_38_13 ?_ ?_
          · exact a_wk (hj30 ()) (by omega) trivial
          · refine a_w0 (Nat.le_succ _) ti_38_16 rfl ?_
            refine a_w0 (Nat.le_succ _) ti_38_17 rfl ?_
            refine a_w1 (a := (0, H p 2)) (Nat.le_succ _) ti_38_18 rfl ?_
            refine a_w0 (Nat.le_succ _) ti_38_21 rfl ?_
            refine a_w6 (a := (0, a_w ((H p 2) - a2))) (Nat.le_succ _) ti_38_22 rfl ?_
            refine a_w9_4 (Nat.le_succ _) ti_38_23 ?_ ?_
            · exact a_wk (hj30 ()) (by omega) trivial
            · refine a_w2 (z := 1) (Nat.le_succ _) ti_38_26 (by decide) ?_
              refine a_w7 (Nat.le_succ _) ti_38_27 ?_
              exact a_wk (hj31 1) (by omega) trivial
/-- CarriedGate$Sheet.refusalOf(III)I -/
noncomputable def fn_37 (p : Int) (a1 : Int) (a2 : Int) (a3 : Int) (H : a_P) : Int :=
  (if (H p 0) = 0 then (-11)
  else (if (H p 1) = a1 then a_jn (fun (s1 : Int) => s1) fun j36 =>
  (if (fn_38 p a2 a3 H) = 0 then j36 (-13)
  else j36 0)
  else (-12)))
theorem ti_37_0 : (q_I 37).2 0 = some (0, 4, 0, 0, 2, 1, []) := rfl
theorem ti_37_1 : (q_I 37).2 1 = some (1, 0, 9, 3, 0, 4, [213]) := rfl
theorem ti_37_4 : (q_I 37).2 4 = some (8, 1, 0, 10, 0, 7, []) := rfl
theorem ti_37_7 : (q_I 37).2 7 = some (2, 1, (-11), 0, 0, 9, []) := rfl
theorem ti_37_9 : (q_I 37).2 9 = some (4, 0, 0, 0, 0, 10, []) := rfl
theorem ti_37_10 : (q_I 37).2 10 = some (0, 4, 0, 0, 2, 11, []) := rfl
theorem ti_37_11 : (q_I 37).2 11 = some (1, 0, 15, 3, 1, 14, [215]) := rfl
theorem ti_37_14 : (q_I 37).2 14 = some (0, 0, 0, 1, 0, 15, []) := rfl
theorem ti_37_15 : (q_I 37).2 15 = some (9, 0, 0, 21, 0, 18, []) := rfl
theorem ti_37_18 : (q_I 37).2 18 = some (2, 1, (-12), 0, 0, 20, []) := rfl
theorem ti_37_20 : (q_I 37).2 20 = some (4, 0, 0, 0, 0, 21, []) := rfl
theorem ti_37_21 : (q_I 37).2 21 = some (0, 4, 0, 0, 2, 22, []) := rfl
theorem ti_37_22 : (q_I 37).2 22 = some (0, 0, 0, 2, 0, 23, []) := rfl
theorem ti_37_23 : (q_I 37).2 23 = some (0, 0, 0, 3, 0, 24, []) := rfl
theorem ti_37_24 : (q_I 37).2 24 = some (3, 0, 26, 38, 3, 27, [744, 3]) := rfl
theorem ti_37_27 : (q_I 37).2 27 = some (8, 0, 0, 34, 0, 30, []) := rfl
theorem ti_37_30 : (q_I 37).2 30 = some (2, 0, 0, 0, 0, 31, []) := rfl
theorem ti_37_31 : (q_I 37).2 31 = some (7, 0, 0, 36, 0, 34, []) := rfl
theorem ti_37_34 : (q_I 37).2 34 = some (2, 1, (-13), 0, 0, 36, []) := rfl
theorem ti_37_36 : (q_I 37).2 36 = some (4, 0, 0, 0, 0, 37, []) := rfl
theorem mt_37 (p : Int) (a1 : Int) (a2 : Int) (a3 : Int) (H : a_P) : a_mt (a_pp H) 0 37 [(2, p), (0, a1), (0, a2), (0, a3)] H (fn_37 p a1 a2 a3 H) := by
  refine a_mtI (lo := [some (2, p), some (0, a1), some (0, a2), some (0, a3)]) rfl fun d => ?_
  unfold fn_37
  refine a_w0 (Nat.le_succ _) ti_37_0 rfl ?_
  refine a_w1 (a := (0, H p 0)) (Nat.le_succ _) ti_37_1 rfl ?_
  refine a_w8_1 (Nat.le_succ _) ti_37_4 ?_ ?_
  · refine a_w0 (Nat.le_succ _) ti_37_10 rfl ?_
    refine a_w1 (a := (0, H p 1)) (Nat.le_succ _) ti_37_11 rfl ?_
    refine a_w0 (Nat.le_succ _) ti_37_14 rfl ?_
    refine a_w9_0 (Nat.le_succ _) ti_37_15 ?_ ?_
    · refine a_w0 (Nat.le_succ _) ti_37_21 rfl ?_
      refine a_w0 (Nat.le_succ _) ti_37_22 rfl ?_
      refine a_w0 (Nat.le_succ _) ti_37_23 rfl ?_
      refine a_w3p (args := [(2, p), (0, a2), (0, a3)]) (Nat.le_succ _) ti_37_24 (mt_38 p a2 a3 H) rfl rfl rfl rfl ?_
      refine a_wjn 36 (fun (s : Int) => [none, none, none, none]) (fun (s : Int) => [(0, s)]) (fun (s : Int) => H) (fun s1 => ?_) (fun j36 hj36 => ?_)
      · exact a_w4 (Nat.le_succ _) ti_37_36 rfl rfl rfl
      · refine a_w8_0 (Nat.le_succ _) ti_37_27 ?_ ?_
        · refine a_w2 (z := (-13)) (Nat.le_succ _) ti_37_34 (by decide) ?_
          exact a_wk (hj36 (-13)) (by omega) trivial
        · refine a_w2 (z := 0) (Nat.le_succ _) ti_37_30 (by decide) ?_
          refine a_w7 (Nat.le_succ _) ti_37_31 ?_
          exact a_wk (hj36 0) (by omega) trivial
    · refine a_w2 (z := (-12)) (Nat.le_succ _) ti_37_18 (by decide) ?_
      exact a_w4 (Nat.le_succ _) ti_37_20 rfl rfl rfl
  · refine a_w2 (z := (-11)) (Nat.le_succ _) ti_37_7 (by decide) ?_
    exact a_w4 (Nat.le_succ _) ti_37_9 rfl rfl rfl
/-- CarriedGate$Sheet.cutToLane(J)J -/
noncomputable def fn_41 (p : Int) (a1 : Int) (H : a_P) : Int :=
  a_sw (H p 1) 0 (a1) [(a_i2b (a_w a1)),
  (a_i2s (a_w a1)),
  (a_w a1)]
theorem ti_41_0 : (q_I 41).2 0 = some (0, 4, 0, 0, 2, 1, []) := rfl
theorem ti_41_1 : (q_I 41).2 1 = some (1, 0, 15, 3, 1, 4, [215]) := rfl
theorem ti_41_4 : (q_I 41).2 4 = some (18, 3, 0, 46, 0, 32, [32, 37, 42]) := rfl
theorem ti_41_46 : (q_I 41).2 46 = some (0, 2, 0, 1, 1, 47, []) := rfl
theorem ti_41_47 : (q_I 41).2 47 = some (4, 1, 0, 0, 0, 48, []) := rfl
theorem ti_41_42 : (q_I 41).2 42 = some (0, 2, 0, 1, 1, 43, []) := rfl
theorem ti_41_43 : (q_I 41).2 43 = some (14, 5, 0, 0, 0, 44, []) := rfl
theorem ti_41_44 : (q_I 41).2 44 = some (14, 4, 0, 0, 0, 45, []) := rfl
theorem ti_41_45 : (q_I 41).2 45 = some (4, 1, 0, 0, 0, 46, []) := rfl
theorem ti_41_37 : (q_I 41).2 37 = some (0, 2, 0, 1, 1, 38, []) := rfl
theorem ti_41_38 : (q_I 41).2 38 = some (14, 5, 0, 0, 0, 39, []) := rfl
theorem ti_41_39 : (q_I 41).2 39 = some (14, 2, 0, 0, 0, 40, []) := rfl
theorem ti_41_40 : (q_I 41).2 40 = some (14, 4, 0, 0, 0, 41, []) := rfl
theorem ti_41_41 : (q_I 41).2 41 = some (4, 1, 0, 0, 0, 42, []) := rfl
theorem ti_41_32 : (q_I 41).2 32 = some (0, 2, 0, 1, 1, 33, []) := rfl
theorem ti_41_33 : (q_I 41).2 33 = some (14, 5, 0, 0, 0, 34, []) := rfl
theorem ti_41_34 : (q_I 41).2 34 = some (14, 1, 0, 0, 0, 35, []) := rfl
theorem ti_41_35 : (q_I 41).2 35 = some (14, 4, 0, 0, 0, 36, []) := rfl
theorem ti_41_36 : (q_I 41).2 36 = some (4, 1, 0, 0, 0, 37, []) := rfl
theorem mt_41 (p : Int) (a1 : Int) (H : a_P) : a_mt (a_pp H) 1 41 [(2, p), (1, a1)] H (fn_41 p a1 H) := by
  refine a_mtI (lo := [some (2, p), some (1, a1), none]) rfl fun d => ?_
  unfold fn_41
  refine a_w0 (Nat.le_succ _) ti_41_0 rfl ?_
  refine a_w1 (a := (0, H p 1)) (Nat.le_succ _) ti_41_1 rfl ?_
  refine a_w18 (Nat.le_succ _) ti_41_4 rfl ⟨?_, ?_, ?_, trivial⟩ ?_
  · refine a_w0 (Nat.le_succ _) ti_41_32 rfl ?_
    refine a_w14 (a := (0, a_w a1)) (Nat.le_succ _) ti_41_33 rfl ?_
    refine a_w14 (a := (0, a_i2b (a_w a1))) (Nat.le_succ _) ti_41_34 rfl ?_
    refine a_w14 (a := (1, (a_i2b (a_w a1)))) (Nat.le_succ _) ti_41_35 rfl ?_
    exact a_w4 (Nat.le_succ _) ti_41_36 rfl rfl rfl
  · refine a_w0 (Nat.le_succ _) ti_41_37 rfl ?_
    refine a_w14 (a := (0, a_w a1)) (Nat.le_succ _) ti_41_38 rfl ?_
    refine a_w14 (a := (0, a_i2s (a_w a1))) (Nat.le_succ _) ti_41_39 rfl ?_
    refine a_w14 (a := (1, (a_i2s (a_w a1)))) (Nat.le_succ _) ti_41_40 rfl ?_
    exact a_w4 (Nat.le_succ _) ti_41_41 rfl rfl rfl
  · refine a_w0 (Nat.le_succ _) ti_41_42 rfl ?_
    refine a_w14 (a := (0, a_w a1)) (Nat.le_succ _) ti_41_43 rfl ?_
    refine a_w14 (a := (1, (a_w a1))) (Nat.le_succ _) ti_41_44 rfl ?_
    exact a_w4 (Nat.le_succ _) ti_41_45 rfl rfl rfl
  · refine a_w0 (Nat.le_succ _) ti_41_46 rfl ?_
    exact a_w4 (Nat.le_succ _) ti_41_47 rfl rfl rfl
/-- CarriedGate$Sheet.tells(II)Z -/
noncomputable def fn_40 (p : Int) (a1 : Int) (a2 : Int) (H : a_P) : Int :=
  a_jn (fun (s1 : Int) => s1) fun j30 =>
  a_jn (fun (s2 : Unit) => j30 0) fun j29 =>
  (if (fn_38 p a1 1 H) = 0 then j29 ()
  else (if (s_lc (H (p + 1) a1) (fn_41 p a2 H)) = 0 then j30 1
  else j29 ()))
theorem ti_40_0 : (q_I 40).2 0 = some (0, 4, 0, 0, 2, 1, []) := rfl
theorem ti_40_1 : (q_I 40).2 1 = some (0, 0, 0, 1, 0, 2, []) := rfl
theorem ti_40_2 : (q_I 40).2 2 = some (2, 0, 1, 0, 0, 3, []) := rfl
theorem ti_40_3 : (q_I 40).2 3 = some (3, 0, 26, 38, 3, 6, [744, 3]) := rfl
theorem ti_40_6 : (q_I 40).2 6 = some (8, 0, 0, 29, 0, 9, []) := rfl
theorem ti_40_9 : (q_I 40).2 9 = some (0, 4, 0, 0, 2, 10, []) := rfl
theorem ti_40_10 : (q_I 40).2 10 = some (1, 0, 22, 3, 3, 13, [219]) := rfl
theorem ti_40_13 : (q_I 40).2 13 = some (0, 0, 0, 1, 0, 14, []) := rfl
theorem ti_40_14 : (q_I 40).2 14 = some (5, 11, 0, 0, 0, 15, []) := rfl
theorem ti_40_15 : (q_I 40).2 15 = some (0, 4, 0, 0, 2, 16, []) := rfl
theorem ti_40_16 : (q_I 40).2 16 = some (0, 0, 0, 2, 0, 17, []) := rfl
theorem ti_40_17 : (q_I 40).2 17 = some (14, 4, 0, 0, 0, 18, []) := rfl
theorem ti_40_18 : (q_I 40).2 18 = some (3, 0, 30, 41, 2, 21, [756, 3]) := rfl
theorem ti_40_21 : (q_I 40).2 21 = some (6, 19, 0, 0, 0, 22, []) := rfl
theorem ti_40_22 : (q_I 40).2 22 = some (8, 1, 0, 29, 0, 25, []) := rfl
theorem ti_40_25 : (q_I 40).2 25 = some (2, 0, 1, 0, 0, 26, []) := rfl
theorem ti_40_26 : (q_I 40).2 26 = some (7, 0, 0, 30, 0, 29, []) := rfl
theorem ti_40_29 : (q_I 40).2 29 = some (2, 0, 0, 0, 0, 30, []) := rfl
theorem ti_40_30 : (q_I 40).2 30 = some (4, 3, 0, 0, 0, 31, []) := rfl
theorem mt_40 (p : Int) (a1 : Int) (a2 : Int) (H : a_P) : a_mt (a_pp H) 0 40 [(2, p), (0, a1), (0, a2)] H (fn_40 p a1 a2 H) := by
  refine a_mtI (lo := [some (2, p), some (0, a1), some (0, a2)]) rfl fun d => ?_
  unfold fn_40
  refine a_w0 (Nat.le_succ _) ti_40_0 rfl ?_
  refine a_w0 (Nat.le_succ _) ti_40_1 rfl ?_
  refine a_w2 (z := 1) (Nat.le_succ _) ti_40_2 (by decide) ?_
  refine a_w3p (args := [(2, p), (0, a1), (0, 1)]) (Nat.le_succ _) ti_40_3 (mt_38 p a1 1 H) rfl rfl rfl rfl ?_
  refine a_wjn 30 (fun (s : Int) => [none, none, none]) (fun (s : Int) => [(0, s)]) (fun (s : Int) => H) (fun s1 => ?_) (fun j30 hj30 => ?_)
  · exact a_w4 (Nat.le_succ _) ti_40_30 rfl rfl rfl
  · refine a_wjn 29 (fun (s : Unit) => [none, none, none]) (fun (s : Unit) => []) (fun (s : Unit) => H) (fun s2 => ?_) (fun j29 hj29 => ?_)
    · refine a_w2 (z := 0) (Nat.le_succ _) ti_40_29 (by decide) ?_
      exact a_wk (hj30 0) (by omega) trivial
    · refine a_w8_0 (Nat.le_succ _) ti_40_6 ?_ ?_
      · exact a_wk (hj29 ()) (by omega) trivial
      · refine a_w0 (Nat.le_succ _) ti_40_9 rfl ?_
        refine a_w1 (a := (2, (p + 1))) (Nat.le_succ _) ti_40_10 rfl ?_
        refine a_w0 (Nat.le_succ _) ti_40_13 rfl ?_
        refine a_w5 (kk := 1) (Nat.le_succ _) ti_40_14 (fun _ => rfl) ?_
        refine a_w0 (Nat.le_succ _) ti_40_15 rfl ?_
        refine a_w0 (Nat.le_succ _) ti_40_16 rfl ?_
        refine a_w14 (a := (1, a2)) (Nat.le_succ _) ti_40_17 rfl ?_
        refine a_w3p (args := [(2, p), (1, a2)]) (Nat.le_succ _) ti_40_18 (mt_41 p a2 H) rfl rfl rfl rfl ?_
        refine a_w6 (a := (0, s_lc (H (p + 1) a1) (fn_41 p a2 H))) (Nat.le_succ _) ti_40_21 rfl ?_
        refine a_w8_1 (Nat.le_succ _) ti_40_22 ?_ ?_
        · exact a_wk (hj29 ()) (by omega) trivial
        · refine a_w2 (z := 1) (Nat.le_succ _) ti_40_25 (by decide) ?_
          refine a_w7 (Nat.le_succ _) ti_40_26 ?_
          exact a_wk (hj30 1) (by omega) trivial
/-- CarriedGate.laterIsAsTold(LCarriedGate$Sheet;II)Z -/
noncomputable def fn_107 (a1 : Int) (a2 : Int) (a3 : Int) (H : a_P) : a_F :=
  a_lp (fun (s1 : Int × a_P) => (0, s1.2)) (fun (s1 : Int × a_P) n3 => (if s1.1 < a3 then a_bd (fn_27 7 s1.2) fun H1 =>
  (if (fn_40 a1 (a_w (a2 + s1.1)) (fn_23 7 H1) H1) = 0 then (0, H1)
  else a_bd (a_w (s1.1 + 1)) fun x1 =>
  n3 (x1, H1))
  else (1, s1.2))) a_fuel (0, H)
theorem ti_107_0 : (q_I 107).2 0 = some (2, 0, 0, 0, 0, 1, []) := rfl
theorem ti_107_1 : (q_I 107).2 1 = some (11, 1, 0, 4, 0, 3, []) := rfl
theorem ti_107_3 : (q_I 107).2 3 = some (0, 1, 0, 4, 0, 5, []) := rfl
theorem ti_107_5 : (q_I 107).2 5 = some (0, 0, 0, 3, 0, 6, []) := rfl
theorem ti_107_6 : (q_I 107).2 6 = some (9, 3, 0, 42, 0, 9, []) := rfl
theorem ti_107_9 : (q_I 107).2 9 = some (0, 4, 0, 0, 2, 10, []) := rfl
theorem ti_107_10 : (q_I 107).2 10 = some (1, 0, 16, 5, 1, 13, [232]) := rfl
theorem ti_107_13 : (q_I 107).2 13 = some (3, 0, 158, 27, 1, 16, [499, 2]) := rfl
theorem ti_107_16 : (q_I 107).2 16 = some (0, 4, 0, 1, 2, 17, []) := rfl
theorem ti_107_17 : (q_I 107).2 17 = some (0, 0, 0, 2, 0, 18, []) := rfl
theorem ti_107_18 : (q_I 107).2 18 = some (0, 1, 0, 4, 0, 20, []) := rfl
theorem ti_107_20 : (q_I 107).2 20 = some (6, 0, 0, 0, 0, 21, []) := rfl
theorem ti_107_21 : (q_I 107).2 21 = some (0, 4, 0, 0, 2, 22, []) := rfl
theorem ti_107_22 : (q_I 107).2 22 = some (1, 0, 16, 5, 1, 25, [232]) := rfl
theorem ti_107_25 : (q_I 107).2 25 = some (3, 0, 145, 23, 1, 28, [478, 2]) := rfl
theorem ti_107_28 : (q_I 107).2 28 = some (3, 0, 318, 40, 3, 31, [752, 3]) := rfl
theorem ti_107_31 : (q_I 107).2 31 = some (8, 1, 0, 36, 0, 34, []) := rfl
theorem ti_107_34 : (q_I 107).2 34 = some (2, 0, 0, 0, 0, 35, []) := rfl
theorem ti_107_35 : (q_I 107).2 35 = some (4, 3, 0, 0, 0, 36, []) := rfl
theorem ti_107_36 : (q_I 107).2 36 = some (13, 0, 1, 4, 0, 39, []) := rfl
theorem ti_107_39 : (q_I 107).2 39 = some (7, 0, 0, 3, 0, 42, []) := rfl
theorem ti_107_42 : (q_I 107).2 42 = some (2, 0, 1, 0, 0, 43, []) := rfl
theorem ti_107_43 : (q_I 107).2 43 = some (4, 3, 0, 0, 0, 44, []) := rfl
theorem mt_107 (a1 : Int) (a2 : Int) (a3 : Int) (H : a_P) : a_mt id 0 107 [(2, 0), (2, a1), (0, a2), (0, a3)] H (fn_107 a1 a2 a3 H) := by
  refine a_mtI (lo := [some (2, 0), some (2, a1), some (0, a2), some (0, a3), none]) rfl fun d => ?_
  unfold fn_107
  refine a_w2 (z := 0) (Nat.le_succ _) ti_107_0 (by decide) ?_
  refine a_w11 (lo' := [some (2, 0), some (2, a1), some (0, a2), some (0, a3), some (0, 0)]) (Nat.le_succ _) ti_107_1 rfl ?_
  refine a_wk (a_wlp (fun (s : Int × a_P) => [some (2, 0), some (2, a1), some (0, a2), some (0, a3), some (0, s.1)]) (fun (s : Int × a_P) => s.2) (fun N1 hN1 n3 hn3 s1 => ?_) a_fuel (a_fuel_le (by omega)) (0, H)) (Nat.le_refl _) ⟨rfl, rfl, rfl, rfl, rfl, trivial⟩
  · refine a_w0 (Nat.le_refl _) ti_107_3 rfl ?_
    refine a_w0 (Nat.le_succ _) ti_107_5 rfl ?_
    refine a_w9_3 (Nat.le_succ _) ti_107_6 ?_ ?_
    · refine a_w2 (z := 1) (Nat.le_succ _) ti_107_42 (by decide) ?_
      exact a_w4 (Nat.le_succ _) ti_107_43 rfl rfl rfl
    · refine a_w0 (Nat.le_succ _) ti_107_9 rfl ?_
      refine a_w1 (a := (2, 7)) (Nat.le_succ _) ti_107_10 rfl ?_
      refine a_w3v (args := [(2, 7)]) (Nat.le_succ _) ti_107_13 (mt_27 7 s1.2) rfl rfl (fun H1 => ?_)
      refine a_w0 (Nat.le_succ _) ti_107_16 rfl ?_
      refine a_w0 (Nat.le_succ _) ti_107_17 rfl ?_
      refine a_w0 (Nat.le_succ _) ti_107_18 rfl ?_
      refine a_w6 (a := (0, a_w (a2 + s1.1))) (Nat.le_succ _) ti_107_20 rfl ?_
      refine a_w0 (Nat.le_succ _) ti_107_21 rfl ?_
      refine a_w1 (a := (2, 7)) (Nat.le_succ _) ti_107_22 rfl ?_
      refine a_w3p (args := [(2, 7)]) (Nat.le_succ _) ti_107_25 (mt_23 7 H1) rfl rfl rfl rfl ?_
      refine a_w3p (args := [(2, a1), (0, a_w (a2 + s1.1)), (0, fn_23 7 H1)]) (Nat.le_succ _) ti_107_28 (mt_40 a1 (a_w (a2 + s1.1)) (fn_23 7 H1) H1) rfl rfl rfl rfl ?_
      refine a_w8_1 (Nat.le_succ _) ti_107_31 ?_ ?_
      · refine a_w13 (c' := 1) (lof := fun x1 => [some (2, 0), some (2, a1), some (0, a2), some (0, a3), some (0, x1)]) (Nat.le_succ _) ti_107_36 rfl (by decide) rfl (fun _ => rfl) (fun x1 => ?_)
        refine a_w7 (Nat.le_succ _) ti_107_39 ?_
        exact a_wk (hn3 (x1, H1)) (by omega) ⟨rfl, rfl, rfl, rfl, rfl, trivial⟩
      · refine a_w2 (z := 0) (Nat.le_succ _) ti_107_34 (by decide) ?_
        exact a_w4 (Nat.le_succ _) ti_107_35 rfl rfl rfl
/-- CarriedGate.seen(IIIIII)I -/
noncomputable def fn_85 (a1 : Int) (a2 : Int) (a3 : Int) (a4 : Int) (a5 : Int) (a6 : Int) (H : a_P) : a_F :=
  a_jn (fun (s1 : Unit) => ((-1), H)) fun j27 =>
  (if (fn_12 1 a1 H) = 0 then j27 ()
  else (if (fn_91 a2 4) = 0 then j27 ()
  else (if (fn_91 a3 4) = 0 then j27 ()
  else a_jn (fun (s2 : Unit) => ((-1), H)) fun j51 =>
  (if a5 < 1 then j51 ()
  else (if 8 < a5 then j51 ()
  else (if (fn_91 a6 3) = 0 then j51 ()
  else a_bd (fn_37 (121 + (4 + 2 * a2)) a3 a4 a5 H) fun x1 =>
  (if x1 = 0 then a_jn (fun (s3 : Int) => a_lp (fun (s4 : Int × Int × a_P) => (0, s4.2.2)) (fun (s4 : Int × Int × a_P) n105 => (if s4.2.1 < s3 then a_bd (fn_10 7 1 s4.2.2) fun H1 =>
  a_jn (fun (s5 : a_P) => a_bd (fn_107 (121 + (4 + 2 * a2)) a4 a5 s5) fun g1 =>
  a_jn (fun (s6 : Int) => a_bd (a_w (s4.2.1 + 1)) fun x2 =>
  n105 (s6, x2, g1.2)) fun j197 =>
  (if g1.1 = 0 then j197 s4.1
  else a_bd (a_or s4.1 (a_shl 1 s4.2.1)) fun x3 =>
  j197 x3)) fun j171 =>
  (if a6 = 0 then a_bd (a_up H1 8 a1 s4.2.1) fun H4 =>
  j171 H4
  else (if a6 = 1 then a_bd (a_up H1 10 a1 s4.2.1) fun H3 =>
  j171 H3
  else a_bd (a_up H1 7 1 s4.2.1) fun H2 =>
  j171 H2))
  else (s4.1, s4.2.2))) a_fuel (0, 0, H)) fun j97 =>
  (if a6 = 0 then j97 5
  else (if a6 = 1 then j97 5
  else j97 4))
  else (x1, H))))))))
theorem ti_85_0 : (q_I 85).2 0 = some (0, 4, 0, 0, 2, 1, []) := rfl
theorem ti_85_1 : (q_I 85).2 1 = some (1, 0, 10, 5, 0, 4, [231]) := rfl
theorem ti_85_4 : (q_I 85).2 4 = some (0, 0, 0, 1, 0, 5, []) := rfl
theorem ti_85_5 : (q_I 85).2 5 = some (3, 0, 79, 12, 2, 8, [284, 2]) := rfl
theorem ti_85_8 : (q_I 85).2 8 = some (8, 0, 0, 27, 0, 11, []) := rfl
theorem ti_85_11 : (q_I 85).2 11 = some (0, 0, 0, 2, 0, 12, []) := rfl
theorem ti_85_12 : (q_I 85).2 12 = some (2, 0, 4, 0, 0, 13, []) := rfl
theorem ti_85_13 : (q_I 85).2 13 = some (3, 1, 64, 91, 2, 16, [269, 5]) := rfl
theorem ti_85_16 : (q_I 85).2 16 = some (8, 0, 0, 27, 0, 19, []) := rfl
theorem ti_85_19 : (q_I 85).2 19 = some (0, 0, 0, 3, 0, 20, []) := rfl
theorem ti_85_20 : (q_I 85).2 20 = some (2, 0, 4, 0, 0, 21, []) := rfl
theorem ti_85_21 : (q_I 85).2 21 = some (3, 1, 64, 91, 2, 24, [269, 5]) := rfl
theorem ti_85_24 : (q_I 85).2 24 = some (8, 1, 0, 29, 0, 27, []) := rfl
theorem ti_85_29 : (q_I 85).2 29 = some (0, 1, 0, 5, 0, 31, []) := rfl
theorem ti_85_31 : (q_I 85).2 31 = some (2, 0, 1, 0, 0, 32, []) := rfl
theorem ti_85_32 : (q_I 85).2 32 = some (9, 2, 0, 51, 0, 35, []) := rfl
theorem ti_85_35 : (q_I 85).2 35 = some (0, 1, 0, 5, 0, 37, []) := rfl
theorem ti_85_37 : (q_I 85).2 37 = some (2, 1, 8, 0, 0, 39, []) := rfl
theorem ti_85_39 : (q_I 85).2 39 = some (9, 4, 0, 51, 0, 42, []) := rfl
theorem ti_85_42 : (q_I 85).2 42 = some (0, 1, 0, 6, 0, 44, []) := rfl
theorem ti_85_44 : (q_I 85).2 44 = some (2, 0, 3, 0, 0, 45, []) := rfl
theorem ti_85_45 : (q_I 85).2 45 = some (3, 1, 64, 91, 2, 48, [269, 5]) := rfl
theorem ti_85_48 : (q_I 85).2 48 = some (8, 1, 0, 53, 0, 51, []) := rfl
theorem ti_85_53 : (q_I 85).2 53 = some (0, 4, 0, 0, 2, 54, []) := rfl
theorem ti_85_54 : (q_I 85).2 54 = some (1, 0, 45, 5, 7, 57, [238]) := rfl
theorem ti_85_57 : (q_I 85).2 57 = some (0, 0, 0, 2, 0, 58, []) := rfl
theorem ti_85_58 : (q_I 85).2 58 = some (5, 14, 0, 0, 0, 59, []) := rfl
theorem ti_85_59 : (q_I 85).2 59 = some (0, 0, 0, 3, 0, 60, []) := rfl
theorem ti_85_60 : (q_I 85).2 60 = some (0, 1, 0, 4, 0, 62, []) := rfl
theorem ti_85_62 : (q_I 85).2 62 = some (0, 1, 0, 5, 0, 64, []) := rfl
theorem ti_85_64 : (q_I 85).2 64 = some (3, 0, 248, 37, 4, 67, [740, 3]) := rfl
theorem ti_85_67 : (q_I 85).2 67 = some (11, 1, 0, 7, 0, 69, []) := rfl
theorem ti_85_69 : (q_I 85).2 69 = some (0, 1, 0, 7, 0, 71, []) := rfl
theorem ti_85_71 : (q_I 85).2 71 = some (8, 0, 0, 77, 0, 74, []) := rfl
theorem ti_85_74 : (q_I 85).2 74 = some (0, 1, 0, 7, 0, 76, []) := rfl
theorem ti_85_76 : (q_I 85).2 76 = some (4, 0, 0, 0, 0, 77, []) := rfl
theorem ti_85_77 : (q_I 85).2 77 = some (0, 1, 0, 6, 0, 79, []) := rfl
theorem ti_85_79 : (q_I 85).2 79 = some (8, 1, 0, 86, 0, 82, []) := rfl
theorem ti_85_82 : (q_I 85).2 82 = some (2, 0, 5, 0, 0, 83, []) := rfl
theorem ti_85_83 : (q_I 85).2 83 = some (7, 0, 0, 97, 0, 86, []) := rfl
theorem ti_85_86 : (q_I 85).2 86 = some (0, 1, 0, 6, 0, 88, []) := rfl
theorem ti_85_88 : (q_I 85).2 88 = some (2, 0, 1, 0, 0, 89, []) := rfl
theorem ti_85_89 : (q_I 85).2 89 = some (9, 1, 0, 96, 0, 92, []) := rfl
theorem ti_85_92 : (q_I 85).2 92 = some (2, 0, 5, 0, 0, 93, []) := rfl
theorem ti_85_93 : (q_I 85).2 93 = some (7, 0, 0, 97, 0, 96, []) := rfl
theorem ti_85_96 : (q_I 85).2 96 = some (2, 0, 4, 0, 0, 97, []) := rfl
theorem ti_85_97 : (q_I 85).2 97 = some (11, 1, 0, 8, 0, 99, []) := rfl
theorem ti_85_99 : (q_I 85).2 99 = some (2, 0, 0, 0, 0, 100, []) := rfl
theorem ti_85_100 : (q_I 85).2 100 = some (11, 1, 0, 9, 0, 102, []) := rfl
theorem ti_85_102 : (q_I 85).2 102 = some (2, 0, 0, 0, 0, 103, []) := rfl
theorem ti_85_103 : (q_I 85).2 103 = some (11, 1, 0, 10, 0, 105, []) := rfl
theorem ti_85_105 : (q_I 85).2 105 = some (0, 1, 0, 10, 0, 107, []) := rfl
theorem ti_85_107 : (q_I 85).2 107 = some (0, 1, 0, 8, 0, 109, []) := rfl
theorem ti_85_109 : (q_I 85).2 109 = some (9, 3, 0, 203, 0, 112, []) := rfl
theorem ti_85_112 : (q_I 85).2 112 = some (0, 4, 0, 0, 2, 113, []) := rfl
theorem ti_85_113 : (q_I 85).2 113 = some (1, 0, 16, 5, 1, 116, [232]) := rfl
theorem ti_85_116 : (q_I 85).2 116 = some (0, 4, 0, 0, 2, 117, []) := rfl
theorem ti_85_117 : (q_I 85).2 117 = some (1, 0, 10, 5, 0, 120, [231]) := rfl
theorem ti_85_120 : (q_I 85).2 120 = some (3, 0, 126, 10, 2, 123, [466, 2]) := rfl
theorem ti_85_123 : (q_I 85).2 123 = some (0, 1, 0, 6, 0, 125, []) := rfl
theorem ti_85_125 : (q_I 85).2 125 = some (8, 1, 0, 142, 0, 128, []) := rfl
theorem ti_85_128 : (q_I 85).2 128 = some (0, 4, 0, 0, 2, 129, []) := rfl
theorem ti_85_129 : (q_I 85).2 129 = some (1, 0, 16, 5, 1, 132, [232]) := rfl
theorem ti_85_132 : (q_I 85).2 132 = some (1, 0, 83, 2, 7, 135, [104]) := rfl
theorem ti_85_135 : (q_I 85).2 135 = some (0, 0, 0, 1, 0, 136, []) := rfl
theorem ti_85_136 : (q_I 85).2 136 = some (0, 1, 0, 10, 0, 138, []) := rfl
theorem ti_85_138 : (q_I 85).2 138 = some (12, 10, 0, 0, 0, 139, []) := rfl
theorem ti_85_139 : (q_I 85).2 139 = some (7, 0, 0, 171, 0, 142, []) := rfl
theorem ti_85_142 : (q_I 85).2 142 = some (0, 1, 0, 6, 0, 144, []) := rfl
theorem ti_85_144 : (q_I 85).2 144 = some (2, 0, 1, 0, 0, 145, []) := rfl
theorem ti_85_145 : (q_I 85).2 145 = some (9, 1, 0, 162, 0, 148, []) := rfl
theorem ti_85_148 : (q_I 85).2 148 = some (0, 4, 0, 0, 2, 149, []) := rfl
theorem ti_85_149 : (q_I 85).2 149 = some (1, 0, 16, 5, 1, 152, [232]) := rfl
theorem ti_85_152 : (q_I 85).2 152 = some (1, 0, 89, 2, 9, 155, [108]) := rfl
theorem ti_85_155 : (q_I 85).2 155 = some (0, 0, 0, 1, 0, 156, []) := rfl
theorem ti_85_156 : (q_I 85).2 156 = some (0, 1, 0, 10, 0, 158, []) := rfl
theorem ti_85_158 : (q_I 85).2 158 = some (12, 10, 0, 0, 0, 159, []) := rfl
theorem ti_85_159 : (q_I 85).2 159 = some (7, 0, 0, 171, 0, 162, []) := rfl
theorem ti_85_162 : (q_I 85).2 162 = some (0, 4, 0, 0, 2, 163, []) := rfl
theorem ti_85_163 : (q_I 85).2 163 = some (1, 0, 16, 5, 1, 166, [232]) := rfl
theorem ti_85_166 : (q_I 85).2 166 = some (0, 1, 0, 10, 0, 168, []) := rfl
theorem ti_85_168 : (q_I 85).2 168 = some (10, 0, 133, 2, 1, 171, [88]) := rfl
theorem ti_85_171 : (q_I 85).2 171 = some (0, 4, 0, 0, 2, 172, []) := rfl
theorem ti_85_172 : (q_I 85).2 172 = some (0, 4, 0, 0, 2, 173, []) := rfl
theorem ti_85_173 : (q_I 85).2 173 = some (1, 0, 45, 5, 7, 176, [238]) := rfl
theorem ti_85_176 : (q_I 85).2 176 = some (0, 0, 0, 2, 0, 177, []) := rfl
theorem ti_85_177 : (q_I 85).2 177 = some (5, 14, 0, 0, 0, 178, []) := rfl
theorem ti_85_178 : (q_I 85).2 178 = some (0, 1, 0, 4, 0, 180, []) := rfl
theorem ti_85_180 : (q_I 85).2 180 = some (0, 1, 0, 5, 0, 182, []) := rfl
theorem ti_85_182 : (q_I 85).2 182 = some (3, 0, 251, 107, 4, 185, [748, 5]) := rfl
theorem ti_85_185 : (q_I 85).2 185 = some (8, 0, 0, 197, 0, 188, []) := rfl
theorem ti_85_188 : (q_I 85).2 188 = some (0, 1, 0, 9, 0, 190, []) := rfl
theorem ti_85_190 : (q_I 85).2 190 = some (2, 0, 1, 0, 0, 191, []) := rfl
theorem ti_85_191 : (q_I 85).2 191 = some (0, 1, 0, 10, 0, 193, []) := rfl
theorem ti_85_193 : (q_I 85).2 193 = some (6, 8, 0, 0, 0, 194, []) := rfl
theorem ti_85_194 : (q_I 85).2 194 = some (6, 6, 0, 0, 0, 195, []) := rfl
theorem ti_85_195 : (q_I 85).2 195 = some (11, 1, 0, 9, 0, 197, []) := rfl
theorem ti_85_197 : (q_I 85).2 197 = some (13, 0, 1, 10, 0, 200, []) := rfl
theorem ti_85_200 : (q_I 85).2 200 = some (7, 0, 0, 105, 0, 203, []) := rfl
theorem ti_85_203 : (q_I 85).2 203 = some (0, 1, 0, 9, 0, 205, []) := rfl
theorem ti_85_205 : (q_I 85).2 205 = some (4, 0, 0, 0, 0, 206, []) := rfl
theorem ti_85_51 : (q_I 85).2 51 = some (2, 0, (-1), 0, 0, 52, []) := rfl
theorem ti_85_52 : (q_I 85).2 52 = some (4, 0, 0, 0, 0, 53, []) := rfl
theorem ti_85_27 : (q_I 85).2 27 = some (2, 0, (-1), 0, 0, 28, []) := rfl
theorem ti_85_28 : (q_I 85).2 28 = some (4, 0, 0, 0, 0, 29, []) := rfl
theorem mt_85 (a1 : Int) (a2 : Int) (a3 : Int) (a4 : Int) (a5 : Int) (a6 : Int) (H : a_P) : a_mt id 0 85 [(2, 0), (0, a1), (0, a2), (0, a3), (0, a4), (0, a5), (0, a6)] H (fn_85 a1 a2 a3 a4 a5 a6 H) := by
  refine a_mtI (lo := [some (2, 0), some (0, a1), some (0, a2), some (0, a3), some (0, a4), some (0, a5), some (0, a6), none, none, none, none]) rfl fun d => ?_
  unfold fn_85
  refine a_w0 (Nat.le_succ _) ti_85_0 rfl ?_
  refine a_w1 (a := (2, 1)) (Nat.le_succ _) ti_85_1 rfl ?_
  refine a_w0 (Nat.le_succ _) ti_85_4 rfl ?_
  refine a_w3p (args := [(2, 1), (0, a1)]) (Nat.le_succ _) ti_85_5 (mt_12 1 a1 H) rfl rfl rfl rfl ?_
  refine a_wjn 27 (fun (s : Unit) => [none, none, none, none, none, none, none, none, none, none, none]) (fun (s : Unit) => []) (fun (s : Unit) => H) (fun s1 => ?_) (fun j27 hj27 => ?_)
  · refine a_w2 (z := (-1)) (Nat.le_succ _) ti_85_27 (by decide) ?_
    exact a_w4 (Nat.le_succ _) ti_85_28 rfl rfl rfl
  · refine a_w8_0 (Nat.le_succ _) ti_85_8 ?_ ?_
    · exact a_wk (hj27 ()) (by omega) trivial
    · refine a_w0 (Nat.le_succ _) ti_85_11 rfl ?_
      refine a_w2 (z := 4) (Nat.le_succ _) ti_85_12 (by decide) ?_
      refine a_w3p (args := [(0, a2), (0, 4)]) (Nat.le_succ _) ti_85_13 (mt_91 a2 4 H) rfl rfl rfl rfl ?_
      refine a_w8_0 (Nat.le_succ _) ti_85_16 ?_ ?_
      · exact a_wk (hj27 ()) (by omega) trivial
      · refine a_w0 (Nat.le_succ _) ti_85_19 rfl ?_
        refine a_w2 (z := 4) (Nat.le_succ _) ti_85_20 (by decide) ?_
        refine a_w3p (args := [(0, a3), (0, 4)]) (Nat.le_succ _) ti_85_21 (mt_91 a3 4 H) rfl rfl rfl rfl ?_
        refine a_w8_1 (Nat.le_succ _) ti_85_24 ?_ ?_
        · refine a_w0 (Nat.le_succ _) ti_85_29 rfl ?_
          refine a_w2 (z := 1) (Nat.le_succ _) ti_85_31 (by decide) ?_
          refine a_wjn 51 (fun (s : Unit) => [none, none, none, none, none, none, none, none, none, none, none]) (fun (s : Unit) => []) (fun (s : Unit) => H) (fun s2 => ?_) (fun j51 hj51 => ?_)
          · refine a_w2 (z := (-1)) (Nat.le_succ _) ti_85_51 (by decide) ?_
            exact a_w4 (Nat.le_succ _) ti_85_52 rfl rfl rfl
          · refine a_w9_2 (Nat.le_succ _) ti_85_32 ?_ ?_
            · exact a_wk (hj51 ()) (by omega) trivial
            · refine a_w0 (Nat.le_succ _) ti_85_35 rfl ?_
              refine a_w2 (z := 8) (Nat.le_succ _) ti_85_37 (by decide) ?_
              refine a_w9_4 (Nat.le_succ _) ti_85_39 ?_ ?_
              · exact a_wk (hj51 ()) (by omega) trivial
              · refine a_w0 (Nat.le_succ _) ti_85_42 rfl ?_
                refine a_w2 (z := 3) (Nat.le_succ _) ti_85_44 (by decide) ?_
                refine a_w3p (args := [(0, a6), (0, 3)]) (Nat.le_succ _) ti_85_45 (mt_91 a6 3 H) rfl rfl rfl rfl ?_
                refine a_w8_1 (Nat.le_succ _) ti_85_48 ?_ ?_
                · refine a_w0 (Nat.le_succ _) ti_85_53 rfl ?_
                  refine a_w1 (a := (2, 121)) (Nat.le_succ _) ti_85_54 rfl ?_
                  refine a_w0 (Nat.le_succ _) ti_85_57 rfl ?_
                  refine a_w5r (Nat.le_succ _) ti_85_58 (fun _ => rfl) ?_
                  refine a_w0 (Nat.le_succ _) ti_85_59 rfl ?_
                  refine a_w0 (Nat.le_succ _) ti_85_60 rfl ?_
                  refine a_w0 (Nat.le_succ _) ti_85_62 rfl ?_
                  refine a_w3p (args := [(2, (121 + (4 + 2 * a2))), (0, a3), (0, a4), (0, a5)]) (Nat.le_succ _) ti_85_64 (mt_37 (121 + (4 + 2 * a2)) a3 a4 a5 H) rfl rfl rfl rfl ?_
                  refine a_w11b (lof := fun x1 => [some (2, 0), some (0, a1), some (0, a2), some (0, a3), some (0, a4), some (0, a5), some (0, a6), some (0, x1), none, none, none]) (Nat.le_succ _) ti_85_67 (fun _ => rfl) (fun x1 => ?_)
                  refine a_w0 (Nat.le_succ _) ti_85_69 rfl ?_
                  refine a_w8_0 (Nat.le_succ _) ti_85_71 ?_ ?_
                  · refine a_w0 (Nat.le_succ _) ti_85_77 rfl ?_
                    refine a_wjn 97 (fun (s : Int) => [some (2, 0), some (0, a1), some (0, a2), none, some (0, a4), some (0, a5), some (0, a6), none, none, none, none]) (fun (s : Int) => [(0, s)]) (fun (s : Int) => H) (fun s3 => ?_) (fun j97 hj97 => ?_)
                    · refine a_w11 (lo' := [some (2, 0), some (0, a1), some (0, a2), none, some (0, a4), some (0, a5), some (0, a6), none, some (0, s3), none, none]) (Nat.le_succ _) ti_85_97 rfl ?_
                      refine a_w2 (z := 0) (Nat.le_succ _) ti_85_99 (by decide) ?_
                      refine a_w11 (lo' := [some (2, 0), some (0, a1), some (0, a2), none, some (0, a4), some (0, a5), some (0, a6), none, some (0, s3), some (0, 0), none]) (Nat.le_succ _) ti_85_100 rfl ?_
                      refine a_w2 (z := 0) (Nat.le_succ _) ti_85_102 (by decide) ?_
                      refine a_w11 (lo' := [some (2, 0), some (0, a1), some (0, a2), none, some (0, a4), some (0, a5), some (0, a6), none, some (0, s3), some (0, 0), some (0, 0)]) (Nat.le_succ _) ti_85_103 rfl ?_
                      refine a_wk (a_wlp (fun (s : Int × Int × a_P) => [some (2, 0), some (0, a1), some (0, a2), none, some (0, a4), some (0, a5), some (0, a6), none, some (0, s3), some (0, s.1), some (0, s.2.1)]) (fun (s : Int × Int × a_P) => s.2.2) (fun N1 hN1 n105 hn105 s4 => ?_) a_fuel (a_fuel_le (by omega)) (0, 0, H)) (Nat.le_refl _) ⟨rfl, rfl, rfl, rfl, rfl, rfl, rfl, rfl, rfl, trivial⟩
                      · refine a_w0 (Nat.le_refl _) ti_85_105 rfl ?_
                        refine a_w0 (Nat.le_succ _) ti_85_107 rfl ?_
                        refine a_w9_3 (Nat.le_succ _) ti_85_109 ?_ ?_
                        · refine a_w0 (Nat.le_succ _) ti_85_203 rfl ?_
                          exact a_w4 (Nat.le_succ _) ti_85_205 rfl rfl rfl
                        · refine a_w0 (Nat.le_succ _) ti_85_112 rfl ?_
                          refine a_w1 (a := (2, 7)) (Nat.le_succ _) ti_85_113 rfl ?_
                          refine a_w0 (Nat.le_succ _) ti_85_116 rfl ?_
                          refine a_w1 (a := (2, 1)) (Nat.le_succ _) ti_85_117 rfl ?_
                          refine a_w3v (args := [(2, 7), (2, 1)]) (Nat.le_succ _) ti_85_120 (mt_10 7 1 s4.2.2) rfl rfl (fun H1 => ?_)
                          refine a_w0 (Nat.le_succ _) ti_85_123 rfl ?_
                          refine a_wjn 171 (fun (s : a_P) => [some (2, 0), some (0, a1), some (0, a2), none, some (0, a4), some (0, a5), some (0, a6), none, some (0, s3), some (0, s4.1), some (0, s4.2.1)]) (fun (s : a_P) => []) (fun (s : a_P) => s) (fun s5 => ?_) (fun j171 hj171 => ?_)
                          · refine a_w0 (Nat.le_succ _) ti_85_171 rfl ?_
                            refine a_w0 (Nat.le_succ _) ti_85_172 rfl ?_
                            refine a_w1 (a := (2, 121)) (Nat.le_succ _) ti_85_173 rfl ?_
                            refine a_w0 (Nat.le_succ _) ti_85_176 rfl ?_
                            refine a_w5r (Nat.le_succ _) ti_85_177 (fun _ => rfl) ?_
                            refine a_w0 (Nat.le_succ _) ti_85_178 rfl ?_
                            refine a_w0 (Nat.le_succ _) ti_85_180 rfl ?_
                            refine a_w3i (args := [(2, 0), (2, (121 + (4 + 2 * a2))), (0, a4), (0, a5)]) (Nat.le_succ _) ti_85_182 (mt_107 (121 + (4 + 2 * a2)) a4 a5 s5) (fun _ => rfl) rfl rfl (fun g1 => ?_)
                            refine a_wjn 197 (fun (s : Int) => [some (2, 0), some (0, a1), some (0, a2), none, some (0, a4), some (0, a5), some (0, a6), none, some (0, s3), some (0, s), some (0, s4.2.1)]) (fun (s : Int) => []) (fun (s : Int) => g1.2) (fun s6 => ?_) (fun j197 hj197 => ?_)
                            · refine a_w13 (c' := 1) (lof := fun x2 => [some (2, 0), some (0, a1), some (0, a2), none, some (0, a4), some (0, a5), some (0, a6), none, some (0, s3), some (0, s6), some (0, x2)]) (Nat.le_succ _) ti_85_197 rfl (by decide) rfl (fun _ => rfl) (fun x2 => ?_)
                              refine a_w7 (Nat.le_succ _) ti_85_200 ?_
                              exact a_wk (hn105 (s6, x2, g1.2)) (by omega) ⟨rfl, rfl, rfl, rfl, rfl, rfl, rfl, rfl, rfl, trivial⟩
                            · refine a_w8_0 (Nat.le_succ _) ti_85_185 ?_ ?_
                              · exact a_wk (hj197 s4.1) (by omega) ⟨rfl, rfl, rfl, rfl, rfl, rfl, rfl, rfl, rfl, trivial⟩
                              · refine a_w0 (Nat.le_succ _) ti_85_188 rfl ?_
                                refine a_w2 (z := 1) (Nat.le_succ _) ti_85_190 (by decide) ?_
                                refine a_w0 (Nat.le_succ _) ti_85_191 rfl ?_
                                refine a_w6 (a := (0, a_shl 1 s4.2.1)) (Nat.le_succ _) ti_85_193 rfl ?_
                                refine a_w6 (a := (0, a_or s4.1 (a_shl 1 s4.2.1))) (Nat.le_succ _) ti_85_194 rfl ?_
                                refine a_w11b (lof := fun x3 => [some (2, 0), some (0, a1), some (0, a2), none, some (0, a4), some (0, a5), some (0, a6), none, some (0, s3), some (0, x3), some (0, s4.2.1)]) (Nat.le_succ _) ti_85_195 (fun _ => rfl) (fun x3 => ?_)
                                exact a_wk (hj197 x3) (by omega) ⟨rfl, rfl, rfl, rfl, rfl, rfl, rfl, rfl, rfl, trivial⟩
                          · refine a_w8_1 (Nat.le_succ _) ti_85_125 ?_ ?_
                            · refine a_w0 (Nat.le_succ _) ti_85_142 rfl ?_
                              refine a_w2 (z := 1) (Nat.le_succ _) ti_85_144 (by decide) ?_
                              refine a_w9_1 (Nat.le_succ _) ti_85_145 ?_ ?_
                              · refine a_w0 (Nat.le_succ _) ti_85_162 rfl ?_
                                refine a_w1 (a := (2, 7)) (Nat.le_succ _) ti_85_163 rfl ?_
                                refine a_w0 (Nat.le_succ _) ti_85_166 rfl ?_
                                refine a_w10 (Nat.le_succ _) ti_85_168 rfl rfl rfl (fun H2 => ?_)
                                exact a_wk (hj171 H2) (by omega) ⟨rfl, rfl, rfl, rfl, rfl, rfl, rfl, rfl, rfl, trivial⟩
                              · refine a_w0 (Nat.le_succ _) ti_85_148 rfl ?_
                                refine a_w1 (a := (2, 7)) (Nat.le_succ _) ti_85_149 rfl ?_
                                refine a_w1 (a := (2, 10)) (Nat.le_succ _) ti_85_152 rfl ?_
                                refine a_w0 (Nat.le_succ _) ti_85_155 rfl ?_
                                refine a_w0 (Nat.le_succ _) ti_85_156 rfl ?_
                                refine a_w12 (Nat.le_succ _) ti_85_158 (Or.inl ⟨rfl, rfl⟩) (fun H3 => ?_)
                                refine a_w7 (Nat.le_succ _) ti_85_159 ?_
                                exact a_wk (hj171 H3) (by omega) ⟨rfl, rfl, rfl, rfl, rfl, rfl, rfl, rfl, rfl, trivial⟩
                            · refine a_w0 (Nat.le_succ _) ti_85_128 rfl ?_
                              refine a_w1 (a := (2, 7)) (Nat.le_succ _) ti_85_129 rfl ?_
                              refine a_w1 (a := (2, 8)) (Nat.le_succ _) ti_85_132 rfl ?_
                              refine a_w0 (Nat.le_succ _) ti_85_135 rfl ?_
                              refine a_w0 (Nat.le_succ _) ti_85_136 rfl ?_
                              refine a_w12 (Nat.le_succ _) ti_85_138 (Or.inl ⟨rfl, rfl⟩) (fun H4 => ?_)
                              refine a_w7 (Nat.le_succ _) ti_85_139 ?_
                              exact a_wk (hj171 H4) (by omega) ⟨rfl, rfl, rfl, rfl, rfl, rfl, rfl, rfl, rfl, trivial⟩
                    · refine a_w8_1 (Nat.le_succ _) ti_85_79 ?_ ?_
                      · refine a_w0 (Nat.le_succ _) ti_85_86 rfl ?_
                        refine a_w2 (z := 1) (Nat.le_succ _) ti_85_88 (by decide) ?_
                        refine a_w9_1 (Nat.le_succ _) ti_85_89 ?_ ?_
                        · refine a_w2 (z := 4) (Nat.le_succ _) ti_85_96 (by decide) ?_
                          exact a_wk (hj97 4) (by omega) ⟨rfl, rfl, rfl, rfl, rfl, rfl, trivial⟩
                        · refine a_w2 (z := 5) (Nat.le_succ _) ti_85_92 (by decide) ?_
                          refine a_w7 (Nat.le_succ _) ti_85_93 ?_
                          exact a_wk (hj97 5) (by omega) ⟨rfl, rfl, rfl, rfl, rfl, rfl, trivial⟩
                      · refine a_w2 (z := 5) (Nat.le_succ _) ti_85_82 (by decide) ?_
                        refine a_w7 (Nat.le_succ _) ti_85_83 ?_
                        exact a_wk (hj97 5) (by omega) ⟨rfl, rfl, rfl, rfl, rfl, rfl, trivial⟩
                  · refine a_w0 (Nat.le_succ _) ti_85_74 rfl ?_
                    exact a_w4 (Nat.le_succ _) ti_85_76 rfl rfl rfl
                · exact a_wk (hj51 ()) (by omega) trivial
        · exact a_wk (hj27 ()) (by omega) trivial

/-- CarriedGateModel.fault()I -/
noncomputable def fn_140 (H : a_P) : a_F :=
  a_bd (fn_132 H) fun g1 =>
  a_jn (fun (s1 : Int) => a_jn (fun (s2 : Int) => a_bd (a_w ((-20) - s2)) fun x1 =>
  a_bd (a_up g1.2 133 2 0) fun H1 =>
  (x1, H1)) fun j30 =>
  (if s1 = 0 then j30 (g1.2 133 3)
  else j30 (g1.2 133 2))) fun j12 =>
  (if g1.1 = 0 then j12 1
  else j12 0)
theorem ti_140_0 : (q_I 140).2 0 = some (0, 4, 0, 0, 2, 1, []) := rfl
theorem ti_140_1 : (q_I 140).2 1 = some (3, 0, 131, 132, 1, 4, [942, 6]) := rfl
theorem ti_140_4 : (q_I 140).2 4 = some (8, 1, 0, 11, 0, 7, []) := rfl
theorem ti_140_7 : (q_I 140).2 7 = some (2, 0, 1, 0, 0, 8, []) := rfl
theorem ti_140_8 : (q_I 140).2 8 = some (7, 0, 0, 12, 0, 11, []) := rfl
theorem ti_140_11 : (q_I 140).2 11 = some (2, 0, 0, 0, 0, 12, []) := rfl
theorem ti_140_12 : (q_I 140).2 12 = some (11, 0, 0, 1, 0, 13, []) := rfl
theorem ti_140_13 : (q_I 140).2 13 = some (2, 1, (-20), 0, 0, 15, []) := rfl
theorem ti_140_15 : (q_I 140).2 15 = some (0, 0, 0, 1, 0, 16, []) := rfl
theorem ti_140_16 : (q_I 140).2 16 = some (8, 0, 0, 26, 0, 19, []) := rfl
theorem ti_140_19 : (q_I 140).2 19 = some (0, 4, 0, 0, 2, 20, []) := rfl
theorem ti_140_20 : (q_I 140).2 20 = some (1, 0, 125, 6, 2, 23, [797]) := rfl
theorem ti_140_23 : (q_I 140).2 23 = some (7, 0, 0, 30, 0, 26, []) := rfl
theorem ti_140_26 : (q_I 140).2 26 = some (0, 4, 0, 0, 2, 27, []) := rfl
theorem ti_140_27 : (q_I 140).2 27 = some (1, 0, 128, 6, 3, 30, [798]) := rfl
theorem ti_140_30 : (q_I 140).2 30 = some (6, 1, 0, 0, 0, 31, []) := rfl
theorem ti_140_31 : (q_I 140).2 31 = some (11, 0, 0, 2, 0, 32, []) := rfl
theorem ti_140_32 : (q_I 140).2 32 = some (0, 4, 0, 0, 2, 33, []) := rfl
theorem ti_140_33 : (q_I 140).2 33 = some (2, 0, 0, 0, 0, 34, []) := rfl
theorem ti_140_34 : (q_I 140).2 34 = some (10, 0, 125, 6, 2, 37, [797]) := rfl
theorem ti_140_37 : (q_I 140).2 37 = some (0, 0, 0, 2, 0, 38, []) := rfl
theorem ti_140_38 : (q_I 140).2 38 = some (4, 0, 0, 0, 0, 39, []) := rfl
theorem mt_140 (H : a_P) : a_mt id 0 140 [(2, 133)] H (fn_140 H) := by
  refine a_mtI (lo := [some (2, 133), none, none]) rfl fun d => ?_
  unfold fn_140
  refine a_w0 (Nat.le_succ _) ti_140_0 rfl ?_
  refine a_w3i (args := [(2, 133)]) (Nat.le_succ _) ti_140_1 (mt_132 H) (fun _ => rfl) rfl rfl (fun g1 => ?_)
  refine a_wjn 12 (fun (s : Int) => [some (2, 133), none, none]) (fun (s : Int) => [(0, s)]) (fun (s : Int) => g1.2) (fun s1 => ?_) (fun j12 hj12 => ?_)
  · refine a_w11 (lo' := [some (2, 133), some (0, s1), none]) (Nat.le_succ _) ti_140_12 rfl ?_
    refine a_w2 (z := (-20)) (Nat.le_succ _) ti_140_13 (by decide) ?_
    refine a_w0 (Nat.le_succ _) ti_140_15 rfl ?_
    refine a_wjn 30 (fun (s : Int) => [some (2, 133), none, none]) (fun (s : Int) => [(0, s), (0, (-20))]) (fun (s : Int) => g1.2) (fun s2 => ?_) (fun j30 hj30 => ?_)
    · refine a_w6 (a := (0, a_w ((-20) - s2))) (Nat.le_succ _) ti_140_30 rfl ?_
      refine a_w11b (lof := fun x1 => [some (2, 133), none, some (0, x1)]) (Nat.le_succ _) ti_140_31 (fun _ => rfl) (fun x1 => ?_)
      refine a_w0 (Nat.le_succ _) ti_140_32 rfl ?_
      refine a_w2 (z := 0) (Nat.le_succ _) ti_140_33 (by decide) ?_
      refine a_w10 (Nat.le_succ _) ti_140_34 rfl rfl rfl (fun H1 => ?_)
      refine a_w0 (Nat.le_succ _) ti_140_37 rfl ?_
      exact a_w4 (Nat.le_succ _) ti_140_38 rfl rfl rfl
    · refine a_w8_0 (Nat.le_succ _) ti_140_16 ?_ ?_
      · refine a_w0 (Nat.le_succ _) ti_140_26 rfl ?_
        refine a_w1 (a := (0, g1.2 133 3)) (Nat.le_succ _) ti_140_27 rfl ?_
        exact a_wk (hj30 (g1.2 133 3)) (by omega) ⟨rfl, trivial⟩
      · refine a_w0 (Nat.le_succ _) ti_140_19 rfl ?_
        refine a_w1 (a := (0, g1.2 133 2)) (Nat.le_succ _) ti_140_20 rfl ?_
        refine a_w7 (Nat.le_succ _) ti_140_23 ?_
        exact a_wk (hj30 (g1.2 133 2)) (by omega) ⟨rfl, trivial⟩
  · refine a_w8_1 (Nat.le_succ _) ti_140_4 ?_ ?_
    · refine a_w2 (z := 0) (Nat.le_succ _) ti_140_11 (by decide) ?_
      exact a_wk (hj12 0) (by omega) ⟨rfl, trivial⟩
    · refine a_w2 (z := 1) (Nat.le_succ _) ti_140_7 (by decide) ?_
      refine a_w7 (Nat.le_succ _) ti_140_8 ?_
      exact a_wk (hj12 1) (by omega) ⟨rfl, trivial⟩
/-- CarriedGateModel.plain()I -/
noncomputable def fn_141 (H : a_P) : a_F :=
  a_bd (a_up H 133 3 0) fun H1 =>
  a_bd (a_up H1 133 5 (-4)) fun H2 =>
  a_bd (fn_134 35 H2) fun g1 =>
  a_jn (fun (s1 : Int × a_P) => a_jn (fun (s2 : Int × a_P) => a_jn (fun (s3 : Int × a_P) => a_jn (fun (s4 : a_P) => a_bd (fn_140 s4) fun g2 =>
  (g2.1, g2.2)) fun j100 =>
  (if s3.1 < 0 then j100 s3.2
  else a_bd (fn_132 s3.2) fun g3 =>
  (if g3.1 = 0 then a_bd (a_up g3.2 134 0 0) fun H3 =>
  a_bd (a_up H3 134 1 g1.1) fun H4 =>
  a_bd (a_up H4 134 2 s1.1) fun H5 =>
  a_bd (a_up H5 134 3 (H5 133 5)) fun H6 =>
  a_bd (a_up H6 134 4 s2.1) fun H7 =>
  a_bd (a_up H7 134 5 0) fun H8 =>
  a_bd (a_up H8 133 7 0) fun H9 =>
  a_jn (fun (s5 : a_P) => a_bd (a_up s5 133 2 0) fun H10 =>
  (s3.1, H10)) fun j211 =>
  a_lp (fun (s6 : Int × a_P) => (0, s6.2)) (fun (s6 : Int × a_P) n158 => (if s6.1 < (a_w (4 * s3.1)) then a_bd (fn_125 (s6.2 136 s6.1) (s6.2 136 (a_w (s6.1 + 1))) (s6.2 136 (a_w (s6.1 + 2))) (s6.2 136 (a_w (s6.1 + 3))) s6.2) fun H11 =>
  a_bd (a_w (s6.1 + 4)) fun x1 =>
  n158 (x1, H11)
  else j211 s6.2)) a_fuel (0, H9)
  else j100 g3.2))) fun j86 =>
  (if s2.1 < 0 then j86 ((-1), s2.2)
  else a_bd (fn_133 59 s2.2) fun g4 =>
  (if g4.1 = 0 then j86 (0, g4.2)
  else a_bd (fn_139 g1.1 g4.2) fun g5 =>
  j86 (g5.1, g5.2)))) fun j59 =>
  (if s1.1 < 0 then j59 ((-1), s1.2)
  else a_bd (fn_133 47 s1.2) fun g6 =>
  (if g6.1 = 0 then j59 (0, g6.2)
  else a_bd (fn_134 63 g6.2) fun g7 =>
  j59 (g7.1, g7.2)))) fun j31 =>
  (if g1.1 < 0 then j31 ((-1), g1.2)
  else a_bd (fn_136 0 g1.2) fun g8 =>
  j31 (g8.1, g8.2))
theorem ti_141_0 : (q_I 141).2 0 = some (0, 4, 0, 0, 2, 1, []) := rfl
theorem ti_141_1 : (q_I 141).2 1 = some (2, 0, 0, 0, 0, 2, []) := rfl
theorem ti_141_2 : (q_I 141).2 2 = some (10, 0, 128, 6, 3, 5, [798]) := rfl
theorem ti_141_5 : (q_I 141).2 5 = some (0, 4, 0, 0, 2, 6, []) := rfl
theorem ti_141_6 : (q_I 141).2 6 = some (2, 1, (-4), 0, 0, 8, []) := rfl
theorem ti_141_8 : (q_I 141).2 8 = some (10, 0, 152, 6, 5, 11, [800]) := rfl
theorem ti_141_11 : (q_I 141).2 11 = some (0, 4, 0, 0, 2, 12, []) := rfl
theorem ti_141_12 : (q_I 141).2 12 = some (2, 1, 35, 0, 0, 14, []) := rfl
theorem ti_141_14 : (q_I 141).2 14 = some (3, 0, 145, 134, 2, 17, [938, 6]) := rfl
theorem ti_141_17 : (q_I 141).2 17 = some (11, 0, 0, 1, 0, 18, []) := rfl
theorem ti_141_18 : (q_I 141).2 18 = some (0, 0, 0, 1, 0, 19, []) := rfl
theorem ti_141_19 : (q_I 141).2 19 = some (8, 3, 0, 26, 0, 22, []) := rfl
theorem ti_141_22 : (q_I 141).2 22 = some (2, 0, (-1), 0, 0, 23, []) := rfl
theorem ti_141_23 : (q_I 141).2 23 = some (7, 0, 0, 31, 0, 26, []) := rfl
theorem ti_141_26 : (q_I 141).2 26 = some (0, 4, 0, 0, 2, 27, []) := rfl
theorem ti_141_27 : (q_I 141).2 27 = some (2, 0, 0, 0, 0, 28, []) := rfl
theorem ti_141_28 : (q_I 141).2 28 = some (3, 0, 148, 136, 2, 31, [948, 6]) := rfl
theorem ti_141_31 : (q_I 141).2 31 = some (11, 0, 0, 2, 0, 32, []) := rfl
theorem ti_141_32 : (q_I 141).2 32 = some (0, 0, 0, 2, 0, 33, []) := rfl
theorem ti_141_33 : (q_I 141).2 33 = some (8, 3, 0, 40, 0, 36, []) := rfl
theorem ti_141_36 : (q_I 141).2 36 = some (2, 0, (-1), 0, 0, 37, []) := rfl
theorem ti_141_37 : (q_I 141).2 37 = some (7, 0, 0, 59, 0, 40, []) := rfl
theorem ti_141_40 : (q_I 141).2 40 = some (0, 4, 0, 0, 2, 41, []) := rfl
theorem ti_141_41 : (q_I 141).2 41 = some (2, 1, 47, 0, 0, 43, []) := rfl
theorem ti_141_43 : (q_I 141).2 43 = some (3, 0, 155, 133, 2, 46, [955, 6]) := rfl
theorem ti_141_46 : (q_I 141).2 46 = some (8, 0, 0, 58, 0, 49, []) := rfl
theorem ti_141_49 : (q_I 141).2 49 = some (0, 4, 0, 0, 2, 50, []) := rfl
theorem ti_141_50 : (q_I 141).2 50 = some (2, 1, 63, 0, 0, 52, []) := rfl
theorem ti_141_52 : (q_I 141).2 52 = some (3, 0, 145, 134, 2, 55, [938, 6]) := rfl
theorem ti_141_55 : (q_I 141).2 55 = some (7, 0, 0, 59, 0, 58, []) := rfl
theorem ti_141_58 : (q_I 141).2 58 = some (2, 0, 0, 0, 0, 59, []) := rfl
theorem ti_141_59 : (q_I 141).2 59 = some (11, 0, 0, 3, 0, 60, []) := rfl
theorem ti_141_60 : (q_I 141).2 60 = some (0, 0, 0, 3, 0, 61, []) := rfl
theorem ti_141_61 : (q_I 141).2 61 = some (8, 3, 0, 68, 0, 64, []) := rfl
theorem ti_141_64 : (q_I 141).2 64 = some (2, 0, (-1), 0, 0, 65, []) := rfl
theorem ti_141_65 : (q_I 141).2 65 = some (7, 0, 0, 86, 0, 68, []) := rfl
theorem ti_141_68 : (q_I 141).2 68 = some (0, 4, 0, 0, 2, 69, []) := rfl
theorem ti_141_69 : (q_I 141).2 69 = some (2, 1, 59, 0, 0, 71, []) := rfl
theorem ti_141_71 : (q_I 141).2 71 = some (3, 0, 155, 133, 2, 74, [955, 6]) := rfl
theorem ti_141_74 : (q_I 141).2 74 = some (8, 0, 0, 85, 0, 77, []) := rfl
theorem ti_141_77 : (q_I 141).2 77 = some (0, 4, 0, 0, 2, 78, []) := rfl
theorem ti_141_78 : (q_I 141).2 78 = some (0, 0, 0, 1, 0, 79, []) := rfl
theorem ti_141_79 : (q_I 141).2 79 = some (3, 0, 162, 139, 2, 82, [959, 6]) := rfl
theorem ti_141_82 : (q_I 141).2 82 = some (7, 0, 0, 86, 0, 85, []) := rfl
theorem ti_141_85 : (q_I 141).2 85 = some (2, 0, 0, 0, 0, 86, []) := rfl
theorem ti_141_86 : (q_I 141).2 86 = some (11, 1, 0, 4, 0, 88, []) := rfl
theorem ti_141_88 : (q_I 141).2 88 = some (0, 1, 0, 4, 0, 90, []) := rfl
theorem ti_141_90 : (q_I 141).2 90 = some (8, 2, 0, 100, 0, 93, []) := rfl
theorem ti_141_93 : (q_I 141).2 93 = some (0, 4, 0, 0, 2, 94, []) := rfl
theorem ti_141_94 : (q_I 141).2 94 = some (3, 0, 131, 132, 1, 97, [942, 6]) := rfl
theorem ti_141_97 : (q_I 141).2 97 = some (8, 0, 0, 105, 0, 100, []) := rfl
theorem ti_141_105 : (q_I 141).2 105 = some (0, 4, 0, 0, 2, 106, []) := rfl
theorem ti_141_106 : (q_I 141).2 106 = some (1, 0, 7, 6, 0, 109, [795]) := rfl
theorem ti_141_109 : (q_I 141).2 109 = some (2, 0, 0, 0, 0, 110, []) := rfl
theorem ti_141_110 : (q_I 141).2 110 = some (2, 0, 0, 0, 0, 111, []) := rfl
theorem ti_141_111 : (q_I 141).2 111 = some (12, 10, 0, 0, 0, 112, []) := rfl
theorem ti_141_112 : (q_I 141).2 112 = some (0, 4, 0, 0, 2, 113, []) := rfl
theorem ti_141_113 : (q_I 141).2 113 = some (1, 0, 7, 6, 0, 116, [795]) := rfl
theorem ti_141_116 : (q_I 141).2 116 = some (2, 0, 1, 0, 0, 117, []) := rfl
theorem ti_141_117 : (q_I 141).2 117 = some (0, 0, 0, 1, 0, 118, []) := rfl
theorem ti_141_118 : (q_I 141).2 118 = some (12, 10, 0, 0, 0, 119, []) := rfl
theorem ti_141_119 : (q_I 141).2 119 = some (0, 4, 0, 0, 2, 120, []) := rfl
theorem ti_141_120 : (q_I 141).2 120 = some (1, 0, 7, 6, 0, 123, [795]) := rfl
theorem ti_141_123 : (q_I 141).2 123 = some (2, 0, 2, 0, 0, 124, []) := rfl
theorem ti_141_124 : (q_I 141).2 124 = some (0, 0, 0, 2, 0, 125, []) := rfl
theorem ti_141_125 : (q_I 141).2 125 = some (12, 10, 0, 0, 0, 126, []) := rfl
theorem ti_141_126 : (q_I 141).2 126 = some (0, 4, 0, 0, 2, 127, []) := rfl
theorem ti_141_127 : (q_I 141).2 127 = some (1, 0, 7, 6, 0, 130, [795]) := rfl
theorem ti_141_130 : (q_I 141).2 130 = some (2, 0, 3, 0, 0, 131, []) := rfl
theorem ti_141_131 : (q_I 141).2 131 = some (0, 4, 0, 0, 2, 132, []) := rfl
theorem ti_141_132 : (q_I 141).2 132 = some (1, 0, 152, 6, 5, 135, [800]) := rfl
theorem ti_141_135 : (q_I 141).2 135 = some (12, 10, 0, 0, 0, 136, []) := rfl
theorem ti_141_136 : (q_I 141).2 136 = some (0, 4, 0, 0, 2, 137, []) := rfl
theorem ti_141_137 : (q_I 141).2 137 = some (1, 0, 7, 6, 0, 140, [795]) := rfl
theorem ti_141_140 : (q_I 141).2 140 = some (2, 0, 4, 0, 0, 141, []) := rfl
theorem ti_141_141 : (q_I 141).2 141 = some (0, 0, 0, 3, 0, 142, []) := rfl
theorem ti_141_142 : (q_I 141).2 142 = some (12, 10, 0, 0, 0, 143, []) := rfl
theorem ti_141_143 : (q_I 141).2 143 = some (0, 4, 0, 0, 2, 144, []) := rfl
theorem ti_141_144 : (q_I 141).2 144 = some (1, 0, 7, 6, 0, 147, [795]) := rfl
theorem ti_141_147 : (q_I 141).2 147 = some (2, 0, 5, 0, 0, 148, []) := rfl
theorem ti_141_148 : (q_I 141).2 148 = some (2, 0, 0, 0, 0, 149, []) := rfl
theorem ti_141_149 : (q_I 141).2 149 = some (12, 10, 0, 0, 0, 150, []) := rfl
theorem ti_141_150 : (q_I 141).2 150 = some (0, 4, 0, 0, 2, 151, []) := rfl
theorem ti_141_151 : (q_I 141).2 151 = some (2, 0, 0, 0, 0, 152, []) := rfl
theorem ti_141_152 : (q_I 141).2 152 = some (10, 0, 101, 6, 7, 155, [802]) := rfl
theorem ti_141_155 : (q_I 141).2 155 = some (2, 0, 0, 0, 0, 156, []) := rfl
theorem ti_141_156 : (q_I 141).2 156 = some (11, 1, 0, 5, 0, 158, []) := rfl
theorem ti_141_158 : (q_I 141).2 158 = some (0, 1, 0, 5, 0, 160, []) := rfl
theorem ti_141_160 : (q_I 141).2 160 = some (2, 0, 4, 0, 0, 161, []) := rfl
theorem ti_141_161 : (q_I 141).2 161 = some (0, 1, 0, 4, 0, 163, []) := rfl
theorem ti_141_163 : (q_I 141).2 163 = some (6, 2, 0, 0, 0, 164, []) := rfl
theorem ti_141_164 : (q_I 141).2 164 = some (9, 3, 0, 211, 0, 167, []) := rfl
theorem ti_141_167 : (q_I 141).2 167 = some (0, 4, 0, 0, 2, 168, []) := rfl
theorem ti_141_168 : (q_I 141).2 168 = some (0, 4, 0, 0, 2, 169, []) := rfl
theorem ti_141_169 : (q_I 141).2 169 = some (1, 0, 16, 6, 4, 172, [799]) := rfl
theorem ti_141_172 : (q_I 141).2 172 = some (0, 1, 0, 5, 0, 174, []) := rfl
theorem ti_141_174 : (q_I 141).2 174 = some (5, 10, 0, 0, 0, 175, []) := rfl
theorem ti_141_175 : (q_I 141).2 175 = some (0, 4, 0, 0, 2, 176, []) := rfl
theorem ti_141_176 : (q_I 141).2 176 = some (1, 0, 16, 6, 4, 179, [799]) := rfl
theorem ti_141_179 : (q_I 141).2 179 = some (0, 1, 0, 5, 0, 181, []) := rfl
theorem ti_141_181 : (q_I 141).2 181 = some (2, 0, 1, 0, 0, 182, []) := rfl
theorem ti_141_182 : (q_I 141).2 182 = some (6, 0, 0, 0, 0, 183, []) := rfl
theorem ti_141_183 : (q_I 141).2 183 = some (5, 10, 0, 0, 0, 184, []) := rfl
theorem ti_141_184 : (q_I 141).2 184 = some (0, 4, 0, 0, 2, 185, []) := rfl
theorem ti_141_185 : (q_I 141).2 185 = some (1, 0, 16, 6, 4, 188, [799]) := rfl
theorem ti_141_188 : (q_I 141).2 188 = some (0, 1, 0, 5, 0, 190, []) := rfl
theorem ti_141_190 : (q_I 141).2 190 = some (2, 0, 2, 0, 0, 191, []) := rfl
theorem ti_141_191 : (q_I 141).2 191 = some (6, 0, 0, 0, 0, 192, []) := rfl
theorem ti_141_192 : (q_I 141).2 192 = some (5, 10, 0, 0, 0, 193, []) := rfl
theorem ti_141_193 : (q_I 141).2 193 = some (0, 4, 0, 0, 2, 194, []) := rfl
theorem ti_141_194 : (q_I 141).2 194 = some (1, 0, 16, 6, 4, 197, [799]) := rfl
theorem ti_141_197 : (q_I 141).2 197 = some (0, 1, 0, 5, 0, 199, []) := rfl
theorem ti_141_199 : (q_I 141).2 199 = some (2, 0, 3, 0, 0, 200, []) := rfl
theorem ti_141_200 : (q_I 141).2 200 = some (6, 0, 0, 0, 0, 201, []) := rfl
theorem ti_141_201 : (q_I 141).2 201 = some (5, 10, 0, 0, 0, 202, []) := rfl
theorem ti_141_202 : (q_I 141).2 202 = some (3, 0, 111, 125, 5, 205, [875, 6]) := rfl
theorem ti_141_205 : (q_I 141).2 205 = some (13, 0, 4, 5, 0, 208, []) := rfl
theorem ti_141_208 : (q_I 141).2 208 = some (7, 0, 0, 158, 0, 211, []) := rfl
theorem ti_141_211 : (q_I 141).2 211 = some (0, 4, 0, 0, 2, 212, []) := rfl
theorem ti_141_212 : (q_I 141).2 212 = some (2, 0, 0, 0, 0, 213, []) := rfl
theorem ti_141_213 : (q_I 141).2 213 = some (10, 0, 125, 6, 2, 216, [797]) := rfl
theorem ti_141_216 : (q_I 141).2 216 = some (0, 1, 0, 4, 0, 218, []) := rfl
theorem ti_141_218 : (q_I 141).2 218 = some (4, 0, 0, 0, 0, 219, []) := rfl
theorem ti_141_100 : (q_I 141).2 100 = some (0, 4, 0, 0, 2, 101, []) := rfl
theorem ti_141_101 : (q_I 141).2 101 = some (3, 0, 165, 140, 1, 104, [970, 6]) := rfl
theorem ti_141_104 : (q_I 141).2 104 = some (4, 0, 0, 0, 0, 105, []) := rfl
theorem mt_141 (H : a_P) : a_mt id 0 141 [(2, 133)] H (fn_141 H) := by
  refine a_mtI (lo := [some (2, 133), none, none, none, none, none]) rfl fun d => ?_
  unfold fn_141
  refine a_w0 (Nat.le_succ _) ti_141_0 rfl ?_
  refine a_w2 (z := 0) (Nat.le_succ _) ti_141_1 (by decide) ?_
  refine a_w10 (Nat.le_succ _) ti_141_2 rfl rfl rfl (fun H1 => ?_)
  refine a_w0 (Nat.le_succ _) ti_141_5 rfl ?_
  refine a_w2 (z := (-4)) (Nat.le_succ _) ti_141_6 (by decide) ?_
  refine a_w10 (Nat.le_succ _) ti_141_8 rfl rfl rfl (fun H2 => ?_)
  refine a_w0 (Nat.le_succ _) ti_141_11 rfl ?_
  refine a_w2 (z := 35) (Nat.le_succ _) ti_141_12 (by decide) ?_
  refine a_w3i (args := [(2, 133), (0, 35)]) (Nat.le_succ _) ti_141_14 (mt_134 35 H2) (fun _ => rfl) rfl rfl (fun g1 => ?_)
  refine a_w11 (lo' := [some (2, 133), some (0, g1.1), none, none, none, none]) (Nat.le_succ _) ti_141_17 rfl ?_
  refine a_w0 (Nat.le_succ _) ti_141_18 rfl ?_
  refine a_wjn 31 (fun (s : Int × a_P) => [some (2, 133), some (0, g1.1), none, none, none, none]) (fun (s : Int × a_P) => [(0, s.1)]) (fun (s : Int × a_P) => s.2) (fun s1 => ?_) (fun j31 hj31 => ?_)
  · refine a_w11 (lo' := [some (2, 133), some (0, g1.1), some (0, s1.1), none, none, none]) (Nat.le_succ _) ti_141_31 rfl ?_
    refine a_w0 (Nat.le_succ _) ti_141_32 rfl ?_
    refine a_wjn 59 (fun (s : Int × a_P) => [some (2, 133), some (0, g1.1), some (0, s1.1), none, none, none]) (fun (s : Int × a_P) => [(0, s.1)]) (fun (s : Int × a_P) => s.2) (fun s2 => ?_) (fun j59 hj59 => ?_)
    · refine a_w11 (lo' := [some (2, 133), some (0, g1.1), some (0, s1.1), some (0, s2.1), none, none]) (Nat.le_succ _) ti_141_59 rfl ?_
      refine a_w0 (Nat.le_succ _) ti_141_60 rfl ?_
      refine a_wjn 86 (fun (s : Int × a_P) => [some (2, 133), some (0, g1.1), some (0, s1.1), some (0, s2.1), none, none]) (fun (s : Int × a_P) => [(0, s.1)]) (fun (s : Int × a_P) => s.2) (fun s3 => ?_) (fun j86 hj86 => ?_)
      · refine a_w11 (lo' := [some (2, 133), some (0, g1.1), some (0, s1.1), some (0, s2.1), some (0, s3.1), none]) (Nat.le_succ _) ti_141_86 rfl ?_
        refine a_w0 (Nat.le_succ _) ti_141_88 rfl ?_
        refine a_wjn 100 (fun (s : a_P) => [some (2, 133), none, none, none, none, none]) (fun (s : a_P) => []) (fun (s : a_P) => s) (fun s4 => ?_) (fun j100 hj100 => ?_)
        · refine a_w0 (Nat.le_succ _) ti_141_100 rfl ?_
          refine a_w3i (args := [(2, 133)]) (Nat.le_succ _) ti_141_101 (mt_140 s4) (fun _ => rfl) rfl rfl (fun g2 => ?_)
          exact a_w4 (Nat.le_succ _) ti_141_104 rfl rfl rfl
        · refine a_w8_2 (Nat.le_succ _) ti_141_90 ?_ ?_
          · exact a_wk (hj100 s3.2) (by omega) ⟨rfl, trivial⟩
          · refine a_w0 (Nat.le_succ _) ti_141_93 rfl ?_
            refine a_w3i (args := [(2, 133)]) (Nat.le_succ _) ti_141_94 (mt_132 s3.2) (fun _ => rfl) rfl rfl (fun g3 => ?_)
            refine a_w8_0 (Nat.le_succ _) ti_141_97 ?_ ?_
            · refine a_w0 (Nat.le_succ _) ti_141_105 rfl ?_
              refine a_w1 (a := (2, 134)) (Nat.le_succ _) ti_141_106 rfl ?_
              refine a_w2 (z := 0) (Nat.le_succ _) ti_141_109 (by decide) ?_
              refine a_w2 (z := 0) (Nat.le_succ _) ti_141_110 (by decide) ?_
              refine a_w12 (Nat.le_succ _) ti_141_111 (Or.inl ⟨rfl, rfl⟩) (fun H3 => ?_)
              refine a_w0 (Nat.le_succ _) ti_141_112 rfl ?_
              refine a_w1 (a := (2, 134)) (Nat.le_succ _) ti_141_113 rfl ?_
              refine a_w2 (z := 1) (Nat.le_succ _) ti_141_116 (by decide) ?_
              refine a_w0 (Nat.le_succ _) ti_141_117 rfl ?_
              refine a_w12 (Nat.le_succ _) ti_141_118 (Or.inl ⟨rfl, rfl⟩) (fun H4 => ?_)
              refine a_w0 (Nat.le_succ _) ti_141_119 rfl ?_
              refine a_w1 (a := (2, 134)) (Nat.le_succ _) ti_141_120 rfl ?_
              refine a_w2 (z := 2) (Nat.le_succ _) ti_141_123 (by decide) ?_
              refine a_w0 (Nat.le_succ _) ti_141_124 rfl ?_
              refine a_w12 (Nat.le_succ _) ti_141_125 (Or.inl ⟨rfl, rfl⟩) (fun H5 => ?_)
              refine a_w0 (Nat.le_succ _) ti_141_126 rfl ?_
              refine a_w1 (a := (2, 134)) (Nat.le_succ _) ti_141_127 rfl ?_
              refine a_w2 (z := 3) (Nat.le_succ _) ti_141_130 (by decide) ?_
              refine a_w0 (Nat.le_succ _) ti_141_131 rfl ?_
              refine a_w1 (a := (0, H5 133 5)) (Nat.le_succ _) ti_141_132 rfl ?_
              refine a_w12 (Nat.le_succ _) ti_141_135 (Or.inl ⟨rfl, rfl⟩) (fun H6 => ?_)
              refine a_w0 (Nat.le_succ _) ti_141_136 rfl ?_
              refine a_w1 (a := (2, 134)) (Nat.le_succ _) ti_141_137 rfl ?_
              refine a_w2 (z := 4) (Nat.le_succ _) ti_141_140 (by decide) ?_
              refine a_w0 (Nat.le_succ _) ti_141_141 rfl ?_
              refine a_w12 (Nat.le_succ _) ti_141_142 (Or.inl ⟨rfl, rfl⟩) (fun H7 => ?_)
              refine a_w0 (Nat.le_succ _) ti_141_143 rfl ?_
              refine a_w1 (a := (2, 134)) (Nat.le_succ _) ti_141_144 rfl ?_
              refine a_w2 (z := 5) (Nat.le_succ _) ti_141_147 (by decide) ?_
              refine a_w2 (z := 0) (Nat.le_succ _) ti_141_148 (by decide) ?_
              refine a_w12 (Nat.le_succ _) ti_141_149 (Or.inl ⟨rfl, rfl⟩) (fun H8 => ?_)
              refine a_w0 (Nat.le_succ _) ti_141_150 rfl ?_
              refine a_w2 (z := 0) (Nat.le_succ _) ti_141_151 (by decide) ?_
              refine a_w10 (Nat.le_succ _) ti_141_152 rfl rfl rfl (fun H9 => ?_)
              refine a_w2 (z := 0) (Nat.le_succ _) ti_141_155 (by decide) ?_
              refine a_w11 (lo' := [some (2, 133), some (0, g1.1), some (0, s1.1), some (0, s2.1), some (0, s3.1), some (0, 0)]) (Nat.le_succ _) ti_141_156 rfl ?_
              refine a_wjn 211 (fun (s : a_P) => [some (2, 133), none, none, none, some (0, s3.1), none]) (fun (s : a_P) => []) (fun (s : a_P) => s) (fun s5 => ?_) (fun j211 hj211 => ?_)
              · refine a_w0 (Nat.le_succ _) ti_141_211 rfl ?_
                refine a_w2 (z := 0) (Nat.le_succ _) ti_141_212 (by decide) ?_
                refine a_w10 (Nat.le_succ _) ti_141_213 rfl rfl rfl (fun H10 => ?_)
                refine a_w0 (Nat.le_succ _) ti_141_216 rfl ?_
                exact a_w4 (Nat.le_succ _) ti_141_218 rfl rfl rfl
              · refine a_wk (a_wlp (fun (s : Int × a_P) => [some (2, 133), none, none, none, some (0, s3.1), some (0, s.1)]) (fun (s : Int × a_P) => s.2) (fun N1 hN1 n158 hn158 s6 => ?_) a_fuel (a_fuel_le (by omega)) (0, H9)) (Nat.le_refl _) ⟨rfl, rfl, rfl, trivial⟩
                · refine a_w0 (Nat.le_refl _) ti_141_158 rfl ?_
                  refine a_w2 (z := 4) (Nat.le_succ _) ti_141_160 (by decide) ?_
                  refine a_w0 (Nat.le_succ _) ti_141_161 rfl ?_
                  refine a_w6 (a := (0, a_w (4 * s3.1))) (Nat.le_succ _) ti_141_163 rfl ?_
                  refine a_w9_3 (Nat.le_succ _) ti_141_164 ?_ ?_
                  · exact a_wk (hj211 s6.2) (by omega) ⟨rfl, rfl, trivial⟩
                  · refine a_w0 (Nat.le_succ _) ti_141_167 rfl ?_
                    refine a_w0 (Nat.le_succ _) ti_141_168 rfl ?_
                    refine a_w1 (a := (2, 136)) (Nat.le_succ _) ti_141_169 rfl ?_
                    refine a_w0 (Nat.le_succ _) ti_141_172 rfl ?_
                    refine a_w5 (kk := 0) (Nat.le_succ _) ti_141_174 (fun _ => rfl) ?_
                    refine a_w0 (Nat.le_succ _) ti_141_175 rfl ?_
                    refine a_w1 (a := (2, 136)) (Nat.le_succ _) ti_141_176 rfl ?_
                    refine a_w0 (Nat.le_succ _) ti_141_179 rfl ?_
                    refine a_w2 (z := 1) (Nat.le_succ _) ti_141_181 (by decide) ?_
                    refine a_w6 (a := (0, a_w (s6.1 + 1))) (Nat.le_succ _) ti_141_182 rfl ?_
                    refine a_w5 (kk := 0) (Nat.le_succ _) ti_141_183 (fun _ => rfl) ?_
                    refine a_w0 (Nat.le_succ _) ti_141_184 rfl ?_
                    refine a_w1 (a := (2, 136)) (Nat.le_succ _) ti_141_185 rfl ?_
                    refine a_w0 (Nat.le_succ _) ti_141_188 rfl ?_
                    refine a_w2 (z := 2) (Nat.le_succ _) ti_141_190 (by decide) ?_
                    refine a_w6 (a := (0, a_w (s6.1 + 2))) (Nat.le_succ _) ti_141_191 rfl ?_
                    refine a_w5 (kk := 0) (Nat.le_succ _) ti_141_192 (fun _ => rfl) ?_
                    refine a_w0 (Nat.le_succ _) ti_141_193 rfl ?_
                    refine a_w1 (a := (2, 136)) (Nat.le_succ _) ti_141_194 rfl ?_
                    refine a_w0 (Nat.le_succ _) ti_141_197 rfl ?_
                    refine a_w2 (z := 3) (Nat.le_succ _) ti_141_199 (by decide) ?_
                    refine a_w6 (a := (0, a_w (s6.1 + 3))) (Nat.le_succ _) ti_141_200 rfl ?_
                    refine a_w5 (kk := 0) (Nat.le_succ _) ti_141_201 (fun _ => rfl) ?_
                    refine a_w3v (args := [(2, 133), (0, s6.2 136 s6.1), (0, s6.2 136 (a_w (s6.1 + 1))), (0, s6.2 136 (a_w (s6.1 + 2))), (0, s6.2 136 (a_w (s6.1 + 3)))]) (Nat.le_succ _) ti_141_202 (mt_125 (s6.2 136 s6.1) (s6.2 136 (a_w (s6.1 + 1))) (s6.2 136 (a_w (s6.1 + 2))) (s6.2 136 (a_w (s6.1 + 3))) s6.2) rfl rfl (fun H11 => ?_)
                    refine a_w13 (c' := 4) (lof := fun x1 => [some (2, 133), none, none, none, some (0, s3.1), some (0, x1)]) (Nat.le_succ _) ti_141_205 rfl (by decide) rfl (fun _ => rfl) (fun x1 => ?_)
                    refine a_w7 (Nat.le_succ _) ti_141_208 ?_
                    exact a_wk (hn158 (x1, H11)) (by omega) ⟨rfl, rfl, rfl, trivial⟩
            · exact a_wk (hj100 g3.2) (by omega) ⟨rfl, trivial⟩
      · refine a_w8_3 (Nat.le_succ _) ti_141_61 ?_ ?_
        · refine a_w0 (Nat.le_succ _) ti_141_68 rfl ?_
          refine a_w2 (z := 59) (Nat.le_succ _) ti_141_69 (by decide) ?_
          refine a_w3i (args := [(2, 133), (0, 59)]) (Nat.le_succ _) ti_141_71 (mt_133 59 s2.2) (fun _ => rfl) rfl rfl (fun g4 => ?_)
          refine a_w8_0 (Nat.le_succ _) ti_141_74 ?_ ?_
          · refine a_w2 (z := 0) (Nat.le_succ _) ti_141_85 (by decide) ?_
            exact a_wk (hj86 (0, g4.2)) (by omega) ⟨rfl, rfl, rfl, rfl, trivial⟩
          · refine a_w0 (Nat.le_succ _) ti_141_77 rfl ?_
            refine a_w0 (Nat.le_succ _) ti_141_78 rfl ?_
            refine a_w3i (args := [(2, 133), (0, g1.1)]) (Nat.le_succ _) ti_141_79 (mt_139 g1.1 g4.2) (fun _ => rfl) rfl rfl (fun g5 => ?_)
            refine a_w7 (Nat.le_succ _) ti_141_82 ?_
            exact a_wk (hj86 (g5.1, g5.2)) (by omega) ⟨rfl, rfl, rfl, rfl, trivial⟩
        · refine a_w2 (z := (-1)) (Nat.le_succ _) ti_141_64 (by decide) ?_
          refine a_w7 (Nat.le_succ _) ti_141_65 ?_
          exact a_wk (hj86 ((-1), s2.2)) (by omega) ⟨rfl, rfl, rfl, rfl, trivial⟩
    · refine a_w8_3 (Nat.le_succ _) ti_141_33 ?_ ?_
      · refine a_w0 (Nat.le_succ _) ti_141_40 rfl ?_
        refine a_w2 (z := 47) (Nat.le_succ _) ti_141_41 (by decide) ?_
        refine a_w3i (args := [(2, 133), (0, 47)]) (Nat.le_succ _) ti_141_43 (mt_133 47 s1.2) (fun _ => rfl) rfl rfl (fun g6 => ?_)
        refine a_w8_0 (Nat.le_succ _) ti_141_46 ?_ ?_
        · refine a_w2 (z := 0) (Nat.le_succ _) ti_141_58 (by decide) ?_
          exact a_wk (hj59 (0, g6.2)) (by omega) ⟨rfl, rfl, rfl, trivial⟩
        · refine a_w0 (Nat.le_succ _) ti_141_49 rfl ?_
          refine a_w2 (z := 63) (Nat.le_succ _) ti_141_50 (by decide) ?_
          refine a_w3i (args := [(2, 133), (0, 63)]) (Nat.le_succ _) ti_141_52 (mt_134 63 g6.2) (fun _ => rfl) rfl rfl (fun g7 => ?_)
          refine a_w7 (Nat.le_succ _) ti_141_55 ?_
          exact a_wk (hj59 (g7.1, g7.2)) (by omega) ⟨rfl, rfl, rfl, trivial⟩
      · refine a_w2 (z := (-1)) (Nat.le_succ _) ti_141_36 (by decide) ?_
        refine a_w7 (Nat.le_succ _) ti_141_37 ?_
        exact a_wk (hj59 ((-1), s1.2)) (by omega) ⟨rfl, rfl, rfl, trivial⟩
  · refine a_w8_3 (Nat.le_succ _) ti_141_19 ?_ ?_
    · refine a_w0 (Nat.le_succ _) ti_141_26 rfl ?_
      refine a_w2 (z := 0) (Nat.le_succ _) ti_141_27 (by decide) ?_
      refine a_w3i (args := [(2, 133), (0, 0)]) (Nat.le_succ _) ti_141_28 (mt_136 0 g1.2) (fun _ => rfl) rfl rfl (fun g8 => ?_)
      exact a_wk (hj31 (g8.1, g8.2)) (by omega) ⟨rfl, rfl, trivial⟩
    · refine a_w2 (z := (-1)) (Nat.le_succ _) ti_141_22 (by decide) ?_
      refine a_w7 (Nat.le_succ _) ti_141_23 ?_
      exact a_wk (hj31 ((-1), g1.2)) (by omega) ⟨rfl, rfl, trivial⟩
/-- CarriedGateModel.next(II)I -/
noncomputable def fn_112 (a0 : Int) (a1 : Int) : Int :=
  a_sw a1 0 ((-4)) [a_jn (fun (s1 : Int) => s1) fun j47 =>
  (if a0 < 6 then j47 (-4)
  else j47 (a_w (a0 - 6))),
  a_jn (fun (s2 : Int) => s2) fun j64 =>
  (if (a_rem a0 6) = 5 then j64 (-4)
  else j64 (a_w (a0 + 1))),
  a_jn (fun (s3 : Int) => s3) fun j80 =>
  (if 29 < a0 then j80 (-4)
  else j80 (a_w (a0 + 6))),
  a_jn (fun (s4 : Int) => s4) fun j96 =>
  (if (a_rem a0 6) = 0 then j96 (-4)
  else j96 (a_w (a0 - 1)))]
theorem ti_112_0 : (q_I 112).2 0 = some (0, 0, 0, 1, 0, 1, []) := rfl
theorem ti_112_1 : (q_I 112).2 1 = some (18, 4, 0, 97, 0, 32, [32, 48, 65, 81]) := rfl
theorem ti_112_97 : (q_I 112).2 97 = some (2, 1, (-4), 0, 0, 99, []) := rfl
theorem ti_112_99 : (q_I 112).2 99 = some (4, 0, 0, 0, 0, 100, []) := rfl
theorem ti_112_81 : (q_I 112).2 81 = some (0, 0, 0, 0, 0, 82, []) := rfl
theorem ti_112_82 : (q_I 112).2 82 = some (2, 1, 6, 0, 0, 84, []) := rfl
theorem ti_112_84 : (q_I 112).2 84 = some (6, 4, 0, 0, 0, 85, []) := rfl
theorem ti_112_85 : (q_I 112).2 85 = some (8, 1, 0, 93, 0, 88, []) := rfl
theorem ti_112_88 : (q_I 112).2 88 = some (2, 1, (-4), 0, 0, 90, []) := rfl
theorem ti_112_90 : (q_I 112).2 90 = some (7, 0, 0, 96, 0, 93, []) := rfl
theorem ti_112_93 : (q_I 112).2 93 = some (0, 0, 0, 0, 0, 94, []) := rfl
theorem ti_112_94 : (q_I 112).2 94 = some (2, 0, 1, 0, 0, 95, []) := rfl
theorem ti_112_95 : (q_I 112).2 95 = some (6, 1, 0, 0, 0, 96, []) := rfl
theorem ti_112_96 : (q_I 112).2 96 = some (4, 0, 0, 0, 0, 97, []) := rfl
theorem ti_112_65 : (q_I 112).2 65 = some (0, 0, 0, 0, 0, 66, []) := rfl
theorem ti_112_66 : (q_I 112).2 66 = some (2, 1, 29, 0, 0, 68, []) := rfl
theorem ti_112_68 : (q_I 112).2 68 = some (9, 5, 0, 76, 0, 71, []) := rfl
theorem ti_112_71 : (q_I 112).2 71 = some (2, 1, (-4), 0, 0, 73, []) := rfl
theorem ti_112_73 : (q_I 112).2 73 = some (7, 0, 0, 80, 0, 76, []) := rfl
theorem ti_112_76 : (q_I 112).2 76 = some (0, 0, 0, 0, 0, 77, []) := rfl
theorem ti_112_77 : (q_I 112).2 77 = some (2, 1, 6, 0, 0, 79, []) := rfl
theorem ti_112_79 : (q_I 112).2 79 = some (6, 0, 0, 0, 0, 80, []) := rfl
theorem ti_112_80 : (q_I 112).2 80 = some (4, 0, 0, 0, 0, 81, []) := rfl
theorem ti_112_48 : (q_I 112).2 48 = some (0, 0, 0, 0, 0, 49, []) := rfl
theorem ti_112_49 : (q_I 112).2 49 = some (2, 1, 6, 0, 0, 51, []) := rfl
theorem ti_112_51 : (q_I 112).2 51 = some (6, 4, 0, 0, 0, 52, []) := rfl
theorem ti_112_52 : (q_I 112).2 52 = some (2, 0, 5, 0, 0, 53, []) := rfl
theorem ti_112_53 : (q_I 112).2 53 = some (9, 1, 0, 61, 0, 56, []) := rfl
theorem ti_112_56 : (q_I 112).2 56 = some (2, 1, (-4), 0, 0, 58, []) := rfl
theorem ti_112_58 : (q_I 112).2 58 = some (7, 0, 0, 64, 0, 61, []) := rfl
theorem ti_112_61 : (q_I 112).2 61 = some (0, 0, 0, 0, 0, 62, []) := rfl
theorem ti_112_62 : (q_I 112).2 62 = some (2, 0, 1, 0, 0, 63, []) := rfl
theorem ti_112_63 : (q_I 112).2 63 = some (6, 0, 0, 0, 0, 64, []) := rfl
theorem ti_112_64 : (q_I 112).2 64 = some (4, 0, 0, 0, 0, 65, []) := rfl
theorem ti_112_32 : (q_I 112).2 32 = some (0, 0, 0, 0, 0, 33, []) := rfl
theorem ti_112_33 : (q_I 112).2 33 = some (2, 1, 6, 0, 0, 35, []) := rfl
theorem ti_112_35 : (q_I 112).2 35 = some (9, 3, 0, 43, 0, 38, []) := rfl
theorem ti_112_38 : (q_I 112).2 38 = some (2, 1, (-4), 0, 0, 40, []) := rfl
theorem ti_112_40 : (q_I 112).2 40 = some (7, 0, 0, 47, 0, 43, []) := rfl
theorem ti_112_43 : (q_I 112).2 43 = some (0, 0, 0, 0, 0, 44, []) := rfl
theorem ti_112_44 : (q_I 112).2 44 = some (2, 1, 6, 0, 0, 46, []) := rfl
theorem ti_112_46 : (q_I 112).2 46 = some (6, 1, 0, 0, 0, 47, []) := rfl
theorem ti_112_47 : (q_I 112).2 47 = some (4, 0, 0, 0, 0, 48, []) := rfl
theorem mt_112 (a0 : Int) (a1 : Int) (H : a_P) : a_mt (a_pp H) 0 112 [(0, a0), (0, a1)] H (fn_112 a0 a1) := by
  refine a_mtI (lo := [some (0, a0), some (0, a1)]) rfl fun d => ?_
  unfold fn_112
  refine a_w0 (Nat.le_succ _) ti_112_0 rfl ?_
  refine a_w18 (Nat.le_succ _) ti_112_1 rfl ⟨?_, ?_, ?_, ?_, trivial⟩ ?_
  · refine a_w0 (Nat.le_succ _) ti_112_32 rfl ?_
    refine a_w2 (z := 6) (Nat.le_succ _) ti_112_33 (by decide) ?_
    refine a_wjn 47 (fun (s : Int) => [none, none]) (fun (s : Int) => [(0, s)]) (fun (s : Int) => H) (fun s1 => ?_) (fun j47 hj47 => ?_)
    · exact a_w4 (Nat.le_succ _) ti_112_47 rfl rfl rfl
    · refine a_w9_3 (Nat.le_succ _) ti_112_35 ?_ ?_
      · refine a_w0 (Nat.le_succ _) ti_112_43 rfl ?_
        refine a_w2 (z := 6) (Nat.le_succ _) ti_112_44 (by decide) ?_
        refine a_w6 (a := (0, a_w (a0 - 6))) (Nat.le_succ _) ti_112_46 rfl ?_
        exact a_wk (hj47 (a_w (a0 - 6))) (by omega) trivial
      · refine a_w2 (z := (-4)) (Nat.le_succ _) ti_112_38 (by decide) ?_
        refine a_w7 (Nat.le_succ _) ti_112_40 ?_
        exact a_wk (hj47 (-4)) (by omega) trivial
  · refine a_w0 (Nat.le_succ _) ti_112_48 rfl ?_
    refine a_w2 (z := 6) (Nat.le_succ _) ti_112_49 (by decide) ?_
    refine a_w6 (a := (0, a_rem a0 6)) (Nat.le_succ _) ti_112_51 rfl ?_
    refine a_w2 (z := 5) (Nat.le_succ _) ti_112_52 (by decide) ?_
    refine a_wjn 64 (fun (s : Int) => [none, none]) (fun (s : Int) => [(0, s)]) (fun (s : Int) => H) (fun s2 => ?_) (fun j64 hj64 => ?_)
    · exact a_w4 (Nat.le_succ _) ti_112_64 rfl rfl rfl
    · refine a_w9_1 (Nat.le_succ _) ti_112_53 ?_ ?_
      · refine a_w0 (Nat.le_succ _) ti_112_61 rfl ?_
        refine a_w2 (z := 1) (Nat.le_succ _) ti_112_62 (by decide) ?_
        refine a_w6 (a := (0, a_w (a0 + 1))) (Nat.le_succ _) ti_112_63 rfl ?_
        exact a_wk (hj64 (a_w (a0 + 1))) (by omega) trivial
      · refine a_w2 (z := (-4)) (Nat.le_succ _) ti_112_56 (by decide) ?_
        refine a_w7 (Nat.le_succ _) ti_112_58 ?_
        exact a_wk (hj64 (-4)) (by omega) trivial
  · refine a_w0 (Nat.le_succ _) ti_112_65 rfl ?_
    refine a_w2 (z := 29) (Nat.le_succ _) ti_112_66 (by decide) ?_
    refine a_wjn 80 (fun (s : Int) => [none, none]) (fun (s : Int) => [(0, s)]) (fun (s : Int) => H) (fun s3 => ?_) (fun j80 hj80 => ?_)
    · exact a_w4 (Nat.le_succ _) ti_112_80 rfl rfl rfl
    · refine a_w9_5 (Nat.le_succ _) ti_112_68 ?_ ?_
      · refine a_w0 (Nat.le_succ _) ti_112_76 rfl ?_
        refine a_w2 (z := 6) (Nat.le_succ _) ti_112_77 (by decide) ?_
        refine a_w6 (a := (0, a_w (a0 + 6))) (Nat.le_succ _) ti_112_79 rfl ?_
        exact a_wk (hj80 (a_w (a0 + 6))) (by omega) trivial
      · refine a_w2 (z := (-4)) (Nat.le_succ _) ti_112_71 (by decide) ?_
        refine a_w7 (Nat.le_succ _) ti_112_73 ?_
        exact a_wk (hj80 (-4)) (by omega) trivial
  · refine a_w0 (Nat.le_succ _) ti_112_81 rfl ?_
    refine a_w2 (z := 6) (Nat.le_succ _) ti_112_82 (by decide) ?_
    refine a_w6 (a := (0, a_rem a0 6)) (Nat.le_succ _) ti_112_84 rfl ?_
    refine a_wjn 96 (fun (s : Int) => [none, none]) (fun (s : Int) => [(0, s)]) (fun (s : Int) => H) (fun s4 => ?_) (fun j96 hj96 => ?_)
    · exact a_w4 (Nat.le_succ _) ti_112_96 rfl rfl rfl
    · refine a_w8_1 (Nat.le_succ _) ti_112_85 ?_ ?_
      · refine a_w0 (Nat.le_succ _) ti_112_93 rfl ?_
        refine a_w2 (z := 1) (Nat.le_succ _) ti_112_94 (by decide) ?_
        refine a_w6 (a := (0, a_w (a0 - 1))) (Nat.le_succ _) ti_112_95 rfl ?_
        exact a_wk (hj96 (a_w (a0 - 1))) (by omega) trivial
      · refine a_w2 (z := (-4)) (Nat.le_succ _) ti_112_88 (by decide) ?_
        refine a_w7 (Nat.le_succ _) ti_112_90 ?_
        exact a_wk (hj96 (-4)) (by omega) trivial
  · refine a_w2 (z := (-4)) (Nat.le_succ _) ti_112_97 (by decide) ?_
    exact a_w4 (Nat.le_succ _) ti_112_99 rfl rfl rfl
/-- CarriedGateModel.walks(I)V -/
noncomputable def fn_121 (a1 : Int) (H : a_P) : a_P :=
  a_bd (H 134 (a_w (23 + a1))) fun x1 =>
  a_bd (fn_112 (H 134 (a_w (15 + a1))) x1) fun x2 =>
  a_jn (fun (s1 : a_P) => s1) fun j66 =>
  (if x2 = (-4) then a_jn (fun (s2 : Int) => a_bd (a_up H 134 (a_w (23 + a1)) s2) fun H2 =>
  j66 H2) fun j52 =>
  (if x1 = 4 then j52 4
  else j52 (a_rem (a_w (x1 + 2)) 4))
  else a_bd (a_up H 134 (a_w (15 + a1)) x2) fun H1 =>
  j66 H1)
theorem ti_121_0 : (q_I 121).2 0 = some (0, 4, 0, 0, 2, 1, []) := rfl
theorem ti_121_1 : (q_I 121).2 1 = some (1, 0, 7, 6, 0, 4, [795]) := rfl
theorem ti_121_4 : (q_I 121).2 4 = some (2, 1, 23, 0, 0, 6, []) := rfl
theorem ti_121_6 : (q_I 121).2 6 = some (0, 0, 0, 1, 0, 7, []) := rfl
theorem ti_121_7 : (q_I 121).2 7 = some (6, 0, 0, 0, 0, 8, []) := rfl
theorem ti_121_8 : (q_I 121).2 8 = some (5, 10, 0, 0, 0, 9, []) := rfl
theorem ti_121_9 : (q_I 121).2 9 = some (11, 0, 0, 2, 0, 10, []) := rfl
theorem ti_121_10 : (q_I 121).2 10 = some (0, 4, 0, 0, 2, 11, []) := rfl
theorem ti_121_11 : (q_I 121).2 11 = some (1, 0, 7, 6, 0, 14, [795]) := rfl
theorem ti_121_14 : (q_I 121).2 14 = some (2, 1, 15, 0, 0, 16, []) := rfl
theorem ti_121_16 : (q_I 121).2 16 = some (0, 0, 0, 1, 0, 17, []) := rfl
theorem ti_121_17 : (q_I 121).2 17 = some (6, 0, 0, 0, 0, 18, []) := rfl
theorem ti_121_18 : (q_I 121).2 18 = some (5, 10, 0, 0, 0, 19, []) := rfl
theorem ti_121_19 : (q_I 121).2 19 = some (0, 0, 0, 2, 0, 20, []) := rfl
theorem ti_121_20 : (q_I 121).2 20 = some (3, 1, 84, 112, 2, 23, [995, 6]) := rfl
theorem ti_121_23 : (q_I 121).2 23 = some (11, 0, 0, 3, 0, 24, []) := rfl
theorem ti_121_24 : (q_I 121).2 24 = some (0, 0, 0, 3, 0, 25, []) := rfl
theorem ti_121_25 : (q_I 121).2 25 = some (2, 1, (-4), 0, 0, 27, []) := rfl
theorem ti_121_27 : (q_I 121).2 27 = some (9, 1, 0, 56, 0, 30, []) := rfl
theorem ti_121_30 : (q_I 121).2 30 = some (0, 4, 0, 0, 2, 31, []) := rfl
theorem ti_121_31 : (q_I 121).2 31 = some (1, 0, 7, 6, 0, 34, [795]) := rfl
theorem ti_121_34 : (q_I 121).2 34 = some (2, 1, 23, 0, 0, 36, []) := rfl
theorem ti_121_36 : (q_I 121).2 36 = some (0, 0, 0, 1, 0, 37, []) := rfl
theorem ti_121_37 : (q_I 121).2 37 = some (6, 0, 0, 0, 0, 38, []) := rfl
theorem ti_121_38 : (q_I 121).2 38 = some (0, 0, 0, 2, 0, 39, []) := rfl
theorem ti_121_39 : (q_I 121).2 39 = some (2, 0, 4, 0, 0, 40, []) := rfl
theorem ti_121_40 : (q_I 121).2 40 = some (9, 1, 0, 47, 0, 43, []) := rfl
theorem ti_121_43 : (q_I 121).2 43 = some (2, 0, 4, 0, 0, 44, []) := rfl
theorem ti_121_44 : (q_I 121).2 44 = some (7, 0, 0, 52, 0, 47, []) := rfl
theorem ti_121_47 : (q_I 121).2 47 = some (0, 0, 0, 2, 0, 48, []) := rfl
theorem ti_121_48 : (q_I 121).2 48 = some (2, 0, 2, 0, 0, 49, []) := rfl
theorem ti_121_49 : (q_I 121).2 49 = some (6, 0, 0, 0, 0, 50, []) := rfl
theorem ti_121_50 : (q_I 121).2 50 = some (2, 0, 4, 0, 0, 51, []) := rfl
theorem ti_121_51 : (q_I 121).2 51 = some (6, 4, 0, 0, 0, 52, []) := rfl
theorem ti_121_52 : (q_I 121).2 52 = some (12, 10, 0, 0, 0, 53, []) := rfl
theorem ti_121_53 : (q_I 121).2 53 = some (7, 0, 0, 66, 0, 56, []) := rfl
theorem ti_121_56 : (q_I 121).2 56 = some (0, 4, 0, 0, 2, 57, []) := rfl
theorem ti_121_57 : (q_I 121).2 57 = some (1, 0, 7, 6, 0, 60, [795]) := rfl
theorem ti_121_60 : (q_I 121).2 60 = some (2, 1, 15, 0, 0, 62, []) := rfl
theorem ti_121_62 : (q_I 121).2 62 = some (0, 0, 0, 1, 0, 63, []) := rfl
theorem ti_121_63 : (q_I 121).2 63 = some (6, 0, 0, 0, 0, 64, []) := rfl
theorem ti_121_64 : (q_I 121).2 64 = some (0, 0, 0, 3, 0, 65, []) := rfl
theorem ti_121_65 : (q_I 121).2 65 = some (12, 10, 0, 0, 0, 66, []) := rfl
theorem ti_121_66 : (q_I 121).2 66 = some (4, 4, 0, 0, 0, 67, []) := rfl
theorem mt_121 (a1 : Int) (H : a_P) : a_mt a_pv 9 121 [(2, 133), (0, a1)] H (fn_121 a1 H) := by
  refine a_mtI (lo := [some (2, 133), some (0, a1), none, none]) rfl fun d => ?_
  unfold fn_121
  refine a_w0 (Nat.le_succ _) ti_121_0 rfl ?_
  refine a_w1 (a := (2, 134)) (Nat.le_succ _) ti_121_1 rfl ?_
  refine a_w2 (z := 23) (Nat.le_succ _) ti_121_4 (by decide) ?_
  refine a_w0 (Nat.le_succ _) ti_121_6 rfl ?_
  refine a_w6 (a := (0, a_w (23 + a1))) (Nat.le_succ _) ti_121_7 rfl ?_
  refine a_w5 (kk := 0) (Nat.le_succ _) ti_121_8 (fun _ => rfl) ?_
  refine a_w11b (lof := fun x1 => [some (2, 133), some (0, a1), some (0, x1), none]) (Nat.le_succ _) ti_121_9 (fun _ => rfl) (fun x1 => ?_)
  refine a_w0 (Nat.le_succ _) ti_121_10 rfl ?_
  refine a_w1 (a := (2, 134)) (Nat.le_succ _) ti_121_11 rfl ?_
  refine a_w2 (z := 15) (Nat.le_succ _) ti_121_14 (by decide) ?_
  refine a_w0 (Nat.le_succ _) ti_121_16 rfl ?_
  refine a_w6 (a := (0, a_w (15 + a1))) (Nat.le_succ _) ti_121_17 rfl ?_
  refine a_w5 (kk := 0) (Nat.le_succ _) ti_121_18 (fun _ => rfl) ?_
  refine a_w0 (Nat.le_succ _) ti_121_19 rfl ?_
  refine a_w3p (args := [(0, H 134 (a_w (15 + a1))), (0, x1)]) (Nat.le_succ _) ti_121_20 (mt_112 (H 134 (a_w (15 + a1))) x1 H) rfl rfl rfl rfl ?_
  refine a_w11b (lof := fun x2 => [some (2, 133), some (0, a1), some (0, x1), some (0, x2)]) (Nat.le_succ _) ti_121_23 (fun _ => rfl) (fun x2 => ?_)
  refine a_w0 (Nat.le_succ _) ti_121_24 rfl ?_
  refine a_w2 (z := (-4)) (Nat.le_succ _) ti_121_25 (by decide) ?_
  refine a_wjn 66 (fun (s : a_P) => [none, none, none, none]) (fun (s : a_P) => []) (fun (s : a_P) => s) (fun s1 => ?_) (fun j66 hj66 => ?_)
  · exact a_w4v (Nat.le_succ _) ti_121_66 rfl rfl
  · refine a_w9_1 (Nat.le_succ _) ti_121_27 ?_ ?_
    · refine a_w0 (Nat.le_succ _) ti_121_56 rfl ?_
      refine a_w1 (a := (2, 134)) (Nat.le_succ _) ti_121_57 rfl ?_
      refine a_w2 (z := 15) (Nat.le_succ _) ti_121_60 (by decide) ?_
      refine a_w0 (Nat.le_succ _) ti_121_62 rfl ?_
      refine a_w6 (a := (0, a_w (15 + a1))) (Nat.le_succ _) ti_121_63 rfl ?_
      refine a_w0 (Nat.le_succ _) ti_121_64 rfl ?_
      refine a_w12 (Nat.le_succ _) ti_121_65 (Or.inl ⟨rfl, rfl⟩) (fun H1 => ?_)
      exact a_wk (hj66 H1) (by omega) trivial
    · refine a_w0 (Nat.le_succ _) ti_121_30 rfl ?_
      refine a_w1 (a := (2, 134)) (Nat.le_succ _) ti_121_31 rfl ?_
      refine a_w2 (z := 23) (Nat.le_succ _) ti_121_34 (by decide) ?_
      refine a_w0 (Nat.le_succ _) ti_121_36 rfl ?_
      refine a_w6 (a := (0, a_w (23 + a1))) (Nat.le_succ _) ti_121_37 rfl ?_
      refine a_w0 (Nat.le_succ _) ti_121_38 rfl ?_
      refine a_w2 (z := 4) (Nat.le_succ _) ti_121_39 (by decide) ?_
      refine a_wjn 52 (fun (s : Int) => [none, none, none, none]) (fun (s : Int) => [(0, s), (0, a_w (23 + a1)), (2, 134)]) (fun (s : Int) => H) (fun s2 => ?_) (fun j52 hj52 => ?_)
      · refine a_w12 (Nat.le_succ _) ti_121_52 (Or.inl ⟨rfl, rfl⟩) (fun H2 => ?_)
        refine a_w7 (Nat.le_succ _) ti_121_53 ?_
        exact a_wk (hj66 H2) (by omega) trivial
      · refine a_w9_1 (Nat.le_succ _) ti_121_40 ?_ ?_
        · refine a_w0 (Nat.le_succ _) ti_121_47 rfl ?_
          refine a_w2 (z := 2) (Nat.le_succ _) ti_121_48 (by decide) ?_
          refine a_w6 (a := (0, a_w (x1 + 2))) (Nat.le_succ _) ti_121_49 rfl ?_
          refine a_w2 (z := 4) (Nat.le_succ _) ti_121_50 (by decide) ?_
          refine a_w6 (a := (0, a_rem (a_w (x1 + 2)) 4)) (Nat.le_succ _) ti_121_51 rfl ?_
          exact a_wk (hj52 (a_rem (a_w (x1 + 2)) 4)) (by omega) trivial
        · refine a_w2 (z := 4) (Nat.le_succ _) ti_121_43 (by decide) ?_
          refine a_w7 (Nat.le_succ _) ti_121_44 ?_
          exact a_wk (hj52 4) (by omega) trivial
/-- CarriedGateModel.wetsBy(I)I -/
noncomputable def fn_122 (a1 : Int) (H : a_P) : Int :=
  a_bd (H 134 (a_w (7 + a1))) fun x1 =>
  a_jn (fun (s1 : Int) => s1) fun j39 =>
  a_jn (fun (s2 : Unit) => j39 2) fun j34 =>
  (if x1 = 2 then j34 ()
  else a_jn (fun (s3 : Unit) => j39 1) fun j38 =>
  (if x1 = 4 then (if (a_rem (H 134 (a_w (39 + a1))) 2) = 0 then j34 ()
  else j38 ())
  else j38 ()))
theorem ti_122_0 : (q_I 122).2 0 = some (0, 4, 0, 0, 2, 1, []) := rfl
theorem ti_122_1 : (q_I 122).2 1 = some (1, 0, 7, 6, 0, 4, [795]) := rfl
theorem ti_122_4 : (q_I 122).2 4 = some (2, 1, 7, 0, 0, 6, []) := rfl
theorem ti_122_6 : (q_I 122).2 6 = some (0, 0, 0, 1, 0, 7, []) := rfl
theorem ti_122_7 : (q_I 122).2 7 = some (6, 0, 0, 0, 0, 8, []) := rfl
theorem ti_122_8 : (q_I 122).2 8 = some (5, 10, 0, 0, 0, 9, []) := rfl
theorem ti_122_9 : (q_I 122).2 9 = some (11, 0, 0, 2, 0, 10, []) := rfl
theorem ti_122_10 : (q_I 122).2 10 = some (0, 0, 0, 2, 0, 11, []) := rfl
theorem ti_122_11 : (q_I 122).2 11 = some (2, 0, 2, 0, 0, 12, []) := rfl
theorem ti_122_12 : (q_I 122).2 12 = some (9, 0, 0, 34, 0, 15, []) := rfl
theorem ti_122_15 : (q_I 122).2 15 = some (0, 0, 0, 2, 0, 16, []) := rfl
theorem ti_122_16 : (q_I 122).2 16 = some (2, 0, 4, 0, 0, 17, []) := rfl
theorem ti_122_17 : (q_I 122).2 17 = some (9, 1, 0, 38, 0, 20, []) := rfl
theorem ti_122_20 : (q_I 122).2 20 = some (0, 4, 0, 0, 2, 21, []) := rfl
theorem ti_122_21 : (q_I 122).2 21 = some (1, 0, 7, 6, 0, 24, [795]) := rfl
theorem ti_122_24 : (q_I 122).2 24 = some (2, 1, 39, 0, 0, 26, []) := rfl
theorem ti_122_26 : (q_I 122).2 26 = some (0, 0, 0, 1, 0, 27, []) := rfl
theorem ti_122_27 : (q_I 122).2 27 = some (6, 0, 0, 0, 0, 28, []) := rfl
theorem ti_122_28 : (q_I 122).2 28 = some (5, 10, 0, 0, 0, 29, []) := rfl
theorem ti_122_29 : (q_I 122).2 29 = some (2, 0, 2, 0, 0, 30, []) := rfl
theorem ti_122_30 : (q_I 122).2 30 = some (6, 4, 0, 0, 0, 31, []) := rfl
theorem ti_122_31 : (q_I 122).2 31 = some (8, 1, 0, 38, 0, 34, []) := rfl
theorem ti_122_38 : (q_I 122).2 38 = some (2, 0, 1, 0, 0, 39, []) := rfl
theorem ti_122_34 : (q_I 122).2 34 = some (2, 0, 2, 0, 0, 35, []) := rfl
theorem ti_122_35 : (q_I 122).2 35 = some (7, 0, 0, 39, 0, 38, []) := rfl
theorem ti_122_39 : (q_I 122).2 39 = some (4, 0, 0, 0, 0, 40, []) := rfl
theorem mt_122 (a1 : Int) (H : a_P) : a_mt (a_pp H) 0 122 [(2, 133), (0, a1)] H (fn_122 a1 H) := by
  refine a_mtI (lo := [some (2, 133), some (0, a1), none]) rfl fun d => ?_
  unfold fn_122
  refine a_w0 (Nat.le_succ _) ti_122_0 rfl ?_
  refine a_w1 (a := (2, 134)) (Nat.le_succ _) ti_122_1 rfl ?_
  refine a_w2 (z := 7) (Nat.le_succ _) ti_122_4 (by decide) ?_
  refine a_w0 (Nat.le_succ _) ti_122_6 rfl ?_
  refine a_w6 (a := (0, a_w (7 + a1))) (Nat.le_succ _) ti_122_7 rfl ?_
  refine a_w5 (kk := 0) (Nat.le_succ _) ti_122_8 (fun _ => rfl) ?_
  refine a_w11b (lof := fun x1 => [some (2, 133), some (0, a1), some (0, x1)]) (Nat.le_succ _) ti_122_9 (fun _ => rfl) (fun x1 => ?_)
  refine a_w0 (Nat.le_succ _) ti_122_10 rfl ?_
  refine a_w2 (z := 2) (Nat.le_succ _) ti_122_11 (by decide) ?_
  refine a_wjn 39 (fun (s : Int) => [none, none, none]) (fun (s : Int) => [(0, s)]) (fun (s : Int) => H) (fun s1 => ?_) (fun j39 hj39 => ?_)
  · exact a_w4 (Nat.le_succ _) ti_122_39 rfl rfl rfl
  · refine a_wjn 34 (fun (s : Unit) => [none, none, none]) (fun (s : Unit) => []) (fun (s : Unit) => H) (fun s2 => ?_) (fun j34 hj34 => ?_)
    · refine a_w2 (z := 2) (Nat.le_succ _) ti_122_34 (by decide) ?_
      refine a_w7 (Nat.le_succ _) ti_122_35 ?_
      exact a_wk (hj39 2) (by omega) trivial
    · refine a_w9_0 (Nat.le_succ _) ti_122_12 ?_ ?_
      · exact a_wk (hj34 ()) (by omega) trivial
      · refine a_w0 (Nat.le_succ _) ti_122_15 rfl ?_
        refine a_w2 (z := 4) (Nat.le_succ _) ti_122_16 (by decide) ?_
        refine a_wjn 38 (fun (s : Unit) => [none, none, none]) (fun (s : Unit) => []) (fun (s : Unit) => H) (fun s3 => ?_) (fun j38 hj38 => ?_)
        · refine a_w2 (z := 1) (Nat.le_succ _) ti_122_38 (by decide) ?_
          exact a_wk (hj39 1) (by omega) trivial
        · refine a_w9_1 (Nat.le_succ _) ti_122_17 ?_ ?_
          · exact a_wk (hj38 ()) (by omega) trivial
          · refine a_w0 (Nat.le_succ _) ti_122_20 rfl ?_
            refine a_w1 (a := (2, 134)) (Nat.le_succ _) ti_122_21 rfl ?_
            refine a_w2 (z := 39) (Nat.le_succ _) ti_122_24 (by decide) ?_
            refine a_w0 (Nat.le_succ _) ti_122_26 rfl ?_
            refine a_w6 (a := (0, a_w (39 + a1))) (Nat.le_succ _) ti_122_27 rfl ?_
            refine a_w5 (kk := 0) (Nat.le_succ _) ti_122_28 (fun _ => rfl) ?_
            refine a_w2 (z := 2) (Nat.le_succ _) ti_122_29 (by decide) ?_
            refine a_w6 (a := (0, a_rem (H 134 (a_w (39 + a1))) 2)) (Nat.le_succ _) ti_122_30 rfl ?_
            refine a_w8_1 (Nat.le_succ _) ti_122_31 ?_ ?_
            · exact a_wk (hj38 ()) (by omega) trivial
            · exact a_wk (hj34 ()) (by omega) trivial
/-- CarriedGateModel.passes(Z)V -/
noncomputable def fn_123 (a1 : Int) (H : a_P) : a_P :=
  a_jn (fun (s1 : a_P) => a_bd (fn_120 s1) fun x1 =>
  a_jn (fun (s2 : a_P) => a_bd (s2 134 3) fun x2 =>
  a_jn (fun (s3 : a_P) => a_jn (fun (s4 : a_P) => a_bd (a_up s4 134 5 (a_w ((s4 134 5) + 1))) fun H1 =>
  H1) fun j209 =>
  (if x2 = (-4) then j209 s3
  else (if (s3 134 (a_w (31 + x2))) = 0 then a_bd (a_up s3 134 3 (-4)) fun H2 =>
  j209 H2
  else j209 s3))) fun j183 =>
  a_lp (fun (s5 : Int × a_P) => s5.2) (fun (s5 : Int × a_P) n118 => (if s5.1 < (s5.2 134 0) then a_jn (fun (s6 : Int) => a_bd (a_w ((s5.2 134 (a_w (31 + s5.1))) + s6)) fun x3 =>
  a_jn (fun (s7 : Int) => a_bd (a_up s5.2 134 (a_w (31 + s5.1)) s7) fun H3 =>
  a_bd (a_w (s5.1 + 1)) fun x4 =>
  n118 (x4, H3)) fun j176 =>
  (if 20 < x3 then j176 20
  else j176 x3)) fun j150 =>
  (if s5.1 = x2 then j150 (-1)
  else j150 1)
  else j183 s5.2)) a_fuel (0, s2)) fun j108 =>
  a_lp (fun (s8 : Int × a_P) => s8.2) (fun (s8 : Int × a_P) n40 => (if s8.1 < (s8.2 134 0) then a_jn (fun (s9 : a_P) => a_bd (a_w (s8.1 + 1)) fun x5 =>
  n40 (x5, s9)) fun j102 =>
  (if a1 = 0 then j102 s8.2
  else (if (a_and (a_shr x1 s8.1) 1) = 0 then a_bd (a_w ((s8.2 134 (a_w (39 + s8.1))) + (fn_122 s8.1 s8.2))) fun x6 =>
  a_jn (fun (s10 : Int) => a_bd (a_up s8.2 134 (a_w (39 + s8.1)) s10) fun H4 =>
  j102 H4) fun j101 =>
  (if 99 < x6 then j101 99
  else j101 x6)
  else j102 s8.2))
  else j108 s8.2)) a_fuel (0, s1)) fun j33 =>
  a_lp (fun (s11 : Int × a_P) => s11.2) (fun (s11 : Int × a_P) n2 => (if s11.1 < (s11.2 134 0) then a_jn (fun (s12 : a_P) => a_bd (a_w (s11.1 + 1)) fun x7 =>
  n2 (x7, s12)) fun j27 =>
  (if s11.1 = (s11.2 134 3) then j27 s11.2
  else a_bd (fn_121 s11.1 s11.2) fun H5 =>
  j27 H5)
  else j33 s11.2)) a_fuel (0, H)
theorem ti_123_0 : (q_I 123).2 0 = some (2, 0, 0, 0, 0, 1, []) := rfl
theorem ti_123_1 : (q_I 123).2 1 = some (11, 0, 0, 2, 0, 2, []) := rfl
theorem ti_123_2 : (q_I 123).2 2 = some (0, 0, 0, 2, 0, 3, []) := rfl
theorem ti_123_3 : (q_I 123).2 3 = some (0, 4, 0, 0, 2, 4, []) := rfl
theorem ti_123_4 : (q_I 123).2 4 = some (1, 0, 7, 6, 0, 7, [795]) := rfl
theorem ti_123_7 : (q_I 123).2 7 = some (2, 0, 0, 0, 0, 8, []) := rfl
theorem ti_123_8 : (q_I 123).2 8 = some (5, 10, 0, 0, 0, 9, []) := rfl
theorem ti_123_9 : (q_I 123).2 9 = some (9, 3, 0, 33, 0, 12, []) := rfl
theorem ti_123_12 : (q_I 123).2 12 = some (0, 0, 0, 2, 0, 13, []) := rfl
theorem ti_123_13 : (q_I 123).2 13 = some (0, 4, 0, 0, 2, 14, []) := rfl
theorem ti_123_14 : (q_I 123).2 14 = some (1, 0, 7, 6, 0, 17, [795]) := rfl
theorem ti_123_17 : (q_I 123).2 17 = some (2, 0, 3, 0, 0, 18, []) := rfl
theorem ti_123_18 : (q_I 123).2 18 = some (5, 10, 0, 0, 0, 19, []) := rfl
theorem ti_123_19 : (q_I 123).2 19 = some (9, 0, 0, 27, 0, 22, []) := rfl
theorem ti_123_22 : (q_I 123).2 22 = some (0, 4, 0, 0, 2, 23, []) := rfl
theorem ti_123_23 : (q_I 123).2 23 = some (0, 0, 0, 2, 0, 24, []) := rfl
theorem ti_123_24 : (q_I 123).2 24 = some (3, 0, 87, 121, 2, 27, [991, 6]) := rfl
theorem ti_123_27 : (q_I 123).2 27 = some (13, 0, 1, 2, 0, 30, []) := rfl
theorem ti_123_30 : (q_I 123).2 30 = some (7, 0, 0, 2, 0, 33, []) := rfl
theorem ti_123_33 : (q_I 123).2 33 = some (0, 4, 0, 0, 2, 34, []) := rfl
theorem ti_123_34 : (q_I 123).2 34 = some (3, 0, 91, 120, 1, 37, [887, 6]) := rfl
theorem ti_123_37 : (q_I 123).2 37 = some (11, 0, 0, 2, 0, 38, []) := rfl
theorem ti_123_38 : (q_I 123).2 38 = some (2, 0, 0, 0, 0, 39, []) := rfl
theorem ti_123_39 : (q_I 123).2 39 = some (11, 0, 0, 3, 0, 40, []) := rfl
theorem ti_123_40 : (q_I 123).2 40 = some (0, 0, 0, 3, 0, 41, []) := rfl
theorem ti_123_41 : (q_I 123).2 41 = some (0, 4, 0, 0, 2, 42, []) := rfl
theorem ti_123_42 : (q_I 123).2 42 = some (1, 0, 7, 6, 0, 45, [795]) := rfl
theorem ti_123_45 : (q_I 123).2 45 = some (2, 0, 0, 0, 0, 46, []) := rfl
theorem ti_123_46 : (q_I 123).2 46 = some (5, 10, 0, 0, 0, 47, []) := rfl
theorem ti_123_47 : (q_I 123).2 47 = some (9, 3, 0, 108, 0, 50, []) := rfl
theorem ti_123_50 : (q_I 123).2 50 = some (0, 0, 0, 1, 0, 51, []) := rfl
theorem ti_123_51 : (q_I 123).2 51 = some (8, 0, 0, 102, 0, 54, []) := rfl
theorem ti_123_54 : (q_I 123).2 54 = some (0, 0, 0, 2, 0, 55, []) := rfl
theorem ti_123_55 : (q_I 123).2 55 = some (0, 0, 0, 3, 0, 56, []) := rfl
theorem ti_123_56 : (q_I 123).2 56 = some (6, 9, 0, 0, 0, 57, []) := rfl
theorem ti_123_57 : (q_I 123).2 57 = some (2, 0, 1, 0, 0, 58, []) := rfl
theorem ti_123_58 : (q_I 123).2 58 = some (6, 5, 0, 0, 0, 59, []) := rfl
theorem ti_123_59 : (q_I 123).2 59 = some (8, 1, 0, 102, 0, 62, []) := rfl
theorem ti_123_62 : (q_I 123).2 62 = some (0, 4, 0, 0, 2, 63, []) := rfl
theorem ti_123_63 : (q_I 123).2 63 = some (1, 0, 7, 6, 0, 66, [795]) := rfl
theorem ti_123_66 : (q_I 123).2 66 = some (2, 1, 39, 0, 0, 68, []) := rfl
theorem ti_123_68 : (q_I 123).2 68 = some (0, 0, 0, 3, 0, 69, []) := rfl
theorem ti_123_69 : (q_I 123).2 69 = some (6, 0, 0, 0, 0, 70, []) := rfl
theorem ti_123_70 : (q_I 123).2 70 = some (5, 10, 0, 0, 0, 71, []) := rfl
theorem ti_123_71 : (q_I 123).2 71 = some (0, 4, 0, 0, 2, 72, []) := rfl
theorem ti_123_72 : (q_I 123).2 72 = some (0, 0, 0, 3, 0, 73, []) := rfl
theorem ti_123_73 : (q_I 123).2 73 = some (3, 0, 94, 122, 2, 76, [998, 6]) := rfl
theorem ti_123_76 : (q_I 123).2 76 = some (6, 0, 0, 0, 0, 77, []) := rfl
theorem ti_123_77 : (q_I 123).2 77 = some (11, 1, 0, 4, 0, 79, []) := rfl
theorem ti_123_79 : (q_I 123).2 79 = some (0, 4, 0, 0, 2, 80, []) := rfl
theorem ti_123_80 : (q_I 123).2 80 = some (1, 0, 7, 6, 0, 83, [795]) := rfl
theorem ti_123_83 : (q_I 123).2 83 = some (2, 1, 39, 0, 0, 85, []) := rfl
theorem ti_123_85 : (q_I 123).2 85 = some (0, 0, 0, 3, 0, 86, []) := rfl
theorem ti_123_86 : (q_I 123).2 86 = some (6, 0, 0, 0, 0, 87, []) := rfl
theorem ti_123_87 : (q_I 123).2 87 = some (0, 1, 0, 4, 0, 89, []) := rfl
theorem ti_123_89 : (q_I 123).2 89 = some (2, 1, 99, 0, 0, 91, []) := rfl
theorem ti_123_91 : (q_I 123).2 91 = some (9, 5, 0, 99, 0, 94, []) := rfl
theorem ti_123_94 : (q_I 123).2 94 = some (2, 1, 99, 0, 0, 96, []) := rfl
theorem ti_123_96 : (q_I 123).2 96 = some (7, 0, 0, 101, 0, 99, []) := rfl
theorem ti_123_99 : (q_I 123).2 99 = some (0, 1, 0, 4, 0, 101, []) := rfl
theorem ti_123_101 : (q_I 123).2 101 = some (12, 10, 0, 0, 0, 102, []) := rfl
theorem ti_123_102 : (q_I 123).2 102 = some (13, 0, 1, 3, 0, 105, []) := rfl
theorem ti_123_105 : (q_I 123).2 105 = some (7, 0, 0, 40, 0, 108, []) := rfl
theorem ti_123_108 : (q_I 123).2 108 = some (0, 4, 0, 0, 2, 109, []) := rfl
theorem ti_123_109 : (q_I 123).2 109 = some (1, 0, 7, 6, 0, 112, [795]) := rfl
theorem ti_123_112 : (q_I 123).2 112 = some (2, 0, 3, 0, 0, 113, []) := rfl
theorem ti_123_113 : (q_I 123).2 113 = some (5, 10, 0, 0, 0, 114, []) := rfl
theorem ti_123_114 : (q_I 123).2 114 = some (11, 0, 0, 3, 0, 115, []) := rfl
theorem ti_123_115 : (q_I 123).2 115 = some (2, 0, 0, 0, 0, 116, []) := rfl
theorem ti_123_116 : (q_I 123).2 116 = some (11, 1, 0, 4, 0, 118, []) := rfl
theorem ti_123_118 : (q_I 123).2 118 = some (0, 1, 0, 4, 0, 120, []) := rfl
theorem ti_123_120 : (q_I 123).2 120 = some (0, 4, 0, 0, 2, 121, []) := rfl
theorem ti_123_121 : (q_I 123).2 121 = some (1, 0, 7, 6, 0, 124, [795]) := rfl
theorem ti_123_124 : (q_I 123).2 124 = some (2, 0, 0, 0, 0, 125, []) := rfl
theorem ti_123_125 : (q_I 123).2 125 = some (5, 10, 0, 0, 0, 126, []) := rfl
theorem ti_123_126 : (q_I 123).2 126 = some (9, 3, 0, 183, 0, 129, []) := rfl
theorem ti_123_129 : (q_I 123).2 129 = some (0, 4, 0, 0, 2, 130, []) := rfl
theorem ti_123_130 : (q_I 123).2 130 = some (1, 0, 7, 6, 0, 133, [795]) := rfl
theorem ti_123_133 : (q_I 123).2 133 = some (2, 1, 31, 0, 0, 135, []) := rfl
theorem ti_123_135 : (q_I 123).2 135 = some (0, 1, 0, 4, 0, 137, []) := rfl
theorem ti_123_137 : (q_I 123).2 137 = some (6, 0, 0, 0, 0, 138, []) := rfl
theorem ti_123_138 : (q_I 123).2 138 = some (5, 10, 0, 0, 0, 139, []) := rfl
theorem ti_123_139 : (q_I 123).2 139 = some (0, 1, 0, 4, 0, 141, []) := rfl
theorem ti_123_141 : (q_I 123).2 141 = some (0, 0, 0, 3, 0, 142, []) := rfl
theorem ti_123_142 : (q_I 123).2 142 = some (9, 1, 0, 149, 0, 145, []) := rfl
theorem ti_123_145 : (q_I 123).2 145 = some (2, 0, (-1), 0, 0, 146, []) := rfl
theorem ti_123_146 : (q_I 123).2 146 = some (7, 0, 0, 150, 0, 149, []) := rfl
theorem ti_123_149 : (q_I 123).2 149 = some (2, 0, 1, 0, 0, 150, []) := rfl
theorem ti_123_150 : (q_I 123).2 150 = some (6, 0, 0, 0, 0, 151, []) := rfl
theorem ti_123_151 : (q_I 123).2 151 = some (11, 1, 0, 5, 0, 153, []) := rfl
theorem ti_123_153 : (q_I 123).2 153 = some (0, 4, 0, 0, 2, 154, []) := rfl
theorem ti_123_154 : (q_I 123).2 154 = some (1, 0, 7, 6, 0, 157, [795]) := rfl
theorem ti_123_157 : (q_I 123).2 157 = some (2, 1, 31, 0, 0, 159, []) := rfl
theorem ti_123_159 : (q_I 123).2 159 = some (0, 1, 0, 4, 0, 161, []) := rfl
theorem ti_123_161 : (q_I 123).2 161 = some (6, 0, 0, 0, 0, 162, []) := rfl
theorem ti_123_162 : (q_I 123).2 162 = some (0, 1, 0, 5, 0, 164, []) := rfl
theorem ti_123_164 : (q_I 123).2 164 = some (2, 1, 20, 0, 0, 166, []) := rfl
theorem ti_123_166 : (q_I 123).2 166 = some (9, 5, 0, 174, 0, 169, []) := rfl
theorem ti_123_169 : (q_I 123).2 169 = some (2, 1, 20, 0, 0, 171, []) := rfl
theorem ti_123_171 : (q_I 123).2 171 = some (7, 0, 0, 176, 0, 174, []) := rfl
theorem ti_123_174 : (q_I 123).2 174 = some (0, 1, 0, 5, 0, 176, []) := rfl
theorem ti_123_176 : (q_I 123).2 176 = some (12, 10, 0, 0, 0, 177, []) := rfl
theorem ti_123_177 : (q_I 123).2 177 = some (13, 0, 1, 4, 0, 180, []) := rfl
theorem ti_123_180 : (q_I 123).2 180 = some (7, 0, 0, 118, 0, 183, []) := rfl
theorem ti_123_183 : (q_I 123).2 183 = some (0, 0, 0, 3, 0, 184, []) := rfl
theorem ti_123_184 : (q_I 123).2 184 = some (2, 1, (-4), 0, 0, 186, []) := rfl
theorem ti_123_186 : (q_I 123).2 186 = some (9, 0, 0, 209, 0, 189, []) := rfl
theorem ti_123_189 : (q_I 123).2 189 = some (0, 4, 0, 0, 2, 190, []) := rfl
theorem ti_123_190 : (q_I 123).2 190 = some (1, 0, 7, 6, 0, 193, [795]) := rfl
theorem ti_123_193 : (q_I 123).2 193 = some (2, 1, 31, 0, 0, 195, []) := rfl
theorem ti_123_195 : (q_I 123).2 195 = some (0, 0, 0, 3, 0, 196, []) := rfl
theorem ti_123_196 : (q_I 123).2 196 = some (6, 0, 0, 0, 0, 197, []) := rfl
theorem ti_123_197 : (q_I 123).2 197 = some (5, 10, 0, 0, 0, 198, []) := rfl
theorem ti_123_198 : (q_I 123).2 198 = some (8, 1, 0, 209, 0, 201, []) := rfl
theorem ti_123_201 : (q_I 123).2 201 = some (0, 4, 0, 0, 2, 202, []) := rfl
theorem ti_123_202 : (q_I 123).2 202 = some (1, 0, 7, 6, 0, 205, [795]) := rfl
theorem ti_123_205 : (q_I 123).2 205 = some (2, 0, 3, 0, 0, 206, []) := rfl
theorem ti_123_206 : (q_I 123).2 206 = some (2, 1, (-4), 0, 0, 208, []) := rfl
theorem ti_123_208 : (q_I 123).2 208 = some (12, 10, 0, 0, 0, 209, []) := rfl
theorem ti_123_209 : (q_I 123).2 209 = some (0, 4, 0, 0, 2, 210, []) := rfl
theorem ti_123_210 : (q_I 123).2 210 = some (1, 0, 7, 6, 0, 213, [795]) := rfl
theorem ti_123_213 : (q_I 123).2 213 = some (2, 0, 5, 0, 0, 214, []) := rfl
theorem ti_123_214 : (q_I 123).2 214 = some (17, 0, 0, 0, 0, 215, []) := rfl
theorem ti_123_215 : (q_I 123).2 215 = some (5, 10, 0, 0, 0, 216, []) := rfl
theorem ti_123_216 : (q_I 123).2 216 = some (2, 0, 1, 0, 0, 217, []) := rfl
theorem ti_123_217 : (q_I 123).2 217 = some (6, 0, 0, 0, 0, 218, []) := rfl
theorem ti_123_218 : (q_I 123).2 218 = some (12, 10, 0, 0, 0, 219, []) := rfl
theorem ti_123_219 : (q_I 123).2 219 = some (4, 4, 0, 0, 0, 220, []) := rfl
theorem mt_123 (a1 : Int) (H : a_P) : a_mt a_pv 9 123 [(2, 133), (0, a1)] H (fn_123 a1 H) := by
  refine a_mtI (lo := [some (2, 133), some (0, a1), none, none, none, none]) rfl fun d => ?_
  unfold fn_123
  refine a_w2 (z := 0) (Nat.le_succ _) ti_123_0 (by decide) ?_
  refine a_w11 (lo' := [some (2, 133), some (0, a1), some (0, 0), none, none, none]) (Nat.le_succ _) ti_123_1 rfl ?_
  refine a_wjn 33 (fun (s : a_P) => [some (2, 133), some (0, a1), none, none, none, none]) (fun (s : a_P) => []) (fun (s : a_P) => s) (fun s1 => ?_) (fun j33 hj33 => ?_)
  · refine a_w0 (Nat.le_succ _) ti_123_33 rfl ?_
    refine a_w3p (args := [(2, 133)]) (Nat.le_succ _) ti_123_34 (mt_120 s1) rfl rfl rfl rfl ?_
    refine a_w11b (lof := fun x1 => [some (2, 133), some (0, a1), some (0, x1), none, none, none]) (Nat.le_succ _) ti_123_37 (fun _ => rfl) (fun x1 => ?_)
    refine a_w2 (z := 0) (Nat.le_succ _) ti_123_38 (by decide) ?_
    refine a_w11 (lo' := [some (2, 133), some (0, a1), some (0, x1), some (0, 0), none, none]) (Nat.le_succ _) ti_123_39 rfl ?_
    refine a_wjn 108 (fun (s : a_P) => [some (2, 133), none, none, none, none, none]) (fun (s : a_P) => []) (fun (s : a_P) => s) (fun s2 => ?_) (fun j108 hj108 => ?_)
    · refine a_w0 (Nat.le_succ _) ti_123_108 rfl ?_
      refine a_w1 (a := (2, 134)) (Nat.le_succ _) ti_123_109 rfl ?_
      refine a_w2 (z := 3) (Nat.le_succ _) ti_123_112 (by decide) ?_
      refine a_w5 (kk := 0) (Nat.le_succ _) ti_123_113 (fun _ => rfl) ?_
      refine a_w11b (lof := fun x2 => [some (2, 133), none, none, some (0, x2), none, none]) (Nat.le_succ _) ti_123_114 (fun _ => rfl) (fun x2 => ?_)
      refine a_w2 (z := 0) (Nat.le_succ _) ti_123_115 (by decide) ?_
      refine a_w11 (lo' := [some (2, 133), none, none, some (0, x2), some (0, 0), none]) (Nat.le_succ _) ti_123_116 rfl ?_
      refine a_wjn 183 (fun (s : a_P) => [some (2, 133), none, none, some (0, x2), none, none]) (fun (s : a_P) => []) (fun (s : a_P) => s) (fun s3 => ?_) (fun j183 hj183 => ?_)
      · refine a_w0 (Nat.le_succ _) ti_123_183 rfl ?_
        refine a_w2 (z := (-4)) (Nat.le_succ _) ti_123_184 (by decide) ?_
        refine a_wjn 209 (fun (s : a_P) => [some (2, 133), none, none, none, none, none]) (fun (s : a_P) => []) (fun (s : a_P) => s) (fun s4 => ?_) (fun j209 hj209 => ?_)
        · refine a_w0 (Nat.le_succ _) ti_123_209 rfl ?_
          refine a_w1 (a := (2, 134)) (Nat.le_succ _) ti_123_210 rfl ?_
          refine a_w2 (z := 5) (Nat.le_succ _) ti_123_213 (by decide) ?_
          refine a_w17 (Nat.le_succ _) ti_123_214 ?_
          refine a_w5 (kk := 0) (Nat.le_succ _) ti_123_215 (fun _ => rfl) ?_
          refine a_w2 (z := 1) (Nat.le_succ _) ti_123_216 (by decide) ?_
          refine a_w6 (a := (0, a_w ((s4 134 5) + 1))) (Nat.le_succ _) ti_123_217 rfl ?_
          refine a_w12 (Nat.le_succ _) ti_123_218 (Or.inl ⟨rfl, rfl⟩) (fun H1 => ?_)
          exact a_w4v (Nat.le_succ _) ti_123_219 rfl rfl
        · refine a_w9_0 (Nat.le_succ _) ti_123_186 ?_ ?_
          · exact a_wk (hj209 s3) (by omega) ⟨rfl, trivial⟩
          · refine a_w0 (Nat.le_succ _) ti_123_189 rfl ?_
            refine a_w1 (a := (2, 134)) (Nat.le_succ _) ti_123_190 rfl ?_
            refine a_w2 (z := 31) (Nat.le_succ _) ti_123_193 (by decide) ?_
            refine a_w0 (Nat.le_succ _) ti_123_195 rfl ?_
            refine a_w6 (a := (0, a_w (31 + x2))) (Nat.le_succ _) ti_123_196 rfl ?_
            refine a_w5 (kk := 0) (Nat.le_succ _) ti_123_197 (fun _ => rfl) ?_
            refine a_w8_1 (Nat.le_succ _) ti_123_198 ?_ ?_
            · exact a_wk (hj209 s3) (by omega) ⟨rfl, trivial⟩
            · refine a_w0 (Nat.le_succ _) ti_123_201 rfl ?_
              refine a_w1 (a := (2, 134)) (Nat.le_succ _) ti_123_202 rfl ?_
              refine a_w2 (z := 3) (Nat.le_succ _) ti_123_205 (by decide) ?_
              refine a_w2 (z := (-4)) (Nat.le_succ _) ti_123_206 (by decide) ?_
              refine a_w12 (Nat.le_succ _) ti_123_208 (Or.inl ⟨rfl, rfl⟩) (fun H2 => ?_)
              exact a_wk (hj209 H2) (by omega) ⟨rfl, trivial⟩
      · refine a_wk (a_wlp (fun (s : Int × a_P) => [some (2, 133), none, none, some (0, x2), some (0, s.1), none]) (fun (s : Int × a_P) => s.2) (fun N1 hN1 n118 hn118 s5 => ?_) a_fuel (a_fuel_le (by omega)) (0, s2)) (Nat.le_refl _) ⟨rfl, rfl, rfl, trivial⟩
        · refine a_w0 (Nat.le_refl _) ti_123_118 rfl ?_
          refine a_w0 (Nat.le_succ _) ti_123_120 rfl ?_
          refine a_w1 (a := (2, 134)) (Nat.le_succ _) ti_123_121 rfl ?_
          refine a_w2 (z := 0) (Nat.le_succ _) ti_123_124 (by decide) ?_
          refine a_w5 (kk := 0) (Nat.le_succ _) ti_123_125 (fun _ => rfl) ?_
          refine a_w9_3 (Nat.le_succ _) ti_123_126 ?_ ?_
          · exact a_wk (hj183 s5.2) (by omega) ⟨rfl, rfl, trivial⟩
          · refine a_w0 (Nat.le_succ _) ti_123_129 rfl ?_
            refine a_w1 (a := (2, 134)) (Nat.le_succ _) ti_123_130 rfl ?_
            refine a_w2 (z := 31) (Nat.le_succ _) ti_123_133 (by decide) ?_
            refine a_w0 (Nat.le_succ _) ti_123_135 rfl ?_
            refine a_w6 (a := (0, a_w (31 + s5.1))) (Nat.le_succ _) ti_123_137 rfl ?_
            refine a_w5 (kk := 0) (Nat.le_succ _) ti_123_138 (fun _ => rfl) ?_
            refine a_w0 (Nat.le_succ _) ti_123_139 rfl ?_
            refine a_w0 (Nat.le_succ _) ti_123_141 rfl ?_
            refine a_wjn 150 (fun (s : Int) => [some (2, 133), none, none, some (0, x2), some (0, s5.1), none]) (fun (s : Int) => [(0, s), (0, s5.2 134 (a_w (31 + s5.1)))]) (fun (s : Int) => s5.2) (fun s6 => ?_) (fun j150 hj150 => ?_)
            · refine a_w6 (a := (0, a_w ((s5.2 134 (a_w (31 + s5.1))) + s6))) (Nat.le_succ _) ti_123_150 rfl ?_
              refine a_w11b (lof := fun x3 => [some (2, 133), none, none, some (0, x2), some (0, s5.1), some (0, x3)]) (Nat.le_succ _) ti_123_151 (fun _ => rfl) (fun x3 => ?_)
              refine a_w0 (Nat.le_succ _) ti_123_153 rfl ?_
              refine a_w1 (a := (2, 134)) (Nat.le_succ _) ti_123_154 rfl ?_
              refine a_w2 (z := 31) (Nat.le_succ _) ti_123_157 (by decide) ?_
              refine a_w0 (Nat.le_succ _) ti_123_159 rfl ?_
              refine a_w6 (a := (0, a_w (31 + s5.1))) (Nat.le_succ _) ti_123_161 rfl ?_
              refine a_w0 (Nat.le_succ _) ti_123_162 rfl ?_
              refine a_w2 (z := 20) (Nat.le_succ _) ti_123_164 (by decide) ?_
              refine a_wjn 176 (fun (s : Int) => [some (2, 133), none, none, some (0, x2), some (0, s5.1), none]) (fun (s : Int) => [(0, s), (0, a_w (31 + s5.1)), (2, 134)]) (fun (s : Int) => s5.2) (fun s7 => ?_) (fun j176 hj176 => ?_)
              · refine a_w12 (Nat.le_succ _) ti_123_176 (Or.inl ⟨rfl, rfl⟩) (fun H3 => ?_)
                refine a_w13 (c' := 1) (lof := fun x4 => [some (2, 133), none, none, some (0, x2), some (0, x4), none]) (Nat.le_succ _) ti_123_177 rfl (by decide) rfl (fun _ => rfl) (fun x4 => ?_)
                refine a_w7 (Nat.le_succ _) ti_123_180 ?_
                exact a_wk (hn118 (x4, H3)) (by omega) ⟨rfl, rfl, rfl, trivial⟩
              · refine a_w9_5 (Nat.le_succ _) ti_123_166 ?_ ?_
                · refine a_w0 (Nat.le_succ _) ti_123_174 rfl ?_
                  exact a_wk (hj176 x3) (by omega) ⟨rfl, rfl, rfl, trivial⟩
                · refine a_w2 (z := 20) (Nat.le_succ _) ti_123_169 (by decide) ?_
                  refine a_w7 (Nat.le_succ _) ti_123_171 ?_
                  exact a_wk (hj176 20) (by omega) ⟨rfl, rfl, rfl, trivial⟩
            · refine a_w9_1 (Nat.le_succ _) ti_123_142 ?_ ?_
              · refine a_w2 (z := 1) (Nat.le_succ _) ti_123_149 (by decide) ?_
                exact a_wk (hj150 1) (by omega) ⟨rfl, rfl, rfl, trivial⟩
              · refine a_w2 (z := (-1)) (Nat.le_succ _) ti_123_145 (by decide) ?_
                refine a_w7 (Nat.le_succ _) ti_123_146 ?_
                exact a_wk (hj150 (-1)) (by omega) ⟨rfl, rfl, rfl, trivial⟩
    · refine a_wk (a_wlp (fun (s : Int × a_P) => [some (2, 133), some (0, a1), some (0, x1), some (0, s.1), none, none]) (fun (s : Int × a_P) => s.2) (fun N2 hN2 n40 hn40 s8 => ?_) a_fuel (a_fuel_le (by omega)) (0, s1)) (Nat.le_refl _) ⟨rfl, rfl, rfl, rfl, trivial⟩
      · refine a_w0 (Nat.le_refl _) ti_123_40 rfl ?_
        refine a_w0 (Nat.le_succ _) ti_123_41 rfl ?_
        refine a_w1 (a := (2, 134)) (Nat.le_succ _) ti_123_42 rfl ?_
        refine a_w2 (z := 0) (Nat.le_succ _) ti_123_45 (by decide) ?_
        refine a_w5 (kk := 0) (Nat.le_succ _) ti_123_46 (fun _ => rfl) ?_
        refine a_w9_3 (Nat.le_succ _) ti_123_47 ?_ ?_
        · exact a_wk (hj108 s8.2) (by omega) ⟨rfl, trivial⟩
        · refine a_w0 (Nat.le_succ _) ti_123_50 rfl ?_
          refine a_wjn 102 (fun (s : a_P) => [some (2, 133), some (0, a1), some (0, x1), some (0, s8.1), none, none]) (fun (s : a_P) => []) (fun (s : a_P) => s) (fun s9 => ?_) (fun j102 hj102 => ?_)
          · refine a_w13 (c' := 1) (lof := fun x5 => [some (2, 133), some (0, a1), some (0, x1), some (0, x5), none, none]) (Nat.le_succ _) ti_123_102 rfl (by decide) rfl (fun _ => rfl) (fun x5 => ?_)
            refine a_w7 (Nat.le_succ _) ti_123_105 ?_
            exact a_wk (hn40 (x5, s9)) (by omega) ⟨rfl, rfl, rfl, rfl, trivial⟩
          · refine a_w8_0 (Nat.le_succ _) ti_123_51 ?_ ?_
            · exact a_wk (hj102 s8.2) (by omega) ⟨rfl, rfl, rfl, rfl, trivial⟩
            · refine a_w0 (Nat.le_succ _) ti_123_54 rfl ?_
              refine a_w0 (Nat.le_succ _) ti_123_55 rfl ?_
              refine a_w6 (a := (0, a_shr x1 s8.1)) (Nat.le_succ _) ti_123_56 rfl ?_
              refine a_w2 (z := 1) (Nat.le_succ _) ti_123_57 (by decide) ?_
              refine a_w6 (a := (0, a_and (a_shr x1 s8.1) 1)) (Nat.le_succ _) ti_123_58 rfl ?_
              refine a_w8_1 (Nat.le_succ _) ti_123_59 ?_ ?_
              · exact a_wk (hj102 s8.2) (by omega) ⟨rfl, rfl, rfl, rfl, trivial⟩
              · refine a_w0 (Nat.le_succ _) ti_123_62 rfl ?_
                refine a_w1 (a := (2, 134)) (Nat.le_succ _) ti_123_63 rfl ?_
                refine a_w2 (z := 39) (Nat.le_succ _) ti_123_66 (by decide) ?_
                refine a_w0 (Nat.le_succ _) ti_123_68 rfl ?_
                refine a_w6 (a := (0, a_w (39 + s8.1))) (Nat.le_succ _) ti_123_69 rfl ?_
                refine a_w5 (kk := 0) (Nat.le_succ _) ti_123_70 (fun _ => rfl) ?_
                refine a_w0 (Nat.le_succ _) ti_123_71 rfl ?_
                refine a_w0 (Nat.le_succ _) ti_123_72 rfl ?_
                refine a_w3p (args := [(2, 133), (0, s8.1)]) (Nat.le_succ _) ti_123_73 (mt_122 s8.1 s8.2) rfl rfl rfl rfl ?_
                refine a_w6 (a := (0, a_w ((s8.2 134 (a_w (39 + s8.1))) + (fn_122 s8.1 s8.2)))) (Nat.le_succ _) ti_123_76 rfl ?_
                refine a_w11b (lof := fun x6 => [some (2, 133), some (0, a1), some (0, x1), some (0, s8.1), some (0, x6), none]) (Nat.le_succ _) ti_123_77 (fun _ => rfl) (fun x6 => ?_)
                refine a_w0 (Nat.le_succ _) ti_123_79 rfl ?_
                refine a_w1 (a := (2, 134)) (Nat.le_succ _) ti_123_80 rfl ?_
                refine a_w2 (z := 39) (Nat.le_succ _) ti_123_83 (by decide) ?_
                refine a_w0 (Nat.le_succ _) ti_123_85 rfl ?_
                refine a_w6 (a := (0, a_w (39 + s8.1))) (Nat.le_succ _) ti_123_86 rfl ?_
                refine a_w0 (Nat.le_succ _) ti_123_87 rfl ?_
                refine a_w2 (z := 99) (Nat.le_succ _) ti_123_89 (by decide) ?_
                refine a_wjn 101 (fun (s : Int) => [some (2, 133), some (0, a1), some (0, x1), some (0, s8.1), none, none]) (fun (s : Int) => [(0, s), (0, a_w (39 + s8.1)), (2, 134)]) (fun (s : Int) => s8.2) (fun s10 => ?_) (fun j101 hj101 => ?_)
                · refine a_w12 (Nat.le_succ _) ti_123_101 (Or.inl ⟨rfl, rfl⟩) (fun H4 => ?_)
                  exact a_wk (hj102 H4) (by omega) ⟨rfl, rfl, rfl, rfl, trivial⟩
                · refine a_w9_5 (Nat.le_succ _) ti_123_91 ?_ ?_
                  · refine a_w0 (Nat.le_succ _) ti_123_99 rfl ?_
                    exact a_wk (hj101 x6) (by omega) ⟨rfl, rfl, rfl, rfl, trivial⟩
                  · refine a_w2 (z := 99) (Nat.le_succ _) ti_123_94 (by decide) ?_
                    refine a_w7 (Nat.le_succ _) ti_123_96 ?_
                    exact a_wk (hj101 99) (by omega) ⟨rfl, rfl, rfl, rfl, trivial⟩
  · refine a_wk (a_wlp (fun (s : Int × a_P) => [some (2, 133), some (0, a1), some (0, s.1), none, none, none]) (fun (s : Int × a_P) => s.2) (fun N3 hN3 n2 hn2 s11 => ?_) a_fuel (a_fuel_le (by omega)) (0, H)) (Nat.le_refl _) ⟨rfl, rfl, rfl, trivial⟩
    · refine a_w0 (Nat.le_refl _) ti_123_2 rfl ?_
      refine a_w0 (Nat.le_succ _) ti_123_3 rfl ?_
      refine a_w1 (a := (2, 134)) (Nat.le_succ _) ti_123_4 rfl ?_
      refine a_w2 (z := 0) (Nat.le_succ _) ti_123_7 (by decide) ?_
      refine a_w5 (kk := 0) (Nat.le_succ _) ti_123_8 (fun _ => rfl) ?_
      refine a_w9_3 (Nat.le_succ _) ti_123_9 ?_ ?_
      · exact a_wk (hj33 s11.2) (by omega) ⟨rfl, rfl, trivial⟩
      · refine a_w0 (Nat.le_succ _) ti_123_12 rfl ?_
        refine a_w0 (Nat.le_succ _) ti_123_13 rfl ?_
        refine a_w1 (a := (2, 134)) (Nat.le_succ _) ti_123_14 rfl ?_
        refine a_w2 (z := 3) (Nat.le_succ _) ti_123_17 (by decide) ?_
        refine a_w5 (kk := 0) (Nat.le_succ _) ti_123_18 (fun _ => rfl) ?_
        refine a_wjn 27 (fun (s : a_P) => [some (2, 133), some (0, a1), some (0, s11.1), none, none, none]) (fun (s : a_P) => []) (fun (s : a_P) => s) (fun s12 => ?_) (fun j27 hj27 => ?_)
        · refine a_w13 (c' := 1) (lof := fun x7 => [some (2, 133), some (0, a1), some (0, x7), none, none, none]) (Nat.le_succ _) ti_123_27 rfl (by decide) rfl (fun _ => rfl) (fun x7 => ?_)
          refine a_w7 (Nat.le_succ _) ti_123_30 ?_
          exact a_wk (hn2 (x7, s12)) (by omega) ⟨rfl, rfl, rfl, trivial⟩
        · refine a_w9_0 (Nat.le_succ _) ti_123_19 ?_ ?_
          · exact a_wk (hj27 s11.2) (by omega) ⟨rfl, rfl, rfl, trivial⟩
          · refine a_w0 (Nat.le_succ _) ti_123_22 rfl ?_
            refine a_w0 (Nat.le_succ _) ti_123_23 rfl ?_
            refine a_w3v (args := [(2, 133), (0, s11.1)]) (Nat.le_succ _) ti_123_24 (mt_121 s11.1 s11.2) rfl rfl (fun H5 => ?_)
            exact a_wk (hj27 H5) (by omega) ⟨rfl, rfl, rfl, trivial⟩

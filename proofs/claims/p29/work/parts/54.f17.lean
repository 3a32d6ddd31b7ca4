/-- CarriedGateModel.seen(IIIIII)I -/
noncomputable def fn_183 (a1 : Int) (a2 : Int) (a3 : Int) (a4 : Int) (a5 : Int) (a6 : Int) (H : a_P) : a_F :=
  a_jn (fun (s1 : Unit) => ((-1), H)) fun j53 =>
  (if (fn_110 a1 H) = 0 then j53 ()
  else (if (fn_175 a2) = 0 then j53 ()
  else (if (fn_108 a3 0 3) = 0 then j53 ()
  else (if (fn_108 a5 1 8) = 0 then j53 ()
  else (if (fn_108 a6 0 2) = 0 then j53 ()
  else a_bd (fn_179 a2 a3 a4 a5 H) fun x1 =>
  (if x1 < 0 then (x1, H)
  else a_bd (fn_153 H) fun H1 =>
  a_lp (fun (s2 : Int × Int × a_P) => (0, s2.2.2)) (fun (s2 : Int × Int × a_P) n85 => a_jn (fun (s3 : Int) => (if s2.2.1 < s3 then a_jn (fun (s4 : Int) => a_bd (a_up s2.2.2 134 s4 s2.2.1) fun H2 =>
  a_bd (fn_182 (a_w ((a_w (24 * a2)) + a4)) a5 H2) fun g1 =>
  a_jn (fun (s5 : Int) => a_bd (a_or s2.1 s5) fun x2 =>
  a_bd (a_w (s2.2.1 + 1)) fun x3 =>
  n85 (x2, x3, g1.2)) fun j160 =>
  (if g1.1 = 0 then j160 0
  else j160 (a_shl 1 s2.2.1))) fun j131 =>
  (if a6 = 0 then j131 (a_w (7 + a1))
  else (if a6 = 1 then j131 (a_w (23 + a1))
  else j131 2))
  else (s2.1, s2.2.2))) fun j98 =>
  (if a6 = 2 then j98 4
  else j98 5)) a_fuel (0, 0, H1)))))))
theorem ti_183_0 : (q_I 183).2 0 = some (0, 4, 0, 0, 2, 1, []) := rfl
theorem ti_183_1 : (q_I 183).2 1 = some (0, 0, 0, 1, 0, 2, []) := rfl
theorem ti_183_2 : (q_I 183).2 2 = some (3, 0, 115, 110, 2, 5, [883, 6]) := rfl
theorem ti_183_5 : (q_I 183).2 5 = some (8, 0, 0, 53, 0, 8, []) := rfl
theorem ti_183_8 : (q_I 183).2 8 = some (0, 0, 0, 2, 0, 9, []) := rfl
theorem ti_183_9 : (q_I 183).2 9 = some (3, 1, 237, 175, 1, 12, [1139, 6]) := rfl
theorem ti_183_12 : (q_I 183).2 12 = some (8, 0, 0, 53, 0, 15, []) := rfl
theorem ti_183_15 : (q_I 183).2 15 = some (0, 0, 0, 3, 0, 16, []) := rfl
theorem ti_183_16 : (q_I 183).2 16 = some (14, 4, 0, 0, 0, 17, []) := rfl
theorem ti_183_17 : (q_I 183).2 17 = some (15, 0, 0, 0, 0, 18, []) := rfl
theorem ti_183_18 : (q_I 183).2 18 = some (15, 1, 3, 176, 0, 21, [1006]) := rfl
theorem ti_183_21 : (q_I 183).2 21 = some (3, 1, 51, 108, 3, 24, [867, 6]) := rfl
theorem ti_183_24 : (q_I 183).2 24 = some (8, 0, 0, 53, 0, 27, []) := rfl
theorem ti_183_27 : (q_I 183).2 27 = some (0, 1, 0, 5, 0, 29, []) := rfl
theorem ti_183_29 : (q_I 183).2 29 = some (14, 4, 0, 0, 0, 30, []) := rfl
theorem ti_183_30 : (q_I 183).2 30 = some (15, 0, 1, 0, 0, 31, []) := rfl
theorem ti_183_31 : (q_I 183).2 31 = some (15, 1, 8, 248, 0, 34, [1165]) := rfl
theorem ti_183_34 : (q_I 183).2 34 = some (3, 1, 51, 108, 3, 37, [867, 6]) := rfl
theorem ti_183_37 : (q_I 183).2 37 = some (8, 0, 0, 53, 0, 40, []) := rfl
theorem ti_183_40 : (q_I 183).2 40 = some (0, 1, 0, 6, 0, 42, []) := rfl
theorem ti_183_42 : (q_I 183).2 42 = some (14, 4, 0, 0, 0, 43, []) := rfl
theorem ti_183_43 : (q_I 183).2 43 = some (15, 0, 0, 0, 0, 44, []) := rfl
theorem ti_183_44 : (q_I 183).2 44 = some (15, 1, 2, 196, 0, 47, [1064]) := rfl
theorem ti_183_47 : (q_I 183).2 47 = some (3, 1, 51, 108, 3, 50, [867, 6]) := rfl
theorem ti_183_50 : (q_I 183).2 50 = some (8, 1, 0, 55, 0, 53, []) := rfl
theorem ti_183_55 : (q_I 183).2 55 = some (0, 4, 0, 0, 2, 56, []) := rfl
theorem ti_183_56 : (q_I 183).2 56 = some (0, 0, 0, 2, 0, 57, []) := rfl
theorem ti_183_57 : (q_I 183).2 57 = some (0, 0, 0, 3, 0, 58, []) := rfl
theorem ti_183_58 : (q_I 183).2 58 = some (0, 1, 0, 4, 0, 60, []) := rfl
theorem ti_183_60 : (q_I 183).2 60 = some (0, 1, 0, 5, 0, 62, []) := rfl
theorem ti_183_62 : (q_I 183).2 62 = some (3, 0, 240, 179, 5, 65, [1150, 6]) := rfl
theorem ti_183_65 : (q_I 183).2 65 = some (11, 1, 0, 7, 0, 67, []) := rfl
theorem ti_183_67 : (q_I 183).2 67 = some (0, 1, 0, 7, 0, 69, []) := rfl
theorem ti_183_69 : (q_I 183).2 69 = some (8, 3, 0, 75, 0, 72, []) := rfl
theorem ti_183_72 : (q_I 183).2 72 = some (0, 1, 0, 7, 0, 74, []) := rfl
theorem ti_183_74 : (q_I 183).2 74 = some (4, 0, 0, 0, 0, 75, []) := rfl
theorem ti_183_75 : (q_I 183).2 75 = some (2, 0, 0, 0, 0, 76, []) := rfl
theorem ti_183_76 : (q_I 183).2 76 = some (11, 1, 0, 8, 0, 78, []) := rfl
theorem ti_183_78 : (q_I 183).2 78 = some (0, 4, 0, 0, 2, 79, []) := rfl
theorem ti_183_79 : (q_I 183).2 79 = some (3, 0, 187, 153, 1, 82, [1048, 6]) := rfl
theorem ti_183_82 : (q_I 183).2 82 = some (2, 0, 0, 0, 0, 83, []) := rfl
theorem ti_183_83 : (q_I 183).2 83 = some (11, 1, 0, 9, 0, 85, []) := rfl
theorem ti_183_85 : (q_I 183).2 85 = some (0, 1, 0, 9, 0, 87, []) := rfl
theorem ti_183_87 : (q_I 183).2 87 = some (0, 1, 0, 6, 0, 89, []) := rfl
theorem ti_183_89 : (q_I 183).2 89 = some (2, 0, 2, 0, 0, 90, []) := rfl
theorem ti_183_90 : (q_I 183).2 90 = some (9, 1, 0, 97, 0, 93, []) := rfl
theorem ti_183_93 : (q_I 183).2 93 = some (2, 0, 4, 0, 0, 94, []) := rfl
theorem ti_183_94 : (q_I 183).2 94 = some (7, 0, 0, 98, 0, 97, []) := rfl
theorem ti_183_97 : (q_I 183).2 97 = some (2, 0, 5, 0, 0, 98, []) := rfl
theorem ti_183_98 : (q_I 183).2 98 = some (9, 3, 0, 169, 0, 101, []) := rfl
theorem ti_183_101 : (q_I 183).2 101 = some (0, 4, 0, 0, 2, 102, []) := rfl
theorem ti_183_102 : (q_I 183).2 102 = some (1, 0, 7, 6, 0, 105, [795]) := rfl
theorem ti_183_105 : (q_I 183).2 105 = some (0, 1, 0, 6, 0, 107, []) := rfl
theorem ti_183_107 : (q_I 183).2 107 = some (8, 1, 0, 117, 0, 110, []) := rfl
theorem ti_183_110 : (q_I 183).2 110 = some (2, 1, 7, 0, 0, 112, []) := rfl
theorem ti_183_112 : (q_I 183).2 112 = some (0, 0, 0, 1, 0, 113, []) := rfl
theorem ti_183_113 : (q_I 183).2 113 = some (6, 0, 0, 0, 0, 114, []) := rfl
theorem ti_183_114 : (q_I 183).2 114 = some (7, 0, 0, 131, 0, 117, []) := rfl
theorem ti_183_117 : (q_I 183).2 117 = some (0, 1, 0, 6, 0, 119, []) := rfl
theorem ti_183_119 : (q_I 183).2 119 = some (2, 0, 1, 0, 0, 120, []) := rfl
theorem ti_183_120 : (q_I 183).2 120 = some (9, 1, 0, 130, 0, 123, []) := rfl
theorem ti_183_123 : (q_I 183).2 123 = some (2, 1, 23, 0, 0, 125, []) := rfl
theorem ti_183_125 : (q_I 183).2 125 = some (0, 0, 0, 1, 0, 126, []) := rfl
theorem ti_183_126 : (q_I 183).2 126 = some (6, 0, 0, 0, 0, 127, []) := rfl
theorem ti_183_127 : (q_I 183).2 127 = some (7, 0, 0, 131, 0, 130, []) := rfl
theorem ti_183_130 : (q_I 183).2 130 = some (2, 0, 2, 0, 0, 131, []) := rfl
theorem ti_183_131 : (q_I 183).2 131 = some (0, 1, 0, 9, 0, 133, []) := rfl
theorem ti_183_133 : (q_I 183).2 133 = some (12, 10, 0, 0, 0, 134, []) := rfl
theorem ti_183_134 : (q_I 183).2 134 = some (0, 1, 0, 8, 0, 136, []) := rfl
theorem ti_183_136 : (q_I 183).2 136 = some (0, 4, 0, 0, 2, 137, []) := rfl
theorem ti_183_137 : (q_I 183).2 137 = some (2, 1, 24, 0, 0, 139, []) := rfl
theorem ti_183_139 : (q_I 183).2 139 = some (0, 0, 0, 2, 0, 140, []) := rfl
theorem ti_183_140 : (q_I 183).2 140 = some (6, 2, 0, 0, 0, 141, []) := rfl
theorem ti_183_141 : (q_I 183).2 141 = some (0, 1, 0, 4, 0, 143, []) := rfl
theorem ti_183_143 : (q_I 183).2 143 = some (6, 0, 0, 0, 0, 144, []) := rfl
theorem ti_183_144 : (q_I 183).2 144 = some (0, 1, 0, 5, 0, 146, []) := rfl
theorem ti_183_146 : (q_I 183).2 146 = some (3, 0, 250, 182, 3, 149, [1166, 6]) := rfl
theorem ti_183_149 : (q_I 183).2 149 = some (8, 0, 0, 159, 0, 152, []) := rfl
theorem ti_183_152 : (q_I 183).2 152 = some (2, 0, 1, 0, 0, 153, []) := rfl
theorem ti_183_153 : (q_I 183).2 153 = some (0, 1, 0, 9, 0, 155, []) := rfl
theorem ti_183_155 : (q_I 183).2 155 = some (6, 8, 0, 0, 0, 156, []) := rfl
theorem ti_183_156 : (q_I 183).2 156 = some (7, 0, 0, 160, 0, 159, []) := rfl
theorem ti_183_159 : (q_I 183).2 159 = some (2, 0, 0, 0, 0, 160, []) := rfl
theorem ti_183_160 : (q_I 183).2 160 = some (6, 6, 0, 0, 0, 161, []) := rfl
theorem ti_183_161 : (q_I 183).2 161 = some (11, 1, 0, 8, 0, 163, []) := rfl
theorem ti_183_163 : (q_I 183).2 163 = some (13, 0, 1, 9, 0, 166, []) := rfl
theorem ti_183_166 : (q_I 183).2 166 = some (7, 0, 0, 85, 0, 169, []) := rfl
theorem ti_183_169 : (q_I 183).2 169 = some (0, 1, 0, 8, 0, 171, []) := rfl
theorem ti_183_171 : (q_I 183).2 171 = some (4, 0, 0, 0, 0, 172, []) := rfl
theorem ti_183_53 : (q_I 183).2 53 = some (2, 0, (-1), 0, 0, 54, []) := rfl
theorem ti_183_54 : (q_I 183).2 54 = some (4, 0, 0, 0, 0, 55, []) := rfl
theorem mt_183 (a1 : Int) (a2 : Int) (a3 : Int) (a4 : Int) (a5 : Int) (a6 : Int) (H : a_P) : a_mt id 0 183 [(2, 133), (0, a1), (0, a2), (0, a3), (0, a4), (0, a5), (0, a6)] H (fn_183 a1 a2 a3 a4 a5 a6 H) := by
  refine a_mtI (lo := [some (2, 133), some (0, a1), some (0, a2), some (0, a3), some (0, a4), some (0, a5), some (0, a6), none, none, none]) rfl fun d => ?_
  unfold fn_183
  refine a_w0 (Nat.le_succ _) ti_183_0 rfl ?_
  refine a_w0 (Nat.le_succ _) ti_183_1 rfl ?_
  refine a_w3p (args := [(2, 133), (0, a1)]) (Nat.le_succ _) ti_183_2 (mt_110 a1 H) rfl rfl rfl rfl ?_
  refine a_wjn 53 (fun (s : Unit) => [none, none, none, none, none, none, none, none, none, none]) (fun (s : Unit) => []) (fun (s : Unit) => H) (fun s1 => ?_) (fun j53 hj53 => ?_)
  · refine a_w2 (z := (-1)) (Nat.le_succ _) ti_183_53 (by decide) ?_
    exact a_w4 (Nat.le_succ _) ti_183_54 rfl rfl rfl
  · refine a_w8_0 (Nat.le_succ _) ti_183_5 ?_ ?_
    · exact a_wk (hj53 ()) (by omega) trivial
    · refine a_w0 (Nat.le_succ _) ti_183_8 rfl ?_
      refine a_w3p (args := [(0, a2)]) (Nat.le_succ _) ti_183_9 (mt_175 a2 H) rfl rfl rfl rfl ?_
      refine a_w8_0 (Nat.le_succ _) ti_183_12 ?_ ?_
      · exact a_wk (hj53 ()) (by omega) trivial
      · refine a_w0 (Nat.le_succ _) ti_183_15 rfl ?_
        refine a_w14 (a := (1, a3)) (Nat.le_succ _) ti_183_16 rfl ?_
        refine a_w15 (z := 0) (Nat.le_succ _) ti_183_17 (by decide) ?_
        refine a_w15 (z := 3) (Nat.le_succ _) ti_183_18 (by decide) ?_
        refine a_w3p (args := [(1, a3), (1, 0), (1, 3)]) (Nat.le_succ _) ti_183_21 (mt_108 a3 0 3 H) rfl rfl rfl rfl ?_
        refine a_w8_0 (Nat.le_succ _) ti_183_24 ?_ ?_
        · exact a_wk (hj53 ()) (by omega) trivial
        · refine a_w0 (Nat.le_succ _) ti_183_27 rfl ?_
          refine a_w14 (a := (1, a5)) (Nat.le_succ _) ti_183_29 rfl ?_
          refine a_w15 (z := 1) (Nat.le_succ _) ti_183_30 (by decide) ?_
          refine a_w15 (z := 8) (Nat.le_succ _) ti_183_31 (by decide) ?_
          refine a_w3p (args := [(1, a5), (1, 1), (1, 8)]) (Nat.le_succ _) ti_183_34 (mt_108 a5 1 8 H) rfl rfl rfl rfl ?_
          refine a_w8_0 (Nat.le_succ _) ti_183_37 ?_ ?_
          · exact a_wk (hj53 ()) (by omega) trivial
          · refine a_w0 (Nat.le_succ _) ti_183_40 rfl ?_
            refine a_w14 (a := (1, a6)) (Nat.le_succ _) ti_183_42 rfl ?_
            refine a_w15 (z := 0) (Nat.le_succ _) ti_183_43 (by decide) ?_
            refine a_w15 (z := 2) (Nat.le_succ _) ti_183_44 (by decide) ?_
            refine a_w3p (args := [(1, a6), (1, 0), (1, 2)]) (Nat.le_succ _) ti_183_47 (mt_108 a6 0 2 H) rfl rfl rfl rfl ?_
            refine a_w8_1 (Nat.le_succ _) ti_183_50 ?_ ?_
            · refine a_w0 (Nat.le_succ _) ti_183_55 rfl ?_
              refine a_w0 (Nat.le_succ _) ti_183_56 rfl ?_
              refine a_w0 (Nat.le_succ _) ti_183_57 rfl ?_
              refine a_w0 (Nat.le_succ _) ti_183_58 rfl ?_
              refine a_w0 (Nat.le_succ _) ti_183_60 rfl ?_
              refine a_w3p (args := [(2, 133), (0, a2), (0, a3), (0, a4), (0, a5)]) (Nat.le_succ _) ti_183_62 (mt_179 a2 a3 a4 a5 H) rfl rfl rfl rfl ?_
              refine a_w11b (lof := fun x1 => [some (2, 133), some (0, a1), some (0, a2), some (0, a3), some (0, a4), some (0, a5), some (0, a6), some (0, x1), none, none]) (Nat.le_succ _) ti_183_65 (fun _ => rfl) (fun x1 => ?_)
              refine a_w0 (Nat.le_succ _) ti_183_67 rfl ?_
              refine a_w8_3 (Nat.le_succ _) ti_183_69 ?_ ?_
              · refine a_w2 (z := 0) (Nat.le_succ _) ti_183_75 (by decide) ?_
                refine a_w11 (lo' := [some (2, 133), some (0, a1), some (0, a2), some (0, a3), some (0, a4), some (0, a5), some (0, a6), some (0, x1), some (0, 0), none]) (Nat.le_succ _) ti_183_76 rfl ?_
                refine a_w0 (Nat.le_succ _) ti_183_78 rfl ?_
                refine a_w3v (args := [(2, 133)]) (Nat.le_succ _) ti_183_79 (mt_153 H) rfl rfl (fun H1 => ?_)
                refine a_w2 (z := 0) (Nat.le_succ _) ti_183_82 (by decide) ?_
                refine a_w11 (lo' := [some (2, 133), some (0, a1), some (0, a2), some (0, a3), some (0, a4), some (0, a5), some (0, a6), some (0, x1), some (0, 0), some (0, 0)]) (Nat.le_succ _) ti_183_83 rfl ?_
                refine a_wk (a_wlp (fun (s : Int × Int × a_P) => [some (2, 133), some (0, a1), some (0, a2), none, some (0, a4), some (0, a5), some (0, a6), none, some (0, s.1), some (0, s.2.1)]) (fun (s : Int × Int × a_P) => s.2.2) (fun N1 hN1 n85 hn85 s2 => ?_) a_fuel (a_fuel_le (by omega)) (0, 0, H1)) (Nat.le_refl _) ⟨rfl, rfl, rfl, rfl, rfl, rfl, rfl, rfl, trivial⟩
                · refine a_w0 (Nat.le_refl _) ti_183_85 rfl ?_
                  refine a_w0 (Nat.le_succ _) ti_183_87 rfl ?_
                  refine a_w2 (z := 2) (Nat.le_succ _) ti_183_89 (by decide) ?_
                  refine a_wjn 98 (fun (s : Int) => [some (2, 133), some (0, a1), some (0, a2), none, some (0, a4), some (0, a5), some (0, a6), none, some (0, s2.1), some (0, s2.2.1)]) (fun (s : Int) => [(0, s), (0, s2.2.1)]) (fun (s : Int) => s2.2.2) (fun s3 => ?_) (fun j98 hj98 => ?_)
                  · refine a_w9_3 (Nat.le_succ _) ti_183_98 ?_ ?_
                    · refine a_w0 (Nat.le_succ _) ti_183_169 rfl ?_
                      exact a_w4 (Nat.le_succ _) ti_183_171 rfl rfl rfl
                    · refine a_w0 (Nat.le_succ _) ti_183_101 rfl ?_
                      refine a_w1 (a := (2, 134)) (Nat.le_succ _) ti_183_102 rfl ?_
                      refine a_w0 (Nat.le_succ _) ti_183_105 rfl ?_
                      refine a_wjn 131 (fun (s : Int) => [some (2, 133), some (0, a1), some (0, a2), none, some (0, a4), some (0, a5), some (0, a6), none, some (0, s2.1), some (0, s2.2.1)]) (fun (s : Int) => [(0, s), (2, 134)]) (fun (s : Int) => s2.2.2) (fun s4 => ?_) (fun j131 hj131 => ?_)
                      · refine a_w0 (Nat.le_succ _) ti_183_131 rfl ?_
                        refine a_w12 (Nat.le_succ _) ti_183_133 (Or.inl ⟨rfl, rfl⟩) (fun H2 => ?_)
                        refine a_w0 (Nat.le_succ _) ti_183_134 rfl ?_
                        refine a_w0 (Nat.le_succ _) ti_183_136 rfl ?_
                        refine a_w2 (z := 24) (Nat.le_succ _) ti_183_137 (by decide) ?_
                        refine a_w0 (Nat.le_succ _) ti_183_139 rfl ?_
                        refine a_w6 (a := (0, a_w (24 * a2))) (Nat.le_succ _) ti_183_140 rfl ?_
                        refine a_w0 (Nat.le_succ _) ti_183_141 rfl ?_
                        refine a_w6 (a := (0, a_w ((a_w (24 * a2)) + a4))) (Nat.le_succ _) ti_183_143 rfl ?_
                        refine a_w0 (Nat.le_succ _) ti_183_144 rfl ?_
                        refine a_w3i (args := [(2, 133), (0, a_w ((a_w (24 * a2)) + a4)), (0, a5)]) (Nat.le_succ _) ti_183_146 (mt_182 (a_w ((a_w (24 * a2)) + a4)) a5 H2) (fun _ => rfl) rfl rfl (fun g1 => ?_)
                        refine a_wjn 160 (fun (s : Int) => [some (2, 133), some (0, a1), some (0, a2), none, some (0, a4), some (0, a5), some (0, a6), none, none, some (0, s2.2.1)]) (fun (s : Int) => [(0, s), (0, s2.1)]) (fun (s : Int) => g1.2) (fun s5 => ?_) (fun j160 hj160 => ?_)
                        · refine a_w6 (a := (0, a_or s2.1 s5)) (Nat.le_succ _) ti_183_160 rfl ?_
                          refine a_w11b (lof := fun x2 => [some (2, 133), some (0, a1), some (0, a2), none, some (0, a4), some (0, a5), some (0, a6), none, some (0, x2), some (0, s2.2.1)]) (Nat.le_succ _) ti_183_161 (fun _ => rfl) (fun x2 => ?_)
                          refine a_w13 (c' := 1) (lof := fun x3 => [some (2, 133), some (0, a1), some (0, a2), none, some (0, a4), some (0, a5), some (0, a6), none, some (0, x2), some (0, x3)]) (Nat.le_succ _) ti_183_163 rfl (by decide) rfl (fun _ => rfl) (fun x3 => ?_)
                          refine a_w7 (Nat.le_succ _) ti_183_166 ?_
                          exact a_wk (hn85 (x2, x3, g1.2)) (by omega) ⟨rfl, rfl, rfl, rfl, rfl, rfl, rfl, rfl, trivial⟩
                        · refine a_w8_0 (Nat.le_succ _) ti_183_149 ?_ ?_
                          · refine a_w2 (z := 0) (Nat.le_succ _) ti_183_159 (by decide) ?_
                            exact a_wk (hj160 0) (by omega) ⟨rfl, rfl, rfl, rfl, rfl, rfl, rfl, trivial⟩
                          · refine a_w2 (z := 1) (Nat.le_succ _) ti_183_152 (by decide) ?_
                            refine a_w0 (Nat.le_succ _) ti_183_153 rfl ?_
                            refine a_w6 (a := (0, a_shl 1 s2.2.1)) (Nat.le_succ _) ti_183_155 rfl ?_
                            refine a_w7 (Nat.le_succ _) ti_183_156 ?_
                            exact a_wk (hj160 (a_shl 1 s2.2.1)) (by omega) ⟨rfl, rfl, rfl, rfl, rfl, rfl, rfl, trivial⟩
                      · refine a_w8_1 (Nat.le_succ _) ti_183_107 ?_ ?_
                        · refine a_w0 (Nat.le_succ _) ti_183_117 rfl ?_
                          refine a_w2 (z := 1) (Nat.le_succ _) ti_183_119 (by decide) ?_
                          refine a_w9_1 (Nat.le_succ _) ti_183_120 ?_ ?_
                          · refine a_w2 (z := 2) (Nat.le_succ _) ti_183_130 (by decide) ?_
                            exact a_wk (hj131 2) (by omega) ⟨rfl, rfl, rfl, rfl, rfl, rfl, rfl, rfl, trivial⟩
                          · refine a_w2 (z := 23) (Nat.le_succ _) ti_183_123 (by decide) ?_
                            refine a_w0 (Nat.le_succ _) ti_183_125 rfl ?_
                            refine a_w6 (a := (0, a_w (23 + a1))) (Nat.le_succ _) ti_183_126 rfl ?_
                            refine a_w7 (Nat.le_succ _) ti_183_127 ?_
                            exact a_wk (hj131 (a_w (23 + a1))) (by omega) ⟨rfl, rfl, rfl, rfl, rfl, rfl, rfl, rfl, trivial⟩
                        · refine a_w2 (z := 7) (Nat.le_succ _) ti_183_110 (by decide) ?_
                          refine a_w0 (Nat.le_succ _) ti_183_112 rfl ?_
                          refine a_w6 (a := (0, a_w (7 + a1))) (Nat.le_succ _) ti_183_113 rfl ?_
                          refine a_w7 (Nat.le_succ _) ti_183_114 ?_
                          exact a_wk (hj131 (a_w (7 + a1))) (by omega) ⟨rfl, rfl, rfl, rfl, rfl, rfl, rfl, rfl, trivial⟩
                  · refine a_w9_1 (Nat.le_succ _) ti_183_90 ?_ ?_
                    · refine a_w2 (z := 5) (Nat.le_succ _) ti_183_97 (by decide) ?_
                      exact a_wk (hj98 5) (by omega) ⟨rfl, rfl, rfl, rfl, rfl, rfl, rfl, rfl, trivial⟩
                    · refine a_w2 (z := 4) (Nat.le_succ _) ti_183_93 (by decide) ?_
                      refine a_w7 (Nat.le_succ _) ti_183_94 ?_
                      exact a_wk (hj98 4) (by omega) ⟨rfl, rfl, rfl, rfl, rfl, rfl, rfl, rfl, trivial⟩
              · refine a_w0 (Nat.le_succ _) ti_183_72 rfl ?_
                exact a_w4 (Nat.le_succ _) ti_183_74 rfl rfl rfl
            · exact a_wk (hj53 ()) (by omega) trivial
/-- CarriedGateModel.film(IIII)I -/
noncomputable def fn_184 (a1 : Int) (a2 : Int) (a3 : Int) (a4 : Int) (H : a_P) : a_F :=
  a_jn (fun (s1 : Unit) => ((-1), H)) fun j31 =>
  (if (fn_108 a1 1 24) = 0 then j31 ()
  else (if (fn_175 a2) = 0 then j31 ()
  else (if (fn_108 a3 0 3) = 0 then j31 ()
  else a_bd (fn_179 a2 a3 a4 a1 H) fun x1 =>
  (if x1 < 0 then (x1, H)
  else a_bd (fn_153 H) fun H1 =>
  a_lp (fun (s2 : Int × a_P) => (0, s2.2)) (fun (s2 : Int × a_P) n59 => (if s2.1 < a1 then a_bd (fn_124 s2.2) fun H3 =>
  a_bd (a_up H3 144 (a_w ((a_w ((a_w (24 * a2)) + a4)) + s2.1)) (fn_176 (fn_120 H3) a3)) fun H4 =>
  a_bd (a_w (s2.1 + 1)) fun x2 =>
  n59 (x2, H4)
  else a_bd (fn_154 s2.2) fun H2 =>
  (a1, H2))) a_fuel (0, H1)))))
theorem ti_184_0 : (q_I 184).2 0 = some (0, 0, 0, 1, 0, 1, []) := rfl
theorem ti_184_1 : (q_I 184).2 1 = some (14, 4, 0, 0, 0, 2, []) := rfl
theorem ti_184_2 : (q_I 184).2 2 = some (15, 0, 1, 0, 0, 3, []) := rfl
theorem ti_184_3 : (q_I 184).2 3 = some (15, 1, 24, 253, 0, 6, [1174]) := rfl
theorem ti_184_6 : (q_I 184).2 6 = some (3, 1, 51, 108, 3, 9, [867, 6]) := rfl
theorem ti_184_9 : (q_I 184).2 9 = some (8, 0, 0, 31, 0, 12, []) := rfl
theorem ti_184_12 : (q_I 184).2 12 = some (0, 0, 0, 2, 0, 13, []) := rfl
theorem ti_184_13 : (q_I 184).2 13 = some (3, 1, 237, 175, 1, 16, [1139, 6]) := rfl
theorem ti_184_16 : (q_I 184).2 16 = some (8, 0, 0, 31, 0, 19, []) := rfl
theorem ti_184_19 : (q_I 184).2 19 = some (0, 0, 0, 3, 0, 20, []) := rfl
theorem ti_184_20 : (q_I 184).2 20 = some (14, 4, 0, 0, 0, 21, []) := rfl
theorem ti_184_21 : (q_I 184).2 21 = some (15, 0, 0, 0, 0, 22, []) := rfl
theorem ti_184_22 : (q_I 184).2 22 = some (15, 1, 3, 176, 0, 25, [1006]) := rfl
theorem ti_184_25 : (q_I 184).2 25 = some (3, 1, 51, 108, 3, 28, [867, 6]) := rfl
theorem ti_184_28 : (q_I 184).2 28 = some (8, 1, 0, 33, 0, 31, []) := rfl
theorem ti_184_33 : (q_I 184).2 33 = some (0, 4, 0, 0, 2, 34, []) := rfl
theorem ti_184_34 : (q_I 184).2 34 = some (0, 0, 0, 2, 0, 35, []) := rfl
theorem ti_184_35 : (q_I 184).2 35 = some (0, 0, 0, 3, 0, 36, []) := rfl
theorem ti_184_36 : (q_I 184).2 36 = some (0, 1, 0, 4, 0, 38, []) := rfl
theorem ti_184_38 : (q_I 184).2 38 = some (0, 0, 0, 1, 0, 39, []) := rfl
theorem ti_184_39 : (q_I 184).2 39 = some (3, 0, 240, 179, 5, 42, [1150, 6]) := rfl
theorem ti_184_42 : (q_I 184).2 42 = some (11, 1, 0, 5, 0, 44, []) := rfl
theorem ti_184_44 : (q_I 184).2 44 = some (0, 1, 0, 5, 0, 46, []) := rfl
theorem ti_184_46 : (q_I 184).2 46 = some (8, 3, 0, 52, 0, 49, []) := rfl
theorem ti_184_49 : (q_I 184).2 49 = some (0, 1, 0, 5, 0, 51, []) := rfl
theorem ti_184_51 : (q_I 184).2 51 = some (4, 0, 0, 0, 0, 52, []) := rfl
theorem ti_184_52 : (q_I 184).2 52 = some (0, 4, 0, 0, 2, 53, []) := rfl
theorem ti_184_53 : (q_I 184).2 53 = some (3, 0, 187, 153, 1, 56, [1048, 6]) := rfl
theorem ti_184_56 : (q_I 184).2 56 = some (2, 0, 0, 0, 0, 57, []) := rfl
theorem ti_184_57 : (q_I 184).2 57 = some (11, 1, 0, 6, 0, 59, []) := rfl
theorem ti_184_59 : (q_I 184).2 59 = some (0, 1, 0, 6, 0, 61, []) := rfl
theorem ti_184_61 : (q_I 184).2 61 = some (0, 0, 0, 1, 0, 62, []) := rfl
theorem ti_184_62 : (q_I 184).2 62 = some (9, 3, 0, 99, 0, 65, []) := rfl
theorem ti_184_65 : (q_I 184).2 65 = some (0, 4, 0, 0, 2, 66, []) := rfl
theorem ti_184_66 : (q_I 184).2 66 = some (3, 0, 173, 124, 1, 69, [983, 6]) := rfl
theorem ti_184_69 : (q_I 184).2 69 = some (0, 4, 0, 0, 2, 70, []) := rfl
theorem ti_184_70 : (q_I 184).2 70 = some (1, 0, 44, 6, 20, 73, [815]) := rfl
theorem ti_184_73 : (q_I 184).2 73 = some (2, 1, 24, 0, 0, 75, []) := rfl
theorem ti_184_75 : (q_I 184).2 75 = some (0, 0, 0, 2, 0, 76, []) := rfl
theorem ti_184_76 : (q_I 184).2 76 = some (6, 2, 0, 0, 0, 77, []) := rfl
theorem ti_184_77 : (q_I 184).2 77 = some (0, 1, 0, 4, 0, 79, []) := rfl
theorem ti_184_79 : (q_I 184).2 79 = some (6, 0, 0, 0, 0, 80, []) := rfl
theorem ti_184_80 : (q_I 184).2 80 = some (0, 1, 0, 6, 0, 82, []) := rfl
theorem ti_184_82 : (q_I 184).2 82 = some (6, 0, 0, 0, 0, 83, []) := rfl
theorem ti_184_83 : (q_I 184).2 83 = some (0, 4, 0, 0, 2, 84, []) := rfl
theorem ti_184_84 : (q_I 184).2 84 = some (3, 0, 91, 120, 1, 87, [887, 6]) := rfl
theorem ti_184_87 : (q_I 184).2 87 = some (14, 4, 0, 0, 0, 88, []) := rfl
theorem ti_184_88 : (q_I 184).2 88 = some (0, 0, 0, 3, 0, 89, []) := rfl
theorem ti_184_89 : (q_I 184).2 89 = some (3, 1, 244, 176, 2, 92, [1154, 6]) := rfl
theorem ti_184_92 : (q_I 184).2 92 = some (12, 11, 0, 0, 0, 93, []) := rfl
theorem ti_184_93 : (q_I 184).2 93 = some (13, 0, 1, 6, 0, 96, []) := rfl
theorem ti_184_96 : (q_I 184).2 96 = some (7, 0, 0, 59, 0, 99, []) := rfl
theorem ti_184_99 : (q_I 184).2 99 = some (0, 4, 0, 0, 2, 100, []) := rfl
theorem ti_184_100 : (q_I 184).2 100 = some (3, 0, 193, 154, 1, 103, [1056, 6]) := rfl
theorem ti_184_103 : (q_I 184).2 103 = some (0, 0, 0, 1, 0, 104, []) := rfl
theorem ti_184_104 : (q_I 184).2 104 = some (4, 0, 0, 0, 0, 105, []) := rfl
theorem ti_184_31 : (q_I 184).2 31 = some (2, 0, (-1), 0, 0, 32, []) := rfl
theorem ti_184_32 : (q_I 184).2 32 = some (4, 0, 0, 0, 0, 33, []) := rfl
theorem mt_184 (a1 : Int) (a2 : Int) (a3 : Int) (a4 : Int) (H : a_P) : a_mt id 0 184 [(2, 133), (0, a1), (0, a2), (0, a3), (0, a4)] H (fn_184 a1 a2 a3 a4 H) := by
  refine a_mtI (lo := [some (2, 133), some (0, a1), some (0, a2), some (0, a3), some (0, a4), none, none]) rfl fun d => ?_
  unfold fn_184
  refine a_w0 (Nat.le_succ _) ti_184_0 rfl ?_
  refine a_w14 (a := (1, a1)) (Nat.le_succ _) ti_184_1 rfl ?_
  refine a_w15 (z := 1) (Nat.le_succ _) ti_184_2 (by decide) ?_
  refine a_w15 (z := 24) (Nat.le_succ _) ti_184_3 (by decide) ?_
  refine a_w3p (args := [(1, a1), (1, 1), (1, 24)]) (Nat.le_succ _) ti_184_6 (mt_108 a1 1 24 H) rfl rfl rfl rfl ?_
  refine a_wjn 31 (fun (s : Unit) => [none, none, none, none, none, none, none]) (fun (s : Unit) => []) (fun (s : Unit) => H) (fun s1 => ?_) (fun j31 hj31 => ?_)
  · refine a_w2 (z := (-1)) (Nat.le_succ _) ti_184_31 (by decide) ?_
    exact a_w4 (Nat.le_succ _) ti_184_32 rfl rfl rfl
  · refine a_w8_0 (Nat.le_succ _) ti_184_9 ?_ ?_
    · exact a_wk (hj31 ()) (by omega) trivial
    · refine a_w0 (Nat.le_succ _) ti_184_12 rfl ?_
      refine a_w3p (args := [(0, a2)]) (Nat.le_succ _) ti_184_13 (mt_175 a2 H) rfl rfl rfl rfl ?_
      refine a_w8_0 (Nat.le_succ _) ti_184_16 ?_ ?_
      · exact a_wk (hj31 ()) (by omega) trivial
      · refine a_w0 (Nat.le_succ _) ti_184_19 rfl ?_
        refine a_w14 (a := (1, a3)) (Nat.le_succ _) ti_184_20 rfl ?_
        refine a_w15 (z := 0) (Nat.le_succ _) ti_184_21 (by decide) ?_
        refine a_w15 (z := 3) (Nat.le_succ _) ti_184_22 (by decide) ?_
        refine a_w3p (args := [(1, a3), (1, 0), (1, 3)]) (Nat.le_succ _) ti_184_25 (mt_108 a3 0 3 H) rfl rfl rfl rfl ?_
        refine a_w8_1 (Nat.le_succ _) ti_184_28 ?_ ?_
        · refine a_w0 (Nat.le_succ _) ti_184_33 rfl ?_
          refine a_w0 (Nat.le_succ _) ti_184_34 rfl ?_
          refine a_w0 (Nat.le_succ _) ti_184_35 rfl ?_
          refine a_w0 (Nat.le_succ _) ti_184_36 rfl ?_
          refine a_w0 (Nat.le_succ _) ti_184_38 rfl ?_
          refine a_w3p (args := [(2, 133), (0, a2), (0, a3), (0, a4), (0, a1)]) (Nat.le_succ _) ti_184_39 (mt_179 a2 a3 a4 a1 H) rfl rfl rfl rfl ?_
          refine a_w11b (lof := fun x1 => [some (2, 133), some (0, a1), some (0, a2), some (0, a3), some (0, a4), some (0, x1), none]) (Nat.le_succ _) ti_184_42 (fun _ => rfl) (fun x1 => ?_)
          refine a_w0 (Nat.le_succ _) ti_184_44 rfl ?_
          refine a_w8_3 (Nat.le_succ _) ti_184_46 ?_ ?_
          · refine a_w0 (Nat.le_succ _) ti_184_52 rfl ?_
            refine a_w3v (args := [(2, 133)]) (Nat.le_succ _) ti_184_53 (mt_153 H) rfl rfl (fun H1 => ?_)
            refine a_w2 (z := 0) (Nat.le_succ _) ti_184_56 (by decide) ?_
            refine a_w11 (lo' := [some (2, 133), some (0, a1), some (0, a2), some (0, a3), some (0, a4), some (0, x1), some (0, 0)]) (Nat.le_succ _) ti_184_57 rfl ?_
            refine a_wk (a_wlp (fun (s : Int × a_P) => [some (2, 133), some (0, a1), some (0, a2), some (0, a3), some (0, a4), none, some (0, s.1)]) (fun (s : Int × a_P) => s.2) (fun N1 hN1 n59 hn59 s2 => ?_) a_fuel (a_fuel_le (by omega)) (0, H1)) (Nat.le_refl _) ⟨rfl, rfl, rfl, rfl, rfl, rfl, trivial⟩
            · refine a_w0 (Nat.le_refl _) ti_184_59 rfl ?_
              refine a_w0 (Nat.le_succ _) ti_184_61 rfl ?_
              refine a_w9_3 (Nat.le_succ _) ti_184_62 ?_ ?_
              · refine a_w0 (Nat.le_succ _) ti_184_99 rfl ?_
                refine a_w3v (args := [(2, 133)]) (Nat.le_succ _) ti_184_100 (mt_154 s2.2) rfl rfl (fun H2 => ?_)
                refine a_w0 (Nat.le_succ _) ti_184_103 rfl ?_
                exact a_w4 (Nat.le_succ _) ti_184_104 rfl rfl rfl
              · refine a_w0 (Nat.le_succ _) ti_184_65 rfl ?_
                refine a_w3v (args := [(2, 133)]) (Nat.le_succ _) ti_184_66 (mt_124 s2.2) rfl rfl (fun H3 => ?_)
                refine a_w0 (Nat.le_succ _) ti_184_69 rfl ?_
                refine a_w1 (a := (2, 144)) (Nat.le_succ _) ti_184_70 rfl ?_
                refine a_w2 (z := 24) (Nat.le_succ _) ti_184_73 (by decide) ?_
                refine a_w0 (Nat.le_succ _) ti_184_75 rfl ?_
                refine a_w6 (a := (0, a_w (24 * a2))) (Nat.le_succ _) ti_184_76 rfl ?_
                refine a_w0 (Nat.le_succ _) ti_184_77 rfl ?_
                refine a_w6 (a := (0, a_w ((a_w (24 * a2)) + a4))) (Nat.le_succ _) ti_184_79 rfl ?_
                refine a_w0 (Nat.le_succ _) ti_184_80 rfl ?_
                refine a_w6 (a := (0, a_w ((a_w ((a_w (24 * a2)) + a4)) + s2.1))) (Nat.le_succ _) ti_184_82 rfl ?_
                refine a_w0 (Nat.le_succ _) ti_184_83 rfl ?_
                refine a_w3p (args := [(2, 133)]) (Nat.le_succ _) ti_184_84 (mt_120 H3) rfl rfl rfl rfl ?_
                refine a_w14 (a := (1, (fn_120 H3))) (Nat.le_succ _) ti_184_87 rfl ?_
                refine a_w0 (Nat.le_succ _) ti_184_88 rfl ?_
                refine a_w3p (args := [(1, (fn_120 H3)), (0, a3)]) (Nat.le_succ _) ti_184_89 (mt_176 (fn_120 H3) a3 H3) rfl rfl rfl rfl ?_
                refine a_w12 (Nat.le_succ _) ti_184_92 (Or.inr ⟨rfl, rfl⟩) (fun H4 => ?_)
                refine a_w13 (c' := 1) (lof := fun x2 => [some (2, 133), some (0, a1), some (0, a2), some (0, a3), some (0, a4), none, some (0, x2)]) (Nat.le_succ _) ti_184_93 rfl (by decide) rfl (fun _ => rfl) (fun x2 => ?_)
                refine a_w7 (Nat.le_succ _) ti_184_96 ?_
                exact a_wk (hn59 (x2, H4)) (by omega) ⟨rfl, rfl, rfl, rfl, rfl, rfl, trivial⟩
          · refine a_w0 (Nat.le_succ _) ti_184_49 rfl ?_
            exact a_w4 (Nat.le_succ _) ti_184_51 rfl rfl rfl
        · exact a_wk (hj31 ()) (by omega) trivial

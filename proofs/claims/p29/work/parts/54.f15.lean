/-- CarriedGateModel.field(III)I -/
noncomputable def fn_170 (a1 : Int) (a2 : Int) (a3 : Int) (H : a_P) : Int :=
  a_jn (fun (s1 : Unit) => (-1)) fun j31 =>
  (if (fn_111 a1) = 0 then j31 ()
  else (if (fn_108 a2 0 3) = 0 then j31 ()
  else (if (fn_108 a3 0 2) = 0 then j31 ()
  else a_jn (fun (s2 : Int × Int × Int) => a_jn (fun (s3 : Int) => s3) fun j215 =>
  (if a3 = 0 then j215 s2.1
  else (if a3 = 1 then j215 s2.2.1
  else j215 s2.2.2))) fun j194 =>
  a_lp (fun (s4 : Int × Int × Int × Int) => 0) (fun (s4 : Int × Int × Int × Int) n45 => (if s4.2.2.2 < 36 then a_jn (fun (s5 : Int) => a_jn (fun (s6 : Int) => a_jn (fun (s7 : Int) => a_bd (a_w (s4.1 + s7)) fun x1 =>
  a_jn (fun (s8 : Int) => a_jn (fun (s9 : Int) => a_bd (a_w (s4.2.2.2 + 1)) fun x2 =>
  n45 (x1, s9, s8, x2)) fun j188 =>
  a_lp (fun (s10 : Int × Int) => 0) (fun (s10 : Int × Int) n133 => (if s10.2 < (H 134 0) then a_jn (fun (s11 : Int) => a_bd (a_or s10.1 s11) fun x3 =>
  a_bd (a_w (s10.2 + 1)) fun x4 =>
  n133 (x3, x4)) fun j179 =>
  a_jn (fun (s12 : Unit) => j179 0) fun j178 =>
  (if (H 134 (a_w (15 + s10.2))) = s4.2.2.2 then (if s5 = 0 then (if s6 = 0 then j179 (a_shl 1 s10.2)
  else j178 ())
  else j178 ())
  else j178 ())
  else j188 s10.1)) a_fuel (s4.2.1, 0)) fun j128 =>
  a_jn (fun (s13 : Unit) => j128 s4.2.2.1) fun j126 =>
  (if s5 = 0 then j126 ()
  else (if s6 = 0 then j126 ()
  else j128 0))) fun j109 =>
  a_jn (fun (s14 : Unit) => j109 0) fun j104 =>
  (if s5 = 0 then (if s6 = 0 then j109 1
  else j104 ())
  else j104 ())) fun j90 =>
  (if 0 < (fn_115 s4.2.2.2 a1 a2) then j90 1
  else j90 0)) fun j73 =>
  a_jn (fun (s15 : Unit) => j73 0) fun j72 =>
  (if (fn_117 H) = 0 then j72 ()
  else (if (fn_116 s4.2.2.2 H) = 0 then j73 1
  else j72 ()))
  else j194 (s4.1, s4.2.1, s4.2.2.1))) a_fuel (0, 0, 1, 0))))
theorem ti_170_0 : (q_I 170).2 0 = some (0, 0, 0, 1, 0, 1, []) := rfl
theorem ti_170_1 : (q_I 170).2 1 = some (3, 1, 106, 111, 1, 4, [870, 6]) := rfl
theorem ti_170_4 : (q_I 170).2 4 = some (8, 0, 0, 31, 0, 7, []) := rfl
theorem ti_170_7 : (q_I 170).2 7 = some (0, 0, 0, 2, 0, 8, []) := rfl
theorem ti_170_8 : (q_I 170).2 8 = some (14, 4, 0, 0, 0, 9, []) := rfl
theorem ti_170_9 : (q_I 170).2 9 = some (15, 0, 0, 0, 0, 10, []) := rfl
theorem ti_170_10 : (q_I 170).2 10 = some (15, 1, 3, 176, 0, 13, [1006]) := rfl
theorem ti_170_13 : (q_I 170).2 13 = some (3, 1, 51, 108, 3, 16, [867, 6]) := rfl
theorem ti_170_16 : (q_I 170).2 16 = some (8, 0, 0, 31, 0, 19, []) := rfl
theorem ti_170_19 : (q_I 170).2 19 = some (0, 0, 0, 3, 0, 20, []) := rfl
theorem ti_170_20 : (q_I 170).2 20 = some (14, 4, 0, 0, 0, 21, []) := rfl
theorem ti_170_21 : (q_I 170).2 21 = some (15, 0, 0, 0, 0, 22, []) := rfl
theorem ti_170_22 : (q_I 170).2 22 = some (15, 1, 2, 196, 0, 25, [1064]) := rfl
theorem ti_170_25 : (q_I 170).2 25 = some (3, 1, 51, 108, 3, 28, [867, 6]) := rfl
theorem ti_170_28 : (q_I 170).2 28 = some (8, 1, 0, 33, 0, 31, []) := rfl
theorem ti_170_33 : (q_I 170).2 33 = some (2, 0, 0, 0, 0, 34, []) := rfl
theorem ti_170_34 : (q_I 170).2 34 = some (11, 1, 0, 4, 0, 36, []) := rfl
theorem ti_170_36 : (q_I 170).2 36 = some (2, 0, 0, 0, 0, 37, []) := rfl
theorem ti_170_37 : (q_I 170).2 37 = some (11, 1, 0, 5, 0, 39, []) := rfl
theorem ti_170_39 : (q_I 170).2 39 = some (2, 0, 1, 0, 0, 40, []) := rfl
theorem ti_170_40 : (q_I 170).2 40 = some (11, 1, 0, 6, 0, 42, []) := rfl
theorem ti_170_42 : (q_I 170).2 42 = some (2, 0, 0, 0, 0, 43, []) := rfl
theorem ti_170_43 : (q_I 170).2 43 = some (11, 1, 0, 7, 0, 45, []) := rfl
theorem ti_170_45 : (q_I 170).2 45 = some (0, 1, 0, 7, 0, 47, []) := rfl
theorem ti_170_47 : (q_I 170).2 47 = some (2, 1, 36, 0, 0, 49, []) := rfl
theorem ti_170_49 : (q_I 170).2 49 = some (9, 3, 0, 194, 0, 52, []) := rfl
theorem ti_170_52 : (q_I 170).2 52 = some (0, 4, 0, 0, 2, 53, []) := rfl
theorem ti_170_53 : (q_I 170).2 53 = some (3, 0, 76, 117, 1, 56, [891, 6]) := rfl
theorem ti_170_56 : (q_I 170).2 56 = some (8, 0, 0, 72, 0, 59, []) := rfl
theorem ti_170_59 : (q_I 170).2 59 = some (0, 4, 0, 0, 2, 60, []) := rfl
theorem ti_170_60 : (q_I 170).2 60 = some (0, 1, 0, 7, 0, 62, []) := rfl
theorem ti_170_62 : (q_I 170).2 62 = some (3, 0, 65, 116, 2, 65, [903, 6]) := rfl
theorem ti_170_65 : (q_I 170).2 65 = some (8, 1, 0, 72, 0, 68, []) := rfl
theorem ti_170_68 : (q_I 170).2 68 = some (2, 0, 1, 0, 0, 69, []) := rfl
theorem ti_170_69 : (q_I 170).2 69 = some (7, 0, 0, 73, 0, 72, []) := rfl
theorem ti_170_72 : (q_I 170).2 72 = some (2, 0, 0, 0, 0, 73, []) := rfl
theorem ti_170_73 : (q_I 170).2 73 = some (11, 1, 0, 8, 0, 75, []) := rfl
theorem ti_170_75 : (q_I 170).2 75 = some (0, 1, 0, 7, 0, 77, []) := rfl
theorem ti_170_77 : (q_I 170).2 77 = some (0, 0, 0, 1, 0, 78, []) := rfl
theorem ti_170_78 : (q_I 170).2 78 = some (0, 0, 0, 2, 0, 79, []) := rfl
theorem ti_170_79 : (q_I 170).2 79 = some (3, 1, 61, 115, 3, 82, [907, 6]) := rfl
theorem ti_170_82 : (q_I 170).2 82 = some (8, 5, 0, 89, 0, 85, []) := rfl
theorem ti_170_85 : (q_I 170).2 85 = some (2, 0, 1, 0, 0, 86, []) := rfl
theorem ti_170_86 : (q_I 170).2 86 = some (7, 0, 0, 90, 0, 89, []) := rfl
theorem ti_170_89 : (q_I 170).2 89 = some (2, 0, 0, 0, 0, 90, []) := rfl
theorem ti_170_90 : (q_I 170).2 90 = some (11, 1, 0, 9, 0, 92, []) := rfl
theorem ti_170_92 : (q_I 170).2 92 = some (0, 1, 0, 4, 0, 94, []) := rfl
theorem ti_170_94 : (q_I 170).2 94 = some (0, 1, 0, 8, 0, 96, []) := rfl
theorem ti_170_96 : (q_I 170).2 96 = some (8, 1, 0, 104, 0, 99, []) := rfl
theorem ti_170_99 : (q_I 170).2 99 = some (0, 1, 0, 9, 0, 101, []) := rfl
theorem ti_170_101 : (q_I 170).2 101 = some (8, 0, 0, 108, 0, 104, []) := rfl
theorem ti_170_108 : (q_I 170).2 108 = some (2, 0, 1, 0, 0, 109, []) := rfl
theorem ti_170_104 : (q_I 170).2 104 = some (2, 0, 0, 0, 0, 105, []) := rfl
theorem ti_170_105 : (q_I 170).2 105 = some (7, 0, 0, 109, 0, 108, []) := rfl
theorem ti_170_109 : (q_I 170).2 109 = some (6, 0, 0, 0, 0, 110, []) := rfl
theorem ti_170_110 : (q_I 170).2 110 = some (11, 1, 0, 4, 0, 112, []) := rfl
theorem ti_170_112 : (q_I 170).2 112 = some (0, 1, 0, 8, 0, 114, []) := rfl
theorem ti_170_114 : (q_I 170).2 114 = some (8, 0, 0, 126, 0, 117, []) := rfl
theorem ti_170_117 : (q_I 170).2 117 = some (0, 1, 0, 9, 0, 119, []) := rfl
theorem ti_170_119 : (q_I 170).2 119 = some (8, 0, 0, 126, 0, 122, []) := rfl
theorem ti_170_122 : (q_I 170).2 122 = some (2, 0, 0, 0, 0, 123, []) := rfl
theorem ti_170_123 : (q_I 170).2 123 = some (7, 0, 0, 128, 0, 126, []) := rfl
theorem ti_170_126 : (q_I 170).2 126 = some (0, 1, 0, 6, 0, 128, []) := rfl
theorem ti_170_128 : (q_I 170).2 128 = some (11, 1, 0, 6, 0, 130, []) := rfl
theorem ti_170_130 : (q_I 170).2 130 = some (2, 0, 0, 0, 0, 131, []) := rfl
theorem ti_170_131 : (q_I 170).2 131 = some (11, 1, 0, 10, 0, 133, []) := rfl
theorem ti_170_133 : (q_I 170).2 133 = some (0, 1, 0, 10, 0, 135, []) := rfl
theorem ti_170_135 : (q_I 170).2 135 = some (0, 4, 0, 0, 2, 136, []) := rfl
theorem ti_170_136 : (q_I 170).2 136 = some (1, 0, 7, 6, 0, 139, [795]) := rfl
theorem ti_170_139 : (q_I 170).2 139 = some (2, 0, 0, 0, 0, 140, []) := rfl
theorem ti_170_140 : (q_I 170).2 140 = some (5, 10, 0, 0, 0, 141, []) := rfl
theorem ti_170_141 : (q_I 170).2 141 = some (9, 3, 0, 188, 0, 144, []) := rfl
theorem ti_170_144 : (q_I 170).2 144 = some (0, 1, 0, 5, 0, 146, []) := rfl
theorem ti_170_146 : (q_I 170).2 146 = some (0, 4, 0, 0, 2, 147, []) := rfl
theorem ti_170_147 : (q_I 170).2 147 = some (1, 0, 7, 6, 0, 150, [795]) := rfl
theorem ti_170_150 : (q_I 170).2 150 = some (2, 1, 15, 0, 0, 152, []) := rfl
theorem ti_170_152 : (q_I 170).2 152 = some (0, 1, 0, 10, 0, 154, []) := rfl
theorem ti_170_154 : (q_I 170).2 154 = some (6, 0, 0, 0, 0, 155, []) := rfl
theorem ti_170_155 : (q_I 170).2 155 = some (5, 10, 0, 0, 0, 156, []) := rfl
theorem ti_170_156 : (q_I 170).2 156 = some (0, 1, 0, 7, 0, 158, []) := rfl
theorem ti_170_158 : (q_I 170).2 158 = some (9, 1, 0, 178, 0, 161, []) := rfl
theorem ti_170_161 : (q_I 170).2 161 = some (0, 1, 0, 8, 0, 163, []) := rfl
theorem ti_170_163 : (q_I 170).2 163 = some (8, 1, 0, 178, 0, 166, []) := rfl
theorem ti_170_166 : (q_I 170).2 166 = some (0, 1, 0, 9, 0, 168, []) := rfl
theorem ti_170_168 : (q_I 170).2 168 = some (8, 1, 0, 178, 0, 171, []) := rfl
theorem ti_170_171 : (q_I 170).2 171 = some (2, 0, 1, 0, 0, 172, []) := rfl
theorem ti_170_172 : (q_I 170).2 172 = some (0, 1, 0, 10, 0, 174, []) := rfl
theorem ti_170_174 : (q_I 170).2 174 = some (6, 8, 0, 0, 0, 175, []) := rfl
theorem ti_170_175 : (q_I 170).2 175 = some (7, 0, 0, 179, 0, 178, []) := rfl
theorem ti_170_178 : (q_I 170).2 178 = some (2, 0, 0, 0, 0, 179, []) := rfl
theorem ti_170_179 : (q_I 170).2 179 = some (6, 6, 0, 0, 0, 180, []) := rfl
theorem ti_170_180 : (q_I 170).2 180 = some (11, 1, 0, 5, 0, 182, []) := rfl
theorem ti_170_182 : (q_I 170).2 182 = some (13, 0, 1, 10, 0, 185, []) := rfl
theorem ti_170_185 : (q_I 170).2 185 = some (7, 0, 0, 133, 0, 188, []) := rfl
theorem ti_170_188 : (q_I 170).2 188 = some (13, 0, 1, 7, 0, 191, []) := rfl
theorem ti_170_191 : (q_I 170).2 191 = some (7, 0, 0, 45, 0, 194, []) := rfl
theorem ti_170_194 : (q_I 170).2 194 = some (0, 0, 0, 3, 0, 195, []) := rfl
theorem ti_170_195 : (q_I 170).2 195 = some (8, 1, 0, 203, 0, 198, []) := rfl
theorem ti_170_198 : (q_I 170).2 198 = some (0, 1, 0, 4, 0, 200, []) := rfl
theorem ti_170_200 : (q_I 170).2 200 = some (7, 0, 0, 215, 0, 203, []) := rfl
theorem ti_170_203 : (q_I 170).2 203 = some (0, 0, 0, 3, 0, 204, []) := rfl
theorem ti_170_204 : (q_I 170).2 204 = some (2, 0, 1, 0, 0, 205, []) := rfl
theorem ti_170_205 : (q_I 170).2 205 = some (9, 1, 0, 213, 0, 208, []) := rfl
theorem ti_170_208 : (q_I 170).2 208 = some (0, 1, 0, 5, 0, 210, []) := rfl
theorem ti_170_210 : (q_I 170).2 210 = some (7, 0, 0, 215, 0, 213, []) := rfl
theorem ti_170_213 : (q_I 170).2 213 = some (0, 1, 0, 6, 0, 215, []) := rfl
theorem ti_170_215 : (q_I 170).2 215 = some (4, 0, 0, 0, 0, 216, []) := rfl
theorem ti_170_31 : (q_I 170).2 31 = some (2, 0, (-1), 0, 0, 32, []) := rfl
theorem ti_170_32 : (q_I 170).2 32 = some (4, 0, 0, 0, 0, 33, []) := rfl
theorem mt_170 (a1 : Int) (a2 : Int) (a3 : Int) (H : a_P) : a_mt (a_pp H) 0 170 [(2, 133), (0, a1), (0, a2), (0, a3)] H (fn_170 a1 a2 a3 H) := by
  refine a_mtI (lo := [some (2, 133), some (0, a1), some (0, a2), some (0, a3), none, none, none, none, none, none, none]) rfl fun d => ?_
  unfold fn_170
  refine a_w0 (Nat.le_succ _) ti_170_0 rfl ?_
  refine a_w3p (args := [(0, a1)]) (Nat.le_succ _) ti_170_1 (mt_111 a1 H) rfl rfl rfl rfl ?_
  refine a_wjn 31 (fun (s : Unit) => [none, none, none, none, none, none, none, none, none, none, none]) (fun (s : Unit) => []) (fun (s : Unit) => H) (fun s1 => ?_) (fun j31 hj31 => ?_)
  · refine a_w2 (z := (-1)) (Nat.le_succ _) ti_170_31 (by decide) ?_
    exact a_w4 (Nat.le_succ _) ti_170_32 rfl rfl rfl
  · refine a_w8_0 (Nat.le_succ _) ti_170_4 ?_ ?_
    · exact a_wk (hj31 ()) (by omega) trivial
    · refine a_w0 (Nat.le_succ _) ti_170_7 rfl ?_
      refine a_w14 (a := (1, a2)) (Nat.le_succ _) ti_170_8 rfl ?_
      refine a_w15 (z := 0) (Nat.le_succ _) ti_170_9 (by decide) ?_
      refine a_w15 (z := 3) (Nat.le_succ _) ti_170_10 (by decide) ?_
      refine a_w3p (args := [(1, a2), (1, 0), (1, 3)]) (Nat.le_succ _) ti_170_13 (mt_108 a2 0 3 H) rfl rfl rfl rfl ?_
      refine a_w8_0 (Nat.le_succ _) ti_170_16 ?_ ?_
      · exact a_wk (hj31 ()) (by omega) trivial
      · refine a_w0 (Nat.le_succ _) ti_170_19 rfl ?_
        refine a_w14 (a := (1, a3)) (Nat.le_succ _) ti_170_20 rfl ?_
        refine a_w15 (z := 0) (Nat.le_succ _) ti_170_21 (by decide) ?_
        refine a_w15 (z := 2) (Nat.le_succ _) ti_170_22 (by decide) ?_
        refine a_w3p (args := [(1, a3), (1, 0), (1, 2)]) (Nat.le_succ _) ti_170_25 (mt_108 a3 0 2 H) rfl rfl rfl rfl ?_
        refine a_w8_1 (Nat.le_succ _) ti_170_28 ?_ ?_
        · refine a_w2 (z := 0) (Nat.le_succ _) ti_170_33 (by decide) ?_
          refine a_w11 (lo' := [some (2, 133), some (0, a1), some (0, a2), some (0, a3), some (0, 0), none, none, none, none, none, none]) (Nat.le_succ _) ti_170_34 rfl ?_
          refine a_w2 (z := 0) (Nat.le_succ _) ti_170_36 (by decide) ?_
          refine a_w11 (lo' := [some (2, 133), some (0, a1), some (0, a2), some (0, a3), some (0, 0), some (0, 0), none, none, none, none, none]) (Nat.le_succ _) ti_170_37 rfl ?_
          refine a_w2 (z := 1) (Nat.le_succ _) ti_170_39 (by decide) ?_
          refine a_w11 (lo' := [some (2, 133), some (0, a1), some (0, a2), some (0, a3), some (0, 0), some (0, 0), some (0, 1), none, none, none, none]) (Nat.le_succ _) ti_170_40 rfl ?_
          refine a_w2 (z := 0) (Nat.le_succ _) ti_170_42 (by decide) ?_
          refine a_w11 (lo' := [some (2, 133), some (0, a1), some (0, a2), some (0, a3), some (0, 0), some (0, 0), some (0, 1), some (0, 0), none, none, none]) (Nat.le_succ _) ti_170_43 rfl ?_
          refine a_wjn 194 (fun (s : Int × Int × Int) => [none, none, none, some (0, a3), some (0, s.1), some (0, s.2.1), some (0, s.2.2), none, none, none, none]) (fun (s : Int × Int × Int) => []) (fun (s : Int × Int × Int) => H) (fun s2 => ?_) (fun j194 hj194 => ?_)
          · refine a_w0 (Nat.le_succ _) ti_170_194 rfl ?_
            refine a_wjn 215 (fun (s : Int) => [none, none, none, none, none, none, none, none, none, none, none]) (fun (s : Int) => [(0, s)]) (fun (s : Int) => H) (fun s3 => ?_) (fun j215 hj215 => ?_)
            · exact a_w4 (Nat.le_succ _) ti_170_215 rfl rfl rfl
            · refine a_w8_1 (Nat.le_succ _) ti_170_195 ?_ ?_
              · refine a_w0 (Nat.le_succ _) ti_170_203 rfl ?_
                refine a_w2 (z := 1) (Nat.le_succ _) ti_170_204 (by decide) ?_
                refine a_w9_1 (Nat.le_succ _) ti_170_205 ?_ ?_
                · refine a_w0 (Nat.le_succ _) ti_170_213 rfl ?_
                  exact a_wk (hj215 s2.2.2) (by omega) trivial
                · refine a_w0 (Nat.le_succ _) ti_170_208 rfl ?_
                  refine a_w7 (Nat.le_succ _) ti_170_210 ?_
                  exact a_wk (hj215 s2.2.1) (by omega) trivial
              · refine a_w0 (Nat.le_succ _) ti_170_198 rfl ?_
                refine a_w7 (Nat.le_succ _) ti_170_200 ?_
                exact a_wk (hj215 s2.1) (by omega) trivial
          · refine a_wk (a_wlp (fun (s : Int × Int × Int × Int) => [some (2, 133), some (0, a1), some (0, a2), some (0, a3), some (0, s.1), some (0, s.2.1), some (0, s.2.2.1), some (0, s.2.2.2), none, none, none]) (fun (s : Int × Int × Int × Int) => H) (fun N1 hN1 n45 hn45 s4 => ?_) a_fuel (a_fuel_le (by omega)) (0, 0, 1, 0)) (Nat.le_refl _) ⟨rfl, rfl, rfl, rfl, rfl, rfl, rfl, rfl, trivial⟩
            · refine a_w0 (Nat.le_refl _) ti_170_45 rfl ?_
              refine a_w2 (z := 36) (Nat.le_succ _) ti_170_47 (by decide) ?_
              refine a_w9_3 (Nat.le_succ _) ti_170_49 ?_ ?_
              · exact a_wk (hj194 (s4.1, s4.2.1, s4.2.2.1)) (by omega) ⟨rfl, rfl, rfl, rfl, trivial⟩
              · refine a_w0 (Nat.le_succ _) ti_170_52 rfl ?_
                refine a_w3p (args := [(2, 133)]) (Nat.le_succ _) ti_170_53 (mt_117 H) rfl rfl rfl rfl ?_
                refine a_wjn 73 (fun (s : Int) => [some (2, 133), some (0, a1), some (0, a2), some (0, a3), some (0, s4.1), some (0, s4.2.1), some (0, s4.2.2.1), some (0, s4.2.2.2), none, none, none]) (fun (s : Int) => [(0, s)]) (fun (s : Int) => H) (fun s5 => ?_) (fun j73 hj73 => ?_)
                · refine a_w11 (lo' := [some (2, 133), some (0, a1), some (0, a2), some (0, a3), some (0, s4.1), some (0, s4.2.1), some (0, s4.2.2.1), some (0, s4.2.2.2), some (0, s5), none, none]) (Nat.le_succ _) ti_170_73 rfl ?_
                  refine a_w0 (Nat.le_succ _) ti_170_75 rfl ?_
                  refine a_w0 (Nat.le_succ _) ti_170_77 rfl ?_
                  refine a_w0 (Nat.le_succ _) ti_170_78 rfl ?_
                  refine a_w3p (args := [(0, s4.2.2.2), (0, a1), (0, a2)]) (Nat.le_succ _) ti_170_79 (mt_115 s4.2.2.2 a1 a2 H) rfl rfl rfl rfl ?_
                  refine a_wjn 90 (fun (s : Int) => [some (2, 133), some (0, a1), some (0, a2), some (0, a3), some (0, s4.1), some (0, s4.2.1), some (0, s4.2.2.1), some (0, s4.2.2.2), some (0, s5), none, none]) (fun (s : Int) => [(0, s)]) (fun (s : Int) => H) (fun s6 => ?_) (fun j90 hj90 => ?_)
                  · refine a_w11 (lo' := [some (2, 133), some (0, a1), some (0, a2), some (0, a3), some (0, s4.1), some (0, s4.2.1), some (0, s4.2.2.1), some (0, s4.2.2.2), some (0, s5), some (0, s6), none]) (Nat.le_succ _) ti_170_90 rfl ?_
                    refine a_w0 (Nat.le_succ _) ti_170_92 rfl ?_
                    refine a_w0 (Nat.le_succ _) ti_170_94 rfl ?_
                    refine a_wjn 109 (fun (s : Int) => [some (2, 133), some (0, a1), some (0, a2), some (0, a3), none, some (0, s4.2.1), some (0, s4.2.2.1), some (0, s4.2.2.2), some (0, s5), some (0, s6), none]) (fun (s : Int) => [(0, s), (0, s4.1)]) (fun (s : Int) => H) (fun s7 => ?_) (fun j109 hj109 => ?_)
                    · refine a_w6 (a := (0, a_w (s4.1 + s7))) (Nat.le_succ _) ti_170_109 rfl ?_
                      refine a_w11b (lof := fun x1 => [some (2, 133), some (0, a1), some (0, a2), some (0, a3), some (0, x1), some (0, s4.2.1), some (0, s4.2.2.1), some (0, s4.2.2.2), some (0, s5), some (0, s6), none]) (Nat.le_succ _) ti_170_110 (fun _ => rfl) (fun x1 => ?_)
                      refine a_w0 (Nat.le_succ _) ti_170_112 rfl ?_
                      refine a_wjn 128 (fun (s : Int) => [some (2, 133), some (0, a1), some (0, a2), some (0, a3), some (0, x1), some (0, s4.2.1), none, some (0, s4.2.2.2), some (0, s5), some (0, s6), none]) (fun (s : Int) => [(0, s)]) (fun (s : Int) => H) (fun s8 => ?_) (fun j128 hj128 => ?_)
                      · refine a_w11 (lo' := [some (2, 133), some (0, a1), some (0, a2), some (0, a3), some (0, x1), some (0, s4.2.1), some (0, s8), some (0, s4.2.2.2), some (0, s5), some (0, s6), none]) (Nat.le_succ _) ti_170_128 rfl ?_
                        refine a_w2 (z := 0) (Nat.le_succ _) ti_170_130 (by decide) ?_
                        refine a_w11 (lo' := [some (2, 133), some (0, a1), some (0, a2), some (0, a3), some (0, x1), some (0, s4.2.1), some (0, s8), some (0, s4.2.2.2), some (0, s5), some (0, s6), some (0, 0)]) (Nat.le_succ _) ti_170_131 rfl ?_
                        refine a_wjn 188 (fun (s : Int) => [some (2, 133), some (0, a1), some (0, a2), some (0, a3), some (0, x1), some (0, s), some (0, s8), some (0, s4.2.2.2), none, none, none]) (fun (s : Int) => []) (fun (s : Int) => H) (fun s9 => ?_) (fun j188 hj188 => ?_)
                        · refine a_w13 (c' := 1) (lof := fun x2 => [some (2, 133), some (0, a1), some (0, a2), some (0, a3), some (0, x1), some (0, s9), some (0, s8), some (0, x2), none, none, none]) (Nat.le_succ _) ti_170_188 rfl (by decide) rfl (fun _ => rfl) (fun x2 => ?_)
                          refine a_w7 (Nat.le_succ _) ti_170_191 ?_
                          exact a_wk (hn45 (x1, s9, s8, x2)) (by omega) ⟨rfl, rfl, rfl, rfl, rfl, rfl, rfl, rfl, trivial⟩
                        · refine a_wk (a_wlp (fun (s : Int × Int) => [some (2, 133), some (0, a1), some (0, a2), some (0, a3), some (0, x1), some (0, s.1), some (0, s8), some (0, s4.2.2.2), some (0, s5), some (0, s6), some (0, s.2)]) (fun (s : Int × Int) => H) (fun N2 hN2 n133 hn133 s10 => ?_) a_fuel (a_fuel_le (by omega)) (s4.2.1, 0)) (Nat.le_refl _) ⟨rfl, rfl, rfl, rfl, rfl, rfl, rfl, rfl, rfl, rfl, rfl, trivial⟩
                          · refine a_w0 (Nat.le_refl _) ti_170_133 rfl ?_
                            refine a_w0 (Nat.le_succ _) ti_170_135 rfl ?_
                            refine a_w1 (a := (2, 134)) (Nat.le_succ _) ti_170_136 rfl ?_
                            refine a_w2 (z := 0) (Nat.le_succ _) ti_170_139 (by decide) ?_
                            refine a_w5 (kk := 0) (Nat.le_succ _) ti_170_140 (fun _ => rfl) ?_
                            refine a_w9_3 (Nat.le_succ _) ti_170_141 ?_ ?_
                            · exact a_wk (hj188 s10.1) (by omega) ⟨rfl, rfl, rfl, rfl, rfl, rfl, rfl, rfl, trivial⟩
                            · refine a_w0 (Nat.le_succ _) ti_170_144 rfl ?_
                              refine a_w0 (Nat.le_succ _) ti_170_146 rfl ?_
                              refine a_w1 (a := (2, 134)) (Nat.le_succ _) ti_170_147 rfl ?_
                              refine a_w2 (z := 15) (Nat.le_succ _) ti_170_150 (by decide) ?_
                              refine a_w0 (Nat.le_succ _) ti_170_152 rfl ?_
                              refine a_w6 (a := (0, a_w (15 + s10.2))) (Nat.le_succ _) ti_170_154 rfl ?_
                              refine a_w5 (kk := 0) (Nat.le_succ _) ti_170_155 (fun _ => rfl) ?_
                              refine a_w0 (Nat.le_succ _) ti_170_156 rfl ?_
                              refine a_wjn 179 (fun (s : Int) => [some (2, 133), some (0, a1), some (0, a2), some (0, a3), some (0, x1), none, some (0, s8), some (0, s4.2.2.2), some (0, s5), some (0, s6), some (0, s10.2)]) (fun (s : Int) => [(0, s), (0, s10.1)]) (fun (s : Int) => H) (fun s11 => ?_) (fun j179 hj179 => ?_)
                              · refine a_w6 (a := (0, a_or s10.1 s11)) (Nat.le_succ _) ti_170_179 rfl ?_
                                refine a_w11b (lof := fun x3 => [some (2, 133), some (0, a1), some (0, a2), some (0, a3), some (0, x1), some (0, x3), some (0, s8), some (0, s4.2.2.2), some (0, s5), some (0, s6), some (0, s10.2)]) (Nat.le_succ _) ti_170_180 (fun _ => rfl) (fun x3 => ?_)
                                refine a_w13 (c' := 1) (lof := fun x4 => [some (2, 133), some (0, a1), some (0, a2), some (0, a3), some (0, x1), some (0, x3), some (0, s8), some (0, s4.2.2.2), some (0, s5), some (0, s6), some (0, x4)]) (Nat.le_succ _) ti_170_182 rfl (by decide) rfl (fun _ => rfl) (fun x4 => ?_)
                                refine a_w7 (Nat.le_succ _) ti_170_185 ?_
                                exact a_wk (hn133 (x3, x4)) (by omega) ⟨rfl, rfl, rfl, rfl, rfl, rfl, rfl, rfl, rfl, rfl, rfl, trivial⟩
                              · refine a_wjn 178 (fun (s : Unit) => [some (2, 133), some (0, a1), some (0, a2), some (0, a3), some (0, x1), none, some (0, s8), some (0, s4.2.2.2), some (0, s5), some (0, s6), some (0, s10.2)]) (fun (s : Unit) => [(0, s10.1)]) (fun (s : Unit) => H) (fun s12 => ?_) (fun j178 hj178 => ?_)
                                · refine a_w2 (z := 0) (Nat.le_succ _) ti_170_178 (by decide) ?_
                                  exact a_wk (hj179 0) (by omega) ⟨rfl, rfl, rfl, rfl, rfl, rfl, rfl, rfl, rfl, rfl, trivial⟩
                                · refine a_w9_1 (Nat.le_succ _) ti_170_158 ?_ ?_
                                  · exact a_wk (hj178 ()) (by omega) ⟨rfl, rfl, rfl, rfl, rfl, rfl, rfl, rfl, rfl, rfl, trivial⟩
                                  · refine a_w0 (Nat.le_succ _) ti_170_161 rfl ?_
                                    refine a_w8_1 (Nat.le_succ _) ti_170_163 ?_ ?_
                                    · exact a_wk (hj178 ()) (by omega) ⟨rfl, rfl, rfl, rfl, rfl, rfl, rfl, rfl, rfl, rfl, trivial⟩
                                    · refine a_w0 (Nat.le_succ _) ti_170_166 rfl ?_
                                      refine a_w8_1 (Nat.le_succ _) ti_170_168 ?_ ?_
                                      · exact a_wk (hj178 ()) (by omega) ⟨rfl, rfl, rfl, rfl, rfl, rfl, rfl, rfl, rfl, rfl, trivial⟩
                                      · refine a_w2 (z := 1) (Nat.le_succ _) ti_170_171 (by decide) ?_
                                        refine a_w0 (Nat.le_succ _) ti_170_172 rfl ?_
                                        refine a_w6 (a := (0, a_shl 1 s10.2)) (Nat.le_succ _) ti_170_174 rfl ?_
                                        refine a_w7 (Nat.le_succ _) ti_170_175 ?_
                                        exact a_wk (hj179 (a_shl 1 s10.2)) (by omega) ⟨rfl, rfl, rfl, rfl, rfl, rfl, rfl, rfl, rfl, rfl, trivial⟩
                      · refine a_wjn 126 (fun (s : Unit) => [some (2, 133), some (0, a1), some (0, a2), some (0, a3), some (0, x1), some (0, s4.2.1), some (0, s4.2.2.1), some (0, s4.2.2.2), some (0, s5), some (0, s6), none]) (fun (s : Unit) => []) (fun (s : Unit) => H) (fun s13 => ?_) (fun j126 hj126 => ?_)
                        · refine a_w0 (Nat.le_succ _) ti_170_126 rfl ?_
                          exact a_wk (hj128 s4.2.2.1) (by omega) ⟨rfl, rfl, rfl, rfl, rfl, rfl, rfl, rfl, rfl, trivial⟩
                        · refine a_w8_0 (Nat.le_succ _) ti_170_114 ?_ ?_
                          · exact a_wk (hj126 ()) (by omega) ⟨rfl, rfl, rfl, rfl, rfl, rfl, rfl, rfl, rfl, rfl, trivial⟩
                          · refine a_w0 (Nat.le_succ _) ti_170_117 rfl ?_
                            refine a_w8_0 (Nat.le_succ _) ti_170_119 ?_ ?_
                            · exact a_wk (hj126 ()) (by omega) ⟨rfl, rfl, rfl, rfl, rfl, rfl, rfl, rfl, rfl, rfl, trivial⟩
                            · refine a_w2 (z := 0) (Nat.le_succ _) ti_170_122 (by decide) ?_
                              refine a_w7 (Nat.le_succ _) ti_170_123 ?_
                              exact a_wk (hj128 0) (by omega) ⟨rfl, rfl, rfl, rfl, rfl, rfl, rfl, rfl, rfl, trivial⟩
                    · refine a_wjn 104 (fun (s : Unit) => [some (2, 133), some (0, a1), some (0, a2), some (0, a3), none, some (0, s4.2.1), some (0, s4.2.2.1), some (0, s4.2.2.2), some (0, s5), some (0, s6), none]) (fun (s : Unit) => [(0, s4.1)]) (fun (s : Unit) => H) (fun s14 => ?_) (fun j104 hj104 => ?_)
                      · refine a_w2 (z := 0) (Nat.le_succ _) ti_170_104 (by decide) ?_
                        refine a_w7 (Nat.le_succ _) ti_170_105 ?_
                        exact a_wk (hj109 0) (by omega) ⟨rfl, rfl, rfl, rfl, rfl, rfl, rfl, rfl, rfl, trivial⟩
                      · refine a_w8_1 (Nat.le_succ _) ti_170_96 ?_ ?_
                        · exact a_wk (hj104 ()) (by omega) ⟨rfl, rfl, rfl, rfl, rfl, rfl, rfl, rfl, rfl, trivial⟩
                        · refine a_w0 (Nat.le_succ _) ti_170_99 rfl ?_
                          refine a_w8_0 (Nat.le_succ _) ti_170_101 ?_ ?_
                          · refine a_w2 (z := 1) (Nat.le_succ _) ti_170_108 (by decide) ?_
                            exact a_wk (hj109 1) (by omega) ⟨rfl, rfl, rfl, rfl, rfl, rfl, rfl, rfl, rfl, trivial⟩
                          · exact a_wk (hj104 ()) (by omega) ⟨rfl, rfl, rfl, rfl, rfl, rfl, rfl, rfl, rfl, trivial⟩
                  · refine a_w8_5 (Nat.le_succ _) ti_170_82 ?_ ?_
                    · refine a_w2 (z := 0) (Nat.le_succ _) ti_170_89 (by decide) ?_
                      exact a_wk (hj90 0) (by omega) ⟨rfl, rfl, rfl, rfl, rfl, rfl, rfl, rfl, rfl, trivial⟩
                    · refine a_w2 (z := 1) (Nat.le_succ _) ti_170_85 (by decide) ?_
                      refine a_w7 (Nat.le_succ _) ti_170_86 ?_
                      exact a_wk (hj90 1) (by omega) ⟨rfl, rfl, rfl, rfl, rfl, rfl, rfl, rfl, rfl, trivial⟩
                · refine a_wjn 72 (fun (s : Unit) => [some (2, 133), some (0, a1), some (0, a2), some (0, a3), some (0, s4.1), some (0, s4.2.1), some (0, s4.2.2.1), some (0, s4.2.2.2), none, none, none]) (fun (s : Unit) => []) (fun (s : Unit) => H) (fun s15 => ?_) (fun j72 hj72 => ?_)
                  · refine a_w2 (z := 0) (Nat.le_succ _) ti_170_72 (by decide) ?_
                    exact a_wk (hj73 0) (by omega) ⟨rfl, rfl, rfl, rfl, rfl, rfl, rfl, rfl, trivial⟩
                  · refine a_w8_0 (Nat.le_succ _) ti_170_56 ?_ ?_
                    · exact a_wk (hj72 ()) (by omega) ⟨rfl, rfl, rfl, rfl, rfl, rfl, rfl, rfl, trivial⟩
                    · refine a_w0 (Nat.le_succ _) ti_170_59 rfl ?_
                      refine a_w0 (Nat.le_succ _) ti_170_60 rfl ?_
                      refine a_w3p (args := [(2, 133), (0, s4.2.2.2)]) (Nat.le_succ _) ti_170_62 (mt_116 s4.2.2.2 H) rfl rfl rfl rfl ?_
                      refine a_w8_1 (Nat.le_succ _) ti_170_65 ?_ ?_
                      · exact a_wk (hj72 ()) (by omega) ⟨rfl, rfl, rfl, rfl, rfl, rfl, rfl, rfl, trivial⟩
                      · refine a_w2 (z := 1) (Nat.le_succ _) ti_170_68 (by decide) ?_
                        refine a_w7 (Nat.le_succ _) ti_170_69 ?_
                        exact a_wk (hj73 1) (by omega) ⟨rfl, rfl, rfl, rfl, rfl, rfl, rfl, rfl, trivial⟩
        · exact a_wk (hj31 ()) (by omega) trivial
/-- CarriedGateModel.part(JJI)I -/
noncomputable def fn_171 (a0 : Int) (a1 : Int) (a2 : Int) : Int :=
  a_jn (fun (s1 : Int) => a_jn (fun (s2 : Int) => a_w (a_ldv s2 s1)) fun j41 =>
  (if a2 = 0 then j41 a0
  else j41 a1)) fun j31 =>
  a_lp (fun (s3 : Int × Int) => 0) (fun (s3 : Int × Int) n6 => (if (s_lc s3.2 0) = 0 then j31 s3.1
  else a_bd (a_lrm s3.1 s3.2) fun x1 =>
  n6 (s3.2, x1))) a_fuel (a0, a1)
theorem ti_171_0 : (q_I 171).2 0 = some (0, 2, 0, 0, 1, 1, []) := rfl
theorem ti_171_1 : (q_I 171).2 1 = some (11, 3, 0, 5, 1, 3, []) := rfl
theorem ti_171_3 : (q_I 171).2 3 = some (0, 2, 0, 2, 1, 4, []) := rfl
theorem ti_171_4 : (q_I 171).2 4 = some (11, 3, 0, 7, 1, 6, []) := rfl
theorem ti_171_6 : (q_I 171).2 6 = some (0, 3, 0, 7, 1, 8, []) := rfl
theorem ti_171_8 : (q_I 171).2 8 = some (15, 0, 0, 0, 0, 9, []) := rfl
theorem ti_171_9 : (q_I 171).2 9 = some (6, 19, 0, 0, 0, 10, []) := rfl
theorem ti_171_10 : (q_I 171).2 10 = some (8, 0, 0, 31, 0, 13, []) := rfl
theorem ti_171_13 : (q_I 171).2 13 = some (0, 3, 0, 5, 1, 15, []) := rfl
theorem ti_171_15 : (q_I 171).2 15 = some (0, 3, 0, 7, 1, 17, []) := rfl
theorem ti_171_17 : (q_I 171).2 17 = some (6, 15, 0, 0, 0, 18, []) := rfl
theorem ti_171_18 : (q_I 171).2 18 = some (11, 3, 0, 9, 1, 20, []) := rfl
theorem ti_171_20 : (q_I 171).2 20 = some (0, 3, 0, 7, 1, 22, []) := rfl
theorem ti_171_22 : (q_I 171).2 22 = some (11, 3, 0, 5, 1, 24, []) := rfl
theorem ti_171_24 : (q_I 171).2 24 = some (0, 3, 0, 9, 1, 26, []) := rfl
theorem ti_171_26 : (q_I 171).2 26 = some (11, 3, 0, 7, 1, 28, []) := rfl
theorem ti_171_28 : (q_I 171).2 28 = some (7, 0, 0, 6, 0, 31, []) := rfl
theorem ti_171_31 : (q_I 171).2 31 = some (0, 1, 0, 4, 0, 33, []) := rfl
theorem ti_171_33 : (q_I 171).2 33 = some (8, 1, 0, 40, 0, 36, []) := rfl
theorem ti_171_36 : (q_I 171).2 36 = some (0, 2, 0, 0, 1, 37, []) := rfl
theorem ti_171_37 : (q_I 171).2 37 = some (7, 0, 0, 41, 0, 40, []) := rfl
theorem ti_171_40 : (q_I 171).2 40 = some (0, 2, 0, 2, 1, 41, []) := rfl
theorem ti_171_41 : (q_I 171).2 41 = some (0, 3, 0, 5, 1, 43, []) := rfl
theorem ti_171_43 : (q_I 171).2 43 = some (6, 14, 0, 0, 0, 44, []) := rfl
theorem ti_171_44 : (q_I 171).2 44 = some (14, 5, 0, 0, 0, 45, []) := rfl
theorem ti_171_45 : (q_I 171).2 45 = some (4, 0, 0, 0, 0, 46, []) := rfl
theorem mt_171 (a0 : Int) (a1 : Int) (a2 : Int) (H : a_P) : a_mt (a_pp H) 0 171 [(1, a0), (1, a1), (0, a2)] H (fn_171 a0 a1 a2) := by
  refine a_mtI (lo := [some (1, a0), none, some (1, a1), none, some (0, a2), none, none, none, none, none, none]) rfl fun d => ?_
  unfold fn_171
  refine a_w0 (Nat.le_succ _) ti_171_0 rfl ?_
  refine a_w11 (lo' := [some (1, a0), none, some (1, a1), none, some (0, a2), some (1, a0), none, none, none, none, none]) (Nat.le_succ _) ti_171_1 rfl ?_
  refine a_w0 (Nat.le_succ _) ti_171_3 rfl ?_
  refine a_w11 (lo' := [some (1, a0), none, some (1, a1), none, some (0, a2), some (1, a0), none, some (1, a1), none, none, none]) (Nat.le_succ _) ti_171_4 rfl ?_
  refine a_wjn 31 (fun (s : Int) => [some (1, a0), none, some (1, a1), none, some (0, a2), some (1, s), none, none, none, none, none]) (fun (s : Int) => []) (fun (s : Int) => H) (fun s1 => ?_) (fun j31 hj31 => ?_)
  · refine a_w0 (Nat.le_succ _) ti_171_31 rfl ?_
    refine a_wjn 41 (fun (s : Int) => [none, none, none, none, none, some (1, s1), none, none, none, none, none]) (fun (s : Int) => [(1, s)]) (fun (s : Int) => H) (fun s2 => ?_) (fun j41 hj41 => ?_)
    · refine a_w0 (Nat.le_succ _) ti_171_41 rfl ?_
      refine a_w6 (a := (1, a_ldv s2 s1)) (Nat.le_succ _) ti_171_43 rfl ?_
      refine a_w14 (a := (0, a_w (a_ldv s2 s1))) (Nat.le_succ _) ti_171_44 rfl ?_
      exact a_w4 (Nat.le_succ _) ti_171_45 rfl rfl rfl
    · refine a_w8_1 (Nat.le_succ _) ti_171_33 ?_ ?_
      · refine a_w0 (Nat.le_succ _) ti_171_40 rfl ?_
        exact a_wk (hj41 a1) (by omega) ⟨rfl, trivial⟩
      · refine a_w0 (Nat.le_succ _) ti_171_36 rfl ?_
        refine a_w7 (Nat.le_succ _) ti_171_37 ?_
        exact a_wk (hj41 a0) (by omega) ⟨rfl, trivial⟩
  · refine a_wk (a_wlp (fun (s : Int × Int) => [some (1, a0), none, some (1, a1), none, some (0, a2), some (1, s.1), none, some (1, s.2), none, none, none]) (fun (s : Int × Int) => H) (fun N1 hN1 n6 hn6 s3 => ?_) a_fuel (a_fuel_le (by omega)) (a0, a1)) (Nat.le_refl _) ⟨rfl, rfl, rfl, rfl, rfl, trivial⟩
    · refine a_w0 (Nat.le_refl _) ti_171_6 rfl ?_
      refine a_w15 (z := 0) (Nat.le_succ _) ti_171_8 (by decide) ?_
      refine a_w6 (a := (0, s_lc s3.2 0)) (Nat.le_succ _) ti_171_9 rfl ?_
      refine a_w8_0 (Nat.le_succ _) ti_171_10 ?_ ?_
      · exact a_wk (hj31 s3.1) (by omega) ⟨rfl, rfl, rfl, rfl, trivial⟩
      · refine a_w0 (Nat.le_succ _) ti_171_13 rfl ?_
        refine a_w0 (Nat.le_succ _) ti_171_15 rfl ?_
        refine a_w6 (a := (1, a_lrm s3.1 s3.2)) (Nat.le_succ _) ti_171_17 rfl ?_
        refine a_w11b (lof := fun x1 => [some (1, a0), none, some (1, a1), none, some (0, a2), some (1, s3.1), none, some (1, s3.2), none, some (1, x1), none]) (Nat.le_succ _) ti_171_18 (fun _ => rfl) (fun x1 => ?_)
        refine a_w0 (Nat.le_succ _) ti_171_20 rfl ?_
        refine a_w11 (lo' := [some (1, a0), none, some (1, a1), none, some (0, a2), some (1, s3.2), none, some (1, s3.2), none, some (1, x1), none]) (Nat.le_succ _) ti_171_22 rfl ?_
        refine a_w0 (Nat.le_succ _) ti_171_24 rfl ?_
        refine a_w11 (lo' := [some (1, a0), none, some (1, a1), none, some (0, a2), some (1, s3.2), none, some (1, x1), none, some (1, x1), none]) (Nat.le_succ _) ti_171_26 rfl ?_
        refine a_w7 (Nat.le_succ _) ti_171_28 ?_
        exact a_wk (hn6 (s3.2, x1)) (by omega) ⟨rfl, rfl, rfl, rfl, rfl, trivial⟩
/-- CarriedGateModel.dry(IIIII)I -/
noncomputable def fn_172 (a1 : Int) (a2 : Int) (a3 : Int) (a4 : Int) (a5 : Int) (H : a_P) : a_F :=
  a_jn (fun (s1 : Unit) => ((-1), H)) fun j56 =>
  (if (fn_110 a1 H) = 0 then j56 ()
  else (if (fn_108 a2 0 99) = 0 then j56 ()
  else (if (fn_108 a3 0 6) = 0 then j56 ()
  else (if (fn_108 a4 0 10) = 0 then j56 ()
  else (if (fn_108 a5 0 1) = 0 then j56 ()
  else a_bd (fn_153 H) fun H1 =>
  a_jn (fun (s2 : Int × Int × a_P) => (fn_171 s2.1 s2.2.1 a5, s2.2.2)) fun j184 =>
  a_lp (fun (s3 : Int × Int × Int × a_P) => (0, s3.2.2.2)) (fun (s3 : Int × Int × Int × a_P) n71 => (if s3.2.2.1 < (a_shl 1 a3) then a_jn (fun (s4 : Int × a_P) => a_bd (a_wl (s3.2.1 + s4.1)) fun x1 =>
  a_jn (fun (s5 : Int) => a_bd (a_wl (s3.1 + s5)) fun x2 =>
  a_bd (fn_154 s4.2) fun H2 =>
  a_bd (a_w (s3.2.2.1 + 1)) fun x3 =>
  n71 (x2, x1, x3, H2)) fun j171 =>
  (if a2 < (s4.2 134 (a_w (39 + a1))) then j171 0
  else j171 s4.1)) fun j143 =>
  a_lp (fun (s6 : Int × Int × a_P) => (0, s6.2.2)) (fun (s6 : Int × Int × a_P) n85 => (if s6.2.1 < a3 then a_jn (fun (s7 : Int) => a_jn (fun (s8 : Int) => a_bd (a_wl (s6.1 * s8)) fun x4 =>
  a_bd (fn_123 s7 s6.2.2) fun H3 =>
  a_bd (a_w (s6.2.1 + 1)) fun x5 =>
  n85 (x4, x5, H3)) fun j128 =>
  (if s7 = 0 then j128 (a_w (10 - a4))
  else j128 a4)) fun j107 =>
  (if (a_and (a_shr s3.2.2.1 s6.2.1) 1) = 1 then j107 1
  else j107 0)
  else j143 (s6.1, s6.2.2))) a_fuel (1, 0, s3.2.2.2)
  else j184 (s3.1, s3.2.1, s3.2.2.2))) a_fuel (0, 0, 0, H1))))))
theorem ti_172_0 : (q_I 172).2 0 = some (0, 4, 0, 0, 2, 1, []) := rfl
theorem ti_172_1 : (q_I 172).2 1 = some (0, 0, 0, 1, 0, 2, []) := rfl
theorem ti_172_2 : (q_I 172).2 2 = some (3, 0, 115, 110, 2, 5, [883, 6]) := rfl
theorem ti_172_5 : (q_I 172).2 5 = some (8, 0, 0, 56, 0, 8, []) := rfl
theorem ti_172_8 : (q_I 172).2 8 = some (0, 0, 0, 2, 0, 9, []) := rfl
theorem ti_172_9 : (q_I 172).2 9 = some (14, 4, 0, 0, 0, 10, []) := rfl
theorem ti_172_10 : (q_I 172).2 10 = some (15, 0, 0, 0, 0, 11, []) := rfl
theorem ti_172_11 : (q_I 172).2 11 = some (15, 1, 99, 227, 0, 14, [1121]) := rfl
theorem ti_172_14 : (q_I 172).2 14 = some (3, 1, 51, 108, 3, 17, [867, 6]) := rfl
theorem ti_172_17 : (q_I 172).2 17 = some (8, 0, 0, 56, 0, 20, []) := rfl
theorem ti_172_20 : (q_I 172).2 20 = some (0, 0, 0, 3, 0, 21, []) := rfl
theorem ti_172_21 : (q_I 172).2 21 = some (14, 4, 0, 0, 0, 22, []) := rfl
theorem ti_172_22 : (q_I 172).2 22 = some (15, 0, 0, 0, 0, 23, []) := rfl
theorem ti_172_23 : (q_I 172).2 23 = some (15, 1, 6, 229, 0, 26, [1122]) := rfl
theorem ti_172_26 : (q_I 172).2 26 = some (3, 1, 51, 108, 3, 29, [867, 6]) := rfl
theorem ti_172_29 : (q_I 172).2 29 = some (8, 0, 0, 56, 0, 32, []) := rfl
theorem ti_172_32 : (q_I 172).2 32 = some (0, 1, 0, 4, 0, 34, []) := rfl
theorem ti_172_34 : (q_I 172).2 34 = some (14, 4, 0, 0, 0, 35, []) := rfl
theorem ti_172_35 : (q_I 172).2 35 = some (15, 0, 0, 0, 0, 36, []) := rfl
theorem ti_172_36 : (q_I 172).2 36 = some (15, 1, 10, 231, 0, 39, [1123]) := rfl
theorem ti_172_39 : (q_I 172).2 39 = some (3, 1, 51, 108, 3, 42, [867, 6]) := rfl
theorem ti_172_42 : (q_I 172).2 42 = some (8, 0, 0, 56, 0, 45, []) := rfl
theorem ti_172_45 : (q_I 172).2 45 = some (0, 1, 0, 5, 0, 47, []) := rfl
theorem ti_172_47 : (q_I 172).2 47 = some (14, 4, 0, 0, 0, 48, []) := rfl
theorem ti_172_48 : (q_I 172).2 48 = some (15, 0, 0, 0, 0, 49, []) := rfl
theorem ti_172_49 : (q_I 172).2 49 = some (15, 0, 1, 0, 0, 50, []) := rfl
theorem ti_172_50 : (q_I 172).2 50 = some (3, 1, 51, 108, 3, 53, [867, 6]) := rfl
theorem ti_172_53 : (q_I 172).2 53 = some (8, 1, 0, 58, 0, 56, []) := rfl
theorem ti_172_58 : (q_I 172).2 58 = some (15, 0, 0, 0, 0, 59, []) := rfl
theorem ti_172_59 : (q_I 172).2 59 = some (11, 3, 0, 6, 1, 61, []) := rfl
theorem ti_172_61 : (q_I 172).2 61 = some (15, 0, 0, 0, 0, 62, []) := rfl
theorem ti_172_62 : (q_I 172).2 62 = some (11, 3, 0, 8, 1, 64, []) := rfl
theorem ti_172_64 : (q_I 172).2 64 = some (0, 4, 0, 0, 2, 65, []) := rfl
theorem ti_172_65 : (q_I 172).2 65 = some (3, 0, 187, 153, 1, 68, [1048, 6]) := rfl
theorem ti_172_68 : (q_I 172).2 68 = some (2, 0, 0, 0, 0, 69, []) := rfl
theorem ti_172_69 : (q_I 172).2 69 = some (11, 1, 0, 10, 0, 71, []) := rfl
theorem ti_172_71 : (q_I 172).2 71 = some (0, 1, 0, 10, 0, 73, []) := rfl
theorem ti_172_73 : (q_I 172).2 73 = some (2, 0, 1, 0, 0, 74, []) := rfl
theorem ti_172_74 : (q_I 172).2 74 = some (0, 0, 0, 3, 0, 75, []) := rfl
theorem ti_172_75 : (q_I 172).2 75 = some (6, 8, 0, 0, 0, 76, []) := rfl
theorem ti_172_76 : (q_I 172).2 76 = some (9, 3, 0, 184, 0, 79, []) := rfl
theorem ti_172_79 : (q_I 172).2 79 = some (15, 0, 1, 0, 0, 80, []) := rfl
theorem ti_172_80 : (q_I 172).2 80 = some (11, 3, 0, 11, 1, 82, []) := rfl
theorem ti_172_82 : (q_I 172).2 82 = some (2, 0, 0, 0, 0, 83, []) := rfl
theorem ti_172_83 : (q_I 172).2 83 = some (11, 1, 0, 13, 0, 85, []) := rfl
theorem ti_172_85 : (q_I 172).2 85 = some (0, 1, 0, 13, 0, 87, []) := rfl
theorem ti_172_87 : (q_I 172).2 87 = some (0, 0, 0, 3, 0, 88, []) := rfl
theorem ti_172_88 : (q_I 172).2 88 = some (9, 3, 0, 143, 0, 91, []) := rfl
theorem ti_172_91 : (q_I 172).2 91 = some (0, 1, 0, 10, 0, 93, []) := rfl
theorem ti_172_93 : (q_I 172).2 93 = some (0, 1, 0, 13, 0, 95, []) := rfl
theorem ti_172_95 : (q_I 172).2 95 = some (6, 9, 0, 0, 0, 96, []) := rfl
theorem ti_172_96 : (q_I 172).2 96 = some (2, 0, 1, 0, 0, 97, []) := rfl
theorem ti_172_97 : (q_I 172).2 97 = some (6, 5, 0, 0, 0, 98, []) := rfl
theorem ti_172_98 : (q_I 172).2 98 = some (2, 0, 1, 0, 0, 99, []) := rfl
theorem ti_172_99 : (q_I 172).2 99 = some (9, 1, 0, 106, 0, 102, []) := rfl
theorem ti_172_102 : (q_I 172).2 102 = some (2, 0, 1, 0, 0, 103, []) := rfl
theorem ti_172_103 : (q_I 172).2 103 = some (7, 0, 0, 107, 0, 106, []) := rfl
theorem ti_172_106 : (q_I 172).2 106 = some (2, 0, 0, 0, 0, 107, []) := rfl
theorem ti_172_107 : (q_I 172).2 107 = some (11, 1, 0, 14, 0, 109, []) := rfl
theorem ti_172_109 : (q_I 172).2 109 = some (0, 3, 0, 11, 1, 111, []) := rfl
theorem ti_172_111 : (q_I 172).2 111 = some (0, 1, 0, 14, 0, 113, []) := rfl
theorem ti_172_113 : (q_I 172).2 113 = some (8, 0, 0, 122, 0, 116, []) := rfl
theorem ti_172_116 : (q_I 172).2 116 = some (0, 1, 0, 4, 0, 118, []) := rfl
theorem ti_172_118 : (q_I 172).2 118 = some (14, 4, 0, 0, 0, 119, []) := rfl
theorem ti_172_119 : (q_I 172).2 119 = some (7, 0, 0, 128, 0, 122, []) := rfl
theorem ti_172_122 : (q_I 172).2 122 = some (2, 1, 10, 0, 0, 124, []) := rfl
theorem ti_172_124 : (q_I 172).2 124 = some (0, 1, 0, 4, 0, 126, []) := rfl
theorem ti_172_126 : (q_I 172).2 126 = some (6, 1, 0, 0, 0, 127, []) := rfl
theorem ti_172_127 : (q_I 172).2 127 = some (14, 4, 0, 0, 0, 128, []) := rfl
theorem ti_172_128 : (q_I 172).2 128 = some (6, 13, 0, 0, 0, 129, []) := rfl
theorem ti_172_129 : (q_I 172).2 129 = some (11, 3, 0, 11, 1, 131, []) := rfl
theorem ti_172_131 : (q_I 172).2 131 = some (0, 4, 0, 0, 2, 132, []) := rfl
theorem ti_172_132 : (q_I 172).2 132 = some (0, 1, 0, 14, 0, 134, []) := rfl
theorem ti_172_134 : (q_I 172).2 134 = some (3, 0, 97, 123, 2, 137, [987, 6]) := rfl
theorem ti_172_137 : (q_I 172).2 137 = some (13, 0, 1, 13, 0, 140, []) := rfl
theorem ti_172_140 : (q_I 172).2 140 = some (7, 0, 0, 85, 0, 143, []) := rfl
theorem ti_172_143 : (q_I 172).2 143 = some (0, 3, 0, 8, 1, 145, []) := rfl
theorem ti_172_145 : (q_I 172).2 145 = some (0, 3, 0, 11, 1, 147, []) := rfl
theorem ti_172_147 : (q_I 172).2 147 = some (6, 11, 0, 0, 0, 148, []) := rfl
theorem ti_172_148 : (q_I 172).2 148 = some (11, 3, 0, 8, 1, 150, []) := rfl
theorem ti_172_150 : (q_I 172).2 150 = some (0, 3, 0, 6, 1, 152, []) := rfl
theorem ti_172_152 : (q_I 172).2 152 = some (0, 4, 0, 0, 2, 153, []) := rfl
theorem ti_172_153 : (q_I 172).2 153 = some (1, 0, 7, 6, 0, 156, [795]) := rfl
theorem ti_172_156 : (q_I 172).2 156 = some (2, 1, 39, 0, 0, 158, []) := rfl
theorem ti_172_158 : (q_I 172).2 158 = some (0, 0, 0, 1, 0, 159, []) := rfl
theorem ti_172_159 : (q_I 172).2 159 = some (6, 0, 0, 0, 0, 160, []) := rfl
theorem ti_172_160 : (q_I 172).2 160 = some (5, 10, 0, 0, 0, 161, []) := rfl
theorem ti_172_161 : (q_I 172).2 161 = some (0, 0, 0, 2, 0, 162, []) := rfl
theorem ti_172_162 : (q_I 172).2 162 = some (9, 4, 0, 170, 0, 165, []) := rfl
theorem ti_172_165 : (q_I 172).2 165 = some (0, 3, 0, 11, 1, 167, []) := rfl
theorem ti_172_167 : (q_I 172).2 167 = some (7, 0, 0, 171, 0, 170, []) := rfl
theorem ti_172_170 : (q_I 172).2 170 = some (15, 0, 0, 0, 0, 171, []) := rfl
theorem ti_172_171 : (q_I 172).2 171 = some (6, 11, 0, 0, 0, 172, []) := rfl
theorem ti_172_172 : (q_I 172).2 172 = some (11, 3, 0, 6, 1, 174, []) := rfl
theorem ti_172_174 : (q_I 172).2 174 = some (0, 4, 0, 0, 2, 175, []) := rfl
theorem ti_172_175 : (q_I 172).2 175 = some (3, 0, 193, 154, 1, 178, [1056, 6]) := rfl
theorem ti_172_178 : (q_I 172).2 178 = some (13, 0, 1, 10, 0, 181, []) := rfl
theorem ti_172_181 : (q_I 172).2 181 = some (7, 0, 0, 71, 0, 184, []) := rfl
theorem ti_172_184 : (q_I 172).2 184 = some (0, 3, 0, 6, 1, 186, []) := rfl
theorem ti_172_186 : (q_I 172).2 186 = some (0, 3, 0, 8, 1, 188, []) := rfl
theorem ti_172_188 : (q_I 172).2 188 = some (0, 1, 0, 5, 0, 190, []) := rfl
theorem ti_172_190 : (q_I 172).2 190 = some (3, 1, 233, 171, 3, 193, [1124, 6]) := rfl
theorem ti_172_193 : (q_I 172).2 193 = some (4, 0, 0, 0, 0, 194, []) := rfl
theorem ti_172_56 : (q_I 172).2 56 = some (2, 0, (-1), 0, 0, 57, []) := rfl
theorem ti_172_57 : (q_I 172).2 57 = some (4, 0, 0, 0, 0, 58, []) := rfl
theorem mt_172 (a1 : Int) (a2 : Int) (a3 : Int) (a4 : Int) (a5 : Int) (H : a_P) : a_mt id 0 172 [(2, 133), (0, a1), (0, a2), (0, a3), (0, a4), (0, a5)] H (fn_172 a1 a2 a3 a4 a5 H) := by
  refine a_mtI (lo := [some (2, 133), some (0, a1), some (0, a2), some (0, a3), some (0, a4), some (0, a5), none, none, none, none, none, none, none, none, none]) rfl fun d => ?_
  unfold fn_172
  refine a_w0 (Nat.le_succ _) ti_172_0 rfl ?_
  refine a_w0 (Nat.le_succ _) ti_172_1 rfl ?_
  refine a_w3p (args := [(2, 133), (0, a1)]) (Nat.le_succ _) ti_172_2 (mt_110 a1 H) rfl rfl rfl rfl ?_
  refine a_wjn 56 (fun (s : Unit) => [none, none, none, none, none, none, none, none, none, none, none, none, none, none, none]) (fun (s : Unit) => []) (fun (s : Unit) => H) (fun s1 => ?_) (fun j56 hj56 => ?_)
  · refine a_w2 (z := (-1)) (Nat.le_succ _) ti_172_56 (by decide) ?_
    exact a_w4 (Nat.le_succ _) ti_172_57 rfl rfl rfl
  · refine a_w8_0 (Nat.le_succ _) ti_172_5 ?_ ?_
    · exact a_wk (hj56 ()) (by omega) trivial
    · refine a_w0 (Nat.le_succ _) ti_172_8 rfl ?_
      refine a_w14 (a := (1, a2)) (Nat.le_succ _) ti_172_9 rfl ?_
      refine a_w15 (z := 0) (Nat.le_succ _) ti_172_10 (by decide) ?_
      refine a_w15 (z := 99) (Nat.le_succ _) ti_172_11 (by decide) ?_
      refine a_w3p (args := [(1, a2), (1, 0), (1, 99)]) (Nat.le_succ _) ti_172_14 (mt_108 a2 0 99 H) rfl rfl rfl rfl ?_
      refine a_w8_0 (Nat.le_succ _) ti_172_17 ?_ ?_
      · exact a_wk (hj56 ()) (by omega) trivial
      · refine a_w0 (Nat.le_succ _) ti_172_20 rfl ?_
        refine a_w14 (a := (1, a3)) (Nat.le_succ _) ti_172_21 rfl ?_
        refine a_w15 (z := 0) (Nat.le_succ _) ti_172_22 (by decide) ?_
        refine a_w15 (z := 6) (Nat.le_succ _) ti_172_23 (by decide) ?_
        refine a_w3p (args := [(1, a3), (1, 0), (1, 6)]) (Nat.le_succ _) ti_172_26 (mt_108 a3 0 6 H) rfl rfl rfl rfl ?_
        refine a_w8_0 (Nat.le_succ _) ti_172_29 ?_ ?_
        · exact a_wk (hj56 ()) (by omega) trivial
        · refine a_w0 (Nat.le_succ _) ti_172_32 rfl ?_
          refine a_w14 (a := (1, a4)) (Nat.le_succ _) ti_172_34 rfl ?_
          refine a_w15 (z := 0) (Nat.le_succ _) ti_172_35 (by decide) ?_
          refine a_w15 (z := 10) (Nat.le_succ _) ti_172_36 (by decide) ?_
          refine a_w3p (args := [(1, a4), (1, 0), (1, 10)]) (Nat.le_succ _) ti_172_39 (mt_108 a4 0 10 H) rfl rfl rfl rfl ?_
          refine a_w8_0 (Nat.le_succ _) ti_172_42 ?_ ?_
          · exact a_wk (hj56 ()) (by omega) trivial
          · refine a_w0 (Nat.le_succ _) ti_172_45 rfl ?_
            refine a_w14 (a := (1, a5)) (Nat.le_succ _) ti_172_47 rfl ?_
            refine a_w15 (z := 0) (Nat.le_succ _) ti_172_48 (by decide) ?_
            refine a_w15 (z := 1) (Nat.le_succ _) ti_172_49 (by decide) ?_
            refine a_w3p (args := [(1, a5), (1, 0), (1, 1)]) (Nat.le_succ _) ti_172_50 (mt_108 a5 0 1 H) rfl rfl rfl rfl ?_
            refine a_w8_1 (Nat.le_succ _) ti_172_53 ?_ ?_
            · refine a_w15 (z := 0) (Nat.le_succ _) ti_172_58 (by decide) ?_
              refine a_w11 (lo' := [some (2, 133), some (0, a1), some (0, a2), some (0, a3), some (0, a4), some (0, a5), some (1, 0), none, none, none, none, none, none, none, none]) (Nat.le_succ _) ti_172_59 rfl ?_
              refine a_w15 (z := 0) (Nat.le_succ _) ti_172_61 (by decide) ?_
              refine a_w11 (lo' := [some (2, 133), some (0, a1), some (0, a2), some (0, a3), some (0, a4), some (0, a5), some (1, 0), none, some (1, 0), none, none, none, none, none, none]) (Nat.le_succ _) ti_172_62 rfl ?_
              refine a_w0 (Nat.le_succ _) ti_172_64 rfl ?_
              refine a_w3v (args := [(2, 133)]) (Nat.le_succ _) ti_172_65 (mt_153 H) rfl rfl (fun H1 => ?_)
              refine a_w2 (z := 0) (Nat.le_succ _) ti_172_68 (by decide) ?_
              refine a_w11 (lo' := [some (2, 133), some (0, a1), some (0, a2), some (0, a3), some (0, a4), some (0, a5), some (1, 0), none, some (1, 0), none, some (0, 0), none, none, none, none]) (Nat.le_succ _) ti_172_69 rfl ?_
              refine a_wjn 184 (fun (s : Int × Int × a_P) => [none, none, none, none, none, some (0, a5), some (1, s.1), none, some (1, s.2.1), none, none, none, none, none, none]) (fun (s : Int × Int × a_P) => []) (fun (s : Int × Int × a_P) => s.2.2) (fun s2 => ?_) (fun j184 hj184 => ?_)
              · refine a_w0 (Nat.le_succ _) ti_172_184 rfl ?_
                refine a_w0 (Nat.le_succ _) ti_172_186 rfl ?_
                refine a_w0 (Nat.le_succ _) ti_172_188 rfl ?_
                refine a_w3p (args := [(1, s2.1), (1, s2.2.1), (0, a5)]) (Nat.le_succ _) ti_172_190 (mt_171 s2.1 s2.2.1 a5 s2.2.2) rfl rfl rfl rfl ?_
                exact a_w4 (Nat.le_succ _) ti_172_193 rfl rfl rfl
              · refine a_wk (a_wlp (fun (s : Int × Int × Int × a_P) => [some (2, 133), some (0, a1), some (0, a2), some (0, a3), some (0, a4), some (0, a5), some (1, s.1), none, some (1, s.2.1), none, some (0, s.2.2.1), none, none, none, none]) (fun (s : Int × Int × Int × a_P) => s.2.2.2) (fun N1 hN1 n71 hn71 s3 => ?_) a_fuel (a_fuel_le (by omega)) (0, 0, 0, H1)) (Nat.le_refl _) ⟨rfl, rfl, rfl, rfl, rfl, rfl, rfl, rfl, rfl, trivial⟩
                · refine a_w0 (Nat.le_refl _) ti_172_71 rfl ?_
                  refine a_w2 (z := 1) (Nat.le_succ _) ti_172_73 (by decide) ?_
                  refine a_w0 (Nat.le_succ _) ti_172_74 rfl ?_
                  refine a_w6 (a := (0, a_shl 1 a3)) (Nat.le_succ _) ti_172_75 rfl ?_
                  refine a_w9_3 (Nat.le_succ _) ti_172_76 ?_ ?_
                  · exact a_wk (hj184 (s3.1, s3.2.1, s3.2.2.2)) (by omega) ⟨rfl, rfl, rfl, trivial⟩
                  · refine a_w15 (z := 1) (Nat.le_succ _) ti_172_79 (by decide) ?_
                    refine a_w11 (lo' := [some (2, 133), some (0, a1), some (0, a2), some (0, a3), some (0, a4), some (0, a5), some (1, s3.1), none, some (1, s3.2.1), none, some (0, s3.2.2.1), some (1, 1), none, none, none]) (Nat.le_succ _) ti_172_80 rfl ?_
                    refine a_w2 (z := 0) (Nat.le_succ _) ti_172_82 (by decide) ?_
                    refine a_w11 (lo' := [some (2, 133), some (0, a1), some (0, a2), some (0, a3), some (0, a4), some (0, a5), some (1, s3.1), none, some (1, s3.2.1), none, some (0, s3.2.2.1), some (1, 1), none, some (0, 0), none]) (Nat.le_succ _) ti_172_83 rfl ?_
                    refine a_wjn 143 (fun (s : Int × a_P) => [some (2, 133), some (0, a1), some (0, a2), some (0, a3), some (0, a4), some (0, a5), some (1, s3.1), none, some (1, s3.2.1), none, some (0, s3.2.2.1), some (1, s.1), none, none, none]) (fun (s : Int × a_P) => []) (fun (s : Int × a_P) => s.2) (fun s4 => ?_) (fun j143 hj143 => ?_)
                    · refine a_w0 (Nat.le_succ _) ti_172_143 rfl ?_
                      refine a_w0 (Nat.le_succ _) ti_172_145 rfl ?_
                      refine a_w6 (a := (1, a_wl (s3.2.1 + s4.1))) (Nat.le_succ _) ti_172_147 rfl ?_
                      refine a_w11b (lof := fun x1 => [some (2, 133), some (0, a1), some (0, a2), some (0, a3), some (0, a4), some (0, a5), some (1, s3.1), none, some (1, x1), none, some (0, s3.2.2.1), some (1, s4.1), none, none, none]) (Nat.le_succ _) ti_172_148 (fun _ => rfl) (fun x1 => ?_)
                      refine a_w0 (Nat.le_succ _) ti_172_150 rfl ?_
                      refine a_w0 (Nat.le_succ _) ti_172_152 rfl ?_
                      refine a_w1 (a := (2, 134)) (Nat.le_succ _) ti_172_153 rfl ?_
                      refine a_w2 (z := 39) (Nat.le_succ _) ti_172_156 (by decide) ?_
                      refine a_w0 (Nat.le_succ _) ti_172_158 rfl ?_
                      refine a_w6 (a := (0, a_w (39 + a1))) (Nat.le_succ _) ti_172_159 rfl ?_
                      refine a_w5 (kk := 0) (Nat.le_succ _) ti_172_160 (fun _ => rfl) ?_
                      refine a_w0 (Nat.le_succ _) ti_172_161 rfl ?_
                      refine a_wjn 171 (fun (s : Int) => [some (2, 133), some (0, a1), some (0, a2), some (0, a3), some (0, a4), some (0, a5), none, none, some (1, x1), none, some (0, s3.2.2.1), none, none, none, none]) (fun (s : Int) => [(1, s), (1, s3.1)]) (fun (s : Int) => s4.2) (fun s5 => ?_) (fun j171 hj171 => ?_)
                      · refine a_w6 (a := (1, a_wl (s3.1 + s5))) (Nat.le_succ _) ti_172_171 rfl ?_
                        refine a_w11b (lof := fun x2 => [some (2, 133), some (0, a1), some (0, a2), some (0, a3), some (0, a4), some (0, a5), some (1, x2), none, some (1, x1), none, some (0, s3.2.2.1), none, none, none, none]) (Nat.le_succ _) ti_172_172 (fun _ => rfl) (fun x2 => ?_)
                        refine a_w0 (Nat.le_succ _) ti_172_174 rfl ?_
                        refine a_w3v (args := [(2, 133)]) (Nat.le_succ _) ti_172_175 (mt_154 s4.2) rfl rfl (fun H2 => ?_)
                        refine a_w13 (c' := 1) (lof := fun x3 => [some (2, 133), some (0, a1), some (0, a2), some (0, a3), some (0, a4), some (0, a5), some (1, x2), none, some (1, x1), none, some (0, x3), none, none, none, none]) (Nat.le_succ _) ti_172_178 rfl (by decide) rfl (fun _ => rfl) (fun x3 => ?_)
                        refine a_w7 (Nat.le_succ _) ti_172_181 ?_
                        exact a_wk (hn71 (x2, x1, x3, H2)) (by omega) ⟨rfl, rfl, rfl, rfl, rfl, rfl, rfl, rfl, rfl, trivial⟩
                      · refine a_w9_4 (Nat.le_succ _) ti_172_162 ?_ ?_
                        · refine a_w15 (z := 0) (Nat.le_succ _) ti_172_170 (by decide) ?_
                          exact a_wk (hj171 0) (by omega) ⟨rfl, rfl, rfl, rfl, rfl, rfl, rfl, rfl, trivial⟩
                        · refine a_w0 (Nat.le_succ _) ti_172_165 rfl ?_
                          refine a_w7 (Nat.le_succ _) ti_172_167 ?_
                          exact a_wk (hj171 s4.1) (by omega) ⟨rfl, rfl, rfl, rfl, rfl, rfl, rfl, rfl, trivial⟩
                    · refine a_wk (a_wlp (fun (s : Int × Int × a_P) => [some (2, 133), some (0, a1), some (0, a2), some (0, a3), some (0, a4), some (0, a5), some (1, s3.1), none, some (1, s3.2.1), none, some (0, s3.2.2.1), some (1, s.1), none, some (0, s.2.1), none]) (fun (s : Int × Int × a_P) => s.2.2) (fun N2 hN2 n85 hn85 s6 => ?_) a_fuel (a_fuel_le (by omega)) (1, 0, s3.2.2.2)) (Nat.le_refl _) ⟨rfl, rfl, rfl, rfl, rfl, rfl, rfl, rfl, rfl, rfl, rfl, trivial⟩
                      · refine a_w0 (Nat.le_refl _) ti_172_85 rfl ?_
                        refine a_w0 (Nat.le_succ _) ti_172_87 rfl ?_
                        refine a_w9_3 (Nat.le_succ _) ti_172_88 ?_ ?_
                        · exact a_wk (hj143 (s6.1, s6.2.2)) (by omega) ⟨rfl, rfl, rfl, rfl, rfl, rfl, rfl, rfl, rfl, rfl, trivial⟩
                        · refine a_w0 (Nat.le_succ _) ti_172_91 rfl ?_
                          refine a_w0 (Nat.le_succ _) ti_172_93 rfl ?_
                          refine a_w6 (a := (0, a_shr s3.2.2.1 s6.2.1)) (Nat.le_succ _) ti_172_95 rfl ?_
                          refine a_w2 (z := 1) (Nat.le_succ _) ti_172_96 (by decide) ?_
                          refine a_w6 (a := (0, a_and (a_shr s3.2.2.1 s6.2.1) 1)) (Nat.le_succ _) ti_172_97 rfl ?_
                          refine a_w2 (z := 1) (Nat.le_succ _) ti_172_98 (by decide) ?_
                          refine a_wjn 107 (fun (s : Int) => [some (2, 133), some (0, a1), some (0, a2), some (0, a3), some (0, a4), some (0, a5), some (1, s3.1), none, some (1, s3.2.1), none, some (0, s3.2.2.1), some (1, s6.1), none, some (0, s6.2.1), none]) (fun (s : Int) => [(0, s)]) (fun (s : Int) => s6.2.2) (fun s7 => ?_) (fun j107 hj107 => ?_)
                          · refine a_w11 (lo' := [some (2, 133), some (0, a1), some (0, a2), some (0, a3), some (0, a4), some (0, a5), some (1, s3.1), none, some (1, s3.2.1), none, some (0, s3.2.2.1), some (1, s6.1), none, some (0, s6.2.1), some (0, s7)]) (Nat.le_succ _) ti_172_107 rfl ?_
                            refine a_w0 (Nat.le_succ _) ti_172_109 rfl ?_
                            refine a_w0 (Nat.le_succ _) ti_172_111 rfl ?_
                            refine a_wjn 128 (fun (s : Int) => [some (2, 133), some (0, a1), some (0, a2), some (0, a3), some (0, a4), some (0, a5), some (1, s3.1), none, some (1, s3.2.1), none, some (0, s3.2.2.1), none, none, some (0, s6.2.1), some (0, s7)]) (fun (s : Int) => [(1, s), (1, s6.1)]) (fun (s : Int) => s6.2.2) (fun s8 => ?_) (fun j128 hj128 => ?_)
                            · refine a_w6 (a := (1, a_wl (s6.1 * s8))) (Nat.le_succ _) ti_172_128 rfl ?_
                              refine a_w11b (lof := fun x4 => [some (2, 133), some (0, a1), some (0, a2), some (0, a3), some (0, a4), some (0, a5), some (1, s3.1), none, some (1, s3.2.1), none, some (0, s3.2.2.1), some (1, x4), none, some (0, s6.2.1), some (0, s7)]) (Nat.le_succ _) ti_172_129 (fun _ => rfl) (fun x4 => ?_)
                              refine a_w0 (Nat.le_succ _) ti_172_131 rfl ?_
                              refine a_w0 (Nat.le_succ _) ti_172_132 rfl ?_
                              refine a_w3v (args := [(2, 133), (0, s7)]) (Nat.le_succ _) ti_172_134 (mt_123 s7 s6.2.2) rfl rfl (fun H3 => ?_)
                              refine a_w13 (c' := 1) (lof := fun x5 => [some (2, 133), some (0, a1), some (0, a2), some (0, a3), some (0, a4), some (0, a5), some (1, s3.1), none, some (1, s3.2.1), none, some (0, s3.2.2.1), some (1, x4), none, some (0, x5), some (0, s7)]) (Nat.le_succ _) ti_172_137 rfl (by decide) rfl (fun _ => rfl) (fun x5 => ?_)
                              refine a_w7 (Nat.le_succ _) ti_172_140 ?_
                              exact a_wk (hn85 (x4, x5, H3)) (by omega) ⟨rfl, rfl, rfl, rfl, rfl, rfl, rfl, rfl, rfl, rfl, rfl, trivial⟩
                            · refine a_w8_0 (Nat.le_succ _) ti_172_113 ?_ ?_
                              · refine a_w2 (z := 10) (Nat.le_succ _) ti_172_122 (by decide) ?_
                                refine a_w0 (Nat.le_succ _) ti_172_124 rfl ?_
                                refine a_w6 (a := (0, a_w (10 - a4))) (Nat.le_succ _) ti_172_126 rfl ?_
                                refine a_w14 (a := (1, (a_w (10 - a4)))) (Nat.le_succ _) ti_172_127 rfl ?_
                                exact a_wk (hj128 (a_w (10 - a4))) (by omega) ⟨rfl, rfl, rfl, rfl, rfl, rfl, rfl, rfl, rfl, rfl, rfl, trivial⟩
                              · refine a_w0 (Nat.le_succ _) ti_172_116 rfl ?_
                                refine a_w14 (a := (1, a4)) (Nat.le_succ _) ti_172_118 rfl ?_
                                refine a_w7 (Nat.le_succ _) ti_172_119 ?_
                                exact a_wk (hj128 a4) (by omega) ⟨rfl, rfl, rfl, rfl, rfl, rfl, rfl, rfl, rfl, rfl, rfl, trivial⟩
                          · refine a_w9_1 (Nat.le_succ _) ti_172_99 ?_ ?_
                            · refine a_w2 (z := 0) (Nat.le_succ _) ti_172_106 (by decide) ?_
                              exact a_wk (hj107 0) (by omega) ⟨rfl, rfl, rfl, rfl, rfl, rfl, rfl, rfl, rfl, rfl, rfl, trivial⟩
                            · refine a_w2 (z := 1) (Nat.le_succ _) ti_172_102 (by decide) ?_
                              refine a_w7 (Nat.le_succ _) ti_172_103 ?_
                              exact a_wk (hj107 1) (by omega) ⟨rfl, rfl, rfl, rfl, rfl, rfl, rfl, rfl, rfl, rfl, rfl, trivial⟩
            · exact a_wk (hj56 ()) (by omega) trivial
/-- CarriedGateModel.image()I -/
noncomputable def fn_173 (H : a_P) : a_F :=
  a_jn (fun (s1 : a_P) => a_jn (fun (s2 : a_P) => a_bd (a_up s2 133 17 (s2 133 7)) fun H1 =>
  (1, H1)) fun j53 =>
  a_lp (fun (s3 : Int × a_P) => (0, s3.2)) (fun (s3 : Int × a_P) n28 => (if s3.1 < 376 then a_bd (a_up s3.2 141 s3.1 (s3.2 137 s3.1)) fun H2 =>
  a_bd (a_w (s3.1 + 1)) fun x1 =>
  n28 (x1, H2)
  else j53 s3.2)) a_fuel (0, s1)) fun j26 =>
  a_lp (fun (s4 : Int × a_P) => (0, s4.2)) (fun (s4 : Int × a_P) n2 => (if s4.1 < 47 then a_bd (a_up s4.2 140 s4.1 (s4.2 134 s4.1)) fun H3 =>
  a_bd (a_w (s4.1 + 1)) fun x2 =>
  n2 (x2, H3)
  else j26 s4.2)) a_fuel (0, H)
theorem ti_173_0 : (q_I 173).2 0 = some (2, 0, 0, 0, 0, 1, []) := rfl
theorem ti_173_1 : (q_I 173).2 1 = some (11, 0, 0, 1, 0, 2, []) := rfl
theorem ti_173_2 : (q_I 173).2 2 = some (0, 0, 0, 1, 0, 3, []) := rfl
theorem ti_173_3 : (q_I 173).2 3 = some (2, 1, 47, 0, 0, 5, []) := rfl
theorem ti_173_5 : (q_I 173).2 5 = some (9, 3, 0, 26, 0, 8, []) := rfl
theorem ti_173_8 : (q_I 173).2 8 = some (0, 4, 0, 0, 2, 9, []) := rfl
theorem ti_173_9 : (q_I 173).2 9 = some (1, 0, 28, 6, 15, 12, [810]) := rfl
theorem ti_173_12 : (q_I 173).2 12 = some (0, 0, 0, 1, 0, 13, []) := rfl
theorem ti_173_13 : (q_I 173).2 13 = some (0, 4, 0, 0, 2, 14, []) := rfl
theorem ti_173_14 : (q_I 173).2 14 = some (1, 0, 7, 6, 0, 17, [795]) := rfl
theorem ti_173_17 : (q_I 173).2 17 = some (0, 0, 0, 1, 0, 18, []) := rfl
theorem ti_173_18 : (q_I 173).2 18 = some (5, 10, 0, 0, 0, 19, []) := rfl
theorem ti_173_19 : (q_I 173).2 19 = some (12, 10, 0, 0, 0, 20, []) := rfl
theorem ti_173_20 : (q_I 173).2 20 = some (13, 0, 1, 1, 0, 23, []) := rfl
theorem ti_173_23 : (q_I 173).2 23 = some (7, 0, 0, 2, 0, 26, []) := rfl
theorem ti_173_26 : (q_I 173).2 26 = some (2, 0, 0, 0, 0, 27, []) := rfl
theorem ti_173_27 : (q_I 173).2 27 = some (11, 0, 0, 1, 0, 28, []) := rfl
theorem ti_173_28 : (q_I 173).2 28 = some (0, 0, 0, 1, 0, 29, []) := rfl
theorem ti_173_29 : (q_I 173).2 29 = some (2, 2, 376, 0, 0, 32, []) := rfl
theorem ti_173_32 : (q_I 173).2 32 = some (9, 3, 0, 53, 0, 35, []) := rfl
theorem ti_173_35 : (q_I 173).2 35 = some (0, 4, 0, 0, 2, 36, []) := rfl
theorem ti_173_36 : (q_I 173).2 36 = some (1, 0, 31, 6, 16, 39, [811]) := rfl
theorem ti_173_39 : (q_I 173).2 39 = some (0, 0, 0, 1, 0, 40, []) := rfl
theorem ti_173_40 : (q_I 173).2 40 = some (0, 4, 0, 0, 2, 41, []) := rfl
theorem ti_173_41 : (q_I 173).2 41 = some (1, 0, 19, 6, 6, 44, [801]) := rfl
theorem ti_173_44 : (q_I 173).2 44 = some (0, 0, 0, 1, 0, 45, []) := rfl
theorem ti_173_45 : (q_I 173).2 45 = some (5, 10, 0, 0, 0, 46, []) := rfl
theorem ti_173_46 : (q_I 173).2 46 = some (12, 10, 0, 0, 0, 47, []) := rfl
theorem ti_173_47 : (q_I 173).2 47 = some (13, 0, 1, 1, 0, 50, []) := rfl
theorem ti_173_50 : (q_I 173).2 50 = some (7, 0, 0, 28, 0, 53, []) := rfl
theorem ti_173_53 : (q_I 173).2 53 = some (0, 4, 0, 0, 2, 54, []) := rfl
theorem ti_173_54 : (q_I 173).2 54 = some (0, 4, 0, 0, 2, 55, []) := rfl
theorem ti_173_55 : (q_I 173).2 55 = some (1, 0, 101, 6, 7, 58, [802]) := rfl
theorem ti_173_58 : (q_I 173).2 58 = some (10, 0, 34, 6, 17, 61, [812]) := rfl
theorem ti_173_61 : (q_I 173).2 61 = some (2, 0, 1, 0, 0, 62, []) := rfl
theorem ti_173_62 : (q_I 173).2 62 = some (4, 0, 0, 0, 0, 63, []) := rfl
theorem mt_173 (H : a_P) : a_mt id 0 173 [(2, 133)] H (fn_173 H) := by
  refine a_mtI (lo := [some (2, 133), none]) rfl fun d => ?_
  unfold fn_173
  refine a_w2 (z := 0) (Nat.le_succ _) ti_173_0 (by decide) ?_
  refine a_w11 (lo' := [some (2, 133), some (0, 0)]) (Nat.le_succ _) ti_173_1 rfl ?_
  refine a_wjn 26 (fun (s : a_P) => [some (2, 133), none]) (fun (s : a_P) => []) (fun (s : a_P) => s) (fun s1 => ?_) (fun j26 hj26 => ?_)
  · refine a_w2 (z := 0) (Nat.le_succ _) ti_173_26 (by decide) ?_
    refine a_w11 (lo' := [some (2, 133), some (0, 0)]) (Nat.le_succ _) ti_173_27 rfl ?_
    refine a_wjn 53 (fun (s : a_P) => [some (2, 133), none]) (fun (s : a_P) => []) (fun (s : a_P) => s) (fun s2 => ?_) (fun j53 hj53 => ?_)
    · refine a_w0 (Nat.le_succ _) ti_173_53 rfl ?_
      refine a_w0 (Nat.le_succ _) ti_173_54 rfl ?_
      refine a_w1 (a := (0, s2 133 7)) (Nat.le_succ _) ti_173_55 rfl ?_
      refine a_w10 (Nat.le_succ _) ti_173_58 rfl rfl rfl (fun H1 => ?_)
      refine a_w2 (z := 1) (Nat.le_succ _) ti_173_61 (by decide) ?_
      exact a_w4 (Nat.le_succ _) ti_173_62 rfl rfl rfl
    · refine a_wk (a_wlp (fun (s : Int × a_P) => [some (2, 133), some (0, s.1)]) (fun (s : Int × a_P) => s.2) (fun N1 hN1 n28 hn28 s3 => ?_) a_fuel (a_fuel_le (by omega)) (0, s1)) (Nat.le_refl _) ⟨rfl, rfl, trivial⟩
      · refine a_w0 (Nat.le_refl _) ti_173_28 rfl ?_
        refine a_w2 (z := 376) (Nat.le_succ _) ti_173_29 (by decide) ?_
        refine a_w9_3 (Nat.le_succ _) ti_173_32 ?_ ?_
        · exact a_wk (hj53 s3.2) (by omega) ⟨rfl, trivial⟩
        · refine a_w0 (Nat.le_succ _) ti_173_35 rfl ?_
          refine a_w1 (a := (2, 141)) (Nat.le_succ _) ti_173_36 rfl ?_
          refine a_w0 (Nat.le_succ _) ti_173_39 rfl ?_
          refine a_w0 (Nat.le_succ _) ti_173_40 rfl ?_
          refine a_w1 (a := (2, 137)) (Nat.le_succ _) ti_173_41 rfl ?_
          refine a_w0 (Nat.le_succ _) ti_173_44 rfl ?_
          refine a_w5 (kk := 0) (Nat.le_succ _) ti_173_45 (fun _ => rfl) ?_
          refine a_w12 (Nat.le_succ _) ti_173_46 (Or.inl ⟨rfl, rfl⟩) (fun H2 => ?_)
          refine a_w13 (c' := 1) (lof := fun x1 => [some (2, 133), some (0, x1)]) (Nat.le_succ _) ti_173_47 rfl (by decide) rfl (fun _ => rfl) (fun x1 => ?_)
          refine a_w7 (Nat.le_succ _) ti_173_50 ?_
          exact a_wk (hn28 (x1, H2)) (by omega) ⟨rfl, rfl, trivial⟩
  · refine a_wk (a_wlp (fun (s : Int × a_P) => [some (2, 133), some (0, s.1)]) (fun (s : Int × a_P) => s.2) (fun N2 hN2 n2 hn2 s4 => ?_) a_fuel (a_fuel_le (by omega)) (0, H)) (Nat.le_refl _) ⟨rfl, rfl, trivial⟩
    · refine a_w0 (Nat.le_refl _) ti_173_2 rfl ?_
      refine a_w2 (z := 47) (Nat.le_succ _) ti_173_3 (by decide) ?_
      refine a_w9_3 (Nat.le_succ _) ti_173_5 ?_ ?_
      · exact a_wk (hj26 s4.2) (by omega) ⟨rfl, trivial⟩
      · refine a_w0 (Nat.le_succ _) ti_173_8 rfl ?_
        refine a_w1 (a := (2, 140)) (Nat.le_succ _) ti_173_9 rfl ?_
        refine a_w0 (Nat.le_succ _) ti_173_12 rfl ?_
        refine a_w0 (Nat.le_succ _) ti_173_13 rfl ?_
        refine a_w1 (a := (2, 134)) (Nat.le_succ _) ti_173_14 rfl ?_
        refine a_w0 (Nat.le_succ _) ti_173_17 rfl ?_
        refine a_w5 (kk := 0) (Nat.le_succ _) ti_173_18 (fun _ => rfl) ?_
        refine a_w12 (Nat.le_succ _) ti_173_19 (Or.inl ⟨rfl, rfl⟩) (fun H3 => ?_)
        refine a_w13 (c' := 1) (lof := fun x2 => [some (2, 133), some (0, x2)]) (Nat.le_succ _) ti_173_20 rfl (by decide) rfl (fun _ => rfl) (fun x2 => ?_)
        refine a_w7 (Nat.le_succ _) ti_173_23 ?_
        exact a_wk (hn2 (x2, H3)) (by omega) ⟨rfl, rfl, trivial⟩

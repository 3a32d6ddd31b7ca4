/-- CarriedGateModel.room(II)I -/
noncomputable def fn_165 (a1 : Int) (a2 : Int) (H : a_P) : a_F :=
  a_jn (fun (s1 : Unit) => ((-1), H)) fun j20 =>
  (if (fn_162 a1 H) = 0 then j20 ()
  else (if (fn_108 a2 0 2) = 0 then j20 ()
  else (if (fn_117 H) = 0 then ((-4), H)
  else a_bd (fn_164 a1 H) fun H1 =>
  a_jn (fun (s2 : Int) => (s2, H1)) fun j76 =>
  (if 0 < (H1 133 9) then j76 (-4)
  else (if a2 = 0 then j76 (H1 133 11)
  else (if a2 = 1 then j76 (H1 133 12)
  else j76 (H1 133 13)))))))
theorem ti_165_0 : (q_I 165).2 0 = some (0, 4, 0, 0, 2, 1, []) := rfl
theorem ti_165_1 : (q_I 165).2 1 = some (0, 0, 0, 1, 0, 2, []) := rfl
theorem ti_165_2 : (q_I 165).2 2 = some (3, 0, 219, 162, 2, 5, [1085, 6]) := rfl
theorem ti_165_5 : (q_I 165).2 5 = some (8, 0, 0, 20, 0, 8, []) := rfl
theorem ti_165_8 : (q_I 165).2 8 = some (0, 0, 0, 2, 0, 9, []) := rfl
theorem ti_165_9 : (q_I 165).2 9 = some (14, 4, 0, 0, 0, 10, []) := rfl
theorem ti_165_10 : (q_I 165).2 10 = some (15, 0, 0, 0, 0, 11, []) := rfl
theorem ti_165_11 : (q_I 165).2 11 = some (15, 1, 2, 196, 0, 14, [1064]) := rfl
theorem ti_165_14 : (q_I 165).2 14 = some (3, 1, 51, 108, 3, 17, [867, 6]) := rfl
theorem ti_165_17 : (q_I 165).2 17 = some (8, 1, 0, 22, 0, 20, []) := rfl
theorem ti_165_22 : (q_I 165).2 22 = some (0, 4, 0, 0, 2, 23, []) := rfl
theorem ti_165_23 : (q_I 165).2 23 = some (3, 0, 76, 117, 1, 26, [891, 6]) := rfl
theorem ti_165_26 : (q_I 165).2 26 = some (8, 1, 0, 32, 0, 29, []) := rfl
theorem ti_165_29 : (q_I 165).2 29 = some (2, 1, (-4), 0, 0, 31, []) := rfl
theorem ti_165_31 : (q_I 165).2 31 = some (4, 0, 0, 0, 0, 32, []) := rfl
theorem ti_165_32 : (q_I 165).2 32 = some (0, 4, 0, 0, 2, 33, []) := rfl
theorem ti_165_33 : (q_I 165).2 33 = some (0, 0, 0, 1, 0, 34, []) := rfl
theorem ti_165_34 : (q_I 165).2 34 = some (3, 0, 222, 164, 2, 37, [1089, 6]) := rfl
theorem ti_165_37 : (q_I 165).2 37 = some (0, 4, 0, 0, 2, 38, []) := rfl
theorem ti_165_38 : (q_I 165).2 38 = some (1, 0, 201, 6, 9, 41, [804]) := rfl
theorem ti_165_41 : (q_I 165).2 41 = some (8, 5, 0, 49, 0, 44, []) := rfl
theorem ti_165_44 : (q_I 165).2 44 = some (2, 1, (-4), 0, 0, 46, []) := rfl
theorem ti_165_46 : (q_I 165).2 46 = some (7, 0, 0, 76, 0, 49, []) := rfl
theorem ti_165_49 : (q_I 165).2 49 = some (0, 0, 0, 2, 0, 50, []) := rfl
theorem ti_165_50 : (q_I 165).2 50 = some (8, 1, 0, 60, 0, 53, []) := rfl
theorem ti_165_53 : (q_I 165).2 53 = some (0, 4, 0, 0, 2, 54, []) := rfl
theorem ti_165_54 : (q_I 165).2 54 = some (1, 0, 207, 6, 11, 57, [806]) := rfl
theorem ti_165_57 : (q_I 165).2 57 = some (7, 0, 0, 76, 0, 60, []) := rfl
theorem ti_165_60 : (q_I 165).2 60 = some (0, 0, 0, 2, 0, 61, []) := rfl
theorem ti_165_61 : (q_I 165).2 61 = some (2, 0, 1, 0, 0, 62, []) := rfl
theorem ti_165_62 : (q_I 165).2 62 = some (9, 1, 0, 72, 0, 65, []) := rfl
theorem ti_165_65 : (q_I 165).2 65 = some (0, 4, 0, 0, 2, 66, []) := rfl
theorem ti_165_66 : (q_I 165).2 66 = some (1, 0, 213, 6, 12, 69, [807]) := rfl
theorem ti_165_69 : (q_I 165).2 69 = some (7, 0, 0, 76, 0, 72, []) := rfl
theorem ti_165_72 : (q_I 165).2 72 = some (0, 4, 0, 0, 2, 73, []) := rfl
theorem ti_165_73 : (q_I 165).2 73 = some (1, 0, 216, 6, 13, 76, [808]) := rfl
theorem ti_165_76 : (q_I 165).2 76 = some (4, 0, 0, 0, 0, 77, []) := rfl
theorem ti_165_20 : (q_I 165).2 20 = some (2, 0, (-1), 0, 0, 21, []) := rfl
theorem ti_165_21 : (q_I 165).2 21 = some (4, 0, 0, 0, 0, 22, []) := rfl
theorem mt_165 (a1 : Int) (a2 : Int) (H : a_P) : a_mt id 0 165 [(2, 133), (0, a1), (0, a2)] H (fn_165 a1 a2 H) := by
  refine a_mtI (lo := [some (2, 133), some (0, a1), some (0, a2)]) rfl fun d => ?_
  unfold fn_165
  refine a_w0 (Nat.le_succ _) ti_165_0 rfl ?_
  refine a_w0 (Nat.le_succ _) ti_165_1 rfl ?_
  refine a_w3p (args := [(2, 133), (0, a1)]) (Nat.le_succ _) ti_165_2 (mt_162 a1 H) rfl rfl rfl rfl ?_
  refine a_wjn 20 (fun (s : Unit) => [none, none, none]) (fun (s : Unit) => []) (fun (s : Unit) => H) (fun s1 => ?_) (fun j20 hj20 => ?_)
  · refine a_w2 (z := (-1)) (Nat.le_succ _) ti_165_20 (by decide) ?_
    exact a_w4 (Nat.le_succ _) ti_165_21 rfl rfl rfl
  · refine a_w8_0 (Nat.le_succ _) ti_165_5 ?_ ?_
    · exact a_wk (hj20 ()) (by omega) trivial
    · refine a_w0 (Nat.le_succ _) ti_165_8 rfl ?_
      refine a_w14 (a := (1, a2)) (Nat.le_succ _) ti_165_9 rfl ?_
      refine a_w15 (z := 0) (Nat.le_succ _) ti_165_10 (by decide) ?_
      refine a_w15 (z := 2) (Nat.le_succ _) ti_165_11 (by decide) ?_
      refine a_w3p (args := [(1, a2), (1, 0), (1, 2)]) (Nat.le_succ _) ti_165_14 (mt_108 a2 0 2 H) rfl rfl rfl rfl ?_
      refine a_w8_1 (Nat.le_succ _) ti_165_17 ?_ ?_
      · refine a_w0 (Nat.le_succ _) ti_165_22 rfl ?_
        refine a_w3p (args := [(2, 133)]) (Nat.le_succ _) ti_165_23 (mt_117 H) rfl rfl rfl rfl ?_
        refine a_w8_1 (Nat.le_succ _) ti_165_26 ?_ ?_
        · refine a_w0 (Nat.le_succ _) ti_165_32 rfl ?_
          refine a_w0 (Nat.le_succ _) ti_165_33 rfl ?_
          refine a_w3v (args := [(2, 133), (0, a1)]) (Nat.le_succ _) ti_165_34 (mt_164 a1 H) rfl rfl (fun H1 => ?_)
          refine a_w0 (Nat.le_succ _) ti_165_37 rfl ?_
          refine a_w1 (a := (0, H1 133 9)) (Nat.le_succ _) ti_165_38 rfl ?_
          refine a_wjn 76 (fun (s : Int) => [none, none, none]) (fun (s : Int) => [(0, s)]) (fun (s : Int) => H1) (fun s2 => ?_) (fun j76 hj76 => ?_)
          · exact a_w4 (Nat.le_succ _) ti_165_76 rfl rfl rfl
          · refine a_w8_5 (Nat.le_succ _) ti_165_41 ?_ ?_
            · refine a_w0 (Nat.le_succ _) ti_165_49 rfl ?_
              refine a_w8_1 (Nat.le_succ _) ti_165_50 ?_ ?_
              · refine a_w0 (Nat.le_succ _) ti_165_60 rfl ?_
                refine a_w2 (z := 1) (Nat.le_succ _) ti_165_61 (by decide) ?_
                refine a_w9_1 (Nat.le_succ _) ti_165_62 ?_ ?_
                · refine a_w0 (Nat.le_succ _) ti_165_72 rfl ?_
                  refine a_w1 (a := (0, H1 133 13)) (Nat.le_succ _) ti_165_73 rfl ?_
                  exact a_wk (hj76 (H1 133 13)) (by omega) trivial
                · refine a_w0 (Nat.le_succ _) ti_165_65 rfl ?_
                  refine a_w1 (a := (0, H1 133 12)) (Nat.le_succ _) ti_165_66 rfl ?_
                  refine a_w7 (Nat.le_succ _) ti_165_69 ?_
                  exact a_wk (hj76 (H1 133 12)) (by omega) trivial
              · refine a_w0 (Nat.le_succ _) ti_165_53 rfl ?_
                refine a_w1 (a := (0, H1 133 11)) (Nat.le_succ _) ti_165_54 rfl ?_
                refine a_w7 (Nat.le_succ _) ti_165_57 ?_
                exact a_wk (hj76 (H1 133 11)) (by omega) trivial
            · refine a_w2 (z := (-4)) (Nat.le_succ _) ti_165_44 (by decide) ?_
              refine a_w7 (Nat.le_succ _) ti_165_46 ?_
              exact a_wk (hj76 (-4)) (by omega) trivial
        · refine a_w2 (z := (-4)) (Nat.le_succ _) ti_165_29 (by decide) ?_
          exact a_w4 (Nat.le_succ _) ti_165_31 rfl rfl rfl
      · exact a_wk (hj20 ()) (by omega) trivial
/-- CarriedGateModel.nearest(II)I -/
noncomputable def fn_166 (a1 : Int) (a2 : Int) (H : a_P) : a_F :=
  a_jn (fun (s1 : Unit) => ((-1), H)) fun j20 =>
  (if (fn_162 a1 H) = 0 then j20 ()
  else (if (fn_108 a2 0 2) = 0 then j20 ()
  else (if (fn_117 H) = 0 then ((-4), H)
  else a_bd (fn_164 a1 H) fun H1 =>
  a_jn (fun (s2 : Int) => (s2, H1)) fun j64 =>
  (if a2 = 0 then j64 (H1 133 9)
  else (if a2 = 1 then j64 (H1 133 10)
  else j64 (H1 133 11))))))
theorem ti_166_0 : (q_I 166).2 0 = some (0, 4, 0, 0, 2, 1, []) := rfl
theorem ti_166_1 : (q_I 166).2 1 = some (0, 0, 0, 1, 0, 2, []) := rfl
theorem ti_166_2 : (q_I 166).2 2 = some (3, 0, 219, 162, 2, 5, [1085, 6]) := rfl
theorem ti_166_5 : (q_I 166).2 5 = some (8, 0, 0, 20, 0, 8, []) := rfl
theorem ti_166_8 : (q_I 166).2 8 = some (0, 0, 0, 2, 0, 9, []) := rfl
theorem ti_166_9 : (q_I 166).2 9 = some (14, 4, 0, 0, 0, 10, []) := rfl
theorem ti_166_10 : (q_I 166).2 10 = some (15, 0, 0, 0, 0, 11, []) := rfl
theorem ti_166_11 : (q_I 166).2 11 = some (15, 1, 2, 196, 0, 14, [1064]) := rfl
theorem ti_166_14 : (q_I 166).2 14 = some (3, 1, 51, 108, 3, 17, [867, 6]) := rfl
theorem ti_166_17 : (q_I 166).2 17 = some (8, 1, 0, 22, 0, 20, []) := rfl
theorem ti_166_22 : (q_I 166).2 22 = some (0, 4, 0, 0, 2, 23, []) := rfl
theorem ti_166_23 : (q_I 166).2 23 = some (3, 0, 76, 117, 1, 26, [891, 6]) := rfl
theorem ti_166_26 : (q_I 166).2 26 = some (8, 1, 0, 32, 0, 29, []) := rfl
theorem ti_166_29 : (q_I 166).2 29 = some (2, 1, (-4), 0, 0, 31, []) := rfl
theorem ti_166_31 : (q_I 166).2 31 = some (4, 0, 0, 0, 0, 32, []) := rfl
theorem ti_166_32 : (q_I 166).2 32 = some (0, 4, 0, 0, 2, 33, []) := rfl
theorem ti_166_33 : (q_I 166).2 33 = some (0, 0, 0, 1, 0, 34, []) := rfl
theorem ti_166_34 : (q_I 166).2 34 = some (3, 0, 222, 164, 2, 37, [1089, 6]) := rfl
theorem ti_166_37 : (q_I 166).2 37 = some (0, 0, 0, 2, 0, 38, []) := rfl
theorem ti_166_38 : (q_I 166).2 38 = some (8, 1, 0, 48, 0, 41, []) := rfl
theorem ti_166_41 : (q_I 166).2 41 = some (0, 4, 0, 0, 2, 42, []) := rfl
theorem ti_166_42 : (q_I 166).2 42 = some (1, 0, 201, 6, 9, 45, [804]) := rfl
theorem ti_166_45 : (q_I 166).2 45 = some (7, 0, 0, 64, 0, 48, []) := rfl
theorem ti_166_48 : (q_I 166).2 48 = some (0, 0, 0, 2, 0, 49, []) := rfl
theorem ti_166_49 : (q_I 166).2 49 = some (2, 0, 1, 0, 0, 50, []) := rfl
theorem ti_166_50 : (q_I 166).2 50 = some (9, 1, 0, 60, 0, 53, []) := rfl
theorem ti_166_53 : (q_I 166).2 53 = some (0, 4, 0, 0, 2, 54, []) := rfl
theorem ti_166_54 : (q_I 166).2 54 = some (1, 0, 210, 6, 10, 57, [805]) := rfl
theorem ti_166_57 : (q_I 166).2 57 = some (7, 0, 0, 64, 0, 60, []) := rfl
theorem ti_166_60 : (q_I 166).2 60 = some (0, 4, 0, 0, 2, 61, []) := rfl
theorem ti_166_61 : (q_I 166).2 61 = some (1, 0, 207, 6, 11, 64, [806]) := rfl
theorem ti_166_64 : (q_I 166).2 64 = some (4, 0, 0, 0, 0, 65, []) := rfl
theorem ti_166_20 : (q_I 166).2 20 = some (2, 0, (-1), 0, 0, 21, []) := rfl
theorem ti_166_21 : (q_I 166).2 21 = some (4, 0, 0, 0, 0, 22, []) := rfl
theorem mt_166 (a1 : Int) (a2 : Int) (H : a_P) : a_mt id 0 166 [(2, 133), (0, a1), (0, a2)] H (fn_166 a1 a2 H) := by
  refine a_mtI (lo := [some (2, 133), some (0, a1), some (0, a2)]) rfl fun d => ?_
  unfold fn_166
  refine a_w0 (Nat.le_succ _) ti_166_0 rfl ?_
  refine a_w0 (Nat.le_succ _) ti_166_1 rfl ?_
  refine a_w3p (args := [(2, 133), (0, a1)]) (Nat.le_succ _) ti_166_2 (mt_162 a1 H) rfl rfl rfl rfl ?_
  refine a_wjn 20 (fun (s : Unit) => [none, none, none]) (fun (s : Unit) => []) (fun (s : Unit) => H) (fun s1 => ?_) (fun j20 hj20 => ?_)
  · refine a_w2 (z := (-1)) (Nat.le_succ _) ti_166_20 (by decide) ?_
    exact a_w4 (Nat.le_succ _) ti_166_21 rfl rfl rfl
  · refine a_w8_0 (Nat.le_succ _) ti_166_5 ?_ ?_
    · exact a_wk (hj20 ()) (by omega) trivial
    · refine a_w0 (Nat.le_succ _) ti_166_8 rfl ?_
      refine a_w14 (a := (1, a2)) (Nat.le_succ _) ti_166_9 rfl ?_
      refine a_w15 (z := 0) (Nat.le_succ _) ti_166_10 (by decide) ?_
      refine a_w15 (z := 2) (Nat.le_succ _) ti_166_11 (by decide) ?_
      refine a_w3p (args := [(1, a2), (1, 0), (1, 2)]) (Nat.le_succ _) ti_166_14 (mt_108 a2 0 2 H) rfl rfl rfl rfl ?_
      refine a_w8_1 (Nat.le_succ _) ti_166_17 ?_ ?_
      · refine a_w0 (Nat.le_succ _) ti_166_22 rfl ?_
        refine a_w3p (args := [(2, 133)]) (Nat.le_succ _) ti_166_23 (mt_117 H) rfl rfl rfl rfl ?_
        refine a_w8_1 (Nat.le_succ _) ti_166_26 ?_ ?_
        · refine a_w0 (Nat.le_succ _) ti_166_32 rfl ?_
          refine a_w0 (Nat.le_succ _) ti_166_33 rfl ?_
          refine a_w3v (args := [(2, 133), (0, a1)]) (Nat.le_succ _) ti_166_34 (mt_164 a1 H) rfl rfl (fun H1 => ?_)
          refine a_w0 (Nat.le_succ _) ti_166_37 rfl ?_
          refine a_wjn 64 (fun (s : Int) => [none, none, none]) (fun (s : Int) => [(0, s)]) (fun (s : Int) => H1) (fun s2 => ?_) (fun j64 hj64 => ?_)
          · exact a_w4 (Nat.le_succ _) ti_166_64 rfl rfl rfl
          · refine a_w8_1 (Nat.le_succ _) ti_166_38 ?_ ?_
            · refine a_w0 (Nat.le_succ _) ti_166_48 rfl ?_
              refine a_w2 (z := 1) (Nat.le_succ _) ti_166_49 (by decide) ?_
              refine a_w9_1 (Nat.le_succ _) ti_166_50 ?_ ?_
              · refine a_w0 (Nat.le_succ _) ti_166_60 rfl ?_
                refine a_w1 (a := (0, H1 133 11)) (Nat.le_succ _) ti_166_61 rfl ?_
                exact a_wk (hj64 (H1 133 11)) (by omega) trivial
              · refine a_w0 (Nat.le_succ _) ti_166_53 rfl ?_
                refine a_w1 (a := (0, H1 133 10)) (Nat.le_succ _) ti_166_54 rfl ?_
                refine a_w7 (Nat.le_succ _) ti_166_57 ?_
                exact a_wk (hj64 (H1 133 10)) (by omega) trivial
            · refine a_w0 (Nat.le_succ _) ti_166_41 rfl ?_
              refine a_w1 (a := (0, H1 133 9)) (Nat.le_succ _) ti_166_42 rfl ?_
              refine a_w7 (Nat.le_succ _) ti_166_45 ?_
              exact a_wk (hj64 (H1 133 9)) (by omega) trivial
        · refine a_w2 (z := (-4)) (Nat.le_succ _) ti_166_29 (by decide) ?_
          exact a_w4 (Nat.le_succ _) ti_166_31 rfl rfl rfl
      · exact a_wk (hj20 ()) (by omega) trivial
/-- CarriedGateModel.hinge(I)I -/
noncomputable def fn_167 (a1 : Int) (H : a_P) : a_F :=
  (if (fn_108 a1 1 40) = 0 then ((-1), H)
  else a_bd (fn_153 H) fun H1 =>
  a_bd (fn_159 a1 H1) fun g1 =>
  a_bd (a_up g1.2 134 3 (-4)) fun H2 =>
  a_bd (fn_159 a1 H2) fun g2 =>
  (a_w ((a_w (10000 + g2.1)) - g1.1), g2.2))
theorem ti_167_0 : (q_I 167).2 0 = some (0, 0, 0, 1, 0, 1, []) := rfl
theorem ti_167_1 : (q_I 167).2 1 = some (14, 4, 0, 0, 0, 2, []) := rfl
theorem ti_167_2 : (q_I 167).2 2 = some (15, 0, 1, 0, 0, 3, []) := rfl
theorem ti_167_3 : (q_I 167).2 3 = some (15, 1, 40, 168, 0, 6, [978]) := rfl
theorem ti_167_6 : (q_I 167).2 6 = some (3, 1, 51, 108, 3, 9, [867, 6]) := rfl
theorem ti_167_9 : (q_I 167).2 9 = some (8, 1, 0, 14, 0, 12, []) := rfl
theorem ti_167_12 : (q_I 167).2 12 = some (2, 0, (-1), 0, 0, 13, []) := rfl
theorem ti_167_13 : (q_I 167).2 13 = some (4, 0, 0, 0, 0, 14, []) := rfl
theorem ti_167_14 : (q_I 167).2 14 = some (0, 4, 0, 0, 2, 15, []) := rfl
theorem ti_167_15 : (q_I 167).2 15 = some (3, 0, 187, 153, 1, 18, [1048, 6]) := rfl
theorem ti_167_18 : (q_I 167).2 18 = some (0, 4, 0, 0, 2, 19, []) := rfl
theorem ti_167_19 : (q_I 167).2 19 = some (0, 0, 0, 1, 0, 20, []) := rfl
theorem ti_167_20 : (q_I 167).2 20 = some (3, 0, 198, 159, 2, 23, [1073, 6]) := rfl
theorem ti_167_23 : (q_I 167).2 23 = some (11, 0, 0, 2, 0, 24, []) := rfl
theorem ti_167_24 : (q_I 167).2 24 = some (0, 4, 0, 0, 2, 25, []) := rfl
theorem ti_167_25 : (q_I 167).2 25 = some (1, 0, 7, 6, 0, 28, [795]) := rfl
theorem ti_167_28 : (q_I 167).2 28 = some (2, 0, 3, 0, 0, 29, []) := rfl
theorem ti_167_29 : (q_I 167).2 29 = some (2, 1, (-4), 0, 0, 31, []) := rfl
theorem ti_167_31 : (q_I 167).2 31 = some (12, 10, 0, 0, 0, 32, []) := rfl
theorem ti_167_32 : (q_I 167).2 32 = some (2, 2, 10000, 0, 0, 35, []) := rfl
theorem ti_167_35 : (q_I 167).2 35 = some (0, 4, 0, 0, 2, 36, []) := rfl
theorem ti_167_36 : (q_I 167).2 36 = some (0, 0, 0, 1, 0, 37, []) := rfl
theorem ti_167_37 : (q_I 167).2 37 = some (3, 0, 198, 159, 2, 40, [1073, 6]) := rfl
theorem ti_167_40 : (q_I 167).2 40 = some (6, 0, 0, 0, 0, 41, []) := rfl
theorem ti_167_41 : (q_I 167).2 41 = some (0, 0, 0, 2, 0, 42, []) := rfl
theorem ti_167_42 : (q_I 167).2 42 = some (6, 1, 0, 0, 0, 43, []) := rfl
theorem ti_167_43 : (q_I 167).2 43 = some (4, 0, 0, 0, 0, 44, []) := rfl
theorem mt_167 (a1 : Int) (H : a_P) : a_mt id 0 167 [(2, 133), (0, a1)] H (fn_167 a1 H) := by
  refine a_mtI (lo := [some (2, 133), some (0, a1), none]) rfl fun d => ?_
  unfold fn_167
  refine a_w0 (Nat.le_succ _) ti_167_0 rfl ?_
  refine a_w14 (a := (1, a1)) (Nat.le_succ _) ti_167_1 rfl ?_
  refine a_w15 (z := 1) (Nat.le_succ _) ti_167_2 (by decide) ?_
  refine a_w15 (z := 40) (Nat.le_succ _) ti_167_3 (by decide) ?_
  refine a_w3p (args := [(1, a1), (1, 1), (1, 40)]) (Nat.le_succ _) ti_167_6 (mt_108 a1 1 40 H) rfl rfl rfl rfl ?_
  refine a_w8_1 (Nat.le_succ _) ti_167_9 ?_ ?_
  · refine a_w0 (Nat.le_succ _) ti_167_14 rfl ?_
    refine a_w3v (args := [(2, 133)]) (Nat.le_succ _) ti_167_15 (mt_153 H) rfl rfl (fun H1 => ?_)
    refine a_w0 (Nat.le_succ _) ti_167_18 rfl ?_
    refine a_w0 (Nat.le_succ _) ti_167_19 rfl ?_
    refine a_w3i (args := [(2, 133), (0, a1)]) (Nat.le_succ _) ti_167_20 (mt_159 a1 H1) (fun _ => rfl) rfl rfl (fun g1 => ?_)
    refine a_w11 (lo' := [some (2, 133), some (0, a1), some (0, g1.1)]) (Nat.le_succ _) ti_167_23 rfl ?_
    refine a_w0 (Nat.le_succ _) ti_167_24 rfl ?_
    refine a_w1 (a := (2, 134)) (Nat.le_succ _) ti_167_25 rfl ?_
    refine a_w2 (z := 3) (Nat.le_succ _) ti_167_28 (by decide) ?_
    refine a_w2 (z := (-4)) (Nat.le_succ _) ti_167_29 (by decide) ?_
    refine a_w12 (Nat.le_succ _) ti_167_31 (Or.inl ⟨rfl, rfl⟩) (fun H2 => ?_)
    refine a_w2 (z := 10000) (Nat.le_succ _) ti_167_32 (by decide) ?_
    refine a_w0 (Nat.le_succ _) ti_167_35 rfl ?_
    refine a_w0 (Nat.le_succ _) ti_167_36 rfl ?_
    refine a_w3i (args := [(2, 133), (0, a1)]) (Nat.le_succ _) ti_167_37 (mt_159 a1 H2) (fun _ => rfl) rfl rfl (fun g2 => ?_)
    refine a_w6 (a := (0, a_w (10000 + g2.1))) (Nat.le_succ _) ti_167_40 rfl ?_
    refine a_w0 (Nat.le_succ _) ti_167_41 rfl ?_
    refine a_w6 (a := (0, a_w ((a_w (10000 + g2.1)) - g1.1))) (Nat.le_succ _) ti_167_42 rfl ?_
    exact a_w4 (Nat.le_succ _) ti_167_43 rfl rfl rfl
  · refine a_w2 (z := (-1)) (Nat.le_succ _) ti_167_12 (by decide) ?_
    exact a_w4 (Nat.le_succ _) ti_167_13 rfl rfl rfl
/-- CarriedGateModel.duel(I)I -/
noncomputable def fn_168 (a1 : Int) (H : a_P) : a_F :=
  (if (fn_108 a1 0 5) = 0 then ((-1), H)
  else a_jn (fun (s1 : Int) => a_bd (fn_153 H) fun H1 =>
  a_jn (fun (s2 : a_P) => a_bd (a_w (a1 - 1)) fun x1 =>
  a_jn (fun (s3 : a_P) => (s3 139 0, s3)) fun j252 =>
  a_lp (fun (s4 : Int × Int × a_P) => (0, s4.2.2)) (fun (s4 : Int × Int × a_P) n133 => (if s4.2.1 < 0 then j252 s4.2.2
  else a_bd (a_div s4.1 3) fun x2 =>
  a_jn (fun (s5 : a_P) => a_bd (a_w (s4.2.1 + (-1))) fun x3 =>
  n133 (x2, x3, s5)) fun j246 =>
  a_lp (fun (s6 : Int × a_P) => (0, s6.2)) (fun (s6 : Int × a_P) n145 => (if s6.1 < x2 then a_bd (s6.2 139 (a_w (3 * s6.1))) fun x4 =>
  a_jn (fun (s7 : Int) => a_bd (a_up s6.2 139 s6.1 s7) fun H2 =>
  a_bd (a_w (s6.1 + 1)) fun x5 =>
  n145 (x5, H2)) fun j231 =>
  a_lp (fun (s8 : Int × Int) => (0, s6.2)) (fun (s8 : Int × Int) n165 => (if s8.2 < 3 then a_bd (s6.2 139 (a_w ((a_w (3 * s6.1)) + s8.2))) fun x6 =>
  a_jn (fun (s9 : Int) => a_bd (a_w (s8.2 + 1)) fun x7 =>
  n165 (s9, x7)) fun j223 =>
  (if (a_rem s4.2.1 2) = 0 then (if s8.1 < x6 then j223 x6
  else j223 s8.1)
  else (if x6 < s8.1 then j223 x6
  else j223 s8.1))
  else j231 s8.1)) a_fuel (x4, 1)
  else j246 s6.2)) a_fuel (0, s4.2.2))) a_fuel (s1, x1, s2)) fun j126 =>
  a_lp (fun (s10 : Int × a_P) => (0, s10.2)) (fun (s10 : Int × a_P) n39 => (if s10.1 < s1 then a_jn (fun (s11 : a_P) => a_bd (a_up s11 139 s10.1 (fn_163 (fn_120 s11))) fun H3 =>
  a_bd (fn_154 H3) fun H4 =>
  a_bd (a_w (s10.1 + 1)) fun x8 =>
  n39 (x8, H4)) fun j103 =>
  a_lp (fun (s12 : Int × Int × a_P) => (0, s12.2.2)) (fun (s12 : Int × Int × a_P) n50 => (if s12.2.1 < a1 then a_bd (a_div s12.1 3) fun x9 =>
  a_bd (a_rem (a_div s10.1 x9) 3) fun x10 =>
  a_jn (fun (s13 : Int) => a_bd (a_up s12.2.2 134 2 (a_rem (a_w ((s12.2.2 134 2) + s13)) 4)) fun H5 =>
  a_bd (a_w (s12.2.1 + 1)) fun x11 =>
  n50 (x9, x11, H5)) fun j93 =>
  (if x10 = 2 then j93 3
  else j93 x10)
  else j103 s12.2.2)) a_fuel (s1, 0, s10.2)
  else j126 s10.2)) a_fuel (0, H1)) fun j33 =>
  a_lp (fun (s14 : Int × Int) => (0, H)) (fun (s14 : Int × Int) n18 => (if s14.2 < a1 then a_bd (a_w (s14.1 * 3)) fun x12 =>
  a_bd (a_w (s14.2 + 1)) fun x13 =>
  n18 (x12, x13)
  else j33 s14.1)) a_fuel (1, 0))
theorem ti_168_0 : (q_I 168).2 0 = some (0, 0, 0, 1, 0, 1, []) := rfl
theorem ti_168_1 : (q_I 168).2 1 = some (14, 4, 0, 0, 0, 2, []) := rfl
theorem ti_168_2 : (q_I 168).2 2 = some (15, 0, 0, 0, 0, 3, []) := rfl
theorem ti_168_3 : (q_I 168).2 3 = some (15, 1, 5, 225, 0, 6, [1108]) := rfl
theorem ti_168_6 : (q_I 168).2 6 = some (3, 1, 51, 108, 3, 9, [867, 6]) := rfl
theorem ti_168_9 : (q_I 168).2 9 = some (8, 1, 0, 14, 0, 12, []) := rfl
theorem ti_168_12 : (q_I 168).2 12 = some (2, 0, (-1), 0, 0, 13, []) := rfl
theorem ti_168_13 : (q_I 168).2 13 = some (4, 0, 0, 0, 0, 14, []) := rfl
theorem ti_168_14 : (q_I 168).2 14 = some (2, 0, 1, 0, 0, 15, []) := rfl
theorem ti_168_15 : (q_I 168).2 15 = some (11, 0, 0, 2, 0, 16, []) := rfl
theorem ti_168_16 : (q_I 168).2 16 = some (2, 0, 0, 0, 0, 17, []) := rfl
theorem ti_168_17 : (q_I 168).2 17 = some (11, 0, 0, 3, 0, 18, []) := rfl
theorem ti_168_18 : (q_I 168).2 18 = some (0, 0, 0, 3, 0, 19, []) := rfl
theorem ti_168_19 : (q_I 168).2 19 = some (0, 0, 0, 1, 0, 20, []) := rfl
theorem ti_168_20 : (q_I 168).2 20 = some (9, 3, 0, 33, 0, 23, []) := rfl
theorem ti_168_23 : (q_I 168).2 23 = some (0, 0, 0, 2, 0, 24, []) := rfl
theorem ti_168_24 : (q_I 168).2 24 = some (2, 0, 3, 0, 0, 25, []) := rfl
theorem ti_168_25 : (q_I 168).2 25 = some (6, 2, 0, 0, 0, 26, []) := rfl
theorem ti_168_26 : (q_I 168).2 26 = some (11, 0, 0, 2, 0, 27, []) := rfl
theorem ti_168_27 : (q_I 168).2 27 = some (13, 0, 1, 3, 0, 30, []) := rfl
theorem ti_168_30 : (q_I 168).2 30 = some (7, 0, 0, 18, 0, 33, []) := rfl
theorem ti_168_33 : (q_I 168).2 33 = some (0, 4, 0, 0, 2, 34, []) := rfl
theorem ti_168_34 : (q_I 168).2 34 = some (3, 0, 187, 153, 1, 37, [1048, 6]) := rfl
theorem ti_168_37 : (q_I 168).2 37 = some (2, 0, 0, 0, 0, 38, []) := rfl
theorem ti_168_38 : (q_I 168).2 38 = some (11, 0, 0, 3, 0, 39, []) := rfl
theorem ti_168_39 : (q_I 168).2 39 = some (0, 0, 0, 3, 0, 40, []) := rfl
theorem ti_168_40 : (q_I 168).2 40 = some (0, 0, 0, 2, 0, 41, []) := rfl
theorem ti_168_41 : (q_I 168).2 41 = some (9, 3, 0, 126, 0, 44, []) := rfl
theorem ti_168_44 : (q_I 168).2 44 = some (0, 0, 0, 2, 0, 45, []) := rfl
theorem ti_168_45 : (q_I 168).2 45 = some (11, 1, 0, 4, 0, 47, []) := rfl
theorem ti_168_47 : (q_I 168).2 47 = some (2, 0, 0, 0, 0, 48, []) := rfl
theorem ti_168_48 : (q_I 168).2 48 = some (11, 1, 0, 5, 0, 50, []) := rfl
theorem ti_168_50 : (q_I 168).2 50 = some (0, 1, 0, 5, 0, 52, []) := rfl
theorem ti_168_52 : (q_I 168).2 52 = some (0, 0, 0, 1, 0, 53, []) := rfl
theorem ti_168_53 : (q_I 168).2 53 = some (9, 3, 0, 103, 0, 56, []) := rfl
theorem ti_168_56 : (q_I 168).2 56 = some (0, 1, 0, 4, 0, 58, []) := rfl
theorem ti_168_58 : (q_I 168).2 58 = some (2, 0, 3, 0, 0, 59, []) := rfl
theorem ti_168_59 : (q_I 168).2 59 = some (6, 3, 0, 0, 0, 60, []) := rfl
theorem ti_168_60 : (q_I 168).2 60 = some (11, 1, 0, 4, 0, 62, []) := rfl
theorem ti_168_62 : (q_I 168).2 62 = some (0, 0, 0, 3, 0, 63, []) := rfl
theorem ti_168_63 : (q_I 168).2 63 = some (0, 1, 0, 4, 0, 65, []) := rfl
theorem ti_168_65 : (q_I 168).2 65 = some (6, 3, 0, 0, 0, 66, []) := rfl
theorem ti_168_66 : (q_I 168).2 66 = some (2, 0, 3, 0, 0, 67, []) := rfl
theorem ti_168_67 : (q_I 168).2 67 = some (6, 4, 0, 0, 0, 68, []) := rfl
theorem ti_168_68 : (q_I 168).2 68 = some (11, 1, 0, 6, 0, 70, []) := rfl
theorem ti_168_70 : (q_I 168).2 70 = some (0, 4, 0, 0, 2, 71, []) := rfl
theorem ti_168_71 : (q_I 168).2 71 = some (1, 0, 7, 6, 0, 74, [795]) := rfl
theorem ti_168_74 : (q_I 168).2 74 = some (2, 0, 2, 0, 0, 75, []) := rfl
theorem ti_168_75 : (q_I 168).2 75 = some (0, 4, 0, 0, 2, 76, []) := rfl
theorem ti_168_76 : (q_I 168).2 76 = some (1, 0, 7, 6, 0, 79, [795]) := rfl
theorem ti_168_79 : (q_I 168).2 79 = some (2, 0, 2, 0, 0, 80, []) := rfl
theorem ti_168_80 : (q_I 168).2 80 = some (5, 10, 0, 0, 0, 81, []) := rfl
theorem ti_168_81 : (q_I 168).2 81 = some (0, 1, 0, 6, 0, 83, []) := rfl
theorem ti_168_83 : (q_I 168).2 83 = some (2, 0, 2, 0, 0, 84, []) := rfl
theorem ti_168_84 : (q_I 168).2 84 = some (9, 1, 0, 91, 0, 87, []) := rfl
theorem ti_168_87 : (q_I 168).2 87 = some (2, 0, 3, 0, 0, 88, []) := rfl
theorem ti_168_88 : (q_I 168).2 88 = some (7, 0, 0, 93, 0, 91, []) := rfl
theorem ti_168_91 : (q_I 168).2 91 = some (0, 1, 0, 6, 0, 93, []) := rfl
theorem ti_168_93 : (q_I 168).2 93 = some (6, 0, 0, 0, 0, 94, []) := rfl
theorem ti_168_94 : (q_I 168).2 94 = some (2, 0, 4, 0, 0, 95, []) := rfl
theorem ti_168_95 : (q_I 168).2 95 = some (6, 4, 0, 0, 0, 96, []) := rfl
theorem ti_168_96 : (q_I 168).2 96 = some (12, 10, 0, 0, 0, 97, []) := rfl
theorem ti_168_97 : (q_I 168).2 97 = some (13, 0, 1, 5, 0, 100, []) := rfl
theorem ti_168_100 : (q_I 168).2 100 = some (7, 0, 0, 50, 0, 103, []) := rfl
theorem ti_168_103 : (q_I 168).2 103 = some (0, 4, 0, 0, 2, 104, []) := rfl
theorem ti_168_104 : (q_I 168).2 104 = some (1, 0, 25, 6, 14, 107, [809]) := rfl
theorem ti_168_107 : (q_I 168).2 107 = some (0, 0, 0, 3, 0, 108, []) := rfl
theorem ti_168_108 : (q_I 168).2 108 = some (0, 4, 0, 0, 2, 109, []) := rfl
theorem ti_168_109 : (q_I 168).2 109 = some (3, 0, 91, 120, 1, 112, [887, 6]) := rfl
theorem ti_168_112 : (q_I 168).2 112 = some (3, 1, 204, 163, 1, 115, [1093, 6]) := rfl
theorem ti_168_115 : (q_I 168).2 115 = some (12, 10, 0, 0, 0, 116, []) := rfl
theorem ti_168_116 : (q_I 168).2 116 = some (0, 4, 0, 0, 2, 117, []) := rfl
theorem ti_168_117 : (q_I 168).2 117 = some (3, 0, 193, 154, 1, 120, [1056, 6]) := rfl
theorem ti_168_120 : (q_I 168).2 120 = some (13, 0, 1, 3, 0, 123, []) := rfl
theorem ti_168_123 : (q_I 168).2 123 = some (7, 0, 0, 39, 0, 126, []) := rfl
theorem ti_168_126 : (q_I 168).2 126 = some (0, 0, 0, 2, 0, 127, []) := rfl
theorem ti_168_127 : (q_I 168).2 127 = some (11, 0, 0, 3, 0, 128, []) := rfl
theorem ti_168_128 : (q_I 168).2 128 = some (0, 0, 0, 1, 0, 129, []) := rfl
theorem ti_168_129 : (q_I 168).2 129 = some (2, 0, 1, 0, 0, 130, []) := rfl
theorem ti_168_130 : (q_I 168).2 130 = some (6, 1, 0, 0, 0, 131, []) := rfl
theorem ti_168_131 : (q_I 168).2 131 = some (11, 1, 0, 4, 0, 133, []) := rfl
theorem ti_168_133 : (q_I 168).2 133 = some (0, 1, 0, 4, 0, 135, []) := rfl
theorem ti_168_135 : (q_I 168).2 135 = some (8, 2, 0, 252, 0, 138, []) := rfl
theorem ti_168_138 : (q_I 168).2 138 = some (0, 0, 0, 3, 0, 139, []) := rfl
theorem ti_168_139 : (q_I 168).2 139 = some (2, 0, 3, 0, 0, 140, []) := rfl
theorem ti_168_140 : (q_I 168).2 140 = some (6, 3, 0, 0, 0, 141, []) := rfl
theorem ti_168_141 : (q_I 168).2 141 = some (11, 0, 0, 3, 0, 142, []) := rfl
theorem ti_168_142 : (q_I 168).2 142 = some (2, 0, 0, 0, 0, 143, []) := rfl
theorem ti_168_143 : (q_I 168).2 143 = some (11, 1, 0, 5, 0, 145, []) := rfl
theorem ti_168_145 : (q_I 168).2 145 = some (0, 1, 0, 5, 0, 147, []) := rfl
theorem ti_168_147 : (q_I 168).2 147 = some (0, 0, 0, 3, 0, 148, []) := rfl
theorem ti_168_148 : (q_I 168).2 148 = some (9, 3, 0, 246, 0, 151, []) := rfl
theorem ti_168_151 : (q_I 168).2 151 = some (0, 4, 0, 0, 2, 152, []) := rfl
theorem ti_168_152 : (q_I 168).2 152 = some (1, 0, 25, 6, 14, 155, [809]) := rfl
theorem ti_168_155 : (q_I 168).2 155 = some (2, 0, 3, 0, 0, 156, []) := rfl
theorem ti_168_156 : (q_I 168).2 156 = some (0, 1, 0, 5, 0, 158, []) := rfl
theorem ti_168_158 : (q_I 168).2 158 = some (6, 2, 0, 0, 0, 159, []) := rfl
theorem ti_168_159 : (q_I 168).2 159 = some (5, 10, 0, 0, 0, 160, []) := rfl
theorem ti_168_160 : (q_I 168).2 160 = some (11, 1, 0, 6, 0, 162, []) := rfl
theorem ti_168_162 : (q_I 168).2 162 = some (2, 0, 1, 0, 0, 163, []) := rfl
theorem ti_168_163 : (q_I 168).2 163 = some (11, 1, 0, 7, 0, 165, []) := rfl
theorem ti_168_165 : (q_I 168).2 165 = some (0, 1, 0, 7, 0, 167, []) := rfl
theorem ti_168_167 : (q_I 168).2 167 = some (2, 0, 3, 0, 0, 168, []) := rfl
theorem ti_168_168 : (q_I 168).2 168 = some (9, 3, 0, 231, 0, 171, []) := rfl
theorem ti_168_171 : (q_I 168).2 171 = some (0, 4, 0, 0, 2, 172, []) := rfl
theorem ti_168_172 : (q_I 168).2 172 = some (1, 0, 25, 6, 14, 175, [809]) := rfl
theorem ti_168_175 : (q_I 168).2 175 = some (2, 0, 3, 0, 0, 176, []) := rfl
theorem ti_168_176 : (q_I 168).2 176 = some (0, 1, 0, 5, 0, 178, []) := rfl
theorem ti_168_178 : (q_I 168).2 178 = some (6, 2, 0, 0, 0, 179, []) := rfl
theorem ti_168_179 : (q_I 168).2 179 = some (0, 1, 0, 7, 0, 181, []) := rfl
theorem ti_168_181 : (q_I 168).2 181 = some (6, 0, 0, 0, 0, 182, []) := rfl
theorem ti_168_182 : (q_I 168).2 182 = some (5, 10, 0, 0, 0, 183, []) := rfl
theorem ti_168_183 : (q_I 168).2 183 = some (11, 1, 0, 8, 0, 185, []) := rfl
theorem ti_168_185 : (q_I 168).2 185 = some (0, 1, 0, 4, 0, 187, []) := rfl
theorem ti_168_187 : (q_I 168).2 187 = some (2, 0, 2, 0, 0, 188, []) := rfl
theorem ti_168_188 : (q_I 168).2 188 = some (6, 4, 0, 0, 0, 189, []) := rfl
theorem ti_168_189 : (q_I 168).2 189 = some (8, 1, 0, 209, 0, 192, []) := rfl
theorem ti_168_192 : (q_I 168).2 192 = some (0, 1, 0, 8, 0, 194, []) := rfl
theorem ti_168_194 : (q_I 168).2 194 = some (0, 1, 0, 6, 0, 196, []) := rfl
theorem ti_168_196 : (q_I 168).2 196 = some (9, 5, 0, 204, 0, 199, []) := rfl
theorem ti_168_199 : (q_I 168).2 199 = some (0, 1, 0, 8, 0, 201, []) := rfl
theorem ti_168_201 : (q_I 168).2 201 = some (7, 0, 0, 223, 0, 204, []) := rfl
theorem ti_168_204 : (q_I 168).2 204 = some (0, 1, 0, 6, 0, 206, []) := rfl
theorem ti_168_206 : (q_I 168).2 206 = some (7, 0, 0, 223, 0, 209, []) := rfl
theorem ti_168_209 : (q_I 168).2 209 = some (0, 1, 0, 8, 0, 211, []) := rfl
theorem ti_168_211 : (q_I 168).2 211 = some (0, 1, 0, 6, 0, 213, []) := rfl
theorem ti_168_213 : (q_I 168).2 213 = some (9, 3, 0, 221, 0, 216, []) := rfl
theorem ti_168_216 : (q_I 168).2 216 = some (0, 1, 0, 8, 0, 218, []) := rfl
theorem ti_168_218 : (q_I 168).2 218 = some (7, 0, 0, 223, 0, 221, []) := rfl
theorem ti_168_221 : (q_I 168).2 221 = some (0, 1, 0, 6, 0, 223, []) := rfl
theorem ti_168_223 : (q_I 168).2 223 = some (11, 1, 0, 6, 0, 225, []) := rfl
theorem ti_168_225 : (q_I 168).2 225 = some (13, 0, 1, 7, 0, 228, []) := rfl
theorem ti_168_228 : (q_I 168).2 228 = some (7, 0, 0, 165, 0, 231, []) := rfl
theorem ti_168_231 : (q_I 168).2 231 = some (0, 4, 0, 0, 2, 232, []) := rfl
theorem ti_168_232 : (q_I 168).2 232 = some (1, 0, 25, 6, 14, 235, [809]) := rfl
theorem ti_168_235 : (q_I 168).2 235 = some (0, 1, 0, 5, 0, 237, []) := rfl
theorem ti_168_237 : (q_I 168).2 237 = some (0, 1, 0, 6, 0, 239, []) := rfl
theorem ti_168_239 : (q_I 168).2 239 = some (12, 10, 0, 0, 0, 240, []) := rfl
theorem ti_168_240 : (q_I 168).2 240 = some (13, 0, 1, 5, 0, 243, []) := rfl
theorem ti_168_243 : (q_I 168).2 243 = some (7, 0, 0, 145, 0, 246, []) := rfl
theorem ti_168_246 : (q_I 168).2 246 = some (13, 0, (-1), 4, 0, 249, []) := rfl
theorem ti_168_249 : (q_I 168).2 249 = some (7, 0, 0, 133, 0, 252, []) := rfl
theorem ti_168_252 : (q_I 168).2 252 = some (0, 4, 0, 0, 2, 253, []) := rfl
theorem ti_168_253 : (q_I 168).2 253 = some (1, 0, 25, 6, 14, 256, [809]) := rfl
theorem ti_168_256 : (q_I 168).2 256 = some (2, 0, 0, 0, 0, 257, []) := rfl
theorem ti_168_257 : (q_I 168).2 257 = some (5, 10, 0, 0, 0, 258, []) := rfl
theorem ti_168_258 : (q_I 168).2 258 = some (4, 0, 0, 0, 0, 259, []) := rfl
theorem mt_168 (a1 : Int) (H : a_P) : a_mt id 0 168 [(2, 133), (0, a1)] H (fn_168 a1 H) := by
  refine a_mtI (lo := [some (2, 133), some (0, a1), none, none, none, none, none, none, none]) rfl fun d => ?_
  unfold fn_168
  refine a_w0 (Nat.le_succ _) ti_168_0 rfl ?_
  refine a_w14 (a := (1, a1)) (Nat.le_succ _) ti_168_1 rfl ?_
  refine a_w15 (z := 0) (Nat.le_succ _) ti_168_2 (by decide) ?_
  refine a_w15 (z := 5) (Nat.le_succ _) ti_168_3 (by decide) ?_
  refine a_w3p (args := [(1, a1), (1, 0), (1, 5)]) (Nat.le_succ _) ti_168_6 (mt_108 a1 0 5 H) rfl rfl rfl rfl ?_
  refine a_w8_1 (Nat.le_succ _) ti_168_9 ?_ ?_
  · refine a_w2 (z := 1) (Nat.le_succ _) ti_168_14 (by decide) ?_
    refine a_w11 (lo' := [some (2, 133), some (0, a1), some (0, 1), none, none, none, none, none, none]) (Nat.le_succ _) ti_168_15 rfl ?_
    refine a_w2 (z := 0) (Nat.le_succ _) ti_168_16 (by decide) ?_
    refine a_w11 (lo' := [some (2, 133), some (0, a1), some (0, 1), some (0, 0), none, none, none, none, none]) (Nat.le_succ _) ti_168_17 rfl ?_
    refine a_wjn 33 (fun (s : Int) => [some (2, 133), some (0, a1), some (0, s), none, none, none, none, none, none]) (fun (s : Int) => []) (fun (s : Int) => H) (fun s1 => ?_) (fun j33 hj33 => ?_)
    · refine a_w0 (Nat.le_succ _) ti_168_33 rfl ?_
      refine a_w3v (args := [(2, 133)]) (Nat.le_succ _) ti_168_34 (mt_153 H) rfl rfl (fun H1 => ?_)
      refine a_w2 (z := 0) (Nat.le_succ _) ti_168_37 (by decide) ?_
      refine a_w11 (lo' := [some (2, 133), some (0, a1), some (0, s1), some (0, 0), none, none, none, none, none]) (Nat.le_succ _) ti_168_38 rfl ?_
      refine a_wjn 126 (fun (s : a_P) => [some (2, 133), some (0, a1), some (0, s1), none, none, none, none, none, none]) (fun (s : a_P) => []) (fun (s : a_P) => s) (fun s2 => ?_) (fun j126 hj126 => ?_)
      · refine a_w0 (Nat.le_succ _) ti_168_126 rfl ?_
        refine a_w11 (lo' := [some (2, 133), some (0, a1), some (0, s1), some (0, s1), none, none, none, none, none]) (Nat.le_succ _) ti_168_127 rfl ?_
        refine a_w0 (Nat.le_succ _) ti_168_128 rfl ?_
        refine a_w2 (z := 1) (Nat.le_succ _) ti_168_129 (by decide) ?_
        refine a_w6 (a := (0, a_w (a1 - 1))) (Nat.le_succ _) ti_168_130 rfl ?_
        refine a_w11b (lof := fun x1 => [some (2, 133), some (0, a1), some (0, s1), some (0, s1), some (0, x1), none, none, none, none]) (Nat.le_succ _) ti_168_131 (fun _ => rfl) (fun x1 => ?_)
        refine a_wjn 252 (fun (s : a_P) => [some (2, 133), none, none, none, none, none, none, none, none]) (fun (s : a_P) => []) (fun (s : a_P) => s) (fun s3 => ?_) (fun j252 hj252 => ?_)
        · refine a_w0 (Nat.le_succ _) ti_168_252 rfl ?_
          refine a_w1 (a := (2, 139)) (Nat.le_succ _) ti_168_253 rfl ?_
          refine a_w2 (z := 0) (Nat.le_succ _) ti_168_256 (by decide) ?_
          refine a_w5 (kk := 0) (Nat.le_succ _) ti_168_257 (fun _ => rfl) ?_
          exact a_w4 (Nat.le_succ _) ti_168_258 rfl rfl rfl
        · refine a_wk (a_wlp (fun (s : Int × Int × a_P) => [some (2, 133), none, none, some (0, s.1), some (0, s.2.1), none, none, none, none]) (fun (s : Int × Int × a_P) => s.2.2) (fun N1 hN1 n133 hn133 s4 => ?_) a_fuel (a_fuel_le (by omega)) (s1, x1, s2)) (Nat.le_refl _) ⟨rfl, rfl, rfl, trivial⟩
          · refine a_w0 (Nat.le_refl _) ti_168_133 rfl ?_
            refine a_w8_2 (Nat.le_succ _) ti_168_135 ?_ ?_
            · exact a_wk (hj252 s4.2.2) (by omega) ⟨rfl, trivial⟩
            · refine a_w0 (Nat.le_succ _) ti_168_138 rfl ?_
              refine a_w2 (z := 3) (Nat.le_succ _) ti_168_139 (by decide) ?_
              refine a_w6 (a := (0, a_div s4.1 3)) (Nat.le_succ _) ti_168_140 rfl ?_
              refine a_w11b (lof := fun x2 => [some (2, 133), none, none, some (0, x2), some (0, s4.2.1), none, none, none, none]) (Nat.le_succ _) ti_168_141 (fun _ => rfl) (fun x2 => ?_)
              refine a_w2 (z := 0) (Nat.le_succ _) ti_168_142 (by decide) ?_
              refine a_w11 (lo' := [some (2, 133), none, none, some (0, x2), some (0, s4.2.1), some (0, 0), none, none, none]) (Nat.le_succ _) ti_168_143 rfl ?_
              refine a_wjn 246 (fun (s : a_P) => [some (2, 133), none, none, some (0, x2), some (0, s4.2.1), none, none, none, none]) (fun (s : a_P) => []) (fun (s : a_P) => s) (fun s5 => ?_) (fun j246 hj246 => ?_)
              · refine a_w13 (c' := (-1)) (lof := fun x3 => [some (2, 133), none, none, some (0, x2), some (0, x3), none, none, none, none]) (Nat.le_succ _) ti_168_246 rfl (by decide) rfl (fun _ => rfl) (fun x3 => ?_)
                refine a_w7 (Nat.le_succ _) ti_168_249 ?_
                exact a_wk (hn133 (x2, x3, s5)) (by omega) ⟨rfl, rfl, rfl, trivial⟩
              · refine a_wk (a_wlp (fun (s : Int × a_P) => [some (2, 133), none, none, some (0, x2), some (0, s4.2.1), some (0, s.1), none, none, none]) (fun (s : Int × a_P) => s.2) (fun N2 hN2 n145 hn145 s6 => ?_) a_fuel (a_fuel_le (by omega)) (0, s4.2.2)) (Nat.le_refl _) ⟨rfl, rfl, rfl, rfl, trivial⟩
                · refine a_w0 (Nat.le_refl _) ti_168_145 rfl ?_
                  refine a_w0 (Nat.le_succ _) ti_168_147 rfl ?_
                  refine a_w9_3 (Nat.le_succ _) ti_168_148 ?_ ?_
                  · exact a_wk (hj246 s6.2) (by omega) ⟨rfl, rfl, rfl, trivial⟩
                  · refine a_w0 (Nat.le_succ _) ti_168_151 rfl ?_
                    refine a_w1 (a := (2, 139)) (Nat.le_succ _) ti_168_152 rfl ?_
                    refine a_w2 (z := 3) (Nat.le_succ _) ti_168_155 (by decide) ?_
                    refine a_w0 (Nat.le_succ _) ti_168_156 rfl ?_
                    refine a_w6 (a := (0, a_w (3 * s6.1))) (Nat.le_succ _) ti_168_158 rfl ?_
                    refine a_w5 (kk := 0) (Nat.le_succ _) ti_168_159 (fun _ => rfl) ?_
                    refine a_w11b (lof := fun x4 => [some (2, 133), none, none, some (0, x2), some (0, s4.2.1), some (0, s6.1), some (0, x4), none, none]) (Nat.le_succ _) ti_168_160 (fun _ => rfl) (fun x4 => ?_)
                    refine a_w2 (z := 1) (Nat.le_succ _) ti_168_162 (by decide) ?_
                    refine a_w11 (lo' := [some (2, 133), none, none, some (0, x2), some (0, s4.2.1), some (0, s6.1), some (0, x4), some (0, 1), none]) (Nat.le_succ _) ti_168_163 rfl ?_
                    refine a_wjn 231 (fun (s : Int) => [some (2, 133), none, none, some (0, x2), some (0, s4.2.1), some (0, s6.1), some (0, s), none, none]) (fun (s : Int) => []) (fun (s : Int) => s6.2) (fun s7 => ?_) (fun j231 hj231 => ?_)
                    · refine a_w0 (Nat.le_succ _) ti_168_231 rfl ?_
                      refine a_w1 (a := (2, 139)) (Nat.le_succ _) ti_168_232 rfl ?_
                      refine a_w0 (Nat.le_succ _) ti_168_235 rfl ?_
                      refine a_w0 (Nat.le_succ _) ti_168_237 rfl ?_
                      refine a_w12 (Nat.le_succ _) ti_168_239 (Or.inl ⟨rfl, rfl⟩) (fun H2 => ?_)
                      refine a_w13 (c' := 1) (lof := fun x5 => [some (2, 133), none, none, some (0, x2), some (0, s4.2.1), some (0, x5), some (0, s7), none, none]) (Nat.le_succ _) ti_168_240 rfl (by decide) rfl (fun _ => rfl) (fun x5 => ?_)
                      refine a_w7 (Nat.le_succ _) ti_168_243 ?_
                      exact a_wk (hn145 (x5, H2)) (by omega) ⟨rfl, rfl, rfl, rfl, trivial⟩
                    · refine a_wk (a_wlp (fun (s : Int × Int) => [some (2, 133), none, none, some (0, x2), some (0, s4.2.1), some (0, s6.1), some (0, s.1), some (0, s.2), none]) (fun (s : Int × Int) => s6.2) (fun N3 hN3 n165 hn165 s8 => ?_) a_fuel (a_fuel_le (by omega)) (x4, 1)) (Nat.le_refl _) ⟨rfl, rfl, rfl, rfl, rfl, rfl, trivial⟩
                      · refine a_w0 (Nat.le_refl _) ti_168_165 rfl ?_
                        refine a_w2 (z := 3) (Nat.le_succ _) ti_168_167 (by decide) ?_
                        refine a_w9_3 (Nat.le_succ _) ti_168_168 ?_ ?_
                        · exact a_wk (hj231 s8.1) (by omega) ⟨rfl, rfl, rfl, rfl, rfl, trivial⟩
                        · refine a_w0 (Nat.le_succ _) ti_168_171 rfl ?_
                          refine a_w1 (a := (2, 139)) (Nat.le_succ _) ti_168_172 rfl ?_
                          refine a_w2 (z := 3) (Nat.le_succ _) ti_168_175 (by decide) ?_
                          refine a_w0 (Nat.le_succ _) ti_168_176 rfl ?_
                          refine a_w6 (a := (0, a_w (3 * s6.1))) (Nat.le_succ _) ti_168_178 rfl ?_
                          refine a_w0 (Nat.le_succ _) ti_168_179 rfl ?_
                          refine a_w6 (a := (0, a_w ((a_w (3 * s6.1)) + s8.2))) (Nat.le_succ _) ti_168_181 rfl ?_
                          refine a_w5 (kk := 0) (Nat.le_succ _) ti_168_182 (fun _ => rfl) ?_
                          refine a_w11b (lof := fun x6 => [some (2, 133), none, none, some (0, x2), some (0, s4.2.1), some (0, s6.1), some (0, s8.1), some (0, s8.2), some (0, x6)]) (Nat.le_succ _) ti_168_183 (fun _ => rfl) (fun x6 => ?_)
                          refine a_w0 (Nat.le_succ _) ti_168_185 rfl ?_
                          refine a_w2 (z := 2) (Nat.le_succ _) ti_168_187 (by decide) ?_
                          refine a_w6 (a := (0, a_rem s4.2.1 2)) (Nat.le_succ _) ti_168_188 rfl ?_
                          refine a_wjn 223 (fun (s : Int) => [some (2, 133), none, none, some (0, x2), some (0, s4.2.1), some (0, s6.1), none, some (0, s8.2), none]) (fun (s : Int) => [(0, s)]) (fun (s : Int) => s6.2) (fun s9 => ?_) (fun j223 hj223 => ?_)
                          · refine a_w11 (lo' := [some (2, 133), none, none, some (0, x2), some (0, s4.2.1), some (0, s6.1), some (0, s9), some (0, s8.2), none]) (Nat.le_succ _) ti_168_223 rfl ?_
                            refine a_w13 (c' := 1) (lof := fun x7 => [some (2, 133), none, none, some (0, x2), some (0, s4.2.1), some (0, s6.1), some (0, s9), some (0, x7), none]) (Nat.le_succ _) ti_168_225 rfl (by decide) rfl (fun _ => rfl) (fun x7 => ?_)
                            refine a_w7 (Nat.le_succ _) ti_168_228 ?_
                            exact a_wk (hn165 (s9, x7)) (by omega) ⟨rfl, rfl, rfl, rfl, rfl, rfl, trivial⟩
                          · refine a_w8_1 (Nat.le_succ _) ti_168_189 ?_ ?_
                            · refine a_w0 (Nat.le_succ _) ti_168_209 rfl ?_
                              refine a_w0 (Nat.le_succ _) ti_168_211 rfl ?_
                              refine a_w9_3 (Nat.le_succ _) ti_168_213 ?_ ?_
                              · refine a_w0 (Nat.le_succ _) ti_168_221 rfl ?_
                                exact a_wk (hj223 s8.1) (by omega) ⟨rfl, rfl, rfl, rfl, rfl, trivial⟩
                              · refine a_w0 (Nat.le_succ _) ti_168_216 rfl ?_
                                refine a_w7 (Nat.le_succ _) ti_168_218 ?_
                                exact a_wk (hj223 x6) (by omega) ⟨rfl, rfl, rfl, rfl, rfl, trivial⟩
                            · refine a_w0 (Nat.le_succ _) ti_168_192 rfl ?_
                              refine a_w0 (Nat.le_succ _) ti_168_194 rfl ?_
                              refine a_w9_5 (Nat.le_succ _) ti_168_196 ?_ ?_
                              · refine a_w0 (Nat.le_succ _) ti_168_204 rfl ?_
                                refine a_w7 (Nat.le_succ _) ti_168_206 ?_
                                exact a_wk (hj223 s8.1) (by omega) ⟨rfl, rfl, rfl, rfl, rfl, trivial⟩
                              · refine a_w0 (Nat.le_succ _) ti_168_199 rfl ?_
                                refine a_w7 (Nat.le_succ _) ti_168_201 ?_
                                exact a_wk (hj223 x6) (by omega) ⟨rfl, rfl, rfl, rfl, rfl, trivial⟩
      · refine a_wk (a_wlp (fun (s : Int × a_P) => [some (2, 133), some (0, a1), some (0, s1), some (0, s.1), none, none, none, none, none]) (fun (s : Int × a_P) => s.2) (fun N4 hN4 n39 hn39 s10 => ?_) a_fuel (a_fuel_le (by omega)) (0, H1)) (Nat.le_refl _) ⟨rfl, rfl, rfl, rfl, trivial⟩
        · refine a_w0 (Nat.le_refl _) ti_168_39 rfl ?_
          refine a_w0 (Nat.le_succ _) ti_168_40 rfl ?_
          refine a_w9_3 (Nat.le_succ _) ti_168_41 ?_ ?_
          · exact a_wk (hj126 s10.2) (by omega) ⟨rfl, rfl, rfl, trivial⟩
          · refine a_w0 (Nat.le_succ _) ti_168_44 rfl ?_
            refine a_w11 (lo' := [some (2, 133), some (0, a1), some (0, s1), some (0, s10.1), some (0, s1), none, none, none, none]) (Nat.le_succ _) ti_168_45 rfl ?_
            refine a_w2 (z := 0) (Nat.le_succ _) ti_168_47 (by decide) ?_
            refine a_w11 (lo' := [some (2, 133), some (0, a1), some (0, s1), some (0, s10.1), some (0, s1), some (0, 0), none, none, none]) (Nat.le_succ _) ti_168_48 rfl ?_
            refine a_wjn 103 (fun (s : a_P) => [some (2, 133), some (0, a1), some (0, s1), some (0, s10.1), none, none, none, none, none]) (fun (s : a_P) => []) (fun (s : a_P) => s) (fun s11 => ?_) (fun j103 hj103 => ?_)
            · refine a_w0 (Nat.le_succ _) ti_168_103 rfl ?_
              refine a_w1 (a := (2, 139)) (Nat.le_succ _) ti_168_104 rfl ?_
              refine a_w0 (Nat.le_succ _) ti_168_107 rfl ?_
              refine a_w0 (Nat.le_succ _) ti_168_108 rfl ?_
              refine a_w3p (args := [(2, 133)]) (Nat.le_succ _) ti_168_109 (mt_120 s11) rfl rfl rfl rfl ?_
              refine a_w3p (args := [(0, fn_120 s11)]) (Nat.le_succ _) ti_168_112 (mt_163 (fn_120 s11) s11) rfl rfl rfl rfl ?_
              refine a_w12 (Nat.le_succ _) ti_168_115 (Or.inl ⟨rfl, rfl⟩) (fun H3 => ?_)
              refine a_w0 (Nat.le_succ _) ti_168_116 rfl ?_
              refine a_w3v (args := [(2, 133)]) (Nat.le_succ _) ti_168_117 (mt_154 H3) rfl rfl (fun H4 => ?_)
              refine a_w13 (c' := 1) (lof := fun x8 => [some (2, 133), some (0, a1), some (0, s1), some (0, x8), none, none, none, none, none]) (Nat.le_succ _) ti_168_120 rfl (by decide) rfl (fun _ => rfl) (fun x8 => ?_)
              refine a_w7 (Nat.le_succ _) ti_168_123 ?_
              exact a_wk (hn39 (x8, H4)) (by omega) ⟨rfl, rfl, rfl, rfl, trivial⟩
            · refine a_wk (a_wlp (fun (s : Int × Int × a_P) => [some (2, 133), some (0, a1), some (0, s1), some (0, s10.1), some (0, s.1), some (0, s.2.1), none, none, none]) (fun (s : Int × Int × a_P) => s.2.2) (fun N5 hN5 n50 hn50 s12 => ?_) a_fuel (a_fuel_le (by omega)) (s1, 0, s10.2)) (Nat.le_refl _) ⟨rfl, rfl, rfl, rfl, rfl, rfl, trivial⟩
              · refine a_w0 (Nat.le_refl _) ti_168_50 rfl ?_
                refine a_w0 (Nat.le_succ _) ti_168_52 rfl ?_
                refine a_w9_3 (Nat.le_succ _) ti_168_53 ?_ ?_
                · exact a_wk (hj103 s12.2.2) (by omega) ⟨rfl, rfl, rfl, rfl, trivial⟩
                · refine a_w0 (Nat.le_succ _) ti_168_56 rfl ?_
                  refine a_w2 (z := 3) (Nat.le_succ _) ti_168_58 (by decide) ?_
                  refine a_w6 (a := (0, a_div s12.1 3)) (Nat.le_succ _) ti_168_59 rfl ?_
                  refine a_w11b (lof := fun x9 => [some (2, 133), some (0, a1), some (0, s1), some (0, s10.1), some (0, x9), some (0, s12.2.1), none, none, none]) (Nat.le_succ _) ti_168_60 (fun _ => rfl) (fun x9 => ?_)
                  refine a_w0 (Nat.le_succ _) ti_168_62 rfl ?_
                  refine a_w0 (Nat.le_succ _) ti_168_63 rfl ?_
                  refine a_w6 (a := (0, a_div s10.1 x9)) (Nat.le_succ _) ti_168_65 rfl ?_
                  refine a_w2 (z := 3) (Nat.le_succ _) ti_168_66 (by decide) ?_
                  refine a_w6 (a := (0, a_rem (a_div s10.1 x9) 3)) (Nat.le_succ _) ti_168_67 rfl ?_
                  refine a_w11b (lof := fun x10 => [some (2, 133), some (0, a1), some (0, s1), some (0, s10.1), some (0, x9), some (0, s12.2.1), some (0, x10), none, none]) (Nat.le_succ _) ti_168_68 (fun _ => rfl) (fun x10 => ?_)
                  refine a_w0 (Nat.le_succ _) ti_168_70 rfl ?_
                  refine a_w1 (a := (2, 134)) (Nat.le_succ _) ti_168_71 rfl ?_
                  refine a_w2 (z := 2) (Nat.le_succ _) ti_168_74 (by decide) ?_
                  refine a_w0 (Nat.le_succ _) ti_168_75 rfl ?_
                  refine a_w1 (a := (2, 134)) (Nat.le_succ _) ti_168_76 rfl ?_
                  refine a_w2 (z := 2) (Nat.le_succ _) ti_168_79 (by decide) ?_
                  refine a_w5 (kk := 0) (Nat.le_succ _) ti_168_80 (fun _ => rfl) ?_
                  refine a_w0 (Nat.le_succ _) ti_168_81 rfl ?_
                  refine a_w2 (z := 2) (Nat.le_succ _) ti_168_83 (by decide) ?_
                  refine a_wjn 93 (fun (s : Int) => [some (2, 133), some (0, a1), some (0, s1), some (0, s10.1), some (0, x9), some (0, s12.2.1), none, none, none]) (fun (s : Int) => [(0, s), (0, s12.2.2 134 2), (0, 2), (2, 134)]) (fun (s : Int) => s12.2.2) (fun s13 => ?_) (fun j93 hj93 => ?_)
                  · refine a_w6 (a := (0, a_w ((s12.2.2 134 2) + s13))) (Nat.le_succ _) ti_168_93 rfl ?_
                    refine a_w2 (z := 4) (Nat.le_succ _) ti_168_94 (by decide) ?_
                    refine a_w6 (a := (0, a_rem (a_w ((s12.2.2 134 2) + s13)) 4)) (Nat.le_succ _) ti_168_95 rfl ?_
                    refine a_w12 (Nat.le_succ _) ti_168_96 (Or.inl ⟨rfl, rfl⟩) (fun H5 => ?_)
                    refine a_w13 (c' := 1) (lof := fun x11 => [some (2, 133), some (0, a1), some (0, s1), some (0, s10.1), some (0, x9), some (0, x11), none, none, none]) (Nat.le_succ _) ti_168_97 rfl (by decide) rfl (fun _ => rfl) (fun x11 => ?_)
                    refine a_w7 (Nat.le_succ _) ti_168_100 ?_
                    exact a_wk (hn50 (x9, x11, H5)) (by omega) ⟨rfl, rfl, rfl, rfl, rfl, rfl, trivial⟩
                  · refine a_w9_1 (Nat.le_succ _) ti_168_84 ?_ ?_
                    · refine a_w0 (Nat.le_succ _) ti_168_91 rfl ?_
                      exact a_wk (hj93 x10) (by omega) ⟨rfl, rfl, rfl, rfl, rfl, rfl, trivial⟩
                    · refine a_w2 (z := 3) (Nat.le_succ _) ti_168_87 (by decide) ?_
                      refine a_w7 (Nat.le_succ _) ti_168_88 ?_
                      exact a_wk (hj93 3) (by omega) ⟨rfl, rfl, rfl, rfl, rfl, rfl, trivial⟩
    · refine a_wk (a_wlp (fun (s : Int × Int) => [some (2, 133), some (0, a1), some (0, s.1), some (0, s.2), none, none, none, none, none]) (fun (s : Int × Int) => H) (fun N6 hN6 n18 hn18 s14 => ?_) a_fuel (a_fuel_le (by omega)) (1, 0)) (Nat.le_refl _) ⟨rfl, rfl, rfl, rfl, trivial⟩
      · refine a_w0 (Nat.le_refl _) ti_168_18 rfl ?_
        refine a_w0 (Nat.le_succ _) ti_168_19 rfl ?_
        refine a_w9_3 (Nat.le_succ _) ti_168_20 ?_ ?_
        · exact a_wk (hj33 s14.1) (by omega) ⟨rfl, rfl, rfl, trivial⟩
        · refine a_w0 (Nat.le_succ _) ti_168_23 rfl ?_
          refine a_w2 (z := 3) (Nat.le_succ _) ti_168_24 (by decide) ?_
          refine a_w6 (a := (0, a_w (s14.1 * 3))) (Nat.le_succ _) ti_168_25 rfl ?_
          refine a_w11b (lof := fun x12 => [some (2, 133), some (0, a1), some (0, x12), some (0, s14.2), none, none, none, none, none]) (Nat.le_succ _) ti_168_26 (fun _ => rfl) (fun x12 => ?_)
          refine a_w13 (c' := 1) (lof := fun x13 => [some (2, 133), some (0, a1), some (0, x12), some (0, x13), none, none, none, none, none]) (Nat.le_succ _) ti_168_27 rfl (by decide) rfl (fun _ => rfl) (fun x13 => ?_)
          refine a_w7 (Nat.le_succ _) ti_168_30 ?_
          exact a_wk (hn18 (x12, x13)) (by omega) ⟨rfl, rfl, rfl, rfl, trivial⟩
  · refine a_w2 (z := (-1)) (Nat.le_succ _) ti_168_12 (by decide) ?_
    exact a_w4 (Nat.le_succ _) ti_168_13 rfl rfl rfl
/-- CarriedGateModel.stood(II)I -/
noncomputable def fn_169 (a1 : Int) (a2 : Int) (H : a_P) : a_F :=
  a_jn (fun (s1 : Unit) => ((-1), H)) fun j18 =>
  (if (fn_162 a1 H) = 0 then j18 ()
  else (if (fn_108 a2 0 1) = 0 then j18 ()
  else a_bd (fn_153 H) fun H1 =>
  a_jn (fun (s2 : Int × Int × a_P) => a_bd (fn_154 s2.2.2) fun H2 =>
  a_jn (fun (s3 : Int) => (s3, H2)) fun j105 =>
  (if a2 = 0 then j105 s2.1
  else j105 s2.2.1)) fun j91 =>
  a_lp (fun (s4 : Int × Int × Int × a_P) => (0, s4.2.2.2)) (fun (s4 : Int × Int × Int × a_P) n33 => (if s4.2.2.1 < 144 then a_bd (a_up s4.2.2.2 134 1 (a_div s4.2.2.1 4)) fun H3 =>
  a_bd (a_up H3 134 2 (a_rem s4.2.2.1 4)) fun H4 =>
  a_jn (fun (s5 : Int × Int) => a_bd (a_w (s4.2.2.1 + 1)) fun x1 =>
  n33 (s5.1, s5.2, x1, H4)) fun j85 =>
  (if (fn_119 H4) = a1 then a_jn (fun (s6 : Int) => a_bd (a_w (s4.1 + 1)) fun x2 =>
  j85 (x2, s6)) fun j80 =>
  (if s4.1 = 0 then j80 s4.2.2.1
  else j80 s4.2.1)
  else j85 (s4.1, s4.2.1))
  else j91 (s4.1, s4.2.1, s4.2.2.2))) a_fuel (0, (-4), 0, H1)))
theorem ti_169_0 : (q_I 169).2 0 = some (0, 4, 0, 0, 2, 1, []) := rfl
theorem ti_169_1 : (q_I 169).2 1 = some (0, 0, 0, 1, 0, 2, []) := rfl
theorem ti_169_2 : (q_I 169).2 2 = some (3, 0, 219, 162, 2, 5, [1085, 6]) := rfl
theorem ti_169_5 : (q_I 169).2 5 = some (8, 0, 0, 18, 0, 8, []) := rfl
theorem ti_169_8 : (q_I 169).2 8 = some (0, 0, 0, 2, 0, 9, []) := rfl
theorem ti_169_9 : (q_I 169).2 9 = some (14, 4, 0, 0, 0, 10, []) := rfl
theorem ti_169_10 : (q_I 169).2 10 = some (15, 0, 0, 0, 0, 11, []) := rfl
theorem ti_169_11 : (q_I 169).2 11 = some (15, 0, 1, 0, 0, 12, []) := rfl
theorem ti_169_12 : (q_I 169).2 12 = some (3, 1, 51, 108, 3, 15, [867, 6]) := rfl
theorem ti_169_15 : (q_I 169).2 15 = some (8, 1, 0, 20, 0, 18, []) := rfl
theorem ti_169_20 : (q_I 169).2 20 = some (2, 0, 0, 0, 0, 21, []) := rfl
theorem ti_169_21 : (q_I 169).2 21 = some (11, 0, 0, 3, 0, 22, []) := rfl
theorem ti_169_22 : (q_I 169).2 22 = some (2, 1, (-4), 0, 0, 24, []) := rfl
theorem ti_169_24 : (q_I 169).2 24 = some (11, 1, 0, 4, 0, 26, []) := rfl
theorem ti_169_26 : (q_I 169).2 26 = some (0, 4, 0, 0, 2, 27, []) := rfl
theorem ti_169_27 : (q_I 169).2 27 = some (3, 0, 187, 153, 1, 30, [1048, 6]) := rfl
theorem ti_169_30 : (q_I 169).2 30 = some (2, 0, 0, 0, 0, 31, []) := rfl
theorem ti_169_31 : (q_I 169).2 31 = some (11, 1, 0, 5, 0, 33, []) := rfl
theorem ti_169_33 : (q_I 169).2 33 = some (0, 1, 0, 5, 0, 35, []) := rfl
theorem ti_169_35 : (q_I 169).2 35 = some (2, 2, 144, 0, 0, 38, []) := rfl
theorem ti_169_38 : (q_I 169).2 38 = some (9, 3, 0, 91, 0, 41, []) := rfl
theorem ti_169_41 : (q_I 169).2 41 = some (0, 4, 0, 0, 2, 42, []) := rfl
theorem ti_169_42 : (q_I 169).2 42 = some (1, 0, 7, 6, 0, 45, [795]) := rfl
theorem ti_169_45 : (q_I 169).2 45 = some (2, 0, 1, 0, 0, 46, []) := rfl
theorem ti_169_46 : (q_I 169).2 46 = some (0, 1, 0, 5, 0, 48, []) := rfl
theorem ti_169_48 : (q_I 169).2 48 = some (2, 0, 4, 0, 0, 49, []) := rfl
theorem ti_169_49 : (q_I 169).2 49 = some (6, 3, 0, 0, 0, 50, []) := rfl
theorem ti_169_50 : (q_I 169).2 50 = some (12, 10, 0, 0, 0, 51, []) := rfl
theorem ti_169_51 : (q_I 169).2 51 = some (0, 4, 0, 0, 2, 52, []) := rfl
theorem ti_169_52 : (q_I 169).2 52 = some (1, 0, 7, 6, 0, 55, [795]) := rfl
theorem ti_169_55 : (q_I 169).2 55 = some (2, 0, 2, 0, 0, 56, []) := rfl
theorem ti_169_56 : (q_I 169).2 56 = some (0, 1, 0, 5, 0, 58, []) := rfl
theorem ti_169_58 : (q_I 169).2 58 = some (2, 0, 4, 0, 0, 59, []) := rfl
theorem ti_169_59 : (q_I 169).2 59 = some (6, 4, 0, 0, 0, 60, []) := rfl
theorem ti_169_60 : (q_I 169).2 60 = some (12, 10, 0, 0, 0, 61, []) := rfl
theorem ti_169_61 : (q_I 169).2 61 = some (0, 4, 0, 0, 2, 62, []) := rfl
theorem ti_169_62 : (q_I 169).2 62 = some (3, 0, 80, 119, 1, 65, [895, 6]) := rfl
theorem ti_169_65 : (q_I 169).2 65 = some (0, 0, 0, 1, 0, 66, []) := rfl
theorem ti_169_66 : (q_I 169).2 66 = some (9, 1, 0, 85, 0, 69, []) := rfl
theorem ti_169_69 : (q_I 169).2 69 = some (0, 0, 0, 3, 0, 70, []) := rfl
theorem ti_169_70 : (q_I 169).2 70 = some (8, 1, 0, 78, 0, 73, []) := rfl
theorem ti_169_73 : (q_I 169).2 73 = some (0, 1, 0, 5, 0, 75, []) := rfl
theorem ti_169_75 : (q_I 169).2 75 = some (7, 0, 0, 80, 0, 78, []) := rfl
theorem ti_169_78 : (q_I 169).2 78 = some (0, 1, 0, 4, 0, 80, []) := rfl
theorem ti_169_80 : (q_I 169).2 80 = some (11, 1, 0, 4, 0, 82, []) := rfl
theorem ti_169_82 : (q_I 169).2 82 = some (13, 0, 1, 3, 0, 85, []) := rfl
theorem ti_169_85 : (q_I 169).2 85 = some (13, 0, 1, 5, 0, 88, []) := rfl
theorem ti_169_88 : (q_I 169).2 88 = some (7, 0, 0, 33, 0, 91, []) := rfl
theorem ti_169_91 : (q_I 169).2 91 = some (0, 4, 0, 0, 2, 92, []) := rfl
theorem ti_169_92 : (q_I 169).2 92 = some (3, 0, 193, 154, 1, 95, [1056, 6]) := rfl
theorem ti_169_95 : (q_I 169).2 95 = some (0, 0, 0, 2, 0, 96, []) := rfl
theorem ti_169_96 : (q_I 169).2 96 = some (8, 1, 0, 103, 0, 99, []) := rfl
theorem ti_169_99 : (q_I 169).2 99 = some (0, 0, 0, 3, 0, 100, []) := rfl
theorem ti_169_100 : (q_I 169).2 100 = some (7, 0, 0, 105, 0, 103, []) := rfl
theorem ti_169_103 : (q_I 169).2 103 = some (0, 1, 0, 4, 0, 105, []) := rfl
theorem ti_169_105 : (q_I 169).2 105 = some (4, 0, 0, 0, 0, 106, []) := rfl
theorem ti_169_18 : (q_I 169).2 18 = some (2, 0, (-1), 0, 0, 19, []) := rfl
theorem ti_169_19 : (q_I 169).2 19 = some (4, 0, 0, 0, 0, 20, []) := rfl
theorem mt_169 (a1 : Int) (a2 : Int) (H : a_P) : a_mt id 0 169 [(2, 133), (0, a1), (0, a2)] H (fn_169 a1 a2 H) := by
  refine a_mtI (lo := [some (2, 133), some (0, a1), some (0, a2), none, none, none]) rfl fun d => ?_
  unfold fn_169
  refine a_w0 (Nat.le_succ _) ti_169_0 rfl ?_
  refine a_w0 (Nat.le_succ _) ti_169_1 rfl ?_
  refine a_w3p (args := [(2, 133), (0, a1)]) (Nat.le_succ _) ti_169_2 (mt_162 a1 H) rfl rfl rfl rfl ?_
  refine a_wjn 18 (fun (s : Unit) => [none, none, none, none, none, none]) (fun (s : Unit) => []) (fun (s : Unit) => H) (fun s1 => ?_) (fun j18 hj18 => ?_)
  · refine a_w2 (z := (-1)) (Nat.le_succ _) ti_169_18 (by decide) ?_
    exact a_w4 (Nat.le_succ _) ti_169_19 rfl rfl rfl
  · refine a_w8_0 (Nat.le_succ _) ti_169_5 ?_ ?_
    · exact a_wk (hj18 ()) (by omega) trivial
    · refine a_w0 (Nat.le_succ _) ti_169_8 rfl ?_
      refine a_w14 (a := (1, a2)) (Nat.le_succ _) ti_169_9 rfl ?_
      refine a_w15 (z := 0) (Nat.le_succ _) ti_169_10 (by decide) ?_
      refine a_w15 (z := 1) (Nat.le_succ _) ti_169_11 (by decide) ?_
      refine a_w3p (args := [(1, a2), (1, 0), (1, 1)]) (Nat.le_succ _) ti_169_12 (mt_108 a2 0 1 H) rfl rfl rfl rfl ?_
      refine a_w8_1 (Nat.le_succ _) ti_169_15 ?_ ?_
      · refine a_w2 (z := 0) (Nat.le_succ _) ti_169_20 (by decide) ?_
        refine a_w11 (lo' := [some (2, 133), some (0, a1), some (0, a2), some (0, 0), none, none]) (Nat.le_succ _) ti_169_21 rfl ?_
        refine a_w2 (z := (-4)) (Nat.le_succ _) ti_169_22 (by decide) ?_
        refine a_w11 (lo' := [some (2, 133), some (0, a1), some (0, a2), some (0, 0), some (0, (-4)), none]) (Nat.le_succ _) ti_169_24 rfl ?_
        refine a_w0 (Nat.le_succ _) ti_169_26 rfl ?_
        refine a_w3v (args := [(2, 133)]) (Nat.le_succ _) ti_169_27 (mt_153 H) rfl rfl (fun H1 => ?_)
        refine a_w2 (z := 0) (Nat.le_succ _) ti_169_30 (by decide) ?_
        refine a_w11 (lo' := [some (2, 133), some (0, a1), some (0, a2), some (0, 0), some (0, (-4)), some (0, 0)]) (Nat.le_succ _) ti_169_31 rfl ?_
        refine a_wjn 91 (fun (s : Int × Int × a_P) => [some (2, 133), none, some (0, a2), some (0, s.1), some (0, s.2.1), none]) (fun (s : Int × Int × a_P) => []) (fun (s : Int × Int × a_P) => s.2.2) (fun s2 => ?_) (fun j91 hj91 => ?_)
        · refine a_w0 (Nat.le_succ _) ti_169_91 rfl ?_
          refine a_w3v (args := [(2, 133)]) (Nat.le_succ _) ti_169_92 (mt_154 s2.2.2) rfl rfl (fun H2 => ?_)
          refine a_w0 (Nat.le_succ _) ti_169_95 rfl ?_
          refine a_wjn 105 (fun (s : Int) => [none, none, none, none, none, none]) (fun (s : Int) => [(0, s)]) (fun (s : Int) => H2) (fun s3 => ?_) (fun j105 hj105 => ?_)
          · exact a_w4 (Nat.le_succ _) ti_169_105 rfl rfl rfl
          · refine a_w8_1 (Nat.le_succ _) ti_169_96 ?_ ?_
            · refine a_w0 (Nat.le_succ _) ti_169_103 rfl ?_
              exact a_wk (hj105 s2.2.1) (by omega) trivial
            · refine a_w0 (Nat.le_succ _) ti_169_99 rfl ?_
              refine a_w7 (Nat.le_succ _) ti_169_100 ?_
              exact a_wk (hj105 s2.1) (by omega) trivial
        · refine a_wk (a_wlp (fun (s : Int × Int × Int × a_P) => [some (2, 133), some (0, a1), some (0, a2), some (0, s.1), some (0, s.2.1), some (0, s.2.2.1)]) (fun (s : Int × Int × Int × a_P) => s.2.2.2) (fun N1 hN1 n33 hn33 s4 => ?_) a_fuel (a_fuel_le (by omega)) (0, (-4), 0, H1)) (Nat.le_refl _) ⟨rfl, rfl, rfl, rfl, rfl, rfl, trivial⟩
          · refine a_w0 (Nat.le_refl _) ti_169_33 rfl ?_
            refine a_w2 (z := 144) (Nat.le_succ _) ti_169_35 (by decide) ?_
            refine a_w9_3 (Nat.le_succ _) ti_169_38 ?_ ?_
            · exact a_wk (hj91 (s4.1, s4.2.1, s4.2.2.2)) (by omega) ⟨rfl, rfl, rfl, rfl, trivial⟩
            · refine a_w0 (Nat.le_succ _) ti_169_41 rfl ?_
              refine a_w1 (a := (2, 134)) (Nat.le_succ _) ti_169_42 rfl ?_
              refine a_w2 (z := 1) (Nat.le_succ _) ti_169_45 (by decide) ?_
              refine a_w0 (Nat.le_succ _) ti_169_46 rfl ?_
              refine a_w2 (z := 4) (Nat.le_succ _) ti_169_48 (by decide) ?_
              refine a_w6 (a := (0, a_div s4.2.2.1 4)) (Nat.le_succ _) ti_169_49 rfl ?_
              refine a_w12 (Nat.le_succ _) ti_169_50 (Or.inl ⟨rfl, rfl⟩) (fun H3 => ?_)
              refine a_w0 (Nat.le_succ _) ti_169_51 rfl ?_
              refine a_w1 (a := (2, 134)) (Nat.le_succ _) ti_169_52 rfl ?_
              refine a_w2 (z := 2) (Nat.le_succ _) ti_169_55 (by decide) ?_
              refine a_w0 (Nat.le_succ _) ti_169_56 rfl ?_
              refine a_w2 (z := 4) (Nat.le_succ _) ti_169_58 (by decide) ?_
              refine a_w6 (a := (0, a_rem s4.2.2.1 4)) (Nat.le_succ _) ti_169_59 rfl ?_
              refine a_w12 (Nat.le_succ _) ti_169_60 (Or.inl ⟨rfl, rfl⟩) (fun H4 => ?_)
              refine a_w0 (Nat.le_succ _) ti_169_61 rfl ?_
              refine a_w3p (args := [(2, 133)]) (Nat.le_succ _) ti_169_62 (mt_119 H4) rfl rfl rfl rfl ?_
              refine a_w0 (Nat.le_succ _) ti_169_65 rfl ?_
              refine a_wjn 85 (fun (s : Int × Int) => [some (2, 133), some (0, a1), some (0, a2), some (0, s.1), some (0, s.2), some (0, s4.2.2.1)]) (fun (s : Int × Int) => []) (fun (s : Int × Int) => H4) (fun s5 => ?_) (fun j85 hj85 => ?_)
              · refine a_w13 (c' := 1) (lof := fun x1 => [some (2, 133), some (0, a1), some (0, a2), some (0, s5.1), some (0, s5.2), some (0, x1)]) (Nat.le_succ _) ti_169_85 rfl (by decide) rfl (fun _ => rfl) (fun x1 => ?_)
                refine a_w7 (Nat.le_succ _) ti_169_88 ?_
                exact a_wk (hn33 (s5.1, s5.2, x1, H4)) (by omega) ⟨rfl, rfl, rfl, rfl, rfl, rfl, trivial⟩
              · refine a_w9_1 (Nat.le_succ _) ti_169_66 ?_ ?_
                · exact a_wk (hj85 (s4.1, s4.2.1)) (by omega) ⟨rfl, rfl, rfl, rfl, rfl, rfl, trivial⟩
                · refine a_w0 (Nat.le_succ _) ti_169_69 rfl ?_
                  refine a_wjn 80 (fun (s : Int) => [some (2, 133), some (0, a1), some (0, a2), some (0, s4.1), none, some (0, s4.2.2.1)]) (fun (s : Int) => [(0, s)]) (fun (s : Int) => H4) (fun s6 => ?_) (fun j80 hj80 => ?_)
                  · refine a_w11 (lo' := [some (2, 133), some (0, a1), some (0, a2), some (0, s4.1), some (0, s6), some (0, s4.2.2.1)]) (Nat.le_succ _) ti_169_80 rfl ?_
                    refine a_w13 (c' := 1) (lof := fun x2 => [some (2, 133), some (0, a1), some (0, a2), some (0, x2), some (0, s6), some (0, s4.2.2.1)]) (Nat.le_succ _) ti_169_82 rfl (by decide) rfl (fun _ => rfl) (fun x2 => ?_)
                    exact a_wk (hj85 (x2, s6)) (by omega) ⟨rfl, rfl, rfl, rfl, rfl, rfl, trivial⟩
                  · refine a_w8_1 (Nat.le_succ _) ti_169_70 ?_ ?_
                    · refine a_w0 (Nat.le_succ _) ti_169_78 rfl ?_
                      exact a_wk (hj80 s4.2.1) (by omega) ⟨rfl, rfl, rfl, rfl, rfl, trivial⟩
                    · refine a_w0 (Nat.le_succ _) ti_169_73 rfl ?_
                      refine a_w7 (Nat.le_succ _) ti_169_75 ?_
                      exact a_wk (hj80 s4.2.2.1) (by omega) ⟨rfl, rfl, rfl, rfl, rfl, trivial⟩
      · exact a_wk (hj18 ()) (by omega) trivial

/-- CarriedGateModel.off(II)I -/
noncomputable def fn_113 (a0 : Int) (a1 : Int) : Int :=
  a_jn (fun (s1 : Int) => s1) fun j14 =>
  (if a0 < a1 then j14 (a_w (a1 - a0))
  else j14 (a_w (a0 - a1)))
theorem ti_113_0 : (q_I 113).2 0 = some (0, 0, 0, 0, 0, 1, []) := rfl
theorem ti_113_1 : (q_I 113).2 1 = some (0, 0, 0, 1, 0, 2, []) := rfl
theorem ti_113_2 : (q_I 113).2 2 = some (9, 3, 0, 11, 0, 5, []) := rfl
theorem ti_113_5 : (q_I 113).2 5 = some (0, 0, 0, 1, 0, 6, []) := rfl
theorem ti_113_6 : (q_I 113).2 6 = some (0, 0, 0, 0, 0, 7, []) := rfl
theorem ti_113_7 : (q_I 113).2 7 = some (6, 1, 0, 0, 0, 8, []) := rfl
theorem ti_113_8 : (q_I 113).2 8 = some (7, 0, 0, 14, 0, 11, []) := rfl
theorem ti_113_11 : (q_I 113).2 11 = some (0, 0, 0, 0, 0, 12, []) := rfl
theorem ti_113_12 : (q_I 113).2 12 = some (0, 0, 0, 1, 0, 13, []) := rfl
theorem ti_113_13 : (q_I 113).2 13 = some (6, 1, 0, 0, 0, 14, []) := rfl
theorem ti_113_14 : (q_I 113).2 14 = some (4, 0, 0, 0, 0, 15, []) := rfl
theorem mt_113 (a0 : Int) (a1 : Int) (H : a_P) : a_mt (a_pp H) 0 113 [(0, a0), (0, a1)] H (fn_113 a0 a1) := by
  refine a_mtI (lo := [some (0, a0), some (0, a1)]) rfl fun d => ?_
  unfold fn_113
  refine a_w0 (Nat.le_succ _) ti_113_0 rfl ?_
  refine a_w0 (Nat.le_succ _) ti_113_1 rfl ?_
  refine a_wjn 14 (fun (s : Int) => [none, none]) (fun (s : Int) => [(0, s)]) (fun (s : Int) => H) (fun s1 => ?_) (fun j14 hj14 => ?_)
  · exact a_w4 (Nat.le_succ _) ti_113_14 rfl rfl rfl
  · refine a_w9_3 (Nat.le_succ _) ti_113_2 ?_ ?_
    · refine a_w0 (Nat.le_succ _) ti_113_11 rfl ?_
      refine a_w0 (Nat.le_succ _) ti_113_12 rfl ?_
      refine a_w6 (a := (0, a_w (a0 - a1))) (Nat.le_succ _) ti_113_13 rfl ?_
      exact a_wk (hj14 (a_w (a0 - a1))) (by omega) trivial
    · refine a_w0 (Nat.le_succ _) ti_113_5 rfl ?_
      refine a_w0 (Nat.le_succ _) ti_113_6 rfl ?_
      refine a_w6 (a := (0, a_w (a1 - a0))) (Nat.le_succ _) ti_113_7 rfl ?_
      refine a_w7 (Nat.le_succ _) ti_113_8 ?_
      exact a_wk (hj14 (a_w (a1 - a0))) (by omega) trivial
/-- CarriedGateModel.farOf(II)I -/
noncomputable def fn_114 (a0 : Int) (a1 : Int) : Int :=
  a_w ((fn_113 (a_div a0 6) (a_div a1 6)) + (fn_113 (a_rem a0 6) (a_rem a1 6)))
theorem ti_114_0 : (q_I 114).2 0 = some (0, 0, 0, 0, 0, 1, []) := rfl
theorem ti_114_1 : (q_I 114).2 1 = some (2, 1, 6, 0, 0, 3, []) := rfl
theorem ti_114_3 : (q_I 114).2 3 = some (6, 3, 0, 0, 0, 4, []) := rfl
theorem ti_114_4 : (q_I 114).2 4 = some (0, 0, 0, 1, 0, 5, []) := rfl
theorem ti_114_5 : (q_I 114).2 5 = some (2, 1, 6, 0, 0, 7, []) := rfl
theorem ti_114_7 : (q_I 114).2 7 = some (6, 3, 0, 0, 0, 8, []) := rfl
theorem ti_114_8 : (q_I 114).2 8 = some (3, 1, 57, 113, 2, 11, [913, 6]) := rfl
theorem ti_114_11 : (q_I 114).2 11 = some (0, 0, 0, 0, 0, 12, []) := rfl
theorem ti_114_12 : (q_I 114).2 12 = some (2, 1, 6, 0, 0, 14, []) := rfl
theorem ti_114_14 : (q_I 114).2 14 = some (6, 4, 0, 0, 0, 15, []) := rfl
theorem ti_114_15 : (q_I 114).2 15 = some (0, 0, 0, 1, 0, 16, []) := rfl
theorem ti_114_16 : (q_I 114).2 16 = some (2, 1, 6, 0, 0, 18, []) := rfl
theorem ti_114_18 : (q_I 114).2 18 = some (6, 4, 0, 0, 0, 19, []) := rfl
theorem ti_114_19 : (q_I 114).2 19 = some (3, 1, 57, 113, 2, 22, [913, 6]) := rfl
theorem ti_114_22 : (q_I 114).2 22 = some (6, 0, 0, 0, 0, 23, []) := rfl
theorem ti_114_23 : (q_I 114).2 23 = some (4, 0, 0, 0, 0, 24, []) := rfl
theorem mt_114 (a0 : Int) (a1 : Int) (H : a_P) : a_mt (a_pp H) 0 114 [(0, a0), (0, a1)] H (fn_114 a0 a1) := by
  refine a_mtI (lo := [some (0, a0), some (0, a1)]) rfl fun d => ?_
  unfold fn_114
  refine a_w0 (Nat.le_succ _) ti_114_0 rfl ?_
  refine a_w2 (z := 6) (Nat.le_succ _) ti_114_1 (by decide) ?_
  refine a_w6 (a := (0, a_div a0 6)) (Nat.le_succ _) ti_114_3 rfl ?_
  refine a_w0 (Nat.le_succ _) ti_114_4 rfl ?_
  refine a_w2 (z := 6) (Nat.le_succ _) ti_114_5 (by decide) ?_
  refine a_w6 (a := (0, a_div a1 6)) (Nat.le_succ _) ti_114_7 rfl ?_
  refine a_w3p (args := [(0, a_div a0 6), (0, a_div a1 6)]) (Nat.le_succ _) ti_114_8 (mt_113 (a_div a0 6) (a_div a1 6) H) rfl rfl rfl rfl ?_
  refine a_w0 (Nat.le_succ _) ti_114_11 rfl ?_
  refine a_w2 (z := 6) (Nat.le_succ _) ti_114_12 (by decide) ?_
  refine a_w6 (a := (0, a_rem a0 6)) (Nat.le_succ _) ti_114_14 rfl ?_
  refine a_w0 (Nat.le_succ _) ti_114_15 rfl ?_
  refine a_w2 (z := 6) (Nat.le_succ _) ti_114_16 (by decide) ?_
  refine a_w6 (a := (0, a_rem a1 6)) (Nat.le_succ _) ti_114_18 rfl ?_
  refine a_w3p (args := [(0, a_rem a0 6), (0, a_rem a1 6)]) (Nat.le_succ _) ti_114_19 (mt_113 (a_rem a0 6) (a_rem a1 6) H) rfl rfl rfl rfl ?_
  refine a_w6 (a := (0, a_w ((fn_113 (a_div a0 6) (a_div a1 6)) + (fn_113 (a_rem a0 6) (a_rem a1 6))))) (Nat.le_succ _) ti_114_22 rfl ?_
  exact a_w4 (Nat.le_succ _) ti_114_23 rfl rfl rfl
/-- CarriedGateModel.onward(III)I -/
noncomputable def fn_115 (a0 : Int) (a1 : Int) (a2 : Int) : Int :=
  a_jn (fun (s1 : Int) => s1) fun j59 =>
  (if a2 = 0 then j59 (a_w ((a_div a1 6) - (a_div a0 6)))
  else (if a2 = 1 then j59 (a_w ((a_rem a0 6) - (a_rem a1 6)))
  else (if a2 = 2 then j59 (a_w ((a_div a0 6) - (a_div a1 6)))
  else j59 (a_w ((a_rem a1 6) - (a_rem a0 6))))))
theorem ti_115_0 : (q_I 115).2 0 = some (0, 0, 0, 2, 0, 1, []) := rfl
theorem ti_115_1 : (q_I 115).2 1 = some (8, 1, 0, 16, 0, 4, []) := rfl
theorem ti_115_4 : (q_I 115).2 4 = some (0, 0, 0, 1, 0, 5, []) := rfl
theorem ti_115_5 : (q_I 115).2 5 = some (2, 1, 6, 0, 0, 7, []) := rfl
theorem ti_115_7 : (q_I 115).2 7 = some (6, 3, 0, 0, 0, 8, []) := rfl
theorem ti_115_8 : (q_I 115).2 8 = some (0, 0, 0, 0, 0, 9, []) := rfl
theorem ti_115_9 : (q_I 115).2 9 = some (2, 1, 6, 0, 0, 11, []) := rfl
theorem ti_115_11 : (q_I 115).2 11 = some (6, 3, 0, 0, 0, 12, []) := rfl
theorem ti_115_12 : (q_I 115).2 12 = some (6, 1, 0, 0, 0, 13, []) := rfl
theorem ti_115_13 : (q_I 115).2 13 = some (7, 0, 0, 59, 0, 16, []) := rfl
theorem ti_115_16 : (q_I 115).2 16 = some (0, 0, 0, 2, 0, 17, []) := rfl
theorem ti_115_17 : (q_I 115).2 17 = some (2, 0, 1, 0, 0, 18, []) := rfl
theorem ti_115_18 : (q_I 115).2 18 = some (9, 1, 0, 33, 0, 21, []) := rfl
theorem ti_115_21 : (q_I 115).2 21 = some (0, 0, 0, 0, 0, 22, []) := rfl
theorem ti_115_22 : (q_I 115).2 22 = some (2, 1, 6, 0, 0, 24, []) := rfl
theorem ti_115_24 : (q_I 115).2 24 = some (6, 4, 0, 0, 0, 25, []) := rfl
theorem ti_115_25 : (q_I 115).2 25 = some (0, 0, 0, 1, 0, 26, []) := rfl
theorem ti_115_26 : (q_I 115).2 26 = some (2, 1, 6, 0, 0, 28, []) := rfl
theorem ti_115_28 : (q_I 115).2 28 = some (6, 4, 0, 0, 0, 29, []) := rfl
theorem ti_115_29 : (q_I 115).2 29 = some (6, 1, 0, 0, 0, 30, []) := rfl
theorem ti_115_30 : (q_I 115).2 30 = some (7, 0, 0, 59, 0, 33, []) := rfl
theorem ti_115_33 : (q_I 115).2 33 = some (0, 0, 0, 2, 0, 34, []) := rfl
theorem ti_115_34 : (q_I 115).2 34 = some (2, 0, 2, 0, 0, 35, []) := rfl
theorem ti_115_35 : (q_I 115).2 35 = some (9, 1, 0, 50, 0, 38, []) := rfl
theorem ti_115_38 : (q_I 115).2 38 = some (0, 0, 0, 0, 0, 39, []) := rfl
theorem ti_115_39 : (q_I 115).2 39 = some (2, 1, 6, 0, 0, 41, []) := rfl
theorem ti_115_41 : (q_I 115).2 41 = some (6, 3, 0, 0, 0, 42, []) := rfl
theorem ti_115_42 : (q_I 115).2 42 = some (0, 0, 0, 1, 0, 43, []) := rfl
theorem ti_115_43 : (q_I 115).2 43 = some (2, 1, 6, 0, 0, 45, []) := rfl
theorem ti_115_45 : (q_I 115).2 45 = some (6, 3, 0, 0, 0, 46, []) := rfl
theorem ti_115_46 : (q_I 115).2 46 = some (6, 1, 0, 0, 0, 47, []) := rfl
theorem ti_115_47 : (q_I 115).2 47 = some (7, 0, 0, 59, 0, 50, []) := rfl
theorem ti_115_50 : (q_I 115).2 50 = some (0, 0, 0, 1, 0, 51, []) := rfl
theorem ti_115_51 : (q_I 115).2 51 = some (2, 1, 6, 0, 0, 53, []) := rfl
theorem ti_115_53 : (q_I 115).2 53 = some (6, 4, 0, 0, 0, 54, []) := rfl
theorem ti_115_54 : (q_I 115).2 54 = some (0, 0, 0, 0, 0, 55, []) := rfl
theorem ti_115_55 : (q_I 115).2 55 = some (2, 1, 6, 0, 0, 57, []) := rfl
theorem ti_115_57 : (q_I 115).2 57 = some (6, 4, 0, 0, 0, 58, []) := rfl
theorem ti_115_58 : (q_I 115).2 58 = some (6, 1, 0, 0, 0, 59, []) := rfl
theorem ti_115_59 : (q_I 115).2 59 = some (4, 0, 0, 0, 0, 60, []) := rfl
theorem mt_115 (a0 : Int) (a1 : Int) (a2 : Int) (H : a_P) : a_mt (a_pp H) 0 115 [(0, a0), (0, a1), (0, a2)] H (fn_115 a0 a1 a2) := by
  refine a_mtI (lo := [some (0, a0), some (0, a1), some (0, a2)]) rfl fun d => ?_
  unfold fn_115
  refine a_w0 (Nat.le_succ _) ti_115_0 rfl ?_
  refine a_wjn 59 (fun (s : Int) => [none, none, none]) (fun (s : Int) => [(0, s)]) (fun (s : Int) => H) (fun s1 => ?_) (fun j59 hj59 => ?_)
  · exact a_w4 (Nat.le_succ _) ti_115_59 rfl rfl rfl
  · refine a_w8_1 (Nat.le_succ _) ti_115_1 ?_ ?_
    · refine a_w0 (Nat.le_succ _) ti_115_16 rfl ?_
      refine a_w2 (z := 1) (Nat.le_succ _) ti_115_17 (by decide) ?_
      refine a_w9_1 (Nat.le_succ _) ti_115_18 ?_ ?_
      · refine a_w0 (Nat.le_succ _) ti_115_33 rfl ?_
        refine a_w2 (z := 2) (Nat.le_succ _) ti_115_34 (by decide) ?_
        refine a_w9_1 (Nat.le_succ _) ti_115_35 ?_ ?_
        · refine a_w0 (Nat.le_succ _) ti_115_50 rfl ?_
          refine a_w2 (z := 6) (Nat.le_succ _) ti_115_51 (by decide) ?_
          refine a_w6 (a := (0, a_rem a1 6)) (Nat.le_succ _) ti_115_53 rfl ?_
          refine a_w0 (Nat.le_succ _) ti_115_54 rfl ?_
          refine a_w2 (z := 6) (Nat.le_succ _) ti_115_55 (by decide) ?_
          refine a_w6 (a := (0, a_rem a0 6)) (Nat.le_succ _) ti_115_57 rfl ?_
          refine a_w6 (a := (0, a_w ((a_rem a1 6) - (a_rem a0 6)))) (Nat.le_succ _) ti_115_58 rfl ?_
          exact a_wk (hj59 (a_w ((a_rem a1 6) - (a_rem a0 6)))) (by omega) trivial
        · refine a_w0 (Nat.le_succ _) ti_115_38 rfl ?_
          refine a_w2 (z := 6) (Nat.le_succ _) ti_115_39 (by decide) ?_
          refine a_w6 (a := (0, a_div a0 6)) (Nat.le_succ _) ti_115_41 rfl ?_
          refine a_w0 (Nat.le_succ _) ti_115_42 rfl ?_
          refine a_w2 (z := 6) (Nat.le_succ _) ti_115_43 (by decide) ?_
          refine a_w6 (a := (0, a_div a1 6)) (Nat.le_succ _) ti_115_45 rfl ?_
          refine a_w6 (a := (0, a_w ((a_div a0 6) - (a_div a1 6)))) (Nat.le_succ _) ti_115_46 rfl ?_
          refine a_w7 (Nat.le_succ _) ti_115_47 ?_
          exact a_wk (hj59 (a_w ((a_div a0 6) - (a_div a1 6)))) (by omega) trivial
      · refine a_w0 (Nat.le_succ _) ti_115_21 rfl ?_
        refine a_w2 (z := 6) (Nat.le_succ _) ti_115_22 (by decide) ?_
        refine a_w6 (a := (0, a_rem a0 6)) (Nat.le_succ _) ti_115_24 rfl ?_
        refine a_w0 (Nat.le_succ _) ti_115_25 rfl ?_
        refine a_w2 (z := 6) (Nat.le_succ _) ti_115_26 (by decide) ?_
        refine a_w6 (a := (0, a_rem a1 6)) (Nat.le_succ _) ti_115_28 rfl ?_
        refine a_w6 (a := (0, a_w ((a_rem a0 6) - (a_rem a1 6)))) (Nat.le_succ _) ti_115_29 rfl ?_
        refine a_w7 (Nat.le_succ _) ti_115_30 ?_
        exact a_wk (hj59 (a_w ((a_rem a0 6) - (a_rem a1 6)))) (by omega) trivial
    · refine a_w0 (Nat.le_succ _) ti_115_4 rfl ?_
      refine a_w2 (z := 6) (Nat.le_succ _) ti_115_5 (by decide) ?_
      refine a_w6 (a := (0, a_div a1 6)) (Nat.le_succ _) ti_115_7 rfl ?_
      refine a_w0 (Nat.le_succ _) ti_115_8 rfl ?_
      refine a_w2 (z := 6) (Nat.le_succ _) ti_115_9 (by decide) ?_
      refine a_w6 (a := (0, a_div a0 6)) (Nat.le_succ _) ti_115_11 rfl ?_
      refine a_w6 (a := (0, a_w ((a_div a1 6) - (a_div a0 6)))) (Nat.le_succ _) ti_115_12 rfl ?_
      refine a_w7 (Nat.le_succ _) ti_115_13 ?_
      exact a_wk (hj59 (a_w ((a_div a1 6) - (a_div a0 6)))) (by omega) trivial
/-- CarriedGateModel.sideOf(I)I -/
noncomputable def fn_116 (a1 : Int) (H : a_P) : Int :=
  a_bd (fn_115 a1 (H 134 1) (H 134 2)) fun x1 =>
  a_jn (fun (s1 : Int) => s1) fun j34 =>
  (if 0 < x1 then j34 0
  else (if x1 = 0 then j34 1
  else j34 2))
theorem ti_116_0 : (q_I 116).2 0 = some (0, 0, 0, 1, 0, 1, []) := rfl
theorem ti_116_1 : (q_I 116).2 1 = some (0, 4, 0, 0, 2, 2, []) := rfl
theorem ti_116_2 : (q_I 116).2 2 = some (1, 0, 7, 6, 0, 5, [795]) := rfl
theorem ti_116_5 : (q_I 116).2 5 = some (2, 0, 1, 0, 0, 6, []) := rfl
theorem ti_116_6 : (q_I 116).2 6 = some (5, 10, 0, 0, 0, 7, []) := rfl
theorem ti_116_7 : (q_I 116).2 7 = some (0, 4, 0, 0, 2, 8, []) := rfl
theorem ti_116_8 : (q_I 116).2 8 = some (1, 0, 7, 6, 0, 11, [795]) := rfl
theorem ti_116_11 : (q_I 116).2 11 = some (2, 0, 2, 0, 0, 12, []) := rfl
theorem ti_116_12 : (q_I 116).2 12 = some (5, 10, 0, 0, 0, 13, []) := rfl
theorem ti_116_13 : (q_I 116).2 13 = some (3, 1, 61, 115, 3, 16, [907, 6]) := rfl
theorem ti_116_16 : (q_I 116).2 16 = some (11, 0, 0, 2, 0, 17, []) := rfl
theorem ti_116_17 : (q_I 116).2 17 = some (0, 0, 0, 2, 0, 18, []) := rfl
theorem ti_116_18 : (q_I 116).2 18 = some (8, 5, 0, 25, 0, 21, []) := rfl
theorem ti_116_21 : (q_I 116).2 21 = some (2, 0, 0, 0, 0, 22, []) := rfl
theorem ti_116_22 : (q_I 116).2 22 = some (7, 0, 0, 34, 0, 25, []) := rfl
theorem ti_116_25 : (q_I 116).2 25 = some (0, 0, 0, 2, 0, 26, []) := rfl
theorem ti_116_26 : (q_I 116).2 26 = some (8, 1, 0, 33, 0, 29, []) := rfl
theorem ti_116_29 : (q_I 116).2 29 = some (2, 0, 1, 0, 0, 30, []) := rfl
theorem ti_116_30 : (q_I 116).2 30 = some (7, 0, 0, 34, 0, 33, []) := rfl
theorem ti_116_33 : (q_I 116).2 33 = some (2, 0, 2, 0, 0, 34, []) := rfl
theorem ti_116_34 : (q_I 116).2 34 = some (4, 0, 0, 0, 0, 35, []) := rfl
theorem mt_116 (a1 : Int) (H : a_P) : a_mt (a_pp H) 0 116 [(2, 133), (0, a1)] H (fn_116 a1 H) := by
  refine a_mtI (lo := [some (2, 133), some (0, a1), none]) rfl fun d => ?_
  unfold fn_116
  refine a_w0 (Nat.le_succ _) ti_116_0 rfl ?_
  refine a_w0 (Nat.le_succ _) ti_116_1 rfl ?_
  refine a_w1 (a := (2, 134)) (Nat.le_succ _) ti_116_2 rfl ?_
  refine a_w2 (z := 1) (Nat.le_succ _) ti_116_5 (by decide) ?_
  refine a_w5 (kk := 0) (Nat.le_succ _) ti_116_6 (fun _ => rfl) ?_
  refine a_w0 (Nat.le_succ _) ti_116_7 rfl ?_
  refine a_w1 (a := (2, 134)) (Nat.le_succ _) ti_116_8 rfl ?_
  refine a_w2 (z := 2) (Nat.le_succ _) ti_116_11 (by decide) ?_
  refine a_w5 (kk := 0) (Nat.le_succ _) ti_116_12 (fun _ => rfl) ?_
  refine a_w3p (args := [(0, a1), (0, H 134 1), (0, H 134 2)]) (Nat.le_succ _) ti_116_13 (mt_115 a1 (H 134 1) (H 134 2) H) rfl rfl rfl rfl ?_
  refine a_w11b (lof := fun x1 => [some (2, 133), some (0, a1), some (0, x1)]) (Nat.le_succ _) ti_116_16 (fun _ => rfl) (fun x1 => ?_)
  refine a_w0 (Nat.le_succ _) ti_116_17 rfl ?_
  refine a_wjn 34 (fun (s : Int) => [none, none, none]) (fun (s : Int) => [(0, s)]) (fun (s : Int) => H) (fun s1 => ?_) (fun j34 hj34 => ?_)
  · exact a_w4 (Nat.le_succ _) ti_116_34 rfl rfl rfl
  · refine a_w8_5 (Nat.le_succ _) ti_116_18 ?_ ?_
    · refine a_w0 (Nat.le_succ _) ti_116_25 rfl ?_
      refine a_w8_1 (Nat.le_succ _) ti_116_26 ?_ ?_
      · refine a_w2 (z := 2) (Nat.le_succ _) ti_116_33 (by decide) ?_
        exact a_wk (hj34 2) (by omega) trivial
      · refine a_w2 (z := 1) (Nat.le_succ _) ti_116_29 (by decide) ?_
        refine a_w7 (Nat.le_succ _) ti_116_30 ?_
        exact a_wk (hj34 1) (by omega) trivial
    · refine a_w2 (z := 0) (Nat.le_succ _) ti_116_21 (by decide) ?_
      refine a_w7 (Nat.le_succ _) ti_116_22 ?_
      exact a_wk (hj34 0) (by omega) trivial
/-- CarriedGateModel.stands()Z -/
noncomputable def fn_117 (H : a_P) : Int :=
  a_jn (fun (s1 : Int) => s1) fun j16 =>
  (if (H 134 3) = (-4) then j16 0
  else j16 1)
theorem ti_117_0 : (q_I 117).2 0 = some (0, 4, 0, 0, 2, 1, []) := rfl
theorem ti_117_1 : (q_I 117).2 1 = some (1, 0, 7, 6, 0, 4, [795]) := rfl
theorem ti_117_4 : (q_I 117).2 4 = some (2, 0, 3, 0, 0, 5, []) := rfl
theorem ti_117_5 : (q_I 117).2 5 = some (5, 10, 0, 0, 0, 6, []) := rfl
theorem ti_117_6 : (q_I 117).2 6 = some (2, 1, (-4), 0, 0, 8, []) := rfl
theorem ti_117_8 : (q_I 117).2 8 = some (9, 0, 0, 15, 0, 11, []) := rfl
theorem ti_117_11 : (q_I 117).2 11 = some (2, 0, 1, 0, 0, 12, []) := rfl
theorem ti_117_12 : (q_I 117).2 12 = some (7, 0, 0, 16, 0, 15, []) := rfl
theorem ti_117_15 : (q_I 117).2 15 = some (2, 0, 0, 0, 0, 16, []) := rfl
theorem ti_117_16 : (q_I 117).2 16 = some (4, 3, 0, 0, 0, 17, []) := rfl
theorem mt_117 (H : a_P) : a_mt (a_pp H) 0 117 [(2, 133)] H (fn_117 H) := by
  refine a_mtI (lo := [some (2, 133)]) rfl fun d => ?_
  unfold fn_117
  refine a_w0 (Nat.le_succ _) ti_117_0 rfl ?_
  refine a_w1 (a := (2, 134)) (Nat.le_succ _) ti_117_1 rfl ?_
  refine a_w2 (z := 3) (Nat.le_succ _) ti_117_4 (by decide) ?_
  refine a_w5 (kk := 0) (Nat.le_succ _) ti_117_5 (fun _ => rfl) ?_
  refine a_w2 (z := (-4)) (Nat.le_succ _) ti_117_6 (by decide) ?_
  refine a_wjn 16 (fun (s : Int) => [none]) (fun (s : Int) => [(0, s)]) (fun (s : Int) => H) (fun s1 => ?_) (fun j16 hj16 => ?_)
  · exact a_w4 (Nat.le_succ _) ti_117_16 rfl rfl rfl
  · refine a_w9_0 (Nat.le_succ _) ti_117_8 ?_ ?_
    · refine a_w2 (z := 0) (Nat.le_succ _) ti_117_15 (by decide) ?_
      exact a_wk (hj16 0) (by omega) trivial
    · refine a_w2 (z := 1) (Nat.le_succ _) ti_117_11 (by decide) ?_
      refine a_w7 (Nat.le_succ _) ti_117_12 ?_
      exact a_wk (hj16 1) (by omega) trivial
/-- CarriedGateModel.wouldBeIn(I)Z -/
noncomputable def fn_118 (a1 : Int) (H : a_P) : Int :=
  a_bd (H 134 (a_w (15 + a1))) fun x1 =>
  a_bd (fn_116 x1 H) fun x2 =>
  a_jn (fun (s1 : Int) => a_sw (H 134 (a_w (7 + a1))) 0 (a_jn (fun (s8 : Int) => s8) fun j169 =>
  a_jn (fun (s9 : Unit) => j169 1) fun j164 =>
  a_jn (fun (s10 : Unit) => a_jn (fun (s11 : Unit) => j169 0) fun j168 =>
  (if 0 < a1 then (if (fn_116 (H 134 (a_w ((a_w (15 + a1)) - 1))) H) = 0 then j164 ()
  else j168 ())
  else j168 ())) fun j142 =>
  (if x2 = 0 then (if s1 = 0 then j142 ()
  else j164 ())
  else j142 ())) [a_jn (fun (s2 : Int) => s2) fun j85 =>
  (if x2 = 0 then j85 1
  else j85 0),
  a_jn (fun (s3 : Int) => s3) fun j96 =>
  (if x2 < 2 then j96 1
  else j96 0),
  a_jn (fun (s4 : Int) => s4) fun j111 =>
  a_jn (fun (s5 : Unit) => j111 0) fun j110 =>
  (if x2 = 0 then (if s1 = 0 then j110 ()
  else j111 1)
  else j110 ()),
  a_jn (fun (s6 : Int) => s6) fun j132 =>
  a_jn (fun (s7 : Unit) => j132 0) fun j131 =>
  (if x2 < 2 then (if x1 = (H 134 1) then j131 ()
  else j132 1)
  else j131 ())]) fun j35 =>
  (if (fn_114 x1 (H 134 1)) < 4 then j35 1
  else j35 0)
theorem ti_118_0 : (q_I 118).2 0 = some (0, 4, 0, 0, 2, 1, []) := rfl
theorem ti_118_1 : (q_I 118).2 1 = some (1, 0, 7, 6, 0, 4, [795]) := rfl
theorem ti_118_4 : (q_I 118).2 4 = some (2, 1, 15, 0, 0, 6, []) := rfl
theorem ti_118_6 : (q_I 118).2 6 = some (0, 0, 0, 1, 0, 7, []) := rfl
theorem ti_118_7 : (q_I 118).2 7 = some (6, 0, 0, 0, 0, 8, []) := rfl
theorem ti_118_8 : (q_I 118).2 8 = some (5, 10, 0, 0, 0, 9, []) := rfl
theorem ti_118_9 : (q_I 118).2 9 = some (11, 0, 0, 2, 0, 10, []) := rfl
theorem ti_118_10 : (q_I 118).2 10 = some (0, 4, 0, 0, 2, 11, []) := rfl
theorem ti_118_11 : (q_I 118).2 11 = some (0, 0, 0, 2, 0, 12, []) := rfl
theorem ti_118_12 : (q_I 118).2 12 = some (3, 0, 65, 116, 2, 15, [903, 6]) := rfl
theorem ti_118_15 : (q_I 118).2 15 = some (11, 0, 0, 3, 0, 16, []) := rfl
theorem ti_118_16 : (q_I 118).2 16 = some (0, 0, 0, 2, 0, 17, []) := rfl
theorem ti_118_17 : (q_I 118).2 17 = some (0, 4, 0, 0, 2, 18, []) := rfl
theorem ti_118_18 : (q_I 118).2 18 = some (1, 0, 7, 6, 0, 21, [795]) := rfl
theorem ti_118_21 : (q_I 118).2 21 = some (2, 0, 1, 0, 0, 22, []) := rfl
theorem ti_118_22 : (q_I 118).2 22 = some (5, 10, 0, 0, 0, 23, []) := rfl
theorem ti_118_23 : (q_I 118).2 23 = some (3, 1, 69, 114, 2, 26, [910, 6]) := rfl
theorem ti_118_26 : (q_I 118).2 26 = some (2, 0, 4, 0, 0, 27, []) := rfl
theorem ti_118_27 : (q_I 118).2 27 = some (9, 3, 0, 34, 0, 30, []) := rfl
theorem ti_118_30 : (q_I 118).2 30 = some (2, 0, 1, 0, 0, 31, []) := rfl
theorem ti_118_31 : (q_I 118).2 31 = some (7, 0, 0, 35, 0, 34, []) := rfl
theorem ti_118_34 : (q_I 118).2 34 = some (2, 0, 0, 0, 0, 35, []) := rfl
theorem ti_118_35 : (q_I 118).2 35 = some (11, 1, 0, 4, 0, 37, []) := rfl
theorem ti_118_37 : (q_I 118).2 37 = some (0, 4, 0, 0, 2, 38, []) := rfl
theorem ti_118_38 : (q_I 118).2 38 = some (1, 0, 7, 6, 0, 41, [795]) := rfl
theorem ti_118_41 : (q_I 118).2 41 = some (2, 1, 7, 0, 0, 43, []) := rfl
theorem ti_118_43 : (q_I 118).2 43 = some (0, 0, 0, 1, 0, 44, []) := rfl
theorem ti_118_44 : (q_I 118).2 44 = some (6, 0, 0, 0, 0, 45, []) := rfl
theorem ti_118_45 : (q_I 118).2 45 = some (5, 10, 0, 0, 0, 46, []) := rfl
theorem ti_118_46 : (q_I 118).2 46 = some (18, 4, 0, 133, 0, 76, [76, 86, 97, 112]) := rfl
theorem ti_118_133 : (q_I 118).2 133 = some (0, 0, 0, 3, 0, 134, []) := rfl
theorem ti_118_134 : (q_I 118).2 134 = some (8, 1, 0, 142, 0, 137, []) := rfl
theorem ti_118_137 : (q_I 118).2 137 = some (0, 1, 0, 4, 0, 139, []) := rfl
theorem ti_118_139 : (q_I 118).2 139 = some (8, 1, 0, 164, 0, 142, []) := rfl
theorem ti_118_142 : (q_I 118).2 142 = some (0, 0, 0, 1, 0, 143, []) := rfl
theorem ti_118_143 : (q_I 118).2 143 = some (8, 5, 0, 168, 0, 146, []) := rfl
theorem ti_118_146 : (q_I 118).2 146 = some (0, 4, 0, 0, 2, 147, []) := rfl
theorem ti_118_147 : (q_I 118).2 147 = some (0, 4, 0, 0, 2, 148, []) := rfl
theorem ti_118_148 : (q_I 118).2 148 = some (1, 0, 7, 6, 0, 151, [795]) := rfl
theorem ti_118_151 : (q_I 118).2 151 = some (2, 1, 15, 0, 0, 153, []) := rfl
theorem ti_118_153 : (q_I 118).2 153 = some (0, 0, 0, 1, 0, 154, []) := rfl
theorem ti_118_154 : (q_I 118).2 154 = some (6, 0, 0, 0, 0, 155, []) := rfl
theorem ti_118_155 : (q_I 118).2 155 = some (2, 0, 1, 0, 0, 156, []) := rfl
theorem ti_118_156 : (q_I 118).2 156 = some (6, 1, 0, 0, 0, 157, []) := rfl
theorem ti_118_157 : (q_I 118).2 157 = some (5, 10, 0, 0, 0, 158, []) := rfl
theorem ti_118_158 : (q_I 118).2 158 = some (3, 0, 65, 116, 2, 161, [903, 6]) := rfl
theorem ti_118_161 : (q_I 118).2 161 = some (8, 1, 0, 168, 0, 164, []) := rfl
theorem ti_118_164 : (q_I 118).2 164 = some (2, 0, 1, 0, 0, 165, []) := rfl
theorem ti_118_165 : (q_I 118).2 165 = some (7, 0, 0, 169, 0, 168, []) := rfl
theorem ti_118_168 : (q_I 118).2 168 = some (2, 0, 0, 0, 0, 169, []) := rfl
theorem ti_118_169 : (q_I 118).2 169 = some (4, 3, 0, 0, 0, 170, []) := rfl
theorem ti_118_112 : (q_I 118).2 112 = some (0, 0, 0, 3, 0, 113, []) := rfl
theorem ti_118_113 : (q_I 118).2 113 = some (2, 0, 2, 0, 0, 114, []) := rfl
theorem ti_118_114 : (q_I 118).2 114 = some (9, 3, 0, 131, 0, 117, []) := rfl
theorem ti_118_117 : (q_I 118).2 117 = some (0, 0, 0, 2, 0, 118, []) := rfl
theorem ti_118_118 : (q_I 118).2 118 = some (0, 4, 0, 0, 2, 119, []) := rfl
theorem ti_118_119 : (q_I 118).2 119 = some (1, 0, 7, 6, 0, 122, [795]) := rfl
theorem ti_118_122 : (q_I 118).2 122 = some (2, 0, 1, 0, 0, 123, []) := rfl
theorem ti_118_123 : (q_I 118).2 123 = some (5, 10, 0, 0, 0, 124, []) := rfl
theorem ti_118_124 : (q_I 118).2 124 = some (9, 0, 0, 131, 0, 127, []) := rfl
theorem ti_118_127 : (q_I 118).2 127 = some (2, 0, 1, 0, 0, 128, []) := rfl
theorem ti_118_128 : (q_I 118).2 128 = some (7, 0, 0, 132, 0, 131, []) := rfl
theorem ti_118_131 : (q_I 118).2 131 = some (2, 0, 0, 0, 0, 132, []) := rfl
theorem ti_118_132 : (q_I 118).2 132 = some (4, 3, 0, 0, 0, 133, []) := rfl
theorem ti_118_97 : (q_I 118).2 97 = some (0, 0, 0, 3, 0, 98, []) := rfl
theorem ti_118_98 : (q_I 118).2 98 = some (8, 1, 0, 110, 0, 101, []) := rfl
theorem ti_118_101 : (q_I 118).2 101 = some (0, 1, 0, 4, 0, 103, []) := rfl
theorem ti_118_103 : (q_I 118).2 103 = some (8, 0, 0, 110, 0, 106, []) := rfl
theorem ti_118_106 : (q_I 118).2 106 = some (2, 0, 1, 0, 0, 107, []) := rfl
theorem ti_118_107 : (q_I 118).2 107 = some (7, 0, 0, 111, 0, 110, []) := rfl
theorem ti_118_110 : (q_I 118).2 110 = some (2, 0, 0, 0, 0, 111, []) := rfl
theorem ti_118_111 : (q_I 118).2 111 = some (4, 3, 0, 0, 0, 112, []) := rfl
theorem ti_118_86 : (q_I 118).2 86 = some (0, 0, 0, 3, 0, 87, []) := rfl
theorem ti_118_87 : (q_I 118).2 87 = some (2, 0, 2, 0, 0, 88, []) := rfl
theorem ti_118_88 : (q_I 118).2 88 = some (9, 3, 0, 95, 0, 91, []) := rfl
theorem ti_118_91 : (q_I 118).2 91 = some (2, 0, 1, 0, 0, 92, []) := rfl
theorem ti_118_92 : (q_I 118).2 92 = some (7, 0, 0, 96, 0, 95, []) := rfl
theorem ti_118_95 : (q_I 118).2 95 = some (2, 0, 0, 0, 0, 96, []) := rfl
theorem ti_118_96 : (q_I 118).2 96 = some (4, 3, 0, 0, 0, 97, []) := rfl
theorem ti_118_76 : (q_I 118).2 76 = some (0, 0, 0, 3, 0, 77, []) := rfl
theorem ti_118_77 : (q_I 118).2 77 = some (8, 1, 0, 84, 0, 80, []) := rfl
theorem ti_118_80 : (q_I 118).2 80 = some (2, 0, 1, 0, 0, 81, []) := rfl
theorem ti_118_81 : (q_I 118).2 81 = some (7, 0, 0, 85, 0, 84, []) := rfl
theorem ti_118_84 : (q_I 118).2 84 = some (2, 0, 0, 0, 0, 85, []) := rfl
theorem ti_118_85 : (q_I 118).2 85 = some (4, 3, 0, 0, 0, 86, []) := rfl
theorem mt_118 (a1 : Int) (H : a_P) : a_mt (a_pp H) 0 118 [(2, 133), (0, a1)] H (fn_118 a1 H) := by
  refine a_mtI (lo := [some (2, 133), some (0, a1), none, none, none]) rfl fun d => ?_
  unfold fn_118
  refine a_w0 (Nat.le_succ _) ti_118_0 rfl ?_
  refine a_w1 (a := (2, 134)) (Nat.le_succ _) ti_118_1 rfl ?_
  refine a_w2 (z := 15) (Nat.le_succ _) ti_118_4 (by decide) ?_
  refine a_w0 (Nat.le_succ _) ti_118_6 rfl ?_
  refine a_w6 (a := (0, a_w (15 + a1))) (Nat.le_succ _) ti_118_7 rfl ?_
  refine a_w5 (kk := 0) (Nat.le_succ _) ti_118_8 (fun _ => rfl) ?_
  refine a_w11b (lof := fun x1 => [some (2, 133), some (0, a1), some (0, x1), none, none]) (Nat.le_succ _) ti_118_9 (fun _ => rfl) (fun x1 => ?_)
  refine a_w0 (Nat.le_succ _) ti_118_10 rfl ?_
  refine a_w0 (Nat.le_succ _) ti_118_11 rfl ?_
  refine a_w3p (args := [(2, 133), (0, x1)]) (Nat.le_succ _) ti_118_12 (mt_116 x1 H) rfl rfl rfl rfl ?_
  refine a_w11b (lof := fun x2 => [some (2, 133), some (0, a1), some (0, x1), some (0, x2), none]) (Nat.le_succ _) ti_118_15 (fun _ => rfl) (fun x2 => ?_)
  refine a_w0 (Nat.le_succ _) ti_118_16 rfl ?_
  refine a_w0 (Nat.le_succ _) ti_118_17 rfl ?_
  refine a_w1 (a := (2, 134)) (Nat.le_succ _) ti_118_18 rfl ?_
  refine a_w2 (z := 1) (Nat.le_succ _) ti_118_21 (by decide) ?_
  refine a_w5 (kk := 0) (Nat.le_succ _) ti_118_22 (fun _ => rfl) ?_
  refine a_w3p (args := [(0, x1), (0, H 134 1)]) (Nat.le_succ _) ti_118_23 (mt_114 x1 (H 134 1) H) rfl rfl rfl rfl ?_
  refine a_w2 (z := 4) (Nat.le_succ _) ti_118_26 (by decide) ?_
  refine a_wjn 35 (fun (s : Int) => [some (2, 133), some (0, a1), some (0, x1), some (0, x2), none]) (fun (s : Int) => [(0, s)]) (fun (s : Int) => H) (fun s1 => ?_) (fun j35 hj35 => ?_)
  · refine a_w11 (lo' := [some (2, 133), some (0, a1), some (0, x1), some (0, x2), some (0, s1)]) (Nat.le_succ _) ti_118_35 rfl ?_
    refine a_w0 (Nat.le_succ _) ti_118_37 rfl ?_
    refine a_w1 (a := (2, 134)) (Nat.le_succ _) ti_118_38 rfl ?_
    refine a_w2 (z := 7) (Nat.le_succ _) ti_118_41 (by decide) ?_
    refine a_w0 (Nat.le_succ _) ti_118_43 rfl ?_
    refine a_w6 (a := (0, a_w (7 + a1))) (Nat.le_succ _) ti_118_44 rfl ?_
    refine a_w5 (kk := 0) (Nat.le_succ _) ti_118_45 (fun _ => rfl) ?_
    refine a_w18 (Nat.le_succ _) ti_118_46 rfl ⟨?_, ?_, ?_, ?_, trivial⟩ ?_
    · refine a_w0 (Nat.le_succ _) ti_118_76 rfl ?_
      refine a_wjn 85 (fun (s : Int) => [none, none, none, none, none]) (fun (s : Int) => [(0, s)]) (fun (s : Int) => H) (fun s2 => ?_) (fun j85 hj85 => ?_)
      · exact a_w4 (Nat.le_succ _) ti_118_85 rfl rfl rfl
      · refine a_w8_1 (Nat.le_succ _) ti_118_77 ?_ ?_
        · refine a_w2 (z := 0) (Nat.le_succ _) ti_118_84 (by decide) ?_
          exact a_wk (hj85 0) (by omega) trivial
        · refine a_w2 (z := 1) (Nat.le_succ _) ti_118_80 (by decide) ?_
          refine a_w7 (Nat.le_succ _) ti_118_81 ?_
          exact a_wk (hj85 1) (by omega) trivial
    · refine a_w0 (Nat.le_succ _) ti_118_86 rfl ?_
      refine a_w2 (z := 2) (Nat.le_succ _) ti_118_87 (by decide) ?_
      refine a_wjn 96 (fun (s : Int) => [none, none, none, none, none]) (fun (s : Int) => [(0, s)]) (fun (s : Int) => H) (fun s3 => ?_) (fun j96 hj96 => ?_)
      · exact a_w4 (Nat.le_succ _) ti_118_96 rfl rfl rfl
      · refine a_w9_3 (Nat.le_succ _) ti_118_88 ?_ ?_
        · refine a_w2 (z := 0) (Nat.le_succ _) ti_118_95 (by decide) ?_
          exact a_wk (hj96 0) (by omega) trivial
        · refine a_w2 (z := 1) (Nat.le_succ _) ti_118_91 (by decide) ?_
          refine a_w7 (Nat.le_succ _) ti_118_92 ?_
          exact a_wk (hj96 1) (by omega) trivial
    · refine a_w0 (Nat.le_succ _) ti_118_97 rfl ?_
      refine a_wjn 111 (fun (s : Int) => [none, none, none, none, none]) (fun (s : Int) => [(0, s)]) (fun (s : Int) => H) (fun s4 => ?_) (fun j111 hj111 => ?_)
      · exact a_w4 (Nat.le_succ _) ti_118_111 rfl rfl rfl
      · refine a_wjn 110 (fun (s : Unit) => [none, none, none, none, none]) (fun (s : Unit) => []) (fun (s : Unit) => H) (fun s5 => ?_) (fun j110 hj110 => ?_)
        · refine a_w2 (z := 0) (Nat.le_succ _) ti_118_110 (by decide) ?_
          exact a_wk (hj111 0) (by omega) trivial
        · refine a_w8_1 (Nat.le_succ _) ti_118_98 ?_ ?_
          · exact a_wk (hj110 ()) (by omega) trivial
          · refine a_w0 (Nat.le_succ _) ti_118_101 rfl ?_
            refine a_w8_0 (Nat.le_succ _) ti_118_103 ?_ ?_
            · exact a_wk (hj110 ()) (by omega) trivial
            · refine a_w2 (z := 1) (Nat.le_succ _) ti_118_106 (by decide) ?_
              refine a_w7 (Nat.le_succ _) ti_118_107 ?_
              exact a_wk (hj111 1) (by omega) trivial
    · refine a_w0 (Nat.le_succ _) ti_118_112 rfl ?_
      refine a_w2 (z := 2) (Nat.le_succ _) ti_118_113 (by decide) ?_
      refine a_wjn 132 (fun (s : Int) => [none, none, none, none, none]) (fun (s : Int) => [(0, s)]) (fun (s : Int) => H) (fun s6 => ?_) (fun j132 hj132 => ?_)
      · exact a_w4 (Nat.le_succ _) ti_118_132 rfl rfl rfl
      · refine a_wjn 131 (fun (s : Unit) => [none, none, none, none, none]) (fun (s : Unit) => []) (fun (s : Unit) => H) (fun s7 => ?_) (fun j131 hj131 => ?_)
        · refine a_w2 (z := 0) (Nat.le_succ _) ti_118_131 (by decide) ?_
          exact a_wk (hj132 0) (by omega) trivial
        · refine a_w9_3 (Nat.le_succ _) ti_118_114 ?_ ?_
          · exact a_wk (hj131 ()) (by omega) trivial
          · refine a_w0 (Nat.le_succ _) ti_118_117 rfl ?_
            refine a_w0 (Nat.le_succ _) ti_118_118 rfl ?_
            refine a_w1 (a := (2, 134)) (Nat.le_succ _) ti_118_119 rfl ?_
            refine a_w2 (z := 1) (Nat.le_succ _) ti_118_122 (by decide) ?_
            refine a_w5 (kk := 0) (Nat.le_succ _) ti_118_123 (fun _ => rfl) ?_
            refine a_w9_0 (Nat.le_succ _) ti_118_124 ?_ ?_
            · exact a_wk (hj131 ()) (by omega) trivial
            · refine a_w2 (z := 1) (Nat.le_succ _) ti_118_127 (by decide) ?_
              refine a_w7 (Nat.le_succ _) ti_118_128 ?_
              exact a_wk (hj132 1) (by omega) trivial
    · refine a_w0 (Nat.le_succ _) ti_118_133 rfl ?_
      refine a_wjn 169 (fun (s : Int) => [none, none, none, none, none]) (fun (s : Int) => [(0, s)]) (fun (s : Int) => H) (fun s8 => ?_) (fun j169 hj169 => ?_)
      · exact a_w4 (Nat.le_succ _) ti_118_169 rfl rfl rfl
      · refine a_wjn 164 (fun (s : Unit) => [none, none, none, none, none]) (fun (s : Unit) => []) (fun (s : Unit) => H) (fun s9 => ?_) (fun j164 hj164 => ?_)
        · refine a_w2 (z := 1) (Nat.le_succ _) ti_118_164 (by decide) ?_
          refine a_w7 (Nat.le_succ _) ti_118_165 ?_
          exact a_wk (hj169 1) (by omega) trivial
        · refine a_wjn 142 (fun (s : Unit) => [some (2, 133), some (0, a1), none, none, none]) (fun (s : Unit) => []) (fun (s : Unit) => H) (fun s10 => ?_) (fun j142 hj142 => ?_)
          · refine a_w0 (Nat.le_succ _) ti_118_142 rfl ?_
            refine a_wjn 168 (fun (s : Unit) => [none, none, none, none, none]) (fun (s : Unit) => []) (fun (s : Unit) => H) (fun s11 => ?_) (fun j168 hj168 => ?_)
            · refine a_w2 (z := 0) (Nat.le_succ _) ti_118_168 (by decide) ?_
              exact a_wk (hj169 0) (by omega) trivial
            · refine a_w8_5 (Nat.le_succ _) ti_118_143 ?_ ?_
              · exact a_wk (hj168 ()) (by omega) trivial
              · refine a_w0 (Nat.le_succ _) ti_118_146 rfl ?_
                refine a_w0 (Nat.le_succ _) ti_118_147 rfl ?_
                refine a_w1 (a := (2, 134)) (Nat.le_succ _) ti_118_148 rfl ?_
                refine a_w2 (z := 15) (Nat.le_succ _) ti_118_151 (by decide) ?_
                refine a_w0 (Nat.le_succ _) ti_118_153 rfl ?_
                refine a_w6 (a := (0, a_w (15 + a1))) (Nat.le_succ _) ti_118_154 rfl ?_
                refine a_w2 (z := 1) (Nat.le_succ _) ti_118_155 (by decide) ?_
                refine a_w6 (a := (0, a_w ((a_w (15 + a1)) - 1))) (Nat.le_succ _) ti_118_156 rfl ?_
                refine a_w5 (kk := 0) (Nat.le_succ _) ti_118_157 (fun _ => rfl) ?_
                refine a_w3p (args := [(2, 133), (0, H 134 (a_w ((a_w (15 + a1)) - 1)))]) (Nat.le_succ _) ti_118_158 (mt_116 (H 134 (a_w ((a_w (15 + a1)) - 1))) H) rfl rfl rfl rfl ?_
                refine a_w8_1 (Nat.le_succ _) ti_118_161 ?_ ?_
                · exact a_wk (hj168 ()) (by omega) trivial
                · exact a_wk (hj164 ()) (by omega) trivial
          · refine a_w8_1 (Nat.le_succ _) ti_118_134 ?_ ?_
            · exact a_wk (hj142 ()) (by omega) ⟨rfl, rfl, trivial⟩
            · refine a_w0 (Nat.le_succ _) ti_118_137 rfl ?_
              refine a_w8_1 (Nat.le_succ _) ti_118_139 ?_ ?_
              · exact a_wk (hj164 ()) (by omega) trivial
              · exact a_wk (hj142 ()) (by omega) ⟨rfl, rfl, trivial⟩
  · refine a_w9_3 (Nat.le_succ _) ti_118_27 ?_ ?_
    · refine a_w2 (z := 0) (Nat.le_succ _) ti_118_34 (by decide) ?_
      exact a_wk (hj35 0) (by omega) ⟨rfl, rfl, rfl, rfl, trivial⟩
    · refine a_w2 (z := 1) (Nat.le_succ _) ti_118_30 (by decide) ?_
      refine a_w7 (Nat.le_succ _) ti_118_31 ?_
      exact a_wk (hj35 1) (by omega) ⟨rfl, rfl, rfl, rfl, trivial⟩
/-- CarriedGateModel.whoWouldBeIn()I -/
noncomputable def fn_119 (H : a_P) : Int :=
  a_lp (fun (s1 : Int × Int) => 0) (fun (s1 : Int × Int) n4 => (if s1.2 < (H 134 0) then a_jn (fun (s2 : Int) => a_bd (a_or s1.1 s2) fun x1 =>
  a_bd (a_w (s1.2 + 1)) fun x2 =>
  n4 (x1, x2)) fun j30 =>
  (if (fn_118 s1.2 H) = 0 then j30 0
  else j30 (a_shl 1 s1.2))
  else s1.1)) a_fuel (0, 0)
theorem ti_119_0 : (q_I 119).2 0 = some (2, 0, 0, 0, 0, 1, []) := rfl
theorem ti_119_1 : (q_I 119).2 1 = some (11, 0, 0, 1, 0, 2, []) := rfl
theorem ti_119_2 : (q_I 119).2 2 = some (2, 0, 0, 0, 0, 3, []) := rfl
theorem ti_119_3 : (q_I 119).2 3 = some (11, 0, 0, 2, 0, 4, []) := rfl
theorem ti_119_4 : (q_I 119).2 4 = some (0, 0, 0, 2, 0, 5, []) := rfl
theorem ti_119_5 : (q_I 119).2 5 = some (0, 4, 0, 0, 2, 6, []) := rfl
theorem ti_119_6 : (q_I 119).2 6 = some (1, 0, 7, 6, 0, 9, [795]) := rfl
theorem ti_119_9 : (q_I 119).2 9 = some (2, 0, 0, 0, 0, 10, []) := rfl
theorem ti_119_10 : (q_I 119).2 10 = some (5, 10, 0, 0, 0, 11, []) := rfl
theorem ti_119_11 : (q_I 119).2 11 = some (9, 3, 0, 38, 0, 14, []) := rfl
theorem ti_119_14 : (q_I 119).2 14 = some (0, 0, 0, 1, 0, 15, []) := rfl
theorem ti_119_15 : (q_I 119).2 15 = some (0, 4, 0, 0, 2, 16, []) := rfl
theorem ti_119_16 : (q_I 119).2 16 = some (0, 0, 0, 2, 0, 17, []) := rfl
theorem ti_119_17 : (q_I 119).2 17 = some (3, 0, 72, 118, 2, 20, [899, 6]) := rfl
theorem ti_119_20 : (q_I 119).2 20 = some (8, 0, 0, 29, 0, 23, []) := rfl
theorem ti_119_23 : (q_I 119).2 23 = some (2, 0, 1, 0, 0, 24, []) := rfl
theorem ti_119_24 : (q_I 119).2 24 = some (0, 0, 0, 2, 0, 25, []) := rfl
theorem ti_119_25 : (q_I 119).2 25 = some (6, 8, 0, 0, 0, 26, []) := rfl
theorem ti_119_26 : (q_I 119).2 26 = some (7, 0, 0, 30, 0, 29, []) := rfl
theorem ti_119_29 : (q_I 119).2 29 = some (2, 0, 0, 0, 0, 30, []) := rfl
theorem ti_119_30 : (q_I 119).2 30 = some (6, 6, 0, 0, 0, 31, []) := rfl
theorem ti_119_31 : (q_I 119).2 31 = some (11, 0, 0, 1, 0, 32, []) := rfl
theorem ti_119_32 : (q_I 119).2 32 = some (13, 0, 1, 2, 0, 35, []) := rfl
theorem ti_119_35 : (q_I 119).2 35 = some (7, 0, 0, 4, 0, 38, []) := rfl
theorem ti_119_38 : (q_I 119).2 38 = some (0, 0, 0, 1, 0, 39, []) := rfl
theorem ti_119_39 : (q_I 119).2 39 = some (4, 0, 0, 0, 0, 40, []) := rfl
theorem mt_119 (H : a_P) : a_mt (a_pp H) 0 119 [(2, 133)] H (fn_119 H) := by
  refine a_mtI (lo := [some (2, 133), none, none]) rfl fun d => ?_
  unfold fn_119
  refine a_w2 (z := 0) (Nat.le_succ _) ti_119_0 (by decide) ?_
  refine a_w11 (lo' := [some (2, 133), some (0, 0), none]) (Nat.le_succ _) ti_119_1 rfl ?_
  refine a_w2 (z := 0) (Nat.le_succ _) ti_119_2 (by decide) ?_
  refine a_w11 (lo' := [some (2, 133), some (0, 0), some (0, 0)]) (Nat.le_succ _) ti_119_3 rfl ?_
  refine a_wk (a_wlp (fun (s : Int × Int) => [some (2, 133), some (0, s.1), some (0, s.2)]) (fun (s : Int × Int) => H) (fun N1 hN1 n4 hn4 s1 => ?_) a_fuel (a_fuel_le (by omega)) (0, 0)) (Nat.le_refl _) ⟨rfl, rfl, rfl, trivial⟩
  · refine a_w0 (Nat.le_refl _) ti_119_4 rfl ?_
    refine a_w0 (Nat.le_succ _) ti_119_5 rfl ?_
    refine a_w1 (a := (2, 134)) (Nat.le_succ _) ti_119_6 rfl ?_
    refine a_w2 (z := 0) (Nat.le_succ _) ti_119_9 (by decide) ?_
    refine a_w5 (kk := 0) (Nat.le_succ _) ti_119_10 (fun _ => rfl) ?_
    refine a_w9_3 (Nat.le_succ _) ti_119_11 ?_ ?_
    · refine a_w0 (Nat.le_succ _) ti_119_38 rfl ?_
      exact a_w4 (Nat.le_succ _) ti_119_39 rfl rfl rfl
    · refine a_w0 (Nat.le_succ _) ti_119_14 rfl ?_
      refine a_w0 (Nat.le_succ _) ti_119_15 rfl ?_
      refine a_w0 (Nat.le_succ _) ti_119_16 rfl ?_
      refine a_w3p (args := [(2, 133), (0, s1.2)]) (Nat.le_succ _) ti_119_17 (mt_118 s1.2 H) rfl rfl rfl rfl ?_
      refine a_wjn 30 (fun (s : Int) => [some (2, 133), none, some (0, s1.2)]) (fun (s : Int) => [(0, s), (0, s1.1)]) (fun (s : Int) => H) (fun s2 => ?_) (fun j30 hj30 => ?_)
      · refine a_w6 (a := (0, a_or s1.1 s2)) (Nat.le_succ _) ti_119_30 rfl ?_
        refine a_w11b (lof := fun x1 => [some (2, 133), some (0, x1), some (0, s1.2)]) (Nat.le_succ _) ti_119_31 (fun _ => rfl) (fun x1 => ?_)
        refine a_w13 (c' := 1) (lof := fun x2 => [some (2, 133), some (0, x1), some (0, x2)]) (Nat.le_succ _) ti_119_32 rfl (by decide) rfl (fun _ => rfl) (fun x2 => ?_)
        refine a_w7 (Nat.le_succ _) ti_119_35 ?_
        exact a_wk (hn4 (x1, x2)) (by omega) ⟨rfl, rfl, rfl, trivial⟩
      · refine a_w8_0 (Nat.le_succ _) ti_119_20 ?_ ?_
        · refine a_w2 (z := 0) (Nat.le_succ _) ti_119_29 (by decide) ?_
          exact a_wk (hj30 0) (by omega) ⟨rfl, rfl, trivial⟩
        · refine a_w2 (z := 1) (Nat.le_succ _) ti_119_23 (by decide) ?_
          refine a_w0 (Nat.le_succ _) ti_119_24 rfl ?_
          refine a_w6 (a := (0, a_shl 1 s1.2)) (Nat.le_succ _) ti_119_25 rfl ?_
          refine a_w7 (Nat.le_succ _) ti_119_26 ?_
          exact a_wk (hj30 (a_shl 1 s1.2)) (by omega) ⟨rfl, rfl, trivial⟩
/-- CarriedGateModel.whoIsIn()I -/
noncomputable def fn_120 (H : a_P) : Int :=
  a_jn (fun (s1 : Int) => s1) fun j15 =>
  (if (fn_117 H) = 0 then j15 0
  else j15 (fn_119 H))
theorem ti_120_0 : (q_I 120).2 0 = some (0, 4, 0, 0, 2, 1, []) := rfl
theorem ti_120_1 : (q_I 120).2 1 = some (3, 0, 76, 117, 1, 4, [891, 6]) := rfl
theorem ti_120_4 : (q_I 120).2 4 = some (8, 0, 0, 14, 0, 7, []) := rfl
theorem ti_120_7 : (q_I 120).2 7 = some (0, 4, 0, 0, 2, 8, []) := rfl
theorem ti_120_8 : (q_I 120).2 8 = some (3, 0, 80, 119, 1, 11, [895, 6]) := rfl
theorem ti_120_11 : (q_I 120).2 11 = some (7, 0, 0, 15, 0, 14, []) := rfl
theorem ti_120_14 : (q_I 120).2 14 = some (2, 0, 0, 0, 0, 15, []) := rfl
theorem ti_120_15 : (q_I 120).2 15 = some (4, 0, 0, 0, 0, 16, []) := rfl
theorem mt_120 (H : a_P) : a_mt (a_pp H) 0 120 [(2, 133)] H (fn_120 H) := by
  refine a_mtI (lo := [some (2, 133)]) rfl fun d => ?_
  unfold fn_120
  refine a_w0 (Nat.le_succ _) ti_120_0 rfl ?_
  refine a_w3p (args := [(2, 133)]) (Nat.le_succ _) ti_120_1 (mt_117 H) rfl rfl rfl rfl ?_
  refine a_wjn 15 (fun (s : Int) => [none]) (fun (s : Int) => [(0, s)]) (fun (s : Int) => H) (fun s1 => ?_) (fun j15 hj15 => ?_)
  · exact a_w4 (Nat.le_succ _) ti_120_15 rfl rfl rfl
  · refine a_w8_0 (Nat.le_succ _) ti_120_4 ?_ ?_
    · refine a_w2 (z := 0) (Nat.le_succ _) ti_120_14 (by decide) ?_
      exact a_wk (hj15 0) (by omega) trivial
    · refine a_w0 (Nat.le_succ _) ti_120_7 rfl ?_
      refine a_w3p (args := [(2, 133)]) (Nat.le_succ _) ti_120_8 (mt_119 H) rfl rfl rfl rfl ?_
      refine a_w7 (Nat.le_succ _) ti_120_11 ?_
      exact a_wk (hj15 (fn_119 H)) (by omega) trivial
/-- CarriedGateModel.of(II)I -/
noncomputable def fn_127 (a1 : Int) (a2 : Int) (H : a_P) : Int :=
  (if (fn_110 a1 H) = 0 then (-1)
  else a_bd (H 134 (a_w (15 + a1))) fun x1 =>
  a_sw a2 0 ((-1)) [H 134 (a_w (7 + a1)),
  x1,
  H 134 (a_w (23 + a1)),
  H 134 (a_w (31 + a1)),
  H 134 (a_w (39 + a1)),
  a_and (a_shr (fn_120 H) a1) 1,
  fn_114 x1 (H 134 1),
  fn_116 x1 H])
theorem ti_127_0 : (q_I 127).2 0 = some (0, 4, 0, 0, 2, 1, []) := rfl
theorem ti_127_1 : (q_I 127).2 1 = some (0, 0, 0, 1, 0, 2, []) := rfl
theorem ti_127_2 : (q_I 127).2 2 = some (3, 0, 115, 110, 2, 5, [883, 6]) := rfl
theorem ti_127_5 : (q_I 127).2 5 = some (8, 1, 0, 10, 0, 8, []) := rfl
theorem ti_127_8 : (q_I 127).2 8 = some (2, 0, (-1), 0, 0, 9, []) := rfl
theorem ti_127_9 : (q_I 127).2 9 = some (4, 0, 0, 0, 0, 10, []) := rfl
theorem ti_127_10 : (q_I 127).2 10 = some (0, 4, 0, 0, 2, 11, []) := rfl
theorem ti_127_11 : (q_I 127).2 11 = some (1, 0, 7, 6, 0, 14, [795]) := rfl
theorem ti_127_14 : (q_I 127).2 14 = some (2, 1, 15, 0, 0, 16, []) := rfl
theorem ti_127_16 : (q_I 127).2 16 = some (0, 0, 0, 1, 0, 17, []) := rfl
theorem ti_127_17 : (q_I 127).2 17 = some (6, 0, 0, 0, 0, 18, []) := rfl
theorem ti_127_18 : (q_I 127).2 18 = some (5, 10, 0, 0, 0, 19, []) := rfl
theorem ti_127_19 : (q_I 127).2 19 = some (11, 0, 0, 3, 0, 20, []) := rfl
theorem ti_127_20 : (q_I 127).2 20 = some (0, 0, 0, 2, 0, 21, []) := rfl
theorem ti_127_21 : (q_I 127).2 21 = some (18, 8, 0, 136, 0, 68, [68, 78, 80, 90, 100, 110, 119, 130]) := rfl
theorem ti_127_136 : (q_I 127).2 136 = some (2, 0, (-1), 0, 0, 137, []) := rfl
theorem ti_127_137 : (q_I 127).2 137 = some (4, 0, 0, 0, 0, 138, []) := rfl
theorem ti_127_130 : (q_I 127).2 130 = some (0, 4, 0, 0, 2, 131, []) := rfl
theorem ti_127_131 : (q_I 127).2 131 = some (0, 0, 0, 3, 0, 132, []) := rfl
theorem ti_127_132 : (q_I 127).2 132 = some (3, 0, 65, 116, 2, 135, [903, 6]) := rfl
theorem ti_127_135 : (q_I 127).2 135 = some (4, 0, 0, 0, 0, 136, []) := rfl
theorem ti_127_119 : (q_I 127).2 119 = some (0, 0, 0, 3, 0, 120, []) := rfl
theorem ti_127_120 : (q_I 127).2 120 = some (0, 4, 0, 0, 2, 121, []) := rfl
theorem ti_127_121 : (q_I 127).2 121 = some (1, 0, 7, 6, 0, 124, [795]) := rfl
theorem ti_127_124 : (q_I 127).2 124 = some (2, 0, 1, 0, 0, 125, []) := rfl
theorem ti_127_125 : (q_I 127).2 125 = some (5, 10, 0, 0, 0, 126, []) := rfl
theorem ti_127_126 : (q_I 127).2 126 = some (3, 1, 69, 114, 2, 129, [910, 6]) := rfl
theorem ti_127_129 : (q_I 127).2 129 = some (4, 0, 0, 0, 0, 130, []) := rfl
theorem ti_127_110 : (q_I 127).2 110 = some (0, 4, 0, 0, 2, 111, []) := rfl
theorem ti_127_111 : (q_I 127).2 111 = some (3, 0, 91, 120, 1, 114, [887, 6]) := rfl
theorem ti_127_114 : (q_I 127).2 114 = some (0, 0, 0, 1, 0, 115, []) := rfl
theorem ti_127_115 : (q_I 127).2 115 = some (6, 9, 0, 0, 0, 116, []) := rfl
theorem ti_127_116 : (q_I 127).2 116 = some (2, 0, 1, 0, 0, 117, []) := rfl
theorem ti_127_117 : (q_I 127).2 117 = some (6, 5, 0, 0, 0, 118, []) := rfl
theorem ti_127_118 : (q_I 127).2 118 = some (4, 0, 0, 0, 0, 119, []) := rfl
theorem ti_127_100 : (q_I 127).2 100 = some (0, 4, 0, 0, 2, 101, []) := rfl
theorem ti_127_101 : (q_I 127).2 101 = some (1, 0, 7, 6, 0, 104, [795]) := rfl
theorem ti_127_104 : (q_I 127).2 104 = some (2, 1, 39, 0, 0, 106, []) := rfl
theorem ti_127_106 : (q_I 127).2 106 = some (0, 0, 0, 1, 0, 107, []) := rfl
theorem ti_127_107 : (q_I 127).2 107 = some (6, 0, 0, 0, 0, 108, []) := rfl
theorem ti_127_108 : (q_I 127).2 108 = some (5, 10, 0, 0, 0, 109, []) := rfl
theorem ti_127_109 : (q_I 127).2 109 = some (4, 0, 0, 0, 0, 110, []) := rfl
theorem ti_127_90 : (q_I 127).2 90 = some (0, 4, 0, 0, 2, 91, []) := rfl
theorem ti_127_91 : (q_I 127).2 91 = some (1, 0, 7, 6, 0, 94, [795]) := rfl
theorem ti_127_94 : (q_I 127).2 94 = some (2, 1, 31, 0, 0, 96, []) := rfl
theorem ti_127_96 : (q_I 127).2 96 = some (0, 0, 0, 1, 0, 97, []) := rfl
theorem ti_127_97 : (q_I 127).2 97 = some (6, 0, 0, 0, 0, 98, []) := rfl
theorem ti_127_98 : (q_I 127).2 98 = some (5, 10, 0, 0, 0, 99, []) := rfl
theorem ti_127_99 : (q_I 127).2 99 = some (4, 0, 0, 0, 0, 100, []) := rfl
theorem ti_127_80 : (q_I 127).2 80 = some (0, 4, 0, 0, 2, 81, []) := rfl
theorem ti_127_81 : (q_I 127).2 81 = some (1, 0, 7, 6, 0, 84, [795]) := rfl
theorem ti_127_84 : (q_I 127).2 84 = some (2, 1, 23, 0, 0, 86, []) := rfl
theorem ti_127_86 : (q_I 127).2 86 = some (0, 0, 0, 1, 0, 87, []) := rfl
theorem ti_127_87 : (q_I 127).2 87 = some (6, 0, 0, 0, 0, 88, []) := rfl
theorem ti_127_88 : (q_I 127).2 88 = some (5, 10, 0, 0, 0, 89, []) := rfl
theorem ti_127_89 : (q_I 127).2 89 = some (4, 0, 0, 0, 0, 90, []) := rfl
theorem ti_127_78 : (q_I 127).2 78 = some (0, 0, 0, 3, 0, 79, []) := rfl
theorem ti_127_79 : (q_I 127).2 79 = some (4, 0, 0, 0, 0, 80, []) := rfl
theorem ti_127_68 : (q_I 127).2 68 = some (0, 4, 0, 0, 2, 69, []) := rfl
theorem ti_127_69 : (q_I 127).2 69 = some (1, 0, 7, 6, 0, 72, [795]) := rfl
theorem ti_127_72 : (q_I 127).2 72 = some (2, 1, 7, 0, 0, 74, []) := rfl
theorem ti_127_74 : (q_I 127).2 74 = some (0, 0, 0, 1, 0, 75, []) := rfl
theorem ti_127_75 : (q_I 127).2 75 = some (6, 0, 0, 0, 0, 76, []) := rfl
theorem ti_127_76 : (q_I 127).2 76 = some (5, 10, 0, 0, 0, 77, []) := rfl
theorem ti_127_77 : (q_I 127).2 77 = some (4, 0, 0, 0, 0, 78, []) := rfl
theorem mt_127 (a1 : Int) (a2 : Int) (H : a_P) : a_mt (a_pp H) 0 127 [(2, 133), (0, a1), (0, a2)] H (fn_127 a1 a2 H) := by
  refine a_mtI (lo := [some (2, 133), some (0, a1), some (0, a2), none]) rfl fun d => ?_
  unfold fn_127
  refine a_w0 (Nat.le_succ _) ti_127_0 rfl ?_
  refine a_w0 (Nat.le_succ _) ti_127_1 rfl ?_
  refine a_w3p (args := [(2, 133), (0, a1)]) (Nat.le_succ _) ti_127_2 (mt_110 a1 H) rfl rfl rfl rfl ?_
  refine a_w8_1 (Nat.le_succ _) ti_127_5 ?_ ?_
  · refine a_w0 (Nat.le_succ _) ti_127_10 rfl ?_
    refine a_w1 (a := (2, 134)) (Nat.le_succ _) ti_127_11 rfl ?_
    refine a_w2 (z := 15) (Nat.le_succ _) ti_127_14 (by decide) ?_
    refine a_w0 (Nat.le_succ _) ti_127_16 rfl ?_
    refine a_w6 (a := (0, a_w (15 + a1))) (Nat.le_succ _) ti_127_17 rfl ?_
    refine a_w5 (kk := 0) (Nat.le_succ _) ti_127_18 (fun _ => rfl) ?_
    refine a_w11b (lof := fun x1 => [some (2, 133), some (0, a1), some (0, a2), some (0, x1)]) (Nat.le_succ _) ti_127_19 (fun _ => rfl) (fun x1 => ?_)
    refine a_w0 (Nat.le_succ _) ti_127_20 rfl ?_
    refine a_w18 (Nat.le_succ _) ti_127_21 rfl ⟨?_, ?_, ?_, ?_, ?_, ?_, ?_, ?_, trivial⟩ ?_
    · refine a_w0 (Nat.le_succ _) ti_127_68 rfl ?_
      refine a_w1 (a := (2, 134)) (Nat.le_succ _) ti_127_69 rfl ?_
      refine a_w2 (z := 7) (Nat.le_succ _) ti_127_72 (by decide) ?_
      refine a_w0 (Nat.le_succ _) ti_127_74 rfl ?_
      refine a_w6 (a := (0, a_w (7 + a1))) (Nat.le_succ _) ti_127_75 rfl ?_
      refine a_w5 (kk := 0) (Nat.le_succ _) ti_127_76 (fun _ => rfl) ?_
      exact a_w4 (Nat.le_succ _) ti_127_77 rfl rfl rfl
    · refine a_w0 (Nat.le_succ _) ti_127_78 rfl ?_
      exact a_w4 (Nat.le_succ _) ti_127_79 rfl rfl rfl
    · refine a_w0 (Nat.le_succ _) ti_127_80 rfl ?_
      refine a_w1 (a := (2, 134)) (Nat.le_succ _) ti_127_81 rfl ?_
      refine a_w2 (z := 23) (Nat.le_succ _) ti_127_84 (by decide) ?_
      refine a_w0 (Nat.le_succ _) ti_127_86 rfl ?_
      refine a_w6 (a := (0, a_w (23 + a1))) (Nat.le_succ _) ti_127_87 rfl ?_
      refine a_w5 (kk := 0) (Nat.le_succ _) ti_127_88 (fun _ => rfl) ?_
      exact a_w4 (Nat.le_succ _) ti_127_89 rfl rfl rfl
    · refine a_w0 (Nat.le_succ _) ti_127_90 rfl ?_
      refine a_w1 (a := (2, 134)) (Nat.le_succ _) ti_127_91 rfl ?_
      refine a_w2 (z := 31) (Nat.le_succ _) ti_127_94 (by decide) ?_
      refine a_w0 (Nat.le_succ _) ti_127_96 rfl ?_
      refine a_w6 (a := (0, a_w (31 + a1))) (Nat.le_succ _) ti_127_97 rfl ?_
      refine a_w5 (kk := 0) (Nat.le_succ _) ti_127_98 (fun _ => rfl) ?_
      exact a_w4 (Nat.le_succ _) ti_127_99 rfl rfl rfl
    · refine a_w0 (Nat.le_succ _) ti_127_100 rfl ?_
      refine a_w1 (a := (2, 134)) (Nat.le_succ _) ti_127_101 rfl ?_
      refine a_w2 (z := 39) (Nat.le_succ _) ti_127_104 (by decide) ?_
      refine a_w0 (Nat.le_succ _) ti_127_106 rfl ?_
      refine a_w6 (a := (0, a_w (39 + a1))) (Nat.le_succ _) ti_127_107 rfl ?_
      refine a_w5 (kk := 0) (Nat.le_succ _) ti_127_108 (fun _ => rfl) ?_
      exact a_w4 (Nat.le_succ _) ti_127_109 rfl rfl rfl
    · refine a_w0 (Nat.le_succ _) ti_127_110 rfl ?_
      refine a_w3p (args := [(2, 133)]) (Nat.le_succ _) ti_127_111 (mt_120 H) rfl rfl rfl rfl ?_
      refine a_w0 (Nat.le_succ _) ti_127_114 rfl ?_
      refine a_w6 (a := (0, a_shr (fn_120 H) a1)) (Nat.le_succ _) ti_127_115 rfl ?_
      refine a_w2 (z := 1) (Nat.le_succ _) ti_127_116 (by decide) ?_
      refine a_w6 (a := (0, a_and (a_shr (fn_120 H) a1) 1)) (Nat.le_succ _) ti_127_117 rfl ?_
      exact a_w4 (Nat.le_succ _) ti_127_118 rfl rfl rfl
    · refine a_w0 (Nat.le_succ _) ti_127_119 rfl ?_
      refine a_w0 (Nat.le_succ _) ti_127_120 rfl ?_
      refine a_w1 (a := (2, 134)) (Nat.le_succ _) ti_127_121 rfl ?_
      refine a_w2 (z := 1) (Nat.le_succ _) ti_127_124 (by decide) ?_
      refine a_w5 (kk := 0) (Nat.le_succ _) ti_127_125 (fun _ => rfl) ?_
      refine a_w3p (args := [(0, x1), (0, H 134 1)]) (Nat.le_succ _) ti_127_126 (mt_114 x1 (H 134 1) H) rfl rfl rfl rfl ?_
      exact a_w4 (Nat.le_succ _) ti_127_129 rfl rfl rfl
    · refine a_w0 (Nat.le_succ _) ti_127_130 rfl ?_
      refine a_w0 (Nat.le_succ _) ti_127_131 rfl ?_
      refine a_w3p (args := [(2, 133), (0, x1)]) (Nat.le_succ _) ti_127_132 (mt_116 x1 H) rfl rfl rfl rfl ?_
      exact a_w4 (Nat.le_succ _) ti_127_135 rfl rfl rfl
    · refine a_w2 (z := (-1)) (Nat.le_succ _) ti_127_136 (by decide) ?_
      exact a_w4 (Nat.le_succ _) ti_127_137 rfl rfl rfl
  · refine a_w2 (z := (-1)) (Nat.le_succ _) ti_127_8 (by decide) ?_
    exact a_w4 (Nat.le_succ _) ti_127_9 rfl rfl rfl
/-- CarriedGateModel.side(I)I -/
noncomputable def fn_128 (a1 : Int) (H : a_P) : Int :=
  a_jn (fun (s1 : Int) => s1) fun j16 =>
  (if (fn_111 a1) = 0 then j16 (-1)
  else j16 (fn_116 a1 H))
theorem ti_128_0 : (q_I 128).2 0 = some (0, 0, 0, 1, 0, 1, []) := rfl
theorem ti_128_1 : (q_I 128).2 1 = some (3, 1, 106, 111, 1, 4, [870, 6]) := rfl
theorem ti_128_4 : (q_I 128).2 4 = some (8, 0, 0, 15, 0, 7, []) := rfl
theorem ti_128_7 : (q_I 128).2 7 = some (0, 4, 0, 0, 2, 8, []) := rfl
theorem ti_128_8 : (q_I 128).2 8 = some (0, 0, 0, 1, 0, 9, []) := rfl
theorem ti_128_9 : (q_I 128).2 9 = some (3, 0, 65, 116, 2, 12, [903, 6]) := rfl
theorem ti_128_12 : (q_I 128).2 12 = some (7, 0, 0, 16, 0, 15, []) := rfl
theorem ti_128_15 : (q_I 128).2 15 = some (2, 0, (-1), 0, 0, 16, []) := rfl
theorem ti_128_16 : (q_I 128).2 16 = some (4, 0, 0, 0, 0, 17, []) := rfl
theorem mt_128 (a1 : Int) (H : a_P) : a_mt (a_pp H) 0 128 [(2, 133), (0, a1)] H (fn_128 a1 H) := by
  refine a_mtI (lo := [some (2, 133), some (0, a1)]) rfl fun d => ?_
  unfold fn_128
  refine a_w0 (Nat.le_succ _) ti_128_0 rfl ?_
  refine a_w3p (args := [(0, a1)]) (Nat.le_succ _) ti_128_1 (mt_111 a1 H) rfl rfl rfl rfl ?_
  refine a_wjn 16 (fun (s : Int) => [none, none]) (fun (s : Int) => [(0, s)]) (fun (s : Int) => H) (fun s1 => ?_) (fun j16 hj16 => ?_)
  · exact a_w4 (Nat.le_succ _) ti_128_16 rfl rfl rfl
  · refine a_w8_0 (Nat.le_succ _) ti_128_4 ?_ ?_
    · refine a_w2 (z := (-1)) (Nat.le_succ _) ti_128_15 (by decide) ?_
      exact a_wk (hj16 (-1)) (by omega) trivial
    · refine a_w0 (Nat.le_succ _) ti_128_7 rfl ?_
      refine a_w0 (Nat.le_succ _) ti_128_8 rfl ?_
      refine a_w3p (args := [(2, 133), (0, a1)]) (Nat.le_succ _) ti_128_9 (mt_116 a1 H) rfl rfl rfl rfl ?_
      refine a_w7 (Nat.le_succ _) ti_128_12 ?_
      exact a_wk (hj16 (fn_116 a1 H)) (by omega) trivial
/-- CarriedGateModel.wetOfAll()I -/
noncomputable def fn_129 (H : a_P) : Int :=
  a_lp (fun (s1 : Int × Int) => 0) (fun (s1 : Int × Int) n4 => (if s1.2 < (H 134 0) then a_bd (a_w (s1.1 + (H 134 (a_w (39 + s1.2))))) fun x1 =>
  a_bd (a_w (s1.2 + 1)) fun x2 =>
  n4 (x1, x2)
  else s1.1)) a_fuel (0, 0)
theorem ti_129_0 : (q_I 129).2 0 = some (2, 0, 0, 0, 0, 1, []) := rfl
theorem ti_129_1 : (q_I 129).2 1 = some (11, 0, 0, 1, 0, 2, []) := rfl
theorem ti_129_2 : (q_I 129).2 2 = some (2, 0, 0, 0, 0, 3, []) := rfl
theorem ti_129_3 : (q_I 129).2 3 = some (11, 0, 0, 2, 0, 4, []) := rfl
theorem ti_129_4 : (q_I 129).2 4 = some (0, 0, 0, 2, 0, 5, []) := rfl
theorem ti_129_5 : (q_I 129).2 5 = some (0, 4, 0, 0, 2, 6, []) := rfl
theorem ti_129_6 : (q_I 129).2 6 = some (1, 0, 7, 6, 0, 9, [795]) := rfl
theorem ti_129_9 : (q_I 129).2 9 = some (2, 0, 0, 0, 0, 10, []) := rfl
theorem ti_129_10 : (q_I 129).2 10 = some (5, 10, 0, 0, 0, 11, []) := rfl
theorem ti_129_11 : (q_I 129).2 11 = some (9, 3, 0, 32, 0, 14, []) := rfl
theorem ti_129_14 : (q_I 129).2 14 = some (0, 0, 0, 1, 0, 15, []) := rfl
theorem ti_129_15 : (q_I 129).2 15 = some (0, 4, 0, 0, 2, 16, []) := rfl
theorem ti_129_16 : (q_I 129).2 16 = some (1, 0, 7, 6, 0, 19, [795]) := rfl
theorem ti_129_19 : (q_I 129).2 19 = some (2, 1, 39, 0, 0, 21, []) := rfl
theorem ti_129_21 : (q_I 129).2 21 = some (0, 0, 0, 2, 0, 22, []) := rfl
theorem ti_129_22 : (q_I 129).2 22 = some (6, 0, 0, 0, 0, 23, []) := rfl
theorem ti_129_23 : (q_I 129).2 23 = some (5, 10, 0, 0, 0, 24, []) := rfl
theorem ti_129_24 : (q_I 129).2 24 = some (6, 0, 0, 0, 0, 25, []) := rfl
theorem ti_129_25 : (q_I 129).2 25 = some (11, 0, 0, 1, 0, 26, []) := rfl
theorem ti_129_26 : (q_I 129).2 26 = some (13, 0, 1, 2, 0, 29, []) := rfl
theorem ti_129_29 : (q_I 129).2 29 = some (7, 0, 0, 4, 0, 32, []) := rfl
theorem ti_129_32 : (q_I 129).2 32 = some (0, 0, 0, 1, 0, 33, []) := rfl
theorem ti_129_33 : (q_I 129).2 33 = some (4, 0, 0, 0, 0, 34, []) := rfl
theorem mt_129 (H : a_P) : a_mt (a_pp H) 0 129 [(2, 133)] H (fn_129 H) := by
  refine a_mtI (lo := [some (2, 133), none, none]) rfl fun d => ?_
  unfold fn_129
  refine a_w2 (z := 0) (Nat.le_succ _) ti_129_0 (by decide) ?_
  refine a_w11 (lo' := [some (2, 133), some (0, 0), none]) (Nat.le_succ _) ti_129_1 rfl ?_
  refine a_w2 (z := 0) (Nat.le_succ _) ti_129_2 (by decide) ?_
  refine a_w11 (lo' := [some (2, 133), some (0, 0), some (0, 0)]) (Nat.le_succ _) ti_129_3 rfl ?_
  refine a_wk (a_wlp (fun (s : Int × Int) => [some (2, 133), some (0, s.1), some (0, s.2)]) (fun (s : Int × Int) => H) (fun N1 hN1 n4 hn4 s1 => ?_) a_fuel (a_fuel_le (by omega)) (0, 0)) (Nat.le_refl _) ⟨rfl, rfl, rfl, trivial⟩
  · refine a_w0 (Nat.le_refl _) ti_129_4 rfl ?_
    refine a_w0 (Nat.le_succ _) ti_129_5 rfl ?_
    refine a_w1 (a := (2, 134)) (Nat.le_succ _) ti_129_6 rfl ?_
    refine a_w2 (z := 0) (Nat.le_succ _) ti_129_9 (by decide) ?_
    refine a_w5 (kk := 0) (Nat.le_succ _) ti_129_10 (fun _ => rfl) ?_
    refine a_w9_3 (Nat.le_succ _) ti_129_11 ?_ ?_
    · refine a_w0 (Nat.le_succ _) ti_129_32 rfl ?_
      exact a_w4 (Nat.le_succ _) ti_129_33 rfl rfl rfl
    · refine a_w0 (Nat.le_succ _) ti_129_14 rfl ?_
      refine a_w0 (Nat.le_succ _) ti_129_15 rfl ?_
      refine a_w1 (a := (2, 134)) (Nat.le_succ _) ti_129_16 rfl ?_
      refine a_w2 (z := 39) (Nat.le_succ _) ti_129_19 (by decide) ?_
      refine a_w0 (Nat.le_succ _) ti_129_21 rfl ?_
      refine a_w6 (a := (0, a_w (39 + s1.2))) (Nat.le_succ _) ti_129_22 rfl ?_
      refine a_w5 (kk := 0) (Nat.le_succ _) ti_129_23 (fun _ => rfl) ?_
      refine a_w6 (a := (0, a_w (s1.1 + (H 134 (a_w (39 + s1.2)))))) (Nat.le_succ _) ti_129_24 rfl ?_
      refine a_w11b (lof := fun x1 => [some (2, 133), some (0, x1), some (0, s1.2)]) (Nat.le_succ _) ti_129_25 (fun _ => rfl) (fun x1 => ?_)
      refine a_w13 (c' := 1) (lof := fun x2 => [some (2, 133), some (0, x1), some (0, x2)]) (Nat.le_succ _) ti_129_26 rfl (by decide) rfl (fun _ => rfl) (fun x2 => ?_)
      refine a_w7 (Nat.le_succ _) ti_129_29 ?_
      exact a_wk (hn4 (x1, x2)) (by omega) ⟨rfl, rfl, rfl, trivial⟩
/-- CarriedGateModel.count(I)I -/
noncomputable def fn_130 (a1 : Int) (H : a_P) : Int :=
  a_sw a1 0 ((-1)) [H 134 0,
  H 134 1,
  H 134 2,
  H 134 3,
  H 134 4,
  H 134 5,
  fn_120 H,
  fn_129 H,
  H 133 7]
theorem ti_130_0 : (q_I 130).2 0 = some (0, 0, 0, 1, 0, 1, []) := rfl
theorem ti_130_1 : (q_I 130).2 1 = some (18, 9, 0, 109, 0, 52, [52, 59, 66, 73, 80, 87, 94, 99, 104]) := rfl
theorem ti_130_109 : (q_I 130).2 109 = some (2, 0, (-1), 0, 0, 110, []) := rfl
theorem ti_130_110 : (q_I 130).2 110 = some (4, 0, 0, 0, 0, 111, []) := rfl
theorem ti_130_104 : (q_I 130).2 104 = some (0, 4, 0, 0, 2, 105, []) := rfl
theorem ti_130_105 : (q_I 130).2 105 = some (1, 0, 101, 6, 7, 108, [802]) := rfl
theorem ti_130_108 : (q_I 130).2 108 = some (4, 0, 0, 0, 0, 109, []) := rfl
theorem ti_130_99 : (q_I 130).2 99 = some (0, 4, 0, 0, 2, 100, []) := rfl
theorem ti_130_100 : (q_I 130).2 100 = some (3, 0, 118, 129, 1, 103, [924, 6]) := rfl
theorem ti_130_103 : (q_I 130).2 103 = some (4, 0, 0, 0, 0, 104, []) := rfl
theorem ti_130_94 : (q_I 130).2 94 = some (0, 4, 0, 0, 2, 95, []) := rfl
theorem ti_130_95 : (q_I 130).2 95 = some (3, 0, 91, 120, 1, 98, [887, 6]) := rfl
theorem ti_130_98 : (q_I 130).2 98 = some (4, 0, 0, 0, 0, 99, []) := rfl
theorem ti_130_87 : (q_I 130).2 87 = some (0, 4, 0, 0, 2, 88, []) := rfl
theorem ti_130_88 : (q_I 130).2 88 = some (1, 0, 7, 6, 0, 91, [795]) := rfl
theorem ti_130_91 : (q_I 130).2 91 = some (2, 0, 5, 0, 0, 92, []) := rfl
theorem ti_130_92 : (q_I 130).2 92 = some (5, 10, 0, 0, 0, 93, []) := rfl
theorem ti_130_93 : (q_I 130).2 93 = some (4, 0, 0, 0, 0, 94, []) := rfl
theorem ti_130_80 : (q_I 130).2 80 = some (0, 4, 0, 0, 2, 81, []) := rfl
theorem ti_130_81 : (q_I 130).2 81 = some (1, 0, 7, 6, 0, 84, [795]) := rfl
theorem ti_130_84 : (q_I 130).2 84 = some (2, 0, 4, 0, 0, 85, []) := rfl
theorem ti_130_85 : (q_I 130).2 85 = some (5, 10, 0, 0, 0, 86, []) := rfl
theorem ti_130_86 : (q_I 130).2 86 = some (4, 0, 0, 0, 0, 87, []) := rfl
theorem ti_130_73 : (q_I 130).2 73 = some (0, 4, 0, 0, 2, 74, []) := rfl
theorem ti_130_74 : (q_I 130).2 74 = some (1, 0, 7, 6, 0, 77, [795]) := rfl
theorem ti_130_77 : (q_I 130).2 77 = some (2, 0, 3, 0, 0, 78, []) := rfl
theorem ti_130_78 : (q_I 130).2 78 = some (5, 10, 0, 0, 0, 79, []) := rfl
theorem ti_130_79 : (q_I 130).2 79 = some (4, 0, 0, 0, 0, 80, []) := rfl
theorem ti_130_66 : (q_I 130).2 66 = some (0, 4, 0, 0, 2, 67, []) := rfl
theorem ti_130_67 : (q_I 130).2 67 = some (1, 0, 7, 6, 0, 70, [795]) := rfl
theorem ti_130_70 : (q_I 130).2 70 = some (2, 0, 2, 0, 0, 71, []) := rfl
theorem ti_130_71 : (q_I 130).2 71 = some (5, 10, 0, 0, 0, 72, []) := rfl
theorem ti_130_72 : (q_I 130).2 72 = some (4, 0, 0, 0, 0, 73, []) := rfl
theorem ti_130_59 : (q_I 130).2 59 = some (0, 4, 0, 0, 2, 60, []) := rfl
theorem ti_130_60 : (q_I 130).2 60 = some (1, 0, 7, 6, 0, 63, [795]) := rfl
theorem ti_130_63 : (q_I 130).2 63 = some (2, 0, 1, 0, 0, 64, []) := rfl
theorem ti_130_64 : (q_I 130).2 64 = some (5, 10, 0, 0, 0, 65, []) := rfl
theorem ti_130_65 : (q_I 130).2 65 = some (4, 0, 0, 0, 0, 66, []) := rfl
theorem ti_130_52 : (q_I 130).2 52 = some (0, 4, 0, 0, 2, 53, []) := rfl
theorem ti_130_53 : (q_I 130).2 53 = some (1, 0, 7, 6, 0, 56, [795]) := rfl
theorem ti_130_56 : (q_I 130).2 56 = some (2, 0, 0, 0, 0, 57, []) := rfl
theorem ti_130_57 : (q_I 130).2 57 = some (5, 10, 0, 0, 0, 58, []) := rfl
theorem ti_130_58 : (q_I 130).2 58 = some (4, 0, 0, 0, 0, 59, []) := rfl
theorem mt_130 (a1 : Int) (H : a_P) : a_mt (a_pp H) 0 130 [(2, 133), (0, a1)] H (fn_130 a1 H) := by
  refine a_mtI (lo := [some (2, 133), some (0, a1)]) rfl fun d => ?_
  unfold fn_130
  refine a_w0 (Nat.le_succ _) ti_130_0 rfl ?_
  refine a_w18 (Nat.le_succ _) ti_130_1 rfl ⟨?_, ?_, ?_, ?_, ?_, ?_, ?_, ?_, ?_, trivial⟩ ?_
  · refine a_w0 (Nat.le_succ _) ti_130_52 rfl ?_
    refine a_w1 (a := (2, 134)) (Nat.le_succ _) ti_130_53 rfl ?_
    refine a_w2 (z := 0) (Nat.le_succ _) ti_130_56 (by decide) ?_
    refine a_w5 (kk := 0) (Nat.le_succ _) ti_130_57 (fun _ => rfl) ?_
    exact a_w4 (Nat.le_succ _) ti_130_58 rfl rfl rfl
  · refine a_w0 (Nat.le_succ _) ti_130_59 rfl ?_
    refine a_w1 (a := (2, 134)) (Nat.le_succ _) ti_130_60 rfl ?_
    refine a_w2 (z := 1) (Nat.le_succ _) ti_130_63 (by decide) ?_
    refine a_w5 (kk := 0) (Nat.le_succ _) ti_130_64 (fun _ => rfl) ?_
    exact a_w4 (Nat.le_succ _) ti_130_65 rfl rfl rfl
  · refine a_w0 (Nat.le_succ _) ti_130_66 rfl ?_
    refine a_w1 (a := (2, 134)) (Nat.le_succ _) ti_130_67 rfl ?_
    refine a_w2 (z := 2) (Nat.le_succ _) ti_130_70 (by decide) ?_
    refine a_w5 (kk := 0) (Nat.le_succ _) ti_130_71 (fun _ => rfl) ?_
    exact a_w4 (Nat.le_succ _) ti_130_72 rfl rfl rfl
  · refine a_w0 (Nat.le_succ _) ti_130_73 rfl ?_
    refine a_w1 (a := (2, 134)) (Nat.le_succ _) ti_130_74 rfl ?_
    refine a_w2 (z := 3) (Nat.le_succ _) ti_130_77 (by decide) ?_
    refine a_w5 (kk := 0) (Nat.le_succ _) ti_130_78 (fun _ => rfl) ?_
    exact a_w4 (Nat.le_succ _) ti_130_79 rfl rfl rfl
  · refine a_w0 (Nat.le_succ _) ti_130_80 rfl ?_
    refine a_w1 (a := (2, 134)) (Nat.le_succ _) ti_130_81 rfl ?_
    refine a_w2 (z := 4) (Nat.le_succ _) ti_130_84 (by decide) ?_
    refine a_w5 (kk := 0) (Nat.le_succ _) ti_130_85 (fun _ => rfl) ?_
    exact a_w4 (Nat.le_succ _) ti_130_86 rfl rfl rfl
  · refine a_w0 (Nat.le_succ _) ti_130_87 rfl ?_
    refine a_w1 (a := (2, 134)) (Nat.le_succ _) ti_130_88 rfl ?_
    refine a_w2 (z := 5) (Nat.le_succ _) ti_130_91 (by decide) ?_
    refine a_w5 (kk := 0) (Nat.le_succ _) ti_130_92 (fun _ => rfl) ?_
    exact a_w4 (Nat.le_succ _) ti_130_93 rfl rfl rfl
  · refine a_w0 (Nat.le_succ _) ti_130_94 rfl ?_
    refine a_w3p (args := [(2, 133)]) (Nat.le_succ _) ti_130_95 (mt_120 H) rfl rfl rfl rfl ?_
    exact a_w4 (Nat.le_succ _) ti_130_98 rfl rfl rfl
  · refine a_w0 (Nat.le_succ _) ti_130_99 rfl ?_
    refine a_w3p (args := [(2, 133)]) (Nat.le_succ _) ti_130_100 (mt_129 H) rfl rfl rfl rfl ?_
    exact a_w4 (Nat.le_succ _) ti_130_103 rfl rfl rfl
  · refine a_w0 (Nat.le_succ _) ti_130_104 rfl ?_
    refine a_w1 (a := (0, H 133 7)) (Nat.le_succ _) ti_130_105 rfl ?_
    exact a_w4 (Nat.le_succ _) ti_130_108 rfl rfl rfl
  · refine a_w2 (z := (-1)) (Nat.le_succ _) ti_130_109 (by decide) ?_
    exact a_w4 (Nat.le_succ _) ti_130_110 rfl rfl rfl

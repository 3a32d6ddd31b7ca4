/-- java/lang/Integer.bitCount(I)I -/
noncomputable def fn_185 (a0 : Int) : Int :=
  a_bd (a_w (a0 - (a_and (a_ush a0 1) 1431655765))) fun x1 =>
  a_bd (a_w ((a_and x1 858993459) + (a_and (a_ush x1 2) 858993459))) fun x2 =>
  a_bd (a_and (a_w (x2 + (a_ush x2 4))) 252645135) fun x3 =>
  a_bd (a_w (x3 + (a_ush x3 8))) fun x4 =>
  a_bd (a_w (x4 + (a_ush x4 16))) fun x5 =>
  a_and x5 63
theorem ti_185_0 : (q_I 185).2 0 = some (0, 0, 0, 0, 0, 1, []) := rfl
theorem ti_185_1 : (q_I 185).2 1 = some (0, 0, 0, 0, 0, 2, []) := rfl
theorem ti_185_2 : (q_I 185).2 2 = some (2, 0, 1, 0, 0, 3, []) := rfl
theorem ti_185_3 : (q_I 185).2 3 = some (6, 10, 0, 0, 0, 4, []) := rfl
theorem ti_185_4 : (q_I 185).2 4 = some (2, 4, 1431655765, 265, 0, 7, [646]) := rfl
theorem ti_185_7 : (q_I 185).2 7 = some (6, 5, 0, 0, 0, 8, []) := rfl
theorem ti_185_8 : (q_I 185).2 8 = some (6, 1, 0, 0, 0, 9, []) := rfl
theorem ti_185_9 : (q_I 185).2 9 = some (11, 0, 0, 0, 0, 10, []) := rfl
theorem ti_185_10 : (q_I 185).2 10 = some (0, 0, 0, 0, 0, 11, []) := rfl
theorem ti_185_11 : (q_I 185).2 11 = some (2, 4, 858993459, 266, 0, 14, [647]) := rfl
theorem ti_185_14 : (q_I 185).2 14 = some (6, 5, 0, 0, 0, 15, []) := rfl
theorem ti_185_15 : (q_I 185).2 15 = some (0, 0, 0, 0, 0, 16, []) := rfl
theorem ti_185_16 : (q_I 185).2 16 = some (2, 0, 2, 0, 0, 17, []) := rfl
theorem ti_185_17 : (q_I 185).2 17 = some (6, 10, 0, 0, 0, 18, []) := rfl
theorem ti_185_18 : (q_I 185).2 18 = some (2, 4, 858993459, 266, 0, 21, [647]) := rfl
theorem ti_185_21 : (q_I 185).2 21 = some (6, 5, 0, 0, 0, 22, []) := rfl
theorem ti_185_22 : (q_I 185).2 22 = some (6, 0, 0, 0, 0, 23, []) := rfl
theorem ti_185_23 : (q_I 185).2 23 = some (11, 0, 0, 0, 0, 24, []) := rfl
theorem ti_185_24 : (q_I 185).2 24 = some (0, 0, 0, 0, 0, 25, []) := rfl
theorem ti_185_25 : (q_I 185).2 25 = some (0, 0, 0, 0, 0, 26, []) := rfl
theorem ti_185_26 : (q_I 185).2 26 = some (2, 0, 4, 0, 0, 27, []) := rfl
theorem ti_185_27 : (q_I 185).2 27 = some (6, 10, 0, 0, 0, 28, []) := rfl
theorem ti_185_28 : (q_I 185).2 28 = some (6, 0, 0, 0, 0, 29, []) := rfl
theorem ti_185_29 : (q_I 185).2 29 = some (2, 4, 252645135, 267, 0, 32, [648]) := rfl
theorem ti_185_32 : (q_I 185).2 32 = some (6, 5, 0, 0, 0, 33, []) := rfl
theorem ti_185_33 : (q_I 185).2 33 = some (11, 0, 0, 0, 0, 34, []) := rfl
theorem ti_185_34 : (q_I 185).2 34 = some (0, 0, 0, 0, 0, 35, []) := rfl
theorem ti_185_35 : (q_I 185).2 35 = some (0, 0, 0, 0, 0, 36, []) := rfl
theorem ti_185_36 : (q_I 185).2 36 = some (2, 1, 8, 0, 0, 38, []) := rfl
theorem ti_185_38 : (q_I 185).2 38 = some (6, 10, 0, 0, 0, 39, []) := rfl
theorem ti_185_39 : (q_I 185).2 39 = some (6, 0, 0, 0, 0, 40, []) := rfl
theorem ti_185_40 : (q_I 185).2 40 = some (11, 0, 0, 0, 0, 41, []) := rfl
theorem ti_185_41 : (q_I 185).2 41 = some (0, 0, 0, 0, 0, 42, []) := rfl
theorem ti_185_42 : (q_I 185).2 42 = some (0, 0, 0, 0, 0, 43, []) := rfl
theorem ti_185_43 : (q_I 185).2 43 = some (2, 1, 16, 0, 0, 45, []) := rfl
theorem ti_185_45 : (q_I 185).2 45 = some (6, 10, 0, 0, 0, 46, []) := rfl
theorem ti_185_46 : (q_I 185).2 46 = some (6, 0, 0, 0, 0, 47, []) := rfl
theorem ti_185_47 : (q_I 185).2 47 = some (11, 0, 0, 0, 0, 48, []) := rfl
theorem ti_185_48 : (q_I 185).2 48 = some (0, 0, 0, 0, 0, 49, []) := rfl
theorem ti_185_49 : (q_I 185).2 49 = some (2, 1, 63, 0, 0, 51, []) := rfl
theorem ti_185_51 : (q_I 185).2 51 = some (6, 5, 0, 0, 0, 52, []) := rfl
theorem ti_185_52 : (q_I 185).2 52 = some (4, 0, 0, 0, 0, 53, []) := rfl
theorem mt_185 (a0 : Int) (H : a_P) : a_mt (a_pp H) 0 185 [(0, a0)] H (fn_185 a0) := by
  refine a_mtI (lo := [some (0, a0)]) rfl fun d => ?_
  unfold fn_185
  refine a_w0 (Nat.le_succ _) ti_185_0 rfl ?_
  refine a_w0 (Nat.le_succ _) ti_185_1 rfl ?_
  refine a_w2 (z := 1) (Nat.le_succ _) ti_185_2 (by decide) ?_
  refine a_w6 (a := (0, a_ush a0 1)) (Nat.le_succ _) ti_185_3 rfl ?_
  refine a_w2 (z := 1431655765) (Nat.le_succ _) ti_185_4 (by decide) ?_
  refine a_w6 (a := (0, a_and (a_ush a0 1) 1431655765)) (Nat.le_succ _) ti_185_7 rfl ?_
  refine a_w6 (a := (0, a_w (a0 - (a_and (a_ush a0 1) 1431655765)))) (Nat.le_succ _) ti_185_8 rfl ?_
  refine a_w11b (lof := fun x1 => [some (0, x1)]) (Nat.le_succ _) ti_185_9 (fun _ => rfl) (fun x1 => ?_)
  refine a_w0 (Nat.le_succ _) ti_185_10 rfl ?_
  refine a_w2 (z := 858993459) (Nat.le_succ _) ti_185_11 (by decide) ?_
  refine a_w6 (a := (0, a_and x1 858993459)) (Nat.le_succ _) ti_185_14 rfl ?_
  refine a_w0 (Nat.le_succ _) ti_185_15 rfl ?_
  refine a_w2 (z := 2) (Nat.le_succ _) ti_185_16 (by decide) ?_
  refine a_w6 (a := (0, a_ush x1 2)) (Nat.le_succ _) ti_185_17 rfl ?_
  refine a_w2 (z := 858993459) (Nat.le_succ _) ti_185_18 (by decide) ?_
  refine a_w6 (a := (0, a_and (a_ush x1 2) 858993459)) (Nat.le_succ _) ti_185_21 rfl ?_
  refine a_w6 (a := (0, a_w ((a_and x1 858993459) + (a_and (a_ush x1 2) 858993459)))) (Nat.le_succ _) ti_185_22 rfl ?_
  refine a_w11b (lof := fun x2 => [some (0, x2)]) (Nat.le_succ _) ti_185_23 (fun _ => rfl) (fun x2 => ?_)
  refine a_w0 (Nat.le_succ _) ti_185_24 rfl ?_
  refine a_w0 (Nat.le_succ _) ti_185_25 rfl ?_
  refine a_w2 (z := 4) (Nat.le_succ _) ti_185_26 (by decide) ?_
  refine a_w6 (a := (0, a_ush x2 4)) (Nat.le_succ _) ti_185_27 rfl ?_
  refine a_w6 (a := (0, a_w (x2 + (a_ush x2 4)))) (Nat.le_succ _) ti_185_28 rfl ?_
  refine a_w2 (z := 252645135) (Nat.le_succ _) ti_185_29 (by decide) ?_
  refine a_w6 (a := (0, a_and (a_w (x2 + (a_ush x2 4))) 252645135)) (Nat.le_succ _) ti_185_32 rfl ?_
  refine a_w11b (lof := fun x3 => [some (0, x3)]) (Nat.le_succ _) ti_185_33 (fun _ => rfl) (fun x3 => ?_)
  refine a_w0 (Nat.le_succ _) ti_185_34 rfl ?_
  refine a_w0 (Nat.le_succ _) ti_185_35 rfl ?_
  refine a_w2 (z := 8) (Nat.le_succ _) ti_185_36 (by decide) ?_
  refine a_w6 (a := (0, a_ush x3 8)) (Nat.le_succ _) ti_185_38 rfl ?_
  refine a_w6 (a := (0, a_w (x3 + (a_ush x3 8)))) (Nat.le_succ _) ti_185_39 rfl ?_
  refine a_w11b (lof := fun x4 => [some (0, x4)]) (Nat.le_succ _) ti_185_40 (fun _ => rfl) (fun x4 => ?_)
  refine a_w0 (Nat.le_succ _) ti_185_41 rfl ?_
  refine a_w0 (Nat.le_succ _) ti_185_42 rfl ?_
  refine a_w2 (z := 16) (Nat.le_succ _) ti_185_43 (by decide) ?_
  refine a_w6 (a := (0, a_ush x4 16)) (Nat.le_succ _) ti_185_45 rfl ?_
  refine a_w6 (a := (0, a_w (x4 + (a_ush x4 16)))) (Nat.le_succ _) ti_185_46 rfl ?_
  refine a_w11b (lof := fun x5 => [some (0, x5)]) (Nat.le_succ _) ti_185_47 (fun _ => rfl) (fun x5 => ?_)
  refine a_w0 (Nat.le_succ _) ti_185_48 rfl ?_
  refine a_w2 (z := 63) (Nat.le_succ _) ti_185_49 (by decide) ?_
  refine a_w6 (a := (0, a_and x5 63)) (Nat.le_succ _) ti_185_51 rfl ?_
  exact a_w4 (Nat.le_succ _) ti_185_52 rfl rfl rfl
/-- CarriedGate$Placing.isBetter(II)Z -/
noncomputable def fn_8 (a1 : Int) (a2 : Int) (H : a_P) : Int :=
  a_bd (a_w ((fn_185 a1) - (fn_185 (H 122 0)))) fun x1 =>
  a_jn (fun (s1 : Int) => s1) fun j34 =>
  a_jn (fun (s2 : Unit) => j34 1) fun j29 =>
  (if x1 < 0 then j29 ()
  else a_jn (fun (s3 : Unit) => j34 0) fun j33 =>
  (if x1 = 0 then (if a2 < (H 122 1) then j29 ()
  else j33 ())
  else j33 ()))
theorem ti_8_0 : (q_I 8).2 0 = some (0, 0, 0, 1, 0, 1, []) := rfl
theorem ti_8_1 : (q_I 8).2 1 = some (3, 1, 30, 185, 1, 4, [643, 99]) := rfl
theorem ti_8_4 : (q_I 8).2 4 = some (0, 4, 0, 0, 2, 5, []) := rfl
theorem ti_8_5 : (q_I 8).2 5 = some (1, 0, 7, 1, 0, 8, [188]) := rfl
theorem ti_8_8 : (q_I 8).2 8 = some (3, 1, 30, 185, 1, 11, [643, 99]) := rfl
theorem ti_8_11 : (q_I 8).2 11 = some (6, 1, 0, 0, 0, 12, []) := rfl
theorem ti_8_12 : (q_I 8).2 12 = some (11, 0, 0, 3, 0, 13, []) := rfl
theorem ti_8_13 : (q_I 8).2 13 = some (0, 0, 0, 3, 0, 14, []) := rfl
theorem ti_8_14 : (q_I 8).2 14 = some (8, 2, 0, 29, 0, 17, []) := rfl
theorem ti_8_17 : (q_I 8).2 17 = some (0, 0, 0, 3, 0, 18, []) := rfl
theorem ti_8_18 : (q_I 8).2 18 = some (8, 1, 0, 33, 0, 21, []) := rfl
theorem ti_8_21 : (q_I 8).2 21 = some (0, 0, 0, 2, 0, 22, []) := rfl
theorem ti_8_22 : (q_I 8).2 22 = some (0, 4, 0, 0, 2, 23, []) := rfl
theorem ti_8_23 : (q_I 8).2 23 = some (1, 0, 13, 1, 1, 26, [190]) := rfl
theorem ti_8_26 : (q_I 8).2 26 = some (9, 3, 0, 33, 0, 29, []) := rfl
theorem ti_8_33 : (q_I 8).2 33 = some (2, 0, 0, 0, 0, 34, []) := rfl
theorem ti_8_29 : (q_I 8).2 29 = some (2, 0, 1, 0, 0, 30, []) := rfl
theorem ti_8_30 : (q_I 8).2 30 = some (7, 0, 0, 34, 0, 33, []) := rfl
theorem ti_8_34 : (q_I 8).2 34 = some (4, 3, 0, 0, 0, 35, []) := rfl
theorem mt_8 (a1 : Int) (a2 : Int) (H : a_P) : a_mt (a_pp H) 0 8 [(2, 122), (0, a1), (0, a2)] H (fn_8 a1 a2 H) := by
  refine a_mtI (lo := [some (2, 122), some (0, a1), some (0, a2), none]) rfl fun d => ?_
  unfold fn_8
  refine a_w0 (Nat.le_succ _) ti_8_0 rfl ?_
  refine a_w3p (args := [(0, a1)]) (Nat.le_succ _) ti_8_1 (mt_185 a1 H) rfl rfl rfl rfl ?_
  refine a_w0 (Nat.le_succ _) ti_8_4 rfl ?_
  refine a_w1 (a := (0, H 122 0)) (Nat.le_succ _) ti_8_5 rfl ?_
  refine a_w3p (args := [(0, H 122 0)]) (Nat.le_succ _) ti_8_8 (mt_185 (H 122 0) H) rfl rfl rfl rfl ?_
  refine a_w6 (a := (0, a_w ((fn_185 a1) - (fn_185 (H 122 0))))) (Nat.le_succ _) ti_8_11 rfl ?_
  refine a_w11b (lof := fun x1 => [some (2, 122), some (0, a1), some (0, a2), some (0, x1)]) (Nat.le_succ _) ti_8_12 (fun _ => rfl) (fun x1 => ?_)
  refine a_w0 (Nat.le_succ _) ti_8_13 rfl ?_
  refine a_wjn 34 (fun (s : Int) => [none, none, none, none]) (fun (s : Int) => [(0, s)]) (fun (s : Int) => H) (fun s1 => ?_) (fun j34 hj34 => ?_)
  · exact a_w4 (Nat.le_succ _) ti_8_34 rfl rfl rfl
  · refine a_wjn 29 (fun (s : Unit) => [none, none, none, none]) (fun (s : Unit) => []) (fun (s : Unit) => H) (fun s2 => ?_) (fun j29 hj29 => ?_)
    · refine a_w2 (z := 1) (Nat.le_succ _) ti_8_29 (by decide) ?_
      refine a_w7 (Nat.le_succ _) ti_8_30 ?_
      exact a_wk (hj34 1) (by omega) trivial
    · refine a_w8_2 (Nat.le_succ _) ti_8_14 ?_ ?_
      · exact a_wk (hj29 ()) (by omega) trivial
      · refine a_w0 (Nat.le_succ _) ti_8_17 rfl ?_
        refine a_wjn 33 (fun (s : Unit) => [none, none, none, none]) (fun (s : Unit) => []) (fun (s : Unit) => H) (fun s3 => ?_) (fun j33 hj33 => ?_)
        · refine a_w2 (z := 0) (Nat.le_succ _) ti_8_33 (by decide) ?_
          exact a_wk (hj34 0) (by omega) trivial
        · refine a_w8_1 (Nat.le_succ _) ti_8_18 ?_ ?_
          · exact a_wk (hj33 ()) (by omega) trivial
          · refine a_w0 (Nat.le_succ _) ti_8_21 rfl ?_
            refine a_w0 (Nat.le_succ _) ti_8_22 rfl ?_
            refine a_w1 (a := (0, H 122 1)) (Nat.le_succ _) ti_8_23 rfl ?_
            refine a_w9_3 (Nat.le_succ _) ti_8_26 ?_ ?_
            · exact a_wk (hj33 ()) (by omega) trivial
            · exact a_wk (hj29 ()) (by omega) trivial
/-- CarriedGate$Placing.offer(IIII)V -/
noncomputable def fn_7 (a1 : Int) (a2 : Int) (a3 : Int) (a4 : Int) (H : a_P) : a_P :=
  a_jn (fun (s1 : Unit) => a_bd (a_up H 122 4 0) fun H1 =>
  a_bd (a_up H1 122 0 a1) fun H2 =>
  a_bd (a_up H2 122 1 a2) fun H3 =>
  a_bd (a_up H3 122 2 a3) fun H4 =>
  a_bd (a_up H4 122 3 a4) fun H5 =>
  H5) fun j17 =>
  (if (H 122 4) = 0 then (if (fn_8 a1 a2 H) = 0 then H
  else j17 ())
  else j17 ())
theorem ti_7_0 : (q_I 7).2 0 = some (0, 4, 0, 0, 2, 1, []) := rfl
theorem ti_7_1 : (q_I 7).2 1 = some (1, 0, 22, 1, 4, 4, [196]) := rfl
theorem ti_7_4 : (q_I 7).2 4 = some (8, 1, 0, 17, 0, 7, []) := rfl
theorem ti_7_7 : (q_I 7).2 7 = some (0, 4, 0, 0, 2, 8, []) := rfl
theorem ti_7_8 : (q_I 7).2 8 = some (0, 0, 0, 1, 0, 9, []) := rfl
theorem ti_7_9 : (q_I 7).2 9 = some (0, 0, 0, 2, 0, 10, []) := rfl
theorem ti_7_10 : (q_I 7).2 10 = some (3, 0, 26, 8, 3, 13, [639, 1]) := rfl
theorem ti_7_13 : (q_I 7).2 13 = some (8, 1, 0, 17, 0, 16, []) := rfl
theorem ti_7_16 : (q_I 7).2 16 = some (4, 4, 0, 0, 0, 17, []) := rfl
theorem ti_7_17 : (q_I 7).2 17 = some (0, 4, 0, 0, 2, 18, []) := rfl
theorem ti_7_18 : (q_I 7).2 18 = some (2, 0, 0, 0, 0, 19, []) := rfl
theorem ti_7_19 : (q_I 7).2 19 = some (10, 3, 22, 1, 4, 22, [196]) := rfl
theorem ti_7_22 : (q_I 7).2 22 = some (0, 4, 0, 0, 2, 23, []) := rfl
theorem ti_7_23 : (q_I 7).2 23 = some (0, 0, 0, 1, 0, 24, []) := rfl
theorem ti_7_24 : (q_I 7).2 24 = some (10, 0, 7, 1, 0, 27, [188]) := rfl
theorem ti_7_27 : (q_I 7).2 27 = some (0, 4, 0, 0, 2, 28, []) := rfl
theorem ti_7_28 : (q_I 7).2 28 = some (0, 0, 0, 2, 0, 29, []) := rfl
theorem ti_7_29 : (q_I 7).2 29 = some (10, 0, 13, 1, 1, 32, [190]) := rfl
theorem ti_7_32 : (q_I 7).2 32 = some (0, 4, 0, 0, 2, 33, []) := rfl
theorem ti_7_33 : (q_I 7).2 33 = some (0, 0, 0, 3, 0, 34, []) := rfl
theorem ti_7_34 : (q_I 7).2 34 = some (10, 0, 16, 1, 2, 37, [192]) := rfl
theorem ti_7_37 : (q_I 7).2 37 = some (0, 4, 0, 0, 2, 38, []) := rfl
theorem ti_7_38 : (q_I 7).2 38 = some (0, 1, 0, 4, 0, 40, []) := rfl
theorem ti_7_40 : (q_I 7).2 40 = some (10, 0, 19, 1, 3, 43, [194]) := rfl
theorem ti_7_43 : (q_I 7).2 43 = some (4, 4, 0, 0, 0, 44, []) := rfl
theorem mt_7 (a1 : Int) (a2 : Int) (a3 : Int) (a4 : Int) (H : a_P) : a_mt a_pv 9 7 [(2, 122), (0, a1), (0, a2), (0, a3), (0, a4)] H (fn_7 a1 a2 a3 a4 H) := by
  refine a_mtI (lo := [some (2, 122), some (0, a1), some (0, a2), some (0, a3), some (0, a4)]) rfl fun d => ?_
  unfold fn_7
  refine a_w0 (Nat.le_succ _) ti_7_0 rfl ?_
  refine a_w1 (a := (0, H 122 4)) (Nat.le_succ _) ti_7_1 rfl ?_
  refine a_wjn 17 (fun (s : Unit) => [some (2, 122), some (0, a1), some (0, a2), some (0, a3), some (0, a4)]) (fun (s : Unit) => []) (fun (s : Unit) => H) (fun s1 => ?_) (fun j17 hj17 => ?_)
  · refine a_w0 (Nat.le_succ _) ti_7_17 rfl ?_
    refine a_w2 (z := 0) (Nat.le_succ _) ti_7_18 (by decide) ?_
    refine a_w10 (Nat.le_succ _) ti_7_19 rfl rfl rfl (fun H1 => ?_)
    refine a_w0 (Nat.le_succ _) ti_7_22 rfl ?_
    refine a_w0 (Nat.le_succ _) ti_7_23 rfl ?_
    refine a_w10 (Nat.le_succ _) ti_7_24 rfl rfl rfl (fun H2 => ?_)
    refine a_w0 (Nat.le_succ _) ti_7_27 rfl ?_
    refine a_w0 (Nat.le_succ _) ti_7_28 rfl ?_
    refine a_w10 (Nat.le_succ _) ti_7_29 rfl rfl rfl (fun H3 => ?_)
    refine a_w0 (Nat.le_succ _) ti_7_32 rfl ?_
    refine a_w0 (Nat.le_succ _) ti_7_33 rfl ?_
    refine a_w10 (Nat.le_succ _) ti_7_34 rfl rfl rfl (fun H4 => ?_)
    refine a_w0 (Nat.le_succ _) ti_7_37 rfl ?_
    refine a_w0 (Nat.le_succ _) ti_7_38 rfl ?_
    refine a_w10 (Nat.le_succ _) ti_7_40 rfl rfl rfl (fun H5 => ?_)
    exact a_w4v (Nat.le_succ _) ti_7_43 rfl rfl
  · refine a_w8_1 (Nat.le_succ _) ti_7_4 ?_ ?_
    · exact a_wk (hj17 ()) (by omega) ⟨rfl, rfl, rfl, rfl, rfl, trivial⟩
    · refine a_w0 (Nat.le_succ _) ti_7_7 rfl ?_
      refine a_w0 (Nat.le_succ _) ti_7_8 rfl ?_
      refine a_w0 (Nat.le_succ _) ti_7_9 rfl ?_
      refine a_w3p (args := [(2, 122), (0, a1), (0, a2)]) (Nat.le_succ _) ti_7_10 (mt_8 a1 a2 H) rfl rfl rfl rfl ?_
      refine a_w8_1 (Nat.le_succ _) ti_7_13 ?_ ?_
      · exact a_wk (hj17 ()) (by omega) ⟨rfl, rfl, rfl, rfl, rfl, trivial⟩
      · exact a_w4v (Nat.le_succ _) ti_7_16 rfl rfl
/-- CarriedGate.findBestPlacing(I)V -/
noncomputable def fn_95 (a1 : Int) (H : a_P) : a_P :=
  a_bd (fn_10 7 1 H) fun H1 =>
  a_bd (fn_6 H1) fun H2 =>
  a_bd (H2 1 2) fun x1 =>
  (if (fn_12 1 x1 H2) = 0 then H2
  else a_lp (fun (s1 : Int × a_P) => s1.2) (fun (s1 : Int × a_P) n40 => (if s1.1 < 36 then a_bd (fn_15 (s1.2 1 0) s1.1) fun x2 =>
  a_jn (fun (s2 : a_P) => a_bd (a_w (s1.1 + 1)) fun x3 =>
  n40 (x3, s2)) fun j162 =>
  (if (a_w ((s1.2 5 x1) - 1)) < x2 then j162 s1.2
  else a_bd (a_up s1.2 7 0 s1.1) fun H3 =>
  a_bd (a_up H3 9 x1 s1.1) fun H4 =>
  a_lp (fun (s3 : Int × a_P) => s3.2) (fun (s3 : Int × a_P) n99 => (if s3.1 < 4 then a_bd (a_up s3.2 7 1 s3.1) fun H5 =>
  a_jn (fun (s4 : Int) => a_bd (fn_7 (a_xor (fn_23 7 H5) a1) (a_w (x2 + (fn_92 s4))) s1.1 s3.1 H5) fun H6 =>
  a_bd (a_w (s3.1 + 1)) fun x4 =>
  n99 (x4, H6)) fun j146 =>
  (if s3.1 = (H5 1 1) then j146 0
  else j146 1)
  else j162 s3.2)) a_fuel (0, H4))
  else s1.2)) a_fuel (0, H2))
theorem ti_95_0 : (q_I 95).2 0 = some (0, 4, 0, 0, 2, 1, []) := rfl
theorem ti_95_1 : (q_I 95).2 1 = some (1, 0, 16, 5, 1, 4, [232]) := rfl
theorem ti_95_4 : (q_I 95).2 4 = some (0, 4, 0, 0, 2, 5, []) := rfl
theorem ti_95_5 : (q_I 95).2 5 = some (1, 0, 10, 5, 0, 8, [231]) := rfl
theorem ti_95_8 : (q_I 95).2 8 = some (3, 0, 126, 10, 2, 11, [466, 2]) := rfl
theorem ti_95_11 : (q_I 95).2 11 = some (0, 4, 0, 0, 2, 12, []) := rfl
theorem ti_95_12 : (q_I 95).2 12 = some (1, 0, 52, 5, 8, 15, [239]) := rfl
theorem ti_95_15 : (q_I 95).2 15 = some (3, 0, 283, 6, 1, 18, [630, 1]) := rfl
theorem ti_95_18 : (q_I 95).2 18 = some (0, 4, 0, 0, 2, 19, []) := rfl
theorem ti_95_19 : (q_I 95).2 19 = some (1, 0, 10, 5, 0, 22, [231]) := rfl
theorem ti_95_22 : (q_I 95).2 22 = some (1, 0, 136, 2, 2, 25, [91]) := rfl
theorem ti_95_25 : (q_I 95).2 25 = some (11, 0, 0, 2, 0, 26, []) := rfl
theorem ti_95_26 : (q_I 95).2 26 = some (0, 4, 0, 0, 2, 27, []) := rfl
theorem ti_95_27 : (q_I 95).2 27 = some (1, 0, 10, 5, 0, 30, [231]) := rfl
theorem ti_95_30 : (q_I 95).2 30 = some (0, 0, 0, 2, 0, 31, []) := rfl
theorem ti_95_31 : (q_I 95).2 31 = some (3, 0, 79, 12, 2, 34, [284, 2]) := rfl
theorem ti_95_34 : (q_I 95).2 34 = some (8, 1, 0, 38, 0, 37, []) := rfl
theorem ti_95_37 : (q_I 95).2 37 = some (4, 4, 0, 0, 0, 38, []) := rfl
theorem ti_95_38 : (q_I 95).2 38 = some (2, 0, 0, 0, 0, 39, []) := rfl
theorem ti_95_39 : (q_I 95).2 39 = some (11, 0, 0, 3, 0, 40, []) := rfl
theorem ti_95_40 : (q_I 95).2 40 = some (0, 0, 0, 3, 0, 41, []) := rfl
theorem ti_95_41 : (q_I 95).2 41 = some (2, 1, 36, 0, 0, 43, []) := rfl
theorem ti_95_43 : (q_I 95).2 43 = some (9, 3, 0, 168, 0, 46, []) := rfl
theorem ti_95_46 : (q_I 95).2 46 = some (0, 4, 0, 0, 2, 47, []) := rfl
theorem ti_95_47 : (q_I 95).2 47 = some (1, 0, 10, 5, 0, 50, [231]) := rfl
theorem ti_95_50 : (q_I 95).2 50 = some (1, 0, 130, 2, 0, 53, [85]) := rfl
theorem ti_95_53 : (q_I 95).2 53 = some (0, 0, 0, 3, 0, 54, []) := rfl
theorem ti_95_54 : (q_I 95).2 54 = some (3, 1, 284, 15, 2, 57, [634, 2]) := rfl
theorem ti_95_57 : (q_I 95).2 57 = some (11, 1, 0, 4, 0, 59, []) := rfl
theorem ti_95_59 : (q_I 95).2 59 = some (0, 1, 0, 4, 0, 61, []) := rfl
theorem ti_95_61 : (q_I 95).2 61 = some (0, 4, 0, 0, 2, 62, []) := rfl
theorem ti_95_62 : (q_I 95).2 62 = some (1, 0, 10, 5, 0, 65, [231]) := rfl
theorem ti_95_65 : (q_I 95).2 65 = some (1, 0, 92, 2, 10, 68, [110]) := rfl
theorem ti_95_68 : (q_I 95).2 68 = some (0, 0, 0, 2, 0, 69, []) := rfl
theorem ti_95_69 : (q_I 95).2 69 = some (5, 10, 0, 0, 0, 70, []) := rfl
theorem ti_95_70 : (q_I 95).2 70 = some (2, 0, 1, 0, 0, 71, []) := rfl
theorem ti_95_71 : (q_I 95).2 71 = some (6, 1, 0, 0, 0, 72, []) := rfl
theorem ti_95_72 : (q_I 95).2 72 = some (9, 5, 0, 78, 0, 75, []) := rfl
theorem ti_95_75 : (q_I 95).2 75 = some (7, 0, 0, 162, 0, 78, []) := rfl
theorem ti_95_78 : (q_I 95).2 78 = some (0, 4, 0, 0, 2, 79, []) := rfl
theorem ti_95_79 : (q_I 95).2 79 = some (1, 0, 16, 5, 1, 82, [232]) := rfl
theorem ti_95_82 : (q_I 95).2 82 = some (0, 0, 0, 3, 0, 83, []) := rfl
theorem ti_95_83 : (q_I 95).2 83 = some (10, 0, 130, 2, 0, 86, [85]) := rfl
theorem ti_95_86 : (q_I 95).2 86 = some (0, 4, 0, 0, 2, 87, []) := rfl
theorem ti_95_87 : (q_I 95).2 87 = some (1, 0, 16, 5, 1, 90, [232]) := rfl
theorem ti_95_90 : (q_I 95).2 90 = some (1, 0, 86, 2, 8, 93, [106]) := rfl
theorem ti_95_93 : (q_I 95).2 93 = some (0, 0, 0, 2, 0, 94, []) := rfl
theorem ti_95_94 : (q_I 95).2 94 = some (0, 0, 0, 3, 0, 95, []) := rfl
theorem ti_95_95 : (q_I 95).2 95 = some (12, 10, 0, 0, 0, 96, []) := rfl
theorem ti_95_96 : (q_I 95).2 96 = some (2, 0, 0, 0, 0, 97, []) := rfl
theorem ti_95_97 : (q_I 95).2 97 = some (11, 1, 0, 5, 0, 99, []) := rfl
theorem ti_95_99 : (q_I 95).2 99 = some (0, 1, 0, 5, 0, 101, []) := rfl
theorem ti_95_101 : (q_I 95).2 101 = some (2, 0, 4, 0, 0, 102, []) := rfl
theorem ti_95_102 : (q_I 95).2 102 = some (9, 3, 0, 162, 0, 105, []) := rfl
theorem ti_95_105 : (q_I 95).2 105 = some (0, 4, 0, 0, 2, 106, []) := rfl
theorem ti_95_106 : (q_I 95).2 106 = some (1, 0, 16, 5, 1, 109, [232]) := rfl
theorem ti_95_109 : (q_I 95).2 109 = some (0, 1, 0, 5, 0, 111, []) := rfl
theorem ti_95_111 : (q_I 95).2 111 = some (10, 0, 133, 2, 1, 114, [88]) := rfl
theorem ti_95_114 : (q_I 95).2 114 = some (0, 4, 0, 0, 2, 115, []) := rfl
theorem ti_95_115 : (q_I 95).2 115 = some (1, 0, 52, 5, 8, 118, [239]) := rfl
theorem ti_95_118 : (q_I 95).2 118 = some (0, 4, 0, 0, 2, 119, []) := rfl
theorem ti_95_119 : (q_I 95).2 119 = some (1, 0, 16, 5, 1, 122, [232]) := rfl
theorem ti_95_122 : (q_I 95).2 122 = some (3, 0, 145, 23, 1, 125, [478, 2]) := rfl
theorem ti_95_125 : (q_I 95).2 125 = some (0, 0, 0, 1, 0, 126, []) := rfl
theorem ti_95_126 : (q_I 95).2 126 = some (6, 7, 0, 0, 0, 127, []) := rfl
theorem ti_95_127 : (q_I 95).2 127 = some (0, 1, 0, 4, 0, 129, []) := rfl
theorem ti_95_129 : (q_I 95).2 129 = some (0, 1, 0, 5, 0, 131, []) := rfl
theorem ti_95_131 : (q_I 95).2 131 = some (0, 4, 0, 0, 2, 132, []) := rfl
theorem ti_95_132 : (q_I 95).2 132 = some (1, 0, 10, 5, 0, 135, [231]) := rfl
theorem ti_95_135 : (q_I 95).2 135 = some (1, 0, 133, 2, 1, 138, [88]) := rfl
theorem ti_95_138 : (q_I 95).2 138 = some (9, 0, 0, 145, 0, 141, []) := rfl
theorem ti_95_141 : (q_I 95).2 141 = some (2, 0, 1, 0, 0, 142, []) := rfl
theorem ti_95_142 : (q_I 95).2 142 = some (7, 0, 0, 146, 0, 145, []) := rfl
theorem ti_95_145 : (q_I 95).2 145 = some (2, 0, 0, 0, 0, 146, []) := rfl
theorem ti_95_146 : (q_I 95).2 146 = some (3, 1, 101, 92, 1, 149, [309, 5]) := rfl
theorem ti_95_149 : (q_I 95).2 149 = some (6, 0, 0, 0, 0, 150, []) := rfl
theorem ti_95_150 : (q_I 95).2 150 = some (0, 0, 0, 3, 0, 151, []) := rfl
theorem ti_95_151 : (q_I 95).2 151 = some (0, 1, 0, 5, 0, 153, []) := rfl
theorem ti_95_153 : (q_I 95).2 153 = some (3, 0, 287, 7, 5, 156, [635, 1]) := rfl
theorem ti_95_156 : (q_I 95).2 156 = some (13, 0, 1, 5, 0, 159, []) := rfl
theorem ti_95_159 : (q_I 95).2 159 = some (7, 0, 0, 99, 0, 162, []) := rfl
theorem ti_95_162 : (q_I 95).2 162 = some (13, 0, 1, 3, 0, 165, []) := rfl
theorem ti_95_165 : (q_I 95).2 165 = some (7, 0, 0, 40, 0, 168, []) := rfl
theorem ti_95_168 : (q_I 95).2 168 = some (4, 4, 0, 0, 0, 169, []) := rfl
theorem mt_95 (a1 : Int) (H : a_P) : a_mt a_pv 9 95 [(2, 0), (0, a1)] H (fn_95 a1 H) := by
  refine a_mtI (lo := [some (2, 0), some (0, a1), none, none, none, none]) rfl fun d => ?_
  unfold fn_95
  refine a_w0 (Nat.le_succ _) ti_95_0 rfl ?_
  refine a_w1 (a := (2, 7)) (Nat.le_succ _) ti_95_1 rfl ?_
  refine a_w0 (Nat.le_succ _) ti_95_4 rfl ?_
  refine a_w1 (a := (2, 1)) (Nat.le_succ _) ti_95_5 rfl ?_
  refine a_w3v (args := [(2, 7), (2, 1)]) (Nat.le_succ _) ti_95_8 (mt_10 7 1 H) rfl rfl (fun H1 => ?_)
  refine a_w0 (Nat.le_succ _) ti_95_11 rfl ?_
  refine a_w1 (a := (2, 122)) (Nat.le_succ _) ti_95_12 rfl ?_
  refine a_w3v (args := [(2, 122)]) (Nat.le_succ _) ti_95_15 (mt_6 H1) rfl rfl (fun H2 => ?_)
  refine a_w0 (Nat.le_succ _) ti_95_18 rfl ?_
  refine a_w1 (a := (2, 1)) (Nat.le_succ _) ti_95_19 rfl ?_
  refine a_w1 (a := (0, H2 1 2)) (Nat.le_succ _) ti_95_22 rfl ?_
  refine a_w11b (lof := fun x1 => [some (2, 0), some (0, a1), some (0, x1), none, none, none]) (Nat.le_succ _) ti_95_25 (fun _ => rfl) (fun x1 => ?_)
  refine a_w0 (Nat.le_succ _) ti_95_26 rfl ?_
  refine a_w1 (a := (2, 1)) (Nat.le_succ _) ti_95_27 rfl ?_
  refine a_w0 (Nat.le_succ _) ti_95_30 rfl ?_
  refine a_w3p (args := [(2, 1), (0, x1)]) (Nat.le_succ _) ti_95_31 (mt_12 1 x1 H2) rfl rfl rfl rfl ?_
  refine a_w8_1 (Nat.le_succ _) ti_95_34 ?_ ?_
  · refine a_w2 (z := 0) (Nat.le_succ _) ti_95_38 (by decide) ?_
    refine a_w11 (lo' := [some (2, 0), some (0, a1), some (0, x1), some (0, 0), none, none]) (Nat.le_succ _) ti_95_39 rfl ?_
    refine a_wk (a_wlp (fun (s : Int × a_P) => [some (2, 0), some (0, a1), some (0, x1), some (0, s.1), none, none]) (fun (s : Int × a_P) => s.2) (fun N1 hN1 n40 hn40 s1 => ?_) a_fuel (a_fuel_le (by omega)) (0, H2)) (Nat.le_refl _) ⟨rfl, rfl, rfl, rfl, trivial⟩
    · refine a_w0 (Nat.le_refl _) ti_95_40 rfl ?_
      refine a_w2 (z := 36) (Nat.le_succ _) ti_95_41 (by decide) ?_
      refine a_w9_3 (Nat.le_succ _) ti_95_43 ?_ ?_
      · exact a_w4v (Nat.le_succ _) ti_95_168 rfl rfl
      · refine a_w0 (Nat.le_succ _) ti_95_46 rfl ?_
        refine a_w1 (a := (2, 1)) (Nat.le_succ _) ti_95_47 rfl ?_
        refine a_w1 (a := (0, s1.2 1 0)) (Nat.le_succ _) ti_95_50 rfl ?_
        refine a_w0 (Nat.le_succ _) ti_95_53 rfl ?_
        refine a_w3p (args := [(0, s1.2 1 0), (0, s1.1)]) (Nat.le_succ _) ti_95_54 (mt_15 (s1.2 1 0) s1.1 s1.2) rfl rfl rfl rfl ?_
        refine a_w11b (lof := fun x2 => [some (2, 0), some (0, a1), some (0, x1), some (0, s1.1), some (0, x2), none]) (Nat.le_succ _) ti_95_57 (fun _ => rfl) (fun x2 => ?_)
        refine a_w0 (Nat.le_succ _) ti_95_59 rfl ?_
        refine a_w0 (Nat.le_succ _) ti_95_61 rfl ?_
        refine a_w1 (a := (2, 1)) (Nat.le_succ _) ti_95_62 rfl ?_
        refine a_w1 (a := (2, 5)) (Nat.le_succ _) ti_95_65 rfl ?_
        refine a_w0 (Nat.le_succ _) ti_95_68 rfl ?_
        refine a_w5 (kk := 0) (Nat.le_succ _) ti_95_69 (fun _ => rfl) ?_
        refine a_w2 (z := 1) (Nat.le_succ _) ti_95_70 (by decide) ?_
        refine a_w6 (a := (0, a_w ((s1.2 5 x1) - 1))) (Nat.le_succ _) ti_95_71 rfl ?_
        refine a_wjn 162 (fun (s : a_P) => [some (2, 0), some (0, a1), some (0, x1), some (0, s1.1), none, none]) (fun (s : a_P) => []) (fun (s : a_P) => s) (fun s2 => ?_) (fun j162 hj162 => ?_)
        · refine a_w13 (c' := 1) (lof := fun x3 => [some (2, 0), some (0, a1), some (0, x1), some (0, x3), none, none]) (Nat.le_succ _) ti_95_162 rfl (by decide) rfl (fun _ => rfl) (fun x3 => ?_)
          refine a_w7 (Nat.le_succ _) ti_95_165 ?_
          exact a_wk (hn40 (x3, s2)) (by omega) ⟨rfl, rfl, rfl, rfl, trivial⟩
        · refine a_w9_5 (Nat.le_succ _) ti_95_72 ?_ ?_
          · refine a_w0 (Nat.le_succ _) ti_95_78 rfl ?_
            refine a_w1 (a := (2, 7)) (Nat.le_succ _) ti_95_79 rfl ?_
            refine a_w0 (Nat.le_succ _) ti_95_82 rfl ?_
            refine a_w10 (Nat.le_succ _) ti_95_83 rfl rfl rfl (fun H3 => ?_)
            refine a_w0 (Nat.le_succ _) ti_95_86 rfl ?_
            refine a_w1 (a := (2, 7)) (Nat.le_succ _) ti_95_87 rfl ?_
            refine a_w1 (a := (2, 9)) (Nat.le_succ _) ti_95_90 rfl ?_
            refine a_w0 (Nat.le_succ _) ti_95_93 rfl ?_
            refine a_w0 (Nat.le_succ _) ti_95_94 rfl ?_
            refine a_w12 (Nat.le_succ _) ti_95_95 (Or.inl ⟨rfl, rfl⟩) (fun H4 => ?_)
            refine a_w2 (z := 0) (Nat.le_succ _) ti_95_96 (by decide) ?_
            refine a_w11 (lo' := [some (2, 0), some (0, a1), some (0, x1), some (0, s1.1), some (0, x2), some (0, 0)]) (Nat.le_succ _) ti_95_97 rfl ?_
            refine a_wk (a_wlp (fun (s : Int × a_P) => [some (2, 0), some (0, a1), some (0, x1), some (0, s1.1), some (0, x2), some (0, s.1)]) (fun (s : Int × a_P) => s.2) (fun N2 hN2 n99 hn99 s3 => ?_) a_fuel (a_fuel_le (by omega)) (0, H4)) (Nat.le_refl _) ⟨rfl, rfl, rfl, rfl, rfl, rfl, trivial⟩
            · refine a_w0 (Nat.le_refl _) ti_95_99 rfl ?_
              refine a_w2 (z := 4) (Nat.le_succ _) ti_95_101 (by decide) ?_
              refine a_w9_3 (Nat.le_succ _) ti_95_102 ?_ ?_
              · exact a_wk (hj162 s3.2) (by omega) ⟨rfl, rfl, rfl, rfl, trivial⟩
              · refine a_w0 (Nat.le_succ _) ti_95_105 rfl ?_
                refine a_w1 (a := (2, 7)) (Nat.le_succ _) ti_95_106 rfl ?_
                refine a_w0 (Nat.le_succ _) ti_95_109 rfl ?_
                refine a_w10 (Nat.le_succ _) ti_95_111 rfl rfl rfl (fun H5 => ?_)
                refine a_w0 (Nat.le_succ _) ti_95_114 rfl ?_
                refine a_w1 (a := (2, 122)) (Nat.le_succ _) ti_95_115 rfl ?_
                refine a_w0 (Nat.le_succ _) ti_95_118 rfl ?_
                refine a_w1 (a := (2, 7)) (Nat.le_succ _) ti_95_119 rfl ?_
                refine a_w3p (args := [(2, 7)]) (Nat.le_succ _) ti_95_122 (mt_23 7 H5) rfl rfl rfl rfl ?_
                refine a_w0 (Nat.le_succ _) ti_95_125 rfl ?_
                refine a_w6 (a := (0, a_xor (fn_23 7 H5) a1)) (Nat.le_succ _) ti_95_126 rfl ?_
                refine a_w0 (Nat.le_succ _) ti_95_127 rfl ?_
                refine a_w0 (Nat.le_succ _) ti_95_129 rfl ?_
                refine a_w0 (Nat.le_succ _) ti_95_131 rfl ?_
                refine a_w1 (a := (2, 1)) (Nat.le_succ _) ti_95_132 rfl ?_
                refine a_w1 (a := (0, H5 1 1)) (Nat.le_succ _) ti_95_135 rfl ?_
                refine a_wjn 146 (fun (s : Int) => [some (2, 0), some (0, a1), some (0, x1), some (0, s1.1), some (0, x2), some (0, s3.1)]) (fun (s : Int) => [(0, s), (0, x2), (0, a_xor (fn_23 7 H5) a1), (2, 122)]) (fun (s : Int) => H5) (fun s4 => ?_) (fun j146 hj146 => ?_)
                · refine a_w3p (args := [(0, s4)]) (Nat.le_succ _) ti_95_146 (mt_92 s4 H5) rfl rfl rfl rfl ?_
                  refine a_w6 (a := (0, a_w (x2 + (fn_92 s4)))) (Nat.le_succ _) ti_95_149 rfl ?_
                  refine a_w0 (Nat.le_succ _) ti_95_150 rfl ?_
                  refine a_w0 (Nat.le_succ _) ti_95_151 rfl ?_
                  refine a_w3v (args := [(2, 122), (0, a_xor (fn_23 7 H5) a1), (0, a_w (x2 + (fn_92 s4))), (0, s1.1), (0, s3.1)]) (Nat.le_succ _) ti_95_153 (mt_7 (a_xor (fn_23 7 H5) a1) (a_w (x2 + (fn_92 s4))) s1.1 s3.1 H5) rfl rfl (fun H6 => ?_)
                  refine a_w13 (c' := 1) (lof := fun x4 => [some (2, 0), some (0, a1), some (0, x1), some (0, s1.1), some (0, x2), some (0, x4)]) (Nat.le_succ _) ti_95_156 rfl (by decide) rfl (fun _ => rfl) (fun x4 => ?_)
                  refine a_w7 (Nat.le_succ _) ti_95_159 ?_
                  exact a_wk (hn99 (x4, H6)) (by omega) ⟨rfl, rfl, rfl, rfl, rfl, rfl, trivial⟩
                · refine a_w9_0 (Nat.le_succ _) ti_95_138 ?_ ?_
                  · refine a_w2 (z := 0) (Nat.le_succ _) ti_95_145 (by decide) ?_
                    exact a_wk (hj146 0) (by omega) ⟨rfl, rfl, rfl, rfl, rfl, rfl, trivial⟩
                  · refine a_w2 (z := 1) (Nat.le_succ _) ti_95_141 (by decide) ?_
                    refine a_w7 (Nat.le_succ _) ti_95_142 ?_
                    exact a_wk (hj146 1) (by omega) ⟨rfl, rfl, rfl, rfl, rfl, rfl, trivial⟩
          · refine a_w7 (Nat.le_succ _) ti_95_75 ?_
            exact a_wk (hj162 s1.2) (by omega) ⟨rfl, rfl, rfl, rfl, trivial⟩
  · exact a_w4v (Nat.le_succ _) ti_95_37 rfl rfl
/-- CarriedGate.room(II)I -/
noncomputable def fn_76 (a1 : Int) (a2 : Int) (H : a_P) : a_F :=
  a_jn (fun (s1 : Unit) => ((-1), H)) fun j19 =>
  (if (fn_13 1 a1 H) = 0 then j19 ()
  else (if (fn_91 a2 3) = 0 then j19 ()
  else (if (fn_14 1 H) = 0 then ((-4), H)
  else a_bd (fn_95 a1 H) fun H1 =>
  (if (H1 122 0) = 0 then (if a2 = 0 then (H1 122 1, H1)
  else a_jn (fun (s2 : Int) => (s2, H1)) fun j86 =>
  (if a2 = 1 then j86 (H1 122 2)
  else j86 (H1 122 3)))
  else ((-4), H1)))))
theorem ti_76_0 : (q_I 76).2 0 = some (0, 4, 0, 0, 2, 1, []) := rfl
theorem ti_76_1 : (q_I 76).2 1 = some (1, 0, 10, 5, 0, 4, [231]) := rfl
theorem ti_76_4 : (q_I 76).2 4 = some (0, 0, 0, 1, 0, 5, []) := rfl
theorem ti_76_5 : (q_I 76).2 5 = some (3, 0, 189, 13, 2, 8, [622, 2]) := rfl
theorem ti_76_8 : (q_I 76).2 8 = some (8, 0, 0, 19, 0, 11, []) := rfl
theorem ti_76_11 : (q_I 76).2 11 = some (0, 0, 0, 2, 0, 12, []) := rfl
theorem ti_76_12 : (q_I 76).2 12 = some (2, 0, 3, 0, 0, 13, []) := rfl
theorem ti_76_13 : (q_I 76).2 13 = some (3, 1, 64, 91, 2, 16, [269, 5]) := rfl
theorem ti_76_16 : (q_I 76).2 16 = some (8, 1, 0, 21, 0, 19, []) := rfl
theorem ti_76_21 : (q_I 76).2 21 = some (0, 4, 0, 0, 2, 22, []) := rfl
theorem ti_76_22 : (q_I 76).2 22 = some (1, 0, 10, 5, 0, 25, [231]) := rfl
theorem ti_76_25 : (q_I 76).2 25 = some (3, 0, 171, 14, 1, 28, [553, 2]) := rfl
theorem ti_76_28 : (q_I 76).2 28 = some (8, 1, 0, 34, 0, 31, []) := rfl
theorem ti_76_31 : (q_I 76).2 31 = some (2, 1, (-4), 0, 0, 33, []) := rfl
theorem ti_76_33 : (q_I 76).2 33 = some (4, 0, 0, 0, 0, 34, []) := rfl
theorem ti_76_34 : (q_I 76).2 34 = some (0, 4, 0, 0, 2, 35, []) := rfl
theorem ti_76_35 : (q_I 76).2 35 = some (0, 0, 0, 1, 0, 36, []) := rfl
theorem ti_76_36 : (q_I 76).2 36 = some (3, 0, 192, 95, 2, 39, [626, 5]) := rfl
theorem ti_76_39 : (q_I 76).2 39 = some (0, 4, 0, 0, 2, 40, []) := rfl
theorem ti_76_40 : (q_I 76).2 40 = some (1, 0, 52, 5, 8, 43, [239]) := rfl
theorem ti_76_43 : (q_I 76).2 43 = some (1, 0, 195, 1, 0, 46, [189]) := rfl
theorem ti_76_46 : (q_I 76).2 46 = some (8, 0, 0, 52, 0, 49, []) := rfl
theorem ti_76_49 : (q_I 76).2 49 = some (2, 1, (-4), 0, 0, 51, []) := rfl
theorem ti_76_51 : (q_I 76).2 51 = some (4, 0, 0, 0, 0, 52, []) := rfl
theorem ti_76_52 : (q_I 76).2 52 = some (0, 0, 0, 2, 0, 53, []) := rfl
theorem ti_76_53 : (q_I 76).2 53 = some (8, 1, 0, 64, 0, 56, []) := rfl
theorem ti_76_56 : (q_I 76).2 56 = some (0, 4, 0, 0, 2, 57, []) := rfl
theorem ti_76_57 : (q_I 76).2 57 = some (1, 0, 52, 5, 8, 60, [239]) := rfl
theorem ti_76_60 : (q_I 76).2 60 = some (1, 0, 198, 1, 1, 63, [191]) := rfl
theorem ti_76_63 : (q_I 76).2 63 = some (4, 0, 0, 0, 0, 64, []) := rfl
theorem ti_76_64 : (q_I 76).2 64 = some (0, 0, 0, 2, 0, 65, []) := rfl
theorem ti_76_65 : (q_I 76).2 65 = some (2, 0, 1, 0, 0, 66, []) := rfl
theorem ti_76_66 : (q_I 76).2 66 = some (9, 1, 0, 79, 0, 69, []) := rfl
theorem ti_76_69 : (q_I 76).2 69 = some (0, 4, 0, 0, 2, 70, []) := rfl
theorem ti_76_70 : (q_I 76).2 70 = some (1, 0, 52, 5, 8, 73, [239]) := rfl
theorem ti_76_73 : (q_I 76).2 73 = some (1, 0, 201, 1, 2, 76, [193]) := rfl
theorem ti_76_76 : (q_I 76).2 76 = some (7, 0, 0, 86, 0, 79, []) := rfl
theorem ti_76_79 : (q_I 76).2 79 = some (0, 4, 0, 0, 2, 80, []) := rfl
theorem ti_76_80 : (q_I 76).2 80 = some (1, 0, 52, 5, 8, 83, [239]) := rfl
theorem ti_76_83 : (q_I 76).2 83 = some (1, 0, 204, 1, 3, 86, [195]) := rfl
theorem ti_76_86 : (q_I 76).2 86 = some (4, 0, 0, 0, 0, 87, []) := rfl
theorem ti_76_19 : (q_I 76).2 19 = some (2, 0, (-1), 0, 0, 20, []) := rfl
theorem ti_76_20 : (q_I 76).2 20 = some (4, 0, 0, 0, 0, 21, []) := rfl
theorem mt_76 (a1 : Int) (a2 : Int) (H : a_P) : a_mt id 0 76 [(2, 0), (0, a1), (0, a2)] H (fn_76 a1 a2 H) := by
  refine a_mtI (lo := [some (2, 0), some (0, a1), some (0, a2)]) rfl fun d => ?_
  unfold fn_76
  refine a_w0 (Nat.le_succ _) ti_76_0 rfl ?_
  refine a_w1 (a := (2, 1)) (Nat.le_succ _) ti_76_1 rfl ?_
  refine a_w0 (Nat.le_succ _) ti_76_4 rfl ?_
  refine a_w3p (args := [(2, 1), (0, a1)]) (Nat.le_succ _) ti_76_5 (mt_13 1 a1 H) rfl rfl rfl rfl ?_
  refine a_wjn 19 (fun (s : Unit) => [none, none, none]) (fun (s : Unit) => []) (fun (s : Unit) => H) (fun s1 => ?_) (fun j19 hj19 => ?_)
  · refine a_w2 (z := (-1)) (Nat.le_succ _) ti_76_19 (by decide) ?_
    exact a_w4 (Nat.le_succ _) ti_76_20 rfl rfl rfl
  · refine a_w8_0 (Nat.le_succ _) ti_76_8 ?_ ?_
    · exact a_wk (hj19 ()) (by omega) trivial
    · refine a_w0 (Nat.le_succ _) ti_76_11 rfl ?_
      refine a_w2 (z := 3) (Nat.le_succ _) ti_76_12 (by decide) ?_
      refine a_w3p (args := [(0, a2), (0, 3)]) (Nat.le_succ _) ti_76_13 (mt_91 a2 3 H) rfl rfl rfl rfl ?_
      refine a_w8_1 (Nat.le_succ _) ti_76_16 ?_ ?_
      · refine a_w0 (Nat.le_succ _) ti_76_21 rfl ?_
        refine a_w1 (a := (2, 1)) (Nat.le_succ _) ti_76_22 rfl ?_
        refine a_w3p (args := [(2, 1)]) (Nat.le_succ _) ti_76_25 (mt_14 1 H) rfl rfl rfl rfl ?_
        refine a_w8_1 (Nat.le_succ _) ti_76_28 ?_ ?_
        · refine a_w0 (Nat.le_succ _) ti_76_34 rfl ?_
          refine a_w0 (Nat.le_succ _) ti_76_35 rfl ?_
          refine a_w3v (args := [(2, 0), (0, a1)]) (Nat.le_succ _) ti_76_36 (mt_95 a1 H) rfl rfl (fun H1 => ?_)
          refine a_w0 (Nat.le_succ _) ti_76_39 rfl ?_
          refine a_w1 (a := (2, 122)) (Nat.le_succ _) ti_76_40 rfl ?_
          refine a_w1 (a := (0, H1 122 0)) (Nat.le_succ _) ti_76_43 rfl ?_
          refine a_w8_0 (Nat.le_succ _) ti_76_46 ?_ ?_
          · refine a_w0 (Nat.le_succ _) ti_76_52 rfl ?_
            refine a_w8_1 (Nat.le_succ _) ti_76_53 ?_ ?_
            · refine a_w0 (Nat.le_succ _) ti_76_64 rfl ?_
              refine a_w2 (z := 1) (Nat.le_succ _) ti_76_65 (by decide) ?_
              refine a_wjn 86 (fun (s : Int) => [none, none, none]) (fun (s : Int) => [(0, s)]) (fun (s : Int) => H1) (fun s2 => ?_) (fun j86 hj86 => ?_)
              · exact a_w4 (Nat.le_succ _) ti_76_86 rfl rfl rfl
              · refine a_w9_1 (Nat.le_succ _) ti_76_66 ?_ ?_
                · refine a_w0 (Nat.le_succ _) ti_76_79 rfl ?_
                  refine a_w1 (a := (2, 122)) (Nat.le_succ _) ti_76_80 rfl ?_
                  refine a_w1 (a := (0, H1 122 3)) (Nat.le_succ _) ti_76_83 rfl ?_
                  exact a_wk (hj86 (H1 122 3)) (by omega) trivial
                · refine a_w0 (Nat.le_succ _) ti_76_69 rfl ?_
                  refine a_w1 (a := (2, 122)) (Nat.le_succ _) ti_76_70 rfl ?_
                  refine a_w1 (a := (0, H1 122 2)) (Nat.le_succ _) ti_76_73 rfl ?_
                  refine a_w7 (Nat.le_succ _) ti_76_76 ?_
                  exact a_wk (hj86 (H1 122 2)) (by omega) trivial
            · refine a_w0 (Nat.le_succ _) ti_76_56 rfl ?_
              refine a_w1 (a := (2, 122)) (Nat.le_succ _) ti_76_57 rfl ?_
              refine a_w1 (a := (0, H1 122 1)) (Nat.le_succ _) ti_76_60 rfl ?_
              exact a_w4 (Nat.le_succ _) ti_76_63 rfl rfl rfl
          · refine a_w2 (z := (-4)) (Nat.le_succ _) ti_76_49 (by decide) ?_
            exact a_w4 (Nat.le_succ _) ti_76_51 rfl rfl rfl
        · refine a_w2 (z := (-4)) (Nat.le_succ _) ti_76_31 (by decide) ?_
          exact a_w4 (Nat.le_succ _) ti_76_33 rfl rfl rfl
      · exact a_wk (hj19 ()) (by omega) trivial
/-- CarriedGate.nearest(II)I -/
noncomputable def fn_77 (a1 : Int) (a2 : Int) (H : a_P) : a_F :=
  a_jn (fun (s1 : Unit) => ((-1), H)) fun j19 =>
  (if (fn_13 1 a1 H) = 0 then j19 ()
  else (if (fn_91 a2 3) = 0 then j19 ()
  else (if (fn_14 1 H) = 0 then ((-4), H)
  else a_bd (fn_95 a1 H) fun H1 =>
  (if a2 = 0 then (fn_185 (H1 122 0), H1)
  else a_jn (fun (s2 : Int) => (s2, H1)) fun j76 =>
  (if a2 = 1 then j76 (H1 122 0)
  else j76 (H1 122 1))))))
theorem ti_77_0 : (q_I 77).2 0 = some (0, 4, 0, 0, 2, 1, []) := rfl
theorem ti_77_1 : (q_I 77).2 1 = some (1, 0, 10, 5, 0, 4, [231]) := rfl
theorem ti_77_4 : (q_I 77).2 4 = some (0, 0, 0, 1, 0, 5, []) := rfl
theorem ti_77_5 : (q_I 77).2 5 = some (3, 0, 189, 13, 2, 8, [622, 2]) := rfl
theorem ti_77_8 : (q_I 77).2 8 = some (8, 0, 0, 19, 0, 11, []) := rfl
theorem ti_77_11 : (q_I 77).2 11 = some (0, 0, 0, 2, 0, 12, []) := rfl
theorem ti_77_12 : (q_I 77).2 12 = some (2, 0, 3, 0, 0, 13, []) := rfl
theorem ti_77_13 : (q_I 77).2 13 = some (3, 1, 64, 91, 2, 16, [269, 5]) := rfl
theorem ti_77_16 : (q_I 77).2 16 = some (8, 1, 0, 21, 0, 19, []) := rfl
theorem ti_77_21 : (q_I 77).2 21 = some (0, 4, 0, 0, 2, 22, []) := rfl
theorem ti_77_22 : (q_I 77).2 22 = some (1, 0, 10, 5, 0, 25, [231]) := rfl
theorem ti_77_25 : (q_I 77).2 25 = some (3, 0, 171, 14, 1, 28, [553, 2]) := rfl
theorem ti_77_28 : (q_I 77).2 28 = some (8, 1, 0, 34, 0, 31, []) := rfl
theorem ti_77_31 : (q_I 77).2 31 = some (2, 1, (-4), 0, 0, 33, []) := rfl
theorem ti_77_33 : (q_I 77).2 33 = some (4, 0, 0, 0, 0, 34, []) := rfl
theorem ti_77_34 : (q_I 77).2 34 = some (0, 4, 0, 0, 2, 35, []) := rfl
theorem ti_77_35 : (q_I 77).2 35 = some (0, 0, 0, 1, 0, 36, []) := rfl
theorem ti_77_36 : (q_I 77).2 36 = some (3, 0, 192, 95, 2, 39, [626, 5]) := rfl
theorem ti_77_39 : (q_I 77).2 39 = some (0, 0, 0, 2, 0, 40, []) := rfl
theorem ti_77_40 : (q_I 77).2 40 = some (8, 1, 0, 54, 0, 43, []) := rfl
theorem ti_77_43 : (q_I 77).2 43 = some (0, 4, 0, 0, 2, 44, []) := rfl
theorem ti_77_44 : (q_I 77).2 44 = some (1, 0, 52, 5, 8, 47, [239]) := rfl
theorem ti_77_47 : (q_I 77).2 47 = some (1, 0, 195, 1, 0, 50, [189]) := rfl
theorem ti_77_50 : (q_I 77).2 50 = some (3, 1, 205, 185, 1, 53, [653, 99]) := rfl
theorem ti_77_53 : (q_I 77).2 53 = some (4, 0, 0, 0, 0, 54, []) := rfl
theorem ti_77_54 : (q_I 77).2 54 = some (0, 0, 0, 2, 0, 55, []) := rfl
theorem ti_77_55 : (q_I 77).2 55 = some (2, 0, 1, 0, 0, 56, []) := rfl
theorem ti_77_56 : (q_I 77).2 56 = some (9, 1, 0, 69, 0, 59, []) := rfl
theorem ti_77_59 : (q_I 77).2 59 = some (0, 4, 0, 0, 2, 60, []) := rfl
theorem ti_77_60 : (q_I 77).2 60 = some (1, 0, 52, 5, 8, 63, [239]) := rfl
theorem ti_77_63 : (q_I 77).2 63 = some (1, 0, 195, 1, 0, 66, [189]) := rfl
theorem ti_77_66 : (q_I 77).2 66 = some (7, 0, 0, 76, 0, 69, []) := rfl
theorem ti_77_69 : (q_I 77).2 69 = some (0, 4, 0, 0, 2, 70, []) := rfl
theorem ti_77_70 : (q_I 77).2 70 = some (1, 0, 52, 5, 8, 73, [239]) := rfl
theorem ti_77_73 : (q_I 77).2 73 = some (1, 0, 198, 1, 1, 76, [191]) := rfl
theorem ti_77_76 : (q_I 77).2 76 = some (4, 0, 0, 0, 0, 77, []) := rfl
theorem ti_77_19 : (q_I 77).2 19 = some (2, 0, (-1), 0, 0, 20, []) := rfl
theorem ti_77_20 : (q_I 77).2 20 = some (4, 0, 0, 0, 0, 21, []) := rfl
theorem mt_77 (a1 : Int) (a2 : Int) (H : a_P) : a_mt id 0 77 [(2, 0), (0, a1), (0, a2)] H (fn_77 a1 a2 H) := by
  refine a_mtI (lo := [some (2, 0), some (0, a1), some (0, a2)]) rfl fun d => ?_
  unfold fn_77
  refine a_w0 (Nat.le_succ _) ti_77_0 rfl ?_
  refine a_w1 (a := (2, 1)) (Nat.le_succ _) ti_77_1 rfl ?_
  refine a_w0 (Nat.le_succ _) ti_77_4 rfl ?_
  refine a_w3p (args := [(2, 1), (0, a1)]) (Nat.le_succ _) ti_77_5 (mt_13 1 a1 H) rfl rfl rfl rfl ?_
  refine a_wjn 19 (fun (s : Unit) => [none, none, none]) (fun (s : Unit) => []) (fun (s : Unit) => H) (fun s1 => ?_) (fun j19 hj19 => ?_)
  · refine a_w2 (z := (-1)) (Nat.le_succ _) ti_77_19 (by decide) ?_
    exact a_w4 (Nat.le_succ _) ti_77_20 rfl rfl rfl
  · refine a_w8_0 (Nat.le_succ _) ti_77_8 ?_ ?_
    · exact a_wk (hj19 ()) (by omega) trivial
    · refine a_w0 (Nat.le_succ _) ti_77_11 rfl ?_
      refine a_w2 (z := 3) (Nat.le_succ _) ti_77_12 (by decide) ?_
      refine a_w3p (args := [(0, a2), (0, 3)]) (Nat.le_succ _) ti_77_13 (mt_91 a2 3 H) rfl rfl rfl rfl ?_
      refine a_w8_1 (Nat.le_succ _) ti_77_16 ?_ ?_
      · refine a_w0 (Nat.le_succ _) ti_77_21 rfl ?_
        refine a_w1 (a := (2, 1)) (Nat.le_succ _) ti_77_22 rfl ?_
        refine a_w3p (args := [(2, 1)]) (Nat.le_succ _) ti_77_25 (mt_14 1 H) rfl rfl rfl rfl ?_
        refine a_w8_1 (Nat.le_succ _) ti_77_28 ?_ ?_
        · refine a_w0 (Nat.le_succ _) ti_77_34 rfl ?_
          refine a_w0 (Nat.le_succ _) ti_77_35 rfl ?_
          refine a_w3v (args := [(2, 0), (0, a1)]) (Nat.le_succ _) ti_77_36 (mt_95 a1 H) rfl rfl (fun H1 => ?_)
          refine a_w0 (Nat.le_succ _) ti_77_39 rfl ?_
          refine a_w8_1 (Nat.le_succ _) ti_77_40 ?_ ?_
          · refine a_w0 (Nat.le_succ _) ti_77_54 rfl ?_
            refine a_w2 (z := 1) (Nat.le_succ _) ti_77_55 (by decide) ?_
            refine a_wjn 76 (fun (s : Int) => [none, none, none]) (fun (s : Int) => [(0, s)]) (fun (s : Int) => H1) (fun s2 => ?_) (fun j76 hj76 => ?_)
            · exact a_w4 (Nat.le_succ _) ti_77_76 rfl rfl rfl
            · refine a_w9_1 (Nat.le_succ _) ti_77_56 ?_ ?_
              · refine a_w0 (Nat.le_succ _) ti_77_69 rfl ?_
                refine a_w1 (a := (2, 122)) (Nat.le_succ _) ti_77_70 rfl ?_
                refine a_w1 (a := (0, H1 122 1)) (Nat.le_succ _) ti_77_73 rfl ?_
                exact a_wk (hj76 (H1 122 1)) (by omega) trivial
              · refine a_w0 (Nat.le_succ _) ti_77_59 rfl ?_
                refine a_w1 (a := (2, 122)) (Nat.le_succ _) ti_77_60 rfl ?_
                refine a_w1 (a := (0, H1 122 0)) (Nat.le_succ _) ti_77_63 rfl ?_
                refine a_w7 (Nat.le_succ _) ti_77_66 ?_
                exact a_wk (hj76 (H1 122 0)) (by omega) trivial
          · refine a_w0 (Nat.le_succ _) ti_77_43 rfl ?_
            refine a_w1 (a := (2, 122)) (Nat.le_succ _) ti_77_44 rfl ?_
            refine a_w1 (a := (0, H1 122 0)) (Nat.le_succ _) ti_77_47 rfl ?_
            refine a_w3p (args := [(0, H1 122 0)]) (Nat.le_succ _) ti_77_50 (mt_185 (H1 122 0) H1) rfl rfl rfl rfl ?_
            exact a_w4 (Nat.le_succ _) ti_77_53 rfl rfl rfl
        · refine a_w2 (z := (-4)) (Nat.le_succ _) ti_77_31 (by decide) ?_
          exact a_w4 (Nat.le_succ _) ti_77_33 rfl rfl rfl
      · exact a_wk (hj19 ()) (by omega) trivial
/-- CarriedGate.hinge(I)I -/
noncomputable def fn_78 (a1 : Int) (H : a_P) : a_F :=
  a_jn (fun (s1 : Unit) => ((-1), H)) fun j11 =>
  (if a1 < 1 then j11 ()
  else (if 40 < a1 then j11 ()
  else a_bd (fn_93 a1 H) fun H1 =>
  a_bd (fn_24 7 H1) fun x1 =>
  a_bd (fn_10 7 1 H1) fun H2 =>
  a_bd (a_up H2 7 2 (-4)) fun H3 =>
  a_bd (fn_26 7 a1 H3) fun H4 =>
  (a_w ((a_w ((fn_24 7 H4) - x1)) + 10000), H4)))
theorem ti_78_0 : (q_I 78).2 0 = some (0, 0, 0, 1, 0, 1, []) := rfl
theorem ti_78_1 : (q_I 78).2 1 = some (2, 0, 1, 0, 0, 2, []) := rfl
theorem ti_78_2 : (q_I 78).2 2 = some (9, 2, 0, 11, 0, 5, []) := rfl
theorem ti_78_5 : (q_I 78).2 5 = some (0, 0, 0, 1, 0, 6, []) := rfl
theorem ti_78_6 : (q_I 78).2 6 = some (2, 1, 40, 0, 0, 8, []) := rfl
theorem ti_78_8 : (q_I 78).2 8 = some (9, 5, 0, 13, 0, 11, []) := rfl
theorem ti_78_13 : (q_I 78).2 13 = some (0, 4, 0, 0, 2, 14, []) := rfl
theorem ti_78_14 : (q_I 78).2 14 = some (0, 0, 0, 1, 0, 15, []) := rfl
theorem ti_78_15 : (q_I 78).2 15 = some (3, 0, 182, 93, 2, 18, [589, 5]) := rfl
theorem ti_78_18 : (q_I 78).2 18 = some (0, 4, 0, 0, 2, 19, []) := rfl
theorem ti_78_19 : (q_I 78).2 19 = some (1, 0, 16, 5, 1, 22, [232]) := rfl
theorem ti_78_22 : (q_I 78).2 22 = some (3, 0, 149, 24, 1, 25, [486, 2]) := rfl
theorem ti_78_25 : (q_I 78).2 25 = some (11, 0, 0, 2, 0, 26, []) := rfl
theorem ti_78_26 : (q_I 78).2 26 = some (0, 4, 0, 0, 2, 27, []) := rfl
theorem ti_78_27 : (q_I 78).2 27 = some (1, 0, 16, 5, 1, 30, [232]) := rfl
theorem ti_78_30 : (q_I 78).2 30 = some (0, 4, 0, 0, 2, 31, []) := rfl
theorem ti_78_31 : (q_I 78).2 31 = some (1, 0, 10, 5, 0, 34, [231]) := rfl
theorem ti_78_34 : (q_I 78).2 34 = some (3, 0, 126, 10, 2, 37, [466, 2]) := rfl
theorem ti_78_37 : (q_I 78).2 37 = some (0, 4, 0, 0, 2, 38, []) := rfl
theorem ti_78_38 : (q_I 78).2 38 = some (1, 0, 16, 5, 1, 41, [232]) := rfl
theorem ti_78_41 : (q_I 78).2 41 = some (2, 1, (-4), 0, 0, 43, []) := rfl
theorem ti_78_43 : (q_I 78).2 43 = some (10, 0, 136, 2, 2, 46, [91]) := rfl
theorem ti_78_46 : (q_I 78).2 46 = some (0, 4, 0, 0, 2, 47, []) := rfl
theorem ti_78_47 : (q_I 78).2 47 = some (1, 0, 16, 5, 1, 50, [232]) := rfl
theorem ti_78_50 : (q_I 78).2 50 = some (0, 0, 0, 1, 0, 51, []) := rfl
theorem ti_78_51 : (q_I 78).2 51 = some (3, 0, 210, 26, 2, 54, [593, 2]) := rfl
theorem ti_78_54 : (q_I 78).2 54 = some (0, 4, 0, 0, 2, 55, []) := rfl
theorem ti_78_55 : (q_I 78).2 55 = some (1, 0, 16, 5, 1, 58, [232]) := rfl
theorem ti_78_58 : (q_I 78).2 58 = some (3, 0, 149, 24, 1, 61, [486, 2]) := rfl
theorem ti_78_61 : (q_I 78).2 61 = some (0, 0, 0, 2, 0, 62, []) := rfl
theorem ti_78_62 : (q_I 78).2 62 = some (6, 1, 0, 0, 0, 63, []) := rfl
theorem ti_78_63 : (q_I 78).2 63 = some (2, 2, 10000, 0, 0, 66, []) := rfl
theorem ti_78_66 : (q_I 78).2 66 = some (6, 0, 0, 0, 0, 67, []) := rfl
theorem ti_78_67 : (q_I 78).2 67 = some (4, 0, 0, 0, 0, 68, []) := rfl
theorem ti_78_11 : (q_I 78).2 11 = some (2, 0, (-1), 0, 0, 12, []) := rfl
theorem ti_78_12 : (q_I 78).2 12 = some (4, 0, 0, 0, 0, 13, []) := rfl
theorem mt_78 (a1 : Int) (H : a_P) : a_mt id 0 78 [(2, 0), (0, a1)] H (fn_78 a1 H) := by
  refine a_mtI (lo := [some (2, 0), some (0, a1), none]) rfl fun d => ?_
  unfold fn_78
  refine a_w0 (Nat.le_succ _) ti_78_0 rfl ?_
  refine a_w2 (z := 1) (Nat.le_succ _) ti_78_1 (by decide) ?_
  refine a_wjn 11 (fun (s : Unit) => [none, none, none]) (fun (s : Unit) => []) (fun (s : Unit) => H) (fun s1 => ?_) (fun j11 hj11 => ?_)
  · refine a_w2 (z := (-1)) (Nat.le_succ _) ti_78_11 (by decide) ?_
    exact a_w4 (Nat.le_succ _) ti_78_12 rfl rfl rfl
  · refine a_w9_2 (Nat.le_succ _) ti_78_2 ?_ ?_
    · exact a_wk (hj11 ()) (by omega) trivial
    · refine a_w0 (Nat.le_succ _) ti_78_5 rfl ?_
      refine a_w2 (z := 40) (Nat.le_succ _) ti_78_6 (by decide) ?_
      refine a_w9_5 (Nat.le_succ _) ti_78_8 ?_ ?_
      · refine a_w0 (Nat.le_succ _) ti_78_13 rfl ?_
        refine a_w0 (Nat.le_succ _) ti_78_14 rfl ?_
        refine a_w3v (args := [(2, 0), (0, a1)]) (Nat.le_succ _) ti_78_15 (mt_93 a1 H) rfl rfl (fun H1 => ?_)
        refine a_w0 (Nat.le_succ _) ti_78_18 rfl ?_
        refine a_w1 (a := (2, 7)) (Nat.le_succ _) ti_78_19 rfl ?_
        refine a_w3p (args := [(2, 7)]) (Nat.le_succ _) ti_78_22 (mt_24 7 H1) rfl rfl rfl rfl ?_
        refine a_w11b (lof := fun x1 => [some (2, 0), some (0, a1), some (0, x1)]) (Nat.le_succ _) ti_78_25 (fun _ => rfl) (fun x1 => ?_)
        refine a_w0 (Nat.le_succ _) ti_78_26 rfl ?_
        refine a_w1 (a := (2, 7)) (Nat.le_succ _) ti_78_27 rfl ?_
        refine a_w0 (Nat.le_succ _) ti_78_30 rfl ?_
        refine a_w1 (a := (2, 1)) (Nat.le_succ _) ti_78_31 rfl ?_
        refine a_w3v (args := [(2, 7), (2, 1)]) (Nat.le_succ _) ti_78_34 (mt_10 7 1 H1) rfl rfl (fun H2 => ?_)
        refine a_w0 (Nat.le_succ _) ti_78_37 rfl ?_
        refine a_w1 (a := (2, 7)) (Nat.le_succ _) ti_78_38 rfl ?_
        refine a_w2 (z := (-4)) (Nat.le_succ _) ti_78_41 (by decide) ?_
        refine a_w10 (Nat.le_succ _) ti_78_43 rfl rfl rfl (fun H3 => ?_)
        refine a_w0 (Nat.le_succ _) ti_78_46 rfl ?_
        refine a_w1 (a := (2, 7)) (Nat.le_succ _) ti_78_47 rfl ?_
        refine a_w0 (Nat.le_succ _) ti_78_50 rfl ?_
        refine a_w3v (args := [(2, 7), (0, a1)]) (Nat.le_succ _) ti_78_51 (mt_26 7 a1 H3) rfl rfl (fun H4 => ?_)
        refine a_w0 (Nat.le_succ _) ti_78_54 rfl ?_
        refine a_w1 (a := (2, 7)) (Nat.le_succ _) ti_78_55 rfl ?_
        refine a_w3p (args := [(2, 7)]) (Nat.le_succ _) ti_78_58 (mt_24 7 H4) rfl rfl rfl rfl ?_
        refine a_w0 (Nat.le_succ _) ti_78_61 rfl ?_
        refine a_w6 (a := (0, a_w ((fn_24 7 H4) - x1))) (Nat.le_succ _) ti_78_62 rfl ?_
        refine a_w2 (z := 10000) (Nat.le_succ _) ti_78_63 (by decide) ?_
        refine a_w6 (a := (0, a_w ((a_w ((fn_24 7 H4) - x1)) + 10000))) (Nat.le_succ _) ti_78_66 rfl ?_
        exact a_w4 (Nat.le_succ _) ti_78_67 rfl rfl rfl
      · exact a_wk (hj11 ()) (by omega) trivial
/-- CarriedGate.countInByLook()V -/
noncomputable def fn_96 (H : a_P) : a_P :=
  a_bd (fn_10 7 1 H) fun H1 =>
  a_lp (fun (s1 : Int × a_P) => s1.2) (fun (s1 : Int × a_P) n13 => (if s1.1 < 4 then a_bd (a_up s1.2 7 1 s1.1) fun H2 =>
  a_bd (a_up H2 123 s1.1 (fn_185 (fn_23 7 H2))) fun H3 =>
  a_bd (a_w (s1.1 + 1)) fun x1 =>
  n13 (x1, H3)
  else s1.2)) a_fuel (0, H1)
theorem ti_96_0 : (q_I 96).2 0 = some (0, 4, 0, 0, 2, 1, []) := rfl
theorem ti_96_1 : (q_I 96).2 1 = some (1, 0, 16, 5, 1, 4, [232]) := rfl
theorem ti_96_4 : (q_I 96).2 4 = some (0, 4, 0, 0, 2, 5, []) := rfl
theorem ti_96_5 : (q_I 96).2 5 = some (1, 0, 10, 5, 0, 8, [231]) := rfl
theorem ti_96_8 : (q_I 96).2 8 = some (3, 0, 126, 10, 2, 11, [466, 2]) := rfl
theorem ti_96_11 : (q_I 96).2 11 = some (2, 0, 0, 0, 0, 12, []) := rfl
theorem ti_96_12 : (q_I 96).2 12 = some (11, 0, 0, 1, 0, 13, []) := rfl
theorem ti_96_13 : (q_I 96).2 13 = some (0, 0, 0, 1, 0, 14, []) := rfl
theorem ti_96_14 : (q_I 96).2 14 = some (2, 0, 4, 0, 0, 15, []) := rfl
theorem ti_96_15 : (q_I 96).2 15 = some (9, 3, 0, 48, 0, 18, []) := rfl
theorem ti_96_18 : (q_I 96).2 18 = some (0, 4, 0, 0, 2, 19, []) := rfl
theorem ti_96_19 : (q_I 96).2 19 = some (1, 0, 16, 5, 1, 22, [232]) := rfl
theorem ti_96_22 : (q_I 96).2 22 = some (0, 0, 0, 1, 0, 23, []) := rfl
theorem ti_96_23 : (q_I 96).2 23 = some (10, 0, 133, 2, 1, 26, [88]) := rfl
theorem ti_96_26 : (q_I 96).2 26 = some (0, 4, 0, 0, 2, 27, []) := rfl
theorem ti_96_27 : (q_I 96).2 27 = some (1, 0, 56, 5, 9, 30, [240]) := rfl
theorem ti_96_30 : (q_I 96).2 30 = some (0, 0, 0, 1, 0, 31, []) := rfl
theorem ti_96_31 : (q_I 96).2 31 = some (0, 4, 0, 0, 2, 32, []) := rfl
theorem ti_96_32 : (q_I 96).2 32 = some (1, 0, 16, 5, 1, 35, [232]) := rfl
theorem ti_96_35 : (q_I 96).2 35 = some (3, 0, 145, 23, 1, 38, [478, 2]) := rfl
theorem ti_96_38 : (q_I 96).2 38 = some (3, 1, 205, 185, 1, 41, [653, 99]) := rfl
theorem ti_96_41 : (q_I 96).2 41 = some (12, 10, 0, 0, 0, 42, []) := rfl
theorem ti_96_42 : (q_I 96).2 42 = some (13, 0, 1, 1, 0, 45, []) := rfl
theorem ti_96_45 : (q_I 96).2 45 = some (7, 0, 0, 13, 0, 48, []) := rfl
theorem ti_96_48 : (q_I 96).2 48 = some (4, 4, 0, 0, 0, 49, []) := rfl
theorem mt_96 (H : a_P) : a_mt a_pv 9 96 [(2, 0)] H (fn_96 H) := by
  refine a_mtI (lo := [some (2, 0), none]) rfl fun d => ?_
  unfold fn_96
  refine a_w0 (Nat.le_succ _) ti_96_0 rfl ?_
  refine a_w1 (a := (2, 7)) (Nat.le_succ _) ti_96_1 rfl ?_
  refine a_w0 (Nat.le_succ _) ti_96_4 rfl ?_
  refine a_w1 (a := (2, 1)) (Nat.le_succ _) ti_96_5 rfl ?_
  refine a_w3v (args := [(2, 7), (2, 1)]) (Nat.le_succ _) ti_96_8 (mt_10 7 1 H) rfl rfl (fun H1 => ?_)
  refine a_w2 (z := 0) (Nat.le_succ _) ti_96_11 (by decide) ?_
  refine a_w11 (lo' := [some (2, 0), some (0, 0)]) (Nat.le_succ _) ti_96_12 rfl ?_
  refine a_wk (a_wlp (fun (s : Int × a_P) => [some (2, 0), some (0, s.1)]) (fun (s : Int × a_P) => s.2) (fun N1 hN1 n13 hn13 s1 => ?_) a_fuel (a_fuel_le (by omega)) (0, H1)) (Nat.le_refl _) ⟨rfl, rfl, trivial⟩
  · refine a_w0 (Nat.le_refl _) ti_96_13 rfl ?_
    refine a_w2 (z := 4) (Nat.le_succ _) ti_96_14 (by decide) ?_
    refine a_w9_3 (Nat.le_succ _) ti_96_15 ?_ ?_
    · exact a_w4v (Nat.le_succ _) ti_96_48 rfl rfl
    · refine a_w0 (Nat.le_succ _) ti_96_18 rfl ?_
      refine a_w1 (a := (2, 7)) (Nat.le_succ _) ti_96_19 rfl ?_
      refine a_w0 (Nat.le_succ _) ti_96_22 rfl ?_
      refine a_w10 (Nat.le_succ _) ti_96_23 rfl rfl rfl (fun H2 => ?_)
      refine a_w0 (Nat.le_succ _) ti_96_26 rfl ?_
      refine a_w1 (a := (2, 123)) (Nat.le_succ _) ti_96_27 rfl ?_
      refine a_w0 (Nat.le_succ _) ti_96_30 rfl ?_
      refine a_w0 (Nat.le_succ _) ti_96_31 rfl ?_
      refine a_w1 (a := (2, 7)) (Nat.le_succ _) ti_96_32 rfl ?_
      refine a_w3p (args := [(2, 7)]) (Nat.le_succ _) ti_96_35 (mt_23 7 H2) rfl rfl rfl rfl ?_
      refine a_w3p (args := [(0, fn_23 7 H2)]) (Nat.le_succ _) ti_96_38 (mt_185 (fn_23 7 H2) H2) rfl rfl rfl rfl ?_
      refine a_w12 (Nat.le_succ _) ti_96_41 (Or.inl ⟨rfl, rfl⟩) (fun H3 => ?_)
      refine a_w13 (c' := 1) (lof := fun x1 => [some (2, 0), some (0, x1)]) (Nat.le_succ _) ti_96_42 rfl (by decide) rfl (fun _ => rfl) (fun x1 => ?_)
      refine a_w7 (Nat.le_succ _) ti_96_45 ?_
      exact a_wk (hn13 (x1, H3)) (by omega) ⟨rfl, rfl, trivial⟩
/-- CarriedGate.judgeTurn(Z)V -/
noncomputable def fn_97 (a1 : Int) (H : a_P) : a_P :=
  a_bd (a_cp H 123 0 124 0 4) fun H1 =>
  a_lp (fun (s1 : Int × a_P) => s1.2) (fun (s1 : Int × a_P) n16 => (if s1.1 < 4 then a_bd (s1.2 124 (a_rem (a_w (s1.1 + 1)) 4)) fun x1 =>
  a_bd (s1.2 124 (a_rem (a_w ((a_w (s1.1 + 4)) - 1)) 4)) fun x2 =>
  a_bd (s1.2 124 s1.1) fun x3 =>
  a_jn (fun (s2 : Int) => a_bd (a_up s1.2 123 s1.1 s2) fun H2 =>
  a_bd (a_w (s1.1 + 1)) fun x4 =>
  n16 (x4, H2)) fun j88 =>
  (if a1 = 0 then j88 (a_min x3 (a_min x1 x2))
  else j88 (a_max x3 (a_max x1 x2)))
  else s1.2)) a_fuel (0, H1)
theorem ti_97_0 : (q_I 97).2 0 = some (0, 4, 0, 0, 2, 1, []) := rfl
theorem ti_97_1 : (q_I 97).2 1 = some (1, 0, 56, 5, 9, 4, [240]) := rfl
theorem ti_97_4 : (q_I 97).2 4 = some (2, 0, 0, 0, 0, 5, []) := rfl
theorem ti_97_5 : (q_I 97).2 5 = some (0, 4, 0, 0, 2, 6, []) := rfl
theorem ti_97_6 : (q_I 97).2 6 = some (1, 0, 60, 5, 10, 9, [241]) := rfl
theorem ti_97_9 : (q_I 97).2 9 = some (2, 0, 0, 0, 0, 10, []) := rfl
theorem ti_97_10 : (q_I 97).2 10 = some (2, 0, 4, 0, 0, 11, []) := rfl
theorem ti_97_11 : (q_I 97).2 11 = some (19, 0, 277, 0, 0, 14, [670]) := rfl
theorem ti_97_14 : (q_I 97).2 14 = some (2, 0, 0, 0, 0, 15, []) := rfl
theorem ti_97_15 : (q_I 97).2 15 = some (11, 0, 0, 2, 0, 16, []) := rfl
theorem ti_97_16 : (q_I 97).2 16 = some (0, 0, 0, 2, 0, 17, []) := rfl
theorem ti_97_17 : (q_I 97).2 17 = some (2, 0, 4, 0, 0, 18, []) := rfl
theorem ti_97_18 : (q_I 97).2 18 = some (9, 3, 0, 95, 0, 21, []) := rfl
theorem ti_97_21 : (q_I 97).2 21 = some (0, 4, 0, 0, 2, 22, []) := rfl
theorem ti_97_22 : (q_I 97).2 22 = some (1, 0, 60, 5, 10, 25, [241]) := rfl
theorem ti_97_25 : (q_I 97).2 25 = some (0, 0, 0, 2, 0, 26, []) := rfl
theorem ti_97_26 : (q_I 97).2 26 = some (2, 0, 1, 0, 0, 27, []) := rfl
theorem ti_97_27 : (q_I 97).2 27 = some (6, 0, 0, 0, 0, 28, []) := rfl
theorem ti_97_28 : (q_I 97).2 28 = some (2, 0, 4, 0, 0, 29, []) := rfl
theorem ti_97_29 : (q_I 97).2 29 = some (6, 4, 0, 0, 0, 30, []) := rfl
theorem ti_97_30 : (q_I 97).2 30 = some (5, 10, 0, 0, 0, 31, []) := rfl
theorem ti_97_31 : (q_I 97).2 31 = some (11, 0, 0, 3, 0, 32, []) := rfl
theorem ti_97_32 : (q_I 97).2 32 = some (0, 4, 0, 0, 2, 33, []) := rfl
theorem ti_97_33 : (q_I 97).2 33 = some (1, 0, 60, 5, 10, 36, [241]) := rfl
theorem ti_97_36 : (q_I 97).2 36 = some (0, 0, 0, 2, 0, 37, []) := rfl
theorem ti_97_37 : (q_I 97).2 37 = some (2, 0, 4, 0, 0, 38, []) := rfl
theorem ti_97_38 : (q_I 97).2 38 = some (6, 0, 0, 0, 0, 39, []) := rfl
theorem ti_97_39 : (q_I 97).2 39 = some (2, 0, 1, 0, 0, 40, []) := rfl
theorem ti_97_40 : (q_I 97).2 40 = some (6, 1, 0, 0, 0, 41, []) := rfl
theorem ti_97_41 : (q_I 97).2 41 = some (2, 0, 4, 0, 0, 42, []) := rfl
theorem ti_97_42 : (q_I 97).2 42 = some (6, 4, 0, 0, 0, 43, []) := rfl
theorem ti_97_43 : (q_I 97).2 43 = some (5, 10, 0, 0, 0, 44, []) := rfl
theorem ti_97_44 : (q_I 97).2 44 = some (11, 1, 0, 4, 0, 46, []) := rfl
theorem ti_97_46 : (q_I 97).2 46 = some (0, 4, 0, 0, 2, 47, []) := rfl
theorem ti_97_47 : (q_I 97).2 47 = some (1, 0, 60, 5, 10, 50, [241]) := rfl
theorem ti_97_50 : (q_I 97).2 50 = some (0, 0, 0, 2, 0, 51, []) := rfl
theorem ti_97_51 : (q_I 97).2 51 = some (5, 10, 0, 0, 0, 52, []) := rfl
theorem ti_97_52 : (q_I 97).2 52 = some (11, 1, 0, 5, 0, 54, []) := rfl
theorem ti_97_54 : (q_I 97).2 54 = some (0, 4, 0, 0, 2, 55, []) := rfl
theorem ti_97_55 : (q_I 97).2 55 = some (1, 0, 56, 5, 9, 58, [240]) := rfl
theorem ti_97_58 : (q_I 97).2 58 = some (0, 0, 0, 2, 0, 59, []) := rfl
theorem ti_97_59 : (q_I 97).2 59 = some (0, 0, 0, 1, 0, 60, []) := rfl
theorem ti_97_60 : (q_I 97).2 60 = some (8, 0, 0, 77, 0, 63, []) := rfl
theorem ti_97_63 : (q_I 97).2 63 = some (0, 1, 0, 5, 0, 65, []) := rfl
theorem ti_97_65 : (q_I 97).2 65 = some (0, 0, 0, 3, 0, 66, []) := rfl
theorem ti_97_66 : (q_I 97).2 66 = some (0, 1, 0, 4, 0, 68, []) := rfl
theorem ti_97_68 : (q_I 97).2 68 = some (26, 20, 291, 0, 0, 71, [671]) := rfl
theorem ti_97_71 : (q_I 97).2 71 = some (26, 20, 291, 0, 0, 74, [671]) := rfl
theorem ti_97_74 : (q_I 97).2 74 = some (7, 0, 0, 88, 0, 77, []) := rfl
theorem ti_97_77 : (q_I 97).2 77 = some (0, 1, 0, 5, 0, 79, []) := rfl
theorem ti_97_79 : (q_I 97).2 79 = some (0, 0, 0, 3, 0, 80, []) := rfl
theorem ti_97_80 : (q_I 97).2 80 = some (0, 1, 0, 4, 0, 82, []) := rfl
theorem ti_97_82 : (q_I 97).2 82 = some (26, 21, 296, 0, 0, 85, [672]) := rfl
theorem ti_97_85 : (q_I 97).2 85 = some (26, 21, 296, 0, 0, 88, [672]) := rfl
theorem ti_97_88 : (q_I 97).2 88 = some (12, 10, 0, 0, 0, 89, []) := rfl
theorem ti_97_89 : (q_I 97).2 89 = some (13, 0, 1, 2, 0, 92, []) := rfl
theorem ti_97_92 : (q_I 97).2 92 = some (7, 0, 0, 16, 0, 95, []) := rfl
theorem ti_97_95 : (q_I 97).2 95 = some (4, 4, 0, 0, 0, 96, []) := rfl
theorem mt_97 (a1 : Int) (H : a_P) : a_mt a_pv 9 97 [(2, 0), (0, a1)] H (fn_97 a1 H) := by
  refine a_mtI (lo := [some (2, 0), some (0, a1), none, none, none, none]) rfl fun d => ?_
  unfold fn_97
  refine a_w0 (Nat.le_succ _) ti_97_0 rfl ?_
  refine a_w1 (a := (2, 123)) (Nat.le_succ _) ti_97_1 rfl ?_
  refine a_w2 (z := 0) (Nat.le_succ _) ti_97_4 (by decide) ?_
  refine a_w0 (Nat.le_succ _) ti_97_5 rfl ?_
  refine a_w1 (a := (2, 124)) (Nat.le_succ _) ti_97_6 rfl ?_
  refine a_w2 (z := 0) (Nat.le_succ _) ti_97_9 (by decide) ?_
  refine a_w2 (z := 4) (Nat.le_succ _) ti_97_10 (by decide) ?_
  refine a_w19 (Nat.le_succ _) ti_97_11 (fun H1 => ?_)
  refine a_w2 (z := 0) (Nat.le_succ _) ti_97_14 (by decide) ?_
  refine a_w11 (lo' := [some (2, 0), some (0, a1), some (0, 0), none, none, none]) (Nat.le_succ _) ti_97_15 rfl ?_
  refine a_wk (a_wlp (fun (s : Int × a_P) => [some (2, 0), some (0, a1), some (0, s.1), none, none, none]) (fun (s : Int × a_P) => s.2) (fun N1 hN1 n16 hn16 s1 => ?_) a_fuel (a_fuel_le (by omega)) (0, H1)) (Nat.le_refl _) ⟨rfl, rfl, rfl, trivial⟩
  · refine a_w0 (Nat.le_refl _) ti_97_16 rfl ?_
    refine a_w2 (z := 4) (Nat.le_succ _) ti_97_17 (by decide) ?_
    refine a_w9_3 (Nat.le_succ _) ti_97_18 ?_ ?_
    · exact a_w4v (Nat.le_succ _) ti_97_95 rfl rfl
    · refine a_w0 (Nat.le_succ _) ti_97_21 rfl ?_
      refine a_w1 (a := (2, 124)) (Nat.le_succ _) ti_97_22 rfl ?_
      refine a_w0 (Nat.le_succ _) ti_97_25 rfl ?_
      refine a_w2 (z := 1) (Nat.le_succ _) ti_97_26 (by decide) ?_
      refine a_w6 (a := (0, a_w (s1.1 + 1))) (Nat.le_succ _) ti_97_27 rfl ?_
      refine a_w2 (z := 4) (Nat.le_succ _) ti_97_28 (by decide) ?_
      refine a_w6 (a := (0, a_rem (a_w (s1.1 + 1)) 4)) (Nat.le_succ _) ti_97_29 rfl ?_
      refine a_w5 (kk := 0) (Nat.le_succ _) ti_97_30 (fun _ => rfl) ?_
      refine a_w11b (lof := fun x1 => [some (2, 0), some (0, a1), some (0, s1.1), some (0, x1), none, none]) (Nat.le_succ _) ti_97_31 (fun _ => rfl) (fun x1 => ?_)
      refine a_w0 (Nat.le_succ _) ti_97_32 rfl ?_
      refine a_w1 (a := (2, 124)) (Nat.le_succ _) ti_97_33 rfl ?_
      refine a_w0 (Nat.le_succ _) ti_97_36 rfl ?_
      refine a_w2 (z := 4) (Nat.le_succ _) ti_97_37 (by decide) ?_
      refine a_w6 (a := (0, a_w (s1.1 + 4))) (Nat.le_succ _) ti_97_38 rfl ?_
      refine a_w2 (z := 1) (Nat.le_succ _) ti_97_39 (by decide) ?_
      refine a_w6 (a := (0, a_w ((a_w (s1.1 + 4)) - 1))) (Nat.le_succ _) ti_97_40 rfl ?_
      refine a_w2 (z := 4) (Nat.le_succ _) ti_97_41 (by decide) ?_
      refine a_w6 (a := (0, a_rem (a_w ((a_w (s1.1 + 4)) - 1)) 4)) (Nat.le_succ _) ti_97_42 rfl ?_
      refine a_w5 (kk := 0) (Nat.le_succ _) ti_97_43 (fun _ => rfl) ?_
      refine a_w11b (lof := fun x2 => [some (2, 0), some (0, a1), some (0, s1.1), some (0, x1), some (0, x2), none]) (Nat.le_succ _) ti_97_44 (fun _ => rfl) (fun x2 => ?_)
      refine a_w0 (Nat.le_succ _) ti_97_46 rfl ?_
      refine a_w1 (a := (2, 124)) (Nat.le_succ _) ti_97_47 rfl ?_
      refine a_w0 (Nat.le_succ _) ti_97_50 rfl ?_
      refine a_w5 (kk := 0) (Nat.le_succ _) ti_97_51 (fun _ => rfl) ?_
      refine a_w11b (lof := fun x3 => [some (2, 0), some (0, a1), some (0, s1.1), some (0, x1), some (0, x2), some (0, x3)]) (Nat.le_succ _) ti_97_52 (fun _ => rfl) (fun x3 => ?_)
      refine a_w0 (Nat.le_succ _) ti_97_54 rfl ?_
      refine a_w1 (a := (2, 123)) (Nat.le_succ _) ti_97_55 rfl ?_
      refine a_w0 (Nat.le_succ _) ti_97_58 rfl ?_
      refine a_w0 (Nat.le_succ _) ti_97_59 rfl ?_
      refine a_wjn 88 (fun (s : Int) => [some (2, 0), some (0, a1), some (0, s1.1), none, none, none]) (fun (s : Int) => [(0, s), (0, s1.1), (2, 123)]) (fun (s : Int) => s1.2) (fun s2 => ?_) (fun j88 hj88 => ?_)
      · refine a_w12 (Nat.le_succ _) ti_97_88 (Or.inl ⟨rfl, rfl⟩) (fun H2 => ?_)
        refine a_w13 (c' := 1) (lof := fun x4 => [some (2, 0), some (0, a1), some (0, x4), none, none, none]) (Nat.le_succ _) ti_97_89 rfl (by decide) rfl (fun _ => rfl) (fun x4 => ?_)
        refine a_w7 (Nat.le_succ _) ti_97_92 ?_
        exact a_wk (hn16 (x4, H2)) (by omega) ⟨rfl, rfl, rfl, trivial⟩
      · refine a_w8_0 (Nat.le_succ _) ti_97_60 ?_ ?_
        · refine a_w0 (Nat.le_succ _) ti_97_77 rfl ?_
          refine a_w0 (Nat.le_succ _) ti_97_79 rfl ?_
          refine a_w0 (Nat.le_succ _) ti_97_80 rfl ?_
          refine a_w26 (a := (0, a_min x1 x2)) (Nat.le_succ _) ti_97_82 rfl ?_
          refine a_w26 (a := (0, a_min x3 (a_min x1 x2))) (Nat.le_succ _) ti_97_85 rfl ?_
          exact a_wk (hj88 (a_min x3 (a_min x1 x2))) (by omega) ⟨rfl, rfl, rfl, trivial⟩
        · refine a_w0 (Nat.le_succ _) ti_97_63 rfl ?_
          refine a_w0 (Nat.le_succ _) ti_97_65 rfl ?_
          refine a_w0 (Nat.le_succ _) ti_97_66 rfl ?_
          refine a_w26 (a := (0, a_max x1 x2)) (Nat.le_succ _) ti_97_68 rfl ?_
          refine a_w26 (a := (0, a_max x3 (a_max x1 x2))) (Nat.le_succ _) ti_97_71 rfl ?_
          refine a_w7 (Nat.le_succ _) ti_97_74 ?_
          exact a_wk (hj88 (a_max x3 (a_max x1 x2))) (by omega) ⟨rfl, rfl, rfl, trivial⟩

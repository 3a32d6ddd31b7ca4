/-- CarriedGate.rain(I)I -/
noncomputable def fn_67 (a1 : Int) (H : a_P) : a_F :=
  (if (fn_91 a1 64) = 0 then ((-1), H)
  else a_bd (H 1 3) fun x1 =>
  (if x1 = a1 then ((-2), H)
  else a_bd (fn_1 13 1 H) fun H1 =>
  a_bd (a_up H1 1 3 a1) fun H2 =>
  (x1, H2)))
theorem ti_67_0 : (q_I 67).2 0 = some (0, 0, 0, 1, 0, 1, []) := rfl
theorem ti_67_1 : (q_I 67).2 1 = some (2, 1, 64, 0, 0, 3, []) := rfl
theorem ti_67_3 : (q_I 67).2 3 = some (3, 1, 64, 91, 2, 6, [269, 5]) := rfl
theorem ti_67_6 : (q_I 67).2 6 = some (8, 1, 0, 11, 0, 9, []) := rfl
theorem ti_67_9 : (q_I 67).2 9 = some (2, 0, (-1), 0, 0, 10, []) := rfl
theorem ti_67_10 : (q_I 67).2 10 = some (4, 0, 0, 0, 0, 11, []) := rfl
theorem ti_67_11 : (q_I 67).2 11 = some (0, 4, 0, 0, 2, 12, []) := rfl
theorem ti_67_12 : (q_I 67).2 12 = some (1, 0, 10, 5, 0, 15, [231]) := rfl
theorem ti_67_15 : (q_I 67).2 15 = some (1, 0, 139, 2, 3, 18, [94]) := rfl
theorem ti_67_18 : (q_I 67).2 18 = some (11, 0, 0, 2, 0, 19, []) := rfl
theorem ti_67_19 : (q_I 67).2 19 = some (0, 0, 0, 2, 0, 20, []) := rfl
theorem ti_67_20 : (q_I 67).2 20 = some (0, 0, 0, 1, 0, 21, []) := rfl
theorem ti_67_21 : (q_I 67).2 21 = some (9, 1, 0, 27, 0, 24, []) := rfl
theorem ti_67_24 : (q_I 67).2 24 = some (2, 1, (-2), 0, 0, 26, []) := rfl
theorem ti_67_26 : (q_I 67).2 26 = some (4, 0, 0, 0, 0, 27, []) := rfl
theorem ti_67_27 : (q_I 67).2 27 = some (0, 4, 0, 0, 2, 28, []) := rfl
theorem ti_67_28 : (q_I 67).2 28 = some (1, 0, 22, 5, 2, 31, [233]) := rfl
theorem ti_67_31 : (q_I 67).2 31 = some (0, 4, 0, 0, 2, 32, []) := rfl
theorem ti_67_32 : (q_I 67).2 32 = some (1, 0, 10, 5, 0, 35, [231]) := rfl
theorem ti_67_35 : (q_I 67).2 35 = some (3, 0, 155, 1, 2, 38, [494, 0]) := rfl
theorem ti_67_38 : (q_I 67).2 38 = some (0, 4, 0, 0, 2, 39, []) := rfl
theorem ti_67_39 : (q_I 67).2 39 = some (1, 0, 10, 5, 0, 42, [231]) := rfl
theorem ti_67_42 : (q_I 67).2 42 = some (0, 0, 0, 1, 0, 43, []) := rfl
theorem ti_67_43 : (q_I 67).2 43 = some (10, 0, 139, 2, 3, 46, [94]) := rfl
theorem ti_67_46 : (q_I 67).2 46 = some (0, 0, 0, 2, 0, 47, []) := rfl
theorem ti_67_47 : (q_I 67).2 47 = some (4, 0, 0, 0, 0, 48, []) := rfl
theorem mt_67 (a1 : Int) (H : a_P) : a_mt id 0 67 [(2, 0), (0, a1)] H (fn_67 a1 H) := by
  refine a_mtI (lo := [some (2, 0), some (0, a1), none]) rfl fun d => ?_
  unfold fn_67
  refine a_w0 (Nat.le_succ _) ti_67_0 rfl ?_
  refine a_w2 (z := 64) (Nat.le_succ _) ti_67_1 (by decide) ?_
  refine a_w3p (args := [(0, a1), (0, 64)]) (Nat.le_succ _) ti_67_3 (mt_91 a1 64 H) rfl rfl rfl rfl ?_
  refine a_w8_1 (Nat.le_succ _) ti_67_6 ?_ ?_
  · refine a_w0 (Nat.le_succ _) ti_67_11 rfl ?_
    refine a_w1 (a := (2, 1)) (Nat.le_succ _) ti_67_12 rfl ?_
    refine a_w1 (a := (0, H 1 3)) (Nat.le_succ _) ti_67_15 rfl ?_
    refine a_w11b (lof := fun x1 => [some (2, 0), some (0, a1), some (0, x1)]) (Nat.le_succ _) ti_67_18 (fun _ => rfl) (fun x1 => ?_)
    refine a_w0 (Nat.le_succ _) ti_67_19 rfl ?_
    refine a_w0 (Nat.le_succ _) ti_67_20 rfl ?_
    refine a_w9_1 (Nat.le_succ _) ti_67_21 ?_ ?_
    · refine a_w0 (Nat.le_succ _) ti_67_27 rfl ?_
      refine a_w1 (a := (2, 13)) (Nat.le_succ _) ti_67_28 rfl ?_
      refine a_w0 (Nat.le_succ _) ti_67_31 rfl ?_
      refine a_w1 (a := (2, 1)) (Nat.le_succ _) ti_67_32 rfl ?_
      refine a_w3v (args := [(2, 13), (2, 1)]) (Nat.le_succ _) ti_67_35 (mt_1 13 1 H) rfl rfl (fun H1 => ?_)
      refine a_w0 (Nat.le_succ _) ti_67_38 rfl ?_
      refine a_w1 (a := (2, 1)) (Nat.le_succ _) ti_67_39 rfl ?_
      refine a_w0 (Nat.le_succ _) ti_67_42 rfl ?_
      refine a_w10 (Nat.le_succ _) ti_67_43 rfl rfl rfl (fun H2 => ?_)
      refine a_w0 (Nat.le_succ _) ti_67_46 rfl ?_
      exact a_w4 (Nat.le_succ _) ti_67_47 rfl rfl rfl
    · refine a_w2 (z := (-2)) (Nat.le_succ _) ti_67_24 (by decide) ?_
      exact a_w4 (Nat.le_succ _) ti_67_26 rfl rfl rfl
  · refine a_w2 (z := (-1)) (Nat.le_succ _) ti_67_9 (by decide) ?_
    exact a_w4 (Nat.le_succ _) ti_67_10 rfl rfl rfl
/-- CarriedGate$Plain.sendByDraw()V -/
noncomputable def fn_31 (p : Int) (H : a_P) : a_P :=
  a_bd (a_up H p 5 (a_and (a_w ((a_w ((H p 5) * 1103515245)) + 12345)) 2147483647)) fun H1 =>
  (if 0 < (H1 p 6) then a_bd (a_rem (a_div (H1 p 5) 65536) (H1 p 6)) fun x1 =>
  a_jn (fun (s1 : a_P) => s1) fun j63 =>
  (if (fn_12 p x1 H1) = 0 then j63 H1
  else a_bd (a_up H1 (p + 3) x1 (a_rem (a_div (H1 p 5) 128) 5)) fun H2 =>
  j63 H2)
  else H1)
theorem ti_31_0 : (q_I 31).2 0 = some (0, 4, 0, 0, 2, 1, []) := rfl
theorem ti_31_1 : (q_I 31).2 1 = some (0, 4, 0, 0, 2, 2, []) := rfl
theorem ti_31_2 : (q_I 31).2 2 = some (1, 0, 27, 2, 5, 5, [98]) := rfl
theorem ti_31_5 : (q_I 31).2 5 = some (2, 3, 1103515245, 105, 0, 7, [570]) := rfl
theorem ti_31_7 : (q_I 31).2 7 = some (6, 2, 0, 0, 0, 8, []) := rfl
theorem ti_31_8 : (q_I 31).2 8 = some (2, 2, 12345, 0, 0, 11, []) := rfl
theorem ti_31_11 : (q_I 31).2 11 = some (6, 0, 0, 0, 0, 12, []) := rfl
theorem ti_31_12 : (q_I 31).2 12 = some (2, 3, 2147483647, 106, 0, 14, [571]) := rfl
theorem ti_31_14 : (q_I 31).2 14 = some (6, 5, 0, 0, 0, 15, []) := rfl
theorem ti_31_15 : (q_I 31).2 15 = some (10, 0, 27, 2, 5, 18, [98]) := rfl
theorem ti_31_18 : (q_I 31).2 18 = some (0, 4, 0, 0, 2, 19, []) := rfl
theorem ti_31_19 : (q_I 31).2 19 = some (1, 0, 30, 2, 6, 22, [100]) := rfl
theorem ti_31_22 : (q_I 31).2 22 = some (8, 4, 0, 26, 0, 25, []) := rfl
theorem ti_31_25 : (q_I 31).2 25 = some (4, 4, 0, 0, 0, 26, []) := rfl
theorem ti_31_26 : (q_I 31).2 26 = some (0, 4, 0, 0, 2, 27, []) := rfl
theorem ti_31_27 : (q_I 31).2 27 = some (1, 0, 27, 2, 5, 30, [98]) := rfl
theorem ti_31_30 : (q_I 31).2 30 = some (2, 3, 65536, 107, 0, 32, [572]) := rfl
theorem ti_31_32 : (q_I 31).2 32 = some (6, 3, 0, 0, 0, 33, []) := rfl
theorem ti_31_33 : (q_I 31).2 33 = some (0, 4, 0, 0, 2, 34, []) := rfl
theorem ti_31_34 : (q_I 31).2 34 = some (1, 0, 30, 2, 6, 37, [100]) := rfl
theorem ti_31_37 : (q_I 31).2 37 = some (6, 4, 0, 0, 0, 38, []) := rfl
theorem ti_31_38 : (q_I 31).2 38 = some (11, 0, 0, 1, 0, 39, []) := rfl
theorem ti_31_39 : (q_I 31).2 39 = some (0, 4, 0, 0, 2, 40, []) := rfl
theorem ti_31_40 : (q_I 31).2 40 = some (0, 0, 0, 1, 0, 41, []) := rfl
theorem ti_31_41 : (q_I 31).2 41 = some (3, 0, 102, 12, 2, 44, [522, 2]) := rfl
theorem ti_31_44 : (q_I 31).2 44 = some (8, 0, 0, 63, 0, 47, []) := rfl
theorem ti_31_47 : (q_I 31).2 47 = some (0, 4, 0, 0, 2, 48, []) := rfl
theorem ti_31_48 : (q_I 31).2 48 = some (1, 0, 40, 2, 9, 51, [107]) := rfl
theorem ti_31_51 : (q_I 31).2 51 = some (0, 0, 0, 1, 0, 52, []) := rfl
theorem ti_31_52 : (q_I 31).2 52 = some (0, 4, 0, 0, 2, 53, []) := rfl
theorem ti_31_53 : (q_I 31).2 53 = some (1, 0, 27, 2, 5, 56, [98]) := rfl
theorem ti_31_56 : (q_I 31).2 56 = some (2, 2, 128, 0, 0, 59, []) := rfl
theorem ti_31_59 : (q_I 31).2 59 = some (6, 3, 0, 0, 0, 60, []) := rfl
theorem ti_31_60 : (q_I 31).2 60 = some (2, 0, 5, 0, 0, 61, []) := rfl
theorem ti_31_61 : (q_I 31).2 61 = some (6, 4, 0, 0, 0, 62, []) := rfl
theorem ti_31_62 : (q_I 31).2 62 = some (12, 10, 0, 0, 0, 63, []) := rfl
theorem ti_31_63 : (q_I 31).2 63 = some (4, 4, 0, 0, 0, 64, []) := rfl
theorem mt_31 (p : Int) (H : a_P) : a_mt a_pv 9 31 [(2, p)] H (fn_31 p H) := by
  refine a_mtI (lo := [some (2, p), none]) rfl fun d => ?_
  unfold fn_31
  refine a_w0 (Nat.le_succ _) ti_31_0 rfl ?_
  refine a_w0 (Nat.le_succ _) ti_31_1 rfl ?_
  refine a_w1 (a := (0, H p 5)) (Nat.le_succ _) ti_31_2 rfl ?_
  refine a_w2 (z := 1103515245) (Nat.le_succ _) ti_31_5 (by decide) ?_
  refine a_w6 (a := (0, a_w ((H p 5) * 1103515245))) (Nat.le_succ _) ti_31_7 rfl ?_
  refine a_w2 (z := 12345) (Nat.le_succ _) ti_31_8 (by decide) ?_
  refine a_w6 (a := (0, a_w ((a_w ((H p 5) * 1103515245)) + 12345))) (Nat.le_succ _) ti_31_11 rfl ?_
  refine a_w2 (z := 2147483647) (Nat.le_succ _) ti_31_12 (by decide) ?_
  refine a_w6 (a := (0, a_and (a_w ((a_w ((H p 5) * 1103515245)) + 12345)) 2147483647)) (Nat.le_succ _) ti_31_14 rfl ?_
  refine a_w10 (Nat.le_succ _) ti_31_15 rfl rfl rfl (fun H1 => ?_)
  refine a_w0 (Nat.le_succ _) ti_31_18 rfl ?_
  refine a_w1 (a := (0, H1 p 6)) (Nat.le_succ _) ti_31_19 rfl ?_
  refine a_w8_4 (Nat.le_succ _) ti_31_22 ?_ ?_
  · refine a_w0 (Nat.le_succ _) ti_31_26 rfl ?_
    refine a_w1 (a := (0, H1 p 5)) (Nat.le_succ _) ti_31_27 rfl ?_
    refine a_w2 (z := 65536) (Nat.le_succ _) ti_31_30 (by decide) ?_
    refine a_w6 (a := (0, a_div (H1 p 5) 65536)) (Nat.le_succ _) ti_31_32 rfl ?_
    refine a_w0 (Nat.le_succ _) ti_31_33 rfl ?_
    refine a_w1 (a := (0, H1 p 6)) (Nat.le_succ _) ti_31_34 rfl ?_
    refine a_w6 (a := (0, a_rem (a_div (H1 p 5) 65536) (H1 p 6))) (Nat.le_succ _) ti_31_37 rfl ?_
    refine a_w11b (lof := fun x1 => [some (2, p), some (0, x1)]) (Nat.le_succ _) ti_31_38 (fun _ => rfl) (fun x1 => ?_)
    refine a_w0 (Nat.le_succ _) ti_31_39 rfl ?_
    refine a_w0 (Nat.le_succ _) ti_31_40 rfl ?_
    refine a_w3p (args := [(2, p), (0, x1)]) (Nat.le_succ _) ti_31_41 (mt_12 p x1 H1) rfl rfl rfl rfl ?_
    refine a_wjn 63 (fun (s : a_P) => [none, none]) (fun (s : a_P) => []) (fun (s : a_P) => s) (fun s1 => ?_) (fun j63 hj63 => ?_)
    · exact a_w4v (Nat.le_succ _) ti_31_63 rfl rfl
    · refine a_w8_0 (Nat.le_succ _) ti_31_44 ?_ ?_
      · exact a_wk (hj63 H1) (by omega) trivial
      · refine a_w0 (Nat.le_succ _) ti_31_47 rfl ?_
        refine a_w1 (a := (2, (p + 3))) (Nat.le_succ _) ti_31_48 rfl ?_
        refine a_w0 (Nat.le_succ _) ti_31_51 rfl ?_
        refine a_w0 (Nat.le_succ _) ti_31_52 rfl ?_
        refine a_w1 (a := (0, H1 p 5)) (Nat.le_succ _) ti_31_53 rfl ?_
        refine a_w2 (z := 128) (Nat.le_succ _) ti_31_56 (by decide) ?_
        refine a_w6 (a := (0, a_div (H1 p 5) 128)) (Nat.le_succ _) ti_31_59 rfl ?_
        refine a_w2 (z := 5) (Nat.le_succ _) ti_31_60 (by decide) ?_
        refine a_w6 (a := (0, a_rem (a_div (H1 p 5) 128) 5)) (Nat.le_succ _) ti_31_61 rfl ?_
        refine a_w12 (Nat.le_succ _) ti_31_62 (Or.inl ⟨rfl, rfl⟩) (fun H2 => ?_)
        exact a_wk (hj63 H2) (by omega) trivial
  · exact a_w4v (Nat.le_succ _) ti_31_25 rfl rfl
/-- CarriedGate.drift(I)I -/
noncomputable def fn_68 (a1 : Int) (H : a_P) : a_F :=
  a_jn (fun (s1 : Unit) => ((-1), H)) fun j11 =>
  (if a1 < 1 then j11 ()
  else (if 40 < a1 then j11 ()
  else (if 9999 < (a_w ((H 1 4) + a1)) then ((-3), H)
  else a_lp (fun (s2 : Int × a_P) => (0, s2.2)) (fun (s2 : Int × a_P) n33 => (if s2.1 < a1 then a_bd (fn_1 13 1 s2.2) fun H1 =>
  a_bd (fn_31 1 H1) fun H2 =>
  a_bd (fn_27 1 H2) fun H3 =>
  a_bd (a_w (s2.1 + 1)) fun x1 =>
  n33 (x1, H3)
  else (fn_23 1 s2.2, s2.2))) a_fuel (0, H))))
theorem ti_68_0 : (q_I 68).2 0 = some (0, 0, 0, 1, 0, 1, []) := rfl
theorem ti_68_1 : (q_I 68).2 1 = some (2, 0, 1, 0, 0, 2, []) := rfl
theorem ti_68_2 : (q_I 68).2 2 = some (9, 2, 0, 11, 0, 5, []) := rfl
theorem ti_68_5 : (q_I 68).2 5 = some (0, 0, 0, 1, 0, 6, []) := rfl
theorem ti_68_6 : (q_I 68).2 6 = some (2, 1, 40, 0, 0, 8, []) := rfl
theorem ti_68_8 : (q_I 68).2 8 = some (9, 5, 0, 13, 0, 11, []) := rfl
theorem ti_68_13 : (q_I 68).2 13 = some (0, 4, 0, 0, 2, 14, []) := rfl
theorem ti_68_14 : (q_I 68).2 14 = some (1, 0, 10, 5, 0, 17, [231]) := rfl
theorem ti_68_17 : (q_I 68).2 17 = some (1, 0, 142, 2, 4, 20, [97]) := rfl
theorem ti_68_20 : (q_I 68).2 20 = some (0, 0, 0, 1, 0, 21, []) := rfl
theorem ti_68_21 : (q_I 68).2 21 = some (6, 0, 0, 0, 0, 22, []) := rfl
theorem ti_68_22 : (q_I 68).2 22 = some (2, 2, 9999, 0, 0, 25, []) := rfl
theorem ti_68_25 : (q_I 68).2 25 = some (9, 5, 0, 31, 0, 28, []) := rfl
theorem ti_68_28 : (q_I 68).2 28 = some (2, 1, (-3), 0, 0, 30, []) := rfl
theorem ti_68_30 : (q_I 68).2 30 = some (4, 0, 0, 0, 0, 31, []) := rfl
theorem ti_68_31 : (q_I 68).2 31 = some (2, 0, 0, 0, 0, 32, []) := rfl
theorem ti_68_32 : (q_I 68).2 32 = some (11, 0, 0, 2, 0, 33, []) := rfl
theorem ti_68_33 : (q_I 68).2 33 = some (0, 0, 0, 2, 0, 34, []) := rfl
theorem ti_68_34 : (q_I 68).2 34 = some (0, 0, 0, 1, 0, 35, []) := rfl
theorem ti_68_35 : (q_I 68).2 35 = some (9, 3, 0, 69, 0, 38, []) := rfl
theorem ti_68_38 : (q_I 68).2 38 = some (0, 4, 0, 0, 2, 39, []) := rfl
theorem ti_68_39 : (q_I 68).2 39 = some (1, 0, 22, 5, 2, 42, [233]) := rfl
theorem ti_68_42 : (q_I 68).2 42 = some (0, 4, 0, 0, 2, 43, []) := rfl
theorem ti_68_43 : (q_I 68).2 43 = some (1, 0, 10, 5, 0, 46, [231]) := rfl
theorem ti_68_46 : (q_I 68).2 46 = some (3, 0, 155, 1, 2, 49, [494, 0]) := rfl
theorem ti_68_49 : (q_I 68).2 49 = some (0, 4, 0, 0, 2, 50, []) := rfl
theorem ti_68_50 : (q_I 68).2 50 = some (1, 0, 10, 5, 0, 53, [231]) := rfl
theorem ti_68_53 : (q_I 68).2 53 = some (3, 0, 175, 31, 1, 56, [566, 2]) := rfl
theorem ti_68_56 : (q_I 68).2 56 = some (0, 4, 0, 0, 2, 57, []) := rfl
theorem ti_68_57 : (q_I 68).2 57 = some (1, 0, 10, 5, 0, 60, [231]) := rfl
theorem ti_68_60 : (q_I 68).2 60 = some (3, 0, 158, 27, 1, 63, [499, 2]) := rfl
theorem ti_68_63 : (q_I 68).2 63 = some (13, 0, 1, 2, 0, 66, []) := rfl
theorem ti_68_66 : (q_I 68).2 66 = some (7, 0, 0, 33, 0, 69, []) := rfl
theorem ti_68_69 : (q_I 68).2 69 = some (0, 4, 0, 0, 2, 70, []) := rfl
theorem ti_68_70 : (q_I 68).2 70 = some (1, 0, 10, 5, 0, 73, [231]) := rfl
theorem ti_68_73 : (q_I 68).2 73 = some (3, 0, 145, 23, 1, 76, [478, 2]) := rfl
theorem ti_68_76 : (q_I 68).2 76 = some (4, 0, 0, 0, 0, 77, []) := rfl
theorem ti_68_11 : (q_I 68).2 11 = some (2, 0, (-1), 0, 0, 12, []) := rfl
theorem ti_68_12 : (q_I 68).2 12 = some (4, 0, 0, 0, 0, 13, []) := rfl
theorem mt_68 (a1 : Int) (H : a_P) : a_mt id 0 68 [(2, 0), (0, a1)] H (fn_68 a1 H) := by
  refine a_mtI (lo := [some (2, 0), some (0, a1), none]) rfl fun d => ?_
  unfold fn_68
  refine a_w0 (Nat.le_succ _) ti_68_0 rfl ?_
  refine a_w2 (z := 1) (Nat.le_succ _) ti_68_1 (by decide) ?_
  refine a_wjn 11 (fun (s : Unit) => [none, none, none]) (fun (s : Unit) => []) (fun (s : Unit) => H) (fun s1 => ?_) (fun j11 hj11 => ?_)
  · refine a_w2 (z := (-1)) (Nat.le_succ _) ti_68_11 (by decide) ?_
    exact a_w4 (Nat.le_succ _) ti_68_12 rfl rfl rfl
  · refine a_w9_2 (Nat.le_succ _) ti_68_2 ?_ ?_
    · exact a_wk (hj11 ()) (by omega) trivial
    · refine a_w0 (Nat.le_succ _) ti_68_5 rfl ?_
      refine a_w2 (z := 40) (Nat.le_succ _) ti_68_6 (by decide) ?_
      refine a_w9_5 (Nat.le_succ _) ti_68_8 ?_ ?_
      · refine a_w0 (Nat.le_succ _) ti_68_13 rfl ?_
        refine a_w1 (a := (2, 1)) (Nat.le_succ _) ti_68_14 rfl ?_
        refine a_w1 (a := (0, H 1 4)) (Nat.le_succ _) ti_68_17 rfl ?_
        refine a_w0 (Nat.le_succ _) ti_68_20 rfl ?_
        refine a_w6 (a := (0, a_w ((H 1 4) + a1))) (Nat.le_succ _) ti_68_21 rfl ?_
        refine a_w2 (z := 9999) (Nat.le_succ _) ti_68_22 (by decide) ?_
        refine a_w9_5 (Nat.le_succ _) ti_68_25 ?_ ?_
        · refine a_w2 (z := 0) (Nat.le_succ _) ti_68_31 (by decide) ?_
          refine a_w11 (lo' := [some (2, 0), some (0, a1), some (0, 0)]) (Nat.le_succ _) ti_68_32 rfl ?_
          refine a_wk (a_wlp (fun (s : Int × a_P) => [some (2, 0), some (0, a1), some (0, s.1)]) (fun (s : Int × a_P) => s.2) (fun N1 hN1 n33 hn33 s2 => ?_) a_fuel (a_fuel_le (by omega)) (0, H)) (Nat.le_refl _) ⟨rfl, rfl, rfl, trivial⟩
          · refine a_w0 (Nat.le_refl _) ti_68_33 rfl ?_
            refine a_w0 (Nat.le_succ _) ti_68_34 rfl ?_
            refine a_w9_3 (Nat.le_succ _) ti_68_35 ?_ ?_
            · refine a_w0 (Nat.le_succ _) ti_68_69 rfl ?_
              refine a_w1 (a := (2, 1)) (Nat.le_succ _) ti_68_70 rfl ?_
              refine a_w3p (args := [(2, 1)]) (Nat.le_succ _) ti_68_73 (mt_23 1 s2.2) rfl rfl rfl rfl ?_
              exact a_w4 (Nat.le_succ _) ti_68_76 rfl rfl rfl
            · refine a_w0 (Nat.le_succ _) ti_68_38 rfl ?_
              refine a_w1 (a := (2, 13)) (Nat.le_succ _) ti_68_39 rfl ?_
              refine a_w0 (Nat.le_succ _) ti_68_42 rfl ?_
              refine a_w1 (a := (2, 1)) (Nat.le_succ _) ti_68_43 rfl ?_
              refine a_w3v (args := [(2, 13), (2, 1)]) (Nat.le_succ _) ti_68_46 (mt_1 13 1 s2.2) rfl rfl (fun H1 => ?_)
              refine a_w0 (Nat.le_succ _) ti_68_49 rfl ?_
              refine a_w1 (a := (2, 1)) (Nat.le_succ _) ti_68_50 rfl ?_
              refine a_w3v (args := [(2, 1)]) (Nat.le_succ _) ti_68_53 (mt_31 1 H1) rfl rfl (fun H2 => ?_)
              refine a_w0 (Nat.le_succ _) ti_68_56 rfl ?_
              refine a_w1 (a := (2, 1)) (Nat.le_succ _) ti_68_57 rfl ?_
              refine a_w3v (args := [(2, 1)]) (Nat.le_succ _) ti_68_60 (mt_27 1 H2) rfl rfl (fun H3 => ?_)
              refine a_w13 (c' := 1) (lof := fun x1 => [some (2, 0), some (0, a1), some (0, x1)]) (Nat.le_succ _) ti_68_63 rfl (by decide) rfl (fun _ => rfl) (fun x1 => ?_)
              refine a_w7 (Nat.le_succ _) ti_68_66 ?_
              exact a_wk (hn33 (x1, H3)) (by omega) ⟨rfl, rfl, rfl, trivial⟩
        · refine a_w2 (z := (-3)) (Nat.le_succ _) ti_68_28 (by decide) ?_
          exact a_w4 (Nat.le_succ _) ti_68_30 rfl rfl rfl
      · exact a_wk (hj11 ()) (by omega) trivial
/-- CarriedGate$Past.giveBack(LCarriedGate$Plain;)Z -/
noncomputable def fn_2 (p : Int) (a1 : Int) (H : a_P) : a_F :=
  (if 0 < (H p 2) then a_bd (a_up H p 2 (a_w ((H p 2) - 1))) fun H1 =>
  a_bd (fn_10 a1 ((p + 1) + (1 + 6 * (a_rem (a_w ((H1 p 1) + (H1 p 2))) 8))) H1) fun H2 =>
  (1, H2)
  else (0, H))
theorem ti_2_0 : (q_I 2).2 0 = some (0, 4, 0, 0, 2, 1, []) := rfl
theorem ti_2_1 : (q_I 2).2 1 = some (1, 0, 19, 0, 2, 4, [150]) := rfl
theorem ti_2_4 : (q_I 2).2 4 = some (8, 4, 0, 9, 0, 7, []) := rfl
theorem ti_2_7 : (q_I 2).2 7 = some (2, 0, 0, 0, 0, 8, []) := rfl
theorem ti_2_8 : (q_I 2).2 8 = some (4, 3, 0, 0, 0, 9, []) := rfl
theorem ti_2_9 : (q_I 2).2 9 = some (0, 4, 0, 0, 2, 10, []) := rfl
theorem ti_2_10 : (q_I 2).2 10 = some (16, 0, 0, 0, 0, 11, []) := rfl
theorem ti_2_11 : (q_I 2).2 11 = some (1, 0, 19, 0, 2, 14, [150]) := rfl
theorem ti_2_14 : (q_I 2).2 14 = some (2, 0, 1, 0, 0, 15, []) := rfl
theorem ti_2_15 : (q_I 2).2 15 = some (6, 1, 0, 0, 0, 16, []) := rfl
theorem ti_2_16 : (q_I 2).2 16 = some (10, 0, 19, 0, 2, 19, [150]) := rfl
theorem ti_2_19 : (q_I 2).2 19 = some (0, 4, 0, 1, 2, 20, []) := rfl
theorem ti_2_20 : (q_I 2).2 20 = some (0, 4, 0, 0, 2, 21, []) := rfl
theorem ti_2_21 : (q_I 2).2 21 = some (1, 0, 11, 0, 0, 24, [148]) := rfl
theorem ti_2_24 : (q_I 2).2 24 = some (0, 4, 0, 0, 2, 25, []) := rfl
theorem ti_2_25 : (q_I 2).2 25 = some (1, 0, 15, 0, 1, 28, [149]) := rfl
theorem ti_2_28 : (q_I 2).2 28 = some (0, 4, 0, 0, 2, 29, []) := rfl
theorem ti_2_29 : (q_I 2).2 29 = some (1, 0, 19, 0, 2, 32, [150]) := rfl
theorem ti_2_32 : (q_I 2).2 32 = some (6, 0, 0, 0, 0, 33, []) := rfl
theorem ti_2_33 : (q_I 2).2 33 = some (2, 1, 8, 0, 0, 35, []) := rfl
theorem ti_2_35 : (q_I 2).2 35 = some (6, 4, 0, 0, 0, 36, []) := rfl
theorem ti_2_36 : (q_I 2).2 36 = some (5, 13, 0, 0, 0, 37, []) := rfl
theorem ti_2_37 : (q_I 2).2 37 = some (3, 0, 23, 10, 2, 40, [498, 2]) := rfl
theorem ti_2_40 : (q_I 2).2 40 = some (2, 0, 1, 0, 0, 41, []) := rfl
theorem ti_2_41 : (q_I 2).2 41 = some (4, 3, 0, 0, 0, 42, []) := rfl
theorem mt_2 (p : Int) (a1 : Int) (H : a_P) : a_mt id 0 2 [(2, p), (2, a1)] H (fn_2 p a1 H) := by
  refine a_mtI (lo := [some (2, p), some (2, a1)]) rfl fun d => ?_
  unfold fn_2
  refine a_w0 (Nat.le_succ _) ti_2_0 rfl ?_
  refine a_w1 (a := (0, H p 2)) (Nat.le_succ _) ti_2_1 rfl ?_
  refine a_w8_4 (Nat.le_succ _) ti_2_4 ?_ ?_
  · refine a_w0 (Nat.le_succ _) ti_2_9 rfl ?_
    refine a_w16 (Nat.le_succ _) ti_2_10 ?_
    refine a_w1 (a := (0, H p 2)) (Nat.le_succ _) ti_2_11 rfl ?_
    refine a_w2 (z := 1) (Nat.le_succ _) ti_2_14 (by decide) ?_
    refine a_w6 (a := (0, a_w ((H p 2) - 1))) (Nat.le_succ _) ti_2_15 rfl ?_
    refine a_w10 (Nat.le_succ _) ti_2_16 rfl rfl rfl (fun H1 => ?_)
    refine a_w0 (Nat.le_succ _) ti_2_19 rfl ?_
    refine a_w0 (Nat.le_succ _) ti_2_20 rfl ?_
    refine a_w1 (a := (2, (p + 1))) (Nat.le_succ _) ti_2_21 rfl ?_
    refine a_w0 (Nat.le_succ _) ti_2_24 rfl ?_
    refine a_w1 (a := (0, H1 p 1)) (Nat.le_succ _) ti_2_25 rfl ?_
    refine a_w0 (Nat.le_succ _) ti_2_28 rfl ?_
    refine a_w1 (a := (0, H1 p 2)) (Nat.le_succ _) ti_2_29 rfl ?_
    refine a_w6 (a := (0, a_w ((H1 p 1) + (H1 p 2)))) (Nat.le_succ _) ti_2_32 rfl ?_
    refine a_w2 (z := 8) (Nat.le_succ _) ti_2_33 (by decide) ?_
    refine a_w6 (a := (0, a_rem (a_w ((H1 p 1) + (H1 p 2))) 8)) (Nat.le_succ _) ti_2_35 rfl ?_
    refine a_w5r (Nat.le_succ _) ti_2_36 (fun _ => rfl) ?_
    refine a_w3v (args := [(2, a1), (2, ((p + 1) + (1 + 6 * (a_rem (a_w ((H1 p 1) + (H1 p 2))) 8))))]) (Nat.le_succ _) ti_2_37 (mt_10 a1 ((p + 1) + (1 + 6 * (a_rem (a_w ((H1 p 1) + (H1 p 2))) 8))) H1) rfl rfl (fun H2 => ?_)
    refine a_w2 (z := 1) (Nat.le_succ _) ti_2_40 (by decide) ?_
    exact a_w4 (Nat.le_succ _) ti_2_41 rfl rfl rfl
  · refine a_w2 (z := 0) (Nat.le_succ _) ti_2_7 (by decide) ?_
    exact a_w4 (Nat.le_succ _) ti_2_8 rfl rfl rfl
/-- CarriedGate.undo()I -/
noncomputable def fn_69 (H : a_P) : a_F :=
  a_bd (fn_2 13 1 H) fun g1 =>
  a_jn (fun (s1 : Int) => (s1, g1.2)) fun j26 =>
  (if g1.1 = 0 then j26 (-4)
  else j26 (g1.2 13 2))
theorem ti_69_0 : (q_I 69).2 0 = some (0, 4, 0, 0, 2, 1, []) := rfl
theorem ti_69_1 : (q_I 69).2 1 = some (1, 0, 22, 5, 2, 4, [233]) := rfl
theorem ti_69_4 : (q_I 69).2 4 = some (0, 4, 0, 0, 2, 5, []) := rfl
theorem ti_69_5 : (q_I 69).2 5 = some (1, 0, 10, 5, 0, 8, [231]) := rfl
theorem ti_69_8 : (q_I 69).2 8 = some (3, 0, 178, 2, 2, 11, [577, 0]) := rfl
theorem ti_69_11 : (q_I 69).2 11 = some (8, 0, 0, 24, 0, 14, []) := rfl
theorem ti_69_14 : (q_I 69).2 14 = some (0, 4, 0, 0, 2, 15, []) := rfl
theorem ti_69_15 : (q_I 69).2 15 = some (1, 0, 22, 5, 2, 18, [233]) := rfl
theorem ti_69_18 : (q_I 69).2 18 = some (1, 0, 152, 0, 2, 21, [151]) := rfl
theorem ti_69_21 : (q_I 69).2 21 = some (7, 0, 0, 26, 0, 24, []) := rfl
theorem ti_69_24 : (q_I 69).2 24 = some (2, 1, (-4), 0, 0, 26, []) := rfl
theorem ti_69_26 : (q_I 69).2 26 = some (4, 0, 0, 0, 0, 27, []) := rfl
theorem mt_69 (H : a_P) : a_mt id 0 69 [(2, 0)] H (fn_69 H) := by
  refine a_mtI (lo := [some (2, 0)]) rfl fun d => ?_
  unfold fn_69
  refine a_w0 (Nat.le_succ _) ti_69_0 rfl ?_
  refine a_w1 (a := (2, 13)) (Nat.le_succ _) ti_69_1 rfl ?_
  refine a_w0 (Nat.le_succ _) ti_69_4 rfl ?_
  refine a_w1 (a := (2, 1)) (Nat.le_succ _) ti_69_5 rfl ?_
  refine a_w3i (args := [(2, 13), (2, 1)]) (Nat.le_succ _) ti_69_8 (mt_2 13 1 H) (fun _ => rfl) rfl rfl (fun g1 => ?_)
  refine a_wjn 26 (fun (s : Int) => [none]) (fun (s : Int) => [(0, s)]) (fun (s : Int) => g1.2) (fun s1 => ?_) (fun j26 hj26 => ?_)
  · exact a_w4 (Nat.le_succ _) ti_69_26 rfl rfl rfl
  · refine a_w8_0 (Nat.le_succ _) ti_69_11 ?_ ?_
    · refine a_w2 (z := (-4)) (Nat.le_succ _) ti_69_24 (by decide) ?_
      exact a_wk (hj26 (-4)) (by omega) trivial
    · refine a_w0 (Nat.le_succ _) ti_69_14 rfl ?_
      refine a_w1 (a := (2, 13)) (Nat.le_succ _) ti_69_15 rfl ?_
      refine a_w1 (a := (0, g1.2 13 2)) (Nat.le_succ _) ti_69_18 rfl ?_
      refine a_w7 (Nat.le_succ _) ti_69_21 ?_
      exact a_wk (hj26 (g1.2 13 2)) (by omega) trivial
/-- CarriedGate.seed(I)I -/
noncomputable def fn_70 (a1 : Int) (H : a_P) : a_F :=
  (if a1 < 0 then ((-1), H)
  else a_bd (H 1 5) fun x1 =>
  a_bd (a_up H 1 5 a1) fun H1 =>
  (x1, H1))
theorem ti_70_0 : (q_I 70).2 0 = some (0, 0, 0, 1, 0, 1, []) := rfl
theorem ti_70_1 : (q_I 70).2 1 = some (8, 3, 0, 6, 0, 4, []) := rfl
theorem ti_70_4 : (q_I 70).2 4 = some (2, 0, (-1), 0, 0, 5, []) := rfl
theorem ti_70_5 : (q_I 70).2 5 = some (4, 0, 0, 0, 0, 6, []) := rfl
theorem ti_70_6 : (q_I 70).2 6 = some (0, 4, 0, 0, 2, 7, []) := rfl
theorem ti_70_7 : (q_I 70).2 7 = some (1, 0, 10, 5, 0, 10, [231]) := rfl
theorem ti_70_10 : (q_I 70).2 10 = some (1, 0, 123, 2, 5, 13, [99]) := rfl
theorem ti_70_13 : (q_I 70).2 13 = some (11, 0, 0, 2, 0, 14, []) := rfl
theorem ti_70_14 : (q_I 70).2 14 = some (0, 4, 0, 0, 2, 15, []) := rfl
theorem ti_70_15 : (q_I 70).2 15 = some (1, 0, 10, 5, 0, 18, [231]) := rfl
theorem ti_70_18 : (q_I 70).2 18 = some (0, 0, 0, 1, 0, 19, []) := rfl
theorem ti_70_19 : (q_I 70).2 19 = some (10, 0, 123, 2, 5, 22, [99]) := rfl
theorem ti_70_22 : (q_I 70).2 22 = some (0, 0, 0, 2, 0, 23, []) := rfl
theorem ti_70_23 : (q_I 70).2 23 = some (4, 0, 0, 0, 0, 24, []) := rfl
theorem mt_70 (a1 : Int) (H : a_P) : a_mt id 0 70 [(2, 0), (0, a1)] H (fn_70 a1 H) := by
  refine a_mtI (lo := [some (2, 0), some (0, a1), none]) rfl fun d => ?_
  unfold fn_70
  refine a_w0 (Nat.le_succ _) ti_70_0 rfl ?_
  refine a_w8_3 (Nat.le_succ _) ti_70_1 ?_ ?_
  · refine a_w0 (Nat.le_succ _) ti_70_6 rfl ?_
    refine a_w1 (a := (2, 1)) (Nat.le_succ _) ti_70_7 rfl ?_
    refine a_w1 (a := (0, H 1 5)) (Nat.le_succ _) ti_70_10 rfl ?_
    refine a_w11b (lof := fun x1 => [some (2, 0), some (0, a1), some (0, x1)]) (Nat.le_succ _) ti_70_13 (fun _ => rfl) (fun x1 => ?_)
    refine a_w0 (Nat.le_succ _) ti_70_14 rfl ?_
    refine a_w1 (a := (2, 1)) (Nat.le_succ _) ti_70_15 rfl ?_
    refine a_w0 (Nat.le_succ _) ti_70_18 rfl ?_
    refine a_w10 (Nat.le_succ _) ti_70_19 rfl rfl rfl (fun H1 => ?_)
    refine a_w0 (Nat.le_succ _) ti_70_22 rfl ?_
    exact a_w4 (Nat.le_succ _) ti_70_23 rfl rfl rfl
  · refine a_w2 (z := (-1)) (Nat.le_succ _) ti_70_4 (by decide) ?_
    exact a_w4 (Nat.le_succ _) ti_70_5 rfl rfl rfl
/-- CarriedGate$Plain.passHours(I)V -/
noncomputable def fn_26 (p : Int) (a1 : Int) (H : a_P) : a_P :=
  a_lp (fun (s1 : Int × a_P) => s1.2) (fun (s1 : Int × a_P) n2 => (if s1.1 < a1 then a_bd (fn_27 p s1.2) fun H1 =>
  a_bd (a_w (s1.1 + 1)) fun x1 =>
  n2 (x1, H1)
  else s1.2)) a_fuel (0, H)
theorem ti_26_0 : (q_I 26).2 0 = some (2, 0, 0, 0, 0, 1, []) := rfl
theorem ti_26_1 : (q_I 26).2 1 = some (11, 0, 0, 2, 0, 2, []) := rfl
theorem ti_26_2 : (q_I 26).2 2 = some (0, 0, 0, 2, 0, 3, []) := rfl
theorem ti_26_3 : (q_I 26).2 3 = some (0, 0, 0, 1, 0, 4, []) := rfl
theorem ti_26_4 : (q_I 26).2 4 = some (9, 3, 0, 17, 0, 7, []) := rfl
theorem ti_26_7 : (q_I 26).2 7 = some (0, 4, 0, 0, 2, 8, []) := rfl
theorem ti_26_8 : (q_I 26).2 8 = some (3, 0, 84, 27, 1, 11, [597, 2]) := rfl
theorem ti_26_11 : (q_I 26).2 11 = some (13, 0, 1, 2, 0, 14, []) := rfl
theorem ti_26_14 : (q_I 26).2 14 = some (7, 0, 0, 2, 0, 17, []) := rfl
theorem ti_26_17 : (q_I 26).2 17 = some (4, 4, 0, 0, 0, 18, []) := rfl
theorem mt_26 (p : Int) (a1 : Int) (H : a_P) : a_mt a_pv 9 26 [(2, p), (0, a1)] H (fn_26 p a1 H) := by
  refine a_mtI (lo := [some (2, p), some (0, a1), none]) rfl fun d => ?_
  unfold fn_26
  refine a_w2 (z := 0) (Nat.le_succ _) ti_26_0 (by decide) ?_
  refine a_w11 (lo' := [some (2, p), some (0, a1), some (0, 0)]) (Nat.le_succ _) ti_26_1 rfl ?_
  refine a_wk (a_wlp (fun (s : Int × a_P) => [some (2, p), some (0, a1), some (0, s.1)]) (fun (s : Int × a_P) => s.2) (fun N1 hN1 n2 hn2 s1 => ?_) a_fuel (a_fuel_le (by omega)) (0, H)) (Nat.le_refl _) ⟨rfl, rfl, rfl, trivial⟩
  · refine a_w0 (Nat.le_refl _) ti_26_2 rfl ?_
    refine a_w0 (Nat.le_succ _) ti_26_3 rfl ?_
    refine a_w9_3 (Nat.le_succ _) ti_26_4 ?_ ?_
    · exact a_w4v (Nat.le_succ _) ti_26_17 rfl rfl
    · refine a_w0 (Nat.le_succ _) ti_26_7 rfl ?_
      refine a_w3v (args := [(2, p)]) (Nat.le_succ _) ti_26_8 (mt_27 p s1.2) rfl rfl (fun H1 => ?_)
      refine a_w13 (c' := 1) (lof := fun x1 => [some (2, p), some (0, a1), some (0, x1)]) (Nat.le_succ _) ti_26_11 rfl (by decide) rfl (fun _ => rfl) (fun x1 => ?_)
      refine a_w7 (Nat.le_succ _) ti_26_14 ?_
      exact a_wk (hn2 (x1, H1)) (by omega) ⟨rfl, rfl, rfl, trivial⟩
/-- CarriedGate.foretell(I)V -/
noncomputable def fn_93 (a1 : Int) (H : a_P) : a_P :=
  a_bd (fn_10 7 1 H) fun H1 =>
  a_bd (fn_26 7 a1 H1) fun H2 =>
  H2
theorem ti_93_0 : (q_I 93).2 0 = some (0, 4, 0, 0, 2, 1, []) := rfl
theorem ti_93_1 : (q_I 93).2 1 = some (1, 0, 16, 5, 1, 4, [232]) := rfl
theorem ti_93_4 : (q_I 93).2 4 = some (0, 4, 0, 0, 2, 5, []) := rfl
theorem ti_93_5 : (q_I 93).2 5 = some (1, 0, 10, 5, 0, 8, [231]) := rfl
theorem ti_93_8 : (q_I 93).2 8 = some (3, 0, 126, 10, 2, 11, [466, 2]) := rfl
theorem ti_93_11 : (q_I 93).2 11 = some (0, 4, 0, 0, 2, 12, []) := rfl
theorem ti_93_12 : (q_I 93).2 12 = some (1, 0, 16, 5, 1, 15, [232]) := rfl
theorem ti_93_15 : (q_I 93).2 15 = some (0, 0, 0, 1, 0, 16, []) := rfl
theorem ti_93_16 : (q_I 93).2 16 = some (3, 0, 210, 26, 2, 19, [593, 2]) := rfl
theorem ti_93_19 : (q_I 93).2 19 = some (4, 4, 0, 0, 0, 20, []) := rfl
theorem mt_93 (a1 : Int) (H : a_P) : a_mt a_pv 9 93 [(2, 0), (0, a1)] H (fn_93 a1 H) := by
  refine a_mtI (lo := [some (2, 0), some (0, a1)]) rfl fun d => ?_
  unfold fn_93
  refine a_w0 (Nat.le_succ _) ti_93_0 rfl ?_
  refine a_w1 (a := (2, 7)) (Nat.le_succ _) ti_93_1 rfl ?_
  refine a_w0 (Nat.le_succ _) ti_93_4 rfl ?_
  refine a_w1 (a := (2, 1)) (Nat.le_succ _) ti_93_5 rfl ?_
  refine a_w3v (args := [(2, 7), (2, 1)]) (Nat.le_succ _) ti_93_8 (mt_10 7 1 H) rfl rfl (fun H1 => ?_)
  refine a_w0 (Nat.le_succ _) ti_93_11 rfl ?_
  refine a_w1 (a := (2, 7)) (Nat.le_succ _) ti_93_12 rfl ?_
  refine a_w0 (Nat.le_succ _) ti_93_15 rfl ?_
  refine a_w3v (args := [(2, 7), (0, a1)]) (Nat.le_succ _) ti_93_16 (mt_26 7 a1 H1) rfl rfl (fun H2 => ?_)
  exact a_w4v (Nat.le_succ _) ti_93_19 rfl rfl
/-- CarriedGate.ahead(I)I -/
noncomputable def fn_71 (a1 : Int) (H : a_P) : a_F :=
  (if (fn_91 a1 41) = 0 then ((-1), H)
  else a_bd (fn_93 a1 H) fun H1 =>
  (fn_23 7 H1, H1))
theorem ti_71_0 : (q_I 71).2 0 = some (0, 0, 0, 1, 0, 1, []) := rfl
theorem ti_71_1 : (q_I 71).2 1 = some (2, 1, 41, 0, 0, 3, []) := rfl
theorem ti_71_3 : (q_I 71).2 3 = some (3, 1, 64, 91, 2, 6, [269, 5]) := rfl
theorem ti_71_6 : (q_I 71).2 6 = some (8, 1, 0, 11, 0, 9, []) := rfl
theorem ti_71_9 : (q_I 71).2 9 = some (2, 0, (-1), 0, 0, 10, []) := rfl
theorem ti_71_10 : (q_I 71).2 10 = some (4, 0, 0, 0, 0, 11, []) := rfl
theorem ti_71_11 : (q_I 71).2 11 = some (0, 4, 0, 0, 2, 12, []) := rfl
theorem ti_71_12 : (q_I 71).2 12 = some (0, 0, 0, 1, 0, 13, []) := rfl
theorem ti_71_13 : (q_I 71).2 13 = some (3, 0, 182, 93, 2, 16, [589, 5]) := rfl
theorem ti_71_16 : (q_I 71).2 16 = some (0, 4, 0, 0, 2, 17, []) := rfl
theorem ti_71_17 : (q_I 71).2 17 = some (1, 0, 16, 5, 1, 20, [232]) := rfl
theorem ti_71_20 : (q_I 71).2 20 = some (3, 0, 145, 23, 1, 23, [478, 2]) := rfl
theorem ti_71_23 : (q_I 71).2 23 = some (4, 0, 0, 0, 0, 24, []) := rfl
theorem mt_71 (a1 : Int) (H : a_P) : a_mt id 0 71 [(2, 0), (0, a1)] H (fn_71 a1 H) := by
  refine a_mtI (lo := [some (2, 0), some (0, a1)]) rfl fun d => ?_
  unfold fn_71
  refine a_w0 (Nat.le_succ _) ti_71_0 rfl ?_
  refine a_w2 (z := 41) (Nat.le_succ _) ti_71_1 (by decide) ?_
  refine a_w3p (args := [(0, a1), (0, 41)]) (Nat.le_succ _) ti_71_3 (mt_91 a1 41 H) rfl rfl rfl rfl ?_
  refine a_w8_1 (Nat.le_succ _) ti_71_6 ?_ ?_
  · refine a_w0 (Nat.le_succ _) ti_71_11 rfl ?_
    refine a_w0 (Nat.le_succ _) ti_71_12 rfl ?_
    refine a_w3v (args := [(2, 0), (0, a1)]) (Nat.le_succ _) ti_71_13 (mt_93 a1 H) rfl rfl (fun H1 => ?_)
    refine a_w0 (Nat.le_succ _) ti_71_16 rfl ?_
    refine a_w1 (a := (2, 7)) (Nat.le_succ _) ti_71_17 rfl ?_
    refine a_w3p (args := [(2, 7)]) (Nat.le_succ _) ti_71_20 (mt_23 7 H1) rfl rfl rfl rfl ?_
    exact a_w4 (Nat.le_succ _) ti_71_23 rfl rfl rfl
  · refine a_w2 (z := (-1)) (Nat.le_succ _) ti_71_9 (by decide) ?_
    exact a_w4 (Nat.le_succ _) ti_71_10 rfl rfl rfl
/-- CarriedGate.then(III)I -/
noncomputable def fn_72 (a1 : Int) (a2 : Int) (a3 : Int) (H : a_P) : a_F :=
  a_jn (fun (s1 : Unit) => ((-1), H)) fun j28 =>
  (if (fn_12 1 a1 H) = 0 then j28 ()
  else (if (fn_91 a2 41) = 0 then j28 ()
  else (if (fn_91 a3 3) = 0 then j28 ()
  else a_bd (fn_93 a2 H) fun H1 =>
  (if a3 = 0 then (H1 9 a1, H1)
  else (if a3 = 1 then (H1 12 a1, H1)
  else a_jn (fun (s2 : Int) => (fn_92 s2, H1)) fun j80 =>
  (if (H1 7 2) = a1 then j80 1
  else j80 0))))))
theorem ti_72_0 : (q_I 72).2 0 = some (0, 4, 0, 0, 2, 1, []) := rfl
theorem ti_72_1 : (q_I 72).2 1 = some (1, 0, 10, 5, 0, 4, [231]) := rfl
theorem ti_72_4 : (q_I 72).2 4 = some (0, 0, 0, 1, 0, 5, []) := rfl
theorem ti_72_5 : (q_I 72).2 5 = some (3, 0, 79, 12, 2, 8, [284, 2]) := rfl
theorem ti_72_8 : (q_I 72).2 8 = some (8, 0, 0, 28, 0, 11, []) := rfl
theorem ti_72_11 : (q_I 72).2 11 = some (0, 0, 0, 2, 0, 12, []) := rfl
theorem ti_72_12 : (q_I 72).2 12 = some (2, 1, 41, 0, 0, 14, []) := rfl
theorem ti_72_14 : (q_I 72).2 14 = some (3, 1, 64, 91, 2, 17, [269, 5]) := rfl
theorem ti_72_17 : (q_I 72).2 17 = some (8, 0, 0, 28, 0, 20, []) := rfl
theorem ti_72_20 : (q_I 72).2 20 = some (0, 0, 0, 3, 0, 21, []) := rfl
theorem ti_72_21 : (q_I 72).2 21 = some (2, 0, 3, 0, 0, 22, []) := rfl
theorem ti_72_22 : (q_I 72).2 22 = some (3, 1, 64, 91, 2, 25, [269, 5]) := rfl
theorem ti_72_25 : (q_I 72).2 25 = some (8, 1, 0, 30, 0, 28, []) := rfl
theorem ti_72_30 : (q_I 72).2 30 = some (0, 4, 0, 0, 2, 31, []) := rfl
theorem ti_72_31 : (q_I 72).2 31 = some (0, 0, 0, 2, 0, 32, []) := rfl
theorem ti_72_32 : (q_I 72).2 32 = some (3, 0, 182, 93, 2, 35, [589, 5]) := rfl
theorem ti_72_35 : (q_I 72).2 35 = some (0, 0, 0, 3, 0, 36, []) := rfl
theorem ti_72_36 : (q_I 72).2 36 = some (8, 1, 0, 49, 0, 39, []) := rfl
theorem ti_72_39 : (q_I 72).2 39 = some (0, 4, 0, 0, 2, 40, []) := rfl
theorem ti_72_40 : (q_I 72).2 40 = some (1, 0, 16, 5, 1, 43, [232]) := rfl
theorem ti_72_43 : (q_I 72).2 43 = some (1, 0, 86, 2, 8, 46, [106]) := rfl
theorem ti_72_46 : (q_I 72).2 46 = some (0, 0, 0, 1, 0, 47, []) := rfl
theorem ti_72_47 : (q_I 72).2 47 = some (5, 10, 0, 0, 0, 48, []) := rfl
theorem ti_72_48 : (q_I 72).2 48 = some (4, 0, 0, 0, 0, 49, []) := rfl
theorem ti_72_49 : (q_I 72).2 49 = some (0, 0, 0, 3, 0, 50, []) := rfl
theorem ti_72_50 : (q_I 72).2 50 = some (2, 0, 1, 0, 0, 51, []) := rfl
theorem ti_72_51 : (q_I 72).2 51 = some (9, 1, 0, 64, 0, 54, []) := rfl
theorem ti_72_54 : (q_I 72).2 54 = some (0, 4, 0, 0, 2, 55, []) := rfl
theorem ti_72_55 : (q_I 72).2 55 = some (1, 0, 16, 5, 1, 58, [232]) := rfl
theorem ti_72_58 : (q_I 72).2 58 = some (1, 0, 95, 2, 11, 61, [112]) := rfl
theorem ti_72_61 : (q_I 72).2 61 = some (0, 0, 0, 1, 0, 62, []) := rfl
theorem ti_72_62 : (q_I 72).2 62 = some (5, 10, 0, 0, 0, 63, []) := rfl
theorem ti_72_63 : (q_I 72).2 63 = some (4, 0, 0, 0, 0, 64, []) := rfl
theorem ti_72_64 : (q_I 72).2 64 = some (0, 4, 0, 0, 2, 65, []) := rfl
theorem ti_72_65 : (q_I 72).2 65 = some (1, 0, 16, 5, 1, 68, [232]) := rfl
theorem ti_72_68 : (q_I 72).2 68 = some (1, 0, 136, 2, 2, 71, [91]) := rfl
theorem ti_72_71 : (q_I 72).2 71 = some (0, 0, 0, 1, 0, 72, []) := rfl
theorem ti_72_72 : (q_I 72).2 72 = some (9, 1, 0, 79, 0, 75, []) := rfl
theorem ti_72_75 : (q_I 72).2 75 = some (2, 0, 1, 0, 0, 76, []) := rfl
theorem ti_72_76 : (q_I 72).2 76 = some (7, 0, 0, 80, 0, 79, []) := rfl
theorem ti_72_79 : (q_I 72).2 79 = some (2, 0, 0, 0, 0, 80, []) := rfl
theorem ti_72_80 : (q_I 72).2 80 = some (3, 1, 101, 92, 1, 83, [309, 5]) := rfl
theorem ti_72_83 : (q_I 72).2 83 = some (4, 0, 0, 0, 0, 84, []) := rfl
theorem ti_72_28 : (q_I 72).2 28 = some (2, 0, (-1), 0, 0, 29, []) := rfl
theorem ti_72_29 : (q_I 72).2 29 = some (4, 0, 0, 0, 0, 30, []) := rfl
theorem mt_72 (a1 : Int) (a2 : Int) (a3 : Int) (H : a_P) : a_mt id 0 72 [(2, 0), (0, a1), (0, a2), (0, a3)] H (fn_72 a1 a2 a3 H) := by
  refine a_mtI (lo := [some (2, 0), some (0, a1), some (0, a2), some (0, a3)]) rfl fun d => ?_
  unfold fn_72
  refine a_w0 (Nat.le_succ _) ti_72_0 rfl ?_
  refine a_w1 (a := (2, 1)) (Nat.le_succ _) ti_72_1 rfl ?_
  refine a_w0 (Nat.le_succ _) ti_72_4 rfl ?_
  refine a_w3p (args := [(2, 1), (0, a1)]) (Nat.le_succ _) ti_72_5 (mt_12 1 a1 H) rfl rfl rfl rfl ?_
  refine a_wjn 28 (fun (s : Unit) => [none, none, none, none]) (fun (s : Unit) => []) (fun (s : Unit) => H) (fun s1 => ?_) (fun j28 hj28 => ?_)
  · refine a_w2 (z := (-1)) (Nat.le_succ _) ti_72_28 (by decide) ?_
    exact a_w4 (Nat.le_succ _) ti_72_29 rfl rfl rfl
  · refine a_w8_0 (Nat.le_succ _) ti_72_8 ?_ ?_
    · exact a_wk (hj28 ()) (by omega) trivial
    · refine a_w0 (Nat.le_succ _) ti_72_11 rfl ?_
      refine a_w2 (z := 41) (Nat.le_succ _) ti_72_12 (by decide) ?_
      refine a_w3p (args := [(0, a2), (0, 41)]) (Nat.le_succ _) ti_72_14 (mt_91 a2 41 H) rfl rfl rfl rfl ?_
      refine a_w8_0 (Nat.le_succ _) ti_72_17 ?_ ?_
      · exact a_wk (hj28 ()) (by omega) trivial
      · refine a_w0 (Nat.le_succ _) ti_72_20 rfl ?_
        refine a_w2 (z := 3) (Nat.le_succ _) ti_72_21 (by decide) ?_
        refine a_w3p (args := [(0, a3), (0, 3)]) (Nat.le_succ _) ti_72_22 (mt_91 a3 3 H) rfl rfl rfl rfl ?_
        refine a_w8_1 (Nat.le_succ _) ti_72_25 ?_ ?_
        · refine a_w0 (Nat.le_succ _) ti_72_30 rfl ?_
          refine a_w0 (Nat.le_succ _) ti_72_31 rfl ?_
          refine a_w3v (args := [(2, 0), (0, a2)]) (Nat.le_succ _) ti_72_32 (mt_93 a2 H) rfl rfl (fun H1 => ?_)
          refine a_w0 (Nat.le_succ _) ti_72_35 rfl ?_
          refine a_w8_1 (Nat.le_succ _) ti_72_36 ?_ ?_
          · refine a_w0 (Nat.le_succ _) ti_72_49 rfl ?_
            refine a_w2 (z := 1) (Nat.le_succ _) ti_72_50 (by decide) ?_
            refine a_w9_1 (Nat.le_succ _) ti_72_51 ?_ ?_
            · refine a_w0 (Nat.le_succ _) ti_72_64 rfl ?_
              refine a_w1 (a := (2, 7)) (Nat.le_succ _) ti_72_65 rfl ?_
              refine a_w1 (a := (0, H1 7 2)) (Nat.le_succ _) ti_72_68 rfl ?_
              refine a_w0 (Nat.le_succ _) ti_72_71 rfl ?_
              refine a_wjn 80 (fun (s : Int) => [none, none, none, none]) (fun (s : Int) => [(0, s)]) (fun (s : Int) => H1) (fun s2 => ?_) (fun j80 hj80 => ?_)
              · refine a_w3p (args := [(0, s2)]) (Nat.le_succ _) ti_72_80 (mt_92 s2 H1) rfl rfl rfl rfl ?_
                exact a_w4 (Nat.le_succ _) ti_72_83 rfl rfl rfl
              · refine a_w9_1 (Nat.le_succ _) ti_72_72 ?_ ?_
                · refine a_w2 (z := 0) (Nat.le_succ _) ti_72_79 (by decide) ?_
                  exact a_wk (hj80 0) (by omega) trivial
                · refine a_w2 (z := 1) (Nat.le_succ _) ti_72_75 (by decide) ?_
                  refine a_w7 (Nat.le_succ _) ti_72_76 ?_
                  exact a_wk (hj80 1) (by omega) trivial
            · refine a_w0 (Nat.le_succ _) ti_72_54 rfl ?_
              refine a_w1 (a := (2, 7)) (Nat.le_succ _) ti_72_55 rfl ?_
              refine a_w1 (a := (2, 12)) (Nat.le_succ _) ti_72_58 rfl ?_
              refine a_w0 (Nat.le_succ _) ti_72_61 rfl ?_
              refine a_w5 (kk := 0) (Nat.le_succ _) ti_72_62 (fun _ => rfl) ?_
              exact a_w4 (Nat.le_succ _) ti_72_63 rfl rfl rfl
          · refine a_w0 (Nat.le_succ _) ti_72_39 rfl ?_
            refine a_w1 (a := (2, 7)) (Nat.le_succ _) ti_72_40 rfl ?_
            refine a_w1 (a := (2, 9)) (Nat.le_succ _) ti_72_43 rfl ?_
            refine a_w0 (Nat.le_succ _) ti_72_46 rfl ?_
            refine a_w5 (kk := 0) (Nat.le_succ _) ti_72_47 (fun _ => rfl) ?_
            exact a_w4 (Nat.le_succ _) ti_72_48 rfl rfl rfl
        · exact a_wk (hj28 ()) (by omega) trivial
/-- CarriedGate.lies()I -/
noncomputable def fn_73 (H : a_P) : a_F :=
  a_bd (fn_10 7 1 H) fun H1 =>
  a_lp (fun (s1 : Int × a_P) => (0, s1.2)) (fun (s1 : Int × a_P) n13 => (if 40 < s1.1 then ((-4), s1.2)
  else (if (fn_14 7 s1.2) = 0 then (s1.1, s1.2)
  else a_bd (fn_27 7 s1.2) fun H2 =>
  a_bd (a_w (s1.1 + 1)) fun x1 =>
  n13 (x1, H2)))) a_fuel (0, H1)
theorem ti_73_0 : (q_I 73).2 0 = some (0, 4, 0, 0, 2, 1, []) := rfl
theorem ti_73_1 : (q_I 73).2 1 = some (1, 0, 16, 5, 1, 4, [232]) := rfl
theorem ti_73_4 : (q_I 73).2 4 = some (0, 4, 0, 0, 2, 5, []) := rfl
theorem ti_73_5 : (q_I 73).2 5 = some (1, 0, 10, 5, 0, 8, [231]) := rfl
theorem ti_73_8 : (q_I 73).2 8 = some (3, 0, 126, 10, 2, 11, [466, 2]) := rfl
theorem ti_73_11 : (q_I 73).2 11 = some (2, 0, 0, 0, 0, 12, []) := rfl
theorem ti_73_12 : (q_I 73).2 12 = some (11, 0, 0, 1, 0, 13, []) := rfl
theorem ti_73_13 : (q_I 73).2 13 = some (0, 0, 0, 1, 0, 14, []) := rfl
theorem ti_73_14 : (q_I 73).2 14 = some (2, 1, 40, 0, 0, 16, []) := rfl
theorem ti_73_16 : (q_I 73).2 16 = some (9, 4, 0, 44, 0, 19, []) := rfl
theorem ti_73_19 : (q_I 73).2 19 = some (0, 4, 0, 0, 2, 20, []) := rfl
theorem ti_73_20 : (q_I 73).2 20 = some (1, 0, 16, 5, 1, 23, [232]) := rfl
theorem ti_73_23 : (q_I 73).2 23 = some (3, 0, 171, 14, 1, 26, [553, 2]) := rfl
theorem ti_73_26 : (q_I 73).2 26 = some (8, 1, 0, 31, 0, 29, []) := rfl
theorem ti_73_29 : (q_I 73).2 29 = some (0, 0, 0, 1, 0, 30, []) := rfl
theorem ti_73_30 : (q_I 73).2 30 = some (4, 0, 0, 0, 0, 31, []) := rfl
theorem ti_73_31 : (q_I 73).2 31 = some (0, 4, 0, 0, 2, 32, []) := rfl
theorem ti_73_32 : (q_I 73).2 32 = some (1, 0, 16, 5, 1, 35, [232]) := rfl
theorem ti_73_35 : (q_I 73).2 35 = some (3, 0, 158, 27, 1, 38, [499, 2]) := rfl
theorem ti_73_38 : (q_I 73).2 38 = some (13, 0, 1, 1, 0, 41, []) := rfl
theorem ti_73_41 : (q_I 73).2 41 = some (7, 0, 0, 13, 0, 44, []) := rfl
theorem ti_73_44 : (q_I 73).2 44 = some (2, 1, (-4), 0, 0, 46, []) := rfl
theorem ti_73_46 : (q_I 73).2 46 = some (4, 0, 0, 0, 0, 47, []) := rfl
theorem mt_73 (H : a_P) : a_mt id 0 73 [(2, 0)] H (fn_73 H) := by
  refine a_mtI (lo := [some (2, 0), none]) rfl fun d => ?_
  unfold fn_73
  refine a_w0 (Nat.le_succ _) ti_73_0 rfl ?_
  refine a_w1 (a := (2, 7)) (Nat.le_succ _) ti_73_1 rfl ?_
  refine a_w0 (Nat.le_succ _) ti_73_4 rfl ?_
  refine a_w1 (a := (2, 1)) (Nat.le_succ _) ti_73_5 rfl ?_
  refine a_w3v (args := [(2, 7), (2, 1)]) (Nat.le_succ _) ti_73_8 (mt_10 7 1 H) rfl rfl (fun H1 => ?_)
  refine a_w2 (z := 0) (Nat.le_succ _) ti_73_11 (by decide) ?_
  refine a_w11 (lo' := [some (2, 0), some (0, 0)]) (Nat.le_succ _) ti_73_12 rfl ?_
  refine a_wk (a_wlp (fun (s : Int × a_P) => [some (2, 0), some (0, s.1)]) (fun (s : Int × a_P) => s.2) (fun N1 hN1 n13 hn13 s1 => ?_) a_fuel (a_fuel_le (by omega)) (0, H1)) (Nat.le_refl _) ⟨rfl, rfl, trivial⟩
  · refine a_w0 (Nat.le_refl _) ti_73_13 rfl ?_
    refine a_w2 (z := 40) (Nat.le_succ _) ti_73_14 (by decide) ?_
    refine a_w9_4 (Nat.le_succ _) ti_73_16 ?_ ?_
    · refine a_w2 (z := (-4)) (Nat.le_succ _) ti_73_44 (by decide) ?_
      exact a_w4 (Nat.le_succ _) ti_73_46 rfl rfl rfl
    · refine a_w0 (Nat.le_succ _) ti_73_19 rfl ?_
      refine a_w1 (a := (2, 7)) (Nat.le_succ _) ti_73_20 rfl ?_
      refine a_w3p (args := [(2, 7)]) (Nat.le_succ _) ti_73_23 (mt_14 7 s1.2) rfl rfl rfl rfl ?_
      refine a_w8_1 (Nat.le_succ _) ti_73_26 ?_ ?_
      · refine a_w0 (Nat.le_succ _) ti_73_31 rfl ?_
        refine a_w1 (a := (2, 7)) (Nat.le_succ _) ti_73_32 rfl ?_
        refine a_w3v (args := [(2, 7)]) (Nat.le_succ _) ti_73_35 (mt_27 7 s1.2) rfl rfl (fun H2 => ?_)
        refine a_w13 (c' := 1) (lof := fun x1 => [some (2, 0), some (0, x1)]) (Nat.le_succ _) ti_73_38 rfl (by decide) rfl (fun _ => rfl) (fun x1 => ?_)
        refine a_w7 (Nat.le_succ _) ti_73_41 ?_
        exact a_wk (hn13 (x1, H2)) (by omega) ⟨rfl, rfl, trivial⟩
      · refine a_w0 (Nat.le_succ _) ti_73_29 rfl ?_
        exact a_w4 (Nat.le_succ _) ti_73_30 rfl rfl rfl
/-- CarriedGate.wet(I)I -/
noncomputable def fn_74 (a1 : Int) (H : a_P) : a_F :=
  (if (fn_91 a1 41) = 0 then ((-1), H)
  else a_bd (fn_93 a1 H) fun H1 =>
  (fn_24 7 H1, H1))
theorem ti_74_0 : (q_I 74).2 0 = some (0, 0, 0, 1, 0, 1, []) := rfl
theorem ti_74_1 : (q_I 74).2 1 = some (2, 1, 41, 0, 0, 3, []) := rfl
theorem ti_74_3 : (q_I 74).2 3 = some (3, 1, 64, 91, 2, 6, [269, 5]) := rfl
theorem ti_74_6 : (q_I 74).2 6 = some (8, 1, 0, 11, 0, 9, []) := rfl
theorem ti_74_9 : (q_I 74).2 9 = some (2, 0, (-1), 0, 0, 10, []) := rfl
theorem ti_74_10 : (q_I 74).2 10 = some (4, 0, 0, 0, 0, 11, []) := rfl
theorem ti_74_11 : (q_I 74).2 11 = some (0, 4, 0, 0, 2, 12, []) := rfl
theorem ti_74_12 : (q_I 74).2 12 = some (0, 0, 0, 1, 0, 13, []) := rfl
theorem ti_74_13 : (q_I 74).2 13 = some (3, 0, 182, 93, 2, 16, [589, 5]) := rfl
theorem ti_74_16 : (q_I 74).2 16 = some (0, 4, 0, 0, 2, 17, []) := rfl
theorem ti_74_17 : (q_I 74).2 17 = some (1, 0, 16, 5, 1, 20, [232]) := rfl
theorem ti_74_20 : (q_I 74).2 20 = some (3, 0, 149, 24, 1, 23, [486, 2]) := rfl
theorem ti_74_23 : (q_I 74).2 23 = some (4, 0, 0, 0, 0, 24, []) := rfl
theorem mt_74 (a1 : Int) (H : a_P) : a_mt id 0 74 [(2, 0), (0, a1)] H (fn_74 a1 H) := by
  refine a_mtI (lo := [some (2, 0), some (0, a1)]) rfl fun d => ?_
  unfold fn_74
  refine a_w0 (Nat.le_succ _) ti_74_0 rfl ?_
  refine a_w2 (z := 41) (Nat.le_succ _) ti_74_1 (by decide) ?_
  refine a_w3p (args := [(0, a1), (0, 41)]) (Nat.le_succ _) ti_74_3 (mt_91 a1 41 H) rfl rfl rfl rfl ?_
  refine a_w8_1 (Nat.le_succ _) ti_74_6 ?_ ?_
  · refine a_w0 (Nat.le_succ _) ti_74_11 rfl ?_
    refine a_w0 (Nat.le_succ _) ti_74_12 rfl ?_
    refine a_w3v (args := [(2, 0), (0, a1)]) (Nat.le_succ _) ti_74_13 (mt_93 a1 H) rfl rfl (fun H1 => ?_)
    refine a_w0 (Nat.le_succ _) ti_74_16 rfl ?_
    refine a_w1 (a := (2, 7)) (Nat.le_succ _) ti_74_17 rfl ?_
    refine a_w3p (args := [(2, 7)]) (Nat.le_succ _) ti_74_20 (mt_24 7 H1) rfl rfl rfl rfl ?_
    exact a_w4 (Nat.le_succ _) ti_74_23 rfl rfl rfl
  · refine a_w2 (z := (-1)) (Nat.le_succ _) ti_74_9 (by decide) ?_
    exact a_w4 (Nat.le_succ _) ti_74_10 rfl rfl rfl
/-- CarriedGate.wetIfLooking(II)I -/
noncomputable def fn_94 (a1 : Int) (a2 : Int) (H : a_P) : a_F :=
  a_bd (fn_10 7 1 H) fun H1 =>
  a_bd (a_up H1 7 1 a1) fun H2 =>
  a_bd (fn_26 7 a2 H2) fun H3 =>
  (fn_24 7 H3, H3)
theorem ti_94_0 : (q_I 94).2 0 = some (0, 4, 0, 0, 2, 1, []) := rfl
theorem ti_94_1 : (q_I 94).2 1 = some (1, 0, 16, 5, 1, 4, [232]) := rfl
theorem ti_94_4 : (q_I 94).2 4 = some (0, 4, 0, 0, 2, 5, []) := rfl
theorem ti_94_5 : (q_I 94).2 5 = some (1, 0, 10, 5, 0, 8, [231]) := rfl
theorem ti_94_8 : (q_I 94).2 8 = some (3, 0, 126, 10, 2, 11, [466, 2]) := rfl
theorem ti_94_11 : (q_I 94).2 11 = some (0, 4, 0, 0, 2, 12, []) := rfl
theorem ti_94_12 : (q_I 94).2 12 = some (1, 0, 16, 5, 1, 15, [232]) := rfl
theorem ti_94_15 : (q_I 94).2 15 = some (0, 0, 0, 1, 0, 16, []) := rfl
theorem ti_94_16 : (q_I 94).2 16 = some (10, 0, 133, 2, 1, 19, [88]) := rfl
theorem ti_94_19 : (q_I 94).2 19 = some (0, 4, 0, 0, 2, 20, []) := rfl
theorem ti_94_20 : (q_I 94).2 20 = some (1, 0, 16, 5, 1, 23, [232]) := rfl
theorem ti_94_23 : (q_I 94).2 23 = some (0, 0, 0, 2, 0, 24, []) := rfl
theorem ti_94_24 : (q_I 94).2 24 = some (3, 0, 210, 26, 2, 27, [593, 2]) := rfl
theorem ti_94_27 : (q_I 94).2 27 = some (0, 4, 0, 0, 2, 28, []) := rfl
theorem ti_94_28 : (q_I 94).2 28 = some (1, 0, 16, 5, 1, 31, [232]) := rfl
theorem ti_94_31 : (q_I 94).2 31 = some (3, 0, 149, 24, 1, 34, [486, 2]) := rfl
theorem ti_94_34 : (q_I 94).2 34 = some (4, 0, 0, 0, 0, 35, []) := rfl
theorem mt_94 (a1 : Int) (a2 : Int) (H : a_P) : a_mt id 0 94 [(2, 0), (0, a1), (0, a2)] H (fn_94 a1 a2 H) := by
  refine a_mtI (lo := [some (2, 0), some (0, a1), some (0, a2)]) rfl fun d => ?_
  unfold fn_94
  refine a_w0 (Nat.le_succ _) ti_94_0 rfl ?_
  refine a_w1 (a := (2, 7)) (Nat.le_succ _) ti_94_1 rfl ?_
  refine a_w0 (Nat.le_succ _) ti_94_4 rfl ?_
  refine a_w1 (a := (2, 1)) (Nat.le_succ _) ti_94_5 rfl ?_
  refine a_w3v (args := [(2, 7), (2, 1)]) (Nat.le_succ _) ti_94_8 (mt_10 7 1 H) rfl rfl (fun H1 => ?_)
  refine a_w0 (Nat.le_succ _) ti_94_11 rfl ?_
  refine a_w1 (a := (2, 7)) (Nat.le_succ _) ti_94_12 rfl ?_
  refine a_w0 (Nat.le_succ _) ti_94_15 rfl ?_
  refine a_w10 (Nat.le_succ _) ti_94_16 rfl rfl rfl (fun H2 => ?_)
  refine a_w0 (Nat.le_succ _) ti_94_19 rfl ?_
  refine a_w1 (a := (2, 7)) (Nat.le_succ _) ti_94_20 rfl ?_
  refine a_w0 (Nat.le_succ _) ti_94_23 rfl ?_
  refine a_w3v (args := [(2, 7), (0, a2)]) (Nat.le_succ _) ti_94_24 (mt_26 7 a2 H2) rfl rfl (fun H3 => ?_)
  refine a_w0 (Nat.le_succ _) ti_94_27 rfl ?_
  refine a_w1 (a := (2, 7)) (Nat.le_succ _) ti_94_28 rfl ?_
  refine a_w3p (args := [(2, 7)]) (Nat.le_succ _) ti_94_31 (mt_24 7 H3) rfl rfl rfl rfl ?_
  exact a_w4 (Nat.le_succ _) ti_94_34 rfl rfl rfl
/-- CarriedGate.facing(II)I -/
noncomputable def fn_75 (a1 : Int) (a2 : Int) (H : a_P) : a_F :=
  a_jn (fun (s1 : Unit) => ((-1), H)) fun j19 =>
  (if a1 < 1 then j19 ()
  else (if 40 < a1 then j19 ()
  else (if (fn_91 a2 2) = 0 then j19 ()
  else a_bd (fn_94 0 a1 H) fun g1 =>
  a_jn (fun (s2 : Int × Int × a_P) => a_jn (fun (s3 : Int) => (s3, s2.2.2)) fun j79 =>
  (if a2 = 0 then j79 s2.1
  else j79 s2.2.1)) fun j69 =>
  a_lp (fun (s4 : Int × Int × Int × a_P) => (0, s4.2.2.2)) (fun (s4 : Int × Int × Int × a_P) n34 => (if s4.2.2.1 < 4 then a_bd (fn_94 s4.2.2.1 a1 s4.2.2.2) fun g2 =>
  a_jn (fun (s5 : Int × Int) => a_bd (a_w (s4.2.2.1 + 1)) fun x1 =>
  n34 (s5.1, s5.2, x1, g2.2)) fun j63 =>
  (if g2.1 < s4.2.1 then j63 (s4.2.2.1, g2.1)
  else j63 (s4.1, s4.2.1))
  else j69 (s4.1, s4.2.1, s4.2.2.2))) a_fuel (0, g1.1, 1, g1.2))))
theorem ti_75_0 : (q_I 75).2 0 = some (0, 0, 0, 1, 0, 1, []) := rfl
theorem ti_75_1 : (q_I 75).2 1 = some (2, 0, 1, 0, 0, 2, []) := rfl
theorem ti_75_2 : (q_I 75).2 2 = some (9, 2, 0, 19, 0, 5, []) := rfl
theorem ti_75_5 : (q_I 75).2 5 = some (0, 0, 0, 1, 0, 6, []) := rfl
theorem ti_75_6 : (q_I 75).2 6 = some (2, 1, 40, 0, 0, 8, []) := rfl
theorem ti_75_8 : (q_I 75).2 8 = some (9, 4, 0, 19, 0, 11, []) := rfl
theorem ti_75_11 : (q_I 75).2 11 = some (0, 0, 0, 2, 0, 12, []) := rfl
theorem ti_75_12 : (q_I 75).2 12 = some (2, 0, 2, 0, 0, 13, []) := rfl
theorem ti_75_13 : (q_I 75).2 13 = some (3, 1, 64, 91, 2, 16, [269, 5]) := rfl
theorem ti_75_16 : (q_I 75).2 16 = some (8, 1, 0, 21, 0, 19, []) := rfl
theorem ti_75_21 : (q_I 75).2 21 = some (2, 0, 0, 0, 0, 22, []) := rfl
theorem ti_75_22 : (q_I 75).2 22 = some (11, 0, 0, 3, 0, 23, []) := rfl
theorem ti_75_23 : (q_I 75).2 23 = some (0, 4, 0, 0, 2, 24, []) := rfl
theorem ti_75_24 : (q_I 75).2 24 = some (2, 0, 0, 0, 0, 25, []) := rfl
theorem ti_75_25 : (q_I 75).2 25 = some (0, 0, 0, 1, 0, 26, []) := rfl
theorem ti_75_26 : (q_I 75).2 26 = some (3, 0, 185, 94, 3, 29, [614, 5]) := rfl
theorem ti_75_29 : (q_I 75).2 29 = some (11, 1, 0, 4, 0, 31, []) := rfl
theorem ti_75_31 : (q_I 75).2 31 = some (2, 0, 1, 0, 0, 32, []) := rfl
theorem ti_75_32 : (q_I 75).2 32 = some (11, 1, 0, 5, 0, 34, []) := rfl
theorem ti_75_34 : (q_I 75).2 34 = some (0, 1, 0, 5, 0, 36, []) := rfl
theorem ti_75_36 : (q_I 75).2 36 = some (2, 0, 4, 0, 0, 37, []) := rfl
theorem ti_75_37 : (q_I 75).2 37 = some (9, 3, 0, 69, 0, 40, []) := rfl
theorem ti_75_40 : (q_I 75).2 40 = some (0, 4, 0, 0, 2, 41, []) := rfl
theorem ti_75_41 : (q_I 75).2 41 = some (0, 1, 0, 5, 0, 43, []) := rfl
theorem ti_75_43 : (q_I 75).2 43 = some (0, 0, 0, 1, 0, 44, []) := rfl
theorem ti_75_44 : (q_I 75).2 44 = some (3, 0, 185, 94, 3, 47, [614, 5]) := rfl
theorem ti_75_47 : (q_I 75).2 47 = some (11, 1, 0, 6, 0, 49, []) := rfl
theorem ti_75_49 : (q_I 75).2 49 = some (0, 1, 0, 6, 0, 51, []) := rfl
theorem ti_75_51 : (q_I 75).2 51 = some (0, 1, 0, 4, 0, 53, []) := rfl
theorem ti_75_53 : (q_I 75).2 53 = some (9, 3, 0, 63, 0, 56, []) := rfl
theorem ti_75_56 : (q_I 75).2 56 = some (0, 1, 0, 6, 0, 58, []) := rfl
theorem ti_75_58 : (q_I 75).2 58 = some (11, 1, 0, 4, 0, 60, []) := rfl
theorem ti_75_60 : (q_I 75).2 60 = some (0, 1, 0, 5, 0, 62, []) := rfl
theorem ti_75_62 : (q_I 75).2 62 = some (11, 0, 0, 3, 0, 63, []) := rfl
theorem ti_75_63 : (q_I 75).2 63 = some (13, 0, 1, 5, 0, 66, []) := rfl
theorem ti_75_66 : (q_I 75).2 66 = some (7, 0, 0, 34, 0, 69, []) := rfl
theorem ti_75_69 : (q_I 75).2 69 = some (0, 0, 0, 2, 0, 70, []) := rfl
theorem ti_75_70 : (q_I 75).2 70 = some (8, 1, 0, 77, 0, 73, []) := rfl
theorem ti_75_73 : (q_I 75).2 73 = some (0, 0, 0, 3, 0, 74, []) := rfl
theorem ti_75_74 : (q_I 75).2 74 = some (7, 0, 0, 79, 0, 77, []) := rfl
theorem ti_75_77 : (q_I 75).2 77 = some (0, 1, 0, 4, 0, 79, []) := rfl
theorem ti_75_79 : (q_I 75).2 79 = some (4, 0, 0, 0, 0, 80, []) := rfl
theorem ti_75_19 : (q_I 75).2 19 = some (2, 0, (-1), 0, 0, 20, []) := rfl
theorem ti_75_20 : (q_I 75).2 20 = some (4, 0, 0, 0, 0, 21, []) := rfl
theorem mt_75 (a1 : Int) (a2 : Int) (H : a_P) : a_mt id 0 75 [(2, 0), (0, a1), (0, a2)] H (fn_75 a1 a2 H) := by
  refine a_mtI (lo := [some (2, 0), some (0, a1), some (0, a2), none, none, none, none]) rfl fun d => ?_
  unfold fn_75
  refine a_w0 (Nat.le_succ _) ti_75_0 rfl ?_
  refine a_w2 (z := 1) (Nat.le_succ _) ti_75_1 (by decide) ?_
  refine a_wjn 19 (fun (s : Unit) => [none, none, none, none, none, none, none]) (fun (s : Unit) => []) (fun (s : Unit) => H) (fun s1 => ?_) (fun j19 hj19 => ?_)
  · refine a_w2 (z := (-1)) (Nat.le_succ _) ti_75_19 (by decide) ?_
    exact a_w4 (Nat.le_succ _) ti_75_20 rfl rfl rfl
  · refine a_w9_2 (Nat.le_succ _) ti_75_2 ?_ ?_
    · exact a_wk (hj19 ()) (by omega) trivial
    · refine a_w0 (Nat.le_succ _) ti_75_5 rfl ?_
      refine a_w2 (z := 40) (Nat.le_succ _) ti_75_6 (by decide) ?_
      refine a_w9_4 (Nat.le_succ _) ti_75_8 ?_ ?_
      · exact a_wk (hj19 ()) (by omega) trivial
      · refine a_w0 (Nat.le_succ _) ti_75_11 rfl ?_
        refine a_w2 (z := 2) (Nat.le_succ _) ti_75_12 (by decide) ?_
        refine a_w3p (args := [(0, a2), (0, 2)]) (Nat.le_succ _) ti_75_13 (mt_91 a2 2 H) rfl rfl rfl rfl ?_
        refine a_w8_1 (Nat.le_succ _) ti_75_16 ?_ ?_
        · refine a_w2 (z := 0) (Nat.le_succ _) ti_75_21 (by decide) ?_
          refine a_w11 (lo' := [some (2, 0), some (0, a1), some (0, a2), some (0, 0), none, none, none]) (Nat.le_succ _) ti_75_22 rfl ?_
          refine a_w0 (Nat.le_succ _) ti_75_23 rfl ?_
          refine a_w2 (z := 0) (Nat.le_succ _) ti_75_24 (by decide) ?_
          refine a_w0 (Nat.le_succ _) ti_75_25 rfl ?_
          refine a_w3i (args := [(2, 0), (0, 0), (0, a1)]) (Nat.le_succ _) ti_75_26 (mt_94 0 a1 H) (fun _ => rfl) rfl rfl (fun g1 => ?_)
          refine a_w11 (lo' := [some (2, 0), some (0, a1), some (0, a2), some (0, 0), some (0, g1.1), none, none]) (Nat.le_succ _) ti_75_29 rfl ?_
          refine a_w2 (z := 1) (Nat.le_succ _) ti_75_31 (by decide) ?_
          refine a_w11 (lo' := [some (2, 0), some (0, a1), some (0, a2), some (0, 0), some (0, g1.1), some (0, 1), none]) (Nat.le_succ _) ti_75_32 rfl ?_
          refine a_wjn 69 (fun (s : Int × Int × a_P) => [none, none, some (0, a2), some (0, s.1), some (0, s.2.1), none, none]) (fun (s : Int × Int × a_P) => []) (fun (s : Int × Int × a_P) => s.2.2) (fun s2 => ?_) (fun j69 hj69 => ?_)
          · refine a_w0 (Nat.le_succ _) ti_75_69 rfl ?_
            refine a_wjn 79 (fun (s : Int) => [none, none, none, none, none, none, none]) (fun (s : Int) => [(0, s)]) (fun (s : Int) => s2.2.2) (fun s3 => ?_) (fun j79 hj79 => ?_)
            · exact a_w4 (Nat.le_succ _) ti_75_79 rfl rfl rfl
            · refine a_w8_1 (Nat.le_succ _) ti_75_70 ?_ ?_
              · refine a_w0 (Nat.le_succ _) ti_75_77 rfl ?_
                exact a_wk (hj79 s2.2.1) (by omega) trivial
              · refine a_w0 (Nat.le_succ _) ti_75_73 rfl ?_
                refine a_w7 (Nat.le_succ _) ti_75_74 ?_
                exact a_wk (hj79 s2.1) (by omega) trivial
          · refine a_wk (a_wlp (fun (s : Int × Int × Int × a_P) => [some (2, 0), some (0, a1), some (0, a2), some (0, s.1), some (0, s.2.1), some (0, s.2.2.1), none]) (fun (s : Int × Int × Int × a_P) => s.2.2.2) (fun N1 hN1 n34 hn34 s4 => ?_) a_fuel (a_fuel_le (by omega)) (0, g1.1, 1, g1.2)) (Nat.le_refl _) ⟨rfl, rfl, rfl, rfl, rfl, rfl, trivial⟩
            · refine a_w0 (Nat.le_refl _) ti_75_34 rfl ?_
              refine a_w2 (z := 4) (Nat.le_succ _) ti_75_36 (by decide) ?_
              refine a_w9_3 (Nat.le_succ _) ti_75_37 ?_ ?_
              · exact a_wk (hj69 (s4.1, s4.2.1, s4.2.2.2)) (by omega) ⟨rfl, rfl, rfl, trivial⟩
              · refine a_w0 (Nat.le_succ _) ti_75_40 rfl ?_
                refine a_w0 (Nat.le_succ _) ti_75_41 rfl ?_
                refine a_w0 (Nat.le_succ _) ti_75_43 rfl ?_
                refine a_w3i (args := [(2, 0), (0, s4.2.2.1), (0, a1)]) (Nat.le_succ _) ti_75_44 (mt_94 s4.2.2.1 a1 s4.2.2.2) (fun _ => rfl) rfl rfl (fun g2 => ?_)
                refine a_w11 (lo' := [some (2, 0), some (0, a1), some (0, a2), some (0, s4.1), some (0, s4.2.1), some (0, s4.2.2.1), some (0, g2.1)]) (Nat.le_succ _) ti_75_47 rfl ?_
                refine a_w0 (Nat.le_succ _) ti_75_49 rfl ?_
                refine a_w0 (Nat.le_succ _) ti_75_51 rfl ?_
                refine a_wjn 63 (fun (s : Int × Int) => [some (2, 0), some (0, a1), some (0, a2), some (0, s.1), some (0, s.2), some (0, s4.2.2.1), none]) (fun (s : Int × Int) => []) (fun (s : Int × Int) => g2.2) (fun s5 => ?_) (fun j63 hj63 => ?_)
                · refine a_w13 (c' := 1) (lof := fun x1 => [some (2, 0), some (0, a1), some (0, a2), some (0, s5.1), some (0, s5.2), some (0, x1), none]) (Nat.le_succ _) ti_75_63 rfl (by decide) rfl (fun _ => rfl) (fun x1 => ?_)
                  refine a_w7 (Nat.le_succ _) ti_75_66 ?_
                  exact a_wk (hn34 (s5.1, s5.2, x1, g2.2)) (by omega) ⟨rfl, rfl, rfl, rfl, rfl, rfl, trivial⟩
                · refine a_w9_3 (Nat.le_succ _) ti_75_53 ?_ ?_
                  · exact a_wk (hj63 (s4.1, s4.2.1)) (by omega) ⟨rfl, rfl, rfl, rfl, rfl, rfl, trivial⟩
                  · refine a_w0 (Nat.le_succ _) ti_75_56 rfl ?_
                    refine a_w11 (lo' := [some (2, 0), some (0, a1), some (0, a2), some (0, s4.1), some (0, g2.1), some (0, s4.2.2.1), some (0, g2.1)]) (Nat.le_succ _) ti_75_58 rfl ?_
                    refine a_w0 (Nat.le_succ _) ti_75_60 rfl ?_
                    refine a_w11 (lo' := [some (2, 0), some (0, a1), some (0, a2), some (0, s4.2.2.1), some (0, g2.1), some (0, s4.2.2.1), some (0, g2.1)]) (Nat.le_succ _) ti_75_62 rfl ?_
                    exact a_wk (hj63 (s4.2.2.1, g2.1)) (by omega) ⟨rfl, rfl, rfl, rfl, rfl, rfl, trivial⟩
        · exact a_wk (hj19 ()) (by omega) trivial
/-- CarriedGate$Plain.isSet(I)Z -/
noncomputable def fn_13 (p : Int) (a1 : Int) (H : a_P) : Int :=
  a_jn (fun (s1 : Int) => s1) fun j19 =>
  a_jn (fun (s2 : Unit) => j19 0) fun j18 =>
  (if a1 < 0 then j18 ()
  else (if a1 < (a_shl 1 (H p 6)) then j19 1
  else j18 ()))
theorem ti_13_0 : (q_I 13).2 0 = some (0, 0, 0, 1, 0, 1, []) := rfl
theorem ti_13_1 : (q_I 13).2 1 = some (8, 2, 0, 18, 0, 4, []) := rfl
theorem ti_13_4 : (q_I 13).2 4 = some (0, 0, 0, 1, 0, 5, []) := rfl
theorem ti_13_5 : (q_I 13).2 5 = some (2, 0, 1, 0, 0, 6, []) := rfl
theorem ti_13_6 : (q_I 13).2 6 = some (0, 4, 0, 0, 2, 7, []) := rfl
theorem ti_13_7 : (q_I 13).2 7 = some (1, 0, 30, 2, 6, 10, [100]) := rfl
theorem ti_13_10 : (q_I 13).2 10 = some (6, 8, 0, 0, 0, 11, []) := rfl
theorem ti_13_11 : (q_I 13).2 11 = some (9, 3, 0, 18, 0, 14, []) := rfl
theorem ti_13_14 : (q_I 13).2 14 = some (2, 0, 1, 0, 0, 15, []) := rfl
theorem ti_13_15 : (q_I 13).2 15 = some (7, 0, 0, 19, 0, 18, []) := rfl
theorem ti_13_18 : (q_I 13).2 18 = some (2, 0, 0, 0, 0, 19, []) := rfl
theorem ti_13_19 : (q_I 13).2 19 = some (4, 3, 0, 0, 0, 20, []) := rfl
theorem mt_13 (p : Int) (a1 : Int) (H : a_P) : a_mt (a_pp H) 0 13 [(2, p), (0, a1)] H (fn_13 p a1 H) := by
  refine a_mtI (lo := [some (2, p), some (0, a1)]) rfl fun d => ?_
  unfold fn_13
  refine a_w0 (Nat.le_succ _) ti_13_0 rfl ?_
  refine a_wjn 19 (fun (s : Int) => [none, none]) (fun (s : Int) => [(0, s)]) (fun (s : Int) => H) (fun s1 => ?_) (fun j19 hj19 => ?_)
  · exact a_w4 (Nat.le_succ _) ti_13_19 rfl rfl rfl
  · refine a_wjn 18 (fun (s : Unit) => [none, none]) (fun (s : Unit) => []) (fun (s : Unit) => H) (fun s2 => ?_) (fun j18 hj18 => ?_)
    · refine a_w2 (z := 0) (Nat.le_succ _) ti_13_18 (by decide) ?_
      exact a_wk (hj19 0) (by omega) trivial
    · refine a_w8_2 (Nat.le_succ _) ti_13_1 ?_ ?_
      · exact a_wk (hj18 ()) (by omega) trivial
      · refine a_w0 (Nat.le_succ _) ti_13_4 rfl ?_
        refine a_w2 (z := 1) (Nat.le_succ _) ti_13_5 (by decide) ?_
        refine a_w0 (Nat.le_succ _) ti_13_6 rfl ?_
        refine a_w1 (a := (0, H p 6)) (Nat.le_succ _) ti_13_7 rfl ?_
        refine a_w6 (a := (0, a_shl 1 (H p 6))) (Nat.le_succ _) ti_13_10 rfl ?_
        refine a_w9_3 (Nat.le_succ _) ti_13_11 ?_ ?_
        · exact a_wk (hj18 ()) (by omega) trivial
        · refine a_w2 (z := 1) (Nat.le_succ _) ti_13_14 (by decide) ?_
          refine a_w7 (Nat.le_succ _) ti_13_15 ?_
          exact a_wk (hj19 1) (by omega) trivial
/-- CarriedGate$Placing.forgetAll()V -/
noncomputable def fn_6 (H : a_P) : a_P :=
  a_bd (a_up H 122 4 1) fun H1 =>
  H1
theorem ti_6_0 : (q_I 6).2 0 = some (0, 4, 0, 0, 2, 1, []) := rfl
theorem ti_6_1 : (q_I 6).2 1 = some (2, 0, 1, 0, 0, 2, []) := rfl
theorem ti_6_2 : (q_I 6).2 2 = some (10, 3, 22, 1, 4, 5, [196]) := rfl
theorem ti_6_5 : (q_I 6).2 5 = some (4, 4, 0, 0, 0, 6, []) := rfl
theorem mt_6 (H : a_P) : a_mt a_pv 9 6 [(2, 122)] H (fn_6 H) := by
  refine a_mtI (lo := [some (2, 122)]) rfl fun d => ?_
  unfold fn_6
  refine a_w0 (Nat.le_succ _) ti_6_0 rfl ?_
  refine a_w2 (z := 1) (Nat.le_succ _) ti_6_1 (by decide) ?_
  refine a_w10 (Nat.le_succ _) ti_6_2 rfl rfl rfl (fun H1 => ?_)
  exact a_w4v (Nat.le_succ _) ti_6_5 rfl rfl

/-- CarriedGate$Past.forgetAll()V -/
noncomputable def fn_3 (p : Int) (H : a_P) : a_P :=
  a_bd (a_up H p 2 0) fun H1 =>
  H1
theorem ti_3_0 : (q_I 3).2 0 = some (0, 4, 0, 0, 2, 1, []) := rfl
theorem ti_3_1 : (q_I 3).2 1 = some (2, 0, 0, 0, 0, 2, []) := rfl
theorem ti_3_2 : (q_I 3).2 2 = some (10, 0, 19, 0, 2, 5, [150]) := rfl
theorem ti_3_5 : (q_I 3).2 5 = some (4, 4, 0, 0, 0, 6, []) := rfl
theorem mt_3 (p : Int) (H : a_P) : a_mt a_pv 9 3 [(2, p)] H (fn_3 p H) := by
  refine a_mtI (lo := [some (2, p)]) rfl fun d => ?_
  unfold fn_3
  refine a_w0 (Nat.le_succ _) ti_3_0 rfl ?_
  refine a_w2 (z := 0) (Nat.le_succ _) ti_3_1 (by decide) ?_
  refine a_w10 (Nat.le_succ _) ti_3_2 rfl rfl rfl (fun H1 => ?_)
  exact a_w4v (Nat.le_succ _) ti_3_5 rfl rfl
/-- CarriedGate$Plain.addPerson(IIII)I -/
noncomputable def fn_11 (p : Int) (a1 : Int) (a2 : Int) (a3 : Int) (a4 : Int) (H : a_P) : a_F :=
  a_bd (H p 6) fun x1 =>
  a_jn (fun (s1 : Unit) => ((-3), H)) fun j18 =>
  (if x1 < 0 then j18 ()
  else (if x1 < 8 then a_bd (a_up H (p + 1) x1 a1) fun H1 =>
  a_bd (a_up H1 (p + 2) x1 a2) fun H2 =>
  a_bd (a_up H2 (p + 3) x1 a3) fun H3 =>
  a_bd (a_up H3 (p + 4) x1 a4) fun H4 =>
  a_bd (a_up H4 (p + 5) x1 0) fun H5 =>
  a_bd (a_up H5 p 6 (a_w ((H5 p 6) + 1))) fun H6 =>
  (x1, H6)
  else j18 ()))
theorem ti_11_0 : (q_I 11).2 0 = some (0, 4, 0, 0, 2, 1, []) := rfl
theorem ti_11_1 : (q_I 11).2 1 = some (1, 0, 30, 2, 6, 4, [100]) := rfl
theorem ti_11_4 : (q_I 11).2 4 = some (11, 1, 0, 5, 0, 6, []) := rfl
theorem ti_11_6 : (q_I 11).2 6 = some (0, 1, 0, 5, 0, 8, []) := rfl
theorem ti_11_8 : (q_I 11).2 8 = some (8, 2, 0, 18, 0, 11, []) := rfl
theorem ti_11_11 : (q_I 11).2 11 = some (0, 1, 0, 5, 0, 13, []) := rfl
theorem ti_11_13 : (q_I 11).2 13 = some (2, 1, 8, 0, 0, 15, []) := rfl
theorem ti_11_15 : (q_I 11).2 15 = some (9, 2, 0, 21, 0, 18, []) := rfl
theorem ti_11_21 : (q_I 11).2 21 = some (0, 4, 0, 0, 2, 22, []) := rfl
theorem ti_11_22 : (q_I 11).2 22 = some (1, 0, 33, 2, 7, 25, [103]) := rfl
theorem ti_11_25 : (q_I 11).2 25 = some (0, 1, 0, 5, 0, 27, []) := rfl
theorem ti_11_27 : (q_I 11).2 27 = some (0, 0, 0, 1, 0, 28, []) := rfl
theorem ti_11_28 : (q_I 11).2 28 = some (12, 10, 0, 0, 0, 29, []) := rfl
theorem ti_11_29 : (q_I 11).2 29 = some (0, 4, 0, 0, 2, 30, []) := rfl
theorem ti_11_30 : (q_I 11).2 30 = some (1, 0, 37, 2, 8, 33, [105]) := rfl
theorem ti_11_33 : (q_I 11).2 33 = some (0, 1, 0, 5, 0, 35, []) := rfl
theorem ti_11_35 : (q_I 11).2 35 = some (0, 0, 0, 2, 0, 36, []) := rfl
theorem ti_11_36 : (q_I 11).2 36 = some (12, 10, 0, 0, 0, 37, []) := rfl
theorem ti_11_37 : (q_I 11).2 37 = some (0, 4, 0, 0, 2, 38, []) := rfl
theorem ti_11_38 : (q_I 11).2 38 = some (1, 0, 40, 2, 9, 41, [107]) := rfl
theorem ti_11_41 : (q_I 11).2 41 = some (0, 1, 0, 5, 0, 43, []) := rfl
theorem ti_11_43 : (q_I 11).2 43 = some (0, 0, 0, 3, 0, 44, []) := rfl
theorem ti_11_44 : (q_I 11).2 44 = some (12, 10, 0, 0, 0, 45, []) := rfl
theorem ti_11_45 : (q_I 11).2 45 = some (0, 4, 0, 0, 2, 46, []) := rfl
theorem ti_11_46 : (q_I 11).2 46 = some (1, 0, 43, 2, 10, 49, [109]) := rfl
theorem ti_11_49 : (q_I 11).2 49 = some (0, 1, 0, 5, 0, 51, []) := rfl
theorem ti_11_51 : (q_I 11).2 51 = some (0, 1, 0, 4, 0, 53, []) := rfl
theorem ti_11_53 : (q_I 11).2 53 = some (12, 10, 0, 0, 0, 54, []) := rfl
theorem ti_11_54 : (q_I 11).2 54 = some (0, 4, 0, 0, 2, 55, []) := rfl
theorem ti_11_55 : (q_I 11).2 55 = some (1, 0, 46, 2, 11, 58, [111]) := rfl
theorem ti_11_58 : (q_I 11).2 58 = some (0, 1, 0, 5, 0, 60, []) := rfl
theorem ti_11_60 : (q_I 11).2 60 = some (2, 0, 0, 0, 0, 61, []) := rfl
theorem ti_11_61 : (q_I 11).2 61 = some (12, 10, 0, 0, 0, 62, []) := rfl
theorem ti_11_62 : (q_I 11).2 62 = some (0, 4, 0, 0, 2, 63, []) := rfl
theorem ti_11_63 : (q_I 11).2 63 = some (16, 0, 0, 0, 0, 64, []) := rfl
theorem ti_11_64 : (q_I 11).2 64 = some (1, 0, 30, 2, 6, 67, [100]) := rfl
theorem ti_11_67 : (q_I 11).2 67 = some (2, 0, 1, 0, 0, 68, []) := rfl
theorem ti_11_68 : (q_I 11).2 68 = some (6, 0, 0, 0, 0, 69, []) := rfl
theorem ti_11_69 : (q_I 11).2 69 = some (10, 0, 30, 2, 6, 72, [100]) := rfl
theorem ti_11_72 : (q_I 11).2 72 = some (0, 1, 0, 5, 0, 74, []) := rfl
theorem ti_11_74 : (q_I 11).2 74 = some (4, 0, 0, 0, 0, 75, []) := rfl
theorem ti_11_18 : (q_I 11).2 18 = some (2, 1, (-3), 0, 0, 20, []) := rfl
theorem ti_11_20 : (q_I 11).2 20 = some (4, 0, 0, 0, 0, 21, []) := rfl
theorem mt_11 (p : Int) (a1 : Int) (a2 : Int) (a3 : Int) (a4 : Int) (H : a_P) : a_mt id 0 11 [(2, p), (0, a1), (0, a2), (0, a3), (0, a4)] H (fn_11 p a1 a2 a3 a4 H) := by
  refine a_mtI (lo := [some (2, p), some (0, a1), some (0, a2), some (0, a3), some (0, a4), none]) rfl fun d => ?_
  unfold fn_11
  refine a_w0 (Nat.le_succ _) ti_11_0 rfl ?_
  refine a_w1 (a := (0, H p 6)) (Nat.le_succ _) ti_11_1 rfl ?_
  refine a_w11b (lof := fun x1 => [some (2, p), some (0, a1), some (0, a2), some (0, a3), some (0, a4), some (0, x1)]) (Nat.le_succ _) ti_11_4 (fun _ => rfl) (fun x1 => ?_)
  refine a_w0 (Nat.le_succ _) ti_11_6 rfl ?_
  refine a_wjn 18 (fun (s : Unit) => [none, none, none, none, none, none]) (fun (s : Unit) => []) (fun (s : Unit) => H) (fun s1 => ?_) (fun j18 hj18 => ?_)
  · refine a_w2 (z := (-3)) (Nat.le_succ _) ti_11_18 (by decide) ?_
    exact a_w4 (Nat.le_succ _) ti_11_20 rfl rfl rfl
  · refine a_w8_2 (Nat.le_succ _) ti_11_8 ?_ ?_
    · exact a_wk (hj18 ()) (by omega) trivial
    · refine a_w0 (Nat.le_succ _) ti_11_11 rfl ?_
      refine a_w2 (z := 8) (Nat.le_succ _) ti_11_13 (by decide) ?_
      refine a_w9_2 (Nat.le_succ _) ti_11_15 ?_ ?_
      · refine a_w0 (Nat.le_succ _) ti_11_21 rfl ?_
        refine a_w1 (a := (2, (p + 1))) (Nat.le_succ _) ti_11_22 rfl ?_
        refine a_w0 (Nat.le_succ _) ti_11_25 rfl ?_
        refine a_w0 (Nat.le_succ _) ti_11_27 rfl ?_
        refine a_w12 (Nat.le_succ _) ti_11_28 (Or.inl ⟨rfl, rfl⟩) (fun H1 => ?_)
        refine a_w0 (Nat.le_succ _) ti_11_29 rfl ?_
        refine a_w1 (a := (2, (p + 2))) (Nat.le_succ _) ti_11_30 rfl ?_
        refine a_w0 (Nat.le_succ _) ti_11_33 rfl ?_
        refine a_w0 (Nat.le_succ _) ti_11_35 rfl ?_
        refine a_w12 (Nat.le_succ _) ti_11_36 (Or.inl ⟨rfl, rfl⟩) (fun H2 => ?_)
        refine a_w0 (Nat.le_succ _) ti_11_37 rfl ?_
        refine a_w1 (a := (2, (p + 3))) (Nat.le_succ _) ti_11_38 rfl ?_
        refine a_w0 (Nat.le_succ _) ti_11_41 rfl ?_
        refine a_w0 (Nat.le_succ _) ti_11_43 rfl ?_
        refine a_w12 (Nat.le_succ _) ti_11_44 (Or.inl ⟨rfl, rfl⟩) (fun H3 => ?_)
        refine a_w0 (Nat.le_succ _) ti_11_45 rfl ?_
        refine a_w1 (a := (2, (p + 4))) (Nat.le_succ _) ti_11_46 rfl ?_
        refine a_w0 (Nat.le_succ _) ti_11_49 rfl ?_
        refine a_w0 (Nat.le_succ _) ti_11_51 rfl ?_
        refine a_w12 (Nat.le_succ _) ti_11_53 (Or.inl ⟨rfl, rfl⟩) (fun H4 => ?_)
        refine a_w0 (Nat.le_succ _) ti_11_54 rfl ?_
        refine a_w1 (a := (2, (p + 5))) (Nat.le_succ _) ti_11_55 rfl ?_
        refine a_w0 (Nat.le_succ _) ti_11_58 rfl ?_
        refine a_w2 (z := 0) (Nat.le_succ _) ti_11_60 (by decide) ?_
        refine a_w12 (Nat.le_succ _) ti_11_61 (Or.inl ⟨rfl, rfl⟩) (fun H5 => ?_)
        refine a_w0 (Nat.le_succ _) ti_11_62 rfl ?_
        refine a_w16 (Nat.le_succ _) ti_11_63 ?_
        refine a_w1 (a := (0, H5 p 6)) (Nat.le_succ _) ti_11_64 rfl ?_
        refine a_w2 (z := 1) (Nat.le_succ _) ti_11_67 (by decide) ?_
        refine a_w6 (a := (0, a_w ((H5 p 6) + 1))) (Nat.le_succ _) ti_11_68 rfl ?_
        refine a_w10 (Nat.le_succ _) ti_11_69 rfl rfl rfl (fun H6 => ?_)
        refine a_w0 (Nat.le_succ _) ti_11_72 rfl ?_
        exact a_w4 (Nat.le_succ _) ti_11_74 rfl rfl rfl
      · exact a_wk (hj18 ()) (by omega) trivial
/-- CarriedGate.isBelow(II)Z -/
noncomputable def fn_91 (a0 : Int) (a1 : Int) : Int :=
  a_jn (fun (s1 : Int) => s1) fun j14 =>
  a_jn (fun (s2 : Unit) => j14 0) fun j13 =>
  (if a0 < 0 then j13 ()
  else (if a0 < a1 then j14 1
  else j13 ()))
theorem ti_91_0 : (q_I 91).2 0 = some (0, 0, 0, 0, 0, 1, []) := rfl
theorem ti_91_1 : (q_I 91).2 1 = some (8, 2, 0, 13, 0, 4, []) := rfl
theorem ti_91_4 : (q_I 91).2 4 = some (0, 0, 0, 0, 0, 5, []) := rfl
theorem ti_91_5 : (q_I 91).2 5 = some (0, 0, 0, 1, 0, 6, []) := rfl
theorem ti_91_6 : (q_I 91).2 6 = some (9, 3, 0, 13, 0, 9, []) := rfl
theorem ti_91_9 : (q_I 91).2 9 = some (2, 0, 1, 0, 0, 10, []) := rfl
theorem ti_91_10 : (q_I 91).2 10 = some (7, 0, 0, 14, 0, 13, []) := rfl
theorem ti_91_13 : (q_I 91).2 13 = some (2, 0, 0, 0, 0, 14, []) := rfl
theorem ti_91_14 : (q_I 91).2 14 = some (4, 3, 0, 0, 0, 15, []) := rfl
theorem mt_91 (a0 : Int) (a1 : Int) (H : a_P) : a_mt (a_pp H) 0 91 [(0, a0), (0, a1)] H (fn_91 a0 a1) := by
  refine a_mtI (lo := [some (0, a0), some (0, a1)]) rfl fun d => ?_
  unfold fn_91
  refine a_w0 (Nat.le_succ _) ti_91_0 rfl ?_
  refine a_wjn 14 (fun (s : Int) => [none, none]) (fun (s : Int) => [(0, s)]) (fun (s : Int) => H) (fun s1 => ?_) (fun j14 hj14 => ?_)
  · exact a_w4 (Nat.le_succ _) ti_91_14 rfl rfl rfl
  · refine a_wjn 13 (fun (s : Unit) => [none, none]) (fun (s : Unit) => []) (fun (s : Unit) => H) (fun s2 => ?_) (fun j13 hj13 => ?_)
    · refine a_w2 (z := 0) (Nat.le_succ _) ti_91_13 (by decide) ?_
      exact a_wk (hj14 0) (by omega) trivial
    · refine a_w8_2 (Nat.le_succ _) ti_91_1 ?_ ?_
      · exact a_wk (hj13 ()) (by omega) trivial
      · refine a_w0 (Nat.le_succ _) ti_91_4 rfl ?_
        refine a_w0 (Nat.le_succ _) ti_91_5 rfl ?_
        refine a_w9_3 (Nat.le_succ _) ti_91_6 ?_ ?_
        · exact a_wk (hj13 ()) (by omega) trivial
        · refine a_w2 (z := 1) (Nat.le_succ _) ti_91_9 (by decide) ?_
          refine a_w7 (Nat.le_succ _) ti_91_10 ?_
          exact a_wk (hj14 1) (by omega) trivial
/-- CarriedGate.person(III)I -/
noncomputable def fn_55 (a1 : Int) (a2 : Int) (a3 : Int) (H : a_P) : a_F :=
  a_jn (fun (s1 : Unit) => ((-1), H)) fun j26 =>
  (if (fn_91 a1 5) = 0 then j26 ()
  else (if (fn_91 a2 36) = 0 then j26 ()
  else (if (fn_91 a3 21) = 0 then j26 ()
  else (if (H 1 6) < 8 then a_bd (fn_3 13 H) fun H1 =>
  a_bd (fn_11 1 a1 a2 4 a3 H1) fun g1 =>
  (g1.1, g1.2)
  else ((-3), H)))))
theorem ti_55_0 : (q_I 55).2 0 = some (0, 0, 0, 1, 0, 1, []) := rfl
theorem ti_55_1 : (q_I 55).2 1 = some (2, 0, 5, 0, 0, 2, []) := rfl
theorem ti_55_2 : (q_I 55).2 2 = some (3, 1, 64, 91, 2, 5, [269, 5]) := rfl
theorem ti_55_5 : (q_I 55).2 5 = some (8, 0, 0, 26, 0, 8, []) := rfl
theorem ti_55_8 : (q_I 55).2 8 = some (0, 0, 0, 2, 0, 9, []) := rfl
theorem ti_55_9 : (q_I 55).2 9 = some (2, 1, 36, 0, 0, 11, []) := rfl
theorem ti_55_11 : (q_I 55).2 11 = some (3, 1, 64, 91, 2, 14, [269, 5]) := rfl
theorem ti_55_14 : (q_I 55).2 14 = some (8, 0, 0, 26, 0, 17, []) := rfl
theorem ti_55_17 : (q_I 55).2 17 = some (0, 0, 0, 3, 0, 18, []) := rfl
theorem ti_55_18 : (q_I 55).2 18 = some (2, 1, 21, 0, 0, 20, []) := rfl
theorem ti_55_20 : (q_I 55).2 20 = some (3, 1, 64, 91, 2, 23, [269, 5]) := rfl
theorem ti_55_23 : (q_I 55).2 23 = some (8, 1, 0, 28, 0, 26, []) := rfl
theorem ti_55_28 : (q_I 55).2 28 = some (0, 4, 0, 0, 2, 29, []) := rfl
theorem ti_55_29 : (q_I 55).2 29 = some (1, 0, 10, 5, 0, 32, [231]) := rfl
theorem ti_55_32 : (q_I 55).2 32 = some (1, 0, 68, 2, 6, 35, [101]) := rfl
theorem ti_55_35 : (q_I 55).2 35 = some (2, 1, 8, 0, 0, 37, []) := rfl
theorem ti_55_37 : (q_I 55).2 37 = some (9, 2, 0, 43, 0, 40, []) := rfl
theorem ti_55_40 : (q_I 55).2 40 = some (2, 1, (-3), 0, 0, 42, []) := rfl
theorem ti_55_42 : (q_I 55).2 42 = some (4, 0, 0, 0, 0, 43, []) := rfl
theorem ti_55_43 : (q_I 55).2 43 = some (0, 4, 0, 0, 2, 44, []) := rfl
theorem ti_55_44 : (q_I 55).2 44 = some (1, 0, 22, 5, 2, 47, [233]) := rfl
theorem ti_55_47 : (q_I 55).2 47 = some (3, 0, 72, 3, 1, 50, [272, 0]) := rfl
theorem ti_55_50 : (q_I 55).2 50 = some (0, 4, 0, 0, 2, 51, []) := rfl
theorem ti_55_51 : (q_I 55).2 51 = some (1, 0, 10, 5, 0, 54, [231]) := rfl
theorem ti_55_54 : (q_I 55).2 54 = some (0, 0, 0, 1, 0, 55, []) := rfl
theorem ti_55_55 : (q_I 55).2 55 = some (0, 0, 0, 2, 0, 56, []) := rfl
theorem ti_55_56 : (q_I 55).2 56 = some (2, 0, 4, 0, 0, 57, []) := rfl
theorem ti_55_57 : (q_I 55).2 57 = some (0, 0, 0, 3, 0, 58, []) := rfl
theorem ti_55_58 : (q_I 55).2 58 = some (3, 0, 75, 11, 5, 61, [276, 2]) := rfl
theorem ti_55_61 : (q_I 55).2 61 = some (4, 0, 0, 0, 0, 62, []) := rfl
theorem ti_55_26 : (q_I 55).2 26 = some (2, 0, (-1), 0, 0, 27, []) := rfl
theorem ti_55_27 : (q_I 55).2 27 = some (4, 0, 0, 0, 0, 28, []) := rfl
theorem mt_55 (a1 : Int) (a2 : Int) (a3 : Int) (H : a_P) : a_mt id 0 55 [(2, 0), (0, a1), (0, a2), (0, a3)] H (fn_55 a1 a2 a3 H) := by
  refine a_mtI (lo := [some (2, 0), some (0, a1), some (0, a2), some (0, a3)]) rfl fun d => ?_
  unfold fn_55
  refine a_w0 (Nat.le_succ _) ti_55_0 rfl ?_
  refine a_w2 (z := 5) (Nat.le_succ _) ti_55_1 (by decide) ?_
  refine a_w3p (args := [(0, a1), (0, 5)]) (Nat.le_succ _) ti_55_2 (mt_91 a1 5 H) rfl rfl rfl rfl ?_
  refine a_wjn 26 (fun (s : Unit) => [none, none, none, none]) (fun (s : Unit) => []) (fun (s : Unit) => H) (fun s1 => ?_) (fun j26 hj26 => ?_)
  · refine a_w2 (z := (-1)) (Nat.le_succ _) ti_55_26 (by decide) ?_
    exact a_w4 (Nat.le_succ _) ti_55_27 rfl rfl rfl
  · refine a_w8_0 (Nat.le_succ _) ti_55_5 ?_ ?_
    · exact a_wk (hj26 ()) (by omega) trivial
    · refine a_w0 (Nat.le_succ _) ti_55_8 rfl ?_
      refine a_w2 (z := 36) (Nat.le_succ _) ti_55_9 (by decide) ?_
      refine a_w3p (args := [(0, a2), (0, 36)]) (Nat.le_succ _) ti_55_11 (mt_91 a2 36 H) rfl rfl rfl rfl ?_
      refine a_w8_0 (Nat.le_succ _) ti_55_14 ?_ ?_
      · exact a_wk (hj26 ()) (by omega) trivial
      · refine a_w0 (Nat.le_succ _) ti_55_17 rfl ?_
        refine a_w2 (z := 21) (Nat.le_succ _) ti_55_18 (by decide) ?_
        refine a_w3p (args := [(0, a3), (0, 21)]) (Nat.le_succ _) ti_55_20 (mt_91 a3 21 H) rfl rfl rfl rfl ?_
        refine a_w8_1 (Nat.le_succ _) ti_55_23 ?_ ?_
        · refine a_w0 (Nat.le_succ _) ti_55_28 rfl ?_
          refine a_w1 (a := (2, 1)) (Nat.le_succ _) ti_55_29 rfl ?_
          refine a_w1 (a := (0, H 1 6)) (Nat.le_succ _) ti_55_32 rfl ?_
          refine a_w2 (z := 8) (Nat.le_succ _) ti_55_35 (by decide) ?_
          refine a_w9_2 (Nat.le_succ _) ti_55_37 ?_ ?_
          · refine a_w0 (Nat.le_succ _) ti_55_43 rfl ?_
            refine a_w1 (a := (2, 13)) (Nat.le_succ _) ti_55_44 rfl ?_
            refine a_w3v (args := [(2, 13)]) (Nat.le_succ _) ti_55_47 (mt_3 13 H) rfl rfl (fun H1 => ?_)
            refine a_w0 (Nat.le_succ _) ti_55_50 rfl ?_
            refine a_w1 (a := (2, 1)) (Nat.le_succ _) ti_55_51 rfl ?_
            refine a_w0 (Nat.le_succ _) ti_55_54 rfl ?_
            refine a_w0 (Nat.le_succ _) ti_55_55 rfl ?_
            refine a_w2 (z := 4) (Nat.le_succ _) ti_55_56 (by decide) ?_
            refine a_w0 (Nat.le_succ _) ti_55_57 rfl ?_
            refine a_w3i (args := [(2, 1), (0, a1), (0, a2), (0, 4), (0, a3)]) (Nat.le_succ _) ti_55_58 (mt_11 1 a1 a2 4 a3 H1) (fun _ => rfl) rfl rfl (fun g1 => ?_)
            exact a_w4 (Nat.le_succ _) ti_55_61 rfl rfl rfl
          · refine a_w2 (z := (-3)) (Nat.le_succ _) ti_55_40 (by decide) ?_
            exact a_w4 (Nat.le_succ _) ti_55_42 rfl rfl rfl
        · exact a_wk (hj26 ()) (by omega) trivial
/-- CarriedGate$Plain.hasPerson(I)Z -/
noncomputable def fn_12 (p : Int) (a1 : Int) (H : a_P) : Int :=
  a_jn (fun (s1 : Int) => s1) fun j23 =>
  a_jn (fun (s2 : Unit) => j23 0) fun j22 =>
  (if a1 < 0 then j22 ()
  else (if a1 < (H p 6) then (if a1 < 8 then j23 1
  else j22 ())
  else j22 ()))
theorem ti_12_0 : (q_I 12).2 0 = some (0, 0, 0, 1, 0, 1, []) := rfl
theorem ti_12_1 : (q_I 12).2 1 = some (8, 2, 0, 22, 0, 4, []) := rfl
theorem ti_12_4 : (q_I 12).2 4 = some (0, 0, 0, 1, 0, 5, []) := rfl
theorem ti_12_5 : (q_I 12).2 5 = some (0, 4, 0, 0, 2, 6, []) := rfl
theorem ti_12_6 : (q_I 12).2 6 = some (1, 0, 30, 2, 6, 9, [100]) := rfl
theorem ti_12_9 : (q_I 12).2 9 = some (9, 3, 0, 22, 0, 12, []) := rfl
theorem ti_12_12 : (q_I 12).2 12 = some (0, 0, 0, 1, 0, 13, []) := rfl
theorem ti_12_13 : (q_I 12).2 13 = some (2, 1, 8, 0, 0, 15, []) := rfl
theorem ti_12_15 : (q_I 12).2 15 = some (9, 3, 0, 22, 0, 18, []) := rfl
theorem ti_12_18 : (q_I 12).2 18 = some (2, 0, 1, 0, 0, 19, []) := rfl
theorem ti_12_19 : (q_I 12).2 19 = some (7, 0, 0, 23, 0, 22, []) := rfl
theorem ti_12_22 : (q_I 12).2 22 = some (2, 0, 0, 0, 0, 23, []) := rfl
theorem ti_12_23 : (q_I 12).2 23 = some (4, 3, 0, 0, 0, 24, []) := rfl
theorem mt_12 (p : Int) (a1 : Int) (H : a_P) : a_mt (a_pp H) 0 12 [(2, p), (0, a1)] H (fn_12 p a1 H) := by
  refine a_mtI (lo := [some (2, p), some (0, a1)]) rfl fun d => ?_
  unfold fn_12
  refine a_w0 (Nat.le_succ _) ti_12_0 rfl ?_
  refine a_wjn 23 (fun (s : Int) => [none, none]) (fun (s : Int) => [(0, s)]) (fun (s : Int) => H) (fun s1 => ?_) (fun j23 hj23 => ?_)
  · exact a_w4 (Nat.le_succ _) ti_12_23 rfl rfl rfl
  · refine a_wjn 22 (fun (s : Unit) => [none, none]) (fun (s : Unit) => []) (fun (s : Unit) => H) (fun s2 => ?_) (fun j22 hj22 => ?_)
    · refine a_w2 (z := 0) (Nat.le_succ _) ti_12_22 (by decide) ?_
      exact a_wk (hj23 0) (by omega) trivial
    · refine a_w8_2 (Nat.le_succ _) ti_12_1 ?_ ?_
      · exact a_wk (hj22 ()) (by omega) trivial
      · refine a_w0 (Nat.le_succ _) ti_12_4 rfl ?_
        refine a_w0 (Nat.le_succ _) ti_12_5 rfl ?_
        refine a_w1 (a := (0, H p 6)) (Nat.le_succ _) ti_12_6 rfl ?_
        refine a_w9_3 (Nat.le_succ _) ti_12_9 ?_ ?_
        · exact a_wk (hj22 ()) (by omega) trivial
        · refine a_w0 (Nat.le_succ _) ti_12_12 rfl ?_
          refine a_w2 (z := 8) (Nat.le_succ _) ti_12_13 (by decide) ?_
          refine a_w9_3 (Nat.le_succ _) ti_12_15 ?_ ?_
          · exact a_wk (hj22 ()) (by omega) trivial
          · refine a_w2 (z := 1) (Nat.le_succ _) ti_12_18 (by decide) ?_
            refine a_w7 (Nat.le_succ _) ti_12_19 ?_
            exact a_wk (hj23 1) (by omega) trivial
/-- CarriedGate$Plain.farBetween(II)I -/
noncomputable def fn_15 (a0 : Int) (a1 : Int) : Int :=
  a_w ((a_abs (a_w ((a_div a0 6) - (a_div a1 6)))) + (a_abs (a_w ((a_rem a0 6) - (a_rem a1 6)))))
theorem ti_15_0 : (q_I 15).2 0 = some (0, 0, 0, 0, 0, 1, []) := rfl
theorem ti_15_1 : (q_I 15).2 1 = some (2, 1, 6, 0, 0, 3, []) := rfl
theorem ti_15_3 : (q_I 15).2 3 = some (6, 3, 0, 0, 0, 4, []) := rfl
theorem ti_15_4 : (q_I 15).2 4 = some (0, 0, 0, 1, 0, 5, []) := rfl
theorem ti_15_5 : (q_I 15).2 5 = some (2, 1, 6, 0, 0, 7, []) := rfl
theorem ti_15_7 : (q_I 15).2 7 = some (6, 3, 0, 0, 0, 8, []) := rfl
theorem ti_15_8 : (q_I 15).2 8 = some (6, 1, 0, 0, 0, 9, []) := rfl
theorem ti_15_9 : (q_I 15).2 9 = some (25, 0, 55, 0, 0, 12, [306]) := rfl
theorem ti_15_12 : (q_I 15).2 12 = some (0, 0, 0, 0, 0, 13, []) := rfl
theorem ti_15_13 : (q_I 15).2 13 = some (2, 1, 6, 0, 0, 15, []) := rfl
theorem ti_15_15 : (q_I 15).2 15 = some (6, 4, 0, 0, 0, 16, []) := rfl
theorem ti_15_16 : (q_I 15).2 16 = some (0, 0, 0, 1, 0, 17, []) := rfl
theorem ti_15_17 : (q_I 15).2 17 = some (2, 1, 6, 0, 0, 19, []) := rfl
theorem ti_15_19 : (q_I 15).2 19 = some (6, 4, 0, 0, 0, 20, []) := rfl
theorem ti_15_20 : (q_I 15).2 20 = some (6, 1, 0, 0, 0, 21, []) := rfl
theorem ti_15_21 : (q_I 15).2 21 = some (25, 0, 55, 0, 0, 24, [306]) := rfl
theorem ti_15_24 : (q_I 15).2 24 = some (6, 0, 0, 0, 0, 25, []) := rfl
theorem ti_15_25 : (q_I 15).2 25 = some (4, 0, 0, 0, 0, 26, []) := rfl
theorem mt_15 (a0 : Int) (a1 : Int) (H : a_P) : a_mt (a_pp H) 0 15 [(0, a0), (0, a1)] H (fn_15 a0 a1) := by
  refine a_mtI (lo := [some (0, a0), some (0, a1)]) rfl fun d => ?_
  unfold fn_15
  refine a_w0 (Nat.le_succ _) ti_15_0 rfl ?_
  refine a_w2 (z := 6) (Nat.le_succ _) ti_15_1 (by decide) ?_
  refine a_w6 (a := (0, a_div a0 6)) (Nat.le_succ _) ti_15_3 rfl ?_
  refine a_w0 (Nat.le_succ _) ti_15_4 rfl ?_
  refine a_w2 (z := 6) (Nat.le_succ _) ti_15_5 (by decide) ?_
  refine a_w6 (a := (0, a_div a1 6)) (Nat.le_succ _) ti_15_7 rfl ?_
  refine a_w6 (a := (0, a_w ((a_div a0 6) - (a_div a1 6)))) (Nat.le_succ _) ti_15_8 rfl ?_
  refine a_w25 (a := (0, a_abs (a_w ((a_div a0 6) - (a_div a1 6))))) (Nat.le_succ _) ti_15_9 rfl ?_
  refine a_w0 (Nat.le_succ _) ti_15_12 rfl ?_
  refine a_w2 (z := 6) (Nat.le_succ _) ti_15_13 (by decide) ?_
  refine a_w6 (a := (0, a_rem a0 6)) (Nat.le_succ _) ti_15_15 rfl ?_
  refine a_w0 (Nat.le_succ _) ti_15_16 rfl ?_
  refine a_w2 (z := 6) (Nat.le_succ _) ti_15_17 (by decide) ?_
  refine a_w6 (a := (0, a_rem a1 6)) (Nat.le_succ _) ti_15_19 rfl ?_
  refine a_w6 (a := (0, a_w ((a_rem a0 6) - (a_rem a1 6)))) (Nat.le_succ _) ti_15_20 rfl ?_
  refine a_w25 (a := (0, a_abs (a_w ((a_rem a0 6) - (a_rem a1 6))))) (Nat.le_succ _) ti_15_21 rfl ?_
  refine a_w6 (a := (0, a_w ((a_abs (a_w ((a_div a0 6) - (a_div a1 6)))) + (a_abs (a_w ((a_rem a0 6) - (a_rem a1 6))))))) (Nat.le_succ _) ti_15_24 rfl ?_
  exact a_w4 (Nat.le_succ _) ti_15_25 rfl rfl rfl
/-- CarriedGate$Plain.farOf(I)I -/
noncomputable def fn_18 (p : Int) (a1 : Int) (H : a_P) : Int :=
  fn_15 (H p 0) (H (p + 2) a1)
theorem ti_18_0 : (q_I 18).2 0 = some (0, 4, 0, 0, 2, 1, []) := rfl
theorem ti_18_1 : (q_I 18).2 1 = some (1, 0, 9, 2, 0, 4, [83]) := rfl
theorem ti_18_4 : (q_I 18).2 4 = some (0, 4, 0, 0, 2, 5, []) := rfl
theorem ti_18_5 : (q_I 18).2 5 = some (1, 0, 37, 2, 8, 8, [105]) := rfl
theorem ti_18_8 : (q_I 18).2 8 = some (0, 0, 0, 1, 0, 9, []) := rfl
theorem ti_18_9 : (q_I 18).2 9 = some (5, 10, 0, 0, 0, 10, []) := rfl
theorem ti_18_10 : (q_I 18).2 10 = some (3, 1, 61, 15, 2, 13, [303, 2]) := rfl
theorem ti_18_13 : (q_I 18).2 13 = some (4, 0, 0, 0, 0, 14, []) := rfl
theorem mt_18 (p : Int) (a1 : Int) (H : a_P) : a_mt (a_pp H) 0 18 [(2, p), (0, a1)] H (fn_18 p a1 H) := by
  refine a_mtI (lo := [some (2, p), some (0, a1)]) rfl fun d => ?_
  unfold fn_18
  refine a_w0 (Nat.le_succ _) ti_18_0 rfl ?_
  refine a_w1 (a := (0, H p 0)) (Nat.le_succ _) ti_18_1 rfl ?_
  refine a_w0 (Nat.le_succ _) ti_18_4 rfl ?_
  refine a_w1 (a := (2, (p + 2))) (Nat.le_succ _) ti_18_5 rfl ?_
  refine a_w0 (Nat.le_succ _) ti_18_8 rfl ?_
  refine a_w5 (kk := 0) (Nat.le_succ _) ti_18_9 (fun _ => rfl) ?_
  refine a_w3p (args := [(0, H p 0), (0, H (p + 2) a1)]) (Nat.le_succ _) ti_18_10 (mt_15 (H p 0) (H (p + 2) a1) H) rfl rfl rfl rfl ?_
  exact a_w4 (Nat.le_succ _) ti_18_13 rfl rfl rfl
/-- CarriedGate$Plain.sideBetween(III)I -/
noncomputable def fn_16 (a0 : Int) (a1 : Int) (a2 : Int) : Int :=
  a_bd (a_w ((a_div a2 6) - (a_div a0 6))) fun x1 =>
  a_bd (a_w ((a_rem a2 6) - (a_rem a0 6))) fun x2 =>
  a_jn (fun (s1 : Int) => (if s1 = 0 then 1
  else a_jn (fun (s2 : Int) => s2) fun j71 =>
  (if 0 < s1 then j71 0
  else j71 2))) fun j52 =>
  (if a1 = 0 then j52 (a_w (-x1))
  else (if a1 = 1 then j52 x2
  else (if a1 = 2 then j52 x1
  else j52 (a_w (-x2)))))
theorem ti_16_0 : (q_I 16).2 0 = some (0, 0, 0, 2, 0, 1, []) := rfl
theorem ti_16_1 : (q_I 16).2 1 = some (2, 1, 6, 0, 0, 3, []) := rfl
theorem ti_16_3 : (q_I 16).2 3 = some (6, 3, 0, 0, 0, 4, []) := rfl
theorem ti_16_4 : (q_I 16).2 4 = some (0, 0, 0, 0, 0, 5, []) := rfl
theorem ti_16_5 : (q_I 16).2 5 = some (2, 1, 6, 0, 0, 7, []) := rfl
theorem ti_16_7 : (q_I 16).2 7 = some (6, 3, 0, 0, 0, 8, []) := rfl
theorem ti_16_8 : (q_I 16).2 8 = some (6, 1, 0, 0, 0, 9, []) := rfl
theorem ti_16_9 : (q_I 16).2 9 = some (11, 0, 0, 3, 0, 10, []) := rfl
theorem ti_16_10 : (q_I 16).2 10 = some (0, 0, 0, 2, 0, 11, []) := rfl
theorem ti_16_11 : (q_I 16).2 11 = some (2, 1, 6, 0, 0, 13, []) := rfl
theorem ti_16_13 : (q_I 16).2 13 = some (6, 4, 0, 0, 0, 14, []) := rfl
theorem ti_16_14 : (q_I 16).2 14 = some (0, 0, 0, 0, 0, 15, []) := rfl
theorem ti_16_15 : (q_I 16).2 15 = some (2, 1, 6, 0, 0, 17, []) := rfl
theorem ti_16_17 : (q_I 16).2 17 = some (6, 4, 0, 0, 0, 18, []) := rfl
theorem ti_16_18 : (q_I 16).2 18 = some (6, 1, 0, 0, 0, 19, []) := rfl
theorem ti_16_19 : (q_I 16).2 19 = some (11, 1, 0, 4, 0, 21, []) := rfl
theorem ti_16_21 : (q_I 16).2 21 = some (0, 0, 0, 1, 0, 22, []) := rfl
theorem ti_16_22 : (q_I 16).2 22 = some (8, 1, 0, 30, 0, 25, []) := rfl
theorem ti_16_25 : (q_I 16).2 25 = some (0, 0, 0, 3, 0, 26, []) := rfl
theorem ti_16_26 : (q_I 16).2 26 = some (14, 0, 0, 0, 0, 27, []) := rfl
theorem ti_16_27 : (q_I 16).2 27 = some (7, 0, 0, 52, 0, 30, []) := rfl
theorem ti_16_30 : (q_I 16).2 30 = some (0, 0, 0, 1, 0, 31, []) := rfl
theorem ti_16_31 : (q_I 16).2 31 = some (2, 0, 1, 0, 0, 32, []) := rfl
theorem ti_16_32 : (q_I 16).2 32 = some (9, 1, 0, 40, 0, 35, []) := rfl
theorem ti_16_35 : (q_I 16).2 35 = some (0, 1, 0, 4, 0, 37, []) := rfl
theorem ti_16_37 : (q_I 16).2 37 = some (7, 0, 0, 52, 0, 40, []) := rfl
theorem ti_16_40 : (q_I 16).2 40 = some (0, 0, 0, 1, 0, 41, []) := rfl
theorem ti_16_41 : (q_I 16).2 41 = some (2, 0, 2, 0, 0, 42, []) := rfl
theorem ti_16_42 : (q_I 16).2 42 = some (9, 1, 0, 49, 0, 45, []) := rfl
theorem ti_16_45 : (q_I 16).2 45 = some (0, 0, 0, 3, 0, 46, []) := rfl
theorem ti_16_46 : (q_I 16).2 46 = some (7, 0, 0, 52, 0, 49, []) := rfl
theorem ti_16_49 : (q_I 16).2 49 = some (0, 1, 0, 4, 0, 51, []) := rfl
theorem ti_16_51 : (q_I 16).2 51 = some (14, 0, 0, 0, 0, 52, []) := rfl
theorem ti_16_52 : (q_I 16).2 52 = some (11, 1, 0, 5, 0, 54, []) := rfl
theorem ti_16_54 : (q_I 16).2 54 = some (0, 1, 0, 5, 0, 56, []) := rfl
theorem ti_16_56 : (q_I 16).2 56 = some (8, 1, 0, 61, 0, 59, []) := rfl
theorem ti_16_59 : (q_I 16).2 59 = some (2, 0, 1, 0, 0, 60, []) := rfl
theorem ti_16_60 : (q_I 16).2 60 = some (4, 0, 0, 0, 0, 61, []) := rfl
theorem ti_16_61 : (q_I 16).2 61 = some (0, 1, 0, 5, 0, 63, []) := rfl
theorem ti_16_63 : (q_I 16).2 63 = some (8, 5, 0, 70, 0, 66, []) := rfl
theorem ti_16_66 : (q_I 16).2 66 = some (2, 0, 0, 0, 0, 67, []) := rfl
theorem ti_16_67 : (q_I 16).2 67 = some (7, 0, 0, 71, 0, 70, []) := rfl
theorem ti_16_70 : (q_I 16).2 70 = some (2, 0, 2, 0, 0, 71, []) := rfl
theorem ti_16_71 : (q_I 16).2 71 = some (4, 0, 0, 0, 0, 72, []) := rfl
theorem mt_16 (a0 : Int) (a1 : Int) (a2 : Int) (H : a_P) : a_mt (a_pp H) 0 16 [(0, a0), (0, a1), (0, a2)] H (fn_16 a0 a1 a2) := by
  refine a_mtI (lo := [some (0, a0), some (0, a1), some (0, a2), none, none, none]) rfl fun d => ?_
  unfold fn_16
  refine a_w0 (Nat.le_succ _) ti_16_0 rfl ?_
  refine a_w2 (z := 6) (Nat.le_succ _) ti_16_1 (by decide) ?_
  refine a_w6 (a := (0, a_div a2 6)) (Nat.le_succ _) ti_16_3 rfl ?_
  refine a_w0 (Nat.le_succ _) ti_16_4 rfl ?_
  refine a_w2 (z := 6) (Nat.le_succ _) ti_16_5 (by decide) ?_
  refine a_w6 (a := (0, a_div a0 6)) (Nat.le_succ _) ti_16_7 rfl ?_
  refine a_w6 (a := (0, a_w ((a_div a2 6) - (a_div a0 6)))) (Nat.le_succ _) ti_16_8 rfl ?_
  refine a_w11b (lof := fun x1 => [some (0, a0), some (0, a1), some (0, a2), some (0, x1), none, none]) (Nat.le_succ _) ti_16_9 (fun _ => rfl) (fun x1 => ?_)
  refine a_w0 (Nat.le_succ _) ti_16_10 rfl ?_
  refine a_w2 (z := 6) (Nat.le_succ _) ti_16_11 (by decide) ?_
  refine a_w6 (a := (0, a_rem a2 6)) (Nat.le_succ _) ti_16_13 rfl ?_
  refine a_w0 (Nat.le_succ _) ti_16_14 rfl ?_
  refine a_w2 (z := 6) (Nat.le_succ _) ti_16_15 (by decide) ?_
  refine a_w6 (a := (0, a_rem a0 6)) (Nat.le_succ _) ti_16_17 rfl ?_
  refine a_w6 (a := (0, a_w ((a_rem a2 6) - (a_rem a0 6)))) (Nat.le_succ _) ti_16_18 rfl ?_
  refine a_w11b (lof := fun x2 => [some (0, a0), some (0, a1), some (0, a2), some (0, x1), some (0, x2), none]) (Nat.le_succ _) ti_16_19 (fun _ => rfl) (fun x2 => ?_)
  refine a_w0 (Nat.le_succ _) ti_16_21 rfl ?_
  refine a_wjn 52 (fun (s : Int) => [none, none, none, none, none, none]) (fun (s : Int) => [(0, s)]) (fun (s : Int) => H) (fun s1 => ?_) (fun j52 hj52 => ?_)
  · refine a_w11 (lo' := [none, none, none, none, none, some (0, s1)]) (Nat.le_succ _) ti_16_52 rfl ?_
    refine a_w0 (Nat.le_succ _) ti_16_54 rfl ?_
    refine a_w8_1 (Nat.le_succ _) ti_16_56 ?_ ?_
    · refine a_w0 (Nat.le_succ _) ti_16_61 rfl ?_
      refine a_wjn 71 (fun (s : Int) => [none, none, none, none, none, none]) (fun (s : Int) => [(0, s)]) (fun (s : Int) => H) (fun s2 => ?_) (fun j71 hj71 => ?_)
      · exact a_w4 (Nat.le_succ _) ti_16_71 rfl rfl rfl
      · refine a_w8_5 (Nat.le_succ _) ti_16_63 ?_ ?_
        · refine a_w2 (z := 2) (Nat.le_succ _) ti_16_70 (by decide) ?_
          exact a_wk (hj71 2) (by omega) trivial
        · refine a_w2 (z := 0) (Nat.le_succ _) ti_16_66 (by decide) ?_
          refine a_w7 (Nat.le_succ _) ti_16_67 ?_
          exact a_wk (hj71 0) (by omega) trivial
    · refine a_w2 (z := 1) (Nat.le_succ _) ti_16_59 (by decide) ?_
      exact a_w4 (Nat.le_succ _) ti_16_60 rfl rfl rfl
  · refine a_w8_1 (Nat.le_succ _) ti_16_22 ?_ ?_
    · refine a_w0 (Nat.le_succ _) ti_16_30 rfl ?_
      refine a_w2 (z := 1) (Nat.le_succ _) ti_16_31 (by decide) ?_
      refine a_w9_1 (Nat.le_succ _) ti_16_32 ?_ ?_
      · refine a_w0 (Nat.le_succ _) ti_16_40 rfl ?_
        refine a_w2 (z := 2) (Nat.le_succ _) ti_16_41 (by decide) ?_
        refine a_w9_1 (Nat.le_succ _) ti_16_42 ?_ ?_
        · refine a_w0 (Nat.le_succ _) ti_16_49 rfl ?_
          refine a_w14 (a := (0, a_w (-x2))) (Nat.le_succ _) ti_16_51 rfl ?_
          exact a_wk (hj52 (a_w (-x2))) (by omega) trivial
        · refine a_w0 (Nat.le_succ _) ti_16_45 rfl ?_
          refine a_w7 (Nat.le_succ _) ti_16_46 ?_
          exact a_wk (hj52 x1) (by omega) trivial
      · refine a_w0 (Nat.le_succ _) ti_16_35 rfl ?_
        refine a_w7 (Nat.le_succ _) ti_16_37 ?_
        exact a_wk (hj52 x2) (by omega) trivial
    · refine a_w0 (Nat.le_succ _) ti_16_25 rfl ?_
      refine a_w14 (a := (0, a_w (-x1))) (Nat.le_succ _) ti_16_26 rfl ?_
      refine a_w7 (Nat.le_succ _) ti_16_27 ?_
      exact a_wk (hj52 (a_w (-x1))) (by omega) trivial
/-- CarriedGate$Plain.sideOf(I)I -/
noncomputable def fn_19 (p : Int) (a1 : Int) (H : a_P) : Int :=
  fn_16 (H p 0) (H p 1) a1
theorem ti_19_0 : (q_I 19).2 0 = some (0, 4, 0, 0, 2, 1, []) := rfl
theorem ti_19_1 : (q_I 19).2 1 = some (1, 0, 9, 2, 0, 4, [83]) := rfl
theorem ti_19_4 : (q_I 19).2 4 = some (0, 4, 0, 0, 2, 5, []) := rfl
theorem ti_19_5 : (q_I 19).2 5 = some (1, 0, 15, 2, 1, 8, [86]) := rfl
theorem ti_19_8 : (q_I 19).2 8 = some (0, 0, 0, 1, 0, 9, []) := rfl
theorem ti_19_9 : (q_I 19).2 9 = some (3, 1, 65, 16, 3, 12, [300, 2]) := rfl
theorem ti_19_12 : (q_I 19).2 12 = some (4, 0, 0, 0, 0, 13, []) := rfl
theorem mt_19 (p : Int) (a1 : Int) (H : a_P) : a_mt (a_pp H) 0 19 [(2, p), (0, a1)] H (fn_19 p a1 H) := by
  refine a_mtI (lo := [some (2, p), some (0, a1)]) rfl fun d => ?_
  unfold fn_19
  refine a_w0 (Nat.le_succ _) ti_19_0 rfl ?_
  refine a_w1 (a := (0, H p 0)) (Nat.le_succ _) ti_19_1 rfl ?_
  refine a_w0 (Nat.le_succ _) ti_19_4 rfl ?_
  refine a_w1 (a := (0, H p 1)) (Nat.le_succ _) ti_19_5 rfl ?_
  refine a_w0 (Nat.le_succ _) ti_19_8 rfl ?_
  refine a_w3p (args := [(0, H p 0), (0, H p 1), (0, a1)]) (Nat.le_succ _) ti_19_9 (mt_16 (H p 0) (H p 1) a1 H) rfl rfl rfl rfl ?_
  exact a_w4 (Nat.le_succ _) ti_19_12 rfl rfl rfl
/-- CarriedGate$Plain.stands()Z -/
noncomputable def fn_14 (p : Int) (H : a_P) : Int :=
  a_jn (fun (s1 : Int) => s1) fun j12 =>
  (if (H p 2) < 0 then j12 0
  else j12 1)
theorem ti_14_0 : (q_I 14).2 0 = some (0, 4, 0, 0, 2, 1, []) := rfl
theorem ti_14_1 : (q_I 14).2 1 = some (1, 0, 18, 2, 2, 4, [89]) := rfl
theorem ti_14_4 : (q_I 14).2 4 = some (8, 2, 0, 11, 0, 7, []) := rfl
theorem ti_14_7 : (q_I 14).2 7 = some (2, 0, 1, 0, 0, 8, []) := rfl
theorem ti_14_8 : (q_I 14).2 8 = some (7, 0, 0, 12, 0, 11, []) := rfl
theorem ti_14_11 : (q_I 14).2 11 = some (2, 0, 0, 0, 0, 12, []) := rfl
theorem ti_14_12 : (q_I 14).2 12 = some (4, 3, 0, 0, 0, 13, []) := rfl
theorem mt_14 (p : Int) (H : a_P) : a_mt (a_pp H) 0 14 [(2, p)] H (fn_14 p H) := by
  refine a_mtI (lo := [some (2, p)]) rfl fun d => ?_
  unfold fn_14
  refine a_w0 (Nat.le_succ _) ti_14_0 rfl ?_
  refine a_w1 (a := (0, H p 2)) (Nat.le_succ _) ti_14_1 rfl ?_
  refine a_wjn 12 (fun (s : Int) => [none]) (fun (s : Int) => [(0, s)]) (fun (s : Int) => H) (fun s1 => ?_) (fun j12 hj12 => ?_)
  · exact a_w4 (Nat.le_succ _) ti_14_12 rfl rfl rfl
  · refine a_w8_2 (Nat.le_succ _) ti_14_4 ?_ ?_
    · refine a_w2 (z := 0) (Nat.le_succ _) ti_14_11 (by decide) ?_
      exact a_wk (hj12 0) (by omega) trivial
    · refine a_w2 (z := 1) (Nat.le_succ _) ti_14_7 (by decide) ?_
      refine a_w7 (Nat.le_succ _) ti_14_8 ?_
      exact a_wk (hj12 1) (by omega) trivial
/-- CarriedGate$Plain.isLetIn(I)Z -/
noncomputable def fn_20 (p : Int) (a1 : Int) (H : a_P) : Int :=
  a_bd (fn_16 (H p 0) (H p 1) (H (p + 2) a1)) fun x1 =>
  a_jn (fun (s1 : Int) => a_jn (fun (s2 : Int) => a_jn (fun (s3 : Int) => a_sw (H (p + 1) a1) 0 (0) [s1,
  s2,
  s3,
  a_jn (fun (s4 : Int) => s4) fun j143 =>
  a_jn (fun (s5 : Unit) => j143 0) fun j142 =>
  (if s2 = 0 then j142 ()
  else (if (H (p + 2) a1) = (H p 0) then j142 ()
  else j143 1)),
  a_jn (fun (s6 : Int) => s6) fun j180 =>
  a_jn (fun (s7 : Unit) => j180 1) fun j175 =>
  (if s3 = 0 then a_jn (fun (s8 : Unit) => j180 0) fun j179 =>
  (if 0 < a1 then (if (fn_16 (H p 0) (H p 1) (H (p + 2) (a_w (a1 - 1)))) = 0 then j175 ()
  else j179 ())
  else j179 ())
  else j175 ())]) fun j70 =>
  a_jn (fun (s9 : Unit) => j70 0) fun j69 =>
  (if s1 = 0 then j69 ()
  else (if (fn_15 (H p 0) (H (p + 2) a1)) < 4 then j70 1
  else j69 ()))) fun j42 =>
  a_jn (fun (s10 : Unit) => j42 1) fun j37 =>
  (if s1 = 0 then (if x1 = 1 then j37 ()
  else j42 0)
  else j37 ())) fun j27 =>
  (if x1 = 0 then j27 1
  else j27 0)
theorem ti_20_0 : (q_I 20).2 0 = some (0, 4, 0, 0, 2, 1, []) := rfl
theorem ti_20_1 : (q_I 20).2 1 = some (1, 0, 9, 2, 0, 4, [83]) := rfl
theorem ti_20_4 : (q_I 20).2 4 = some (0, 4, 0, 0, 2, 5, []) := rfl
theorem ti_20_5 : (q_I 20).2 5 = some (1, 0, 15, 2, 1, 8, [86]) := rfl
theorem ti_20_8 : (q_I 20).2 8 = some (0, 4, 0, 0, 2, 9, []) := rfl
theorem ti_20_9 : (q_I 20).2 9 = some (1, 0, 37, 2, 8, 12, [105]) := rfl
theorem ti_20_12 : (q_I 20).2 12 = some (0, 0, 0, 1, 0, 13, []) := rfl
theorem ti_20_13 : (q_I 20).2 13 = some (5, 10, 0, 0, 0, 14, []) := rfl
theorem ti_20_14 : (q_I 20).2 14 = some (3, 1, 65, 16, 3, 17, [300, 2]) := rfl
theorem ti_20_17 : (q_I 20).2 17 = some (11, 0, 0, 2, 0, 18, []) := rfl
theorem ti_20_18 : (q_I 20).2 18 = some (0, 0, 0, 2, 0, 19, []) := rfl
theorem ti_20_19 : (q_I 20).2 19 = some (8, 1, 0, 26, 0, 22, []) := rfl
theorem ti_20_22 : (q_I 20).2 22 = some (2, 0, 1, 0, 0, 23, []) := rfl
theorem ti_20_23 : (q_I 20).2 23 = some (7, 0, 0, 27, 0, 26, []) := rfl
theorem ti_20_26 : (q_I 20).2 26 = some (2, 0, 0, 0, 0, 27, []) := rfl
theorem ti_20_27 : (q_I 20).2 27 = some (11, 0, 0, 3, 0, 28, []) := rfl
theorem ti_20_28 : (q_I 20).2 28 = some (0, 0, 0, 3, 0, 29, []) := rfl
theorem ti_20_29 : (q_I 20).2 29 = some (8, 1, 0, 37, 0, 32, []) := rfl
theorem ti_20_32 : (q_I 20).2 32 = some (0, 0, 0, 2, 0, 33, []) := rfl
theorem ti_20_33 : (q_I 20).2 33 = some (2, 0, 1, 0, 0, 34, []) := rfl
theorem ti_20_34 : (q_I 20).2 34 = some (9, 1, 0, 41, 0, 37, []) := rfl
theorem ti_20_41 : (q_I 20).2 41 = some (2, 0, 0, 0, 0, 42, []) := rfl
theorem ti_20_37 : (q_I 20).2 37 = some (2, 0, 1, 0, 0, 38, []) := rfl
theorem ti_20_38 : (q_I 20).2 38 = some (7, 0, 0, 42, 0, 41, []) := rfl
theorem ti_20_42 : (q_I 20).2 42 = some (11, 1, 0, 4, 0, 44, []) := rfl
theorem ti_20_44 : (q_I 20).2 44 = some (0, 0, 0, 3, 0, 45, []) := rfl
theorem ti_20_45 : (q_I 20).2 45 = some (8, 0, 0, 69, 0, 48, []) := rfl
theorem ti_20_48 : (q_I 20).2 48 = some (0, 4, 0, 0, 2, 49, []) := rfl
theorem ti_20_49 : (q_I 20).2 49 = some (1, 0, 9, 2, 0, 52, [83]) := rfl
theorem ti_20_52 : (q_I 20).2 52 = some (0, 4, 0, 0, 2, 53, []) := rfl
theorem ti_20_53 : (q_I 20).2 53 = some (1, 0, 37, 2, 8, 56, [105]) := rfl
theorem ti_20_56 : (q_I 20).2 56 = some (0, 0, 0, 1, 0, 57, []) := rfl
theorem ti_20_57 : (q_I 20).2 57 = some (5, 10, 0, 0, 0, 58, []) := rfl
theorem ti_20_58 : (q_I 20).2 58 = some (3, 1, 61, 15, 2, 61, [303, 2]) := rfl
theorem ti_20_61 : (q_I 20).2 61 = some (2, 0, 4, 0, 0, 62, []) := rfl
theorem ti_20_62 : (q_I 20).2 62 = some (9, 3, 0, 69, 0, 65, []) := rfl
theorem ti_20_65 : (q_I 20).2 65 = some (2, 0, 1, 0, 0, 66, []) := rfl
theorem ti_20_66 : (q_I 20).2 66 = some (7, 0, 0, 70, 0, 69, []) := rfl
theorem ti_20_69 : (q_I 20).2 69 = some (2, 0, 0, 0, 0, 70, []) := rfl
theorem ti_20_70 : (q_I 20).2 70 = some (11, 1, 0, 5, 0, 72, []) := rfl
theorem ti_20_72 : (q_I 20).2 72 = some (0, 4, 0, 0, 2, 73, []) := rfl
theorem ti_20_73 : (q_I 20).2 73 = some (1, 0, 33, 2, 7, 76, [103]) := rfl
theorem ti_20_76 : (q_I 20).2 76 = some (0, 0, 0, 1, 0, 77, []) := rfl
theorem ti_20_77 : (q_I 20).2 77 = some (5, 10, 0, 0, 0, 78, []) := rfl
theorem ti_20_78 : (q_I 20).2 78 = some (18, 5, 0, 181, 0, 112, [112, 114, 117, 120, 144]) := rfl
theorem ti_20_181 : (q_I 20).2 181 = some (2, 0, 0, 0, 0, 182, []) := rfl
theorem ti_20_182 : (q_I 20).2 182 = some (4, 3, 0, 0, 0, 183, []) := rfl
theorem ti_20_144 : (q_I 20).2 144 = some (0, 1, 0, 5, 0, 146, []) := rfl
theorem ti_20_146 : (q_I 20).2 146 = some (8, 1, 0, 175, 0, 149, []) := rfl
theorem ti_20_149 : (q_I 20).2 149 = some (0, 0, 0, 1, 0, 150, []) := rfl
theorem ti_20_150 : (q_I 20).2 150 = some (8, 5, 0, 179, 0, 153, []) := rfl
theorem ti_20_153 : (q_I 20).2 153 = some (0, 4, 0, 0, 2, 154, []) := rfl
theorem ti_20_154 : (q_I 20).2 154 = some (1, 0, 9, 2, 0, 157, [83]) := rfl
theorem ti_20_157 : (q_I 20).2 157 = some (0, 4, 0, 0, 2, 158, []) := rfl
theorem ti_20_158 : (q_I 20).2 158 = some (1, 0, 15, 2, 1, 161, [86]) := rfl
theorem ti_20_161 : (q_I 20).2 161 = some (0, 4, 0, 0, 2, 162, []) := rfl
theorem ti_20_162 : (q_I 20).2 162 = some (1, 0, 37, 2, 8, 165, [105]) := rfl
theorem ti_20_165 : (q_I 20).2 165 = some (0, 0, 0, 1, 0, 166, []) := rfl
theorem ti_20_166 : (q_I 20).2 166 = some (2, 0, 1, 0, 0, 167, []) := rfl
theorem ti_20_167 : (q_I 20).2 167 = some (6, 1, 0, 0, 0, 168, []) := rfl
theorem ti_20_168 : (q_I 20).2 168 = some (5, 10, 0, 0, 0, 169, []) := rfl
theorem ti_20_169 : (q_I 20).2 169 = some (3, 1, 65, 16, 3, 172, [300, 2]) := rfl
theorem ti_20_172 : (q_I 20).2 172 = some (8, 1, 0, 179, 0, 175, []) := rfl
theorem ti_20_179 : (q_I 20).2 179 = some (2, 0, 0, 0, 0, 180, []) := rfl
theorem ti_20_175 : (q_I 20).2 175 = some (2, 0, 1, 0, 0, 176, []) := rfl
theorem ti_20_176 : (q_I 20).2 176 = some (7, 0, 0, 180, 0, 179, []) := rfl
theorem ti_20_180 : (q_I 20).2 180 = some (4, 3, 0, 0, 0, 181, []) := rfl
theorem ti_20_120 : (q_I 20).2 120 = some (0, 1, 0, 4, 0, 122, []) := rfl
theorem ti_20_122 : (q_I 20).2 122 = some (8, 0, 0, 142, 0, 125, []) := rfl
theorem ti_20_125 : (q_I 20).2 125 = some (0, 4, 0, 0, 2, 126, []) := rfl
theorem ti_20_126 : (q_I 20).2 126 = some (1, 0, 37, 2, 8, 129, [105]) := rfl
theorem ti_20_129 : (q_I 20).2 129 = some (0, 0, 0, 1, 0, 130, []) := rfl
theorem ti_20_130 : (q_I 20).2 130 = some (5, 10, 0, 0, 0, 131, []) := rfl
theorem ti_20_131 : (q_I 20).2 131 = some (0, 4, 0, 0, 2, 132, []) := rfl
theorem ti_20_132 : (q_I 20).2 132 = some (1, 0, 9, 2, 0, 135, [83]) := rfl
theorem ti_20_135 : (q_I 20).2 135 = some (9, 0, 0, 142, 0, 138, []) := rfl
theorem ti_20_138 : (q_I 20).2 138 = some (2, 0, 1, 0, 0, 139, []) := rfl
theorem ti_20_139 : (q_I 20).2 139 = some (7, 0, 0, 143, 0, 142, []) := rfl
theorem ti_20_142 : (q_I 20).2 142 = some (2, 0, 0, 0, 0, 143, []) := rfl
theorem ti_20_143 : (q_I 20).2 143 = some (4, 3, 0, 0, 0, 144, []) := rfl
theorem ti_20_117 : (q_I 20).2 117 = some (0, 1, 0, 5, 0, 119, []) := rfl
theorem ti_20_119 : (q_I 20).2 119 = some (4, 3, 0, 0, 0, 120, []) := rfl
theorem ti_20_114 : (q_I 20).2 114 = some (0, 1, 0, 4, 0, 116, []) := rfl
theorem ti_20_116 : (q_I 20).2 116 = some (4, 3, 0, 0, 0, 117, []) := rfl
theorem ti_20_112 : (q_I 20).2 112 = some (0, 0, 0, 3, 0, 113, []) := rfl
theorem ti_20_113 : (q_I 20).2 113 = some (4, 3, 0, 0, 0, 114, []) := rfl
theorem mt_20 (p : Int) (a1 : Int) (H : a_P) : a_mt (a_pp H) 0 20 [(2, p), (0, a1)] H (fn_20 p a1 H) := by
  refine a_mtI (lo := [some (2, p), some (0, a1), none, none, none, none]) rfl fun d => ?_
  unfold fn_20
  refine a_w0 (Nat.le_succ _) ti_20_0 rfl ?_
  refine a_w1 (a := (0, H p 0)) (Nat.le_succ _) ti_20_1 rfl ?_
  refine a_w0 (Nat.le_succ _) ti_20_4 rfl ?_
  refine a_w1 (a := (0, H p 1)) (Nat.le_succ _) ti_20_5 rfl ?_
  refine a_w0 (Nat.le_succ _) ti_20_8 rfl ?_
  refine a_w1 (a := (2, (p + 2))) (Nat.le_succ _) ti_20_9 rfl ?_
  refine a_w0 (Nat.le_succ _) ti_20_12 rfl ?_
  refine a_w5 (kk := 0) (Nat.le_succ _) ti_20_13 (fun _ => rfl) ?_
  refine a_w3p (args := [(0, H p 0), (0, H p 1), (0, H (p + 2) a1)]) (Nat.le_succ _) ti_20_14 (mt_16 (H p 0) (H p 1) (H (p + 2) a1) H) rfl rfl rfl rfl ?_
  refine a_w11b (lof := fun x1 => [some (2, p), some (0, a1), some (0, x1), none, none, none]) (Nat.le_succ _) ti_20_17 (fun _ => rfl) (fun x1 => ?_)
  refine a_w0 (Nat.le_succ _) ti_20_18 rfl ?_
  refine a_wjn 27 (fun (s : Int) => [some (2, p), some (0, a1), some (0, x1), none, none, none]) (fun (s : Int) => [(0, s)]) (fun (s : Int) => H) (fun s1 => ?_) (fun j27 hj27 => ?_)
  · refine a_w11 (lo' := [some (2, p), some (0, a1), some (0, x1), some (0, s1), none, none]) (Nat.le_succ _) ti_20_27 rfl ?_
    refine a_w0 (Nat.le_succ _) ti_20_28 rfl ?_
    refine a_wjn 42 (fun (s : Int) => [some (2, p), some (0, a1), none, some (0, s1), none, none]) (fun (s : Int) => [(0, s)]) (fun (s : Int) => H) (fun s2 => ?_) (fun j42 hj42 => ?_)
    · refine a_w11 (lo' := [some (2, p), some (0, a1), none, some (0, s1), some (0, s2), none]) (Nat.le_succ _) ti_20_42 rfl ?_
      refine a_w0 (Nat.le_succ _) ti_20_44 rfl ?_
      refine a_wjn 70 (fun (s : Int) => [some (2, p), some (0, a1), none, some (0, s1), some (0, s2), none]) (fun (s : Int) => [(0, s)]) (fun (s : Int) => H) (fun s3 => ?_) (fun j70 hj70 => ?_)
      · refine a_w11 (lo' := [some (2, p), some (0, a1), none, some (0, s1), some (0, s2), some (0, s3)]) (Nat.le_succ _) ti_20_70 rfl ?_
        refine a_w0 (Nat.le_succ _) ti_20_72 rfl ?_
        refine a_w1 (a := (2, (p + 1))) (Nat.le_succ _) ti_20_73 rfl ?_
        refine a_w0 (Nat.le_succ _) ti_20_76 rfl ?_
        refine a_w5 (kk := 0) (Nat.le_succ _) ti_20_77 (fun _ => rfl) ?_
        refine a_w18 (Nat.le_succ _) ti_20_78 rfl ⟨?_, ?_, ?_, ?_, ?_, trivial⟩ ?_
        · refine a_w0 (Nat.le_succ _) ti_20_112 rfl ?_
          exact a_w4 (Nat.le_succ _) ti_20_113 rfl rfl rfl
        · refine a_w0 (Nat.le_succ _) ti_20_114 rfl ?_
          exact a_w4 (Nat.le_succ _) ti_20_116 rfl rfl rfl
        · refine a_w0 (Nat.le_succ _) ti_20_117 rfl ?_
          exact a_w4 (Nat.le_succ _) ti_20_119 rfl rfl rfl
        · refine a_w0 (Nat.le_succ _) ti_20_120 rfl ?_
          refine a_wjn 143 (fun (s : Int) => [none, none, none, none, none, none]) (fun (s : Int) => [(0, s)]) (fun (s : Int) => H) (fun s4 => ?_) (fun j143 hj143 => ?_)
          · exact a_w4 (Nat.le_succ _) ti_20_143 rfl rfl rfl
          · refine a_wjn 142 (fun (s : Unit) => [none, none, none, none, none, none]) (fun (s : Unit) => []) (fun (s : Unit) => H) (fun s5 => ?_) (fun j142 hj142 => ?_)
            · refine a_w2 (z := 0) (Nat.le_succ _) ti_20_142 (by decide) ?_
              exact a_wk (hj143 0) (by omega) trivial
            · refine a_w8_0 (Nat.le_succ _) ti_20_122 ?_ ?_
              · exact a_wk (hj142 ()) (by omega) trivial
              · refine a_w0 (Nat.le_succ _) ti_20_125 rfl ?_
                refine a_w1 (a := (2, (p + 2))) (Nat.le_succ _) ti_20_126 rfl ?_
                refine a_w0 (Nat.le_succ _) ti_20_129 rfl ?_
                refine a_w5 (kk := 0) (Nat.le_succ _) ti_20_130 (fun _ => rfl) ?_
                refine a_w0 (Nat.le_succ _) ti_20_131 rfl ?_
                refine a_w1 (a := (0, H p 0)) (Nat.le_succ _) ti_20_132 rfl ?_
                refine a_w9_0 (Nat.le_succ _) ti_20_135 ?_ ?_
                · exact a_wk (hj142 ()) (by omega) trivial
                · refine a_w2 (z := 1) (Nat.le_succ _) ti_20_138 (by decide) ?_
                  refine a_w7 (Nat.le_succ _) ti_20_139 ?_
                  exact a_wk (hj143 1) (by omega) trivial
        · refine a_w0 (Nat.le_succ _) ti_20_144 rfl ?_
          refine a_wjn 180 (fun (s : Int) => [none, none, none, none, none, none]) (fun (s : Int) => [(0, s)]) (fun (s : Int) => H) (fun s6 => ?_) (fun j180 hj180 => ?_)
          · exact a_w4 (Nat.le_succ _) ti_20_180 rfl rfl rfl
          · refine a_wjn 175 (fun (s : Unit) => [none, none, none, none, none, none]) (fun (s : Unit) => []) (fun (s : Unit) => H) (fun s7 => ?_) (fun j175 hj175 => ?_)
            · refine a_w2 (z := 1) (Nat.le_succ _) ti_20_175 (by decide) ?_
              refine a_w7 (Nat.le_succ _) ti_20_176 ?_
              exact a_wk (hj180 1) (by omega) trivial
            · refine a_w8_1 (Nat.le_succ _) ti_20_146 ?_ ?_
              · exact a_wk (hj175 ()) (by omega) trivial
              · refine a_w0 (Nat.le_succ _) ti_20_149 rfl ?_
                refine a_wjn 179 (fun (s : Unit) => [none, none, none, none, none, none]) (fun (s : Unit) => []) (fun (s : Unit) => H) (fun s8 => ?_) (fun j179 hj179 => ?_)
                · refine a_w2 (z := 0) (Nat.le_succ _) ti_20_179 (by decide) ?_
                  exact a_wk (hj180 0) (by omega) trivial
                · refine a_w8_5 (Nat.le_succ _) ti_20_150 ?_ ?_
                  · exact a_wk (hj179 ()) (by omega) trivial
                  · refine a_w0 (Nat.le_succ _) ti_20_153 rfl ?_
                    refine a_w1 (a := (0, H p 0)) (Nat.le_succ _) ti_20_154 rfl ?_
                    refine a_w0 (Nat.le_succ _) ti_20_157 rfl ?_
                    refine a_w1 (a := (0, H p 1)) (Nat.le_succ _) ti_20_158 rfl ?_
                    refine a_w0 (Nat.le_succ _) ti_20_161 rfl ?_
                    refine a_w1 (a := (2, (p + 2))) (Nat.le_succ _) ti_20_162 rfl ?_
                    refine a_w0 (Nat.le_succ _) ti_20_165 rfl ?_
                    refine a_w2 (z := 1) (Nat.le_succ _) ti_20_166 (by decide) ?_
                    refine a_w6 (a := (0, a_w (a1 - 1))) (Nat.le_succ _) ti_20_167 rfl ?_
                    refine a_w5 (kk := 0) (Nat.le_succ _) ti_20_168 (fun _ => rfl) ?_
                    refine a_w3p (args := [(0, H p 0), (0, H p 1), (0, H (p + 2) (a_w (a1 - 1)))]) (Nat.le_succ _) ti_20_169 (mt_16 (H p 0) (H p 1) (H (p + 2) (a_w (a1 - 1))) H) rfl rfl rfl rfl ?_
                    refine a_w8_1 (Nat.le_succ _) ti_20_172 ?_ ?_
                    · exact a_wk (hj179 ()) (by omega) trivial
                    · exact a_wk (hj175 ()) (by omega) trivial
        · refine a_w2 (z := 0) (Nat.le_succ _) ti_20_181 (by decide) ?_
          exact a_w4 (Nat.le_succ _) ti_20_182 rfl rfl rfl
      · refine a_wjn 69 (fun (s : Unit) => [some (2, p), some (0, a1), none, some (0, s1), some (0, s2), none]) (fun (s : Unit) => []) (fun (s : Unit) => H) (fun s9 => ?_) (fun j69 hj69 => ?_)
        · refine a_w2 (z := 0) (Nat.le_succ _) ti_20_69 (by decide) ?_
          exact a_wk (hj70 0) (by omega) ⟨rfl, rfl, rfl, rfl, trivial⟩
        · refine a_w8_0 (Nat.le_succ _) ti_20_45 ?_ ?_
          · exact a_wk (hj69 ()) (by omega) ⟨rfl, rfl, rfl, rfl, trivial⟩
          · refine a_w0 (Nat.le_succ _) ti_20_48 rfl ?_
            refine a_w1 (a := (0, H p 0)) (Nat.le_succ _) ti_20_49 rfl ?_
            refine a_w0 (Nat.le_succ _) ti_20_52 rfl ?_
            refine a_w1 (a := (2, (p + 2))) (Nat.le_succ _) ti_20_53 rfl ?_
            refine a_w0 (Nat.le_succ _) ti_20_56 rfl ?_
            refine a_w5 (kk := 0) (Nat.le_succ _) ti_20_57 (fun _ => rfl) ?_
            refine a_w3p (args := [(0, H p 0), (0, H (p + 2) a1)]) (Nat.le_succ _) ti_20_58 (mt_15 (H p 0) (H (p + 2) a1) H) rfl rfl rfl rfl ?_
            refine a_w2 (z := 4) (Nat.le_succ _) ti_20_61 (by decide) ?_
            refine a_w9_3 (Nat.le_succ _) ti_20_62 ?_ ?_
            · exact a_wk (hj69 ()) (by omega) ⟨rfl, rfl, rfl, rfl, trivial⟩
            · refine a_w2 (z := 1) (Nat.le_succ _) ti_20_65 (by decide) ?_
              refine a_w7 (Nat.le_succ _) ti_20_66 ?_
              exact a_wk (hj70 1) (by omega) ⟨rfl, rfl, rfl, rfl, trivial⟩
    · refine a_wjn 37 (fun (s : Unit) => [some (2, p), some (0, a1), none, some (0, s1), none, none]) (fun (s : Unit) => []) (fun (s : Unit) => H) (fun s10 => ?_) (fun j37 hj37 => ?_)
      · refine a_w2 (z := 1) (Nat.le_succ _) ti_20_37 (by decide) ?_
        refine a_w7 (Nat.le_succ _) ti_20_38 ?_
        exact a_wk (hj42 1) (by omega) ⟨rfl, rfl, rfl, trivial⟩
      · refine a_w8_1 (Nat.le_succ _) ti_20_29 ?_ ?_
        · exact a_wk (hj37 ()) (by omega) ⟨rfl, rfl, rfl, trivial⟩
        · refine a_w0 (Nat.le_succ _) ti_20_32 rfl ?_
          refine a_w2 (z := 1) (Nat.le_succ _) ti_20_33 (by decide) ?_
          refine a_w9_1 (Nat.le_succ _) ti_20_34 ?_ ?_
          · refine a_w2 (z := 0) (Nat.le_succ _) ti_20_41 (by decide) ?_
            exact a_wk (hj42 0) (by omega) ⟨rfl, rfl, rfl, trivial⟩
          · exact a_wk (hj37 ()) (by omega) ⟨rfl, rfl, rfl, trivial⟩
  · refine a_w8_1 (Nat.le_succ _) ti_20_19 ?_ ?_
    · refine a_w2 (z := 0) (Nat.le_succ _) ti_20_26 (by decide) ?_
      exact a_wk (hj27 0) (by omega) ⟨rfl, rfl, rfl, trivial⟩
    · refine a_w2 (z := 1) (Nat.le_succ _) ti_20_22 (by decide) ?_
      refine a_w7 (Nat.le_succ _) ti_20_23 ?_
      exact a_wk (hj27 1) (by omega) ⟨rfl, rfl, rfl, trivial⟩
/-- CarriedGate$Plain.isIn(I)Z -/
noncomputable def fn_21 (p : Int) (a1 : Int) (H : a_P) : Int :=
  a_jn (fun (s1 : Int) => s1) fun j20 =>
  a_jn (fun (s2 : Unit) => j20 0) fun j19 =>
  (if (fn_14 p H) = 0 then j19 ()
  else (if (fn_20 p a1 H) = 0 then j19 ()
  else j20 1))
theorem ti_21_0 : (q_I 21).2 0 = some (0, 4, 0, 0, 2, 1, []) := rfl
theorem ti_21_1 : (q_I 21).2 1 = some (3, 0, 69, 14, 1, 4, [292, 2]) := rfl
theorem ti_21_4 : (q_I 21).2 4 = some (8, 0, 0, 19, 0, 7, []) := rfl
theorem ti_21_7 : (q_I 21).2 7 = some (0, 4, 0, 0, 2, 8, []) := rfl
theorem ti_21_8 : (q_I 21).2 8 = some (0, 0, 0, 1, 0, 9, []) := rfl
theorem ti_21_9 : (q_I 21).2 9 = some (3, 0, 73, 20, 2, 12, [296, 2]) := rfl
theorem ti_21_12 : (q_I 21).2 12 = some (8, 0, 0, 19, 0, 15, []) := rfl
theorem ti_21_15 : (q_I 21).2 15 = some (2, 0, 1, 0, 0, 16, []) := rfl
theorem ti_21_16 : (q_I 21).2 16 = some (7, 0, 0, 20, 0, 19, []) := rfl
theorem ti_21_19 : (q_I 21).2 19 = some (2, 0, 0, 0, 0, 20, []) := rfl
theorem ti_21_20 : (q_I 21).2 20 = some (4, 3, 0, 0, 0, 21, []) := rfl
theorem mt_21 (p : Int) (a1 : Int) (H : a_P) : a_mt (a_pp H) 0 21 [(2, p), (0, a1)] H (fn_21 p a1 H) := by
  refine a_mtI (lo := [some (2, p), some (0, a1)]) rfl fun d => ?_
  unfold fn_21
  refine a_w0 (Nat.le_succ _) ti_21_0 rfl ?_
  refine a_w3p (args := [(2, p)]) (Nat.le_succ _) ti_21_1 (mt_14 p H) rfl rfl rfl rfl ?_
  refine a_wjn 20 (fun (s : Int) => [none, none]) (fun (s : Int) => [(0, s)]) (fun (s : Int) => H) (fun s1 => ?_) (fun j20 hj20 => ?_)
  · exact a_w4 (Nat.le_succ _) ti_21_20 rfl rfl rfl
  · refine a_wjn 19 (fun (s : Unit) => [none, none]) (fun (s : Unit) => []) (fun (s : Unit) => H) (fun s2 => ?_) (fun j19 hj19 => ?_)
    · refine a_w2 (z := 0) (Nat.le_succ _) ti_21_19 (by decide) ?_
      exact a_wk (hj20 0) (by omega) trivial
    · refine a_w8_0 (Nat.le_succ _) ti_21_4 ?_ ?_
      · exact a_wk (hj19 ()) (by omega) trivial
      · refine a_w0 (Nat.le_succ _) ti_21_7 rfl ?_
        refine a_w0 (Nat.le_succ _) ti_21_8 rfl ?_
        refine a_w3p (args := [(2, p), (0, a1)]) (Nat.le_succ _) ti_21_9 (mt_20 p a1 H) rfl rfl rfl rfl ?_
        refine a_w8_0 (Nat.le_succ _) ti_21_12 ?_ ?_
        · exact a_wk (hj19 ()) (by omega) trivial
        · refine a_w2 (z := 1) (Nat.le_succ _) ti_21_15 (by decide) ?_
          refine a_w7 (Nat.le_succ _) ti_21_16 ?_
          exact a_wk (hj20 1) (by omega) trivial
/-- CarriedGate.oneIf(Z)I -/
noncomputable def fn_92 (a0 : Int) : Int :=
  a_jn (fun (s1 : Int) => s1) fun j9 =>
  (if a0 = 0 then j9 0
  else j9 1)
theorem ti_92_0 : (q_I 92).2 0 = some (0, 0, 0, 0, 0, 1, []) := rfl
theorem ti_92_1 : (q_I 92).2 1 = some (8, 0, 0, 8, 0, 4, []) := rfl
theorem ti_92_4 : (q_I 92).2 4 = some (2, 0, 1, 0, 0, 5, []) := rfl
theorem ti_92_5 : (q_I 92).2 5 = some (7, 0, 0, 9, 0, 8, []) := rfl
theorem ti_92_8 : (q_I 92).2 8 = some (2, 0, 0, 0, 0, 9, []) := rfl
theorem ti_92_9 : (q_I 92).2 9 = some (4, 0, 0, 0, 0, 10, []) := rfl
theorem mt_92 (a0 : Int) (H : a_P) : a_mt (a_pp H) 0 92 [(0, a0)] H (fn_92 a0) := by
  refine a_mtI (lo := [some (0, a0)]) rfl fun d => ?_
  unfold fn_92
  refine a_w0 (Nat.le_succ _) ti_92_0 rfl ?_
  refine a_wjn 9 (fun (s : Int) => [none]) (fun (s : Int) => [(0, s)]) (fun (s : Int) => H) (fun s1 => ?_) (fun j9 hj9 => ?_)
  · exact a_w4 (Nat.le_succ _) ti_92_9 rfl rfl rfl
  · refine a_w8_0 (Nat.le_succ _) ti_92_1 ?_ ?_
    · refine a_w2 (z := 0) (Nat.le_succ _) ti_92_8 (by decide) ?_
      exact a_wk (hj9 0) (by omega) trivial
    · refine a_w2 (z := 1) (Nat.le_succ _) ti_92_4 (by decide) ?_
      refine a_w7 (Nat.le_succ _) ti_92_5 ?_
      exact a_wk (hj9 1) (by omega) trivial
/-- CarriedGate.of(II)I -/
noncomputable def fn_56 (a1 : Int) (a2 : Int) (H : a_P) : Int :=
  (if (fn_12 1 a1 H) = 0 then (-1)
  else a_sw a2 0 ((-1)) [H 2 a1,
  H 3 a1,
  H 4 a1,
  H 5 a1,
  H 6 a1,
  fn_92 (fn_21 1 a1 H),
  fn_18 1 a1 H,
  fn_19 1 (H 3 a1) H])
theorem ti_56_0 : (q_I 56).2 0 = some (0, 4, 0, 0, 2, 1, []) := rfl
theorem ti_56_1 : (q_I 56).2 1 = some (1, 0, 10, 5, 0, 4, [231]) := rfl
theorem ti_56_4 : (q_I 56).2 4 = some (0, 0, 0, 1, 0, 5, []) := rfl
theorem ti_56_5 : (q_I 56).2 5 = some (3, 0, 79, 12, 2, 8, [284, 2]) := rfl
theorem ti_56_8 : (q_I 56).2 8 = some (8, 1, 0, 13, 0, 11, []) := rfl
theorem ti_56_11 : (q_I 56).2 11 = some (2, 0, (-1), 0, 0, 12, []) := rfl
theorem ti_56_12 : (q_I 56).2 12 = some (4, 0, 0, 0, 0, 13, []) := rfl
theorem ti_56_13 : (q_I 56).2 13 = some (0, 0, 0, 2, 0, 14, []) := rfl
theorem ti_56_14 : (q_I 56).2 14 = some (18, 8, 0, 148, 0, 60, [60, 70, 80, 90, 100, 110, 122, 131]) := rfl
theorem ti_56_148 : (q_I 56).2 148 = some (2, 0, (-1), 0, 0, 149, []) := rfl
theorem ti_56_149 : (q_I 56).2 149 = some (4, 0, 0, 0, 0, 150, []) := rfl
theorem ti_56_131 : (q_I 56).2 131 = some (0, 4, 0, 0, 2, 132, []) := rfl
theorem ti_56_132 : (q_I 56).2 132 = some (1, 0, 10, 5, 0, 135, [231]) := rfl
theorem ti_56_135 : (q_I 56).2 135 = some (0, 4, 0, 0, 2, 136, []) := rfl
theorem ti_56_136 : (q_I 56).2 136 = some (1, 0, 10, 5, 0, 139, [231]) := rfl
theorem ti_56_139 : (q_I 56).2 139 = some (1, 0, 86, 2, 8, 142, [106]) := rfl
theorem ti_56_142 : (q_I 56).2 142 = some (0, 0, 0, 1, 0, 143, []) := rfl
theorem ti_56_143 : (q_I 56).2 143 = some (5, 10, 0, 0, 0, 144, []) := rfl
theorem ti_56_144 : (q_I 56).2 144 = some (3, 0, 109, 19, 2, 147, [316, 2]) := rfl
theorem ti_56_147 : (q_I 56).2 147 = some (4, 0, 0, 0, 0, 148, []) := rfl
theorem ti_56_122 : (q_I 56).2 122 = some (0, 4, 0, 0, 2, 123, []) := rfl
theorem ti_56_123 : (q_I 56).2 123 = some (1, 0, 10, 5, 0, 126, [231]) := rfl
theorem ti_56_126 : (q_I 56).2 126 = some (0, 0, 0, 1, 0, 127, []) := rfl
theorem ti_56_127 : (q_I 56).2 127 = some (3, 0, 105, 18, 2, 130, [312, 2]) := rfl
theorem ti_56_130 : (q_I 56).2 130 = some (4, 0, 0, 0, 0, 131, []) := rfl
theorem ti_56_110 : (q_I 56).2 110 = some (0, 4, 0, 0, 2, 111, []) := rfl
theorem ti_56_111 : (q_I 56).2 111 = some (1, 0, 10, 5, 0, 114, [231]) := rfl
theorem ti_56_114 : (q_I 56).2 114 = some (0, 0, 0, 1, 0, 115, []) := rfl
theorem ti_56_115 : (q_I 56).2 115 = some (3, 0, 98, 21, 2, 118, [288, 2]) := rfl
theorem ti_56_118 : (q_I 56).2 118 = some (3, 1, 101, 92, 1, 121, [309, 5]) := rfl
theorem ti_56_121 : (q_I 56).2 121 = some (4, 0, 0, 0, 0, 122, []) := rfl
theorem ti_56_100 : (q_I 56).2 100 = some (0, 4, 0, 0, 2, 101, []) := rfl
theorem ti_56_101 : (q_I 56).2 101 = some (1, 0, 10, 5, 0, 104, [231]) := rfl
theorem ti_56_104 : (q_I 56).2 104 = some (1, 0, 95, 2, 11, 107, [112]) := rfl
theorem ti_56_107 : (q_I 56).2 107 = some (0, 0, 0, 1, 0, 108, []) := rfl
theorem ti_56_108 : (q_I 56).2 108 = some (5, 10, 0, 0, 0, 109, []) := rfl
theorem ti_56_109 : (q_I 56).2 109 = some (4, 0, 0, 0, 0, 110, []) := rfl
theorem ti_56_90 : (q_I 56).2 90 = some (0, 4, 0, 0, 2, 91, []) := rfl
theorem ti_56_91 : (q_I 56).2 91 = some (1, 0, 10, 5, 0, 94, [231]) := rfl
theorem ti_56_94 : (q_I 56).2 94 = some (1, 0, 92, 2, 10, 97, [110]) := rfl
theorem ti_56_97 : (q_I 56).2 97 = some (0, 0, 0, 1, 0, 98, []) := rfl
theorem ti_56_98 : (q_I 56).2 98 = some (5, 10, 0, 0, 0, 99, []) := rfl
theorem ti_56_99 : (q_I 56).2 99 = some (4, 0, 0, 0, 0, 100, []) := rfl
theorem ti_56_80 : (q_I 56).2 80 = some (0, 4, 0, 0, 2, 81, []) := rfl
theorem ti_56_81 : (q_I 56).2 81 = some (1, 0, 10, 5, 0, 84, [231]) := rfl
theorem ti_56_84 : (q_I 56).2 84 = some (1, 0, 89, 2, 9, 87, [108]) := rfl
theorem ti_56_87 : (q_I 56).2 87 = some (0, 0, 0, 1, 0, 88, []) := rfl
theorem ti_56_88 : (q_I 56).2 88 = some (5, 10, 0, 0, 0, 89, []) := rfl
theorem ti_56_89 : (q_I 56).2 89 = some (4, 0, 0, 0, 0, 90, []) := rfl
theorem ti_56_70 : (q_I 56).2 70 = some (0, 4, 0, 0, 2, 71, []) := rfl
theorem ti_56_71 : (q_I 56).2 71 = some (1, 0, 10, 5, 0, 74, [231]) := rfl
theorem ti_56_74 : (q_I 56).2 74 = some (1, 0, 86, 2, 8, 77, [106]) := rfl
theorem ti_56_77 : (q_I 56).2 77 = some (0, 0, 0, 1, 0, 78, []) := rfl
theorem ti_56_78 : (q_I 56).2 78 = some (5, 10, 0, 0, 0, 79, []) := rfl
theorem ti_56_79 : (q_I 56).2 79 = some (4, 0, 0, 0, 0, 80, []) := rfl
theorem ti_56_60 : (q_I 56).2 60 = some (0, 4, 0, 0, 2, 61, []) := rfl
theorem ti_56_61 : (q_I 56).2 61 = some (1, 0, 10, 5, 0, 64, [231]) := rfl
theorem ti_56_64 : (q_I 56).2 64 = some (1, 0, 83, 2, 7, 67, [104]) := rfl
theorem ti_56_67 : (q_I 56).2 67 = some (0, 0, 0, 1, 0, 68, []) := rfl
theorem ti_56_68 : (q_I 56).2 68 = some (5, 10, 0, 0, 0, 69, []) := rfl
theorem ti_56_69 : (q_I 56).2 69 = some (4, 0, 0, 0, 0, 70, []) := rfl
theorem mt_56 (a1 : Int) (a2 : Int) (H : a_P) : a_mt (a_pp H) 0 56 [(2, 0), (0, a1), (0, a2)] H (fn_56 a1 a2 H) := by
  refine a_mtI (lo := [some (2, 0), some (0, a1), some (0, a2)]) rfl fun d => ?_
  unfold fn_56
  refine a_w0 (Nat.le_succ _) ti_56_0 rfl ?_
  refine a_w1 (a := (2, 1)) (Nat.le_succ _) ti_56_1 rfl ?_
  refine a_w0 (Nat.le_succ _) ti_56_4 rfl ?_
  refine a_w3p (args := [(2, 1), (0, a1)]) (Nat.le_succ _) ti_56_5 (mt_12 1 a1 H) rfl rfl rfl rfl ?_
  refine a_w8_1 (Nat.le_succ _) ti_56_8 ?_ ?_
  · refine a_w0 (Nat.le_succ _) ti_56_13 rfl ?_
    refine a_w18 (Nat.le_succ _) ti_56_14 rfl ⟨?_, ?_, ?_, ?_, ?_, ?_, ?_, ?_, trivial⟩ ?_
    · refine a_w0 (Nat.le_succ _) ti_56_60 rfl ?_
      refine a_w1 (a := (2, 1)) (Nat.le_succ _) ti_56_61 rfl ?_
      refine a_w1 (a := (2, 2)) (Nat.le_succ _) ti_56_64 rfl ?_
      refine a_w0 (Nat.le_succ _) ti_56_67 rfl ?_
      refine a_w5 (kk := 0) (Nat.le_succ _) ti_56_68 (fun _ => rfl) ?_
      exact a_w4 (Nat.le_succ _) ti_56_69 rfl rfl rfl
    · refine a_w0 (Nat.le_succ _) ti_56_70 rfl ?_
      refine a_w1 (a := (2, 1)) (Nat.le_succ _) ti_56_71 rfl ?_
      refine a_w1 (a := (2, 3)) (Nat.le_succ _) ti_56_74 rfl ?_
      refine a_w0 (Nat.le_succ _) ti_56_77 rfl ?_
      refine a_w5 (kk := 0) (Nat.le_succ _) ti_56_78 (fun _ => rfl) ?_
      exact a_w4 (Nat.le_succ _) ti_56_79 rfl rfl rfl
    · refine a_w0 (Nat.le_succ _) ti_56_80 rfl ?_
      refine a_w1 (a := (2, 1)) (Nat.le_succ _) ti_56_81 rfl ?_
      refine a_w1 (a := (2, 4)) (Nat.le_succ _) ti_56_84 rfl ?_
      refine a_w0 (Nat.le_succ _) ti_56_87 rfl ?_
      refine a_w5 (kk := 0) (Nat.le_succ _) ti_56_88 (fun _ => rfl) ?_
      exact a_w4 (Nat.le_succ _) ti_56_89 rfl rfl rfl
    · refine a_w0 (Nat.le_succ _) ti_56_90 rfl ?_
      refine a_w1 (a := (2, 1)) (Nat.le_succ _) ti_56_91 rfl ?_
      refine a_w1 (a := (2, 5)) (Nat.le_succ _) ti_56_94 rfl ?_
      refine a_w0 (Nat.le_succ _) ti_56_97 rfl ?_
      refine a_w5 (kk := 0) (Nat.le_succ _) ti_56_98 (fun _ => rfl) ?_
      exact a_w4 (Nat.le_succ _) ti_56_99 rfl rfl rfl
    · refine a_w0 (Nat.le_succ _) ti_56_100 rfl ?_
      refine a_w1 (a := (2, 1)) (Nat.le_succ _) ti_56_101 rfl ?_
      refine a_w1 (a := (2, 6)) (Nat.le_succ _) ti_56_104 rfl ?_
      refine a_w0 (Nat.le_succ _) ti_56_107 rfl ?_
      refine a_w5 (kk := 0) (Nat.le_succ _) ti_56_108 (fun _ => rfl) ?_
      exact a_w4 (Nat.le_succ _) ti_56_109 rfl rfl rfl
    · refine a_w0 (Nat.le_succ _) ti_56_110 rfl ?_
      refine a_w1 (a := (2, 1)) (Nat.le_succ _) ti_56_111 rfl ?_
      refine a_w0 (Nat.le_succ _) ti_56_114 rfl ?_
      refine a_w3p (args := [(2, 1), (0, a1)]) (Nat.le_succ _) ti_56_115 (mt_21 1 a1 H) rfl rfl rfl rfl ?_
      refine a_w3p (args := [(0, fn_21 1 a1 H)]) (Nat.le_succ _) ti_56_118 (mt_92 (fn_21 1 a1 H) H) rfl rfl rfl rfl ?_
      exact a_w4 (Nat.le_succ _) ti_56_121 rfl rfl rfl
    · refine a_w0 (Nat.le_succ _) ti_56_122 rfl ?_
      refine a_w1 (a := (2, 1)) (Nat.le_succ _) ti_56_123 rfl ?_
      refine a_w0 (Nat.le_succ _) ti_56_126 rfl ?_
      refine a_w3p (args := [(2, 1), (0, a1)]) (Nat.le_succ _) ti_56_127 (mt_18 1 a1 H) rfl rfl rfl rfl ?_
      exact a_w4 (Nat.le_succ _) ti_56_130 rfl rfl rfl
    · refine a_w0 (Nat.le_succ _) ti_56_131 rfl ?_
      refine a_w1 (a := (2, 1)) (Nat.le_succ _) ti_56_132 rfl ?_
      refine a_w0 (Nat.le_succ _) ti_56_135 rfl ?_
      refine a_w1 (a := (2, 1)) (Nat.le_succ _) ti_56_136 rfl ?_
      refine a_w1 (a := (2, 3)) (Nat.le_succ _) ti_56_139 rfl ?_
      refine a_w0 (Nat.le_succ _) ti_56_142 rfl ?_
      refine a_w5 (kk := 0) (Nat.le_succ _) ti_56_143 (fun _ => rfl) ?_
      refine a_w3p (args := [(2, 1), (0, H 3 a1)]) (Nat.le_succ _) ti_56_144 (mt_19 1 (H 3 a1) H) rfl rfl rfl rfl ?_
      exact a_w4 (Nat.le_succ _) ti_56_147 rfl rfl rfl
    · refine a_w2 (z := (-1)) (Nat.le_succ _) ti_56_148 (by decide) ?_
      exact a_w4 (Nat.le_succ _) ti_56_149 rfl rfl rfl
  · refine a_w2 (z := (-1)) (Nat.le_succ _) ti_56_11 (by decide) ?_
    exact a_w4 (Nat.le_succ _) ti_56_12 rfl rfl rfl

/-- CarriedGateModel.restore()I -/
noncomputable def fn_174 (H : a_P) : a_F :=
  (if (H 133 17) < 0 then ((-4), H)
  else a_jn (fun (s1 : a_P) => a_jn (fun (s2 : a_P) => a_bd (a_up s2 133 7 (s2 133 17)) fun H1 =>
  (1, H1)) fun j63 =>
  a_lp (fun (s3 : Int × a_P) => (0, s3.2)) (fun (s3 : Int × a_P) n38 => (if s3.1 < 376 then a_bd (a_up s3.2 137 s3.1 (s3.2 141 s3.1)) fun H2 =>
  a_bd (a_w (s3.1 + 1)) fun x1 =>
  n38 (x1, H2)
  else j63 s3.2)) a_fuel (0, s1)) fun j36 =>
  a_lp (fun (s4 : Int × a_P) => (0, s4.2)) (fun (s4 : Int × a_P) n12 => (if s4.1 < 47 then a_bd (a_up s4.2 134 s4.1 (s4.2 140 s4.1)) fun H3 =>
  a_bd (a_w (s4.1 + 1)) fun x2 =>
  n12 (x2, H3)
  else j36 s4.2)) a_fuel (0, H))
theorem ti_174_0 : (q_I 174).2 0 = some (0, 4, 0, 0, 2, 1, []) := rfl
theorem ti_174_1 : (q_I 174).2 1 = some (1, 0, 34, 6, 17, 4, [812]) := rfl
theorem ti_174_4 : (q_I 174).2 4 = some (8, 3, 0, 10, 0, 7, []) := rfl
theorem ti_174_7 : (q_I 174).2 7 = some (2, 1, (-4), 0, 0, 9, []) := rfl
theorem ti_174_9 : (q_I 174).2 9 = some (4, 0, 0, 0, 0, 10, []) := rfl
theorem ti_174_10 : (q_I 174).2 10 = some (2, 0, 0, 0, 0, 11, []) := rfl
theorem ti_174_11 : (q_I 174).2 11 = some (11, 0, 0, 1, 0, 12, []) := rfl
theorem ti_174_12 : (q_I 174).2 12 = some (0, 0, 0, 1, 0, 13, []) := rfl
theorem ti_174_13 : (q_I 174).2 13 = some (2, 1, 47, 0, 0, 15, []) := rfl
theorem ti_174_15 : (q_I 174).2 15 = some (9, 3, 0, 36, 0, 18, []) := rfl
theorem ti_174_18 : (q_I 174).2 18 = some (0, 4, 0, 0, 2, 19, []) := rfl
theorem ti_174_19 : (q_I 174).2 19 = some (1, 0, 7, 6, 0, 22, [795]) := rfl
theorem ti_174_22 : (q_I 174).2 22 = some (0, 0, 0, 1, 0, 23, []) := rfl
theorem ti_174_23 : (q_I 174).2 23 = some (0, 4, 0, 0, 2, 24, []) := rfl
theorem ti_174_24 : (q_I 174).2 24 = some (1, 0, 28, 6, 15, 27, [810]) := rfl
theorem ti_174_27 : (q_I 174).2 27 = some (0, 0, 0, 1, 0, 28, []) := rfl
theorem ti_174_28 : (q_I 174).2 28 = some (5, 10, 0, 0, 0, 29, []) := rfl
theorem ti_174_29 : (q_I 174).2 29 = some (12, 10, 0, 0, 0, 30, []) := rfl
theorem ti_174_30 : (q_I 174).2 30 = some (13, 0, 1, 1, 0, 33, []) := rfl
theorem ti_174_33 : (q_I 174).2 33 = some (7, 0, 0, 12, 0, 36, []) := rfl
theorem ti_174_36 : (q_I 174).2 36 = some (2, 0, 0, 0, 0, 37, []) := rfl
theorem ti_174_37 : (q_I 174).2 37 = some (11, 0, 0, 1, 0, 38, []) := rfl
theorem ti_174_38 : (q_I 174).2 38 = some (0, 0, 0, 1, 0, 39, []) := rfl
theorem ti_174_39 : (q_I 174).2 39 = some (2, 2, 376, 0, 0, 42, []) := rfl
theorem ti_174_42 : (q_I 174).2 42 = some (9, 3, 0, 63, 0, 45, []) := rfl
theorem ti_174_45 : (q_I 174).2 45 = some (0, 4, 0, 0, 2, 46, []) := rfl
theorem ti_174_46 : (q_I 174).2 46 = some (1, 0, 19, 6, 6, 49, [801]) := rfl
theorem ti_174_49 : (q_I 174).2 49 = some (0, 0, 0, 1, 0, 50, []) := rfl
theorem ti_174_50 : (q_I 174).2 50 = some (0, 4, 0, 0, 2, 51, []) := rfl
theorem ti_174_51 : (q_I 174).2 51 = some (1, 0, 31, 6, 16, 54, [811]) := rfl
theorem ti_174_54 : (q_I 174).2 54 = some (0, 0, 0, 1, 0, 55, []) := rfl
theorem ti_174_55 : (q_I 174).2 55 = some (5, 10, 0, 0, 0, 56, []) := rfl
theorem ti_174_56 : (q_I 174).2 56 = some (12, 10, 0, 0, 0, 57, []) := rfl
theorem ti_174_57 : (q_I 174).2 57 = some (13, 0, 1, 1, 0, 60, []) := rfl
theorem ti_174_60 : (q_I 174).2 60 = some (7, 0, 0, 38, 0, 63, []) := rfl
theorem ti_174_63 : (q_I 174).2 63 = some (0, 4, 0, 0, 2, 64, []) := rfl
theorem ti_174_64 : (q_I 174).2 64 = some (0, 4, 0, 0, 2, 65, []) := rfl
theorem ti_174_65 : (q_I 174).2 65 = some (1, 0, 34, 6, 17, 68, [812]) := rfl
theorem ti_174_68 : (q_I 174).2 68 = some (10, 0, 101, 6, 7, 71, [802]) := rfl
theorem ti_174_71 : (q_I 174).2 71 = some (2, 0, 1, 0, 0, 72, []) := rfl
theorem ti_174_72 : (q_I 174).2 72 = some (4, 0, 0, 0, 0, 73, []) := rfl
theorem mt_174 (H : a_P) : a_mt id 0 174 [(2, 133)] H (fn_174 H) := by
  refine a_mtI (lo := [some (2, 133), none]) rfl fun d => ?_
  unfold fn_174
  refine a_w0 (Nat.le_succ _) ti_174_0 rfl ?_
  refine a_w1 (a := (0, H 133 17)) (Nat.le_succ _) ti_174_1 rfl ?_
  refine a_w8_3 (Nat.le_succ _) ti_174_4 ?_ ?_
  · refine a_w2 (z := 0) (Nat.le_succ _) ti_174_10 (by decide) ?_
    refine a_w11 (lo' := [some (2, 133), some (0, 0)]) (Nat.le_succ _) ti_174_11 rfl ?_
    refine a_wjn 36 (fun (s : a_P) => [some (2, 133), none]) (fun (s : a_P) => []) (fun (s : a_P) => s) (fun s1 => ?_) (fun j36 hj36 => ?_)
    · refine a_w2 (z := 0) (Nat.le_succ _) ti_174_36 (by decide) ?_
      refine a_w11 (lo' := [some (2, 133), some (0, 0)]) (Nat.le_succ _) ti_174_37 rfl ?_
      refine a_wjn 63 (fun (s : a_P) => [some (2, 133), none]) (fun (s : a_P) => []) (fun (s : a_P) => s) (fun s2 => ?_) (fun j63 hj63 => ?_)
      · refine a_w0 (Nat.le_succ _) ti_174_63 rfl ?_
        refine a_w0 (Nat.le_succ _) ti_174_64 rfl ?_
        refine a_w1 (a := (0, s2 133 17)) (Nat.le_succ _) ti_174_65 rfl ?_
        refine a_w10 (Nat.le_succ _) ti_174_68 rfl rfl rfl (fun H1 => ?_)
        refine a_w2 (z := 1) (Nat.le_succ _) ti_174_71 (by decide) ?_
        exact a_w4 (Nat.le_succ _) ti_174_72 rfl rfl rfl
      · refine a_wk (a_wlp (fun (s : Int × a_P) => [some (2, 133), some (0, s.1)]) (fun (s : Int × a_P) => s.2) (fun N1 hN1 n38 hn38 s3 => ?_) a_fuel (a_fuel_le (by omega)) (0, s1)) (Nat.le_refl _) ⟨rfl, rfl, trivial⟩
        · refine a_w0 (Nat.le_refl _) ti_174_38 rfl ?_
          refine a_w2 (z := 376) (Nat.le_succ _) ti_174_39 (by decide) ?_
          refine a_w9_3 (Nat.le_succ _) ti_174_42 ?_ ?_
          · exact a_wk (hj63 s3.2) (by omega) ⟨rfl, trivial⟩
          · refine a_w0 (Nat.le_succ _) ti_174_45 rfl ?_
            refine a_w1 (a := (2, 137)) (Nat.le_succ _) ti_174_46 rfl ?_
            refine a_w0 (Nat.le_succ _) ti_174_49 rfl ?_
            refine a_w0 (Nat.le_succ _) ti_174_50 rfl ?_
            refine a_w1 (a := (2, 141)) (Nat.le_succ _) ti_174_51 rfl ?_
            refine a_w0 (Nat.le_succ _) ti_174_54 rfl ?_
            refine a_w5 (kk := 0) (Nat.le_succ _) ti_174_55 (fun _ => rfl) ?_
            refine a_w12 (Nat.le_succ _) ti_174_56 (Or.inl ⟨rfl, rfl⟩) (fun H2 => ?_)
            refine a_w13 (c' := 1) (lof := fun x1 => [some (2, 133), some (0, x1)]) (Nat.le_succ _) ti_174_57 rfl (by decide) rfl (fun _ => rfl) (fun x1 => ?_)
            refine a_w7 (Nat.le_succ _) ti_174_60 ?_
            exact a_wk (hn38 (x1, H2)) (by omega) ⟨rfl, rfl, trivial⟩
    · refine a_wk (a_wlp (fun (s : Int × a_P) => [some (2, 133), some (0, s.1)]) (fun (s : Int × a_P) => s.2) (fun N2 hN2 n12 hn12 s4 => ?_) a_fuel (a_fuel_le (by omega)) (0, H)) (Nat.le_refl _) ⟨rfl, rfl, trivial⟩
      · refine a_w0 (Nat.le_refl _) ti_174_12 rfl ?_
        refine a_w2 (z := 47) (Nat.le_succ _) ti_174_13 (by decide) ?_
        refine a_w9_3 (Nat.le_succ _) ti_174_15 ?_ ?_
        · exact a_wk (hj36 s4.2) (by omega) ⟨rfl, trivial⟩
        · refine a_w0 (Nat.le_succ _) ti_174_18 rfl ?_
          refine a_w1 (a := (2, 134)) (Nat.le_succ _) ti_174_19 rfl ?_
          refine a_w0 (Nat.le_succ _) ti_174_22 rfl ?_
          refine a_w0 (Nat.le_succ _) ti_174_23 rfl ?_
          refine a_w1 (a := (2, 140)) (Nat.le_succ _) ti_174_24 rfl ?_
          refine a_w0 (Nat.le_succ _) ti_174_27 rfl ?_
          refine a_w5 (kk := 0) (Nat.le_succ _) ti_174_28 (fun _ => rfl) ?_
          refine a_w12 (Nat.le_succ _) ti_174_29 (Or.inl ⟨rfl, rfl⟩) (fun H3 => ?_)
          refine a_w13 (c' := 1) (lof := fun x2 => [some (2, 133), some (0, x2)]) (Nat.le_succ _) ti_174_30 rfl (by decide) rfl (fun _ => rfl) (fun x2 => ?_)
          refine a_w7 (Nat.le_succ _) ti_174_33 ?_
          exact a_wk (hn12 (x2, H3)) (by omega) ⟨rfl, rfl, trivial⟩
  · refine a_w2 (z := (-4)) (Nat.le_succ _) ti_174_7 (by decide) ?_
    exact a_w4 (Nat.le_succ _) ti_174_9 rfl rfl rfl
/-- CarriedGateModel.isSheet(I)Z -/
noncomputable def fn_175 (a0 : Int) : Int :=
  fn_108 a0 0 3
theorem ti_175_0 : (q_I 175).2 0 = some (0, 0, 0, 0, 0, 1, []) := rfl
theorem ti_175_1 : (q_I 175).2 1 = some (14, 4, 0, 0, 0, 2, []) := rfl
theorem ti_175_2 : (q_I 175).2 2 = some (15, 0, 0, 0, 0, 3, []) := rfl
theorem ti_175_3 : (q_I 175).2 3 = some (15, 1, 3, 176, 0, 6, [1006]) := rfl
theorem ti_175_6 : (q_I 175).2 6 = some (3, 1, 51, 108, 3, 9, [867, 6]) := rfl
theorem ti_175_9 : (q_I 175).2 9 = some (4, 3, 0, 0, 0, 10, []) := rfl
theorem mt_175 (a0 : Int) (H : a_P) : a_mt (a_pp H) 0 175 [(0, a0)] H (fn_175 a0) := by
  refine a_mtI (lo := [some (0, a0)]) rfl fun d => ?_
  unfold fn_175
  refine a_w0 (Nat.le_succ _) ti_175_0 rfl ?_
  refine a_w14 (a := (1, a0)) (Nat.le_succ _) ti_175_1 rfl ?_
  refine a_w15 (z := 0) (Nat.le_succ _) ti_175_2 (by decide) ?_
  refine a_w15 (z := 3) (Nat.le_succ _) ti_175_3 (by decide) ?_
  refine a_w3p (args := [(1, a0), (1, 0), (1, 3)]) (Nat.le_succ _) ti_175_6 (mt_108 a0 0 3 H) rfl rfl rfl rfl ?_
  exact a_w4 (Nat.le_succ _) ti_175_9 rfl rfl rfl
/-- CarriedGateModel.sheet(III)I -/
noncomputable def fn_177 (a1 : Int) (a2 : Int) (a3 : Int) (H : a_P) : a_F :=
  a_jn (fun (s1 : Unit) => ((-1), H)) fun j25 =>
  (if (fn_175 a1) = 0 then j25 ()
  else (if (fn_108 a2 0 3) = 0 then j25 ()
  else (if 24 < a3 then j25 ()
  else (if a3 < 0 then ((-14), H)
  else a_bd (a_up H 142 a1 a2) fun H1 =>
  a_bd (a_up H1 143 a1 a3) fun H2 =>
  a_lp (fun (s2 : Int × a_P) => (0, s2.2)) (fun (s2 : Int × a_P) n51 => (if s2.1 < 24 then a_bd (a_up s2.2 144 (a_w ((a_w (24 * a1)) + s2.1)) 0) fun H3 =>
  a_bd (a_w (s2.1 + 1)) fun x1 =>
  n51 (x1, H3)
  else (a3, s2.2))) a_fuel (0, H2)))))
theorem ti_177_0 : (q_I 177).2 0 = some (0, 0, 0, 1, 0, 1, []) := rfl
theorem ti_177_1 : (q_I 177).2 1 = some (3, 1, 237, 175, 1, 4, [1139, 6]) := rfl
theorem ti_177_4 : (q_I 177).2 4 = some (8, 0, 0, 25, 0, 7, []) := rfl
theorem ti_177_7 : (q_I 177).2 7 = some (0, 0, 0, 2, 0, 8, []) := rfl
theorem ti_177_8 : (q_I 177).2 8 = some (14, 4, 0, 0, 0, 9, []) := rfl
theorem ti_177_9 : (q_I 177).2 9 = some (15, 0, 0, 0, 0, 10, []) := rfl
theorem ti_177_10 : (q_I 177).2 10 = some (15, 1, 3, 176, 0, 13, [1006]) := rfl
theorem ti_177_13 : (q_I 177).2 13 = some (3, 1, 51, 108, 3, 16, [867, 6]) := rfl
theorem ti_177_16 : (q_I 177).2 16 = some (8, 0, 0, 25, 0, 19, []) := rfl
theorem ti_177_19 : (q_I 177).2 19 = some (0, 0, 0, 3, 0, 20, []) := rfl
theorem ti_177_20 : (q_I 177).2 20 = some (2, 1, 24, 0, 0, 22, []) := rfl
theorem ti_177_22 : (q_I 177).2 22 = some (9, 5, 0, 27, 0, 25, []) := rfl
theorem ti_177_27 : (q_I 177).2 27 = some (0, 0, 0, 3, 0, 28, []) := rfl
theorem ti_177_28 : (q_I 177).2 28 = some (8, 3, 0, 34, 0, 31, []) := rfl
theorem ti_177_31 : (q_I 177).2 31 = some (2, 1, (-14), 0, 0, 33, []) := rfl
theorem ti_177_33 : (q_I 177).2 33 = some (4, 0, 0, 0, 0, 34, []) := rfl
theorem ti_177_34 : (q_I 177).2 34 = some (0, 4, 0, 0, 2, 35, []) := rfl
theorem ti_177_35 : (q_I 177).2 35 = some (1, 0, 38, 6, 18, 38, [813]) := rfl
theorem ti_177_38 : (q_I 177).2 38 = some (0, 0, 0, 1, 0, 39, []) := rfl
theorem ti_177_39 : (q_I 177).2 39 = some (0, 0, 0, 2, 0, 40, []) := rfl
theorem ti_177_40 : (q_I 177).2 40 = some (12, 10, 0, 0, 0, 41, []) := rfl
theorem ti_177_41 : (q_I 177).2 41 = some (0, 4, 0, 0, 2, 42, []) := rfl
theorem ti_177_42 : (q_I 177).2 42 = some (1, 0, 41, 6, 19, 45, [814]) := rfl
theorem ti_177_45 : (q_I 177).2 45 = some (0, 0, 0, 1, 0, 46, []) := rfl
theorem ti_177_46 : (q_I 177).2 46 = some (0, 0, 0, 3, 0, 47, []) := rfl
theorem ti_177_47 : (q_I 177).2 47 = some (12, 10, 0, 0, 0, 48, []) := rfl
theorem ti_177_48 : (q_I 177).2 48 = some (2, 0, 0, 0, 0, 49, []) := rfl
theorem ti_177_49 : (q_I 177).2 49 = some (11, 1, 0, 4, 0, 51, []) := rfl
theorem ti_177_51 : (q_I 177).2 51 = some (0, 1, 0, 4, 0, 53, []) := rfl
theorem ti_177_53 : (q_I 177).2 53 = some (2, 1, 24, 0, 0, 55, []) := rfl
theorem ti_177_55 : (q_I 177).2 55 = some (9, 3, 0, 77, 0, 58, []) := rfl
theorem ti_177_58 : (q_I 177).2 58 = some (0, 4, 0, 0, 2, 59, []) := rfl
theorem ti_177_59 : (q_I 177).2 59 = some (1, 0, 44, 6, 20, 62, [815]) := rfl
theorem ti_177_62 : (q_I 177).2 62 = some (2, 1, 24, 0, 0, 64, []) := rfl
theorem ti_177_64 : (q_I 177).2 64 = some (0, 0, 0, 1, 0, 65, []) := rfl
theorem ti_177_65 : (q_I 177).2 65 = some (6, 2, 0, 0, 0, 66, []) := rfl
theorem ti_177_66 : (q_I 177).2 66 = some (0, 1, 0, 4, 0, 68, []) := rfl
theorem ti_177_68 : (q_I 177).2 68 = some (6, 0, 0, 0, 0, 69, []) := rfl
theorem ti_177_69 : (q_I 177).2 69 = some (15, 0, 0, 0, 0, 70, []) := rfl
theorem ti_177_70 : (q_I 177).2 70 = some (12, 11, 0, 0, 0, 71, []) := rfl
theorem ti_177_71 : (q_I 177).2 71 = some (13, 0, 1, 4, 0, 74, []) := rfl
theorem ti_177_74 : (q_I 177).2 74 = some (7, 0, 0, 51, 0, 77, []) := rfl
theorem ti_177_77 : (q_I 177).2 77 = some (0, 0, 0, 3, 0, 78, []) := rfl
theorem ti_177_78 : (q_I 177).2 78 = some (4, 0, 0, 0, 0, 79, []) := rfl
theorem ti_177_25 : (q_I 177).2 25 = some (2, 0, (-1), 0, 0, 26, []) := rfl
theorem ti_177_26 : (q_I 177).2 26 = some (4, 0, 0, 0, 0, 27, []) := rfl
theorem mt_177 (a1 : Int) (a2 : Int) (a3 : Int) (H : a_P) : a_mt id 0 177 [(2, 133), (0, a1), (0, a2), (0, a3)] H (fn_177 a1 a2 a3 H) := by
  refine a_mtI (lo := [some (2, 133), some (0, a1), some (0, a2), some (0, a3), none]) rfl fun d => ?_
  unfold fn_177
  refine a_w0 (Nat.le_succ _) ti_177_0 rfl ?_
  refine a_w3p (args := [(0, a1)]) (Nat.le_succ _) ti_177_1 (mt_175 a1 H) rfl rfl rfl rfl ?_
  refine a_wjn 25 (fun (s : Unit) => [none, none, none, none, none]) (fun (s : Unit) => []) (fun (s : Unit) => H) (fun s1 => ?_) (fun j25 hj25 => ?_)
  · refine a_w2 (z := (-1)) (Nat.le_succ _) ti_177_25 (by decide) ?_
    exact a_w4 (Nat.le_succ _) ti_177_26 rfl rfl rfl
  · refine a_w8_0 (Nat.le_succ _) ti_177_4 ?_ ?_
    · exact a_wk (hj25 ()) (by omega) trivial
    · refine a_w0 (Nat.le_succ _) ti_177_7 rfl ?_
      refine a_w14 (a := (1, a2)) (Nat.le_succ _) ti_177_8 rfl ?_
      refine a_w15 (z := 0) (Nat.le_succ _) ti_177_9 (by decide) ?_
      refine a_w15 (z := 3) (Nat.le_succ _) ti_177_10 (by decide) ?_
      refine a_w3p (args := [(1, a2), (1, 0), (1, 3)]) (Nat.le_succ _) ti_177_13 (mt_108 a2 0 3 H) rfl rfl rfl rfl ?_
      refine a_w8_0 (Nat.le_succ _) ti_177_16 ?_ ?_
      · exact a_wk (hj25 ()) (by omega) trivial
      · refine a_w0 (Nat.le_succ _) ti_177_19 rfl ?_
        refine a_w2 (z := 24) (Nat.le_succ _) ti_177_20 (by decide) ?_
        refine a_w9_5 (Nat.le_succ _) ti_177_22 ?_ ?_
        · refine a_w0 (Nat.le_succ _) ti_177_27 rfl ?_
          refine a_w8_3 (Nat.le_succ _) ti_177_28 ?_ ?_
          · refine a_w0 (Nat.le_succ _) ti_177_34 rfl ?_
            refine a_w1 (a := (2, 142)) (Nat.le_succ _) ti_177_35 rfl ?_
            refine a_w0 (Nat.le_succ _) ti_177_38 rfl ?_
            refine a_w0 (Nat.le_succ _) ti_177_39 rfl ?_
            refine a_w12 (Nat.le_succ _) ti_177_40 (Or.inl ⟨rfl, rfl⟩) (fun H1 => ?_)
            refine a_w0 (Nat.le_succ _) ti_177_41 rfl ?_
            refine a_w1 (a := (2, 143)) (Nat.le_succ _) ti_177_42 rfl ?_
            refine a_w0 (Nat.le_succ _) ti_177_45 rfl ?_
            refine a_w0 (Nat.le_succ _) ti_177_46 rfl ?_
            refine a_w12 (Nat.le_succ _) ti_177_47 (Or.inl ⟨rfl, rfl⟩) (fun H2 => ?_)
            refine a_w2 (z := 0) (Nat.le_succ _) ti_177_48 (by decide) ?_
            refine a_w11 (lo' := [some (2, 133), some (0, a1), some (0, a2), some (0, a3), some (0, 0)]) (Nat.le_succ _) ti_177_49 rfl ?_
            refine a_wk (a_wlp (fun (s : Int × a_P) => [some (2, 133), some (0, a1), none, some (0, a3), some (0, s.1)]) (fun (s : Int × a_P) => s.2) (fun N1 hN1 n51 hn51 s2 => ?_) a_fuel (a_fuel_le (by omega)) (0, H2)) (Nat.le_refl _) ⟨rfl, rfl, rfl, rfl, trivial⟩
            · refine a_w0 (Nat.le_refl _) ti_177_51 rfl ?_
              refine a_w2 (z := 24) (Nat.le_succ _) ti_177_53 (by decide) ?_
              refine a_w9_3 (Nat.le_succ _) ti_177_55 ?_ ?_
              · refine a_w0 (Nat.le_succ _) ti_177_77 rfl ?_
                exact a_w4 (Nat.le_succ _) ti_177_78 rfl rfl rfl
              · refine a_w0 (Nat.le_succ _) ti_177_58 rfl ?_
                refine a_w1 (a := (2, 144)) (Nat.le_succ _) ti_177_59 rfl ?_
                refine a_w2 (z := 24) (Nat.le_succ _) ti_177_62 (by decide) ?_
                refine a_w0 (Nat.le_succ _) ti_177_64 rfl ?_
                refine a_w6 (a := (0, a_w (24 * a1))) (Nat.le_succ _) ti_177_65 rfl ?_
                refine a_w0 (Nat.le_succ _) ti_177_66 rfl ?_
                refine a_w6 (a := (0, a_w ((a_w (24 * a1)) + s2.1))) (Nat.le_succ _) ti_177_68 rfl ?_
                refine a_w15 (z := 0) (Nat.le_succ _) ti_177_69 (by decide) ?_
                refine a_w12 (Nat.le_succ _) ti_177_70 (Or.inr ⟨rfl, rfl⟩) (fun H3 => ?_)
                refine a_w13 (c' := 1) (lof := fun x1 => [some (2, 133), some (0, a1), none, some (0, a3), some (0, x1)]) (Nat.le_succ _) ti_177_71 rfl (by decide) rfl (fun _ => rfl) (fun x1 => ?_)
                refine a_w7 (Nat.le_succ _) ti_177_74 ?_
                exact a_wk (hn51 (x1, H3)) (by omega) ⟨rfl, rfl, rfl, rfl, trivial⟩
          · refine a_w2 (z := (-14)) (Nat.le_succ _) ti_177_31 (by decide) ?_
            exact a_w4 (Nat.le_succ _) ti_177_33 rfl rfl rfl
        · exact a_wk (hj25 ()) (by omega) trivial
/-- CarriedGateModel.drop(I)I -/
noncomputable def fn_178 (a1 : Int) (H : a_P) : a_F :=
  (if (fn_175 a1) = 0 then ((-1), H)
  else (if (H 142 a1) < 0 then ((-11), H)
  else a_bd (a_up H 142 a1 (-1)) fun H1 =>
  (H1 143 a1, H1)))
theorem ti_178_0 : (q_I 178).2 0 = some (0, 0, 0, 1, 0, 1, []) := rfl
theorem ti_178_1 : (q_I 178).2 1 = some (3, 1, 237, 175, 1, 4, [1139, 6]) := rfl
theorem ti_178_4 : (q_I 178).2 4 = some (8, 1, 0, 9, 0, 7, []) := rfl
theorem ti_178_7 : (q_I 178).2 7 = some (2, 0, (-1), 0, 0, 8, []) := rfl
theorem ti_178_8 : (q_I 178).2 8 = some (4, 0, 0, 0, 0, 9, []) := rfl
theorem ti_178_9 : (q_I 178).2 9 = some (0, 4, 0, 0, 2, 10, []) := rfl
theorem ti_178_10 : (q_I 178).2 10 = some (1, 0, 38, 6, 18, 13, [813]) := rfl
theorem ti_178_13 : (q_I 178).2 13 = some (0, 0, 0, 1, 0, 14, []) := rfl
theorem ti_178_14 : (q_I 178).2 14 = some (5, 10, 0, 0, 0, 15, []) := rfl
theorem ti_178_15 : (q_I 178).2 15 = some (8, 3, 0, 21, 0, 18, []) := rfl
theorem ti_178_18 : (q_I 178).2 18 = some (2, 1, (-11), 0, 0, 20, []) := rfl
theorem ti_178_20 : (q_I 178).2 20 = some (4, 0, 0, 0, 0, 21, []) := rfl
theorem ti_178_21 : (q_I 178).2 21 = some (0, 4, 0, 0, 2, 22, []) := rfl
theorem ti_178_22 : (q_I 178).2 22 = some (1, 0, 38, 6, 18, 25, [813]) := rfl
theorem ti_178_25 : (q_I 178).2 25 = some (0, 0, 0, 1, 0, 26, []) := rfl
theorem ti_178_26 : (q_I 178).2 26 = some (2, 0, (-1), 0, 0, 27, []) := rfl
theorem ti_178_27 : (q_I 178).2 27 = some (12, 10, 0, 0, 0, 28, []) := rfl
theorem ti_178_28 : (q_I 178).2 28 = some (0, 4, 0, 0, 2, 29, []) := rfl
theorem ti_178_29 : (q_I 178).2 29 = some (1, 0, 41, 6, 19, 32, [814]) := rfl
theorem ti_178_32 : (q_I 178).2 32 = some (0, 0, 0, 1, 0, 33, []) := rfl
theorem ti_178_33 : (q_I 178).2 33 = some (5, 10, 0, 0, 0, 34, []) := rfl
theorem ti_178_34 : (q_I 178).2 34 = some (4, 0, 0, 0, 0, 35, []) := rfl
theorem mt_178 (a1 : Int) (H : a_P) : a_mt id 0 178 [(2, 133), (0, a1)] H (fn_178 a1 H) := by
  refine a_mtI (lo := [some (2, 133), some (0, a1)]) rfl fun d => ?_
  unfold fn_178
  refine a_w0 (Nat.le_succ _) ti_178_0 rfl ?_
  refine a_w3p (args := [(0, a1)]) (Nat.le_succ _) ti_178_1 (mt_175 a1 H) rfl rfl rfl rfl ?_
  refine a_w8_1 (Nat.le_succ _) ti_178_4 ?_ ?_
  · refine a_w0 (Nat.le_succ _) ti_178_9 rfl ?_
    refine a_w1 (a := (2, 142)) (Nat.le_succ _) ti_178_10 rfl ?_
    refine a_w0 (Nat.le_succ _) ti_178_13 rfl ?_
    refine a_w5 (kk := 0) (Nat.le_succ _) ti_178_14 (fun _ => rfl) ?_
    refine a_w8_3 (Nat.le_succ _) ti_178_15 ?_ ?_
    · refine a_w0 (Nat.le_succ _) ti_178_21 rfl ?_
      refine a_w1 (a := (2, 142)) (Nat.le_succ _) ti_178_22 rfl ?_
      refine a_w0 (Nat.le_succ _) ti_178_25 rfl ?_
      refine a_w2 (z := (-1)) (Nat.le_succ _) ti_178_26 (by decide) ?_
      refine a_w12 (Nat.le_succ _) ti_178_27 (Or.inl ⟨rfl, rfl⟩) (fun H1 => ?_)
      refine a_w0 (Nat.le_succ _) ti_178_28 rfl ?_
      refine a_w1 (a := (2, 143)) (Nat.le_succ _) ti_178_29 rfl ?_
      refine a_w0 (Nat.le_succ _) ti_178_32 rfl ?_
      refine a_w5 (kk := 0) (Nat.le_succ _) ti_178_33 (fun _ => rfl) ?_
      exact a_w4 (Nat.le_succ _) ti_178_34 rfl rfl rfl
    · refine a_w2 (z := (-11)) (Nat.le_succ _) ti_178_18 (by decide) ?_
      exact a_w4 (Nat.le_succ _) ti_178_20 rfl rfl rfl
  · refine a_w2 (z := (-1)) (Nat.le_succ _) ti_178_7 (by decide) ?_
    exact a_w4 (Nat.le_succ _) ti_178_8 rfl rfl rfl
/-- CarriedGateModel.cut(JI)J -/
noncomputable def fn_176 (a0 : Int) (a1 : Int) : Int :=
  a_jn (fun (s1 : Int) => s1) fun j35 =>
  (if a1 = 0 then j35 (a_i2b (a_w a0))
  else (if a1 = 1 then j35 (a_i2s (a_w a0))
  else (if a1 = 2 then j35 (a_w a0)
  else j35 a0)))
theorem ti_176_0 : (q_I 176).2 0 = some (0, 0, 0, 2, 0, 1, []) := rfl
theorem ti_176_1 : (q_I 176).2 1 = some (8, 1, 0, 11, 0, 4, []) := rfl
theorem ti_176_4 : (q_I 176).2 4 = some (0, 2, 0, 0, 1, 5, []) := rfl
theorem ti_176_5 : (q_I 176).2 5 = some (14, 5, 0, 0, 0, 6, []) := rfl
theorem ti_176_6 : (q_I 176).2 6 = some (14, 1, 0, 0, 0, 7, []) := rfl
theorem ti_176_7 : (q_I 176).2 7 = some (14, 4, 0, 0, 0, 8, []) := rfl
theorem ti_176_8 : (q_I 176).2 8 = some (7, 0, 0, 35, 0, 11, []) := rfl
theorem ti_176_11 : (q_I 176).2 11 = some (0, 0, 0, 2, 0, 12, []) := rfl
theorem ti_176_12 : (q_I 176).2 12 = some (2, 0, 1, 0, 0, 13, []) := rfl
theorem ti_176_13 : (q_I 176).2 13 = some (9, 1, 0, 23, 0, 16, []) := rfl
theorem ti_176_16 : (q_I 176).2 16 = some (0, 2, 0, 0, 1, 17, []) := rfl
theorem ti_176_17 : (q_I 176).2 17 = some (14, 5, 0, 0, 0, 18, []) := rfl
theorem ti_176_18 : (q_I 176).2 18 = some (14, 2, 0, 0, 0, 19, []) := rfl
theorem ti_176_19 : (q_I 176).2 19 = some (14, 4, 0, 0, 0, 20, []) := rfl
theorem ti_176_20 : (q_I 176).2 20 = some (7, 0, 0, 35, 0, 23, []) := rfl
theorem ti_176_23 : (q_I 176).2 23 = some (0, 0, 0, 2, 0, 24, []) := rfl
theorem ti_176_24 : (q_I 176).2 24 = some (2, 0, 2, 0, 0, 25, []) := rfl
theorem ti_176_25 : (q_I 176).2 25 = some (9, 1, 0, 34, 0, 28, []) := rfl
theorem ti_176_28 : (q_I 176).2 28 = some (0, 2, 0, 0, 1, 29, []) := rfl
theorem ti_176_29 : (q_I 176).2 29 = some (14, 5, 0, 0, 0, 30, []) := rfl
theorem ti_176_30 : (q_I 176).2 30 = some (14, 4, 0, 0, 0, 31, []) := rfl
theorem ti_176_31 : (q_I 176).2 31 = some (7, 0, 0, 35, 0, 34, []) := rfl
theorem ti_176_34 : (q_I 176).2 34 = some (0, 2, 0, 0, 1, 35, []) := rfl
theorem ti_176_35 : (q_I 176).2 35 = some (4, 1, 0, 0, 0, 36, []) := rfl
theorem mt_176 (a0 : Int) (a1 : Int) (H : a_P) : a_mt (a_pp H) 1 176 [(1, a0), (0, a1)] H (fn_176 a0 a1) := by
  refine a_mtI (lo := [some (1, a0), none, some (0, a1)]) rfl fun d => ?_
  unfold fn_176
  refine a_w0 (Nat.le_succ _) ti_176_0 rfl ?_
  refine a_wjn 35 (fun (s : Int) => [none, none, none]) (fun (s : Int) => [(1, s)]) (fun (s : Int) => H) (fun s1 => ?_) (fun j35 hj35 => ?_)
  · exact a_w4 (Nat.le_succ _) ti_176_35 rfl rfl rfl
  · refine a_w8_1 (Nat.le_succ _) ti_176_1 ?_ ?_
    · refine a_w0 (Nat.le_succ _) ti_176_11 rfl ?_
      refine a_w2 (z := 1) (Nat.le_succ _) ti_176_12 (by decide) ?_
      refine a_w9_1 (Nat.le_succ _) ti_176_13 ?_ ?_
      · refine a_w0 (Nat.le_succ _) ti_176_23 rfl ?_
        refine a_w2 (z := 2) (Nat.le_succ _) ti_176_24 (by decide) ?_
        refine a_w9_1 (Nat.le_succ _) ti_176_25 ?_ ?_
        · refine a_w0 (Nat.le_succ _) ti_176_34 rfl ?_
          exact a_wk (hj35 a0) (by omega) trivial
        · refine a_w0 (Nat.le_succ _) ti_176_28 rfl ?_
          refine a_w14 (a := (0, a_w a0)) (Nat.le_succ _) ti_176_29 rfl ?_
          refine a_w14 (a := (1, (a_w a0))) (Nat.le_succ _) ti_176_30 rfl ?_
          refine a_w7 (Nat.le_succ _) ti_176_31 ?_
          exact a_wk (hj35 (a_w a0)) (by omega) trivial
      · refine a_w0 (Nat.le_succ _) ti_176_16 rfl ?_
        refine a_w14 (a := (0, a_w a0)) (Nat.le_succ _) ti_176_17 rfl ?_
        refine a_w14 (a := (0, a_i2s (a_w a0))) (Nat.le_succ _) ti_176_18 rfl ?_
        refine a_w14 (a := (1, (a_i2s (a_w a0)))) (Nat.le_succ _) ti_176_19 rfl ?_
        refine a_w7 (Nat.le_succ _) ti_176_20 ?_
        exact a_wk (hj35 (a_i2s (a_w a0))) (by omega) trivial
    · refine a_w0 (Nat.le_succ _) ti_176_4 rfl ?_
      refine a_w14 (a := (0, a_w a0)) (Nat.le_succ _) ti_176_5 rfl ?_
      refine a_w14 (a := (0, a_i2b (a_w a0))) (Nat.le_succ _) ti_176_6 rfl ?_
      refine a_w14 (a := (1, (a_i2b (a_w a0)))) (Nat.le_succ _) ti_176_7 rfl ?_
      refine a_w7 (Nat.le_succ _) ti_176_8 ?_
      exact a_wk (hj35 (a_i2b (a_w a0))) (by omega) trivial
/-- CarriedGateModel.why(IIII)I -/
noncomputable def fn_179 (a1 : Int) (a2 : Int) (a3 : Int) (a4 : Int) (H : a_P) : Int :=
  (if (H 142 a1) < 0 then (-11)
  else (if (H 142 a1) = a2 then a_jn (fun (s1 : Int) => s1) fun j48 =>
  a_jn (fun (s2 : Unit) => j48 (-13)) fun j42 =>
  (if a3 < 0 then j42 ()
  else (if (a_w ((H 143 a1) - a3)) < a4 then j42 ()
  else j48 0))
  else (-12)))
theorem ti_179_0 : (q_I 179).2 0 = some (0, 4, 0, 0, 2, 1, []) := rfl
theorem ti_179_1 : (q_I 179).2 1 = some (1, 0, 38, 6, 18, 4, [813]) := rfl
theorem ti_179_4 : (q_I 179).2 4 = some (0, 0, 0, 1, 0, 5, []) := rfl
theorem ti_179_5 : (q_I 179).2 5 = some (5, 10, 0, 0, 0, 6, []) := rfl
theorem ti_179_6 : (q_I 179).2 6 = some (8, 3, 0, 12, 0, 9, []) := rfl
theorem ti_179_9 : (q_I 179).2 9 = some (2, 1, (-11), 0, 0, 11, []) := rfl
theorem ti_179_11 : (q_I 179).2 11 = some (4, 0, 0, 0, 0, 12, []) := rfl
theorem ti_179_12 : (q_I 179).2 12 = some (0, 4, 0, 0, 2, 13, []) := rfl
theorem ti_179_13 : (q_I 179).2 13 = some (1, 0, 38, 6, 18, 16, [813]) := rfl
theorem ti_179_16 : (q_I 179).2 16 = some (0, 0, 0, 1, 0, 17, []) := rfl
theorem ti_179_17 : (q_I 179).2 17 = some (5, 10, 0, 0, 0, 18, []) := rfl
theorem ti_179_18 : (q_I 179).2 18 = some (0, 0, 0, 2, 0, 19, []) := rfl
theorem ti_179_19 : (q_I 179).2 19 = some (9, 0, 0, 25, 0, 22, []) := rfl
theorem ti_179_22 : (q_I 179).2 22 = some (2, 1, (-12), 0, 0, 24, []) := rfl
theorem ti_179_24 : (q_I 179).2 24 = some (4, 0, 0, 0, 0, 25, []) := rfl
theorem ti_179_25 : (q_I 179).2 25 = some (0, 0, 0, 3, 0, 26, []) := rfl
theorem ti_179_26 : (q_I 179).2 26 = some (8, 2, 0, 42, 0, 29, []) := rfl
theorem ti_179_29 : (q_I 179).2 29 = some (0, 1, 0, 4, 0, 31, []) := rfl
theorem ti_179_31 : (q_I 179).2 31 = some (0, 4, 0, 0, 2, 32, []) := rfl
theorem ti_179_32 : (q_I 179).2 32 = some (1, 0, 41, 6, 19, 35, [814]) := rfl
theorem ti_179_35 : (q_I 179).2 35 = some (0, 0, 0, 1, 0, 36, []) := rfl
theorem ti_179_36 : (q_I 179).2 36 = some (5, 10, 0, 0, 0, 37, []) := rfl
theorem ti_179_37 : (q_I 179).2 37 = some (0, 0, 0, 3, 0, 38, []) := rfl
theorem ti_179_38 : (q_I 179).2 38 = some (6, 1, 0, 0, 0, 39, []) := rfl
theorem ti_179_39 : (q_I 179).2 39 = some (9, 5, 0, 47, 0, 42, []) := rfl
theorem ti_179_47 : (q_I 179).2 47 = some (2, 0, 0, 0, 0, 48, []) := rfl
theorem ti_179_42 : (q_I 179).2 42 = some (2, 1, (-13), 0, 0, 44, []) := rfl
theorem ti_179_44 : (q_I 179).2 44 = some (7, 0, 0, 48, 0, 47, []) := rfl
theorem ti_179_48 : (q_I 179).2 48 = some (4, 0, 0, 0, 0, 49, []) := rfl
theorem mt_179 (a1 : Int) (a2 : Int) (a3 : Int) (a4 : Int) (H : a_P) : a_mt (a_pp H) 0 179 [(2, 133), (0, a1), (0, a2), (0, a3), (0, a4)] H (fn_179 a1 a2 a3 a4 H) := by
  refine a_mtI (lo := [some (2, 133), some (0, a1), some (0, a2), some (0, a3), some (0, a4)]) rfl fun d => ?_
  unfold fn_179
  refine a_w0 (Nat.le_succ _) ti_179_0 rfl ?_
  refine a_w1 (a := (2, 142)) (Nat.le_succ _) ti_179_1 rfl ?_
  refine a_w0 (Nat.le_succ _) ti_179_4 rfl ?_
  refine a_w5 (kk := 0) (Nat.le_succ _) ti_179_5 (fun _ => rfl) ?_
  refine a_w8_3 (Nat.le_succ _) ti_179_6 ?_ ?_
  · refine a_w0 (Nat.le_succ _) ti_179_12 rfl ?_
    refine a_w1 (a := (2, 142)) (Nat.le_succ _) ti_179_13 rfl ?_
    refine a_w0 (Nat.le_succ _) ti_179_16 rfl ?_
    refine a_w5 (kk := 0) (Nat.le_succ _) ti_179_17 (fun _ => rfl) ?_
    refine a_w0 (Nat.le_succ _) ti_179_18 rfl ?_
    refine a_w9_0 (Nat.le_succ _) ti_179_19 ?_ ?_
    · refine a_w0 (Nat.le_succ _) ti_179_25 rfl ?_
      refine a_wjn 48 (fun (s : Int) => [none, none, none, none, none]) (fun (s : Int) => [(0, s)]) (fun (s : Int) => H) (fun s1 => ?_) (fun j48 hj48 => ?_)
      · exact a_w4 (Nat.le_succ _) ti_179_48 rfl rfl rfl
      · refine a_wjn 42 (fun (s : Unit) => [none, none, none, none, none]) (fun (s : Unit) => []) (fun (s : Unit) => H) (fun s2 => ?_) (fun j42 hj42 => ?_)
        · refine a_w2 (z := (-13)) (Nat.le_succ _) ti_179_42 (by decide) ?_
          refine a_w7 (Nat.le_succ _) ti_179_44 ?_
          exact a_wk (hj48 (-13)) (by omega) trivial
        · refine a_w8_2 (Nat.le_succ _) ti_179_26 ?_ ?_
          · exact a_wk (hj42 ()) (by omega) trivial
          · refine a_w0 (Nat.le_succ _) ti_179_29 rfl ?_
            refine a_w0 (Nat.le_succ _) ti_179_31 rfl ?_
            refine a_w1 (a := (2, 143)) (Nat.le_succ _) ti_179_32 rfl ?_
            refine a_w0 (Nat.le_succ _) ti_179_35 rfl ?_
            refine a_w5 (kk := 0) (Nat.le_succ _) ti_179_36 (fun _ => rfl) ?_
            refine a_w0 (Nat.le_succ _) ti_179_37 rfl ?_
            refine a_w6 (a := (0, a_w ((H 143 a1) - a3))) (Nat.le_succ _) ti_179_38 rfl ?_
            refine a_w9_5 (Nat.le_succ _) ti_179_39 ?_ ?_
            · refine a_w2 (z := 0) (Nat.le_succ _) ti_179_47 (by decide) ?_
              exact a_wk (hj48 0) (by omega) trivial
            · exact a_wk (hj42 ()) (by omega) trivial
    · refine a_w2 (z := (-12)) (Nat.le_succ _) ti_179_22 (by decide) ?_
      exact a_w4 (Nat.le_succ _) ti_179_24 rfl rfl rfl
  · refine a_w2 (z := (-11)) (Nat.le_succ _) ti_179_9 (by decide) ?_
    exact a_w4 (Nat.le_succ _) ti_179_11 rfl rfl rfl
/-- CarriedGateModel.item(IIIJ)I -/
noncomputable def fn_180 (a1 : Int) (a2 : Int) (a3 : Int) (a4 : Int) (H : a_P) : a_F :=
  a_jn (fun (s1 : Unit) => ((-1), H)) fun j19 =>
  (if (fn_175 a1) = 0 then j19 ()
  else (if (fn_108 a2 0 3) = 0 then j19 ()
  else a_bd (fn_179 a1 a2 a3 1 H) fun x1 =>
  (if x1 < 0 then (x1, H)
  else a_bd (a_up H 144 (a_w ((a_w (24 * a1)) + a3)) (fn_176 a4 a2)) fun H1 =>
  (1, H1))))
theorem ti_180_0 : (q_I 180).2 0 = some (0, 0, 0, 1, 0, 1, []) := rfl
theorem ti_180_1 : (q_I 180).2 1 = some (3, 1, 237, 175, 1, 4, [1139, 6]) := rfl
theorem ti_180_4 : (q_I 180).2 4 = some (8, 0, 0, 19, 0, 7, []) := rfl
theorem ti_180_7 : (q_I 180).2 7 = some (0, 0, 0, 2, 0, 8, []) := rfl
theorem ti_180_8 : (q_I 180).2 8 = some (14, 4, 0, 0, 0, 9, []) := rfl
theorem ti_180_9 : (q_I 180).2 9 = some (15, 0, 0, 0, 0, 10, []) := rfl
theorem ti_180_10 : (q_I 180).2 10 = some (15, 1, 3, 176, 0, 13, [1006]) := rfl
theorem ti_180_13 : (q_I 180).2 13 = some (3, 1, 51, 108, 3, 16, [867, 6]) := rfl
theorem ti_180_16 : (q_I 180).2 16 = some (8, 1, 0, 21, 0, 19, []) := rfl
theorem ti_180_21 : (q_I 180).2 21 = some (0, 4, 0, 0, 2, 22, []) := rfl
theorem ti_180_22 : (q_I 180).2 22 = some (0, 0, 0, 1, 0, 23, []) := rfl
theorem ti_180_23 : (q_I 180).2 23 = some (0, 0, 0, 2, 0, 24, []) := rfl
theorem ti_180_24 : (q_I 180).2 24 = some (0, 0, 0, 3, 0, 25, []) := rfl
theorem ti_180_25 : (q_I 180).2 25 = some (2, 0, 1, 0, 0, 26, []) := rfl
theorem ti_180_26 : (q_I 180).2 26 = some (3, 0, 240, 179, 5, 29, [1150, 6]) := rfl
theorem ti_180_29 : (q_I 180).2 29 = some (11, 1, 0, 6, 0, 31, []) := rfl
theorem ti_180_31 : (q_I 180).2 31 = some (0, 1, 0, 6, 0, 33, []) := rfl
theorem ti_180_33 : (q_I 180).2 33 = some (8, 3, 0, 39, 0, 36, []) := rfl
theorem ti_180_36 : (q_I 180).2 36 = some (0, 1, 0, 6, 0, 38, []) := rfl
theorem ti_180_38 : (q_I 180).2 38 = some (4, 0, 0, 0, 0, 39, []) := rfl
theorem ti_180_39 : (q_I 180).2 39 = some (0, 4, 0, 0, 2, 40, []) := rfl
theorem ti_180_40 : (q_I 180).2 40 = some (1, 0, 44, 6, 20, 43, [815]) := rfl
theorem ti_180_43 : (q_I 180).2 43 = some (2, 1, 24, 0, 0, 45, []) := rfl
theorem ti_180_45 : (q_I 180).2 45 = some (0, 0, 0, 1, 0, 46, []) := rfl
theorem ti_180_46 : (q_I 180).2 46 = some (6, 2, 0, 0, 0, 47, []) := rfl
theorem ti_180_47 : (q_I 180).2 47 = some (0, 0, 0, 3, 0, 48, []) := rfl
theorem ti_180_48 : (q_I 180).2 48 = some (6, 0, 0, 0, 0, 49, []) := rfl
theorem ti_180_49 : (q_I 180).2 49 = some (0, 3, 0, 4, 1, 51, []) := rfl
theorem ti_180_51 : (q_I 180).2 51 = some (0, 0, 0, 2, 0, 52, []) := rfl
theorem ti_180_52 : (q_I 180).2 52 = some (3, 1, 244, 176, 2, 55, [1154, 6]) := rfl
theorem ti_180_55 : (q_I 180).2 55 = some (12, 11, 0, 0, 0, 56, []) := rfl
theorem ti_180_56 : (q_I 180).2 56 = some (2, 0, 1, 0, 0, 57, []) := rfl
theorem ti_180_57 : (q_I 180).2 57 = some (4, 0, 0, 0, 0, 58, []) := rfl
theorem ti_180_19 : (q_I 180).2 19 = some (2, 0, (-1), 0, 0, 20, []) := rfl
theorem ti_180_20 : (q_I 180).2 20 = some (4, 0, 0, 0, 0, 21, []) := rfl
theorem mt_180 (a1 : Int) (a2 : Int) (a3 : Int) (a4 : Int) (H : a_P) : a_mt id 0 180 [(2, 133), (0, a1), (0, a2), (0, a3), (1, a4)] H (fn_180 a1 a2 a3 a4 H) := by
  refine a_mtI (lo := [some (2, 133), some (0, a1), some (0, a2), some (0, a3), some (1, a4), none, none]) rfl fun d => ?_
  unfold fn_180
  refine a_w0 (Nat.le_succ _) ti_180_0 rfl ?_
  refine a_w3p (args := [(0, a1)]) (Nat.le_succ _) ti_180_1 (mt_175 a1 H) rfl rfl rfl rfl ?_
  refine a_wjn 19 (fun (s : Unit) => [none, none, none, none, none, none, none]) (fun (s : Unit) => []) (fun (s : Unit) => H) (fun s1 => ?_) (fun j19 hj19 => ?_)
  · refine a_w2 (z := (-1)) (Nat.le_succ _) ti_180_19 (by decide) ?_
    exact a_w4 (Nat.le_succ _) ti_180_20 rfl rfl rfl
  · refine a_w8_0 (Nat.le_succ _) ti_180_4 ?_ ?_
    · exact a_wk (hj19 ()) (by omega) trivial
    · refine a_w0 (Nat.le_succ _) ti_180_7 rfl ?_
      refine a_w14 (a := (1, a2)) (Nat.le_succ _) ti_180_8 rfl ?_
      refine a_w15 (z := 0) (Nat.le_succ _) ti_180_9 (by decide) ?_
      refine a_w15 (z := 3) (Nat.le_succ _) ti_180_10 (by decide) ?_
      refine a_w3p (args := [(1, a2), (1, 0), (1, 3)]) (Nat.le_succ _) ti_180_13 (mt_108 a2 0 3 H) rfl rfl rfl rfl ?_
      refine a_w8_1 (Nat.le_succ _) ti_180_16 ?_ ?_
      · refine a_w0 (Nat.le_succ _) ti_180_21 rfl ?_
        refine a_w0 (Nat.le_succ _) ti_180_22 rfl ?_
        refine a_w0 (Nat.le_succ _) ti_180_23 rfl ?_
        refine a_w0 (Nat.le_succ _) ti_180_24 rfl ?_
        refine a_w2 (z := 1) (Nat.le_succ _) ti_180_25 (by decide) ?_
        refine a_w3p (args := [(2, 133), (0, a1), (0, a2), (0, a3), (0, 1)]) (Nat.le_succ _) ti_180_26 (mt_179 a1 a2 a3 1 H) rfl rfl rfl rfl ?_
        refine a_w11b (lof := fun x1 => [some (2, 133), some (0, a1), some (0, a2), some (0, a3), some (1, a4), none, some (0, x1)]) (Nat.le_succ _) ti_180_29 (fun _ => rfl) (fun x1 => ?_)
        refine a_w0 (Nat.le_succ _) ti_180_31 rfl ?_
        refine a_w8_3 (Nat.le_succ _) ti_180_33 ?_ ?_
        · refine a_w0 (Nat.le_succ _) ti_180_39 rfl ?_
          refine a_w1 (a := (2, 144)) (Nat.le_succ _) ti_180_40 rfl ?_
          refine a_w2 (z := 24) (Nat.le_succ _) ti_180_43 (by decide) ?_
          refine a_w0 (Nat.le_succ _) ti_180_45 rfl ?_
          refine a_w6 (a := (0, a_w (24 * a1))) (Nat.le_succ _) ti_180_46 rfl ?_
          refine a_w0 (Nat.le_succ _) ti_180_47 rfl ?_
          refine a_w6 (a := (0, a_w ((a_w (24 * a1)) + a3))) (Nat.le_succ _) ti_180_48 rfl ?_
          refine a_w0 (Nat.le_succ _) ti_180_49 rfl ?_
          refine a_w0 (Nat.le_succ _) ti_180_51 rfl ?_
          refine a_w3p (args := [(1, a4), (0, a2)]) (Nat.le_succ _) ti_180_52 (mt_176 a4 a2 H) rfl rfl rfl rfl ?_
          refine a_w12 (Nat.le_succ _) ti_180_55 (Or.inr ⟨rfl, rfl⟩) (fun H1 => ?_)
          refine a_w2 (z := 1) (Nat.le_succ _) ti_180_56 (by decide) ?_
          exact a_w4 (Nat.le_succ _) ti_180_57 rfl rfl rfl
        · refine a_w0 (Nat.le_succ _) ti_180_36 rfl ?_
          exact a_w4 (Nat.le_succ _) ti_180_38 rfl rfl rfl
      · exact a_wk (hj19 ()) (by omega) trivial
/-- CarriedGateModel.copy(IIIII)I -/
noncomputable def fn_181 (a1 : Int) (a2 : Int) (a3 : Int) (a4 : Int) (a5 : Int) (H : a_P) : a_F :=
  a_jn (fun (s1 : Unit) => ((-1), H)) fun j14 =>
  (if (fn_175 a1) = 0 then j14 ()
  else (if (fn_175 a3) = 0 then j14 ()
  else a_jn (fun (s2 : Unit) => ((-11), H)) fun j34 =>
  (if (H 142 a1) < 0 then j34 ()
  else (if (H 142 a3) < 0 then j34 ()
  else (if (H 142 a1) = (H 142 a3) then a_jn (fun (s3 : Unit) => ((-13), H)) fun j104 =>
  (if a5 < 0 then j104 ()
  else (if a2 < 0 then j104 ()
  else (if a4 < 0 then j104 ()
  else (if 0 < (s_lc (a_wl (a2 + a5)) (H 143 a1)) then j104 ()
  else (if 0 < (s_lc (a_wl (a4 + a5)) (H 143 a3)) then j104 ()
  else a_jn (fun (s4 : a_P) => a_lp (fun (s5 : Int × a_P) => (0, s5.2)) (fun (s5 : Int × a_P) n147 => (if s5.1 < a5 then a_bd (a_up s5.2 144 (a_w ((a_w ((a_w (24 * a3)) + a4)) + s5.1)) (s5.2 145 s5.1)) fun H1 =>
  a_bd (a_w (s5.1 + 1)) fun x1 =>
  n147 (x1, H1)
  else (a5, s5.2))) a_fuel (0, s4)) fun j144 =>
  a_lp (fun (s6 : Int × a_P) => (0, s6.2)) (fun (s6 : Int × a_P) n110 => (if s6.1 < a5 then a_bd (a_up s6.2 145 s6.1 (s6.2 144 (a_w ((a_w ((a_w (24 * a1)) + a2)) + s6.1)))) fun H2 =>
  a_bd (a_w (s6.1 + 1)) fun x2 =>
  n110 (x2, H2)
  else j144 s6.2)) a_fuel (0, H))))))
  else ((-12), H))))))
theorem ti_181_0 : (q_I 181).2 0 = some (0, 0, 0, 1, 0, 1, []) := rfl
theorem ti_181_1 : (q_I 181).2 1 = some (3, 1, 237, 175, 1, 4, [1139, 6]) := rfl
theorem ti_181_4 : (q_I 181).2 4 = some (8, 0, 0, 14, 0, 7, []) := rfl
theorem ti_181_7 : (q_I 181).2 7 = some (0, 0, 0, 3, 0, 8, []) := rfl
theorem ti_181_8 : (q_I 181).2 8 = some (3, 1, 237, 175, 1, 11, [1139, 6]) := rfl
theorem ti_181_11 : (q_I 181).2 11 = some (8, 1, 0, 16, 0, 14, []) := rfl
theorem ti_181_16 : (q_I 181).2 16 = some (0, 4, 0, 0, 2, 17, []) := rfl
theorem ti_181_17 : (q_I 181).2 17 = some (1, 0, 38, 6, 18, 20, [813]) := rfl
theorem ti_181_20 : (q_I 181).2 20 = some (0, 0, 0, 1, 0, 21, []) := rfl
theorem ti_181_21 : (q_I 181).2 21 = some (5, 10, 0, 0, 0, 22, []) := rfl
theorem ti_181_22 : (q_I 181).2 22 = some (8, 2, 0, 34, 0, 25, []) := rfl
theorem ti_181_25 : (q_I 181).2 25 = some (0, 4, 0, 0, 2, 26, []) := rfl
theorem ti_181_26 : (q_I 181).2 26 = some (1, 0, 38, 6, 18, 29, [813]) := rfl
theorem ti_181_29 : (q_I 181).2 29 = some (0, 0, 0, 3, 0, 30, []) := rfl
theorem ti_181_30 : (q_I 181).2 30 = some (5, 10, 0, 0, 0, 31, []) := rfl
theorem ti_181_31 : (q_I 181).2 31 = some (8, 3, 0, 37, 0, 34, []) := rfl
theorem ti_181_37 : (q_I 181).2 37 = some (0, 4, 0, 0, 2, 38, []) := rfl
theorem ti_181_38 : (q_I 181).2 38 = some (1, 0, 38, 6, 18, 41, [813]) := rfl
theorem ti_181_41 : (q_I 181).2 41 = some (0, 0, 0, 1, 0, 42, []) := rfl
theorem ti_181_42 : (q_I 181).2 42 = some (5, 10, 0, 0, 0, 43, []) := rfl
theorem ti_181_43 : (q_I 181).2 43 = some (0, 4, 0, 0, 2, 44, []) := rfl
theorem ti_181_44 : (q_I 181).2 44 = some (1, 0, 38, 6, 18, 47, [813]) := rfl
theorem ti_181_47 : (q_I 181).2 47 = some (0, 0, 0, 3, 0, 48, []) := rfl
theorem ti_181_48 : (q_I 181).2 48 = some (5, 10, 0, 0, 0, 49, []) := rfl
theorem ti_181_49 : (q_I 181).2 49 = some (9, 0, 0, 55, 0, 52, []) := rfl
theorem ti_181_52 : (q_I 181).2 52 = some (2, 1, (-12), 0, 0, 54, []) := rfl
theorem ti_181_54 : (q_I 181).2 54 = some (4, 0, 0, 0, 0, 55, []) := rfl
theorem ti_181_55 : (q_I 181).2 55 = some (0, 1, 0, 5, 0, 57, []) := rfl
theorem ti_181_57 : (q_I 181).2 57 = some (8, 2, 0, 104, 0, 60, []) := rfl
theorem ti_181_60 : (q_I 181).2 60 = some (0, 0, 0, 2, 0, 61, []) := rfl
theorem ti_181_61 : (q_I 181).2 61 = some (8, 2, 0, 104, 0, 64, []) := rfl
theorem ti_181_64 : (q_I 181).2 64 = some (0, 1, 0, 4, 0, 66, []) := rfl
theorem ti_181_66 : (q_I 181).2 66 = some (8, 2, 0, 104, 0, 69, []) := rfl
theorem ti_181_69 : (q_I 181).2 69 = some (0, 0, 0, 2, 0, 70, []) := rfl
theorem ti_181_70 : (q_I 181).2 70 = some (14, 4, 0, 0, 0, 71, []) := rfl
theorem ti_181_71 : (q_I 181).2 71 = some (0, 1, 0, 5, 0, 73, []) := rfl
theorem ti_181_73 : (q_I 181).2 73 = some (14, 4, 0, 0, 0, 74, []) := rfl
theorem ti_181_74 : (q_I 181).2 74 = some (6, 11, 0, 0, 0, 75, []) := rfl
theorem ti_181_75 : (q_I 181).2 75 = some (0, 4, 0, 0, 2, 76, []) := rfl
theorem ti_181_76 : (q_I 181).2 76 = some (1, 0, 41, 6, 19, 79, [814]) := rfl
theorem ti_181_79 : (q_I 181).2 79 = some (0, 0, 0, 1, 0, 80, []) := rfl
theorem ti_181_80 : (q_I 181).2 80 = some (5, 10, 0, 0, 0, 81, []) := rfl
theorem ti_181_81 : (q_I 181).2 81 = some (14, 4, 0, 0, 0, 82, []) := rfl
theorem ti_181_82 : (q_I 181).2 82 = some (6, 19, 0, 0, 0, 83, []) := rfl
theorem ti_181_83 : (q_I 181).2 83 = some (8, 4, 0, 104, 0, 86, []) := rfl
theorem ti_181_86 : (q_I 181).2 86 = some (0, 1, 0, 4, 0, 88, []) := rfl
theorem ti_181_88 : (q_I 181).2 88 = some (14, 4, 0, 0, 0, 89, []) := rfl
theorem ti_181_89 : (q_I 181).2 89 = some (0, 1, 0, 5, 0, 91, []) := rfl
theorem ti_181_91 : (q_I 181).2 91 = some (14, 4, 0, 0, 0, 92, []) := rfl
theorem ti_181_92 : (q_I 181).2 92 = some (6, 11, 0, 0, 0, 93, []) := rfl
theorem ti_181_93 : (q_I 181).2 93 = some (0, 4, 0, 0, 2, 94, []) := rfl
theorem ti_181_94 : (q_I 181).2 94 = some (1, 0, 41, 6, 19, 97, [814]) := rfl
theorem ti_181_97 : (q_I 181).2 97 = some (0, 0, 0, 3, 0, 98, []) := rfl
theorem ti_181_98 : (q_I 181).2 98 = some (5, 10, 0, 0, 0, 99, []) := rfl
theorem ti_181_99 : (q_I 181).2 99 = some (14, 4, 0, 0, 0, 100, []) := rfl
theorem ti_181_100 : (q_I 181).2 100 = some (6, 19, 0, 0, 0, 101, []) := rfl
theorem ti_181_101 : (q_I 181).2 101 = some (8, 5, 0, 107, 0, 104, []) := rfl
theorem ti_181_107 : (q_I 181).2 107 = some (2, 0, 0, 0, 0, 108, []) := rfl
theorem ti_181_108 : (q_I 181).2 108 = some (11, 1, 0, 6, 0, 110, []) := rfl
theorem ti_181_110 : (q_I 181).2 110 = some (0, 1, 0, 6, 0, 112, []) := rfl
theorem ti_181_112 : (q_I 181).2 112 = some (0, 1, 0, 5, 0, 114, []) := rfl
theorem ti_181_114 : (q_I 181).2 114 = some (9, 3, 0, 144, 0, 117, []) := rfl
theorem ti_181_117 : (q_I 181).2 117 = some (0, 4, 0, 0, 2, 118, []) := rfl
theorem ti_181_118 : (q_I 181).2 118 = some (1, 0, 48, 6, 21, 121, [816]) := rfl
theorem ti_181_121 : (q_I 181).2 121 = some (0, 1, 0, 6, 0, 123, []) := rfl
theorem ti_181_123 : (q_I 181).2 123 = some (0, 4, 0, 0, 2, 124, []) := rfl
theorem ti_181_124 : (q_I 181).2 124 = some (1, 0, 44, 6, 20, 127, [815]) := rfl
theorem ti_181_127 : (q_I 181).2 127 = some (2, 1, 24, 0, 0, 129, []) := rfl
theorem ti_181_129 : (q_I 181).2 129 = some (0, 0, 0, 1, 0, 130, []) := rfl
theorem ti_181_130 : (q_I 181).2 130 = some (6, 2, 0, 0, 0, 131, []) := rfl
theorem ti_181_131 : (q_I 181).2 131 = some (0, 0, 0, 2, 0, 132, []) := rfl
theorem ti_181_132 : (q_I 181).2 132 = some (6, 0, 0, 0, 0, 133, []) := rfl
theorem ti_181_133 : (q_I 181).2 133 = some (0, 1, 0, 6, 0, 135, []) := rfl
theorem ti_181_135 : (q_I 181).2 135 = some (6, 0, 0, 0, 0, 136, []) := rfl
theorem ti_181_136 : (q_I 181).2 136 = some (5, 11, 0, 0, 0, 137, []) := rfl
theorem ti_181_137 : (q_I 181).2 137 = some (12, 11, 0, 0, 0, 138, []) := rfl
theorem ti_181_138 : (q_I 181).2 138 = some (13, 0, 1, 6, 0, 141, []) := rfl
theorem ti_181_141 : (q_I 181).2 141 = some (7, 0, 0, 110, 0, 144, []) := rfl
theorem ti_181_144 : (q_I 181).2 144 = some (2, 0, 0, 0, 0, 145, []) := rfl
theorem ti_181_145 : (q_I 181).2 145 = some (11, 1, 0, 6, 0, 147, []) := rfl
theorem ti_181_147 : (q_I 181).2 147 = some (0, 1, 0, 6, 0, 149, []) := rfl
theorem ti_181_149 : (q_I 181).2 149 = some (0, 1, 0, 5, 0, 151, []) := rfl
theorem ti_181_151 : (q_I 181).2 151 = some (9, 3, 0, 182, 0, 154, []) := rfl
theorem ti_181_154 : (q_I 181).2 154 = some (0, 4, 0, 0, 2, 155, []) := rfl
theorem ti_181_155 : (q_I 181).2 155 = some (1, 0, 44, 6, 20, 158, [815]) := rfl
theorem ti_181_158 : (q_I 181).2 158 = some (2, 1, 24, 0, 0, 160, []) := rfl
theorem ti_181_160 : (q_I 181).2 160 = some (0, 0, 0, 3, 0, 161, []) := rfl
theorem ti_181_161 : (q_I 181).2 161 = some (6, 2, 0, 0, 0, 162, []) := rfl
theorem ti_181_162 : (q_I 181).2 162 = some (0, 1, 0, 4, 0, 164, []) := rfl
theorem ti_181_164 : (q_I 181).2 164 = some (6, 0, 0, 0, 0, 165, []) := rfl
theorem ti_181_165 : (q_I 181).2 165 = some (0, 1, 0, 6, 0, 167, []) := rfl
theorem ti_181_167 : (q_I 181).2 167 = some (6, 0, 0, 0, 0, 168, []) := rfl
theorem ti_181_168 : (q_I 181).2 168 = some (0, 4, 0, 0, 2, 169, []) := rfl
theorem ti_181_169 : (q_I 181).2 169 = some (1, 0, 48, 6, 21, 172, [816]) := rfl
theorem ti_181_172 : (q_I 181).2 172 = some (0, 1, 0, 6, 0, 174, []) := rfl
theorem ti_181_174 : (q_I 181).2 174 = some (5, 11, 0, 0, 0, 175, []) := rfl
theorem ti_181_175 : (q_I 181).2 175 = some (12, 11, 0, 0, 0, 176, []) := rfl
theorem ti_181_176 : (q_I 181).2 176 = some (13, 0, 1, 6, 0, 179, []) := rfl
theorem ti_181_179 : (q_I 181).2 179 = some (7, 0, 0, 147, 0, 182, []) := rfl
theorem ti_181_182 : (q_I 181).2 182 = some (0, 1, 0, 5, 0, 184, []) := rfl
theorem ti_181_184 : (q_I 181).2 184 = some (4, 0, 0, 0, 0, 185, []) := rfl
theorem ti_181_104 : (q_I 181).2 104 = some (2, 1, (-13), 0, 0, 106, []) := rfl
theorem ti_181_106 : (q_I 181).2 106 = some (4, 0, 0, 0, 0, 107, []) := rfl
theorem ti_181_34 : (q_I 181).2 34 = some (2, 1, (-11), 0, 0, 36, []) := rfl
theorem ti_181_36 : (q_I 181).2 36 = some (4, 0, 0, 0, 0, 37, []) := rfl
theorem ti_181_14 : (q_I 181).2 14 = some (2, 0, (-1), 0, 0, 15, []) := rfl
theorem ti_181_15 : (q_I 181).2 15 = some (4, 0, 0, 0, 0, 16, []) := rfl
theorem mt_181 (a1 : Int) (a2 : Int) (a3 : Int) (a4 : Int) (a5 : Int) (H : a_P) : a_mt id 0 181 [(2, 133), (0, a1), (0, a2), (0, a3), (0, a4), (0, a5)] H (fn_181 a1 a2 a3 a4 a5 H) := by
  refine a_mtI (lo := [some (2, 133), some (0, a1), some (0, a2), some (0, a3), some (0, a4), some (0, a5), none]) rfl fun d => ?_
  unfold fn_181
  refine a_w0 (Nat.le_succ _) ti_181_0 rfl ?_
  refine a_w3p (args := [(0, a1)]) (Nat.le_succ _) ti_181_1 (mt_175 a1 H) rfl rfl rfl rfl ?_
  refine a_wjn 14 (fun (s : Unit) => [none, none, none, none, none, none, none]) (fun (s : Unit) => []) (fun (s : Unit) => H) (fun s1 => ?_) (fun j14 hj14 => ?_)
  · refine a_w2 (z := (-1)) (Nat.le_succ _) ti_181_14 (by decide) ?_
    exact a_w4 (Nat.le_succ _) ti_181_15 rfl rfl rfl
  · refine a_w8_0 (Nat.le_succ _) ti_181_4 ?_ ?_
    · exact a_wk (hj14 ()) (by omega) trivial
    · refine a_w0 (Nat.le_succ _) ti_181_7 rfl ?_
      refine a_w3p (args := [(0, a3)]) (Nat.le_succ _) ti_181_8 (mt_175 a3 H) rfl rfl rfl rfl ?_
      refine a_w8_1 (Nat.le_succ _) ti_181_11 ?_ ?_
      · refine a_w0 (Nat.le_succ _) ti_181_16 rfl ?_
        refine a_w1 (a := (2, 142)) (Nat.le_succ _) ti_181_17 rfl ?_
        refine a_w0 (Nat.le_succ _) ti_181_20 rfl ?_
        refine a_w5 (kk := 0) (Nat.le_succ _) ti_181_21 (fun _ => rfl) ?_
        refine a_wjn 34 (fun (s : Unit) => [none, none, none, none, none, none, none]) (fun (s : Unit) => []) (fun (s : Unit) => H) (fun s2 => ?_) (fun j34 hj34 => ?_)
        · refine a_w2 (z := (-11)) (Nat.le_succ _) ti_181_34 (by decide) ?_
          exact a_w4 (Nat.le_succ _) ti_181_36 rfl rfl rfl
        · refine a_w8_2 (Nat.le_succ _) ti_181_22 ?_ ?_
          · exact a_wk (hj34 ()) (by omega) trivial
          · refine a_w0 (Nat.le_succ _) ti_181_25 rfl ?_
            refine a_w1 (a := (2, 142)) (Nat.le_succ _) ti_181_26 rfl ?_
            refine a_w0 (Nat.le_succ _) ti_181_29 rfl ?_
            refine a_w5 (kk := 0) (Nat.le_succ _) ti_181_30 (fun _ => rfl) ?_
            refine a_w8_3 (Nat.le_succ _) ti_181_31 ?_ ?_
            · refine a_w0 (Nat.le_succ _) ti_181_37 rfl ?_
              refine a_w1 (a := (2, 142)) (Nat.le_succ _) ti_181_38 rfl ?_
              refine a_w0 (Nat.le_succ _) ti_181_41 rfl ?_
              refine a_w5 (kk := 0) (Nat.le_succ _) ti_181_42 (fun _ => rfl) ?_
              refine a_w0 (Nat.le_succ _) ti_181_43 rfl ?_
              refine a_w1 (a := (2, 142)) (Nat.le_succ _) ti_181_44 rfl ?_
              refine a_w0 (Nat.le_succ _) ti_181_47 rfl ?_
              refine a_w5 (kk := 0) (Nat.le_succ _) ti_181_48 (fun _ => rfl) ?_
              refine a_w9_0 (Nat.le_succ _) ti_181_49 ?_ ?_
              · refine a_w0 (Nat.le_succ _) ti_181_55 rfl ?_
                refine a_wjn 104 (fun (s : Unit) => [none, none, none, none, none, none, none]) (fun (s : Unit) => []) (fun (s : Unit) => H) (fun s3 => ?_) (fun j104 hj104 => ?_)
                · refine a_w2 (z := (-13)) (Nat.le_succ _) ti_181_104 (by decide) ?_
                  exact a_w4 (Nat.le_succ _) ti_181_106 rfl rfl rfl
                · refine a_w8_2 (Nat.le_succ _) ti_181_57 ?_ ?_
                  · exact a_wk (hj104 ()) (by omega) trivial
                  · refine a_w0 (Nat.le_succ _) ti_181_60 rfl ?_
                    refine a_w8_2 (Nat.le_succ _) ti_181_61 ?_ ?_
                    · exact a_wk (hj104 ()) (by omega) trivial
                    · refine a_w0 (Nat.le_succ _) ti_181_64 rfl ?_
                      refine a_w8_2 (Nat.le_succ _) ti_181_66 ?_ ?_
                      · exact a_wk (hj104 ()) (by omega) trivial
                      · refine a_w0 (Nat.le_succ _) ti_181_69 rfl ?_
                        refine a_w14 (a := (1, a2)) (Nat.le_succ _) ti_181_70 rfl ?_
                        refine a_w0 (Nat.le_succ _) ti_181_71 rfl ?_
                        refine a_w14 (a := (1, a5)) (Nat.le_succ _) ti_181_73 rfl ?_
                        refine a_w6 (a := (1, a_wl (a2 + a5))) (Nat.le_succ _) ti_181_74 rfl ?_
                        refine a_w0 (Nat.le_succ _) ti_181_75 rfl ?_
                        refine a_w1 (a := (2, 143)) (Nat.le_succ _) ti_181_76 rfl ?_
                        refine a_w0 (Nat.le_succ _) ti_181_79 rfl ?_
                        refine a_w5 (kk := 0) (Nat.le_succ _) ti_181_80 (fun _ => rfl) ?_
                        refine a_w14 (a := (1, (H 143 a1))) (Nat.le_succ _) ti_181_81 rfl ?_
                        refine a_w6 (a := (0, s_lc (a_wl (a2 + a5)) (H 143 a1))) (Nat.le_succ _) ti_181_82 rfl ?_
                        refine a_w8_4 (Nat.le_succ _) ti_181_83 ?_ ?_
                        · exact a_wk (hj104 ()) (by omega) trivial
                        · refine a_w0 (Nat.le_succ _) ti_181_86 rfl ?_
                          refine a_w14 (a := (1, a4)) (Nat.le_succ _) ti_181_88 rfl ?_
                          refine a_w0 (Nat.le_succ _) ti_181_89 rfl ?_
                          refine a_w14 (a := (1, a5)) (Nat.le_succ _) ti_181_91 rfl ?_
                          refine a_w6 (a := (1, a_wl (a4 + a5))) (Nat.le_succ _) ti_181_92 rfl ?_
                          refine a_w0 (Nat.le_succ _) ti_181_93 rfl ?_
                          refine a_w1 (a := (2, 143)) (Nat.le_succ _) ti_181_94 rfl ?_
                          refine a_w0 (Nat.le_succ _) ti_181_97 rfl ?_
                          refine a_w5 (kk := 0) (Nat.le_succ _) ti_181_98 (fun _ => rfl) ?_
                          refine a_w14 (a := (1, (H 143 a3))) (Nat.le_succ _) ti_181_99 rfl ?_
                          refine a_w6 (a := (0, s_lc (a_wl (a4 + a5)) (H 143 a3))) (Nat.le_succ _) ti_181_100 rfl ?_
                          refine a_w8_5 (Nat.le_succ _) ti_181_101 ?_ ?_
                          · refine a_w2 (z := 0) (Nat.le_succ _) ti_181_107 (by decide) ?_
                            refine a_w11 (lo' := [some (2, 133), some (0, a1), some (0, a2), some (0, a3), some (0, a4), some (0, a5), some (0, 0)]) (Nat.le_succ _) ti_181_108 rfl ?_
                            refine a_wjn 144 (fun (s : a_P) => [some (2, 133), none, none, some (0, a3), some (0, a4), some (0, a5), none]) (fun (s : a_P) => []) (fun (s : a_P) => s) (fun s4 => ?_) (fun j144 hj144 => ?_)
                            · refine a_w2 (z := 0) (Nat.le_succ _) ti_181_144 (by decide) ?_
                              refine a_w11 (lo' := [some (2, 133), none, none, some (0, a3), some (0, a4), some (0, a5), some (0, 0)]) (Nat.le_succ _) ti_181_145 rfl ?_
                              refine a_wk (a_wlp (fun (s : Int × a_P) => [some (2, 133), none, none, some (0, a3), some (0, a4), some (0, a5), some (0, s.1)]) (fun (s : Int × a_P) => s.2) (fun N1 hN1 n147 hn147 s5 => ?_) a_fuel (a_fuel_le (by omega)) (0, s4)) (Nat.le_refl _) ⟨rfl, rfl, rfl, rfl, rfl, trivial⟩
                              · refine a_w0 (Nat.le_refl _) ti_181_147 rfl ?_
                                refine a_w0 (Nat.le_succ _) ti_181_149 rfl ?_
                                refine a_w9_3 (Nat.le_succ _) ti_181_151 ?_ ?_
                                · refine a_w0 (Nat.le_succ _) ti_181_182 rfl ?_
                                  exact a_w4 (Nat.le_succ _) ti_181_184 rfl rfl rfl
                                · refine a_w0 (Nat.le_succ _) ti_181_154 rfl ?_
                                  refine a_w1 (a := (2, 144)) (Nat.le_succ _) ti_181_155 rfl ?_
                                  refine a_w2 (z := 24) (Nat.le_succ _) ti_181_158 (by decide) ?_
                                  refine a_w0 (Nat.le_succ _) ti_181_160 rfl ?_
                                  refine a_w6 (a := (0, a_w (24 * a3))) (Nat.le_succ _) ti_181_161 rfl ?_
                                  refine a_w0 (Nat.le_succ _) ti_181_162 rfl ?_
                                  refine a_w6 (a := (0, a_w ((a_w (24 * a3)) + a4))) (Nat.le_succ _) ti_181_164 rfl ?_
                                  refine a_w0 (Nat.le_succ _) ti_181_165 rfl ?_
                                  refine a_w6 (a := (0, a_w ((a_w ((a_w (24 * a3)) + a4)) + s5.1))) (Nat.le_succ _) ti_181_167 rfl ?_
                                  refine a_w0 (Nat.le_succ _) ti_181_168 rfl ?_
                                  refine a_w1 (a := (2, 145)) (Nat.le_succ _) ti_181_169 rfl ?_
                                  refine a_w0 (Nat.le_succ _) ti_181_172 rfl ?_
                                  refine a_w5 (kk := 1) (Nat.le_succ _) ti_181_174 (fun _ => rfl) ?_
                                  refine a_w12 (Nat.le_succ _) ti_181_175 (Or.inr ⟨rfl, rfl⟩) (fun H1 => ?_)
                                  refine a_w13 (c' := 1) (lof := fun x1 => [some (2, 133), none, none, some (0, a3), some (0, a4), some (0, a5), some (0, x1)]) (Nat.le_succ _) ti_181_176 rfl (by decide) rfl (fun _ => rfl) (fun x1 => ?_)
                                  refine a_w7 (Nat.le_succ _) ti_181_179 ?_
                                  exact a_wk (hn147 (x1, H1)) (by omega) ⟨rfl, rfl, rfl, rfl, rfl, trivial⟩
                            · refine a_wk (a_wlp (fun (s : Int × a_P) => [some (2, 133), some (0, a1), some (0, a2), some (0, a3), some (0, a4), some (0, a5), some (0, s.1)]) (fun (s : Int × a_P) => s.2) (fun N2 hN2 n110 hn110 s6 => ?_) a_fuel (a_fuel_le (by omega)) (0, H)) (Nat.le_refl _) ⟨rfl, rfl, rfl, rfl, rfl, rfl, rfl, trivial⟩
                              · refine a_w0 (Nat.le_refl _) ti_181_110 rfl ?_
                                refine a_w0 (Nat.le_succ _) ti_181_112 rfl ?_
                                refine a_w9_3 (Nat.le_succ _) ti_181_114 ?_ ?_
                                · exact a_wk (hj144 s6.2) (by omega) ⟨rfl, rfl, rfl, rfl, trivial⟩
                                · refine a_w0 (Nat.le_succ _) ti_181_117 rfl ?_
                                  refine a_w1 (a := (2, 145)) (Nat.le_succ _) ti_181_118 rfl ?_
                                  refine a_w0 (Nat.le_succ _) ti_181_121 rfl ?_
                                  refine a_w0 (Nat.le_succ _) ti_181_123 rfl ?_
                                  refine a_w1 (a := (2, 144)) (Nat.le_succ _) ti_181_124 rfl ?_
                                  refine a_w2 (z := 24) (Nat.le_succ _) ti_181_127 (by decide) ?_
                                  refine a_w0 (Nat.le_succ _) ti_181_129 rfl ?_
                                  refine a_w6 (a := (0, a_w (24 * a1))) (Nat.le_succ _) ti_181_130 rfl ?_
                                  refine a_w0 (Nat.le_succ _) ti_181_131 rfl ?_
                                  refine a_w6 (a := (0, a_w ((a_w (24 * a1)) + a2))) (Nat.le_succ _) ti_181_132 rfl ?_
                                  refine a_w0 (Nat.le_succ _) ti_181_133 rfl ?_
                                  refine a_w6 (a := (0, a_w ((a_w ((a_w (24 * a1)) + a2)) + s6.1))) (Nat.le_succ _) ti_181_135 rfl ?_
                                  refine a_w5 (kk := 1) (Nat.le_succ _) ti_181_136 (fun _ => rfl) ?_
                                  refine a_w12 (Nat.le_succ _) ti_181_137 (Or.inr ⟨rfl, rfl⟩) (fun H2 => ?_)
                                  refine a_w13 (c' := 1) (lof := fun x2 => [some (2, 133), some (0, a1), some (0, a2), some (0, a3), some (0, a4), some (0, a5), some (0, x2)]) (Nat.le_succ _) ti_181_138 rfl (by decide) rfl (fun _ => rfl) (fun x2 => ?_)
                                  refine a_w7 (Nat.le_succ _) ti_181_141 ?_
                                  exact a_wk (hn110 (x2, H2)) (by omega) ⟨rfl, rfl, rfl, rfl, rfl, rfl, rfl, trivial⟩
                          · exact a_wk (hj104 ()) (by omega) trivial
              · refine a_w2 (z := (-12)) (Nat.le_succ _) ti_181_52 (by decide) ?_
                exact a_w4 (Nat.le_succ _) ti_181_54 rfl rfl rfl
            · exact a_wk (hj34 ()) (by omega) trivial
      · exact a_wk (hj14 ()) (by omega) trivial
/-- CarriedGateModel.isSeen(II)Z -/
noncomputable def fn_182 (a1 : Int) (a2 : Int) (H : a_P) : a_F :=
  a_jn (fun (s1 : Int × a_P) => a_bd (fn_154 s1.2) fun H1 =>
  (s1.1, H1)) fun j49 =>
  a_lp (fun (s2 : Int × Int × a_P) => (0, s2.2.2)) (fun (s2 : Int × Int × a_P) n5 => (if s2.2.1 < a2 then (if s2.1 = 0 then j49 (s2.1, s2.2.2)
  else a_bd (fn_124 s2.2.2) fun H2 =>
  a_jn (fun (s3 : Int) => a_bd (a_w (s2.2.1 + 1)) fun x1 =>
  n5 (s3, x1, H2)) fun j42 =>
  (if (s_lc (fn_120 H2) (H2 144 (a_w (a1 + s2.2.1)))) = 0 then j42 1
  else j42 0))
  else j49 (s2.1, s2.2.2))) a_fuel (1, 0, H)
theorem ti_182_0 : (q_I 182).2 0 = some (2, 0, 1, 0, 0, 1, []) := rfl
theorem ti_182_1 : (q_I 182).2 1 = some (11, 0, 0, 3, 0, 2, []) := rfl
theorem ti_182_2 : (q_I 182).2 2 = some (2, 0, 0, 0, 0, 3, []) := rfl
theorem ti_182_3 : (q_I 182).2 3 = some (11, 1, 0, 4, 0, 5, []) := rfl
theorem ti_182_5 : (q_I 182).2 5 = some (0, 1, 0, 4, 0, 7, []) := rfl
theorem ti_182_7 : (q_I 182).2 7 = some (0, 0, 0, 2, 0, 8, []) := rfl
theorem ti_182_8 : (q_I 182).2 8 = some (9, 3, 0, 49, 0, 11, []) := rfl
theorem ti_182_11 : (q_I 182).2 11 = some (0, 0, 0, 3, 0, 12, []) := rfl
theorem ti_182_12 : (q_I 182).2 12 = some (8, 0, 0, 49, 0, 15, []) := rfl
theorem ti_182_15 : (q_I 182).2 15 = some (0, 4, 0, 0, 2, 16, []) := rfl
theorem ti_182_16 : (q_I 182).2 16 = some (3, 0, 173, 124, 1, 19, [983, 6]) := rfl
theorem ti_182_19 : (q_I 182).2 19 = some (0, 4, 0, 0, 2, 20, []) := rfl
theorem ti_182_20 : (q_I 182).2 20 = some (3, 0, 91, 120, 1, 23, [887, 6]) := rfl
theorem ti_182_23 : (q_I 182).2 23 = some (14, 4, 0, 0, 0, 24, []) := rfl
theorem ti_182_24 : (q_I 182).2 24 = some (0, 4, 0, 0, 2, 25, []) := rfl
theorem ti_182_25 : (q_I 182).2 25 = some (1, 0, 44, 6, 20, 28, [815]) := rfl
theorem ti_182_28 : (q_I 182).2 28 = some (0, 0, 0, 1, 0, 29, []) := rfl
theorem ti_182_29 : (q_I 182).2 29 = some (0, 1, 0, 4, 0, 31, []) := rfl
theorem ti_182_31 : (q_I 182).2 31 = some (6, 0, 0, 0, 0, 32, []) := rfl
theorem ti_182_32 : (q_I 182).2 32 = some (5, 11, 0, 0, 0, 33, []) := rfl
theorem ti_182_33 : (q_I 182).2 33 = some (6, 19, 0, 0, 0, 34, []) := rfl
theorem ti_182_34 : (q_I 182).2 34 = some (8, 1, 0, 41, 0, 37, []) := rfl
theorem ti_182_37 : (q_I 182).2 37 = some (2, 0, 1, 0, 0, 38, []) := rfl
theorem ti_182_38 : (q_I 182).2 38 = some (7, 0, 0, 42, 0, 41, []) := rfl
theorem ti_182_41 : (q_I 182).2 41 = some (2, 0, 0, 0, 0, 42, []) := rfl
theorem ti_182_42 : (q_I 182).2 42 = some (11, 0, 0, 3, 0, 43, []) := rfl
theorem ti_182_43 : (q_I 182).2 43 = some (13, 0, 1, 4, 0, 46, []) := rfl
theorem ti_182_46 : (q_I 182).2 46 = some (7, 0, 0, 5, 0, 49, []) := rfl
theorem ti_182_49 : (q_I 182).2 49 = some (0, 4, 0, 0, 2, 50, []) := rfl
theorem ti_182_50 : (q_I 182).2 50 = some (3, 0, 193, 154, 1, 53, [1056, 6]) := rfl
theorem ti_182_53 : (q_I 182).2 53 = some (0, 0, 0, 3, 0, 54, []) := rfl
theorem ti_182_54 : (q_I 182).2 54 = some (4, 3, 0, 0, 0, 55, []) := rfl
theorem mt_182 (a1 : Int) (a2 : Int) (H : a_P) : a_mt id 0 182 [(2, 133), (0, a1), (0, a2)] H (fn_182 a1 a2 H) := by
  refine a_mtI (lo := [some (2, 133), some (0, a1), some (0, a2), none, none]) rfl fun d => ?_
  unfold fn_182
  refine a_w2 (z := 1) (Nat.le_succ _) ti_182_0 (by decide) ?_
  refine a_w11 (lo' := [some (2, 133), some (0, a1), some (0, a2), some (0, 1), none]) (Nat.le_succ _) ti_182_1 rfl ?_
  refine a_w2 (z := 0) (Nat.le_succ _) ti_182_2 (by decide) ?_
  refine a_w11 (lo' := [some (2, 133), some (0, a1), some (0, a2), some (0, 1), some (0, 0)]) (Nat.le_succ _) ti_182_3 rfl ?_
  refine a_wjn 49 (fun (s : Int × a_P) => [some (2, 133), none, none, some (0, s.1), none]) (fun (s : Int × a_P) => []) (fun (s : Int × a_P) => s.2) (fun s1 => ?_) (fun j49 hj49 => ?_)
  · refine a_w0 (Nat.le_succ _) ti_182_49 rfl ?_
    refine a_w3v (args := [(2, 133)]) (Nat.le_succ _) ti_182_50 (mt_154 s1.2) rfl rfl (fun H1 => ?_)
    refine a_w0 (Nat.le_succ _) ti_182_53 rfl ?_
    exact a_w4 (Nat.le_succ _) ti_182_54 rfl rfl rfl
  · refine a_wk (a_wlp (fun (s : Int × Int × a_P) => [some (2, 133), some (0, a1), some (0, a2), some (0, s.1), some (0, s.2.1)]) (fun (s : Int × Int × a_P) => s.2.2) (fun N1 hN1 n5 hn5 s2 => ?_) a_fuel (a_fuel_le (by omega)) (1, 0, H)) (Nat.le_refl _) ⟨rfl, rfl, rfl, rfl, rfl, trivial⟩
    · refine a_w0 (Nat.le_refl _) ti_182_5 rfl ?_
      refine a_w0 (Nat.le_succ _) ti_182_7 rfl ?_
      refine a_w9_3 (Nat.le_succ _) ti_182_8 ?_ ?_
      · exact a_wk (hj49 (s2.1, s2.2.2)) (by omega) ⟨rfl, rfl, trivial⟩
      · refine a_w0 (Nat.le_succ _) ti_182_11 rfl ?_
        refine a_w8_0 (Nat.le_succ _) ti_182_12 ?_ ?_
        · exact a_wk (hj49 (s2.1, s2.2.2)) (by omega) ⟨rfl, rfl, trivial⟩
        · refine a_w0 (Nat.le_succ _) ti_182_15 rfl ?_
          refine a_w3v (args := [(2, 133)]) (Nat.le_succ _) ti_182_16 (mt_124 s2.2.2) rfl rfl (fun H2 => ?_)
          refine a_w0 (Nat.le_succ _) ti_182_19 rfl ?_
          refine a_w3p (args := [(2, 133)]) (Nat.le_succ _) ti_182_20 (mt_120 H2) rfl rfl rfl rfl ?_
          refine a_w14 (a := (1, (fn_120 H2))) (Nat.le_succ _) ti_182_23 rfl ?_
          refine a_w0 (Nat.le_succ _) ti_182_24 rfl ?_
          refine a_w1 (a := (2, 144)) (Nat.le_succ _) ti_182_25 rfl ?_
          refine a_w0 (Nat.le_succ _) ti_182_28 rfl ?_
          refine a_w0 (Nat.le_succ _) ti_182_29 rfl ?_
          refine a_w6 (a := (0, a_w (a1 + s2.2.1))) (Nat.le_succ _) ti_182_31 rfl ?_
          refine a_w5 (kk := 1) (Nat.le_succ _) ti_182_32 (fun _ => rfl) ?_
          refine a_w6 (a := (0, s_lc (fn_120 H2) (H2 144 (a_w (a1 + s2.2.1))))) (Nat.le_succ _) ti_182_33 rfl ?_
          refine a_wjn 42 (fun (s : Int) => [some (2, 133), some (0, a1), some (0, a2), none, some (0, s2.2.1)]) (fun (s : Int) => [(0, s)]) (fun (s : Int) => H2) (fun s3 => ?_) (fun j42 hj42 => ?_)
          · refine a_w11 (lo' := [some (2, 133), some (0, a1), some (0, a2), some (0, s3), some (0, s2.2.1)]) (Nat.le_succ _) ti_182_42 rfl ?_
            refine a_w13 (c' := 1) (lof := fun x1 => [some (2, 133), some (0, a1), some (0, a2), some (0, s3), some (0, x1)]) (Nat.le_succ _) ti_182_43 rfl (by decide) rfl (fun _ => rfl) (fun x1 => ?_)
            refine a_w7 (Nat.le_succ _) ti_182_46 ?_
            exact a_wk (hn5 (s3, x1, H2)) (by omega) ⟨rfl, rfl, rfl, rfl, rfl, trivial⟩
          · refine a_w8_1 (Nat.le_succ _) ti_182_34 ?_ ?_
            · refine a_w2 (z := 0) (Nat.le_succ _) ti_182_41 (by decide) ?_
              exact a_wk (hj42 0) (by omega) ⟨rfl, rfl, rfl, rfl, trivial⟩
            · refine a_w2 (z := 1) (Nat.le_succ _) ti_182_37 (by decide) ?_
              refine a_w7 (Nat.le_succ _) ti_182_38 ?_
              exact a_wk (hj42 1) (by omega) ⟨rfl, rfl, rfl, rfl, trivial⟩

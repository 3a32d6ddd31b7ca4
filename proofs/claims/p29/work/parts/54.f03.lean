/-- CarriedGate$Plain.wetterOf(II)I -/
noncomputable def fn_25 (a0 : Int) (a1 : Int) : Int :=
  a_jn (fun (s1 : Int) => a_jn (fun (s2 : Int) => a_min (a_w (a1 + s2)) 99) fun j32 =>
  (if a0 = 4 then (if (a_rem a1 2) = 1 then a_bd (a_div s1 2) fun x1 =>
  j32 x1
  else j32 s1)
  else j32 s1)) fun j15 =>
  a_jn (fun (s3 : Unit) => j15 2) fun j10 =>
  (if a0 = 2 then j10 ()
  else (if a0 = 4 then j10 ()
  else j15 1))
theorem ti_25_0 : (q_I 25).2 0 = some (0, 0, 0, 0, 0, 1, []) := rfl
theorem ti_25_1 : (q_I 25).2 1 = some (2, 0, 2, 0, 0, 2, []) := rfl
theorem ti_25_2 : (q_I 25).2 2 = some (9, 0, 0, 10, 0, 5, []) := rfl
theorem ti_25_5 : (q_I 25).2 5 = some (0, 0, 0, 0, 0, 6, []) := rfl
theorem ti_25_6 : (q_I 25).2 6 = some (2, 0, 4, 0, 0, 7, []) := rfl
theorem ti_25_7 : (q_I 25).2 7 = some (9, 1, 0, 14, 0, 10, []) := rfl
theorem ti_25_14 : (q_I 25).2 14 = some (2, 0, 1, 0, 0, 15, []) := rfl
theorem ti_25_10 : (q_I 25).2 10 = some (2, 0, 2, 0, 0, 11, []) := rfl
theorem ti_25_11 : (q_I 25).2 11 = some (7, 0, 0, 15, 0, 14, []) := rfl
theorem ti_25_15 : (q_I 25).2 15 = some (11, 0, 0, 2, 0, 16, []) := rfl
theorem ti_25_16 : (q_I 25).2 16 = some (0, 0, 0, 0, 0, 17, []) := rfl
theorem ti_25_17 : (q_I 25).2 17 = some (2, 0, 4, 0, 0, 18, []) := rfl
theorem ti_25_18 : (q_I 25).2 18 = some (9, 1, 0, 32, 0, 21, []) := rfl
theorem ti_25_21 : (q_I 25).2 21 = some (0, 0, 0, 1, 0, 22, []) := rfl
theorem ti_25_22 : (q_I 25).2 22 = some (2, 0, 2, 0, 0, 23, []) := rfl
theorem ti_25_23 : (q_I 25).2 23 = some (6, 4, 0, 0, 0, 24, []) := rfl
theorem ti_25_24 : (q_I 25).2 24 = some (2, 0, 1, 0, 0, 25, []) := rfl
theorem ti_25_25 : (q_I 25).2 25 = some (9, 1, 0, 32, 0, 28, []) := rfl
theorem ti_25_28 : (q_I 25).2 28 = some (0, 0, 0, 2, 0, 29, []) := rfl
theorem ti_25_29 : (q_I 25).2 29 = some (2, 0, 2, 0, 0, 30, []) := rfl
theorem ti_25_30 : (q_I 25).2 30 = some (6, 3, 0, 0, 0, 31, []) := rfl
theorem ti_25_31 : (q_I 25).2 31 = some (11, 0, 0, 2, 0, 32, []) := rfl
theorem ti_25_32 : (q_I 25).2 32 = some (0, 0, 0, 1, 0, 33, []) := rfl
theorem ti_25_33 : (q_I 25).2 33 = some (0, 0, 0, 2, 0, 34, []) := rfl
theorem ti_25_34 : (q_I 25).2 34 = some (6, 0, 0, 0, 0, 35, []) := rfl
theorem ti_25_35 : (q_I 25).2 35 = some (2, 1, 99, 0, 0, 37, []) := rfl
theorem ti_25_37 : (q_I 25).2 37 = some (26, 21, 81, 0, 0, 40, [517]) := rfl
theorem ti_25_40 : (q_I 25).2 40 = some (4, 0, 0, 0, 0, 41, []) := rfl
theorem mt_25 (a0 : Int) (a1 : Int) (H : a_P) : a_mt (a_pp H) 0 25 [(0, a0), (0, a1)] H (fn_25 a0 a1) := by
  refine a_mtI (lo := [some (0, a0), some (0, a1), none]) rfl fun d => ?_
  unfold fn_25
  refine a_w0 (Nat.le_succ _) ti_25_0 rfl ?_
  refine a_w2 (z := 2) (Nat.le_succ _) ti_25_1 (by decide) ?_
  refine a_wjn 15 (fun (s : Int) => [some (0, a0), some (0, a1), none]) (fun (s : Int) => [(0, s)]) (fun (s : Int) => H) (fun s1 => ?_) (fun j15 hj15 => ?_)
  · refine a_w11 (lo' := [some (0, a0), some (0, a1), some (0, s1)]) (Nat.le_succ _) ti_25_15 rfl ?_
    refine a_w0 (Nat.le_succ _) ti_25_16 rfl ?_
    refine a_w2 (z := 4) (Nat.le_succ _) ti_25_17 (by decide) ?_
    refine a_wjn 32 (fun (s : Int) => [none, some (0, a1), some (0, s)]) (fun (s : Int) => []) (fun (s : Int) => H) (fun s2 => ?_) (fun j32 hj32 => ?_)
    · refine a_w0 (Nat.le_succ _) ti_25_32 rfl ?_
      refine a_w0 (Nat.le_succ _) ti_25_33 rfl ?_
      refine a_w6 (a := (0, a_w (a1 + s2))) (Nat.le_succ _) ti_25_34 rfl ?_
      refine a_w2 (z := 99) (Nat.le_succ _) ti_25_35 (by decide) ?_
      refine a_w26 (a := (0, a_min (a_w (a1 + s2)) 99)) (Nat.le_succ _) ti_25_37 rfl ?_
      exact a_w4 (Nat.le_succ _) ti_25_40 rfl rfl rfl
    · refine a_w9_1 (Nat.le_succ _) ti_25_18 ?_ ?_
      · exact a_wk (hj32 s1) (by omega) ⟨rfl, rfl, trivial⟩
      · refine a_w0 (Nat.le_succ _) ti_25_21 rfl ?_
        refine a_w2 (z := 2) (Nat.le_succ _) ti_25_22 (by decide) ?_
        refine a_w6 (a := (0, a_rem a1 2)) (Nat.le_succ _) ti_25_23 rfl ?_
        refine a_w2 (z := 1) (Nat.le_succ _) ti_25_24 (by decide) ?_
        refine a_w9_1 (Nat.le_succ _) ti_25_25 ?_ ?_
        · exact a_wk (hj32 s1) (by omega) ⟨rfl, rfl, trivial⟩
        · refine a_w0 (Nat.le_succ _) ti_25_28 rfl ?_
          refine a_w2 (z := 2) (Nat.le_succ _) ti_25_29 (by decide) ?_
          refine a_w6 (a := (0, a_div s1 2)) (Nat.le_succ _) ti_25_30 rfl ?_
          refine a_w11b (lof := fun x1 => [some (0, a0), some (0, a1), some (0, x1)]) (Nat.le_succ _) ti_25_31 (fun _ => rfl) (fun x1 => ?_)
          exact a_wk (hj32 x1) (by omega) ⟨rfl, rfl, trivial⟩
  · refine a_wjn 10 (fun (s : Unit) => [some (0, a0), some (0, a1), none]) (fun (s : Unit) => []) (fun (s : Unit) => H) (fun s3 => ?_) (fun j10 hj10 => ?_)
    · refine a_w2 (z := 2) (Nat.le_succ _) ti_25_10 (by decide) ?_
      refine a_w7 (Nat.le_succ _) ti_25_11 ?_
      exact a_wk (hj15 2) (by omega) ⟨rfl, rfl, trivial⟩
    · refine a_w9_0 (Nat.le_succ _) ti_25_2 ?_ ?_
      · exact a_wk (hj10 ()) (by omega) ⟨rfl, rfl, trivial⟩
      · refine a_w0 (Nat.le_succ _) ti_25_5 rfl ?_
        refine a_w2 (z := 4) (Nat.le_succ _) ti_25_6 (by decide) ?_
        refine a_w9_1 (Nat.le_succ _) ti_25_7 ?_ ?_
        · refine a_w2 (z := 1) (Nat.le_succ _) ti_25_14 (by decide) ?_
          exact a_wk (hj15 1) (by omega) ⟨rfl, rfl, trivial⟩
        · exact a_wk (hj10 ()) (by omega) ⟨rfl, rfl, trivial⟩
/-- CarriedGate$Plain.rainOnAll()V -/
noncomputable def fn_29 (p : Int) (H : a_P) : a_P :=
  a_lp (fun (s1 : Int × a_P) => s1.2) (fun (s1 : Int × a_P) n2 => (if s1.1 < (s1.2 p 6) then a_jn (fun (s2 : a_P) => a_bd (a_w (s1.1 + 1)) fun x1 =>
  n2 (x1, s2)) fun j46 =>
  a_jn (fun (s3 : Unit) => a_bd (a_up s1.2 (p + 5) s1.1 (fn_25 (s1.2 (p + 1) s1.1) (s1.2 (p + 5) s1.1))) fun H1 =>
  j46 H1) fun j25 =>
  (if (fn_14 p s1.2) = 0 then j25 ()
  else (if (fn_20 p s1.1 s1.2) = 0 then j25 ()
  else j46 s1.2))
  else s1.2)) a_fuel (0, H)
theorem ti_29_0 : (q_I 29).2 0 = some (2, 0, 0, 0, 0, 1, []) := rfl
theorem ti_29_1 : (q_I 29).2 1 = some (11, 0, 0, 1, 0, 2, []) := rfl
theorem ti_29_2 : (q_I 29).2 2 = some (0, 0, 0, 1, 0, 3, []) := rfl
theorem ti_29_3 : (q_I 29).2 3 = some (0, 4, 0, 0, 2, 4, []) := rfl
theorem ti_29_4 : (q_I 29).2 4 = some (1, 0, 30, 2, 6, 7, [100]) := rfl
theorem ti_29_7 : (q_I 29).2 7 = some (9, 3, 0, 52, 0, 10, []) := rfl
theorem ti_29_10 : (q_I 29).2 10 = some (0, 4, 0, 0, 2, 11, []) := rfl
theorem ti_29_11 : (q_I 29).2 11 = some (3, 0, 69, 14, 1, 14, [292, 2]) := rfl
theorem ti_29_14 : (q_I 29).2 14 = some (8, 0, 0, 25, 0, 17, []) := rfl
theorem ti_29_17 : (q_I 29).2 17 = some (0, 4, 0, 0, 2, 18, []) := rfl
theorem ti_29_18 : (q_I 29).2 18 = some (0, 0, 0, 1, 0, 19, []) := rfl
theorem ti_29_19 : (q_I 29).2 19 = some (3, 0, 73, 20, 2, 22, [296, 2]) := rfl
theorem ti_29_22 : (q_I 29).2 22 = some (8, 1, 0, 46, 0, 25, []) := rfl
theorem ti_29_25 : (q_I 29).2 25 = some (0, 4, 0, 0, 2, 26, []) := rfl
theorem ti_29_26 : (q_I 29).2 26 = some (1, 0, 46, 2, 11, 29, [111]) := rfl
theorem ti_29_29 : (q_I 29).2 29 = some (0, 0, 0, 1, 0, 30, []) := rfl
theorem ti_29_30 : (q_I 29).2 30 = some (0, 4, 0, 0, 2, 31, []) := rfl
theorem ti_29_31 : (q_I 29).2 31 = some (1, 0, 33, 2, 7, 34, [103]) := rfl
theorem ti_29_34 : (q_I 29).2 34 = some (0, 0, 0, 1, 0, 35, []) := rfl
theorem ti_29_35 : (q_I 29).2 35 = some (5, 10, 0, 0, 0, 36, []) := rfl
theorem ti_29_36 : (q_I 29).2 36 = some (0, 4, 0, 0, 2, 37, []) := rfl
theorem ti_29_37 : (q_I 29).2 37 = some (1, 0, 46, 2, 11, 40, [111]) := rfl
theorem ti_29_40 : (q_I 29).2 40 = some (0, 0, 0, 1, 0, 41, []) := rfl
theorem ti_29_41 : (q_I 29).2 41 = some (5, 10, 0, 0, 0, 42, []) := rfl
theorem ti_29_42 : (q_I 29).2 42 = some (3, 1, 99, 25, 2, 45, [514, 2]) := rfl
theorem ti_29_45 : (q_I 29).2 45 = some (12, 10, 0, 0, 0, 46, []) := rfl
theorem ti_29_46 : (q_I 29).2 46 = some (13, 0, 1, 1, 0, 49, []) := rfl
theorem ti_29_49 : (q_I 29).2 49 = some (7, 0, 0, 2, 0, 52, []) := rfl
theorem ti_29_52 : (q_I 29).2 52 = some (4, 4, 0, 0, 0, 53, []) := rfl
theorem mt_29 (p : Int) (H : a_P) : a_mt a_pv 9 29 [(2, p)] H (fn_29 p H) := by
  refine a_mtI (lo := [some (2, p), none]) rfl fun d => ?_
  unfold fn_29
  refine a_w2 (z := 0) (Nat.le_succ _) ti_29_0 (by decide) ?_
  refine a_w11 (lo' := [some (2, p), some (0, 0)]) (Nat.le_succ _) ti_29_1 rfl ?_
  refine a_wk (a_wlp (fun (s : Int × a_P) => [some (2, p), some (0, s.1)]) (fun (s : Int × a_P) => s.2) (fun N1 hN1 n2 hn2 s1 => ?_) a_fuel (a_fuel_le (by omega)) (0, H)) (Nat.le_refl _) ⟨rfl, rfl, trivial⟩
  · refine a_w0 (Nat.le_refl _) ti_29_2 rfl ?_
    refine a_w0 (Nat.le_succ _) ti_29_3 rfl ?_
    refine a_w1 (a := (0, s1.2 p 6)) (Nat.le_succ _) ti_29_4 rfl ?_
    refine a_w9_3 (Nat.le_succ _) ti_29_7 ?_ ?_
    · exact a_w4v (Nat.le_succ _) ti_29_52 rfl rfl
    · refine a_w0 (Nat.le_succ _) ti_29_10 rfl ?_
      refine a_w3p (args := [(2, p)]) (Nat.le_succ _) ti_29_11 (mt_14 p s1.2) rfl rfl rfl rfl ?_
      refine a_wjn 46 (fun (s : a_P) => [some (2, p), some (0, s1.1)]) (fun (s : a_P) => []) (fun (s : a_P) => s) (fun s2 => ?_) (fun j46 hj46 => ?_)
      · refine a_w13 (c' := 1) (lof := fun x1 => [some (2, p), some (0, x1)]) (Nat.le_succ _) ti_29_46 rfl (by decide) rfl (fun _ => rfl) (fun x1 => ?_)
        refine a_w7 (Nat.le_succ _) ti_29_49 ?_
        exact a_wk (hn2 (x1, s2)) (by omega) ⟨rfl, rfl, trivial⟩
      · refine a_wjn 25 (fun (s : Unit) => [some (2, p), some (0, s1.1)]) (fun (s : Unit) => []) (fun (s : Unit) => s1.2) (fun s3 => ?_) (fun j25 hj25 => ?_)
        · refine a_w0 (Nat.le_succ _) ti_29_25 rfl ?_
          refine a_w1 (a := (2, (p + 5))) (Nat.le_succ _) ti_29_26 rfl ?_
          refine a_w0 (Nat.le_succ _) ti_29_29 rfl ?_
          refine a_w0 (Nat.le_succ _) ti_29_30 rfl ?_
          refine a_w1 (a := (2, (p + 1))) (Nat.le_succ _) ti_29_31 rfl ?_
          refine a_w0 (Nat.le_succ _) ti_29_34 rfl ?_
          refine a_w5 (kk := 0) (Nat.le_succ _) ti_29_35 (fun _ => rfl) ?_
          refine a_w0 (Nat.le_succ _) ti_29_36 rfl ?_
          refine a_w1 (a := (2, (p + 5))) (Nat.le_succ _) ti_29_37 rfl ?_
          refine a_w0 (Nat.le_succ _) ti_29_40 rfl ?_
          refine a_w5 (kk := 0) (Nat.le_succ _) ti_29_41 (fun _ => rfl) ?_
          refine a_w3p (args := [(0, s1.2 (p + 1) s1.1), (0, s1.2 (p + 5) s1.1)]) (Nat.le_succ _) ti_29_42 (mt_25 (s1.2 (p + 1) s1.1) (s1.2 (p + 5) s1.1) s1.2) rfl rfl rfl rfl ?_
          refine a_w12 (Nat.le_succ _) ti_29_45 (Or.inl ⟨rfl, rfl⟩) (fun H1 => ?_)
          exact a_wk (hj46 H1) (by omega) ⟨rfl, rfl, trivial⟩
        · refine a_w8_0 (Nat.le_succ _) ti_29_14 ?_ ?_
          · exact a_wk (hj25 ()) (by omega) ⟨rfl, rfl, trivial⟩
          · refine a_w0 (Nat.le_succ _) ti_29_17 rfl ?_
            refine a_w0 (Nat.le_succ _) ti_29_18 rfl ?_
            refine a_w3p (args := [(2, p), (0, s1.1)]) (Nat.le_succ _) ti_29_19 (mt_20 p s1.1 s1.2) rfl rfl rfl rfl ?_
            refine a_w8_1 (Nat.le_succ _) ti_29_22 ?_ ?_
            · exact a_wk (hj46 s1.2) (by omega) ⟨rfl, rfl, trivial⟩
            · exact a_wk (hj25 ()) (by omega) ⟨rfl, rfl, trivial⟩
/-- CarriedGate$Plain.tireAndRest()V -/
noncomputable def fn_30 (p : Int) (H : a_P) : a_P :=
  a_bd (H p 2) fun x1 =>
  a_jn (fun (s1 : a_P) => (if (fn_12 p x1 s1) = 0 then s1
  else a_bd (a_up s1 (p + 4) x1 (a_w ((s1 (p + 4) x1) - 1))) fun H1 =>
  a_jn (fun (s2 : a_P) => s2) fun j79 =>
  (if 0 < (H1 (p + 4) x1) then j79 H1
  else a_bd (a_up H1 p 2 (-4)) fun H2 =>
  j79 H2))) fun j45 =>
  a_lp (fun (s3 : Int × a_P) => s3.2) (fun (s3 : Int × a_P) n7 => (if s3.1 < (s3.2 p 6) then a_jn (fun (s4 : a_P) => a_bd (a_w (s3.1 + 1)) fun x2 =>
  n7 (x2, s4)) fun j39 =>
  (if s3.1 = x1 then j39 s3.2
  else a_bd (a_up s3.2 (p + 4) s3.1 (a_min (a_w ((s3.2 (p + 4) s3.1) + 1)) 20)) fun H3 =>
  j39 H3)
  else j45 s3.2)) a_fuel (0, H)
theorem ti_30_0 : (q_I 30).2 0 = some (0, 4, 0, 0, 2, 1, []) := rfl
theorem ti_30_1 : (q_I 30).2 1 = some (1, 0, 18, 2, 2, 4, [89]) := rfl
theorem ti_30_4 : (q_I 30).2 4 = some (11, 0, 0, 1, 0, 5, []) := rfl
theorem ti_30_5 : (q_I 30).2 5 = some (2, 0, 0, 0, 0, 6, []) := rfl
theorem ti_30_6 : (q_I 30).2 6 = some (11, 0, 0, 2, 0, 7, []) := rfl
theorem ti_30_7 : (q_I 30).2 7 = some (0, 0, 0, 2, 0, 8, []) := rfl
theorem ti_30_8 : (q_I 30).2 8 = some (0, 4, 0, 0, 2, 9, []) := rfl
theorem ti_30_9 : (q_I 30).2 9 = some (1, 0, 30, 2, 6, 12, [100]) := rfl
theorem ti_30_12 : (q_I 30).2 12 = some (9, 3, 0, 45, 0, 15, []) := rfl
theorem ti_30_15 : (q_I 30).2 15 = some (0, 0, 0, 2, 0, 16, []) := rfl
theorem ti_30_16 : (q_I 30).2 16 = some (0, 0, 0, 1, 0, 17, []) := rfl
theorem ti_30_17 : (q_I 30).2 17 = some (9, 0, 0, 39, 0, 20, []) := rfl
theorem ti_30_20 : (q_I 30).2 20 = some (0, 4, 0, 0, 2, 21, []) := rfl
theorem ti_30_21 : (q_I 30).2 21 = some (1, 0, 43, 2, 10, 24, [109]) := rfl
theorem ti_30_24 : (q_I 30).2 24 = some (0, 0, 0, 2, 0, 25, []) := rfl
theorem ti_30_25 : (q_I 30).2 25 = some (0, 4, 0, 0, 2, 26, []) := rfl
theorem ti_30_26 : (q_I 30).2 26 = some (1, 0, 43, 2, 10, 29, [109]) := rfl
theorem ti_30_29 : (q_I 30).2 29 = some (0, 0, 0, 2, 0, 30, []) := rfl
theorem ti_30_30 : (q_I 30).2 30 = some (5, 10, 0, 0, 0, 31, []) := rfl
theorem ti_30_31 : (q_I 30).2 31 = some (2, 0, 1, 0, 0, 32, []) := rfl
theorem ti_30_32 : (q_I 30).2 32 = some (6, 0, 0, 0, 0, 33, []) := rfl
theorem ti_30_33 : (q_I 30).2 33 = some (2, 1, 20, 0, 0, 35, []) := rfl
theorem ti_30_35 : (q_I 30).2 35 = some (26, 21, 81, 0, 0, 38, [517]) := rfl
theorem ti_30_38 : (q_I 30).2 38 = some (12, 10, 0, 0, 0, 39, []) := rfl
theorem ti_30_39 : (q_I 30).2 39 = some (13, 0, 1, 2, 0, 42, []) := rfl
theorem ti_30_42 : (q_I 30).2 42 = some (7, 0, 0, 7, 0, 45, []) := rfl
theorem ti_30_45 : (q_I 30).2 45 = some (0, 4, 0, 0, 2, 46, []) := rfl
theorem ti_30_46 : (q_I 30).2 46 = some (0, 0, 0, 1, 0, 47, []) := rfl
theorem ti_30_47 : (q_I 30).2 47 = some (3, 0, 102, 12, 2, 50, [522, 2]) := rfl
theorem ti_30_50 : (q_I 30).2 50 = some (8, 1, 0, 54, 0, 53, []) := rfl
theorem ti_30_53 : (q_I 30).2 53 = some (4, 4, 0, 0, 0, 54, []) := rfl
theorem ti_30_54 : (q_I 30).2 54 = some (0, 4, 0, 0, 2, 55, []) := rfl
theorem ti_30_55 : (q_I 30).2 55 = some (1, 0, 43, 2, 10, 58, [109]) := rfl
theorem ti_30_58 : (q_I 30).2 58 = some (0, 0, 0, 1, 0, 59, []) := rfl
theorem ti_30_59 : (q_I 30).2 59 = some (17, 0, 0, 0, 0, 60, []) := rfl
theorem ti_30_60 : (q_I 30).2 60 = some (5, 10, 0, 0, 0, 61, []) := rfl
theorem ti_30_61 : (q_I 30).2 61 = some (2, 0, 1, 0, 0, 62, []) := rfl
theorem ti_30_62 : (q_I 30).2 62 = some (6, 1, 0, 0, 0, 63, []) := rfl
theorem ti_30_63 : (q_I 30).2 63 = some (12, 10, 0, 0, 0, 64, []) := rfl
theorem ti_30_64 : (q_I 30).2 64 = some (0, 4, 0, 0, 2, 65, []) := rfl
theorem ti_30_65 : (q_I 30).2 65 = some (1, 0, 43, 2, 10, 68, [109]) := rfl
theorem ti_30_68 : (q_I 30).2 68 = some (0, 0, 0, 1, 0, 69, []) := rfl
theorem ti_30_69 : (q_I 30).2 69 = some (5, 10, 0, 0, 0, 70, []) := rfl
theorem ti_30_70 : (q_I 30).2 70 = some (8, 4, 0, 79, 0, 73, []) := rfl
theorem ti_30_73 : (q_I 30).2 73 = some (0, 4, 0, 0, 2, 74, []) := rfl
theorem ti_30_74 : (q_I 30).2 74 = some (2, 1, (-4), 0, 0, 76, []) := rfl
theorem ti_30_76 : (q_I 30).2 76 = some (10, 0, 18, 2, 2, 79, [89]) := rfl
theorem ti_30_79 : (q_I 30).2 79 = some (4, 4, 0, 0, 0, 80, []) := rfl
theorem mt_30 (p : Int) (H : a_P) : a_mt a_pv 9 30 [(2, p)] H (fn_30 p H) := by
  refine a_mtI (lo := [some (2, p), none, none]) rfl fun d => ?_
  unfold fn_30
  refine a_w0 (Nat.le_succ _) ti_30_0 rfl ?_
  refine a_w1 (a := (0, H p 2)) (Nat.le_succ _) ti_30_1 rfl ?_
  refine a_w11b (lof := fun x1 => [some (2, p), some (0, x1), none]) (Nat.le_succ _) ti_30_4 (fun _ => rfl) (fun x1 => ?_)
  refine a_w2 (z := 0) (Nat.le_succ _) ti_30_5 (by decide) ?_
  refine a_w11 (lo' := [some (2, p), some (0, x1), some (0, 0)]) (Nat.le_succ _) ti_30_6 rfl ?_
  refine a_wjn 45 (fun (s : a_P) => [some (2, p), some (0, x1), none]) (fun (s : a_P) => []) (fun (s : a_P) => s) (fun s1 => ?_) (fun j45 hj45 => ?_)
  · refine a_w0 (Nat.le_succ _) ti_30_45 rfl ?_
    refine a_w0 (Nat.le_succ _) ti_30_46 rfl ?_
    refine a_w3p (args := [(2, p), (0, x1)]) (Nat.le_succ _) ti_30_47 (mt_12 p x1 s1) rfl rfl rfl rfl ?_
    refine a_w8_1 (Nat.le_succ _) ti_30_50 ?_ ?_
    · refine a_w0 (Nat.le_succ _) ti_30_54 rfl ?_
      refine a_w1 (a := (2, (p + 4))) (Nat.le_succ _) ti_30_55 rfl ?_
      refine a_w0 (Nat.le_succ _) ti_30_58 rfl ?_
      refine a_w17 (Nat.le_succ _) ti_30_59 ?_
      refine a_w5 (kk := 0) (Nat.le_succ _) ti_30_60 (fun _ => rfl) ?_
      refine a_w2 (z := 1) (Nat.le_succ _) ti_30_61 (by decide) ?_
      refine a_w6 (a := (0, a_w ((s1 (p + 4) x1) - 1))) (Nat.le_succ _) ti_30_62 rfl ?_
      refine a_w12 (Nat.le_succ _) ti_30_63 (Or.inl ⟨rfl, rfl⟩) (fun H1 => ?_)
      refine a_w0 (Nat.le_succ _) ti_30_64 rfl ?_
      refine a_w1 (a := (2, (p + 4))) (Nat.le_succ _) ti_30_65 rfl ?_
      refine a_w0 (Nat.le_succ _) ti_30_68 rfl ?_
      refine a_w5 (kk := 0) (Nat.le_succ _) ti_30_69 (fun _ => rfl) ?_
      refine a_wjn 79 (fun (s : a_P) => [none, none, none]) (fun (s : a_P) => []) (fun (s : a_P) => s) (fun s2 => ?_) (fun j79 hj79 => ?_)
      · exact a_w4v (Nat.le_succ _) ti_30_79 rfl rfl
      · refine a_w8_4 (Nat.le_succ _) ti_30_70 ?_ ?_
        · exact a_wk (hj79 H1) (by omega) trivial
        · refine a_w0 (Nat.le_succ _) ti_30_73 rfl ?_
          refine a_w2 (z := (-4)) (Nat.le_succ _) ti_30_74 (by decide) ?_
          refine a_w10 (Nat.le_succ _) ti_30_76 rfl rfl rfl (fun H2 => ?_)
          exact a_wk (hj79 H2) (by omega) trivial
    · exact a_w4v (Nat.le_succ _) ti_30_53 rfl rfl
  · refine a_wk (a_wlp (fun (s : Int × a_P) => [some (2, p), some (0, x1), some (0, s.1)]) (fun (s : Int × a_P) => s.2) (fun N1 hN1 n7 hn7 s3 => ?_) a_fuel (a_fuel_le (by omega)) (0, H)) (Nat.le_refl _) ⟨rfl, rfl, rfl, trivial⟩
    · refine a_w0 (Nat.le_refl _) ti_30_7 rfl ?_
      refine a_w0 (Nat.le_succ _) ti_30_8 rfl ?_
      refine a_w1 (a := (0, s3.2 p 6)) (Nat.le_succ _) ti_30_9 rfl ?_
      refine a_w9_3 (Nat.le_succ _) ti_30_12 ?_ ?_
      · exact a_wk (hj45 s3.2) (by omega) ⟨rfl, rfl, trivial⟩
      · refine a_w0 (Nat.le_succ _) ti_30_15 rfl ?_
        refine a_w0 (Nat.le_succ _) ti_30_16 rfl ?_
        refine a_wjn 39 (fun (s : a_P) => [some (2, p), some (0, x1), some (0, s3.1)]) (fun (s : a_P) => []) (fun (s : a_P) => s) (fun s4 => ?_) (fun j39 hj39 => ?_)
        · refine a_w13 (c' := 1) (lof := fun x2 => [some (2, p), some (0, x1), some (0, x2)]) (Nat.le_succ _) ti_30_39 rfl (by decide) rfl (fun _ => rfl) (fun x2 => ?_)
          refine a_w7 (Nat.le_succ _) ti_30_42 ?_
          exact a_wk (hn7 (x2, s4)) (by omega) ⟨rfl, rfl, rfl, trivial⟩
        · refine a_w9_0 (Nat.le_succ _) ti_30_17 ?_ ?_
          · exact a_wk (hj39 s3.2) (by omega) ⟨rfl, rfl, rfl, trivial⟩
          · refine a_w0 (Nat.le_succ _) ti_30_20 rfl ?_
            refine a_w1 (a := (2, (p + 4))) (Nat.le_succ _) ti_30_21 rfl ?_
            refine a_w0 (Nat.le_succ _) ti_30_24 rfl ?_
            refine a_w0 (Nat.le_succ _) ti_30_25 rfl ?_
            refine a_w1 (a := (2, (p + 4))) (Nat.le_succ _) ti_30_26 rfl ?_
            refine a_w0 (Nat.le_succ _) ti_30_29 rfl ?_
            refine a_w5 (kk := 0) (Nat.le_succ _) ti_30_30 (fun _ => rfl) ?_
            refine a_w2 (z := 1) (Nat.le_succ _) ti_30_31 (by decide) ?_
            refine a_w6 (a := (0, a_w ((s3.2 (p + 4) s3.1) + 1))) (Nat.le_succ _) ti_30_32 rfl ?_
            refine a_w2 (z := 20) (Nat.le_succ _) ti_30_33 (by decide) ?_
            refine a_w26 (a := (0, a_min (a_w ((s3.2 (p + 4) s3.1) + 1)) 20)) (Nat.le_succ _) ti_30_35 rfl ?_
            refine a_w12 (Nat.le_succ _) ti_30_38 (Or.inl ⟨rfl, rfl⟩) (fun H3 => ?_)
            exact a_wk (hj39 H3) (by omega) ⟨rfl, rfl, rfl, trivial⟩
/-- CarriedGate$Plain.passHour()V -/
noncomputable def fn_27 (p : Int) (H : a_P) : a_P :=
  a_bd (fn_28 p H) fun H1 =>
  a_jn (fun (s1 : a_P) => a_bd (fn_30 p s1) fun H2 =>
  a_bd (a_up H2 p 4 (a_w ((H2 p 4) + 1))) fun H3 =>
  H3) fun j26 =>
  (if (a_and (a_shr (H1 p 3) (a_rem (H1 p 4) 6)) 1) = 1 then a_bd (fn_29 p H1) fun H4 =>
  j26 H4
  else j26 H1)
theorem ti_27_0 : (q_I 27).2 0 = some (0, 4, 0, 0, 2, 1, []) := rfl
theorem ti_27_1 : (q_I 27).2 1 = some (3, 0, 87, 28, 1, 4, [503, 2]) := rfl
theorem ti_27_4 : (q_I 27).2 4 = some (0, 4, 0, 0, 2, 5, []) := rfl
theorem ti_27_5 : (q_I 27).2 5 = some (1, 0, 21, 2, 3, 8, [92]) := rfl
theorem ti_27_8 : (q_I 27).2 8 = some (0, 4, 0, 0, 2, 9, []) := rfl
theorem ti_27_9 : (q_I 27).2 9 = some (1, 0, 24, 2, 4, 12, [95]) := rfl
theorem ti_27_12 : (q_I 27).2 12 = some (2, 1, 6, 0, 0, 14, []) := rfl
theorem ti_27_14 : (q_I 27).2 14 = some (6, 4, 0, 0, 0, 15, []) := rfl
theorem ti_27_15 : (q_I 27).2 15 = some (6, 9, 0, 0, 0, 16, []) := rfl
theorem ti_27_16 : (q_I 27).2 16 = some (2, 0, 1, 0, 0, 17, []) := rfl
theorem ti_27_17 : (q_I 27).2 17 = some (6, 5, 0, 0, 0, 18, []) := rfl
theorem ti_27_18 : (q_I 27).2 18 = some (2, 0, 1, 0, 0, 19, []) := rfl
theorem ti_27_19 : (q_I 27).2 19 = some (9, 1, 0, 26, 0, 22, []) := rfl
theorem ti_27_22 : (q_I 27).2 22 = some (0, 4, 0, 0, 2, 23, []) := rfl
theorem ti_27_23 : (q_I 27).2 23 = some (3, 0, 90, 29, 1, 26, [510, 2]) := rfl
theorem ti_27_26 : (q_I 27).2 26 = some (0, 4, 0, 0, 2, 27, []) := rfl
theorem ti_27_27 : (q_I 27).2 27 = some (3, 0, 93, 30, 1, 30, [518, 2]) := rfl
theorem ti_27_30 : (q_I 27).2 30 = some (0, 4, 0, 0, 2, 31, []) := rfl
theorem ti_27_31 : (q_I 27).2 31 = some (16, 0, 0, 0, 0, 32, []) := rfl
theorem ti_27_32 : (q_I 27).2 32 = some (1, 0, 24, 2, 4, 35, [95]) := rfl
theorem ti_27_35 : (q_I 27).2 35 = some (2, 0, 1, 0, 0, 36, []) := rfl
theorem ti_27_36 : (q_I 27).2 36 = some (6, 0, 0, 0, 0, 37, []) := rfl
theorem ti_27_37 : (q_I 27).2 37 = some (10, 0, 24, 2, 4, 40, [95]) := rfl
theorem ti_27_40 : (q_I 27).2 40 = some (4, 4, 0, 0, 0, 41, []) := rfl
theorem mt_27 (p : Int) (H : a_P) : a_mt a_pv 9 27 [(2, p)] H (fn_27 p H) := by
  refine a_mtI (lo := [some (2, p)]) rfl fun d => ?_
  unfold fn_27
  refine a_w0 (Nat.le_succ _) ti_27_0 rfl ?_
  refine a_w3v (args := [(2, p)]) (Nat.le_succ _) ti_27_1 (mt_28 p H) rfl rfl (fun H1 => ?_)
  refine a_w0 (Nat.le_succ _) ti_27_4 rfl ?_
  refine a_w1 (a := (0, H1 p 3)) (Nat.le_succ _) ti_27_5 rfl ?_
  refine a_w0 (Nat.le_succ _) ti_27_8 rfl ?_
  refine a_w1 (a := (0, H1 p 4)) (Nat.le_succ _) ti_27_9 rfl ?_
  refine a_w2 (z := 6) (Nat.le_succ _) ti_27_12 (by decide) ?_
  refine a_w6 (a := (0, a_rem (H1 p 4) 6)) (Nat.le_succ _) ti_27_14 rfl ?_
  refine a_w6 (a := (0, a_shr (H1 p 3) (a_rem (H1 p 4) 6))) (Nat.le_succ _) ti_27_15 rfl ?_
  refine a_w2 (z := 1) (Nat.le_succ _) ti_27_16 (by decide) ?_
  refine a_w6 (a := (0, a_and (a_shr (H1 p 3) (a_rem (H1 p 4) 6)) 1)) (Nat.le_succ _) ti_27_17 rfl ?_
  refine a_w2 (z := 1) (Nat.le_succ _) ti_27_18 (by decide) ?_
  refine a_wjn 26 (fun (s : a_P) => [some (2, p)]) (fun (s : a_P) => []) (fun (s : a_P) => s) (fun s1 => ?_) (fun j26 hj26 => ?_)
  · refine a_w0 (Nat.le_succ _) ti_27_26 rfl ?_
    refine a_w3v (args := [(2, p)]) (Nat.le_succ _) ti_27_27 (mt_30 p s1) rfl rfl (fun H2 => ?_)
    refine a_w0 (Nat.le_succ _) ti_27_30 rfl ?_
    refine a_w16 (Nat.le_succ _) ti_27_31 ?_
    refine a_w1 (a := (0, H2 p 4)) (Nat.le_succ _) ti_27_32 rfl ?_
    refine a_w2 (z := 1) (Nat.le_succ _) ti_27_35 (by decide) ?_
    refine a_w6 (a := (0, a_w ((H2 p 4) + 1))) (Nat.le_succ _) ti_27_36 rfl ?_
    refine a_w10 (Nat.le_succ _) ti_27_37 rfl rfl rfl (fun H3 => ?_)
    exact a_w4v (Nat.le_succ _) ti_27_40 rfl rfl
  · refine a_w9_1 (Nat.le_succ _) ti_27_19 ?_ ?_
    · exact a_wk (hj26 H1) (by omega) ⟨rfl, trivial⟩
    · refine a_w0 (Nat.le_succ _) ti_27_22 rfl ?_
      refine a_w3v (args := [(2, p)]) (Nat.le_succ _) ti_27_23 (mt_29 p H1) rfl rfl (fun H4 => ?_)
      exact a_wk (hj26 H4) (by omega) ⟨rfl, trivial⟩
/-- CarriedGate.hours(I)I -/
noncomputable def fn_61 (a1 : Int) (H : a_P) : a_F :=
  a_jn (fun (s1 : Unit) => ((-1), H)) fun j11 =>
  (if a1 < 1 then j11 ()
  else (if 40 < a1 then j11 ()
  else (if 9999 < (a_w ((H 1 4) + a1)) then ((-3), H)
  else a_lp (fun (s2 : Int × a_P) => (0, s2.2)) (fun (s2 : Int × a_P) n33 => (if s2.1 < a1 then a_bd (fn_1 13 1 s2.2) fun H1 =>
  a_bd (fn_27 1 H1) fun H2 =>
  a_bd (a_w (s2.1 + 1)) fun x1 =>
  n33 (x1, H2)
  else (fn_23 1 s2.2, s2.2))) a_fuel (0, H))))
theorem ti_61_0 : (q_I 61).2 0 = some (0, 0, 0, 1, 0, 1, []) := rfl
theorem ti_61_1 : (q_I 61).2 1 = some (2, 0, 1, 0, 0, 2, []) := rfl
theorem ti_61_2 : (q_I 61).2 2 = some (9, 2, 0, 11, 0, 5, []) := rfl
theorem ti_61_5 : (q_I 61).2 5 = some (0, 0, 0, 1, 0, 6, []) := rfl
theorem ti_61_6 : (q_I 61).2 6 = some (2, 1, 40, 0, 0, 8, []) := rfl
theorem ti_61_8 : (q_I 61).2 8 = some (9, 5, 0, 13, 0, 11, []) := rfl
theorem ti_61_13 : (q_I 61).2 13 = some (0, 4, 0, 0, 2, 14, []) := rfl
theorem ti_61_14 : (q_I 61).2 14 = some (1, 0, 10, 5, 0, 17, [231]) := rfl
theorem ti_61_17 : (q_I 61).2 17 = some (1, 0, 142, 2, 4, 20, [97]) := rfl
theorem ti_61_20 : (q_I 61).2 20 = some (0, 0, 0, 1, 0, 21, []) := rfl
theorem ti_61_21 : (q_I 61).2 21 = some (6, 0, 0, 0, 0, 22, []) := rfl
theorem ti_61_22 : (q_I 61).2 22 = some (2, 2, 9999, 0, 0, 25, []) := rfl
theorem ti_61_25 : (q_I 61).2 25 = some (9, 5, 0, 31, 0, 28, []) := rfl
theorem ti_61_28 : (q_I 61).2 28 = some (2, 1, (-3), 0, 0, 30, []) := rfl
theorem ti_61_30 : (q_I 61).2 30 = some (4, 0, 0, 0, 0, 31, []) := rfl
theorem ti_61_31 : (q_I 61).2 31 = some (2, 0, 0, 0, 0, 32, []) := rfl
theorem ti_61_32 : (q_I 61).2 32 = some (11, 0, 0, 2, 0, 33, []) := rfl
theorem ti_61_33 : (q_I 61).2 33 = some (0, 0, 0, 2, 0, 34, []) := rfl
theorem ti_61_34 : (q_I 61).2 34 = some (0, 0, 0, 1, 0, 35, []) := rfl
theorem ti_61_35 : (q_I 61).2 35 = some (9, 3, 0, 62, 0, 38, []) := rfl
theorem ti_61_38 : (q_I 61).2 38 = some (0, 4, 0, 0, 2, 39, []) := rfl
theorem ti_61_39 : (q_I 61).2 39 = some (1, 0, 22, 5, 2, 42, [233]) := rfl
theorem ti_61_42 : (q_I 61).2 42 = some (0, 4, 0, 0, 2, 43, []) := rfl
theorem ti_61_43 : (q_I 61).2 43 = some (1, 0, 10, 5, 0, 46, [231]) := rfl
theorem ti_61_46 : (q_I 61).2 46 = some (3, 0, 155, 1, 2, 49, [494, 0]) := rfl
theorem ti_61_49 : (q_I 61).2 49 = some (0, 4, 0, 0, 2, 50, []) := rfl
theorem ti_61_50 : (q_I 61).2 50 = some (1, 0, 10, 5, 0, 53, [231]) := rfl
theorem ti_61_53 : (q_I 61).2 53 = some (3, 0, 158, 27, 1, 56, [499, 2]) := rfl
theorem ti_61_56 : (q_I 61).2 56 = some (13, 0, 1, 2, 0, 59, []) := rfl
theorem ti_61_59 : (q_I 61).2 59 = some (7, 0, 0, 33, 0, 62, []) := rfl
theorem ti_61_62 : (q_I 61).2 62 = some (0, 4, 0, 0, 2, 63, []) := rfl
theorem ti_61_63 : (q_I 61).2 63 = some (1, 0, 10, 5, 0, 66, [231]) := rfl
theorem ti_61_66 : (q_I 61).2 66 = some (3, 0, 145, 23, 1, 69, [478, 2]) := rfl
theorem ti_61_69 : (q_I 61).2 69 = some (4, 0, 0, 0, 0, 70, []) := rfl
theorem ti_61_11 : (q_I 61).2 11 = some (2, 0, (-1), 0, 0, 12, []) := rfl
theorem ti_61_12 : (q_I 61).2 12 = some (4, 0, 0, 0, 0, 13, []) := rfl
theorem mt_61 (a1 : Int) (H : a_P) : a_mt id 0 61 [(2, 0), (0, a1)] H (fn_61 a1 H) := by
  refine a_mtI (lo := [some (2, 0), some (0, a1), none]) rfl fun d => ?_
  unfold fn_61
  refine a_w0 (Nat.le_succ _) ti_61_0 rfl ?_
  refine a_w2 (z := 1) (Nat.le_succ _) ti_61_1 (by decide) ?_
  refine a_wjn 11 (fun (s : Unit) => [none, none, none]) (fun (s : Unit) => []) (fun (s : Unit) => H) (fun s1 => ?_) (fun j11 hj11 => ?_)
  · refine a_w2 (z := (-1)) (Nat.le_succ _) ti_61_11 (by decide) ?_
    exact a_w4 (Nat.le_succ _) ti_61_12 rfl rfl rfl
  · refine a_w9_2 (Nat.le_succ _) ti_61_2 ?_ ?_
    · exact a_wk (hj11 ()) (by omega) trivial
    · refine a_w0 (Nat.le_succ _) ti_61_5 rfl ?_
      refine a_w2 (z := 40) (Nat.le_succ _) ti_61_6 (by decide) ?_
      refine a_w9_5 (Nat.le_succ _) ti_61_8 ?_ ?_
      · refine a_w0 (Nat.le_succ _) ti_61_13 rfl ?_
        refine a_w1 (a := (2, 1)) (Nat.le_succ _) ti_61_14 rfl ?_
        refine a_w1 (a := (0, H 1 4)) (Nat.le_succ _) ti_61_17 rfl ?_
        refine a_w0 (Nat.le_succ _) ti_61_20 rfl ?_
        refine a_w6 (a := (0, a_w ((H 1 4) + a1))) (Nat.le_succ _) ti_61_21 rfl ?_
        refine a_w2 (z := 9999) (Nat.le_succ _) ti_61_22 (by decide) ?_
        refine a_w9_5 (Nat.le_succ _) ti_61_25 ?_ ?_
        · refine a_w2 (z := 0) (Nat.le_succ _) ti_61_31 (by decide) ?_
          refine a_w11 (lo' := [some (2, 0), some (0, a1), some (0, 0)]) (Nat.le_succ _) ti_61_32 rfl ?_
          refine a_wk (a_wlp (fun (s : Int × a_P) => [some (2, 0), some (0, a1), some (0, s.1)]) (fun (s : Int × a_P) => s.2) (fun N1 hN1 n33 hn33 s2 => ?_) a_fuel (a_fuel_le (by omega)) (0, H)) (Nat.le_refl _) ⟨rfl, rfl, rfl, trivial⟩
          · refine a_w0 (Nat.le_refl _) ti_61_33 rfl ?_
            refine a_w0 (Nat.le_succ _) ti_61_34 rfl ?_
            refine a_w9_3 (Nat.le_succ _) ti_61_35 ?_ ?_
            · refine a_w0 (Nat.le_succ _) ti_61_62 rfl ?_
              refine a_w1 (a := (2, 1)) (Nat.le_succ _) ti_61_63 rfl ?_
              refine a_w3p (args := [(2, 1)]) (Nat.le_succ _) ti_61_66 (mt_23 1 s2.2) rfl rfl rfl rfl ?_
              exact a_w4 (Nat.le_succ _) ti_61_69 rfl rfl rfl
            · refine a_w0 (Nat.le_succ _) ti_61_38 rfl ?_
              refine a_w1 (a := (2, 13)) (Nat.le_succ _) ti_61_39 rfl ?_
              refine a_w0 (Nat.le_succ _) ti_61_42 rfl ?_
              refine a_w1 (a := (2, 1)) (Nat.le_succ _) ti_61_43 rfl ?_
              refine a_w3v (args := [(2, 13), (2, 1)]) (Nat.le_succ _) ti_61_46 (mt_1 13 1 s2.2) rfl rfl (fun H1 => ?_)
              refine a_w0 (Nat.le_succ _) ti_61_49 rfl ?_
              refine a_w1 (a := (2, 1)) (Nat.le_succ _) ti_61_50 rfl ?_
              refine a_w3v (args := [(2, 1)]) (Nat.le_succ _) ti_61_53 (mt_27 1 H1) rfl rfl (fun H2 => ?_)
              refine a_w13 (c' := 1) (lof := fun x1 => [some (2, 0), some (0, a1), some (0, x1)]) (Nat.le_succ _) ti_61_56 rfl (by decide) rfl (fun _ => rfl) (fun x1 => ?_)
              refine a_w7 (Nat.le_succ _) ti_61_59 ?_
              exact a_wk (hn33 (x1, H2)) (by omega) ⟨rfl, rfl, rfl, trivial⟩
        · refine a_w2 (z := (-3)) (Nat.le_succ _) ti_61_28 (by decide) ?_
          exact a_w4 (Nat.le_succ _) ti_61_30 rfl rfl rfl
      · exact a_wk (hj11 ()) (by omega) trivial
/-- CarriedGate$Plain.canCarry(I)Z -/
noncomputable def fn_32 (p : Int) (a1 : Int) (H : a_P) : Int :=
  a_jn (fun (s1 : Int) => s1) fun j41 =>
  a_jn (fun (s2 : Unit) => j41 0) fun j40 =>
  (if (fn_12 p (H p 2) H) = 0 then j40 ()
  else (if (H (p + 4) (H p 2)) < 2 then j40 ()
  else (if (fn_17 (H p 0) a1) = (-1) then j40 ()
  else j41 1)))
theorem ti_32_0 : (q_I 32).2 0 = some (0, 4, 0, 0, 2, 1, []) := rfl
theorem ti_32_1 : (q_I 32).2 1 = some (0, 4, 0, 0, 2, 2, []) := rfl
theorem ti_32_2 : (q_I 32).2 2 = some (1, 0, 18, 2, 2, 5, [89]) := rfl
theorem ti_32_5 : (q_I 32).2 5 = some (3, 0, 102, 12, 2, 8, [522, 2]) := rfl
theorem ti_32_8 : (q_I 32).2 8 = some (8, 0, 0, 40, 0, 11, []) := rfl
theorem ti_32_11 : (q_I 32).2 11 = some (0, 4, 0, 0, 2, 12, []) := rfl
theorem ti_32_12 : (q_I 32).2 12 = some (1, 0, 43, 2, 10, 15, [109]) := rfl
theorem ti_32_15 : (q_I 32).2 15 = some (0, 4, 0, 0, 2, 16, []) := rfl
theorem ti_32_16 : (q_I 32).2 16 = some (1, 0, 18, 2, 2, 19, [89]) := rfl
theorem ti_32_19 : (q_I 32).2 19 = some (5, 10, 0, 0, 0, 20, []) := rfl
theorem ti_32_20 : (q_I 32).2 20 = some (2, 0, 2, 0, 0, 21, []) := rfl
theorem ti_32_21 : (q_I 32).2 21 = some (9, 2, 0, 40, 0, 24, []) := rfl
theorem ti_32_24 : (q_I 32).2 24 = some (0, 4, 0, 0, 2, 25, []) := rfl
theorem ti_32_25 : (q_I 32).2 25 = some (1, 0, 9, 2, 0, 28, [83]) := rfl
theorem ti_32_28 : (q_I 32).2 28 = some (0, 0, 0, 1, 0, 29, []) := rfl
theorem ti_32_29 : (q_I 32).2 29 = some (3, 1, 96, 17, 2, 32, [507, 2]) := rfl
theorem ti_32_32 : (q_I 32).2 32 = some (2, 0, (-1), 0, 0, 33, []) := rfl
theorem ti_32_33 : (q_I 32).2 33 = some (9, 0, 0, 40, 0, 36, []) := rfl
theorem ti_32_36 : (q_I 32).2 36 = some (2, 0, 1, 0, 0, 37, []) := rfl
theorem ti_32_37 : (q_I 32).2 37 = some (7, 0, 0, 41, 0, 40, []) := rfl
theorem ti_32_40 : (q_I 32).2 40 = some (2, 0, 0, 0, 0, 41, []) := rfl
theorem ti_32_41 : (q_I 32).2 41 = some (4, 3, 0, 0, 0, 42, []) := rfl
theorem mt_32 (p : Int) (a1 : Int) (H : a_P) : a_mt (a_pp H) 0 32 [(2, p), (0, a1)] H (fn_32 p a1 H) := by
  refine a_mtI (lo := [some (2, p), some (0, a1)]) rfl fun d => ?_
  unfold fn_32
  refine a_w0 (Nat.le_succ _) ti_32_0 rfl ?_
  refine a_w0 (Nat.le_succ _) ti_32_1 rfl ?_
  refine a_w1 (a := (0, H p 2)) (Nat.le_succ _) ti_32_2 rfl ?_
  refine a_w3p (args := [(2, p), (0, H p 2)]) (Nat.le_succ _) ti_32_5 (mt_12 p (H p 2) H) rfl rfl rfl rfl ?_
  refine a_wjn 41 (fun (s : Int) => [none, none]) (fun (s : Int) => [(0, s)]) (fun (s : Int) => H) (fun s1 => ?_) (fun j41 hj41 => ?_)
  · exact a_w4 (Nat.le_succ _) ti_32_41 rfl rfl rfl
  · refine a_wjn 40 (fun (s : Unit) => [none, none]) (fun (s : Unit) => []) (fun (s : Unit) => H) (fun s2 => ?_) (fun j40 hj40 => ?_)
    · refine a_w2 (z := 0) (Nat.le_succ _) ti_32_40 (by decide) ?_
      exact a_wk (hj41 0) (by omega) trivial
    · refine a_w8_0 (Nat.le_succ _) ti_32_8 ?_ ?_
      · exact a_wk (hj40 ()) (by omega) trivial
      · refine a_w0 (Nat.le_succ _) ti_32_11 rfl ?_
        refine a_w1 (a := (2, (p + 4))) (Nat.le_succ _) ti_32_12 rfl ?_
        refine a_w0 (Nat.le_succ _) ti_32_15 rfl ?_
        refine a_w1 (a := (0, H p 2)) (Nat.le_succ _) ti_32_16 rfl ?_
        refine a_w5 (kk := 0) (Nat.le_succ _) ti_32_19 (fun _ => rfl) ?_
        refine a_w2 (z := 2) (Nat.le_succ _) ti_32_20 (by decide) ?_
        refine a_w9_2 (Nat.le_succ _) ti_32_21 ?_ ?_
        · exact a_wk (hj40 ()) (by omega) trivial
        · refine a_w0 (Nat.le_succ _) ti_32_24 rfl ?_
          refine a_w1 (a := (0, H p 0)) (Nat.le_succ _) ti_32_25 rfl ?_
          refine a_w0 (Nat.le_succ _) ti_32_28 rfl ?_
          refine a_w3p (args := [(0, H p 0), (0, a1)]) (Nat.le_succ _) ti_32_29 (mt_17 (H p 0) a1 H) rfl rfl rfl rfl ?_
          refine a_w2 (z := (-1)) (Nat.le_succ _) ti_32_32 (by decide) ?_
          refine a_w9_0 (Nat.le_succ _) ti_32_33 ?_ ?_
          · exact a_wk (hj40 ()) (by omega) trivial
          · refine a_w2 (z := 1) (Nat.le_succ _) ti_32_36 (by decide) ?_
            refine a_w7 (Nat.le_succ _) ti_32_37 ?_
            exact a_wk (hj41 1) (by omega) trivial
/-- CarriedGate$Plain.carryGate(I)V -/
noncomputable def fn_33 (p : Int) (a1 : Int) (H : a_P) : a_P :=
  (if (fn_32 p a1 H) = 0 then H
  else a_bd (a_up H p 0 (fn_17 (H p 0) a1)) fun H1 =>
  a_bd (a_up H1 (p + 2) (H1 p 2) (H1 p 0)) fun H2 =>
  a_bd (a_up H2 (p + 4) (H2 p 2) (a_w ((H2 (p + 4) (H2 p 2)) - 1))) fun H3 =>
  H3)
theorem ti_33_0 : (q_I 33).2 0 = some (0, 4, 0, 0, 2, 1, []) := rfl
theorem ti_33_1 : (q_I 33).2 1 = some (0, 0, 0, 1, 0, 2, []) := rfl
theorem ti_33_2 : (q_I 33).2 2 = some (3, 0, 108, 32, 2, 5, [535, 2]) := rfl
theorem ti_33_5 : (q_I 33).2 5 = some (8, 1, 0, 9, 0, 8, []) := rfl
theorem ti_33_8 : (q_I 33).2 8 = some (4, 4, 0, 0, 0, 9, []) := rfl
theorem ti_33_9 : (q_I 33).2 9 = some (0, 4, 0, 0, 2, 10, []) := rfl
theorem ti_33_10 : (q_I 33).2 10 = some (0, 4, 0, 0, 2, 11, []) := rfl
theorem ti_33_11 : (q_I 33).2 11 = some (1, 0, 9, 2, 0, 14, [83]) := rfl
theorem ti_33_14 : (q_I 33).2 14 = some (0, 0, 0, 1, 0, 15, []) := rfl
theorem ti_33_15 : (q_I 33).2 15 = some (3, 1, 96, 17, 2, 18, [507, 2]) := rfl
theorem ti_33_18 : (q_I 33).2 18 = some (10, 0, 9, 2, 0, 21, [83]) := rfl
theorem ti_33_21 : (q_I 33).2 21 = some (0, 4, 0, 0, 2, 22, []) := rfl
theorem ti_33_22 : (q_I 33).2 22 = some (1, 0, 37, 2, 8, 25, [105]) := rfl
theorem ti_33_25 : (q_I 33).2 25 = some (0, 4, 0, 0, 2, 26, []) := rfl
theorem ti_33_26 : (q_I 33).2 26 = some (1, 0, 18, 2, 2, 29, [89]) := rfl
theorem ti_33_29 : (q_I 33).2 29 = some (0, 4, 0, 0, 2, 30, []) := rfl
theorem ti_33_30 : (q_I 33).2 30 = some (1, 0, 9, 2, 0, 33, [83]) := rfl
theorem ti_33_33 : (q_I 33).2 33 = some (12, 10, 0, 0, 0, 34, []) := rfl
theorem ti_33_34 : (q_I 33).2 34 = some (0, 4, 0, 0, 2, 35, []) := rfl
theorem ti_33_35 : (q_I 33).2 35 = some (1, 0, 43, 2, 10, 38, [109]) := rfl
theorem ti_33_38 : (q_I 33).2 38 = some (0, 4, 0, 0, 2, 39, []) := rfl
theorem ti_33_39 : (q_I 33).2 39 = some (1, 0, 18, 2, 2, 42, [89]) := rfl
theorem ti_33_42 : (q_I 33).2 42 = some (17, 0, 0, 0, 0, 43, []) := rfl
theorem ti_33_43 : (q_I 33).2 43 = some (5, 10, 0, 0, 0, 44, []) := rfl
theorem ti_33_44 : (q_I 33).2 44 = some (2, 0, 1, 0, 0, 45, []) := rfl
theorem ti_33_45 : (q_I 33).2 45 = some (6, 1, 0, 0, 0, 46, []) := rfl
theorem ti_33_46 : (q_I 33).2 46 = some (12, 10, 0, 0, 0, 47, []) := rfl
theorem ti_33_47 : (q_I 33).2 47 = some (4, 4, 0, 0, 0, 48, []) := rfl
theorem mt_33 (p : Int) (a1 : Int) (H : a_P) : a_mt a_pv 9 33 [(2, p), (0, a1)] H (fn_33 p a1 H) := by
  refine a_mtI (lo := [some (2, p), some (0, a1)]) rfl fun d => ?_
  unfold fn_33
  refine a_w0 (Nat.le_succ _) ti_33_0 rfl ?_
  refine a_w0 (Nat.le_succ _) ti_33_1 rfl ?_
  refine a_w3p (args := [(2, p), (0, a1)]) (Nat.le_succ _) ti_33_2 (mt_32 p a1 H) rfl rfl rfl rfl ?_
  refine a_w8_1 (Nat.le_succ _) ti_33_5 ?_ ?_
  · refine a_w0 (Nat.le_succ _) ti_33_9 rfl ?_
    refine a_w0 (Nat.le_succ _) ti_33_10 rfl ?_
    refine a_w1 (a := (0, H p 0)) (Nat.le_succ _) ti_33_11 rfl ?_
    refine a_w0 (Nat.le_succ _) ti_33_14 rfl ?_
    refine a_w3p (args := [(0, H p 0), (0, a1)]) (Nat.le_succ _) ti_33_15 (mt_17 (H p 0) a1 H) rfl rfl rfl rfl ?_
    refine a_w10 (Nat.le_succ _) ti_33_18 rfl rfl rfl (fun H1 => ?_)
    refine a_w0 (Nat.le_succ _) ti_33_21 rfl ?_
    refine a_w1 (a := (2, (p + 2))) (Nat.le_succ _) ti_33_22 rfl ?_
    refine a_w0 (Nat.le_succ _) ti_33_25 rfl ?_
    refine a_w1 (a := (0, H1 p 2)) (Nat.le_succ _) ti_33_26 rfl ?_
    refine a_w0 (Nat.le_succ _) ti_33_29 rfl ?_
    refine a_w1 (a := (0, H1 p 0)) (Nat.le_succ _) ti_33_30 rfl ?_
    refine a_w12 (Nat.le_succ _) ti_33_33 (Or.inl ⟨rfl, rfl⟩) (fun H2 => ?_)
    refine a_w0 (Nat.le_succ _) ti_33_34 rfl ?_
    refine a_w1 (a := (2, (p + 4))) (Nat.le_succ _) ti_33_35 rfl ?_
    refine a_w0 (Nat.le_succ _) ti_33_38 rfl ?_
    refine a_w1 (a := (0, H2 p 2)) (Nat.le_succ _) ti_33_39 rfl ?_
    refine a_w17 (Nat.le_succ _) ti_33_42 ?_
    refine a_w5 (kk := 0) (Nat.le_succ _) ti_33_43 (fun _ => rfl) ?_
    refine a_w2 (z := 1) (Nat.le_succ _) ti_33_44 (by decide) ?_
    refine a_w6 (a := (0, a_w ((H2 (p + 4) (H2 p 2)) - 1))) (Nat.le_succ _) ti_33_45 rfl ?_
    refine a_w12 (Nat.le_succ _) ti_33_46 (Or.inl ⟨rfl, rfl⟩) (fun H3 => ?_)
    exact a_w4v (Nat.le_succ _) ti_33_47 rfl rfl
  · exact a_w4v (Nat.le_succ _) ti_33_8 rfl rfl
/-- CarriedGate.carry(I)I -/
noncomputable def fn_62 (a1 : Int) (H : a_P) : a_F :=
  (if (fn_91 a1 4) = 0 then ((-1), H)
  else (if (fn_32 1 a1 H) = 0 then ((-2), H)
  else a_bd (fn_1 13 1 H) fun H1 =>
  a_bd (fn_33 1 a1 H1) fun H2 =>
  (H2 1 0, H2)))
theorem ti_62_0 : (q_I 62).2 0 = some (0, 0, 0, 1, 0, 1, []) := rfl
theorem ti_62_1 : (q_I 62).2 1 = some (2, 0, 4, 0, 0, 2, []) := rfl
theorem ti_62_2 : (q_I 62).2 2 = some (3, 1, 64, 91, 2, 5, [269, 5]) := rfl
theorem ti_62_5 : (q_I 62).2 5 = some (8, 1, 0, 10, 0, 8, []) := rfl
theorem ti_62_8 : (q_I 62).2 8 = some (2, 0, (-1), 0, 0, 9, []) := rfl
theorem ti_62_9 : (q_I 62).2 9 = some (4, 0, 0, 0, 0, 10, []) := rfl
theorem ti_62_10 : (q_I 62).2 10 = some (0, 4, 0, 0, 2, 11, []) := rfl
theorem ti_62_11 : (q_I 62).2 11 = some (1, 0, 10, 5, 0, 14, [231]) := rfl
theorem ti_62_14 : (q_I 62).2 14 = some (0, 0, 0, 1, 0, 15, []) := rfl
theorem ti_62_15 : (q_I 62).2 15 = some (3, 0, 161, 32, 2, 18, [527, 2]) := rfl
theorem ti_62_18 : (q_I 62).2 18 = some (8, 1, 0, 24, 0, 21, []) := rfl
theorem ti_62_21 : (q_I 62).2 21 = some (2, 1, (-2), 0, 0, 23, []) := rfl
theorem ti_62_23 : (q_I 62).2 23 = some (4, 0, 0, 0, 0, 24, []) := rfl
theorem ti_62_24 : (q_I 62).2 24 = some (0, 4, 0, 0, 2, 25, []) := rfl
theorem ti_62_25 : (q_I 62).2 25 = some (1, 0, 22, 5, 2, 28, [233]) := rfl
theorem ti_62_28 : (q_I 62).2 28 = some (0, 4, 0, 0, 2, 29, []) := rfl
theorem ti_62_29 : (q_I 62).2 29 = some (1, 0, 10, 5, 0, 32, [231]) := rfl
theorem ti_62_32 : (q_I 62).2 32 = some (3, 0, 155, 1, 2, 35, [494, 0]) := rfl
theorem ti_62_35 : (q_I 62).2 35 = some (0, 4, 0, 0, 2, 36, []) := rfl
theorem ti_62_36 : (q_I 62).2 36 = some (1, 0, 10, 5, 0, 39, [231]) := rfl
theorem ti_62_39 : (q_I 62).2 39 = some (0, 0, 0, 1, 0, 40, []) := rfl
theorem ti_62_40 : (q_I 62).2 40 = some (3, 0, 164, 33, 2, 43, [531, 2]) := rfl
theorem ti_62_43 : (q_I 62).2 43 = some (0, 4, 0, 0, 2, 44, []) := rfl
theorem ti_62_44 : (q_I 62).2 44 = some (1, 0, 10, 5, 0, 47, [231]) := rfl
theorem ti_62_47 : (q_I 62).2 47 = some (1, 0, 130, 2, 0, 50, [85]) := rfl
theorem ti_62_50 : (q_I 62).2 50 = some (4, 0, 0, 0, 0, 51, []) := rfl
theorem mt_62 (a1 : Int) (H : a_P) : a_mt id 0 62 [(2, 0), (0, a1)] H (fn_62 a1 H) := by
  refine a_mtI (lo := [some (2, 0), some (0, a1)]) rfl fun d => ?_
  unfold fn_62
  refine a_w0 (Nat.le_succ _) ti_62_0 rfl ?_
  refine a_w2 (z := 4) (Nat.le_succ _) ti_62_1 (by decide) ?_
  refine a_w3p (args := [(0, a1), (0, 4)]) (Nat.le_succ _) ti_62_2 (mt_91 a1 4 H) rfl rfl rfl rfl ?_
  refine a_w8_1 (Nat.le_succ _) ti_62_5 ?_ ?_
  · refine a_w0 (Nat.le_succ _) ti_62_10 rfl ?_
    refine a_w1 (a := (2, 1)) (Nat.le_succ _) ti_62_11 rfl ?_
    refine a_w0 (Nat.le_succ _) ti_62_14 rfl ?_
    refine a_w3p (args := [(2, 1), (0, a1)]) (Nat.le_succ _) ti_62_15 (mt_32 1 a1 H) rfl rfl rfl rfl ?_
    refine a_w8_1 (Nat.le_succ _) ti_62_18 ?_ ?_
    · refine a_w0 (Nat.le_succ _) ti_62_24 rfl ?_
      refine a_w1 (a := (2, 13)) (Nat.le_succ _) ti_62_25 rfl ?_
      refine a_w0 (Nat.le_succ _) ti_62_28 rfl ?_
      refine a_w1 (a := (2, 1)) (Nat.le_succ _) ti_62_29 rfl ?_
      refine a_w3v (args := [(2, 13), (2, 1)]) (Nat.le_succ _) ti_62_32 (mt_1 13 1 H) rfl rfl (fun H1 => ?_)
      refine a_w0 (Nat.le_succ _) ti_62_35 rfl ?_
      refine a_w1 (a := (2, 1)) (Nat.le_succ _) ti_62_36 rfl ?_
      refine a_w0 (Nat.le_succ _) ti_62_39 rfl ?_
      refine a_w3v (args := [(2, 1), (0, a1)]) (Nat.le_succ _) ti_62_40 (mt_33 1 a1 H1) rfl rfl (fun H2 => ?_)
      refine a_w0 (Nat.le_succ _) ti_62_43 rfl ?_
      refine a_w1 (a := (2, 1)) (Nat.le_succ _) ti_62_44 rfl ?_
      refine a_w1 (a := (0, H2 1 0)) (Nat.le_succ _) ti_62_47 rfl ?_
      exact a_w4 (Nat.le_succ _) ti_62_50 rfl rfl rfl
    · refine a_w2 (z := (-2)) (Nat.le_succ _) ti_62_21 (by decide) ?_
      exact a_w4 (Nat.le_succ _) ti_62_23 rfl rfl rfl
  · refine a_w2 (z := (-1)) (Nat.le_succ _) ti_62_8 (by decide) ?_
    exact a_w4 (Nat.le_succ _) ti_62_9 rfl rfl rfl
/-- CarriedGate.turn(I)I -/
noncomputable def fn_63 (a1 : Int) (H : a_P) : a_F :=
  (if (fn_91 a1 4) = 0 then ((-1), H)
  else (if (H 1 1) = a1 then ((-2), H)
  else a_bd (fn_1 13 1 H) fun H1 =>
  a_bd (a_up H1 1 1 a1) fun H2 =>
  (fn_23 1 H2, H2)))
theorem ti_63_0 : (q_I 63).2 0 = some (0, 0, 0, 1, 0, 1, []) := rfl
theorem ti_63_1 : (q_I 63).2 1 = some (2, 0, 4, 0, 0, 2, []) := rfl
theorem ti_63_2 : (q_I 63).2 2 = some (3, 1, 64, 91, 2, 5, [269, 5]) := rfl
theorem ti_63_5 : (q_I 63).2 5 = some (8, 1, 0, 10, 0, 8, []) := rfl
theorem ti_63_8 : (q_I 63).2 8 = some (2, 0, (-1), 0, 0, 9, []) := rfl
theorem ti_63_9 : (q_I 63).2 9 = some (4, 0, 0, 0, 0, 10, []) := rfl
theorem ti_63_10 : (q_I 63).2 10 = some (0, 4, 0, 0, 2, 11, []) := rfl
theorem ti_63_11 : (q_I 63).2 11 = some (1, 0, 10, 5, 0, 14, [231]) := rfl
theorem ti_63_14 : (q_I 63).2 14 = some (1, 0, 133, 2, 1, 17, [88]) := rfl
theorem ti_63_17 : (q_I 63).2 17 = some (0, 0, 0, 1, 0, 18, []) := rfl
theorem ti_63_18 : (q_I 63).2 18 = some (9, 1, 0, 24, 0, 21, []) := rfl
theorem ti_63_21 : (q_I 63).2 21 = some (2, 1, (-2), 0, 0, 23, []) := rfl
theorem ti_63_23 : (q_I 63).2 23 = some (4, 0, 0, 0, 0, 24, []) := rfl
theorem ti_63_24 : (q_I 63).2 24 = some (0, 4, 0, 0, 2, 25, []) := rfl
theorem ti_63_25 : (q_I 63).2 25 = some (1, 0, 22, 5, 2, 28, [233]) := rfl
theorem ti_63_28 : (q_I 63).2 28 = some (0, 4, 0, 0, 2, 29, []) := rfl
theorem ti_63_29 : (q_I 63).2 29 = some (1, 0, 10, 5, 0, 32, [231]) := rfl
theorem ti_63_32 : (q_I 63).2 32 = some (3, 0, 155, 1, 2, 35, [494, 0]) := rfl
theorem ti_63_35 : (q_I 63).2 35 = some (0, 4, 0, 0, 2, 36, []) := rfl
theorem ti_63_36 : (q_I 63).2 36 = some (1, 0, 10, 5, 0, 39, [231]) := rfl
theorem ti_63_39 : (q_I 63).2 39 = some (0, 0, 0, 1, 0, 40, []) := rfl
theorem ti_63_40 : (q_I 63).2 40 = some (10, 0, 133, 2, 1, 43, [88]) := rfl
theorem ti_63_43 : (q_I 63).2 43 = some (0, 4, 0, 0, 2, 44, []) := rfl
theorem ti_63_44 : (q_I 63).2 44 = some (1, 0, 10, 5, 0, 47, [231]) := rfl
theorem ti_63_47 : (q_I 63).2 47 = some (3, 0, 145, 23, 1, 50, [478, 2]) := rfl
theorem ti_63_50 : (q_I 63).2 50 = some (4, 0, 0, 0, 0, 51, []) := rfl
theorem mt_63 (a1 : Int) (H : a_P) : a_mt id 0 63 [(2, 0), (0, a1)] H (fn_63 a1 H) := by
  refine a_mtI (lo := [some (2, 0), some (0, a1)]) rfl fun d => ?_
  unfold fn_63
  refine a_w0 (Nat.le_succ _) ti_63_0 rfl ?_
  refine a_w2 (z := 4) (Nat.le_succ _) ti_63_1 (by decide) ?_
  refine a_w3p (args := [(0, a1), (0, 4)]) (Nat.le_succ _) ti_63_2 (mt_91 a1 4 H) rfl rfl rfl rfl ?_
  refine a_w8_1 (Nat.le_succ _) ti_63_5 ?_ ?_
  · refine a_w0 (Nat.le_succ _) ti_63_10 rfl ?_
    refine a_w1 (a := (2, 1)) (Nat.le_succ _) ti_63_11 rfl ?_
    refine a_w1 (a := (0, H 1 1)) (Nat.le_succ _) ti_63_14 rfl ?_
    refine a_w0 (Nat.le_succ _) ti_63_17 rfl ?_
    refine a_w9_1 (Nat.le_succ _) ti_63_18 ?_ ?_
    · refine a_w0 (Nat.le_succ _) ti_63_24 rfl ?_
      refine a_w1 (a := (2, 13)) (Nat.le_succ _) ti_63_25 rfl ?_
      refine a_w0 (Nat.le_succ _) ti_63_28 rfl ?_
      refine a_w1 (a := (2, 1)) (Nat.le_succ _) ti_63_29 rfl ?_
      refine a_w3v (args := [(2, 13), (2, 1)]) (Nat.le_succ _) ti_63_32 (mt_1 13 1 H) rfl rfl (fun H1 => ?_)
      refine a_w0 (Nat.le_succ _) ti_63_35 rfl ?_
      refine a_w1 (a := (2, 1)) (Nat.le_succ _) ti_63_36 rfl ?_
      refine a_w0 (Nat.le_succ _) ti_63_39 rfl ?_
      refine a_w10 (Nat.le_succ _) ti_63_40 rfl rfl rfl (fun H2 => ?_)
      refine a_w0 (Nat.le_succ _) ti_63_43 rfl ?_
      refine a_w1 (a := (2, 1)) (Nat.le_succ _) ti_63_44 rfl ?_
      refine a_w3p (args := [(2, 1)]) (Nat.le_succ _) ti_63_47 (mt_23 1 H2) rfl rfl rfl rfl ?_
      exact a_w4 (Nat.le_succ _) ti_63_50 rfl rfl rfl
    · refine a_w2 (z := (-2)) (Nat.le_succ _) ti_63_21 (by decide) ?_
      exact a_w4 (Nat.le_succ _) ti_63_23 rfl rfl rfl
  · refine a_w2 (z := (-1)) (Nat.le_succ _) ti_63_8 (by decide) ?_
    exact a_w4 (Nat.le_succ _) ti_63_9 rfl rfl rfl
/-- CarriedGate$Plain.canTake(I)Z -/
noncomputable def fn_34 (p : Int) (a1 : Int) (H : a_P) : Int :=
  a_jn (fun (s1 : Int) => s1) fun j32 =>
  a_jn (fun (s2 : Unit) => j32 0) fun j31 =>
  (if a1 = (H p 2) then j31 ()
  else (if (H (p + 4) a1) < 1 then j31 ()
  else (if 1 < (fn_18 p a1 H) then j31 ()
  else j32 1)))
theorem ti_34_0 : (q_I 34).2 0 = some (0, 0, 0, 1, 0, 1, []) := rfl
theorem ti_34_1 : (q_I 34).2 1 = some (0, 4, 0, 0, 2, 2, []) := rfl
theorem ti_34_2 : (q_I 34).2 2 = some (1, 0, 18, 2, 2, 5, [89]) := rfl
theorem ti_34_5 : (q_I 34).2 5 = some (9, 0, 0, 31, 0, 8, []) := rfl
theorem ti_34_8 : (q_I 34).2 8 = some (0, 4, 0, 0, 2, 9, []) := rfl
theorem ti_34_9 : (q_I 34).2 9 = some (1, 0, 43, 2, 10, 12, [109]) := rfl
theorem ti_34_12 : (q_I 34).2 12 = some (0, 0, 0, 1, 0, 13, []) := rfl
theorem ti_34_13 : (q_I 34).2 13 = some (5, 10, 0, 0, 0, 14, []) := rfl
theorem ti_34_14 : (q_I 34).2 14 = some (2, 0, 1, 0, 0, 15, []) := rfl
theorem ti_34_15 : (q_I 34).2 15 = some (9, 2, 0, 31, 0, 18, []) := rfl
theorem ti_34_18 : (q_I 34).2 18 = some (0, 4, 0, 0, 2, 19, []) := rfl
theorem ti_34_19 : (q_I 34).2 19 = some (0, 0, 0, 1, 0, 20, []) := rfl
theorem ti_34_20 : (q_I 34).2 20 = some (3, 0, 111, 18, 2, 23, [548, 2]) := rfl
theorem ti_34_23 : (q_I 34).2 23 = some (2, 0, 1, 0, 0, 24, []) := rfl
theorem ti_34_24 : (q_I 34).2 24 = some (9, 4, 0, 31, 0, 27, []) := rfl
theorem ti_34_27 : (q_I 34).2 27 = some (2, 0, 1, 0, 0, 28, []) := rfl
theorem ti_34_28 : (q_I 34).2 28 = some (7, 0, 0, 32, 0, 31, []) := rfl
theorem ti_34_31 : (q_I 34).2 31 = some (2, 0, 0, 0, 0, 32, []) := rfl
theorem ti_34_32 : (q_I 34).2 32 = some (4, 3, 0, 0, 0, 33, []) := rfl
theorem mt_34 (p : Int) (a1 : Int) (H : a_P) : a_mt (a_pp H) 0 34 [(2, p), (0, a1)] H (fn_34 p a1 H) := by
  refine a_mtI (lo := [some (2, p), some (0, a1)]) rfl fun d => ?_
  unfold fn_34
  refine a_w0 (Nat.le_succ _) ti_34_0 rfl ?_
  refine a_w0 (Nat.le_succ _) ti_34_1 rfl ?_
  refine a_w1 (a := (0, H p 2)) (Nat.le_succ _) ti_34_2 rfl ?_
  refine a_wjn 32 (fun (s : Int) => [none, none]) (fun (s : Int) => [(0, s)]) (fun (s : Int) => H) (fun s1 => ?_) (fun j32 hj32 => ?_)
  · exact a_w4 (Nat.le_succ _) ti_34_32 rfl rfl rfl
  · refine a_wjn 31 (fun (s : Unit) => [none, none]) (fun (s : Unit) => []) (fun (s : Unit) => H) (fun s2 => ?_) (fun j31 hj31 => ?_)
    · refine a_w2 (z := 0) (Nat.le_succ _) ti_34_31 (by decide) ?_
      exact a_wk (hj32 0) (by omega) trivial
    · refine a_w9_0 (Nat.le_succ _) ti_34_5 ?_ ?_
      · exact a_wk (hj31 ()) (by omega) trivial
      · refine a_w0 (Nat.le_succ _) ti_34_8 rfl ?_
        refine a_w1 (a := (2, (p + 4))) (Nat.le_succ _) ti_34_9 rfl ?_
        refine a_w0 (Nat.le_succ _) ti_34_12 rfl ?_
        refine a_w5 (kk := 0) (Nat.le_succ _) ti_34_13 (fun _ => rfl) ?_
        refine a_w2 (z := 1) (Nat.le_succ _) ti_34_14 (by decide) ?_
        refine a_w9_2 (Nat.le_succ _) ti_34_15 ?_ ?_
        · exact a_wk (hj31 ()) (by omega) trivial
        · refine a_w0 (Nat.le_succ _) ti_34_18 rfl ?_
          refine a_w0 (Nat.le_succ _) ti_34_19 rfl ?_
          refine a_w3p (args := [(2, p), (0, a1)]) (Nat.le_succ _) ti_34_20 (mt_18 p a1 H) rfl rfl rfl rfl ?_
          refine a_w2 (z := 1) (Nat.le_succ _) ti_34_23 (by decide) ?_
          refine a_w9_4 (Nat.le_succ _) ti_34_24 ?_ ?_
          · exact a_wk (hj31 ()) (by omega) trivial
          · refine a_w2 (z := 1) (Nat.le_succ _) ti_34_27 (by decide) ?_
            refine a_w7 (Nat.le_succ _) ti_34_28 ?_
            exact a_wk (hj32 1) (by omega) trivial
/-- CarriedGate.hand(I)I -/
noncomputable def fn_64 (a1 : Int) (H : a_P) : a_F :=
  (if (fn_12 1 a1 H) = 0 then ((-1), H)
  else (if (fn_34 1 a1 H) = 0 then ((-2), H)
  else a_bd (fn_1 13 1 H) fun H1 =>
  a_bd (H1 1 2) fun x1 =>
  a_bd (a_up H1 1 2 a1) fun H2 =>
  a_bd (a_up H2 3 a1 (H2 1 0)) fun H3 =>
  (x1, H3)))
theorem ti_64_0 : (q_I 64).2 0 = some (0, 4, 0, 0, 2, 1, []) := rfl
theorem ti_64_1 : (q_I 64).2 1 = some (1, 0, 10, 5, 0, 4, [231]) := rfl
theorem ti_64_4 : (q_I 64).2 4 = some (0, 0, 0, 1, 0, 5, []) := rfl
theorem ti_64_5 : (q_I 64).2 5 = some (3, 0, 79, 12, 2, 8, [284, 2]) := rfl
theorem ti_64_8 : (q_I 64).2 8 = some (8, 1, 0, 13, 0, 11, []) := rfl
theorem ti_64_11 : (q_I 64).2 11 = some (2, 0, (-1), 0, 0, 12, []) := rfl
theorem ti_64_12 : (q_I 64).2 12 = some (4, 0, 0, 0, 0, 13, []) := rfl
theorem ti_64_13 : (q_I 64).2 13 = some (0, 4, 0, 0, 2, 14, []) := rfl
theorem ti_64_14 : (q_I 64).2 14 = some (1, 0, 10, 5, 0, 17, [231]) := rfl
theorem ti_64_17 : (q_I 64).2 17 = some (0, 0, 0, 1, 0, 18, []) := rfl
theorem ti_64_18 : (q_I 64).2 18 = some (3, 0, 168, 34, 2, 21, [544, 2]) := rfl
theorem ti_64_21 : (q_I 64).2 21 = some (8, 1, 0, 27, 0, 24, []) := rfl
theorem ti_64_24 : (q_I 64).2 24 = some (2, 1, (-2), 0, 0, 26, []) := rfl
theorem ti_64_26 : (q_I 64).2 26 = some (4, 0, 0, 0, 0, 27, []) := rfl
theorem ti_64_27 : (q_I 64).2 27 = some (0, 4, 0, 0, 2, 28, []) := rfl
theorem ti_64_28 : (q_I 64).2 28 = some (1, 0, 22, 5, 2, 31, [233]) := rfl
theorem ti_64_31 : (q_I 64).2 31 = some (0, 4, 0, 0, 2, 32, []) := rfl
theorem ti_64_32 : (q_I 64).2 32 = some (1, 0, 10, 5, 0, 35, [231]) := rfl
theorem ti_64_35 : (q_I 64).2 35 = some (3, 0, 155, 1, 2, 38, [494, 0]) := rfl
theorem ti_64_38 : (q_I 64).2 38 = some (0, 4, 0, 0, 2, 39, []) := rfl
theorem ti_64_39 : (q_I 64).2 39 = some (1, 0, 10, 5, 0, 42, [231]) := rfl
theorem ti_64_42 : (q_I 64).2 42 = some (1, 0, 136, 2, 2, 45, [91]) := rfl
theorem ti_64_45 : (q_I 64).2 45 = some (11, 0, 0, 2, 0, 46, []) := rfl
theorem ti_64_46 : (q_I 64).2 46 = some (0, 4, 0, 0, 2, 47, []) := rfl
theorem ti_64_47 : (q_I 64).2 47 = some (1, 0, 10, 5, 0, 50, [231]) := rfl
theorem ti_64_50 : (q_I 64).2 50 = some (0, 0, 0, 1, 0, 51, []) := rfl
theorem ti_64_51 : (q_I 64).2 51 = some (10, 0, 136, 2, 2, 54, [91]) := rfl
theorem ti_64_54 : (q_I 64).2 54 = some (0, 4, 0, 0, 2, 55, []) := rfl
theorem ti_64_55 : (q_I 64).2 55 = some (1, 0, 10, 5, 0, 58, [231]) := rfl
theorem ti_64_58 : (q_I 64).2 58 = some (1, 0, 86, 2, 8, 61, [106]) := rfl
theorem ti_64_61 : (q_I 64).2 61 = some (0, 0, 0, 1, 0, 62, []) := rfl
theorem ti_64_62 : (q_I 64).2 62 = some (0, 4, 0, 0, 2, 63, []) := rfl
theorem ti_64_63 : (q_I 64).2 63 = some (1, 0, 10, 5, 0, 66, [231]) := rfl
theorem ti_64_66 : (q_I 64).2 66 = some (1, 0, 130, 2, 0, 69, [85]) := rfl
theorem ti_64_69 : (q_I 64).2 69 = some (12, 10, 0, 0, 0, 70, []) := rfl
theorem ti_64_70 : (q_I 64).2 70 = some (0, 0, 0, 2, 0, 71, []) := rfl
theorem ti_64_71 : (q_I 64).2 71 = some (4, 0, 0, 0, 0, 72, []) := rfl
theorem mt_64 (a1 : Int) (H : a_P) : a_mt id 0 64 [(2, 0), (0, a1)] H (fn_64 a1 H) := by
  refine a_mtI (lo := [some (2, 0), some (0, a1), none]) rfl fun d => ?_
  unfold fn_64
  refine a_w0 (Nat.le_succ _) ti_64_0 rfl ?_
  refine a_w1 (a := (2, 1)) (Nat.le_succ _) ti_64_1 rfl ?_
  refine a_w0 (Nat.le_succ _) ti_64_4 rfl ?_
  refine a_w3p (args := [(2, 1), (0, a1)]) (Nat.le_succ _) ti_64_5 (mt_12 1 a1 H) rfl rfl rfl rfl ?_
  refine a_w8_1 (Nat.le_succ _) ti_64_8 ?_ ?_
  · refine a_w0 (Nat.le_succ _) ti_64_13 rfl ?_
    refine a_w1 (a := (2, 1)) (Nat.le_succ _) ti_64_14 rfl ?_
    refine a_w0 (Nat.le_succ _) ti_64_17 rfl ?_
    refine a_w3p (args := [(2, 1), (0, a1)]) (Nat.le_succ _) ti_64_18 (mt_34 1 a1 H) rfl rfl rfl rfl ?_
    refine a_w8_1 (Nat.le_succ _) ti_64_21 ?_ ?_
    · refine a_w0 (Nat.le_succ _) ti_64_27 rfl ?_
      refine a_w1 (a := (2, 13)) (Nat.le_succ _) ti_64_28 rfl ?_
      refine a_w0 (Nat.le_succ _) ti_64_31 rfl ?_
      refine a_w1 (a := (2, 1)) (Nat.le_succ _) ti_64_32 rfl ?_
      refine a_w3v (args := [(2, 13), (2, 1)]) (Nat.le_succ _) ti_64_35 (mt_1 13 1 H) rfl rfl (fun H1 => ?_)
      refine a_w0 (Nat.le_succ _) ti_64_38 rfl ?_
      refine a_w1 (a := (2, 1)) (Nat.le_succ _) ti_64_39 rfl ?_
      refine a_w1 (a := (0, H1 1 2)) (Nat.le_succ _) ti_64_42 rfl ?_
      refine a_w11b (lof := fun x1 => [some (2, 0), some (0, a1), some (0, x1)]) (Nat.le_succ _) ti_64_45 (fun _ => rfl) (fun x1 => ?_)
      refine a_w0 (Nat.le_succ _) ti_64_46 rfl ?_
      refine a_w1 (a := (2, 1)) (Nat.le_succ _) ti_64_47 rfl ?_
      refine a_w0 (Nat.le_succ _) ti_64_50 rfl ?_
      refine a_w10 (Nat.le_succ _) ti_64_51 rfl rfl rfl (fun H2 => ?_)
      refine a_w0 (Nat.le_succ _) ti_64_54 rfl ?_
      refine a_w1 (a := (2, 1)) (Nat.le_succ _) ti_64_55 rfl ?_
      refine a_w1 (a := (2, 3)) (Nat.le_succ _) ti_64_58 rfl ?_
      refine a_w0 (Nat.le_succ _) ti_64_61 rfl ?_
      refine a_w0 (Nat.le_succ _) ti_64_62 rfl ?_
      refine a_w1 (a := (2, 1)) (Nat.le_succ _) ti_64_63 rfl ?_
      refine a_w1 (a := (0, H2 1 0)) (Nat.le_succ _) ti_64_66 rfl ?_
      refine a_w12 (Nat.le_succ _) ti_64_69 (Or.inl ⟨rfl, rfl⟩) (fun H3 => ?_)
      refine a_w0 (Nat.le_succ _) ti_64_70 rfl ?_
      exact a_w4 (Nat.le_succ _) ti_64_71 rfl rfl rfl
    · refine a_w2 (z := (-2)) (Nat.le_succ _) ti_64_24 (by decide) ?_
      exact a_w4 (Nat.le_succ _) ti_64_26 rfl rfl rfl
  · refine a_w2 (z := (-1)) (Nat.le_succ _) ti_64_11 (by decide) ?_
    exact a_w4 (Nat.le_succ _) ti_64_12 rfl rfl rfl
/-- CarriedGate.lay()I -/
noncomputable def fn_65 (H : a_P) : a_F :=
  (if (fn_14 1 H) = 0 then ((-2), H)
  else a_bd (fn_1 13 1 H) fun H1 =>
  a_bd (H1 1 2) fun x1 =>
  a_bd (a_up H1 1 2 (-4)) fun H2 =>
  (x1, H2))
theorem ti_65_0 : (q_I 65).2 0 = some (0, 4, 0, 0, 2, 1, []) := rfl
theorem ti_65_1 : (q_I 65).2 1 = some (1, 0, 10, 5, 0, 4, [231]) := rfl
theorem ti_65_4 : (q_I 65).2 4 = some (3, 0, 171, 14, 1, 7, [553, 2]) := rfl
theorem ti_65_7 : (q_I 65).2 7 = some (8, 1, 0, 13, 0, 10, []) := rfl
theorem ti_65_10 : (q_I 65).2 10 = some (2, 1, (-2), 0, 0, 12, []) := rfl
theorem ti_65_12 : (q_I 65).2 12 = some (4, 0, 0, 0, 0, 13, []) := rfl
theorem ti_65_13 : (q_I 65).2 13 = some (0, 4, 0, 0, 2, 14, []) := rfl
theorem ti_65_14 : (q_I 65).2 14 = some (1, 0, 22, 5, 2, 17, [233]) := rfl
theorem ti_65_17 : (q_I 65).2 17 = some (0, 4, 0, 0, 2, 18, []) := rfl
theorem ti_65_18 : (q_I 65).2 18 = some (1, 0, 10, 5, 0, 21, [231]) := rfl
theorem ti_65_21 : (q_I 65).2 21 = some (3, 0, 155, 1, 2, 24, [494, 0]) := rfl
theorem ti_65_24 : (q_I 65).2 24 = some (0, 4, 0, 0, 2, 25, []) := rfl
theorem ti_65_25 : (q_I 65).2 25 = some (1, 0, 10, 5, 0, 28, [231]) := rfl
theorem ti_65_28 : (q_I 65).2 28 = some (1, 0, 136, 2, 2, 31, [91]) := rfl
theorem ti_65_31 : (q_I 65).2 31 = some (11, 0, 0, 1, 0, 32, []) := rfl
theorem ti_65_32 : (q_I 65).2 32 = some (0, 4, 0, 0, 2, 33, []) := rfl
theorem ti_65_33 : (q_I 65).2 33 = some (1, 0, 10, 5, 0, 36, [231]) := rfl
theorem ti_65_36 : (q_I 65).2 36 = some (2, 1, (-4), 0, 0, 38, []) := rfl
theorem ti_65_38 : (q_I 65).2 38 = some (10, 0, 136, 2, 2, 41, [91]) := rfl
theorem ti_65_41 : (q_I 65).2 41 = some (0, 0, 0, 1, 0, 42, []) := rfl
theorem ti_65_42 : (q_I 65).2 42 = some (4, 0, 0, 0, 0, 43, []) := rfl
theorem mt_65 (H : a_P) : a_mt id 0 65 [(2, 0)] H (fn_65 H) := by
  refine a_mtI (lo := [some (2, 0), none]) rfl fun d => ?_
  unfold fn_65
  refine a_w0 (Nat.le_succ _) ti_65_0 rfl ?_
  refine a_w1 (a := (2, 1)) (Nat.le_succ _) ti_65_1 rfl ?_
  refine a_w3p (args := [(2, 1)]) (Nat.le_succ _) ti_65_4 (mt_14 1 H) rfl rfl rfl rfl ?_
  refine a_w8_1 (Nat.le_succ _) ti_65_7 ?_ ?_
  · refine a_w0 (Nat.le_succ _) ti_65_13 rfl ?_
    refine a_w1 (a := (2, 13)) (Nat.le_succ _) ti_65_14 rfl ?_
    refine a_w0 (Nat.le_succ _) ti_65_17 rfl ?_
    refine a_w1 (a := (2, 1)) (Nat.le_succ _) ti_65_18 rfl ?_
    refine a_w3v (args := [(2, 13), (2, 1)]) (Nat.le_succ _) ti_65_21 (mt_1 13 1 H) rfl rfl (fun H1 => ?_)
    refine a_w0 (Nat.le_succ _) ti_65_24 rfl ?_
    refine a_w1 (a := (2, 1)) (Nat.le_succ _) ti_65_25 rfl ?_
    refine a_w1 (a := (0, H1 1 2)) (Nat.le_succ _) ti_65_28 rfl ?_
    refine a_w11b (lof := fun x1 => [some (2, 0), some (0, x1)]) (Nat.le_succ _) ti_65_31 (fun _ => rfl) (fun x1 => ?_)
    refine a_w0 (Nat.le_succ _) ti_65_32 rfl ?_
    refine a_w1 (a := (2, 1)) (Nat.le_succ _) ti_65_33 rfl ?_
    refine a_w2 (z := (-4)) (Nat.le_succ _) ti_65_36 (by decide) ?_
    refine a_w10 (Nat.le_succ _) ti_65_38 rfl rfl rfl (fun H2 => ?_)
    refine a_w0 (Nat.le_succ _) ti_65_41 rfl ?_
    exact a_w4 (Nat.le_succ _) ti_65_42 rfl rfl rfl
  · refine a_w2 (z := (-2)) (Nat.le_succ _) ti_65_10 (by decide) ?_
    exact a_w4 (Nat.le_succ _) ti_65_12 rfl rfl rfl
/-- CarriedGate.send(II)I -/
noncomputable def fn_66 (a1 : Int) (a2 : Int) (H : a_P) : a_F :=
  a_jn (fun (s1 : Unit) => ((-1), H)) fun j19 =>
  (if (fn_12 1 a1 H) = 0 then j19 ()
  else (if (fn_91 a2 5) = 0 then j19 ()
  else a_bd (H 4 a1) fun x1 =>
  (if x1 = a2 then ((-2), H)
  else a_bd (fn_1 13 1 H) fun H1 =>
  a_bd (a_up H1 4 a1 a2) fun H2 =>
  (x1, H2))))
theorem ti_66_0 : (q_I 66).2 0 = some (0, 4, 0, 0, 2, 1, []) := rfl
theorem ti_66_1 : (q_I 66).2 1 = some (1, 0, 10, 5, 0, 4, [231]) := rfl
theorem ti_66_4 : (q_I 66).2 4 = some (0, 0, 0, 1, 0, 5, []) := rfl
theorem ti_66_5 : (q_I 66).2 5 = some (3, 0, 79, 12, 2, 8, [284, 2]) := rfl
theorem ti_66_8 : (q_I 66).2 8 = some (8, 0, 0, 19, 0, 11, []) := rfl
theorem ti_66_11 : (q_I 66).2 11 = some (0, 0, 0, 2, 0, 12, []) := rfl
theorem ti_66_12 : (q_I 66).2 12 = some (2, 0, 5, 0, 0, 13, []) := rfl
theorem ti_66_13 : (q_I 66).2 13 = some (3, 1, 64, 91, 2, 16, [269, 5]) := rfl
theorem ti_66_16 : (q_I 66).2 16 = some (8, 1, 0, 21, 0, 19, []) := rfl
theorem ti_66_21 : (q_I 66).2 21 = some (0, 4, 0, 0, 2, 22, []) := rfl
theorem ti_66_22 : (q_I 66).2 22 = some (1, 0, 10, 5, 0, 25, [231]) := rfl
theorem ti_66_25 : (q_I 66).2 25 = some (1, 0, 89, 2, 9, 28, [108]) := rfl
theorem ti_66_28 : (q_I 66).2 28 = some (0, 0, 0, 1, 0, 29, []) := rfl
theorem ti_66_29 : (q_I 66).2 29 = some (5, 10, 0, 0, 0, 30, []) := rfl
theorem ti_66_30 : (q_I 66).2 30 = some (11, 0, 0, 3, 0, 31, []) := rfl
theorem ti_66_31 : (q_I 66).2 31 = some (0, 0, 0, 3, 0, 32, []) := rfl
theorem ti_66_32 : (q_I 66).2 32 = some (0, 0, 0, 2, 0, 33, []) := rfl
theorem ti_66_33 : (q_I 66).2 33 = some (9, 1, 0, 39, 0, 36, []) := rfl
theorem ti_66_36 : (q_I 66).2 36 = some (2, 1, (-2), 0, 0, 38, []) := rfl
theorem ti_66_38 : (q_I 66).2 38 = some (4, 0, 0, 0, 0, 39, []) := rfl
theorem ti_66_39 : (q_I 66).2 39 = some (0, 4, 0, 0, 2, 40, []) := rfl
theorem ti_66_40 : (q_I 66).2 40 = some (1, 0, 22, 5, 2, 43, [233]) := rfl
theorem ti_66_43 : (q_I 66).2 43 = some (0, 4, 0, 0, 2, 44, []) := rfl
theorem ti_66_44 : (q_I 66).2 44 = some (1, 0, 10, 5, 0, 47, [231]) := rfl
theorem ti_66_47 : (q_I 66).2 47 = some (3, 0, 155, 1, 2, 50, [494, 0]) := rfl
theorem ti_66_50 : (q_I 66).2 50 = some (0, 4, 0, 0, 2, 51, []) := rfl
theorem ti_66_51 : (q_I 66).2 51 = some (1, 0, 10, 5, 0, 54, [231]) := rfl
theorem ti_66_54 : (q_I 66).2 54 = some (1, 0, 89, 2, 9, 57, [108]) := rfl
theorem ti_66_57 : (q_I 66).2 57 = some (0, 0, 0, 1, 0, 58, []) := rfl
theorem ti_66_58 : (q_I 66).2 58 = some (0, 0, 0, 2, 0, 59, []) := rfl
theorem ti_66_59 : (q_I 66).2 59 = some (12, 10, 0, 0, 0, 60, []) := rfl
theorem ti_66_60 : (q_I 66).2 60 = some (0, 0, 0, 3, 0, 61, []) := rfl
theorem ti_66_61 : (q_I 66).2 61 = some (4, 0, 0, 0, 0, 62, []) := rfl
theorem ti_66_19 : (q_I 66).2 19 = some (2, 0, (-1), 0, 0, 20, []) := rfl
theorem ti_66_20 : (q_I 66).2 20 = some (4, 0, 0, 0, 0, 21, []) := rfl
theorem mt_66 (a1 : Int) (a2 : Int) (H : a_P) : a_mt id 0 66 [(2, 0), (0, a1), (0, a2)] H (fn_66 a1 a2 H) := by
  refine a_mtI (lo := [some (2, 0), some (0, a1), some (0, a2), none]) rfl fun d => ?_
  unfold fn_66
  refine a_w0 (Nat.le_succ _) ti_66_0 rfl ?_
  refine a_w1 (a := (2, 1)) (Nat.le_succ _) ti_66_1 rfl ?_
  refine a_w0 (Nat.le_succ _) ti_66_4 rfl ?_
  refine a_w3p (args := [(2, 1), (0, a1)]) (Nat.le_succ _) ti_66_5 (mt_12 1 a1 H) rfl rfl rfl rfl ?_
  refine a_wjn 19 (fun (s : Unit) => [none, none, none, none]) (fun (s : Unit) => []) (fun (s : Unit) => H) (fun s1 => ?_) (fun j19 hj19 => ?_)
  · refine a_w2 (z := (-1)) (Nat.le_succ _) ti_66_19 (by decide) ?_
    exact a_w4 (Nat.le_succ _) ti_66_20 rfl rfl rfl
  · refine a_w8_0 (Nat.le_succ _) ti_66_8 ?_ ?_
    · exact a_wk (hj19 ()) (by omega) trivial
    · refine a_w0 (Nat.le_succ _) ti_66_11 rfl ?_
      refine a_w2 (z := 5) (Nat.le_succ _) ti_66_12 (by decide) ?_
      refine a_w3p (args := [(0, a2), (0, 5)]) (Nat.le_succ _) ti_66_13 (mt_91 a2 5 H) rfl rfl rfl rfl ?_
      refine a_w8_1 (Nat.le_succ _) ti_66_16 ?_ ?_
      · refine a_w0 (Nat.le_succ _) ti_66_21 rfl ?_
        refine a_w1 (a := (2, 1)) (Nat.le_succ _) ti_66_22 rfl ?_
        refine a_w1 (a := (2, 4)) (Nat.le_succ _) ti_66_25 rfl ?_
        refine a_w0 (Nat.le_succ _) ti_66_28 rfl ?_
        refine a_w5 (kk := 0) (Nat.le_succ _) ti_66_29 (fun _ => rfl) ?_
        refine a_w11b (lof := fun x1 => [some (2, 0), some (0, a1), some (0, a2), some (0, x1)]) (Nat.le_succ _) ti_66_30 (fun _ => rfl) (fun x1 => ?_)
        refine a_w0 (Nat.le_succ _) ti_66_31 rfl ?_
        refine a_w0 (Nat.le_succ _) ti_66_32 rfl ?_
        refine a_w9_1 (Nat.le_succ _) ti_66_33 ?_ ?_
        · refine a_w0 (Nat.le_succ _) ti_66_39 rfl ?_
          refine a_w1 (a := (2, 13)) (Nat.le_succ _) ti_66_40 rfl ?_
          refine a_w0 (Nat.le_succ _) ti_66_43 rfl ?_
          refine a_w1 (a := (2, 1)) (Nat.le_succ _) ti_66_44 rfl ?_
          refine a_w3v (args := [(2, 13), (2, 1)]) (Nat.le_succ _) ti_66_47 (mt_1 13 1 H) rfl rfl (fun H1 => ?_)
          refine a_w0 (Nat.le_succ _) ti_66_50 rfl ?_
          refine a_w1 (a := (2, 1)) (Nat.le_succ _) ti_66_51 rfl ?_
          refine a_w1 (a := (2, 4)) (Nat.le_succ _) ti_66_54 rfl ?_
          refine a_w0 (Nat.le_succ _) ti_66_57 rfl ?_
          refine a_w0 (Nat.le_succ _) ti_66_58 rfl ?_
          refine a_w12 (Nat.le_succ _) ti_66_59 (Or.inl ⟨rfl, rfl⟩) (fun H2 => ?_)
          refine a_w0 (Nat.le_succ _) ti_66_60 rfl ?_
          exact a_w4 (Nat.le_succ _) ti_66_61 rfl rfl rfl
        · refine a_w2 (z := (-2)) (Nat.le_succ _) ti_66_36 (by decide) ?_
          exact a_w4 (Nat.le_succ _) ti_66_38 rfl rfl rfl
      · exact a_wk (hj19 ()) (by omega) trivial

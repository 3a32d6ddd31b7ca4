/-- CarriedGate$Sheet.putItem(IJ)V -/
noncomputable def fn_39 (p : Int) (a1 : Int) (a2 : Int) (H : a_P) : a_P :=
  a_jn (fun (s1 : a_P) => s1) fun j20 =>
  (if (fn_38 p a1 1 H) = 0 then j20 H
  else a_bd (a_up H (p + 1) a1 (fn_41 p a2 H)) fun H1 =>
  j20 H1)
theorem ti_39_0 : (q_I 39).2 0 = some (0, 4, 0, 0, 2, 1, []) := rfl
theorem ti_39_1 : (q_I 39).2 1 = some (0, 0, 0, 1, 0, 2, []) := rfl
theorem ti_39_2 : (q_I 39).2 2 = some (2, 0, 1, 0, 0, 3, []) := rfl
theorem ti_39_3 : (q_I 39).2 3 = some (3, 0, 26, 38, 3, 6, [744, 3]) := rfl
theorem ti_39_6 : (q_I 39).2 6 = some (8, 0, 0, 20, 0, 9, []) := rfl
theorem ti_39_9 : (q_I 39).2 9 = some (0, 4, 0, 0, 2, 10, []) := rfl
theorem ti_39_10 : (q_I 39).2 10 = some (1, 0, 22, 3, 3, 13, [219]) := rfl
theorem ti_39_13 : (q_I 39).2 13 = some (0, 0, 0, 1, 0, 14, []) := rfl
theorem ti_39_14 : (q_I 39).2 14 = some (0, 4, 0, 0, 2, 15, []) := rfl
theorem ti_39_15 : (q_I 39).2 15 = some (0, 2, 0, 2, 1, 16, []) := rfl
theorem ti_39_16 : (q_I 39).2 16 = some (3, 0, 30, 41, 2, 19, [756, 3]) := rfl
theorem ti_39_19 : (q_I 39).2 19 = some (12, 11, 0, 0, 0, 20, []) := rfl
theorem ti_39_20 : (q_I 39).2 20 = some (4, 4, 0, 0, 0, 21, []) := rfl
theorem mt_39 (p : Int) (a1 : Int) (a2 : Int) (H : a_P) : a_mt a_pv 9 39 [(2, p), (0, a1), (1, a2)] H (fn_39 p a1 a2 H) := by
  refine a_mtI (lo := [some (2, p), some (0, a1), some (1, a2), none]) rfl fun d => ?_
  unfold fn_39
  refine a_w0 (Nat.le_succ _) ti_39_0 rfl ?_
  refine a_w0 (Nat.le_succ _) ti_39_1 rfl ?_
  refine a_w2 (z := 1) (Nat.le_succ _) ti_39_2 (by decide) ?_
  refine a_w3p (args := [(2, p), (0, a1), (0, 1)]) (Nat.le_succ _) ti_39_3 (mt_38 p a1 1 H) rfl rfl rfl rfl ?_
  refine a_wjn 20 (fun (s : a_P) => [none, none, none, none]) (fun (s : a_P) => []) (fun (s : a_P) => s) (fun s1 => ?_) (fun j20 hj20 => ?_)
  · exact a_w4v (Nat.le_succ _) ti_39_20 rfl rfl
  · refine a_w8_0 (Nat.le_succ _) ti_39_6 ?_ ?_
    · exact a_wk (hj20 H) (by omega) trivial
    · refine a_w0 (Nat.le_succ _) ti_39_9 rfl ?_
      refine a_w1 (a := (2, (p + 1))) (Nat.le_succ _) ti_39_10 rfl ?_
      refine a_w0 (Nat.le_succ _) ti_39_13 rfl ?_
      refine a_w0 (Nat.le_succ _) ti_39_14 rfl ?_
      refine a_w0 (Nat.le_succ _) ti_39_15 rfl ?_
      refine a_w3p (args := [(2, p), (1, a2)]) (Nat.le_succ _) ti_39_16 (mt_41 p a2 H) rfl rfl rfl rfl ?_
      refine a_w12 (Nat.le_succ _) ti_39_19 (Or.inr ⟨rfl, rfl⟩) (fun H1 => ?_)
      exact a_wk (hj20 H1) (by omega) trivial
/-- CarriedGate.film(IIII)I -/
noncomputable def fn_86 (a1 : Int) (a2 : Int) (a3 : Int) (a4 : Int) (H : a_P) : a_F :=
  a_jn (fun (s1 : Unit) => ((-1), H)) fun j27 =>
  (if a1 < 1 then j27 ()
  else (if 24 < a1 then j27 ()
  else (if (fn_91 a2 4) = 0 then j27 ()
  else (if (fn_91 a3 4) = 0 then j27 ()
  else a_bd (fn_37 (121 + (4 + 2 * a2)) a3 a4 a1 H) fun x1 =>
  (if x1 = 0 then a_bd (fn_10 7 1 H) fun H1 =>
  a_lp (fun (s2 : Int × a_P) => (0, s2.2)) (fun (s2 : Int × a_P) n66 => (if s2.1 < a1 then a_bd (fn_27 7 s2.2) fun H2 =>
  a_bd (fn_39 (121 + (4 + 2 * a2)) (a_w (a4 + s2.1)) (fn_23 7 H2) H2) fun H3 =>
  a_bd (a_w (s2.1 + 1)) fun x2 =>
  n66 (x2, H3)
  else (a1, s2.2))) a_fuel (0, H1)
  else (x1, H))))))
theorem ti_86_0 : (q_I 86).2 0 = some (0, 0, 0, 1, 0, 1, []) := rfl
theorem ti_86_1 : (q_I 86).2 1 = some (2, 0, 1, 0, 0, 2, []) := rfl
theorem ti_86_2 : (q_I 86).2 2 = some (9, 2, 0, 27, 0, 5, []) := rfl
theorem ti_86_5 : (q_I 86).2 5 = some (0, 0, 0, 1, 0, 6, []) := rfl
theorem ti_86_6 : (q_I 86).2 6 = some (2, 1, 24, 0, 0, 8, []) := rfl
theorem ti_86_8 : (q_I 86).2 8 = some (9, 4, 0, 27, 0, 11, []) := rfl
theorem ti_86_11 : (q_I 86).2 11 = some (0, 0, 0, 2, 0, 12, []) := rfl
theorem ti_86_12 : (q_I 86).2 12 = some (2, 0, 4, 0, 0, 13, []) := rfl
theorem ti_86_13 : (q_I 86).2 13 = some (3, 1, 64, 91, 2, 16, [269, 5]) := rfl
theorem ti_86_16 : (q_I 86).2 16 = some (8, 0, 0, 27, 0, 19, []) := rfl
theorem ti_86_19 : (q_I 86).2 19 = some (0, 0, 0, 3, 0, 20, []) := rfl
theorem ti_86_20 : (q_I 86).2 20 = some (2, 0, 4, 0, 0, 21, []) := rfl
theorem ti_86_21 : (q_I 86).2 21 = some (3, 1, 64, 91, 2, 24, [269, 5]) := rfl
theorem ti_86_24 : (q_I 86).2 24 = some (8, 1, 0, 29, 0, 27, []) := rfl
theorem ti_86_29 : (q_I 86).2 29 = some (0, 4, 0, 0, 2, 30, []) := rfl
theorem ti_86_30 : (q_I 86).2 30 = some (1, 0, 45, 5, 7, 33, [238]) := rfl
theorem ti_86_33 : (q_I 86).2 33 = some (0, 0, 0, 2, 0, 34, []) := rfl
theorem ti_86_34 : (q_I 86).2 34 = some (5, 14, 0, 0, 0, 35, []) := rfl
theorem ti_86_35 : (q_I 86).2 35 = some (0, 0, 0, 3, 0, 36, []) := rfl
theorem ti_86_36 : (q_I 86).2 36 = some (0, 1, 0, 4, 0, 38, []) := rfl
theorem ti_86_38 : (q_I 86).2 38 = some (0, 0, 0, 1, 0, 39, []) := rfl
theorem ti_86_39 : (q_I 86).2 39 = some (3, 0, 248, 37, 4, 42, [740, 3]) := rfl
theorem ti_86_42 : (q_I 86).2 42 = some (11, 1, 0, 5, 0, 44, []) := rfl
theorem ti_86_44 : (q_I 86).2 44 = some (0, 1, 0, 5, 0, 46, []) := rfl
theorem ti_86_46 : (q_I 86).2 46 = some (8, 0, 0, 52, 0, 49, []) := rfl
theorem ti_86_49 : (q_I 86).2 49 = some (0, 1, 0, 5, 0, 51, []) := rfl
theorem ti_86_51 : (q_I 86).2 51 = some (4, 0, 0, 0, 0, 52, []) := rfl
theorem ti_86_52 : (q_I 86).2 52 = some (0, 4, 0, 0, 2, 53, []) := rfl
theorem ti_86_53 : (q_I 86).2 53 = some (1, 0, 16, 5, 1, 56, [232]) := rfl
theorem ti_86_56 : (q_I 86).2 56 = some (0, 4, 0, 0, 2, 57, []) := rfl
theorem ti_86_57 : (q_I 86).2 57 = some (1, 0, 10, 5, 0, 60, [231]) := rfl
theorem ti_86_60 : (q_I 86).2 60 = some (3, 0, 126, 10, 2, 63, [466, 2]) := rfl
theorem ti_86_63 : (q_I 86).2 63 = some (2, 0, 0, 0, 0, 64, []) := rfl
theorem ti_86_64 : (q_I 86).2 64 = some (11, 1, 0, 6, 0, 66, []) := rfl
theorem ti_86_66 : (q_I 86).2 66 = some (0, 1, 0, 6, 0, 68, []) := rfl
theorem ti_86_68 : (q_I 86).2 68 = some (0, 0, 0, 1, 0, 69, []) := rfl
theorem ti_86_69 : (q_I 86).2 69 = some (9, 3, 0, 107, 0, 72, []) := rfl
theorem ti_86_72 : (q_I 86).2 72 = some (0, 4, 0, 0, 2, 73, []) := rfl
theorem ti_86_73 : (q_I 86).2 73 = some (1, 0, 16, 5, 1, 76, [232]) := rfl
theorem ti_86_76 : (q_I 86).2 76 = some (3, 0, 158, 27, 1, 79, [499, 2]) := rfl
theorem ti_86_79 : (q_I 86).2 79 = some (0, 4, 0, 0, 2, 80, []) := rfl
theorem ti_86_80 : (q_I 86).2 80 = some (1, 0, 45, 5, 7, 83, [238]) := rfl
theorem ti_86_83 : (q_I 86).2 83 = some (0, 0, 0, 2, 0, 84, []) := rfl
theorem ti_86_84 : (q_I 86).2 84 = some (5, 14, 0, 0, 0, 85, []) := rfl
theorem ti_86_85 : (q_I 86).2 85 = some (0, 1, 0, 4, 0, 87, []) := rfl
theorem ti_86_87 : (q_I 86).2 87 = some (0, 1, 0, 6, 0, 89, []) := rfl
theorem ti_86_89 : (q_I 86).2 89 = some (6, 0, 0, 0, 0, 90, []) := rfl
theorem ti_86_90 : (q_I 86).2 90 = some (0, 4, 0, 0, 2, 91, []) := rfl
theorem ti_86_91 : (q_I 86).2 91 = some (1, 0, 16, 5, 1, 94, [232]) := rfl
theorem ti_86_94 : (q_I 86).2 94 = some (3, 0, 145, 23, 1, 97, [478, 2]) := rfl
theorem ti_86_97 : (q_I 86).2 97 = some (14, 4, 0, 0, 0, 98, []) := rfl
theorem ti_86_98 : (q_I 86).2 98 = some (3, 0, 255, 39, 3, 101, [764, 3]) := rfl
theorem ti_86_101 : (q_I 86).2 101 = some (13, 0, 1, 6, 0, 104, []) := rfl
theorem ti_86_104 : (q_I 86).2 104 = some (7, 0, 0, 66, 0, 107, []) := rfl
theorem ti_86_107 : (q_I 86).2 107 = some (0, 0, 0, 1, 0, 108, []) := rfl
theorem ti_86_108 : (q_I 86).2 108 = some (4, 0, 0, 0, 0, 109, []) := rfl
theorem ti_86_27 : (q_I 86).2 27 = some (2, 0, (-1), 0, 0, 28, []) := rfl
theorem ti_86_28 : (q_I 86).2 28 = some (4, 0, 0, 0, 0, 29, []) := rfl
theorem mt_86 (a1 : Int) (a2 : Int) (a3 : Int) (a4 : Int) (H : a_P) : a_mt id 0 86 [(2, 0), (0, a1), (0, a2), (0, a3), (0, a4)] H (fn_86 a1 a2 a3 a4 H) := by
  refine a_mtI (lo := [some (2, 0), some (0, a1), some (0, a2), some (0, a3), some (0, a4), none, none]) rfl fun d => ?_
  unfold fn_86
  refine a_w0 (Nat.le_succ _) ti_86_0 rfl ?_
  refine a_w2 (z := 1) (Nat.le_succ _) ti_86_1 (by decide) ?_
  refine a_wjn 27 (fun (s : Unit) => [none, none, none, none, none, none, none]) (fun (s : Unit) => []) (fun (s : Unit) => H) (fun s1 => ?_) (fun j27 hj27 => ?_)
  · refine a_w2 (z := (-1)) (Nat.le_succ _) ti_86_27 (by decide) ?_
    exact a_w4 (Nat.le_succ _) ti_86_28 rfl rfl rfl
  · refine a_w9_2 (Nat.le_succ _) ti_86_2 ?_ ?_
    · exact a_wk (hj27 ()) (by omega) trivial
    · refine a_w0 (Nat.le_succ _) ti_86_5 rfl ?_
      refine a_w2 (z := 24) (Nat.le_succ _) ti_86_6 (by decide) ?_
      refine a_w9_4 (Nat.le_succ _) ti_86_8 ?_ ?_
      · exact a_wk (hj27 ()) (by omega) trivial
      · refine a_w0 (Nat.le_succ _) ti_86_11 rfl ?_
        refine a_w2 (z := 4) (Nat.le_succ _) ti_86_12 (by decide) ?_
        refine a_w3p (args := [(0, a2), (0, 4)]) (Nat.le_succ _) ti_86_13 (mt_91 a2 4 H) rfl rfl rfl rfl ?_
        refine a_w8_0 (Nat.le_succ _) ti_86_16 ?_ ?_
        · exact a_wk (hj27 ()) (by omega) trivial
        · refine a_w0 (Nat.le_succ _) ti_86_19 rfl ?_
          refine a_w2 (z := 4) (Nat.le_succ _) ti_86_20 (by decide) ?_
          refine a_w3p (args := [(0, a3), (0, 4)]) (Nat.le_succ _) ti_86_21 (mt_91 a3 4 H) rfl rfl rfl rfl ?_
          refine a_w8_1 (Nat.le_succ _) ti_86_24 ?_ ?_
          · refine a_w0 (Nat.le_succ _) ti_86_29 rfl ?_
            refine a_w1 (a := (2, 121)) (Nat.le_succ _) ti_86_30 rfl ?_
            refine a_w0 (Nat.le_succ _) ti_86_33 rfl ?_
            refine a_w5r (Nat.le_succ _) ti_86_34 (fun _ => rfl) ?_
            refine a_w0 (Nat.le_succ _) ti_86_35 rfl ?_
            refine a_w0 (Nat.le_succ _) ti_86_36 rfl ?_
            refine a_w0 (Nat.le_succ _) ti_86_38 rfl ?_
            refine a_w3p (args := [(2, (121 + (4 + 2 * a2))), (0, a3), (0, a4), (0, a1)]) (Nat.le_succ _) ti_86_39 (mt_37 (121 + (4 + 2 * a2)) a3 a4 a1 H) rfl rfl rfl rfl ?_
            refine a_w11b (lof := fun x1 => [some (2, 0), some (0, a1), some (0, a2), some (0, a3), some (0, a4), some (0, x1), none]) (Nat.le_succ _) ti_86_42 (fun _ => rfl) (fun x1 => ?_)
            refine a_w0 (Nat.le_succ _) ti_86_44 rfl ?_
            refine a_w8_0 (Nat.le_succ _) ti_86_46 ?_ ?_
            · refine a_w0 (Nat.le_succ _) ti_86_52 rfl ?_
              refine a_w1 (a := (2, 7)) (Nat.le_succ _) ti_86_53 rfl ?_
              refine a_w0 (Nat.le_succ _) ti_86_56 rfl ?_
              refine a_w1 (a := (2, 1)) (Nat.le_succ _) ti_86_57 rfl ?_
              refine a_w3v (args := [(2, 7), (2, 1)]) (Nat.le_succ _) ti_86_60 (mt_10 7 1 H) rfl rfl (fun H1 => ?_)
              refine a_w2 (z := 0) (Nat.le_succ _) ti_86_63 (by decide) ?_
              refine a_w11 (lo' := [some (2, 0), some (0, a1), some (0, a2), some (0, a3), some (0, a4), some (0, x1), some (0, 0)]) (Nat.le_succ _) ti_86_64 rfl ?_
              refine a_wk (a_wlp (fun (s : Int × a_P) => [some (2, 0), some (0, a1), some (0, a2), none, some (0, a4), none, some (0, s.1)]) (fun (s : Int × a_P) => s.2) (fun N1 hN1 n66 hn66 s2 => ?_) a_fuel (a_fuel_le (by omega)) (0, H1)) (Nat.le_refl _) ⟨rfl, rfl, rfl, rfl, rfl, trivial⟩
              · refine a_w0 (Nat.le_refl _) ti_86_66 rfl ?_
                refine a_w0 (Nat.le_succ _) ti_86_68 rfl ?_
                refine a_w9_3 (Nat.le_succ _) ti_86_69 ?_ ?_
                · refine a_w0 (Nat.le_succ _) ti_86_107 rfl ?_
                  exact a_w4 (Nat.le_succ _) ti_86_108 rfl rfl rfl
                · refine a_w0 (Nat.le_succ _) ti_86_72 rfl ?_
                  refine a_w1 (a := (2, 7)) (Nat.le_succ _) ti_86_73 rfl ?_
                  refine a_w3v (args := [(2, 7)]) (Nat.le_succ _) ti_86_76 (mt_27 7 s2.2) rfl rfl (fun H2 => ?_)
                  refine a_w0 (Nat.le_succ _) ti_86_79 rfl ?_
                  refine a_w1 (a := (2, 121)) (Nat.le_succ _) ti_86_80 rfl ?_
                  refine a_w0 (Nat.le_succ _) ti_86_83 rfl ?_
                  refine a_w5r (Nat.le_succ _) ti_86_84 (fun _ => rfl) ?_
                  refine a_w0 (Nat.le_succ _) ti_86_85 rfl ?_
                  refine a_w0 (Nat.le_succ _) ti_86_87 rfl ?_
                  refine a_w6 (a := (0, a_w (a4 + s2.1))) (Nat.le_succ _) ti_86_89 rfl ?_
                  refine a_w0 (Nat.le_succ _) ti_86_90 rfl ?_
                  refine a_w1 (a := (2, 7)) (Nat.le_succ _) ti_86_91 rfl ?_
                  refine a_w3p (args := [(2, 7)]) (Nat.le_succ _) ti_86_94 (mt_23 7 H2) rfl rfl rfl rfl ?_
                  refine a_w14 (a := (1, (fn_23 7 H2))) (Nat.le_succ _) ti_86_97 rfl ?_
                  refine a_w3v (args := [(2, (121 + (4 + 2 * a2))), (0, a_w (a4 + s2.1)), (1, (fn_23 7 H2))]) (Nat.le_succ _) ti_86_98 (mt_39 (121 + (4 + 2 * a2)) (a_w (a4 + s2.1)) (fn_23 7 H2) H2) rfl rfl (fun H3 => ?_)
                  refine a_w13 (c' := 1) (lof := fun x2 => [some (2, 0), some (0, a1), some (0, a2), none, some (0, a4), none, some (0, x2)]) (Nat.le_succ _) ti_86_101 rfl (by decide) rfl (fun _ => rfl) (fun x2 => ?_)
                  refine a_w7 (Nat.le_succ _) ti_86_104 ?_
                  exact a_wk (hn66 (x2, H3)) (by omega) ⟨rfl, rfl, rfl, rfl, rfl, trivial⟩
            · refine a_w0 (Nat.le_succ _) ti_86_49 rfl ?_
              exact a_w4 (Nat.le_succ _) ti_86_51 rfl rfl rfl
          · exact a_wk (hj27 ()) (by omega) trivial
/-- CarriedGate$Sheet.becomeNew(II)V -/
noncomputable def fn_36 (p : Int) (a1 : Int) (a2 : Int) (H : a_P) : a_P :=
  a_bd (a_up H p 0 1) fun H1 =>
  a_bd (a_up H1 p 1 a1) fun H2 =>
  a_bd (a_up H2 p 2 a2) fun H3 =>
  a_lp (fun (s1 : Int × a_P) => s1.2) (fun (s1 : Int × a_P) n17 => (if s1.1 < 24 then a_bd (a_up s1.2 (p + 1) s1.1 0) fun H4 =>
  a_bd (a_w (s1.1 + 1)) fun x1 =>
  n17 (x1, H4)
  else s1.2)) a_fuel (0, H3)
theorem ti_36_0 : (q_I 36).2 0 = some (0, 4, 0, 0, 2, 1, []) := rfl
theorem ti_36_1 : (q_I 36).2 1 = some (2, 0, 1, 0, 0, 2, []) := rfl
theorem ti_36_2 : (q_I 36).2 2 = some (10, 3, 9, 3, 0, 5, [213]) := rfl
theorem ti_36_5 : (q_I 36).2 5 = some (0, 4, 0, 0, 2, 6, []) := rfl
theorem ti_36_6 : (q_I 36).2 6 = some (0, 0, 0, 1, 0, 7, []) := rfl
theorem ti_36_7 : (q_I 36).2 7 = some (10, 0, 15, 3, 1, 10, [215]) := rfl
theorem ti_36_10 : (q_I 36).2 10 = some (0, 4, 0, 0, 2, 11, []) := rfl
theorem ti_36_11 : (q_I 36).2 11 = some (0, 0, 0, 2, 0, 12, []) := rfl
theorem ti_36_12 : (q_I 36).2 12 = some (10, 0, 19, 3, 2, 15, [217]) := rfl
theorem ti_36_15 : (q_I 36).2 15 = some (2, 0, 0, 0, 0, 16, []) := rfl
theorem ti_36_16 : (q_I 36).2 16 = some (11, 0, 0, 3, 0, 17, []) := rfl
theorem ti_36_17 : (q_I 36).2 17 = some (0, 0, 0, 3, 0, 18, []) := rfl
theorem ti_36_18 : (q_I 36).2 18 = some (2, 1, 24, 0, 0, 20, []) := rfl
theorem ti_36_20 : (q_I 36).2 20 = some (9, 3, 0, 36, 0, 23, []) := rfl
theorem ti_36_23 : (q_I 36).2 23 = some (0, 4, 0, 0, 2, 24, []) := rfl
theorem ti_36_24 : (q_I 36).2 24 = some (1, 0, 22, 3, 3, 27, [219]) := rfl
theorem ti_36_27 : (q_I 36).2 27 = some (0, 0, 0, 3, 0, 28, []) := rfl
theorem ti_36_28 : (q_I 36).2 28 = some (15, 0, 0, 0, 0, 29, []) := rfl
theorem ti_36_29 : (q_I 36).2 29 = some (12, 11, 0, 0, 0, 30, []) := rfl
theorem ti_36_30 : (q_I 36).2 30 = some (13, 0, 1, 3, 0, 33, []) := rfl
theorem ti_36_33 : (q_I 36).2 33 = some (7, 0, 0, 17, 0, 36, []) := rfl
theorem ti_36_36 : (q_I 36).2 36 = some (4, 4, 0, 0, 0, 37, []) := rfl
theorem mt_36 (p : Int) (a1 : Int) (a2 : Int) (H : a_P) : a_mt a_pv 9 36 [(2, p), (0, a1), (0, a2)] H (fn_36 p a1 a2 H) := by
  refine a_mtI (lo := [some (2, p), some (0, a1), some (0, a2), none]) rfl fun d => ?_
  unfold fn_36
  refine a_w0 (Nat.le_succ _) ti_36_0 rfl ?_
  refine a_w2 (z := 1) (Nat.le_succ _) ti_36_1 (by decide) ?_
  refine a_w10 (Nat.le_succ _) ti_36_2 rfl rfl rfl (fun H1 => ?_)
  refine a_w0 (Nat.le_succ _) ti_36_5 rfl ?_
  refine a_w0 (Nat.le_succ _) ti_36_6 rfl ?_
  refine a_w10 (Nat.le_succ _) ti_36_7 rfl rfl rfl (fun H2 => ?_)
  refine a_w0 (Nat.le_succ _) ti_36_10 rfl ?_
  refine a_w0 (Nat.le_succ _) ti_36_11 rfl ?_
  refine a_w10 (Nat.le_succ _) ti_36_12 rfl rfl rfl (fun H3 => ?_)
  refine a_w2 (z := 0) (Nat.le_succ _) ti_36_15 (by decide) ?_
  refine a_w11 (lo' := [some (2, p), some (0, a1), some (0, a2), some (0, 0)]) (Nat.le_succ _) ti_36_16 rfl ?_
  refine a_wk (a_wlp (fun (s : Int × a_P) => [some (2, p), none, none, some (0, s.1)]) (fun (s : Int × a_P) => s.2) (fun N1 hN1 n17 hn17 s1 => ?_) a_fuel (a_fuel_le (by omega)) (0, H3)) (Nat.le_refl _) ⟨rfl, rfl, trivial⟩
  · refine a_w0 (Nat.le_refl _) ti_36_17 rfl ?_
    refine a_w2 (z := 24) (Nat.le_succ _) ti_36_18 (by decide) ?_
    refine a_w9_3 (Nat.le_succ _) ti_36_20 ?_ ?_
    · exact a_w4v (Nat.le_succ _) ti_36_36 rfl rfl
    · refine a_w0 (Nat.le_succ _) ti_36_23 rfl ?_
      refine a_w1 (a := (2, (p + 1))) (Nat.le_succ _) ti_36_24 rfl ?_
      refine a_w0 (Nat.le_succ _) ti_36_27 rfl ?_
      refine a_w15 (z := 0) (Nat.le_succ _) ti_36_28 (by decide) ?_
      refine a_w12 (Nat.le_succ _) ti_36_29 (Or.inr ⟨rfl, rfl⟩) (fun H4 => ?_)
      refine a_w13 (c' := 1) (lof := fun x1 => [some (2, p), none, none, some (0, x1)]) (Nat.le_succ _) ti_36_30 rfl (by decide) rfl (fun _ => rfl) (fun x1 => ?_)
      refine a_w7 (Nat.le_succ _) ti_36_33 ?_
      exact a_wk (hn17 (x1, H4)) (by omega) ⟨rfl, rfl, trivial⟩
/-- CarriedGate.sheet(III)I -/
noncomputable def fn_87 (a1 : Int) (a2 : Int) (a3 : Int) (H : a_P) : a_F :=
  a_jn (fun (s1 : Unit) => ((-1), H)) fun j22 =>
  (if (fn_91 a1 4) = 0 then j22 ()
  else (if (fn_91 a2 4) = 0 then j22 ()
  else (if 24 < a3 then j22 ()
  else (if a3 < 0 then ((-14), H)
  else a_bd (fn_36 (121 + (4 + 2 * a1)) a2 a3 H) fun H1 =>
  (a3, H1)))))
theorem ti_87_0 : (q_I 87).2 0 = some (0, 0, 0, 1, 0, 1, []) := rfl
theorem ti_87_1 : (q_I 87).2 1 = some (2, 0, 4, 0, 0, 2, []) := rfl
theorem ti_87_2 : (q_I 87).2 2 = some (3, 1, 64, 91, 2, 5, [269, 5]) := rfl
theorem ti_87_5 : (q_I 87).2 5 = some (8, 0, 0, 22, 0, 8, []) := rfl
theorem ti_87_8 : (q_I 87).2 8 = some (0, 0, 0, 2, 0, 9, []) := rfl
theorem ti_87_9 : (q_I 87).2 9 = some (2, 0, 4, 0, 0, 10, []) := rfl
theorem ti_87_10 : (q_I 87).2 10 = some (3, 1, 64, 91, 2, 13, [269, 5]) := rfl
theorem ti_87_13 : (q_I 87).2 13 = some (8, 0, 0, 22, 0, 16, []) := rfl
theorem ti_87_16 : (q_I 87).2 16 = some (0, 0, 0, 3, 0, 17, []) := rfl
theorem ti_87_17 : (q_I 87).2 17 = some (2, 1, 24, 0, 0, 19, []) := rfl
theorem ti_87_19 : (q_I 87).2 19 = some (9, 5, 0, 24, 0, 22, []) := rfl
theorem ti_87_24 : (q_I 87).2 24 = some (0, 0, 0, 3, 0, 25, []) := rfl
theorem ti_87_25 : (q_I 87).2 25 = some (8, 3, 0, 31, 0, 28, []) := rfl
theorem ti_87_28 : (q_I 87).2 28 = some (2, 1, (-14), 0, 0, 30, []) := rfl
theorem ti_87_30 : (q_I 87).2 30 = some (4, 0, 0, 0, 0, 31, []) := rfl
theorem ti_87_31 : (q_I 87).2 31 = some (0, 4, 0, 0, 2, 32, []) := rfl
theorem ti_87_32 : (q_I 87).2 32 = some (1, 0, 45, 5, 7, 35, [238]) := rfl
theorem ti_87_35 : (q_I 87).2 35 = some (0, 0, 0, 1, 0, 36, []) := rfl
theorem ti_87_36 : (q_I 87).2 36 = some (5, 14, 0, 0, 0, 37, []) := rfl
theorem ti_87_37 : (q_I 87).2 37 = some (0, 0, 0, 2, 0, 38, []) := rfl
theorem ti_87_38 : (q_I 87).2 38 = some (0, 0, 0, 3, 0, 39, []) := rfl
theorem ti_87_39 : (q_I 87).2 39 = some (3, 0, 259, 36, 3, 42, [772, 3]) := rfl
theorem ti_87_42 : (q_I 87).2 42 = some (0, 0, 0, 3, 0, 43, []) := rfl
theorem ti_87_43 : (q_I 87).2 43 = some (4, 0, 0, 0, 0, 44, []) := rfl
theorem ti_87_22 : (q_I 87).2 22 = some (2, 0, (-1), 0, 0, 23, []) := rfl
theorem ti_87_23 : (q_I 87).2 23 = some (4, 0, 0, 0, 0, 24, []) := rfl
theorem mt_87 (a1 : Int) (a2 : Int) (a3 : Int) (H : a_P) : a_mt id 0 87 [(2, 0), (0, a1), (0, a2), (0, a3)] H (fn_87 a1 a2 a3 H) := by
  refine a_mtI (lo := [some (2, 0), some (0, a1), some (0, a2), some (0, a3)]) rfl fun d => ?_
  unfold fn_87
  refine a_w0 (Nat.le_succ _) ti_87_0 rfl ?_
  refine a_w2 (z := 4) (Nat.le_succ _) ti_87_1 (by decide) ?_
  refine a_w3p (args := [(0, a1), (0, 4)]) (Nat.le_succ _) ti_87_2 (mt_91 a1 4 H) rfl rfl rfl rfl ?_
  refine a_wjn 22 (fun (s : Unit) => [none, none, none, none]) (fun (s : Unit) => []) (fun (s : Unit) => H) (fun s1 => ?_) (fun j22 hj22 => ?_)
  · refine a_w2 (z := (-1)) (Nat.le_succ _) ti_87_22 (by decide) ?_
    exact a_w4 (Nat.le_succ _) ti_87_23 rfl rfl rfl
  · refine a_w8_0 (Nat.le_succ _) ti_87_5 ?_ ?_
    · exact a_wk (hj22 ()) (by omega) trivial
    · refine a_w0 (Nat.le_succ _) ti_87_8 rfl ?_
      refine a_w2 (z := 4) (Nat.le_succ _) ti_87_9 (by decide) ?_
      refine a_w3p (args := [(0, a2), (0, 4)]) (Nat.le_succ _) ti_87_10 (mt_91 a2 4 H) rfl rfl rfl rfl ?_
      refine a_w8_0 (Nat.le_succ _) ti_87_13 ?_ ?_
      · exact a_wk (hj22 ()) (by omega) trivial
      · refine a_w0 (Nat.le_succ _) ti_87_16 rfl ?_
        refine a_w2 (z := 24) (Nat.le_succ _) ti_87_17 (by decide) ?_
        refine a_w9_5 (Nat.le_succ _) ti_87_19 ?_ ?_
        · refine a_w0 (Nat.le_succ _) ti_87_24 rfl ?_
          refine a_w8_3 (Nat.le_succ _) ti_87_25 ?_ ?_
          · refine a_w0 (Nat.le_succ _) ti_87_31 rfl ?_
            refine a_w1 (a := (2, 121)) (Nat.le_succ _) ti_87_32 rfl ?_
            refine a_w0 (Nat.le_succ _) ti_87_35 rfl ?_
            refine a_w5r (Nat.le_succ _) ti_87_36 (fun _ => rfl) ?_
            refine a_w0 (Nat.le_succ _) ti_87_37 rfl ?_
            refine a_w0 (Nat.le_succ _) ti_87_38 rfl ?_
            refine a_w3v (args := [(2, (121 + (4 + 2 * a1))), (0, a2), (0, a3)]) (Nat.le_succ _) ti_87_39 (mt_36 (121 + (4 + 2 * a1)) a2 a3 H) rfl rfl (fun H1 => ?_)
            refine a_w0 (Nat.le_succ _) ti_87_42 rfl ?_
            exact a_w4 (Nat.le_succ _) ti_87_43 rfl rfl rfl
          · refine a_w2 (z := (-14)) (Nat.le_succ _) ti_87_28 (by decide) ?_
            exact a_w4 (Nat.le_succ _) ti_87_30 rfl rfl rfl
        · exact a_wk (hj22 ()) (by omega) trivial
/-- CarriedGate.drop(I)I -/
noncomputable def fn_88 (a1 : Int) (H : a_P) : a_F :=
  (if (fn_91 a1 4) = 0 then ((-1), H)
  else (if (H (121 + (4 + 2 * a1)) 0) = 0 then ((-11), H)
  else a_bd (a_up H (121 + (4 + 2 * a1)) 0 0) fun H1 =>
  (H1 (121 + (4 + 2 * a1)) 2, H1)))
theorem ti_88_0 : (q_I 88).2 0 = some (0, 0, 0, 1, 0, 1, []) := rfl
theorem ti_88_1 : (q_I 88).2 1 = some (2, 0, 4, 0, 0, 2, []) := rfl
theorem ti_88_2 : (q_I 88).2 2 = some (3, 1, 64, 91, 2, 5, [269, 5]) := rfl
theorem ti_88_5 : (q_I 88).2 5 = some (8, 1, 0, 10, 0, 8, []) := rfl
theorem ti_88_8 : (q_I 88).2 8 = some (2, 0, (-1), 0, 0, 9, []) := rfl
theorem ti_88_9 : (q_I 88).2 9 = some (4, 0, 0, 0, 0, 10, []) := rfl
theorem ti_88_10 : (q_I 88).2 10 = some (0, 4, 0, 0, 2, 11, []) := rfl
theorem ti_88_11 : (q_I 88).2 11 = some (1, 0, 45, 5, 7, 14, [238]) := rfl
theorem ti_88_14 : (q_I 88).2 14 = some (0, 0, 0, 1, 0, 15, []) := rfl
theorem ti_88_15 : (q_I 88).2 15 = some (5, 14, 0, 0, 0, 16, []) := rfl
theorem ti_88_16 : (q_I 88).2 16 = some (1, 0, 263, 3, 0, 19, [214]) := rfl
theorem ti_88_19 : (q_I 88).2 19 = some (8, 1, 0, 25, 0, 22, []) := rfl
theorem ti_88_22 : (q_I 88).2 22 = some (2, 1, (-11), 0, 0, 24, []) := rfl
theorem ti_88_24 : (q_I 88).2 24 = some (4, 0, 0, 0, 0, 25, []) := rfl
theorem ti_88_25 : (q_I 88).2 25 = some (0, 4, 0, 0, 2, 26, []) := rfl
theorem ti_88_26 : (q_I 88).2 26 = some (1, 0, 45, 5, 7, 29, [238]) := rfl
theorem ti_88_29 : (q_I 88).2 29 = some (0, 0, 0, 1, 0, 30, []) := rfl
theorem ti_88_30 : (q_I 88).2 30 = some (5, 14, 0, 0, 0, 31, []) := rfl
theorem ti_88_31 : (q_I 88).2 31 = some (2, 0, 0, 0, 0, 32, []) := rfl
theorem ti_88_32 : (q_I 88).2 32 = some (10, 3, 263, 3, 0, 35, [214]) := rfl
theorem ti_88_35 : (q_I 88).2 35 = some (0, 4, 0, 0, 2, 36, []) := rfl
theorem ti_88_36 : (q_I 88).2 36 = some (1, 0, 45, 5, 7, 39, [238]) := rfl
theorem ti_88_39 : (q_I 88).2 39 = some (0, 0, 0, 1, 0, 40, []) := rfl
theorem ti_88_40 : (q_I 88).2 40 = some (5, 14, 0, 0, 0, 41, []) := rfl
theorem ti_88_41 : (q_I 88).2 41 = some (1, 0, 266, 3, 2, 44, [218]) := rfl
theorem ti_88_44 : (q_I 88).2 44 = some (4, 0, 0, 0, 0, 45, []) := rfl
theorem mt_88 (a1 : Int) (H : a_P) : a_mt id 0 88 [(2, 0), (0, a1)] H (fn_88 a1 H) := by
  refine a_mtI (lo := [some (2, 0), some (0, a1)]) rfl fun d => ?_
  unfold fn_88
  refine a_w0 (Nat.le_succ _) ti_88_0 rfl ?_
  refine a_w2 (z := 4) (Nat.le_succ _) ti_88_1 (by decide) ?_
  refine a_w3p (args := [(0, a1), (0, 4)]) (Nat.le_succ _) ti_88_2 (mt_91 a1 4 H) rfl rfl rfl rfl ?_
  refine a_w8_1 (Nat.le_succ _) ti_88_5 ?_ ?_
  · refine a_w0 (Nat.le_succ _) ti_88_10 rfl ?_
    refine a_w1 (a := (2, 121)) (Nat.le_succ _) ti_88_11 rfl ?_
    refine a_w0 (Nat.le_succ _) ti_88_14 rfl ?_
    refine a_w5r (Nat.le_succ _) ti_88_15 (fun _ => rfl) ?_
    refine a_w1 (a := (0, H (121 + (4 + 2 * a1)) 0)) (Nat.le_succ _) ti_88_16 rfl ?_
    refine a_w8_1 (Nat.le_succ _) ti_88_19 ?_ ?_
    · refine a_w0 (Nat.le_succ _) ti_88_25 rfl ?_
      refine a_w1 (a := (2, 121)) (Nat.le_succ _) ti_88_26 rfl ?_
      refine a_w0 (Nat.le_succ _) ti_88_29 rfl ?_
      refine a_w5r (Nat.le_succ _) ti_88_30 (fun _ => rfl) ?_
      refine a_w2 (z := 0) (Nat.le_succ _) ti_88_31 (by decide) ?_
      refine a_w10 (Nat.le_succ _) ti_88_32 rfl rfl rfl (fun H1 => ?_)
      refine a_w0 (Nat.le_succ _) ti_88_35 rfl ?_
      refine a_w1 (a := (2, 121)) (Nat.le_succ _) ti_88_36 rfl ?_
      refine a_w0 (Nat.le_succ _) ti_88_39 rfl ?_
      refine a_w5r (Nat.le_succ _) ti_88_40 (fun _ => rfl) ?_
      refine a_w1 (a := (0, H1 (121 + (4 + 2 * a1)) 2)) (Nat.le_succ _) ti_88_41 rfl ?_
      exact a_w4 (Nat.le_succ _) ti_88_44 rfl rfl rfl
    · refine a_w2 (z := (-11)) (Nat.le_succ _) ti_88_22 (by decide) ?_
      exact a_w4 (Nat.le_succ _) ti_88_24 rfl rfl rfl
  · refine a_w2 (z := (-1)) (Nat.le_succ _) ti_88_8 (by decide) ?_
    exact a_w4 (Nat.le_succ _) ti_88_9 rfl rfl rfl
/-- CarriedGate.item(IIIJ)I -/
noncomputable def fn_89 (a1 : Int) (a2 : Int) (a3 : Int) (a4 : Int) (H : a_P) : a_F :=
  a_jn (fun (s1 : Unit) => ((-1), H)) fun j16 =>
  (if (fn_91 a1 4) = 0 then j16 ()
  else (if (fn_91 a2 4) = 0 then j16 ()
  else a_bd (fn_37 (121 + (4 + 2 * a1)) a2 a3 1 H) fun x1 =>
  (if x1 = 0 then a_bd (fn_39 (121 + (4 + 2 * a1)) a3 a4 H) fun H1 =>
  (1, H1)
  else (x1, H))))
theorem ti_89_0 : (q_I 89).2 0 = some (0, 0, 0, 1, 0, 1, []) := rfl
theorem ti_89_1 : (q_I 89).2 1 = some (2, 0, 4, 0, 0, 2, []) := rfl
theorem ti_89_2 : (q_I 89).2 2 = some (3, 1, 64, 91, 2, 5, [269, 5]) := rfl
theorem ti_89_5 : (q_I 89).2 5 = some (8, 0, 0, 16, 0, 8, []) := rfl
theorem ti_89_8 : (q_I 89).2 8 = some (0, 0, 0, 2, 0, 9, []) := rfl
theorem ti_89_9 : (q_I 89).2 9 = some (2, 0, 4, 0, 0, 10, []) := rfl
theorem ti_89_10 : (q_I 89).2 10 = some (3, 1, 64, 91, 2, 13, [269, 5]) := rfl
theorem ti_89_13 : (q_I 89).2 13 = some (8, 1, 0, 18, 0, 16, []) := rfl
theorem ti_89_18 : (q_I 89).2 18 = some (0, 4, 0, 0, 2, 19, []) := rfl
theorem ti_89_19 : (q_I 89).2 19 = some (1, 0, 45, 5, 7, 22, [238]) := rfl
theorem ti_89_22 : (q_I 89).2 22 = some (0, 0, 0, 1, 0, 23, []) := rfl
theorem ti_89_23 : (q_I 89).2 23 = some (5, 14, 0, 0, 0, 24, []) := rfl
theorem ti_89_24 : (q_I 89).2 24 = some (0, 0, 0, 2, 0, 25, []) := rfl
theorem ti_89_25 : (q_I 89).2 25 = some (0, 0, 0, 3, 0, 26, []) := rfl
theorem ti_89_26 : (q_I 89).2 26 = some (2, 0, 1, 0, 0, 27, []) := rfl
theorem ti_89_27 : (q_I 89).2 27 = some (3, 0, 248, 37, 4, 30, [740, 3]) := rfl
theorem ti_89_30 : (q_I 89).2 30 = some (11, 1, 0, 6, 0, 32, []) := rfl
theorem ti_89_32 : (q_I 89).2 32 = some (0, 1, 0, 6, 0, 34, []) := rfl
theorem ti_89_34 : (q_I 89).2 34 = some (8, 0, 0, 40, 0, 37, []) := rfl
theorem ti_89_37 : (q_I 89).2 37 = some (0, 1, 0, 6, 0, 39, []) := rfl
theorem ti_89_39 : (q_I 89).2 39 = some (4, 0, 0, 0, 0, 40, []) := rfl
theorem ti_89_40 : (q_I 89).2 40 = some (0, 4, 0, 0, 2, 41, []) := rfl
theorem ti_89_41 : (q_I 89).2 41 = some (1, 0, 45, 5, 7, 44, [238]) := rfl
theorem ti_89_44 : (q_I 89).2 44 = some (0, 0, 0, 1, 0, 45, []) := rfl
theorem ti_89_45 : (q_I 89).2 45 = some (5, 14, 0, 0, 0, 46, []) := rfl
theorem ti_89_46 : (q_I 89).2 46 = some (0, 0, 0, 3, 0, 47, []) := rfl
theorem ti_89_47 : (q_I 89).2 47 = some (0, 3, 0, 4, 1, 49, []) := rfl
theorem ti_89_49 : (q_I 89).2 49 = some (3, 0, 255, 39, 3, 52, [764, 3]) := rfl
theorem ti_89_52 : (q_I 89).2 52 = some (2, 0, 1, 0, 0, 53, []) := rfl
theorem ti_89_53 : (q_I 89).2 53 = some (4, 0, 0, 0, 0, 54, []) := rfl
theorem ti_89_16 : (q_I 89).2 16 = some (2, 0, (-1), 0, 0, 17, []) := rfl
theorem ti_89_17 : (q_I 89).2 17 = some (4, 0, 0, 0, 0, 18, []) := rfl
theorem mt_89 (a1 : Int) (a2 : Int) (a3 : Int) (a4 : Int) (H : a_P) : a_mt id 0 89 [(2, 0), (0, a1), (0, a2), (0, a3), (1, a4)] H (fn_89 a1 a2 a3 a4 H) := by
  refine a_mtI (lo := [some (2, 0), some (0, a1), some (0, a2), some (0, a3), some (1, a4), none, none]) rfl fun d => ?_
  unfold fn_89
  refine a_w0 (Nat.le_succ _) ti_89_0 rfl ?_
  refine a_w2 (z := 4) (Nat.le_succ _) ti_89_1 (by decide) ?_
  refine a_w3p (args := [(0, a1), (0, 4)]) (Nat.le_succ _) ti_89_2 (mt_91 a1 4 H) rfl rfl rfl rfl ?_
  refine a_wjn 16 (fun (s : Unit) => [none, none, none, none, none, none, none]) (fun (s : Unit) => []) (fun (s : Unit) => H) (fun s1 => ?_) (fun j16 hj16 => ?_)
  · refine a_w2 (z := (-1)) (Nat.le_succ _) ti_89_16 (by decide) ?_
    exact a_w4 (Nat.le_succ _) ti_89_17 rfl rfl rfl
  · refine a_w8_0 (Nat.le_succ _) ti_89_5 ?_ ?_
    · exact a_wk (hj16 ()) (by omega) trivial
    · refine a_w0 (Nat.le_succ _) ti_89_8 rfl ?_
      refine a_w2 (z := 4) (Nat.le_succ _) ti_89_9 (by decide) ?_
      refine a_w3p (args := [(0, a2), (0, 4)]) (Nat.le_succ _) ti_89_10 (mt_91 a2 4 H) rfl rfl rfl rfl ?_
      refine a_w8_1 (Nat.le_succ _) ti_89_13 ?_ ?_
      · refine a_w0 (Nat.le_succ _) ti_89_18 rfl ?_
        refine a_w1 (a := (2, 121)) (Nat.le_succ _) ti_89_19 rfl ?_
        refine a_w0 (Nat.le_succ _) ti_89_22 rfl ?_
        refine a_w5r (Nat.le_succ _) ti_89_23 (fun _ => rfl) ?_
        refine a_w0 (Nat.le_succ _) ti_89_24 rfl ?_
        refine a_w0 (Nat.le_succ _) ti_89_25 rfl ?_
        refine a_w2 (z := 1) (Nat.le_succ _) ti_89_26 (by decide) ?_
        refine a_w3p (args := [(2, (121 + (4 + 2 * a1))), (0, a2), (0, a3), (0, 1)]) (Nat.le_succ _) ti_89_27 (mt_37 (121 + (4 + 2 * a1)) a2 a3 1 H) rfl rfl rfl rfl ?_
        refine a_w11b (lof := fun x1 => [some (2, 0), some (0, a1), some (0, a2), some (0, a3), some (1, a4), none, some (0, x1)]) (Nat.le_succ _) ti_89_30 (fun _ => rfl) (fun x1 => ?_)
        refine a_w0 (Nat.le_succ _) ti_89_32 rfl ?_
        refine a_w8_0 (Nat.le_succ _) ti_89_34 ?_ ?_
        · refine a_w0 (Nat.le_succ _) ti_89_40 rfl ?_
          refine a_w1 (a := (2, 121)) (Nat.le_succ _) ti_89_41 rfl ?_
          refine a_w0 (Nat.le_succ _) ti_89_44 rfl ?_
          refine a_w5r (Nat.le_succ _) ti_89_45 (fun _ => rfl) ?_
          refine a_w0 (Nat.le_succ _) ti_89_46 rfl ?_
          refine a_w0 (Nat.le_succ _) ti_89_47 rfl ?_
          refine a_w3v (args := [(2, (121 + (4 + 2 * a1))), (0, a3), (1, a4)]) (Nat.le_succ _) ti_89_49 (mt_39 (121 + (4 + 2 * a1)) a3 a4 H) rfl rfl (fun H1 => ?_)
          refine a_w2 (z := 1) (Nat.le_succ _) ti_89_52 (by decide) ?_
          exact a_w4 (Nat.le_succ _) ti_89_53 rfl rfl rfl
        · refine a_w0 (Nat.le_succ _) ti_89_37 rfl ?_
          exact a_w4 (Nat.le_succ _) ti_89_39 rfl rfl rfl
      · exact a_wk (hj16 ()) (by omega) trivial
/-- CarriedGate.copy(IIIII)I -/
noncomputable def fn_90 (a1 : Int) (a2 : Int) (a3 : Int) (a4 : Int) (a5 : Int) (H : a_P) : a_F :=
  a_jn (fun (s1 : Unit) => ((-1), H)) fun j16 =>
  (if (fn_91 a1 4) = 0 then j16 ()
  else (if (fn_91 a3 4) = 0 then j16 ()
  else a_bd ((121 + (4 + 2 * a1))) fun x1 =>
  a_bd ((121 + (4 + 2 * a3))) fun x2 =>
  a_jn (fun (s2 : Unit) => ((-11), H)) fun j50 =>
  (if (H x1 0) = 0 then j50 ()
  else (if (H x2 0) = 0 then j50 ()
  else (if (H x1 1) = (H x2 1) then a_jn (fun (s3 : Unit) => ((-13), H)) fun j92 =>
  (if (fn_38 x1 a2 a5 H) = 0 then j92 ()
  else (if (fn_38 x2 a4 a5 H) = 0 then j92 ()
  else a_bd (a_cp H (x1 + 1) a2 (x2 + 1) a4 a5) fun H1 =>
  (a5, H1)))
  else ((-12), H))))))
theorem ti_90_0 : (q_I 90).2 0 = some (0, 0, 0, 1, 0, 1, []) := rfl
theorem ti_90_1 : (q_I 90).2 1 = some (2, 0, 4, 0, 0, 2, []) := rfl
theorem ti_90_2 : (q_I 90).2 2 = some (3, 1, 64, 91, 2, 5, [269, 5]) := rfl
theorem ti_90_5 : (q_I 90).2 5 = some (8, 0, 0, 16, 0, 8, []) := rfl
theorem ti_90_8 : (q_I 90).2 8 = some (0, 0, 0, 3, 0, 9, []) := rfl
theorem ti_90_9 : (q_I 90).2 9 = some (2, 0, 4, 0, 0, 10, []) := rfl
theorem ti_90_10 : (q_I 90).2 10 = some (3, 1, 64, 91, 2, 13, [269, 5]) := rfl
theorem ti_90_13 : (q_I 90).2 13 = some (8, 1, 0, 18, 0, 16, []) := rfl
theorem ti_90_18 : (q_I 90).2 18 = some (0, 4, 0, 0, 2, 19, []) := rfl
theorem ti_90_19 : (q_I 90).2 19 = some (1, 0, 45, 5, 7, 22, [238]) := rfl
theorem ti_90_22 : (q_I 90).2 22 = some (0, 0, 0, 1, 0, 23, []) := rfl
theorem ti_90_23 : (q_I 90).2 23 = some (5, 14, 0, 0, 0, 24, []) := rfl
theorem ti_90_24 : (q_I 90).2 24 = some (11, 5, 0, 6, 2, 26, []) := rfl
theorem ti_90_26 : (q_I 90).2 26 = some (0, 4, 0, 0, 2, 27, []) := rfl
theorem ti_90_27 : (q_I 90).2 27 = some (1, 0, 45, 5, 7, 30, [238]) := rfl
theorem ti_90_30 : (q_I 90).2 30 = some (0, 0, 0, 3, 0, 31, []) := rfl
theorem ti_90_31 : (q_I 90).2 31 = some (5, 14, 0, 0, 0, 32, []) := rfl
theorem ti_90_32 : (q_I 90).2 32 = some (11, 5, 0, 7, 2, 34, []) := rfl
theorem ti_90_34 : (q_I 90).2 34 = some (0, 5, 0, 6, 2, 36, []) := rfl
theorem ti_90_36 : (q_I 90).2 36 = some (1, 0, 263, 3, 0, 39, [214]) := rfl
theorem ti_90_39 : (q_I 90).2 39 = some (8, 0, 0, 50, 0, 42, []) := rfl
theorem ti_90_42 : (q_I 90).2 42 = some (0, 5, 0, 7, 2, 44, []) := rfl
theorem ti_90_44 : (q_I 90).2 44 = some (1, 0, 263, 3, 0, 47, [214]) := rfl
theorem ti_90_47 : (q_I 90).2 47 = some (8, 1, 0, 53, 0, 50, []) := rfl
theorem ti_90_53 : (q_I 90).2 53 = some (0, 5, 0, 6, 2, 55, []) := rfl
theorem ti_90_55 : (q_I 90).2 55 = some (1, 0, 267, 3, 1, 58, [216]) := rfl
theorem ti_90_58 : (q_I 90).2 58 = some (0, 5, 0, 7, 2, 60, []) := rfl
theorem ti_90_60 : (q_I 90).2 60 = some (1, 0, 267, 3, 1, 63, [216]) := rfl
theorem ti_90_63 : (q_I 90).2 63 = some (9, 0, 0, 69, 0, 66, []) := rfl
theorem ti_90_66 : (q_I 90).2 66 = some (2, 1, (-12), 0, 0, 68, []) := rfl
theorem ti_90_68 : (q_I 90).2 68 = some (4, 0, 0, 0, 0, 69, []) := rfl
theorem ti_90_69 : (q_I 90).2 69 = some (0, 5, 0, 6, 2, 71, []) := rfl
theorem ti_90_71 : (q_I 90).2 71 = some (0, 0, 0, 2, 0, 72, []) := rfl
theorem ti_90_72 : (q_I 90).2 72 = some (0, 1, 0, 5, 0, 74, []) := rfl
theorem ti_90_74 : (q_I 90).2 74 = some (3, 0, 270, 38, 3, 77, [788, 3]) := rfl
theorem ti_90_77 : (q_I 90).2 77 = some (8, 0, 0, 92, 0, 80, []) := rfl
theorem ti_90_80 : (q_I 90).2 80 = some (0, 5, 0, 7, 2, 82, []) := rfl
theorem ti_90_82 : (q_I 90).2 82 = some (0, 1, 0, 4, 0, 84, []) := rfl
theorem ti_90_84 : (q_I 90).2 84 = some (0, 1, 0, 5, 0, 86, []) := rfl
theorem ti_90_86 : (q_I 90).2 86 = some (3, 0, 270, 38, 3, 89, [788, 3]) := rfl
theorem ti_90_89 : (q_I 90).2 89 = some (8, 1, 0, 95, 0, 92, []) := rfl
theorem ti_90_95 : (q_I 90).2 95 = some (0, 5, 0, 6, 2, 97, []) := rfl
theorem ti_90_97 : (q_I 90).2 97 = some (1, 0, 273, 3, 3, 100, [220]) := rfl
theorem ti_90_100 : (q_I 90).2 100 = some (0, 0, 0, 2, 0, 101, []) := rfl
theorem ti_90_101 : (q_I 90).2 101 = some (0, 5, 0, 7, 2, 103, []) := rfl
theorem ti_90_103 : (q_I 90).2 103 = some (1, 0, 273, 3, 3, 106, [220]) := rfl
theorem ti_90_106 : (q_I 90).2 106 = some (0, 1, 0, 4, 0, 108, []) := rfl
theorem ti_90_108 : (q_I 90).2 108 = some (0, 1, 0, 5, 0, 110, []) := rfl
theorem ti_90_110 : (q_I 90).2 110 = some (19, 0, 277, 0, 0, 113, [670]) := rfl
theorem ti_90_113 : (q_I 90).2 113 = some (0, 1, 0, 5, 0, 115, []) := rfl
theorem ti_90_115 : (q_I 90).2 115 = some (4, 0, 0, 0, 0, 116, []) := rfl
theorem ti_90_92 : (q_I 90).2 92 = some (2, 1, (-13), 0, 0, 94, []) := rfl
theorem ti_90_94 : (q_I 90).2 94 = some (4, 0, 0, 0, 0, 95, []) := rfl
theorem ti_90_50 : (q_I 90).2 50 = some (2, 1, (-11), 0, 0, 52, []) := rfl
theorem ti_90_52 : (q_I 90).2 52 = some (4, 0, 0, 0, 0, 53, []) := rfl
theorem ti_90_16 : (q_I 90).2 16 = some (2, 0, (-1), 0, 0, 17, []) := rfl
theorem ti_90_17 : (q_I 90).2 17 = some (4, 0, 0, 0, 0, 18, []) := rfl
theorem mt_90 (a1 : Int) (a2 : Int) (a3 : Int) (a4 : Int) (a5 : Int) (H : a_P) : a_mt id 0 90 [(2, 0), (0, a1), (0, a2), (0, a3), (0, a4), (0, a5)] H (fn_90 a1 a2 a3 a4 a5 H) := by
  refine a_mtI (lo := [some (2, 0), some (0, a1), some (0, a2), some (0, a3), some (0, a4), some (0, a5), none, none]) rfl fun d => ?_
  unfold fn_90
  refine a_w0 (Nat.le_succ _) ti_90_0 rfl ?_
  refine a_w2 (z := 4) (Nat.le_succ _) ti_90_1 (by decide) ?_
  refine a_w3p (args := [(0, a1), (0, 4)]) (Nat.le_succ _) ti_90_2 (mt_91 a1 4 H) rfl rfl rfl rfl ?_
  refine a_wjn 16 (fun (s : Unit) => [none, none, none, none, none, none, none, none]) (fun (s : Unit) => []) (fun (s : Unit) => H) (fun s1 => ?_) (fun j16 hj16 => ?_)
  · refine a_w2 (z := (-1)) (Nat.le_succ _) ti_90_16 (by decide) ?_
    exact a_w4 (Nat.le_succ _) ti_90_17 rfl rfl rfl
  · refine a_w8_0 (Nat.le_succ _) ti_90_5 ?_ ?_
    · exact a_wk (hj16 ()) (by omega) trivial
    · refine a_w0 (Nat.le_succ _) ti_90_8 rfl ?_
      refine a_w2 (z := 4) (Nat.le_succ _) ti_90_9 (by decide) ?_
      refine a_w3p (args := [(0, a3), (0, 4)]) (Nat.le_succ _) ti_90_10 (mt_91 a3 4 H) rfl rfl rfl rfl ?_
      refine a_w8_1 (Nat.le_succ _) ti_90_13 ?_ ?_
      · refine a_w0 (Nat.le_succ _) ti_90_18 rfl ?_
        refine a_w1 (a := (2, 121)) (Nat.le_succ _) ti_90_19 rfl ?_
        refine a_w0 (Nat.le_succ _) ti_90_22 rfl ?_
        refine a_w5r (Nat.le_succ _) ti_90_23 (fun _ => rfl) ?_
        refine a_w11b (lof := fun x1 => [some (2, 0), some (0, a1), some (0, a2), some (0, a3), some (0, a4), some (0, a5), some (2, x1), none]) (Nat.le_succ _) ti_90_24 (fun _ => rfl) (fun x1 => ?_)
        refine a_w0 (Nat.le_succ _) ti_90_26 rfl ?_
        refine a_w1 (a := (2, 121)) (Nat.le_succ _) ti_90_27 rfl ?_
        refine a_w0 (Nat.le_succ _) ti_90_30 rfl ?_
        refine a_w5r (Nat.le_succ _) ti_90_31 (fun _ => rfl) ?_
        refine a_w11b (lof := fun x2 => [some (2, 0), some (0, a1), some (0, a2), some (0, a3), some (0, a4), some (0, a5), some (2, x1), some (2, x2)]) (Nat.le_succ _) ti_90_32 (fun _ => rfl) (fun x2 => ?_)
        refine a_w0 (Nat.le_succ _) ti_90_34 rfl ?_
        refine a_w1 (a := (0, H x1 0)) (Nat.le_succ _) ti_90_36 rfl ?_
        refine a_wjn 50 (fun (s : Unit) => [none, none, none, none, none, none, none, none]) (fun (s : Unit) => []) (fun (s : Unit) => H) (fun s2 => ?_) (fun j50 hj50 => ?_)
        · refine a_w2 (z := (-11)) (Nat.le_succ _) ti_90_50 (by decide) ?_
          exact a_w4 (Nat.le_succ _) ti_90_52 rfl rfl rfl
        · refine a_w8_0 (Nat.le_succ _) ti_90_39 ?_ ?_
          · exact a_wk (hj50 ()) (by omega) trivial
          · refine a_w0 (Nat.le_succ _) ti_90_42 rfl ?_
            refine a_w1 (a := (0, H x2 0)) (Nat.le_succ _) ti_90_44 rfl ?_
            refine a_w8_1 (Nat.le_succ _) ti_90_47 ?_ ?_
            · refine a_w0 (Nat.le_succ _) ti_90_53 rfl ?_
              refine a_w1 (a := (0, H x1 1)) (Nat.le_succ _) ti_90_55 rfl ?_
              refine a_w0 (Nat.le_succ _) ti_90_58 rfl ?_
              refine a_w1 (a := (0, H x2 1)) (Nat.le_succ _) ti_90_60 rfl ?_
              refine a_w9_0 (Nat.le_succ _) ti_90_63 ?_ ?_
              · refine a_w0 (Nat.le_succ _) ti_90_69 rfl ?_
                refine a_w0 (Nat.le_succ _) ti_90_71 rfl ?_
                refine a_w0 (Nat.le_succ _) ti_90_72 rfl ?_
                refine a_w3p (args := [(2, x1), (0, a2), (0, a5)]) (Nat.le_succ _) ti_90_74 (mt_38 x1 a2 a5 H) rfl rfl rfl rfl ?_
                refine a_wjn 92 (fun (s : Unit) => [none, none, none, none, none, none, none, none]) (fun (s : Unit) => []) (fun (s : Unit) => H) (fun s3 => ?_) (fun j92 hj92 => ?_)
                · refine a_w2 (z := (-13)) (Nat.le_succ _) ti_90_92 (by decide) ?_
                  exact a_w4 (Nat.le_succ _) ti_90_94 rfl rfl rfl
                · refine a_w8_0 (Nat.le_succ _) ti_90_77 ?_ ?_
                  · exact a_wk (hj92 ()) (by omega) trivial
                  · refine a_w0 (Nat.le_succ _) ti_90_80 rfl ?_
                    refine a_w0 (Nat.le_succ _) ti_90_82 rfl ?_
                    refine a_w0 (Nat.le_succ _) ti_90_84 rfl ?_
                    refine a_w3p (args := [(2, x2), (0, a4), (0, a5)]) (Nat.le_succ _) ti_90_86 (mt_38 x2 a4 a5 H) rfl rfl rfl rfl ?_
                    refine a_w8_1 (Nat.le_succ _) ti_90_89 ?_ ?_
                    · refine a_w0 (Nat.le_succ _) ti_90_95 rfl ?_
                      refine a_w1 (a := (2, (x1 + 1))) (Nat.le_succ _) ti_90_97 rfl ?_
                      refine a_w0 (Nat.le_succ _) ti_90_100 rfl ?_
                      refine a_w0 (Nat.le_succ _) ti_90_101 rfl ?_
                      refine a_w1 (a := (2, (x2 + 1))) (Nat.le_succ _) ti_90_103 rfl ?_
                      refine a_w0 (Nat.le_succ _) ti_90_106 rfl ?_
                      refine a_w0 (Nat.le_succ _) ti_90_108 rfl ?_
                      refine a_w19 (Nat.le_succ _) ti_90_110 (fun H1 => ?_)
                      refine a_w0 (Nat.le_succ _) ti_90_113 rfl ?_
                      exact a_w4 (Nat.le_succ _) ti_90_115 rfl rfl rfl
                    · exact a_wk (hj92 ()) (by omega) trivial
              · refine a_w2 (z := (-12)) (Nat.le_succ _) ti_90_66 (by decide) ?_
                exact a_w4 (Nat.le_succ _) ti_90_68 rfl rfl rfl
            · exact a_wk (hj50 ()) (by omega) trivial
      · exact a_wk (hj16 ()) (by omega) trivial
/-- CarriedGateModel.in(JJJ)Z -/
noncomputable def fn_108 (a0 : Int) (a1 : Int) (a2 : Int) : Int :=
  a_jn (fun (s1 : Int) => s1) fun j18 =>
  a_jn (fun (s2 : Unit) => j18 0) fun j17 =>
  (if (s_lc a0 a1) < 0 then j17 ()
  else (if 0 < (s_lc a0 a2) then j17 ()
  else j18 1))
theorem ti_108_0 : (q_I 108).2 0 = some (0, 2, 0, 0, 1, 1, []) := rfl
theorem ti_108_1 : (q_I 108).2 1 = some (0, 2, 0, 2, 1, 2, []) := rfl
theorem ti_108_2 : (q_I 108).2 2 = some (6, 19, 0, 0, 0, 3, []) := rfl
theorem ti_108_3 : (q_I 108).2 3 = some (8, 2, 0, 17, 0, 6, []) := rfl
theorem ti_108_6 : (q_I 108).2 6 = some (0, 2, 0, 0, 1, 7, []) := rfl
theorem ti_108_7 : (q_I 108).2 7 = some (0, 3, 0, 4, 1, 9, []) := rfl
theorem ti_108_9 : (q_I 108).2 9 = some (6, 19, 0, 0, 0, 10, []) := rfl
theorem ti_108_10 : (q_I 108).2 10 = some (8, 4, 0, 17, 0, 13, []) := rfl
theorem ti_108_13 : (q_I 108).2 13 = some (2, 0, 1, 0, 0, 14, []) := rfl
theorem ti_108_14 : (q_I 108).2 14 = some (7, 0, 0, 18, 0, 17, []) := rfl
theorem ti_108_17 : (q_I 108).2 17 = some (2, 0, 0, 0, 0, 18, []) := rfl
theorem ti_108_18 : (q_I 108).2 18 = some (4, 3, 0, 0, 0, 19, []) := rfl
theorem mt_108 (a0 : Int) (a1 : Int) (a2 : Int) (H : a_P) : a_mt (a_pp H) 0 108 [(1, a0), (1, a1), (1, a2)] H (fn_108 a0 a1 a2) := by
  refine a_mtI (lo := [some (1, a0), none, some (1, a1), none, some (1, a2), none]) rfl fun d => ?_
  unfold fn_108
  refine a_w0 (Nat.le_succ _) ti_108_0 rfl ?_
  refine a_w0 (Nat.le_succ _) ti_108_1 rfl ?_
  refine a_w6 (a := (0, s_lc a0 a1)) (Nat.le_succ _) ti_108_2 rfl ?_
  refine a_wjn 18 (fun (s : Int) => [none, none, none, none, none, none]) (fun (s : Int) => [(0, s)]) (fun (s : Int) => H) (fun s1 => ?_) (fun j18 hj18 => ?_)
  · exact a_w4 (Nat.le_succ _) ti_108_18 rfl rfl rfl
  · refine a_wjn 17 (fun (s : Unit) => [none, none, none, none, none, none]) (fun (s : Unit) => []) (fun (s : Unit) => H) (fun s2 => ?_) (fun j17 hj17 => ?_)
    · refine a_w2 (z := 0) (Nat.le_succ _) ti_108_17 (by decide) ?_
      exact a_wk (hj18 0) (by omega) trivial
    · refine a_w8_2 (Nat.le_succ _) ti_108_3 ?_ ?_
      · exact a_wk (hj17 ()) (by omega) trivial
      · refine a_w0 (Nat.le_succ _) ti_108_6 rfl ?_
        refine a_w0 (Nat.le_succ _) ti_108_7 rfl ?_
        refine a_w6 (a := (0, s_lc a0 a2)) (Nat.le_succ _) ti_108_9 rfl ?_
        refine a_w8_4 (Nat.le_succ _) ti_108_10 ?_ ?_
        · exact a_wk (hj17 ()) (by omega) trivial
        · refine a_w2 (z := 1) (Nat.le_succ _) ti_108_13 (by decide) ?_
          refine a_w7 (Nat.le_succ _) ti_108_14 ?_
          exact a_wk (hj18 1) (by omega) trivial
/-- CarriedGateModel.isCell(I)Z -/
noncomputable def fn_111 (a0 : Int) : Int :=
  fn_108 a0 0 35
theorem ti_111_0 : (q_I 111).2 0 = some (0, 0, 0, 0, 0, 1, []) := rfl
theorem ti_111_1 : (q_I 111).2 1 = some (14, 4, 0, 0, 0, 2, []) := rfl
theorem ti_111_2 : (q_I 111).2 2 = some (15, 0, 0, 0, 0, 3, []) := rfl
theorem ti_111_3 : (q_I 111).2 3 = some (15, 1, 35, 55, 0, 6, [873]) := rfl
theorem ti_111_6 : (q_I 111).2 6 = some (3, 1, 51, 108, 3, 9, [867, 6]) := rfl
theorem ti_111_9 : (q_I 111).2 9 = some (4, 3, 0, 0, 0, 10, []) := rfl
theorem mt_111 (a0 : Int) (H : a_P) : a_mt (a_pp H) 0 111 [(0, a0)] H (fn_111 a0) := by
  refine a_mtI (lo := [some (0, a0)]) rfl fun d => ?_
  unfold fn_111
  refine a_w0 (Nat.le_succ _) ti_111_0 rfl ?_
  refine a_w14 (a := (1, a0)) (Nat.le_succ _) ti_111_1 rfl ?_
  refine a_w15 (z := 0) (Nat.le_succ _) ti_111_2 (by decide) ?_
  refine a_w15 (z := 35) (Nat.le_succ _) ti_111_3 (by decide) ?_
  refine a_w3p (args := [(1, a0), (1, 0), (1, 35)]) (Nat.le_succ _) ti_111_6 (mt_108 a0 0 35 H) rfl rfl rfl rfl ?_
  exact a_w4 (Nat.le_succ _) ti_111_9 rfl rfl rfl
/-- CarriedGateModel.comes(IIII)V -/
noncomputable def fn_125 (a1 : Int) (a2 : Int) (a3 : Int) (a4 : Int) (H : a_P) : a_P :=
  a_bd (H 134 0) fun x1 =>
  a_bd (a_up H 134 0 (a_w ((H 134 0) + 1))) fun H1 =>
  a_bd (a_up H1 134 (a_w (7 + x1)) a1) fun H2 =>
  a_bd (a_up H2 134 (a_w (15 + x1)) a2) fun H3 =>
  a_bd (a_up H3 134 (a_w (23 + x1)) a3) fun H4 =>
  a_bd (a_up H4 134 (a_w (31 + x1)) a4) fun H5 =>
  a_bd (a_up H5 134 (a_w (39 + x1)) 0) fun H6 =>
  a_bd (a_up H6 133 7 0) fun H7 =>
  H7
theorem ti_125_0 : (q_I 125).2 0 = some (0, 4, 0, 0, 2, 1, []) := rfl
theorem ti_125_1 : (q_I 125).2 1 = some (1, 0, 7, 6, 0, 4, [795]) := rfl
theorem ti_125_4 : (q_I 125).2 4 = some (2, 0, 0, 0, 0, 5, []) := rfl
theorem ti_125_5 : (q_I 125).2 5 = some (5, 10, 0, 0, 0, 6, []) := rfl
theorem ti_125_6 : (q_I 125).2 6 = some (11, 1, 0, 5, 0, 8, []) := rfl
theorem ti_125_8 : (q_I 125).2 8 = some (0, 4, 0, 0, 2, 9, []) := rfl
theorem ti_125_9 : (q_I 125).2 9 = some (1, 0, 7, 6, 0, 12, [795]) := rfl
theorem ti_125_12 : (q_I 125).2 12 = some (2, 0, 0, 0, 0, 13, []) := rfl
theorem ti_125_13 : (q_I 125).2 13 = some (17, 0, 0, 0, 0, 14, []) := rfl
theorem ti_125_14 : (q_I 125).2 14 = some (5, 10, 0, 0, 0, 15, []) := rfl
theorem ti_125_15 : (q_I 125).2 15 = some (2, 0, 1, 0, 0, 16, []) := rfl
theorem ti_125_16 : (q_I 125).2 16 = some (6, 0, 0, 0, 0, 17, []) := rfl
theorem ti_125_17 : (q_I 125).2 17 = some (12, 10, 0, 0, 0, 18, []) := rfl
theorem ti_125_18 : (q_I 125).2 18 = some (0, 4, 0, 0, 2, 19, []) := rfl
theorem ti_125_19 : (q_I 125).2 19 = some (1, 0, 7, 6, 0, 22, [795]) := rfl
theorem ti_125_22 : (q_I 125).2 22 = some (2, 1, 7, 0, 0, 24, []) := rfl
theorem ti_125_24 : (q_I 125).2 24 = some (0, 1, 0, 5, 0, 26, []) := rfl
theorem ti_125_26 : (q_I 125).2 26 = some (6, 0, 0, 0, 0, 27, []) := rfl
theorem ti_125_27 : (q_I 125).2 27 = some (0, 0, 0, 1, 0, 28, []) := rfl
theorem ti_125_28 : (q_I 125).2 28 = some (12, 10, 0, 0, 0, 29, []) := rfl
theorem ti_125_29 : (q_I 125).2 29 = some (0, 4, 0, 0, 2, 30, []) := rfl
theorem ti_125_30 : (q_I 125).2 30 = some (1, 0, 7, 6, 0, 33, [795]) := rfl
theorem ti_125_33 : (q_I 125).2 33 = some (2, 1, 15, 0, 0, 35, []) := rfl
theorem ti_125_35 : (q_I 125).2 35 = some (0, 1, 0, 5, 0, 37, []) := rfl
theorem ti_125_37 : (q_I 125).2 37 = some (6, 0, 0, 0, 0, 38, []) := rfl
theorem ti_125_38 : (q_I 125).2 38 = some (0, 0, 0, 2, 0, 39, []) := rfl
theorem ti_125_39 : (q_I 125).2 39 = some (12, 10, 0, 0, 0, 40, []) := rfl
theorem ti_125_40 : (q_I 125).2 40 = some (0, 4, 0, 0, 2, 41, []) := rfl
theorem ti_125_41 : (q_I 125).2 41 = some (1, 0, 7, 6, 0, 44, [795]) := rfl
theorem ti_125_44 : (q_I 125).2 44 = some (2, 1, 23, 0, 0, 46, []) := rfl
theorem ti_125_46 : (q_I 125).2 46 = some (0, 1, 0, 5, 0, 48, []) := rfl
theorem ti_125_48 : (q_I 125).2 48 = some (6, 0, 0, 0, 0, 49, []) := rfl
theorem ti_125_49 : (q_I 125).2 49 = some (0, 0, 0, 3, 0, 50, []) := rfl
theorem ti_125_50 : (q_I 125).2 50 = some (12, 10, 0, 0, 0, 51, []) := rfl
theorem ti_125_51 : (q_I 125).2 51 = some (0, 4, 0, 0, 2, 52, []) := rfl
theorem ti_125_52 : (q_I 125).2 52 = some (1, 0, 7, 6, 0, 55, [795]) := rfl
theorem ti_125_55 : (q_I 125).2 55 = some (2, 1, 31, 0, 0, 57, []) := rfl
theorem ti_125_57 : (q_I 125).2 57 = some (0, 1, 0, 5, 0, 59, []) := rfl
theorem ti_125_59 : (q_I 125).2 59 = some (6, 0, 0, 0, 0, 60, []) := rfl
theorem ti_125_60 : (q_I 125).2 60 = some (0, 1, 0, 4, 0, 62, []) := rfl
theorem ti_125_62 : (q_I 125).2 62 = some (12, 10, 0, 0, 0, 63, []) := rfl
theorem ti_125_63 : (q_I 125).2 63 = some (0, 4, 0, 0, 2, 64, []) := rfl
theorem ti_125_64 : (q_I 125).2 64 = some (1, 0, 7, 6, 0, 67, [795]) := rfl
theorem ti_125_67 : (q_I 125).2 67 = some (2, 1, 39, 0, 0, 69, []) := rfl
theorem ti_125_69 : (q_I 125).2 69 = some (0, 1, 0, 5, 0, 71, []) := rfl
theorem ti_125_71 : (q_I 125).2 71 = some (6, 0, 0, 0, 0, 72, []) := rfl
theorem ti_125_72 : (q_I 125).2 72 = some (2, 0, 0, 0, 0, 73, []) := rfl
theorem ti_125_73 : (q_I 125).2 73 = some (12, 10, 0, 0, 0, 74, []) := rfl
theorem ti_125_74 : (q_I 125).2 74 = some (0, 4, 0, 0, 2, 75, []) := rfl
theorem ti_125_75 : (q_I 125).2 75 = some (2, 0, 0, 0, 0, 76, []) := rfl
theorem ti_125_76 : (q_I 125).2 76 = some (10, 0, 101, 6, 7, 79, [802]) := rfl
theorem ti_125_79 : (q_I 125).2 79 = some (4, 4, 0, 0, 0, 80, []) := rfl
theorem mt_125 (a1 : Int) (a2 : Int) (a3 : Int) (a4 : Int) (H : a_P) : a_mt a_pv 9 125 [(2, 133), (0, a1), (0, a2), (0, a3), (0, a4)] H (fn_125 a1 a2 a3 a4 H) := by
  refine a_mtI (lo := [some (2, 133), some (0, a1), some (0, a2), some (0, a3), some (0, a4), none]) rfl fun d => ?_
  unfold fn_125
  refine a_w0 (Nat.le_succ _) ti_125_0 rfl ?_
  refine a_w1 (a := (2, 134)) (Nat.le_succ _) ti_125_1 rfl ?_
  refine a_w2 (z := 0) (Nat.le_succ _) ti_125_4 (by decide) ?_
  refine a_w5 (kk := 0) (Nat.le_succ _) ti_125_5 (fun _ => rfl) ?_
  refine a_w11b (lof := fun x1 => [some (2, 133), some (0, a1), some (0, a2), some (0, a3), some (0, a4), some (0, x1)]) (Nat.le_succ _) ti_125_6 (fun _ => rfl) (fun x1 => ?_)
  refine a_w0 (Nat.le_succ _) ti_125_8 rfl ?_
  refine a_w1 (a := (2, 134)) (Nat.le_succ _) ti_125_9 rfl ?_
  refine a_w2 (z := 0) (Nat.le_succ _) ti_125_12 (by decide) ?_
  refine a_w17 (Nat.le_succ _) ti_125_13 ?_
  refine a_w5 (kk := 0) (Nat.le_succ _) ti_125_14 (fun _ => rfl) ?_
  refine a_w2 (z := 1) (Nat.le_succ _) ti_125_15 (by decide) ?_
  refine a_w6 (a := (0, a_w ((H 134 0) + 1))) (Nat.le_succ _) ti_125_16 rfl ?_
  refine a_w12 (Nat.le_succ _) ti_125_17 (Or.inl ⟨rfl, rfl⟩) (fun H1 => ?_)
  refine a_w0 (Nat.le_succ _) ti_125_18 rfl ?_
  refine a_w1 (a := (2, 134)) (Nat.le_succ _) ti_125_19 rfl ?_
  refine a_w2 (z := 7) (Nat.le_succ _) ti_125_22 (by decide) ?_
  refine a_w0 (Nat.le_succ _) ti_125_24 rfl ?_
  refine a_w6 (a := (0, a_w (7 + x1))) (Nat.le_succ _) ti_125_26 rfl ?_
  refine a_w0 (Nat.le_succ _) ti_125_27 rfl ?_
  refine a_w12 (Nat.le_succ _) ti_125_28 (Or.inl ⟨rfl, rfl⟩) (fun H2 => ?_)
  refine a_w0 (Nat.le_succ _) ti_125_29 rfl ?_
  refine a_w1 (a := (2, 134)) (Nat.le_succ _) ti_125_30 rfl ?_
  refine a_w2 (z := 15) (Nat.le_succ _) ti_125_33 (by decide) ?_
  refine a_w0 (Nat.le_succ _) ti_125_35 rfl ?_
  refine a_w6 (a := (0, a_w (15 + x1))) (Nat.le_succ _) ti_125_37 rfl ?_
  refine a_w0 (Nat.le_succ _) ti_125_38 rfl ?_
  refine a_w12 (Nat.le_succ _) ti_125_39 (Or.inl ⟨rfl, rfl⟩) (fun H3 => ?_)
  refine a_w0 (Nat.le_succ _) ti_125_40 rfl ?_
  refine a_w1 (a := (2, 134)) (Nat.le_succ _) ti_125_41 rfl ?_
  refine a_w2 (z := 23) (Nat.le_succ _) ti_125_44 (by decide) ?_
  refine a_w0 (Nat.le_succ _) ti_125_46 rfl ?_
  refine a_w6 (a := (0, a_w (23 + x1))) (Nat.le_succ _) ti_125_48 rfl ?_
  refine a_w0 (Nat.le_succ _) ti_125_49 rfl ?_
  refine a_w12 (Nat.le_succ _) ti_125_50 (Or.inl ⟨rfl, rfl⟩) (fun H4 => ?_)
  refine a_w0 (Nat.le_succ _) ti_125_51 rfl ?_
  refine a_w1 (a := (2, 134)) (Nat.le_succ _) ti_125_52 rfl ?_
  refine a_w2 (z := 31) (Nat.le_succ _) ti_125_55 (by decide) ?_
  refine a_w0 (Nat.le_succ _) ti_125_57 rfl ?_
  refine a_w6 (a := (0, a_w (31 + x1))) (Nat.le_succ _) ti_125_59 rfl ?_
  refine a_w0 (Nat.le_succ _) ti_125_60 rfl ?_
  refine a_w12 (Nat.le_succ _) ti_125_62 (Or.inl ⟨rfl, rfl⟩) (fun H5 => ?_)
  refine a_w0 (Nat.le_succ _) ti_125_63 rfl ?_
  refine a_w1 (a := (2, 134)) (Nat.le_succ _) ti_125_64 rfl ?_
  refine a_w2 (z := 39) (Nat.le_succ _) ti_125_67 (by decide) ?_
  refine a_w0 (Nat.le_succ _) ti_125_69 rfl ?_
  refine a_w6 (a := (0, a_w (39 + x1))) (Nat.le_succ _) ti_125_71 rfl ?_
  refine a_w2 (z := 0) (Nat.le_succ _) ti_125_72 (by decide) ?_
  refine a_w12 (Nat.le_succ _) ti_125_73 (Or.inl ⟨rfl, rfl⟩) (fun H6 => ?_)
  refine a_w0 (Nat.le_succ _) ti_125_74 rfl ?_
  refine a_w2 (z := 0) (Nat.le_succ _) ti_125_75 (by decide) ?_
  refine a_w10 (Nat.le_succ _) ti_125_76 rfl rfl rfl (fun H7 => ?_)
  exact a_w4v (Nat.le_succ _) ti_125_79 rfl rfl
/-- CarriedGateModel.person(III)I -/
noncomputable def fn_126 (a1 : Int) (a2 : Int) (a3 : Int) (H : a_P) : a_F :=
  a_jn (fun (s1 : Unit) => ((-1), H)) fun j31 =>
  (if (fn_108 a1 0 4) = 0 then j31 ()
  else (if (fn_111 a2) = 0 then j31 ()
  else (if (fn_108 a3 0 20) = 0 then j31 ()
  else (if (H 134 0) = 8 then ((-3), H)
  else a_bd (fn_125 a1 a2 4 a3 H) fun H1 =>
  (a_w ((H1 134 0) - 1), H1)))))
theorem ti_126_0 : (q_I 126).2 0 = some (0, 0, 0, 1, 0, 1, []) := rfl
theorem ti_126_1 : (q_I 126).2 1 = some (14, 4, 0, 0, 0, 2, []) := rfl
theorem ti_126_2 : (q_I 126).2 2 = some (15, 0, 0, 0, 0, 3, []) := rfl
theorem ti_126_3 : (q_I 126).2 3 = some (15, 1, 4, 104, 0, 6, [866]) := rfl
theorem ti_126_6 : (q_I 126).2 6 = some (3, 1, 51, 108, 3, 9, [867, 6]) := rfl
theorem ti_126_9 : (q_I 126).2 9 = some (8, 0, 0, 31, 0, 12, []) := rfl
theorem ti_126_12 : (q_I 126).2 12 = some (0, 0, 0, 2, 0, 13, []) := rfl
theorem ti_126_13 : (q_I 126).2 13 = some (3, 1, 106, 111, 1, 16, [870, 6]) := rfl
theorem ti_126_16 : (q_I 126).2 16 = some (8, 0, 0, 31, 0, 19, []) := rfl
theorem ti_126_19 : (q_I 126).2 19 = some (0, 0, 0, 3, 0, 20, []) := rfl
theorem ti_126_20 : (q_I 126).2 20 = some (14, 4, 0, 0, 0, 21, []) := rfl
theorem ti_126_21 : (q_I 126).2 21 = some (15, 0, 0, 0, 0, 22, []) := rfl
theorem ti_126_22 : (q_I 126).2 22 = some (15, 1, 20, 109, 0, 25, [874]) := rfl
theorem ti_126_25 : (q_I 126).2 25 = some (3, 1, 51, 108, 3, 28, [867, 6]) := rfl
theorem ti_126_28 : (q_I 126).2 28 = some (8, 1, 0, 33, 0, 31, []) := rfl
theorem ti_126_33 : (q_I 126).2 33 = some (0, 4, 0, 0, 2, 34, []) := rfl
theorem ti_126_34 : (q_I 126).2 34 = some (1, 0, 7, 6, 0, 37, [795]) := rfl
theorem ti_126_37 : (q_I 126).2 37 = some (2, 0, 0, 0, 0, 38, []) := rfl
theorem ti_126_38 : (q_I 126).2 38 = some (5, 10, 0, 0, 0, 39, []) := rfl
theorem ti_126_39 : (q_I 126).2 39 = some (2, 1, 8, 0, 0, 41, []) := rfl
theorem ti_126_41 : (q_I 126).2 41 = some (9, 1, 0, 47, 0, 44, []) := rfl
theorem ti_126_44 : (q_I 126).2 44 = some (2, 1, (-3), 0, 0, 46, []) := rfl
theorem ti_126_46 : (q_I 126).2 46 = some (4, 0, 0, 0, 0, 47, []) := rfl
theorem ti_126_47 : (q_I 126).2 47 = some (0, 4, 0, 0, 2, 48, []) := rfl
theorem ti_126_48 : (q_I 126).2 48 = some (0, 0, 0, 1, 0, 49, []) := rfl
theorem ti_126_49 : (q_I 126).2 49 = some (0, 0, 0, 2, 0, 50, []) := rfl
theorem ti_126_50 : (q_I 126).2 50 = some (2, 0, 4, 0, 0, 51, []) := rfl
theorem ti_126_51 : (q_I 126).2 51 = some (0, 0, 0, 3, 0, 52, []) := rfl
theorem ti_126_52 : (q_I 126).2 52 = some (3, 0, 111, 125, 5, 55, [875, 6]) := rfl
theorem ti_126_55 : (q_I 126).2 55 = some (0, 4, 0, 0, 2, 56, []) := rfl
theorem ti_126_56 : (q_I 126).2 56 = some (1, 0, 7, 6, 0, 59, [795]) := rfl
theorem ti_126_59 : (q_I 126).2 59 = some (2, 0, 0, 0, 0, 60, []) := rfl
theorem ti_126_60 : (q_I 126).2 60 = some (5, 10, 0, 0, 0, 61, []) := rfl
theorem ti_126_61 : (q_I 126).2 61 = some (2, 0, 1, 0, 0, 62, []) := rfl
theorem ti_126_62 : (q_I 126).2 62 = some (6, 1, 0, 0, 0, 63, []) := rfl
theorem ti_126_63 : (q_I 126).2 63 = some (4, 0, 0, 0, 0, 64, []) := rfl
theorem ti_126_31 : (q_I 126).2 31 = some (2, 0, (-1), 0, 0, 32, []) := rfl
theorem ti_126_32 : (q_I 126).2 32 = some (4, 0, 0, 0, 0, 33, []) := rfl
theorem mt_126 (a1 : Int) (a2 : Int) (a3 : Int) (H : a_P) : a_mt id 0 126 [(2, 133), (0, a1), (0, a2), (0, a3)] H (fn_126 a1 a2 a3 H) := by
  refine a_mtI (lo := [some (2, 133), some (0, a1), some (0, a2), some (0, a3)]) rfl fun d => ?_
  unfold fn_126
  refine a_w0 (Nat.le_succ _) ti_126_0 rfl ?_
  refine a_w14 (a := (1, a1)) (Nat.le_succ _) ti_126_1 rfl ?_
  refine a_w15 (z := 0) (Nat.le_succ _) ti_126_2 (by decide) ?_
  refine a_w15 (z := 4) (Nat.le_succ _) ti_126_3 (by decide) ?_
  refine a_w3p (args := [(1, a1), (1, 0), (1, 4)]) (Nat.le_succ _) ti_126_6 (mt_108 a1 0 4 H) rfl rfl rfl rfl ?_
  refine a_wjn 31 (fun (s : Unit) => [none, none, none, none]) (fun (s : Unit) => []) (fun (s : Unit) => H) (fun s1 => ?_) (fun j31 hj31 => ?_)
  · refine a_w2 (z := (-1)) (Nat.le_succ _) ti_126_31 (by decide) ?_
    exact a_w4 (Nat.le_succ _) ti_126_32 rfl rfl rfl
  · refine a_w8_0 (Nat.le_succ _) ti_126_9 ?_ ?_
    · exact a_wk (hj31 ()) (by omega) trivial
    · refine a_w0 (Nat.le_succ _) ti_126_12 rfl ?_
      refine a_w3p (args := [(0, a2)]) (Nat.le_succ _) ti_126_13 (mt_111 a2 H) rfl rfl rfl rfl ?_
      refine a_w8_0 (Nat.le_succ _) ti_126_16 ?_ ?_
      · exact a_wk (hj31 ()) (by omega) trivial
      · refine a_w0 (Nat.le_succ _) ti_126_19 rfl ?_
        refine a_w14 (a := (1, a3)) (Nat.le_succ _) ti_126_20 rfl ?_
        refine a_w15 (z := 0) (Nat.le_succ _) ti_126_21 (by decide) ?_
        refine a_w15 (z := 20) (Nat.le_succ _) ti_126_22 (by decide) ?_
        refine a_w3p (args := [(1, a3), (1, 0), (1, 20)]) (Nat.le_succ _) ti_126_25 (mt_108 a3 0 20 H) rfl rfl rfl rfl ?_
        refine a_w8_1 (Nat.le_succ _) ti_126_28 ?_ ?_
        · refine a_w0 (Nat.le_succ _) ti_126_33 rfl ?_
          refine a_w1 (a := (2, 134)) (Nat.le_succ _) ti_126_34 rfl ?_
          refine a_w2 (z := 0) (Nat.le_succ _) ti_126_37 (by decide) ?_
          refine a_w5 (kk := 0) (Nat.le_succ _) ti_126_38 (fun _ => rfl) ?_
          refine a_w2 (z := 8) (Nat.le_succ _) ti_126_39 (by decide) ?_
          refine a_w9_1 (Nat.le_succ _) ti_126_41 ?_ ?_
          · refine a_w0 (Nat.le_succ _) ti_126_47 rfl ?_
            refine a_w0 (Nat.le_succ _) ti_126_48 rfl ?_
            refine a_w0 (Nat.le_succ _) ti_126_49 rfl ?_
            refine a_w2 (z := 4) (Nat.le_succ _) ti_126_50 (by decide) ?_
            refine a_w0 (Nat.le_succ _) ti_126_51 rfl ?_
            refine a_w3v (args := [(2, 133), (0, a1), (0, a2), (0, 4), (0, a3)]) (Nat.le_succ _) ti_126_52 (mt_125 a1 a2 4 a3 H) rfl rfl (fun H1 => ?_)
            refine a_w0 (Nat.le_succ _) ti_126_55 rfl ?_
            refine a_w1 (a := (2, 134)) (Nat.le_succ _) ti_126_56 rfl ?_
            refine a_w2 (z := 0) (Nat.le_succ _) ti_126_59 (by decide) ?_
            refine a_w5 (kk := 0) (Nat.le_succ _) ti_126_60 (fun _ => rfl) ?_
            refine a_w2 (z := 1) (Nat.le_succ _) ti_126_61 (by decide) ?_
            refine a_w6 (a := (0, a_w ((H1 134 0) - 1))) (Nat.le_succ _) ti_126_62 rfl ?_
            exact a_w4 (Nat.le_succ _) ti_126_63 rfl rfl rfl
          · refine a_w2 (z := (-3)) (Nat.le_succ _) ti_126_44 (by decide) ?_
            exact a_w4 (Nat.le_succ _) ti_126_46 rfl rfl rfl
        · exact a_wk (hj31 ()) (by omega) trivial
/-- CarriedGateModel.isOne(I)Z -/
noncomputable def fn_110 (a1 : Int) (H : a_P) : Int :=
  fn_108 a1 0 (a_w ((H 134 0) - 1))
theorem ti_110_0 : (q_I 110).2 0 = some (0, 0, 0, 1, 0, 1, []) := rfl
theorem ti_110_1 : (q_I 110).2 1 = some (14, 4, 0, 0, 0, 2, []) := rfl
theorem ti_110_2 : (q_I 110).2 2 = some (15, 0, 0, 0, 0, 3, []) := rfl
theorem ti_110_3 : (q_I 110).2 3 = some (0, 4, 0, 0, 2, 4, []) := rfl
theorem ti_110_4 : (q_I 110).2 4 = some (1, 0, 7, 6, 0, 7, [795]) := rfl
theorem ti_110_7 : (q_I 110).2 7 = some (2, 0, 0, 0, 0, 8, []) := rfl
theorem ti_110_8 : (q_I 110).2 8 = some (5, 10, 0, 0, 0, 9, []) := rfl
theorem ti_110_9 : (q_I 110).2 9 = some (2, 0, 1, 0, 0, 10, []) := rfl
theorem ti_110_10 : (q_I 110).2 10 = some (6, 1, 0, 0, 0, 11, []) := rfl
theorem ti_110_11 : (q_I 110).2 11 = some (14, 4, 0, 0, 0, 12, []) := rfl
theorem ti_110_12 : (q_I 110).2 12 = some (3, 1, 51, 108, 3, 15, [867, 6]) := rfl
theorem ti_110_15 : (q_I 110).2 15 = some (4, 3, 0, 0, 0, 16, []) := rfl
theorem mt_110 (a1 : Int) (H : a_P) : a_mt (a_pp H) 0 110 [(2, 133), (0, a1)] H (fn_110 a1 H) := by
  refine a_mtI (lo := [some (2, 133), some (0, a1)]) rfl fun d => ?_
  unfold fn_110
  refine a_w0 (Nat.le_succ _) ti_110_0 rfl ?_
  refine a_w14 (a := (1, a1)) (Nat.le_succ _) ti_110_1 rfl ?_
  refine a_w15 (z := 0) (Nat.le_succ _) ti_110_2 (by decide) ?_
  refine a_w0 (Nat.le_succ _) ti_110_3 rfl ?_
  refine a_w1 (a := (2, 134)) (Nat.le_succ _) ti_110_4 rfl ?_
  refine a_w2 (z := 0) (Nat.le_succ _) ti_110_7 (by decide) ?_
  refine a_w5 (kk := 0) (Nat.le_succ _) ti_110_8 (fun _ => rfl) ?_
  refine a_w2 (z := 1) (Nat.le_succ _) ti_110_9 (by decide) ?_
  refine a_w6 (a := (0, a_w ((H 134 0) - 1))) (Nat.le_succ _) ti_110_10 rfl ?_
  refine a_w14 (a := (1, (a_w ((H 134 0) - 1)))) (Nat.le_succ _) ti_110_11 rfl ?_
  refine a_w3p (args := [(1, a1), (1, 0), (1, (a_w ((H 134 0) - 1)))]) (Nat.le_succ _) ti_110_12 (mt_108 a1 0 (a_w ((H 134 0) - 1)) H) rfl rfl rfl rfl ?_
  exact a_w4 (Nat.le_succ _) ti_110_15 rfl rfl rfl

/-! DUEL, the reference's -/
theorem a_p3 {k : Nat} (h : k ≤ 5) : 3 ^ k ≤ 243 := Nat.pow_le_pow_right (n := 3) (by decide) h
theorem r_opt_m {t a b c : Int} : r_opt t a b c = if t % 2 = 0 then a_max (a_max a b) c else a_min (a_min a b) c := by
  unfold r_opt
  rw [a_max3, a_min3]
theorem m_duel {G : a_P} {a1 m : Int} (ho : a_ok m (G 134)) (c : 0 ≤ a1 ∧ a1 ≤ 5) : a_Qf1 (r_C (r_fb (G 134)) a1 a1.toNat (G 134 2)) (fn_168 a1 G) := by
  have v1 : ¬ fn_108 a1 0 5 = 0 := by rw [fe_108z]; exact fun q => q c
  have hl0 := ho.2.2.1
  obtain ⟨n, hn⟩ : ∃ n : Nat, a1 = (n : Int) := ⟨a1.toNat, by omega⟩
  have n5 : n ≤ 5 := by omega
  generalize hV : r_C (r_fb (G 134)) a1 a1.toNat (G 134 2) = V
  have ent : a1.toNat = n := by omega
  rw [ent] at hV
  unfold fn_168
  rw [if_neg v1]
  refine a_fjn (Q := a_Qf1 V) (fun s1 : Int => s1 = ((3 ^ n : Nat) : Int)) (fun s1 h1 => ?_) (fun j hj => ?_)
  · subst h1
    have p3 := a_p3 n5
    have pp : 0 < 3 ^ n := Nat.pow_pos (by decide)
    refine a_fbd1 (Q := a_Qf1 V) ?_
    have hK := a_asd_0 G
    generalize fn_153 G = K at hK
    refine a_fjn (Q := a_Qf1 V) (fun s2 : a_P => ∀ x : Nat, x < 3 ^ n → s2 139 (x : Int) = r_fb (G 134) (r_F (G 134 2) n (x : Int))) (fun s2 h2 => ?_) (fun j hj => ?_)
    · refine a_fbd1 (Q := a_Qf1 V) ?_
      rw [a_w_id (x := a1 - 1) (by omega) (by omega)]
      refine a_fjn (Q := a_Qf1 V) (fun s3 : a_P => s3 139 0 = V) (fun s3 h3 => h3) (fun j hj => ?_)
      refine a_lp_up (Q := a_Qf1 V) (fun k (s : Int × Int × a_P) => s.2.1 = a1 - 1 - (k : Int) ∧ s.1 = ((3 ^ (n - k) : Nat) : Int) ∧ ∀ x : Nat, x < 3 ^ (n - k) → s.2.2 139 (x : Int) = r_C (r_fb (G 134)) a1 k (r_F (G 134 2) (n - k) (x : Int))) n (by omega) (fun k s hk hss nx hnx => ?_) (fun s hss nx => ?_) (((3 ^ n : Nat) : Int), a1 - 1, s2) ⟨by show a1 - 1 = a1 - 1 - ((0 : Nat) : Int); omega, rfl, h2⟩
      · obtain ⟨q1, q2, q3⟩ := hss
        obtain ⟨d, hd⟩ : ∃ d, n - k = d + 1 := ⟨n - k - 1, by omega⟩
        have hd2 : n - (k + 1) = d := by omega
        rw [hd] at q2 q3
        have pd := a_p3 (k := d) (by omega)
        have pd1 := a_p3 (k := d + 1) (by omega)
        have ps : 3 ^ (d + 1) = 3 * 3 ^ d := by rw [Nat.pow_succ, Nat.mul_comm]
        have dv : a_div s.1 3 = ((3 ^ d : Nat) : Int) := by
          rw [q2, a_div_id (by omega) (by omega) (by decide), ps]
          omega
        rw [if_neg (by rw [q1]; omega)]
        refine a_fbd1 (Q := a_Qf1 V) ?_
        rw [dv]
        refine a_fjn (Q := a_Qf1 V) (fun s5 : a_P => ∀ x : Nat, x < 3 ^ d → s5 139 (x : Int) = r_C (r_fb (G 134)) a1 (k + 1) (r_F (G 134 2) d (x : Int))) (fun s5 h5 => ?_) (fun j2 hj2 => ?_)
        · refine a_fbd1 (Q := a_Qf1 V) ?_
          have ew : Unit → a_w (s.2.1 + -1) = a1 - 1 - ((k + 1 : Nat) : Int) := fun _ => by rw [q1, a_w_id (by omega) (by omega)]; omega
          rw [ew ()]
          refine hnx (_, _, _) ⟨rfl, ?_, ?_⟩
          · show ((3 ^ d : Nat) : Int) = ((3 ^ (n - (k + 1)) : Nat) : Int)
            rw [hd2]
          · show ∀ x : Nat, x < 3 ^ (n - (k + 1)) → s5 139 (x : Int) = r_C (r_fb (G 134)) a1 (k + 1) (r_F (G 134 2) (n - (k + 1)) (x : Int))
            rw [hd2]
            exact h5
        · refine a_lp_up (Q := a_Qf1 V) (fun i (u : Int × a_P) => u.1 = (i : Int) ∧ (∀ x : Nat, x < i → u.2 139 (x : Int) = r_C (r_fb (G 134)) a1 (k + 1) (r_F (G 134 2) d (x : Int))) ∧ ∀ x : Nat, i ≤ x → x < 3 ^ (d + 1) → u.2 139 (x : Int) = r_C (r_fb (G 134)) a1 k (r_F (G 134 2) (d + 1) (x : Int))) (3 ^ d) (by omega) (fun i u hi hu nx2 hnx2 => ?_) (fun u hu nx2 => ?_) (0, s.2.2) ⟨rfl, fun x hx => absurd hx (by omega), fun x _ hx => q3 x hx⟩
          · obtain ⟨u1, u2, u3⟩ := hu
            rw [if_pos (by rw [u1]; omega)]
            refine a_fbd1 (Q := a_Qf1 V) ?_
            have e3 : Unit → a_w (3 * u.1) = ((3 * i : Nat) : Int) := fun _ => by rw [u1, a_w_id (by omega) (by omega)]; omega
            have Fb := r_F_b hl0 d (i : Int)
            have val : ∀ w : Nat, w < 3 → u.2 139 ((3 * i + w : Nat) : Int) = r_C (r_fb (G 134)) a1 k ((r_F (G 134 2) d (i : Int) + r_mv (w : Int)) % 4) := fun w hw => by
              rw [u3 (3 * i + w) (by omega) (by omega)]
              have e1 : ((3 * i + w : Nat) : Int) / 3 = (i : Int) := by omega
              have e2 : ((3 * i + w : Nat) : Int) % 3 = (w : Int) := by omega
              show r_C (r_fb (G 134)) a1 k ((r_F (G 134 2) d (((3 * i + w : Nat) : Int) / 3) + r_mv (((3 * i + w : Nat) : Int) % 3)) % 4) = _
              rw [e1, e2]
            have w0 := val 0 (by omega)
            have w1 := val 1 (by omega)
            have w2 := val 2 (by omega)
            have m0 : r_mv ((0 : Nat) : Int) = 0 := by decide
            have m1 : r_mv ((1 : Nat) : Int) = 1 := by decide
            have m2 : r_mv ((2 : Nat) : Int) = 3 := by decide
            rw [m0, show (r_F (G 134 2) d (i : Int) + 0) % 4 = r_F (G 134 2) d (i : Int) by omega] at w0
            rw [m1] at w1
            rw [m2] at w2
            rw [e3 ()]
            have w0' : u.2 139 ((3 * i : Nat) : Int) = r_C (r_fb (G 134)) a1 k (r_F (G 134 2) d (i : Int)) := w0
            rw [w0']
            generalize hA : r_C (r_fb (G 134)) a1 k (r_F (G 134 2) d (i : Int)) = A at w0 w0'
            generalize hB : r_C (r_fb (G 134)) a1 k ((r_F (G 134 2) d (i : Int) + 1) % 4) = B at w1
            generalize hC : r_C (r_fb (G 134)) a1 k ((r_F (G 134 2) d (i : Int) + 3) % 4) = Cc at w2
            have tgt : r_C (r_fb (G 134)) a1 (k + 1) (r_F (G 134 2) d (i : Int)) = if (a1 - 1 - (k : Int)) % 2 = 0 then a_max (a_max A B) Cc else a_min (a_min A B) Cc := by
              rw [← r_opt_m, ← hA, ← hB, ← hC]
              rfl
            refine a_fjn (Q := a_Qf1 V) (fun s7 : Int => s7 = r_C (r_fb (G 134)) a1 (k + 1) (r_F (G 134 2) d (i : Int))) (fun s7 h7 => ?_) (fun j3 hj3 => ?_)
            · refine a_fbd1 (Q := a_Qf1 V) ?_
              refine a_fbd1 (Q := a_Qf1 V) ?_
              have ei : Unit → a_w (u.1 + 1) = ((i + 1 : Nat) : Int) := fun _ => by rw [u1, a_w_id (by omega) (by omega)]; omega
              rw [ei ()]
              refine hnx2 (_, _) ⟨rfl, fun x hx => ?_, fun x hx0 hx1 => ?_⟩
              · show a_up u.2 139 u.1 s7 139 (x : Int) = _
                by_cases cx : x = i
                · rw [cx, u1, a_up_eq, h7]
                · rw [a_up_ne (by rw [u1]; omega), u2 x (by omega)]
              · show a_up u.2 139 u.1 s7 139 (x : Int) = _
                rw [a_up_ne (by rw [u1]; omega), u3 x (by omega) hx1]
            · rw [q1, a_rem_id (x := a1 - 1 - (k : Int)) (by omega) (by omega) (by decide)]
              refine a_lp_up (Q := a_Qf1 V) (fun q (y : Int × Int) => (q = 0 ∧ y.1 = A ∧ y.2 = 1) ∨ (q = 1 ∧ y.1 = (if (a1 - 1 - (k : Int)) % 2 = 0 then a_max A B else a_min A B) ∧ y.2 = 2) ∨ (q = 2 ∧ y.1 = (if (a1 - 1 - (k : Int)) % 2 = 0 then a_max (a_max A B) Cc else a_min (a_min A B) Cc) ∧ y.2 = 3)) 2 (by omega) (fun q y hq hy nx3 hnx3 => ?_) (fun y hy nx3 => ?_) (A, 1) (Or.inl ⟨rfl, rfl, rfl⟩)
              · have e31 : Unit → a_w (((3 * i : Nat) : Int) + 1) = ((3 * i + 1 : Nat) : Int) := fun _ => by rw [a_w_id (by omega) (by omega)]; omega
                have e32 : Unit → a_w (((3 * i : Nat) : Int) + 2) = ((3 * i + 2 : Nat) : Int) := fun _ => by rw [a_w_id (by omega) (by omega)]; omega
                have a11 : a_w (1 + 1) = 2 := by decide +kernel
                have a21 : a_w (2 + 1) = 3 := by decide +kernel
                rcases hy with ⟨y0, y1, y2⟩ | ⟨y0, y1, y2⟩ | ⟨y0, y1, y2⟩
                · rw [y1, y2, if_pos (by decide)]
                  simp only [a_jn, a_bd]
                  rw [e31 (), w1, a11]
                  by_cases dt : (a1 - 1 - (k : Int)) % 2 = 0
                  · rw [if_pos dt]
                    by_cases dx : A < B
                    · rw [if_pos dx]
                      exact hnx3 (_, _) (Or.inr (Or.inl ⟨by omega, by rw [if_pos dt]; unfold a_max; rw [if_pos dx], rfl⟩))
                    · rw [if_neg dx]
                      exact hnx3 (_, _) (Or.inr (Or.inl ⟨by omega, by rw [if_pos dt]; unfold a_max; rw [if_neg dx], rfl⟩))
                  · rw [if_neg dt]
                    by_cases dx : B < A
                    · rw [if_pos dx]
                      exact hnx3 (_, _) (Or.inr (Or.inl ⟨by omega, by rw [if_neg dt]; unfold a_min; rw [if_pos dx], rfl⟩))
                    · rw [if_neg dx]
                      exact hnx3 (_, _) (Or.inr (Or.inl ⟨by omega, by rw [if_neg dt]; unfold a_min; rw [if_neg dx], rfl⟩))
                · rw [y2, if_pos (by decide)]
                  simp only [a_jn, a_bd]
                  rw [e32 (), w2, a21]
                  by_cases dt : (a1 - 1 - (k : Int)) % 2 = 0
                  · rw [if_pos dt] at y1
                    rw [if_pos dt, y1]
                    by_cases dx : a_max A B < Cc
                    · rw [if_pos dx]
                      exact hnx3 (_, _) (Or.inr (Or.inr ⟨by omega, by rw [if_pos dt]; unfold a_max at dx ⊢; rw [if_pos dx], rfl⟩))
                    · rw [if_neg dx]
                      exact hnx3 (_, _) (Or.inr (Or.inr ⟨by omega, by rw [if_pos dt]; exact (if_neg dx).symm, rfl⟩))
                  · rw [if_neg dt] at y1
                    rw [if_neg dt, y1]
                    by_cases dx : Cc < a_min A B
                    · rw [if_pos dx]
                      exact hnx3 (_, _) (Or.inr (Or.inr ⟨by omega, by rw [if_neg dt]; exact (if_pos dx).symm, rfl⟩))
                    · rw [if_neg dx]
                      exact hnx3 (_, _) (Or.inr (Or.inr ⟨by omega, by rw [if_neg dt]; exact (if_neg dx).symm, rfl⟩))
                · omega
              · rcases hy with ⟨y0, -⟩ | ⟨y0, -⟩ | ⟨y0, y1, y2⟩
                · exact absurd y0 (by omega)
                · exact absurd y0 (by omega)
                · rw [y2, if_neg (by decide)]
                  exact hj3 _ (by rw [tgt]; exact y1)
          · obtain ⟨u1, u2, u3⟩ := hu
            rw [if_neg (by rw [u1]; omega)]
            exact hj2 _ u2
      · obtain ⟨q1, q2, q3⟩ := hss
        rw [if_pos (by rw [q1]; omega)]
        refine hj _ ?_
        rw [show n - n = 0 by omega] at q3
        rw [← hV]
        exact q3 0 (by decide)
    · refine a_lp_up (Q := a_Qf1 V) (fun k (s : Int × a_P) => s.1 = (k : Int) ∧ a_asd s.2 (G 134) ∧ ∀ x : Nat, x < k → s.2 139 (x : Int) = r_fb (G 134) (r_F (G 134 2) n (x : Int))) (3 ^ n) (by omega) (fun k s hk hss nx hnx => ?_) (fun s hss nx => ?_) (0, K) ⟨rfl, hK, fun x hx => absurd hx (by omega)⟩
      · obtain ⟨q1, q2, q3⟩ := hss
        rw [if_pos (by rw [q1]; omega)]
        have Fb := r_F_b hl0 n (k : Int)
        have o5 := a_ok_l (l := r_F (G 134 2) n (k : Int)) ho Fb.1 Fb.2
        refine a_fjn (Q := a_Qf1 V) (fun X : a_P => a_pre X (G 134) ∧ X 134 = r_up (G 134) 2 (r_F (G 134 2) n (k : Int)) ∧ ∀ b, X 139 b = s.2 139 b) (fun X hX => ?_) (fun j2 hj2 => ?_)
        · obtain ⟨x1, x2, x3⟩ := hX
          refine a_fbd1 (Q := a_Qf1 V) ?_
          refine a_fbd1 (Q := a_Qf1 V) ?_
          refine a_fbd1 (Q := a_Qf1 V) ?_
          have val : fn_163 (fn_120 X) = r_fb (G 134) (r_F (G 134 2) n (k : Int)) := by
            rw [fe_163, r_who_eq, x2]
            rfl
          rw [val]
          have ei : Unit → a_w (s.1 + 1) = ((k + 1 : Nat) : Int) := fun _ => by rw [q1, a_w_id (by omega) (by omega)]; omega
          rw [ei ()]
          refine hnx (_, _) ⟨rfl, a_pre_back (a_pre_upo x1 (by omega) (by omega)), fun x hx => ?_⟩
          show fn_154 (a_up X 139 s.1 (r_fb (G 134) (r_F (G 134 2) n (k : Int)))) 139 (x : Int) = _
          rw [fr_154 _ 139 _ (by unfold w_154; omega)]
          by_cases cx : x = k
          · rw [cx, q1, a_up_eq]
          · rw [a_up_ne (by rw [q1]; omega), x3, q3 x (by omega)]
        · have e134 : s.2 134 = G 134 := funext q2.1
          refine a_lp_up (Q := a_Qf1 V) (fun t (u : Int × Int × a_P) => u.2.1 = (t : Int) ∧ u.1 = ((3 ^ (n - t) : Nat) : Int) ∧ a_pre u.2.2 (G 134) ∧ u.2.2 134 = r_up (G 134) 2 (r_F (G 134 2) t ((k / 3 ^ (n - t) : Nat) : Int)) ∧ ∀ b, u.2.2 139 b = s.2 139 b) n (by omega) (fun t u ht hu nx2 hnx2 => ?_) (fun u hu nx2 => ?_) (((3 ^ n : Nat) : Int), 0, s.2) ⟨rfl, rfl, a_pre_asd q2, by
            show s.2 134 = r_up (G 134) 2 (G 134 2)
            rw [e134]
            funext b
            by_cases cb : b = 2
            · rw [cb, r_up_eq]
            · rw [r_up_ne cb], fun b => rfl⟩
          · obtain ⟨u1, u2, u3, u4, u5⟩ := hu
            obtain ⟨d, hd⟩ : ∃ d, n - t = d + 1 := ⟨n - t - 1, by omega⟩
            have hd2 : n - (t + 1) = d := by omega
            rw [hd] at u2 u4
            have pd := a_p3 (k := d) (by omega)
            have ppd : 0 < 3 ^ d := Nat.pow_pos (by decide)
            have pd1 := a_p3 (k := d + 1) (by omega)
            have ps : 3 ^ (d + 1) = 3 ^ d * 3 := Nat.pow_succ ..
            have dv : a_div u.1 3 = ((3 ^ d : Nat) : Int) := by
              rw [u2, a_div_id (by omega) (by omega) (by decide), ps]
              omega
            have qd : k / 3 ^ (d + 1) = k / 3 ^ d / 3 := by rw [ps, Nat.div_div_eq_div_mul]
            rw [qd] at u4
            have kb : k / 3 ^ d ≤ k := Nat.div_le_self k (3 ^ d)
            have dk : a_div (k : Int) ((3 ^ d : Nat) : Int) = ((k / 3 ^ d : Nat) : Int) := by
              rw [a_div_id (by omega) (by omega) (by omega)]
              rfl
            rw [if_pos (by rw [u1]; omega)]
            refine a_fbd1 (Q := a_Qf1 V) ?_
            rw [dv, q1]
            refine a_fbd1 (Q := a_Qf1 V) ?_
            rw [dk]
            generalize hN : k / 3 ^ d = N at u4 kb
            rw [a_rem_id (x := (N : Int)) (by omega) (by omega) (by decide)]
            have Fb2 := r_F_b hl0 t ((N / 3 : Nat) : Int)
            refine a_fjn (Q := a_Qf1 V) (fun v : Int => v = r_mv ((N : Int) % 3)) (fun v hv => ?_) (fun j3 hj3 => ?_)
            · refine a_fbd1 (Q := a_Qf1 V) ?_
              refine a_fbd1 (Q := a_Qf1 V) ?_
              have vb : 0 ≤ v ∧ v ≤ 3 := by rw [hv]; unfold r_mv; split <;> omega
              have y2 : u.2.2 134 2 = r_F (G 134 2) t ((N / 3 : Nat) : Int) := by rw [u4, r_up_eq]
              have new : a_rem (a_w (u.2.2 134 2 + v)) 4 = r_F (G 134 2) (t + 1) (N : Int) := by
                rw [y2, a_w_id (by omega) (by omega), a_rem_id (by omega) (by omega) (by decide), hv]
                have e1 : (N : Int) / 3 = ((N / 3 : Nat) : Int) := by omega
                show _ = (r_F (G 134 2) t ((N : Int) / 3) + r_mv ((N : Int) % 3)) % 4
                rw [e1]
              rw [new]
              have ei : Unit → a_w (u.2.1 + 1) = ((t + 1 : Nat) : Int) := fun _ => by rw [u1, a_w_id (by omega) (by omega)]; omega
              rw [ei ()]
              refine hnx2 (_, _, _) ⟨rfl, ?_, a_pre_up u3 (by omega) (by omega), ?_, fun b => ?_⟩
              · show ((3 ^ d : Nat) : Int) = ((3 ^ (n - (t + 1)) : Nat) : Int)
                rw [hd2]
              · show a_up u.2.2 134 2 (r_F (G 134 2) (t + 1) (N : Int)) 134 = r_up (G 134) 2 (r_F (G 134 2) (t + 1) ((k / 3 ^ (n - (t + 1)) : Nat) : Int))
                rw [hd2, hN, a_up_row, u4]
                funext b
                by_cases cb : b = 2
                · rw [cb, r_up_eq, r_up_eq]
                · rw [r_up_ne cb, r_up_ne cb, r_up_ne cb]
              · show a_up u.2.2 134 2 (r_F (G 134 2) (t + 1) (N : Int)) 139 b = _
                rw [a_up_ne (by omega), u5]
            · refine a_fifc (fun dd => hj3 _ ?_) (fun dd => hj3 _ ?_)
              · unfold r_mv; rw [if_pos dd]
              · unfold r_mv; rw [if_neg dd]
          · obtain ⟨u1, u2, u3, u4, u5⟩ := hu
            rw [if_neg (by rw [u1]; omega)]
            refine hj2 _ ⟨u3, ?_, u5⟩
            rw [u4, show n - n = 0 by omega, show 3 ^ 0 = 1 from rfl, Nat.div_one]
      · obtain ⟨q1, q2, q3⟩ := hss
        rw [if_neg (by rw [q1]; omega)]
        exact hj _ q3
  · refine a_lp_up (Q := a_Qf1 V) (fun k (s : Int × Int) => s.2 = (k : Int) ∧ s.1 = ((3 ^ k : Nat) : Int)) n (by omega) (fun k s hk hss nx hnx => ?_) (fun s hss nx => ?_) (1, 0) ⟨rfl, rfl⟩
    · obtain ⟨q1, q2⟩ := hss
      have pk := a_p3 (k := k + 1) (by omega)
      have ps : 3 ^ (k + 1) = 3 ^ k * 3 := Nat.pow_succ ..
      rw [if_pos (by rw [q1]; omega)]
      refine a_fbd1 (Q := a_Qf1 V) ?_
      refine a_fbd1 (Q := a_Qf1 V) ?_
      have e1 : Unit → a_w (s.1 * 3) = ((3 ^ (k + 1) : Nat) : Int) := fun _ => by rw [q2, a_w_id (by omega) (by omega), ps]; omega
      have e2 : Unit → a_w (s.2 + 1) = ((k + 1 : Nat) : Int) := fun _ => by rw [q1, a_w_id (by omega) (by omega)]; omega
      rw [e1 (), e2 ()]
      exact hnx (_, _) ⟨rfl, rfl⟩
    · obtain ⟨q1, q2⟩ := hss
      rw [if_neg (by rw [q1]; omega)]
      exact hj _ q2
theorem r_C_0 {f : Int → Int} {n : Int} (h : ∀ l, 0 ≤ l → l < 4 → f l = 0) : ∀ (j : Nat) (l : Int), 0 ≤ l → l < 4 → r_C f n j l = 0
  | 0, l, l0, l1 => h l l0 l1
  | j + 1, l, l0, l1 => by
    unfold r_C
    rw [r_C_0 h j l l0 l1, r_C_0 h j ((l + 1) % 4) (by omega) (by omega), r_C_0 h j ((l + 3) % 4) (by omega) (by omega)]
    unfold r_opt a_max a_min
    split <;> decide
theorem r2_duel (a1 : Int) {H G : a_P} (h : a_R2 H G) : (fn_79 a1 H).1 = (fn_168 a1 G).1 := by
  by_cases c : 0 ≤ a1 ∧ a1 ≤ 5
  · have m1 : (fn_168 a1 G).1 = _ := m_duel h.1.2 c
    rw [m1]
    by_cases c3 : fn_117 G = 0
    · have st := fl_stands h.1.1 h.1.2
      have e1 : (fn_79 a1 H).1 = 0 := by
        simp only [fn_79, a_bd]
        rw [if_neg (by rw [fe_91z]; exact fun q => q (by omega)), if_pos (by rw [st]; exact c3)]
      rw [e1]
      have b3 : G 134 3 = -4 := by
        simp only [fn_117, a_jn] at c3
        by_cases d : G 134 3 = -4
        · exact d
        · rw [if_neg d] at c3
          exact absurd c3 (by decide)
      have fz : ∀ l, 0 ≤ l → l < 4 → r_fb (G 134) l = 0 := fun l _ _ => by
        unfold r_fb r_who
        simp only [fn_120, fn_117, a_jn]
        rw [r_up_ne (show ¬ (3 : Int) = 2 by decide), if_pos b3, if_pos rfl]
        decide +kernel
      have ol := h.1.2.2.2.1
      exact (r_C_0 fz _ _ (by omega) (by omega)).symm
    · exact c_duel h.1 c c3
  · have e1 : fn_79 a1 H = (-1, H) := by
      simp only [fn_79, a_bd]
      rw [if_pos ((fe_91z a1 6).mpr (by omega))]
    have e2 : fn_168 a1 G = (-1, G) := by
      simp only [fn_168, a_bd]
      rw [if_pos ((fe_108z a1 0 5).mpr c)]
    rw [e1, e2]
theorem aR_duel (a1 : Int) {G : a_P} (hR : a_R G) (hS : a_S G) : (fn_79 a1 G).1 = (fn_168 a1 (fn_79 a1 G).2).1 := a_glueA (f := fn_79 a1) (g := fn_168 a1) hR (fun a b q => fr_79 a1 G a b (by unfold w_79; omega)) (fun X hX => r2_duel a1 hX)

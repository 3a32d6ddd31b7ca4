/-! DUEL -/
def r_mv (w : Int) : Int := if w = 2 then 3 else w
/-- the look behind t turns, told by the digits of q -/
def r_F (l0 : Int) : Nat → Int → Int
  | 0, _ => l0
  | t + 1, q => (r_F l0 t (q / 3) + r_mv (q % 3)) % 4
def r_opt (t a b c : Int) : Int := if t % 2 = 0 then a_max a (a_max b c) else a_min a (a_min b c)
/-- what a look is worth ahead of the last j turns of n -/
def r_C (f : Int → Int) (n : Int) : Nat → Int → Int
  | 0, l => f l
  | j + 1, l => r_opt (n - 1 - (j : Int)) (r_C f n j l) (r_C f n j ((l + 1) % 4)) (r_C f n j ((l + 3) % 4))
theorem r_F_b {l0 : Int} (h : 0 ≤ l0 ∧ l0 ≤ 3) : ∀ (t : Nat) (q : Int), 0 ≤ r_F l0 t q ∧ r_F l0 t q ≤ 3
  | 0, _ => h
  | t + 1, q => by unfold r_F; omega
theorem a_max3 (a b c : Int) : a_max a (a_max b c) = a_max (a_max a b) c := by
  unfold a_max
  by_cases c1 : b < c
  · rw [if_pos c1]
    by_cases c2 : a < b
    · rw [if_pos c2, if_pos c1, if_pos (show a < c by omega)]
    · rw [if_neg c2]
  · rw [if_neg c1]
    by_cases c2 : a < b
    · rw [if_pos c2, if_neg c1]
    · rw [if_neg c2, if_neg (show ¬ a < c by omega)]
theorem a_min3 (a b c : Int) : a_min a (a_min b c) = a_min (a_min a b) c := by
  unfold a_min
  by_cases c1 : c < b
  · rw [if_pos c1]
    by_cases c2 : b < a
    · rw [if_pos c2, if_pos c1, if_pos (show c < a by omega)]
    · rw [if_neg c2]
  · rw [if_neg c1]
    by_cases c2 : b < a
    · rw [if_pos c2, if_neg c1]
    · rw [if_neg c2, if_neg (show ¬ c < a by omega)]
noncomputable def r_fb (W : Int → Int) (l : Int) : Int := r_bt (r_who (r_up W 2 l)) 8
theorem r_who_b {m : Int} {w : Int → Int} (ho : a_ok m w) : 0 ≤ r_who w ∧ r_who w ≤ 255 := by
  have lb := r_let_b ho
  unfold r_who
  simp only [fn_120, fn_117, a_jn]
  by_cases c : w 3 = -4
  · rw [if_pos c, if_pos rfl]; omega
  · rw [if_neg c, if_neg (show ¬ (1 : Int) = 0 by decide)]
    exact lb
/-- the class counts by look, and judges a turn -/
theorem c_count {H G : a_P} (h : a_now H G) : a_now (fn_96 H) G ∧ ∀ l, 0 ≤ l → l < 4 → fn_96 H 123 l = r_fb (G 134) l := by
  have key : ∀ l, 0 ≤ l → l < 4 → fn_96 H 123 l = r_fb (G 134) l := by
    unfold fn_96
    refine a_fbd1 (Q := fun X : a_P => ∀ l, 0 ≤ l → l < 4 → X 123 l = r_fb (G 134) l) ?_
    refine a_lp_up (Q := fun X : a_P => ∀ l, 0 ≤ l → l < 4 → X 123 l = r_fb (G 134) l) (fun k s => s.1 = (k : Int) ∧ (∃ V : Int → Int, a_sm s.2 7 V ∧ ∀ b, ¬ b = 2 → V b = G 134 b) ∧ ∀ l, 0 ≤ l → l < (k : Int) → s.2 123 l = r_fb (G 134) l) 4 (by omega) (fun k s hk hss nx hn => ?_) (fun s hss nx => ?_) (0, fn_10 7 1 H) ⟨rfl, ⟨G 134, c_like h, fun _ _ => rfl⟩, fun l l0 l1 => absurd l1 (by omega)⟩
    · obtain ⟨q1, ⟨V, q2, q3⟩, q4⟩ := hss
      have ek : Unit → a_w ((k : Int) + 1) = ((k + 1 : Nat) : Int) := fun _ => by rw [a_w_id (by omega) (by omega)]; omega
      rw [if_pos (by rw [q1]; omega), q1]
      simp only [a_bd]
      have ev : r_up V 2 (k : Int) = r_up (G 134) 2 (k : Int) := by
        funext b
        by_cases w : b = 2
        · rw [w, r_up_eq, r_up_eq]
        · rw [r_up_ne w, r_up_ne w, q3 b w]
      have s5 : a_sm (a_up s.2 7 1 (k : Int)) 7 (r_up (G 134) 2 (k : Int)) := by
        rw [← ev]
        exact a_sm_f (f := 1) q2 (by omega) (by omega)
      have o5 := a_ok_l (l := (k : Int)) h.2 (by omega) (by omega)
      have wb := r_who_b o5
      have val : fn_185 (fn_23 7 (a_up s.2 7 1 (k : Int))) = r_fb (G 134) (k : Int) := by
        rw [c_who s5 o5]
        exact (a_bits wb.1 wb.2).1
      rw [val, ek ()]
      refine hn (_, _) ⟨rfl, ⟨r_up (G 134) 2 (k : Int), a_sm_fr s5 (fun a b w1 w2 => a_up_ne (by omega)), fun b w => r_up_ne w⟩, fun l l0 l1 => ?_⟩
      show a_up (a_up s.2 7 1 (k : Int)) 123 (k : Int) (r_fb (G 134) (k : Int)) 123 l = _
      by_cases c : l = (k : Int)
      · rw [c, a_up_eq]
      · rw [a_up_ne (by omega), a_up_ne (by omega), q4 l l0 (by omega)]
    · rw [if_neg (by rw [hss.1]; omega)]
      exact fun l l0 l1 => hss.2.2 l l0 (by omega)
  exact ⟨a_now_fr h (fun a b q1 q2 => fr_96 H a b (by unfold w_96; omega)) (fun _ _ _ => rfl), key⟩
theorem c_judge {H : a_P} {a1 t : Int} (h : (a1 = 0 ∧ ¬ t % 2 = 0) ∨ (a1 = 1 ∧ t % 2 = 0)) : ∀ l, 0 ≤ l → l < 4 → fn_97 a1 H 123 l = r_opt t (H 123 l) (H 123 ((l + 1) % 4)) (H 123 ((l + 3) % 4)) := by
  unfold fn_97
  refine a_fbd1 (Q := fun X : a_P => ∀ l, 0 ≤ l → l < 4 → X 123 l = r_opt t (H 123 l) (H 123 ((l + 1) % 4)) (H 123 ((l + 3) % 4))) ?_
  have c124 : ∀ b, 0 ≤ b → b < 4 → a_cp H 123 0 124 0 4 124 b = H 123 b := fun b b0 b1 => by
    rw [a_cp_eq b0 (by omega), show 0 + (b - 0) = b by omega]
  refine a_lp_up (Q := fun X : a_P => ∀ l, 0 ≤ l → l < 4 → X 123 l = r_opt t (H 123 l) (H 123 ((l + 1) % 4)) (H 123 ((l + 3) % 4))) (fun k s => s.1 = (k : Int) ∧ (∀ b, 0 ≤ b → b < 4 → s.2 124 b = H 123 b) ∧ ∀ l, 0 ≤ l → l < (k : Int) → s.2 123 l = r_opt t (H 123 l) (H 123 ((l + 1) % 4)) (H 123 ((l + 3) % 4))) 4 (by omega) (fun k s hk hss nx hn => ?_) (fun s hss nx => ?_) (0, a_cp H 123 0 124 0 4) ⟨rfl, c124, fun l l0 l1 => absurd l1 (by omega)⟩
  · obtain ⟨q1, q2, q3⟩ := hss
    have ek : Unit → a_w ((k : Int) + 1) = ((k + 1 : Nat) : Int) := fun _ => by rw [a_w_id (by omega) (by omega)]; omega
    have er : Unit → a_rem ((k + 1 : Nat) : Int) 4 = ((k : Int) + 1) % 4 := fun _ => by rw [a_rem_id (by omega) (by omega) (by decide), show ((k + 1 : Nat) : Int) = (k : Int) + 1 by omega]
    have el : Unit → a_rem (a_w (a_w ((k : Int) + 4) - 1)) 4 = ((k : Int) + 3) % 4 := fun _ => by rw [a_w_id (x := (k : Int) + 4) (by omega) (by omega), a_w_id (by omega) (by omega), a_rem_id (by omega) (by omega) (by decide), show (k : Int) + 4 - 1 = (k : Int) + 3 by omega]
    rw [if_pos (by rw [q1]; omega), q1]
    simp only [a_jn, a_bd]
    rw [ek (), er (), el (), q2 (((k : Int) + 1) % 4) (by omega) (by omega), q2 (((k : Int) + 3) % 4) (by omega) (by omega), q2 (k : Int) (by omega) (by omega)]
    have fin : ∀ v, v = r_opt t (H 123 (k : Int)) (H 123 (((k : Int) + 1) % 4)) (H 123 (((k : Int) + 3) % 4)) → (∀ l, 0 ≤ l → l < 4 → nx (((k + 1 : Nat) : Int), a_up s.2 123 (k : Int) v) 123 l = r_opt t (H 123 l) (H 123 ((l + 1) % 4)) (H 123 ((l + 3) % 4))) := fun v hv => by
      refine hn (_, _) ⟨rfl, fun b b0 b1 => ?_, fun l l0 l1 => ?_⟩
      · show a_up s.2 123 (k : Int) v 124 b = _
        rw [a_up_ne (by omega), q2 b b0 b1]
      · show a_up s.2 123 (k : Int) v 123 l = _
        by_cases c : l = (k : Int)
        · rw [c, a_up_eq, hv]
        · rw [a_up_ne (by omega), q3 l l0 (by omega)]
    rcases h with ⟨h1, h2⟩ | ⟨h1, h2⟩
    · rw [if_pos h1]
      exact fin _ (by unfold r_opt; rw [if_neg h2])
    · rw [if_neg (by omega)]
      exact fin _ (by unfold r_opt; rw [if_pos h2])
  · rw [if_neg (by rw [hss.1]; omega)]
    exact fun l l0 l1 => hss.2.2 l l0 (by omega)
theorem r_C_cong {f g : Int → Int} {n : Int} (h : ∀ l, 0 ≤ l → l < 4 → f l = g l) : ∀ (j : Nat) (l : Int), 0 ≤ l → l < 4 → r_C f n j l = r_C g n j l
  | 0, l, l0, l1 => h l l0 l1
  | j + 1, l, l0, l1 => by
    unfold r_C
    rw [r_C_cong h j l l0 l1, r_C_cong h j ((l + 1) % 4) (by omega) (by omega), r_C_cong h j ((l + 3) % 4) (by omega) (by omega)]
theorem c_duel {H G : a_P} {a1 : Int} (h : a_now H G) (c : 0 ≤ a1 ∧ a1 ≤ 5) (hs : ¬ fn_117 G = 0) : (fn_79 a1 H).1 = r_C (r_fb (G 134)) a1 a1.toNat (G 134 2) := by
  have st := fl_stands h.1 h.2
  have v1 : ¬ fn_91 a1 6 = 0 := by rw [fe_91z]; exact fun q => q (by omega)
  have v2 : ¬ fn_14 1 H = 0 := by rw [st]; exact hs
  obtain ⟨n1, c1⟩ := c_count h
  have key : a_Qf1 (r_C (r_fb (G 134)) a1 a1.toNat (G 134 2)) (fn_79 a1 H) := by
    unfold fn_79
    rw [if_neg v1, if_neg v2]
    refine a_fbd1 (Q := a_Qf1 _) ?_
    refine a_fbd1 (Q := a_Qf1 _) ?_
    rw [a_w_id (x := a1 - 1) (by omega) (by omega)]
    refine a_fjn (Q := a_Qf1 (r_C (r_fb (G 134)) a1 a1.toNat (G 134 2))) (fun X : a_P => a_now X G ∧ ∀ l, 0 ≤ l → l < 4 → X 123 l = r_C (r_fb (G 134)) a1 a1.toNat l) (fun X hX => ?_) (fun j hj => ?_)
    · have e2 : X 1 1 = G 134 2 := hX.1.1.2.1
      have ol := h.2.2.2.1
      rw [e2]
      simp only [a_jn]
      rw [if_neg (by rw [fe_91z]; exact fun q => q (by omega))]
      exact hX.2 _ (by omega) (by omega)
    · refine a_lp_up (Q := a_Qf1 (r_C (r_fb (G 134)) a1 a1.toNat (G 134 2))) (fun k s => s.1 = a1 - 1 - (k : Int) ∧ a_now s.2 G ∧ ∀ l, 0 ≤ l → l < 4 → s.2 123 l = r_C (r_fb (G 134)) a1 k l) a1.toNat (by omega) (fun k s hk hss nx hn => ?_) (fun s hss nx => ?_) (a1 - 1, fn_96 H) ⟨by show a1 - 1 = a1 - 1 - ((0 : Nat) : Int); omega, n1, c1⟩
      · obtain ⟨q1, q2, q3⟩ := hss
        rw [if_neg (by rw [q1]; omega), q1, a_rem_id (x := a1 - 1 - (k : Int)) (by omega) (by omega) (by decide)]
        refine a_fjn (Q := a_Qf1 (r_C (r_fb (G 134)) a1 a1.toNat (G 134 2))) (fun v : Int => (v = 0 ∧ ¬ (a1 - 1 - (k : Int)) % 2 = 0) ∨ (v = 1 ∧ (a1 - 1 - (k : Int)) % 2 = 0)) (fun v hv => ?_) (fun j2 hj2 => ?_)
        · refine a_fbd1 (Q := a_Qf1 _) ?_
          refine a_fbd1 (Q := a_Qf1 _) ?_
          have ew : Unit → a_w (a1 - 1 - (k : Int) + -1) = a1 - 1 - ((k + 1 : Nat) : Int) := fun _ => by rw [a_w_id (by omega) (by omega)]; omega
          rw [ew ()]
          have jd := c_judge (H := s.2) hv
          refine hn (_, _) ⟨rfl, a_now_fr q2 (fun a b w1 w2 => fr_97 v s.2 a b (by unfold w_97; omega)) (fun _ _ _ => rfl), fun l l0 l1 => ?_⟩
          show fn_97 v s.2 123 l = _
          rw [jd l l0 l1, q3 l l0 l1, q3 ((l + 1) % 4) (by omega) (by omega), q3 ((l + 3) % 4) (by omega) (by omega)]
          rfl
        · exact a_fifc (fun d => hj2 _ (Or.inr ⟨rfl, d⟩)) (fun d => hj2 _ (Or.inl ⟨rfl, d⟩))
      · obtain ⟨q1, q2, q3⟩ := hss
        rw [if_pos (by rw [q1]; omega)]
        exact hj _ ⟨q2, q3⟩
  exact key

/-! FIELD -/
theorem fe_16z {g l c : Int} (hg : 0 ≤ g ∧ g ≤ 35) (hl : 0 ≤ l ∧ l ≤ 3) (hc : 0 ≤ c ∧ c ≤ 35) : (fn_16 g l c = 0) ↔ 0 < r_on g l c := by
  rw [fe_16 hg hl hc]
  by_cases c1 : r_on g l c = 0
  · rw [if_pos c1]; omega
  · rw [if_neg c1]
    by_cases c2 : 0 < r_on g l c
    · rw [if_pos c2]; omega
    · rw [if_neg c2]; omega
/-- whether a cell is ahead of THE GATE, of the second one (1, 0) -/
noncomputable def r_A (G : a_P) (c : Int) : Int := if fn_117 G = 0 then 0 else if fn_116 c G = 0 then 1 else 0
def r_B (g l c : Int) : Int := if 0 < r_on g l c then 1 else 0
noncomputable def r_op (G : a_P) (g l c : Int) : Int := if r_A G c = 0 then (if r_B g l c = 0 then 1 else 0) else 0
theorem r_A01 (G : a_P) (c : Int) : r_A G c = 0 ∨ r_A G c = 1 := by
  unfold r_A
  split
  · exact Or.inl rfl
  · split
    · exact Or.inr rfl
    · exact Or.inl rfl
theorem r_B01 (g l c : Int) : r_B g l c = 0 ∨ r_B g l c = 1 := by
  unfold r_B
  split
  · exact Or.inr rfl
  · exact Or.inl rfl
theorem fe_98 {H G : a_P} {c : Int} (h : a_now H G) (hc : 0 ≤ c ∧ c ≤ 35) : fn_98 c H = r_A G c := by
  have st := fl_stands h.1 h.2
  have e0 : H 1 0 = G 134 1 := h.1.1
  have e1 : H 1 1 = G 134 2 := h.1.2.1
  have sd : fn_19 1 c H = fn_116 c G := by
    unfold fn_19
    rw [e0, e1]
    exact fl_side h.2.2.1 h.2.2.2.1 hc rfl rfl
  simp only [fn_98, a_jn, st, sd]
  rfl
theorem fe_99 {H G : a_P} {c g l : Int} (h : a_now H G) (hc : 0 ≤ c ∧ c ≤ 35) (hg : 0 ≤ g ∧ g ≤ 35) (hl : 0 ≤ l ∧ l ≤ 3) : fn_99 c g l H = r_op G g l c := by
  simp only [fn_99, a_jn, fe_98 h hc, fe_16z hg hl hc]
  unfold r_op r_B
  by_cases c1 : r_A G c = 0
  · rw [if_pos c1, if_pos c1]
    by_cases c2 : 0 < r_on g l c
    · rw [if_pos c2, if_pos c2, if_neg (show ¬ (1 : Int) = 0 by decide)]
    · rw [if_neg c2, if_neg c2, if_pos rfl]
  · rw [if_neg c1, if_neg c1]
noncomputable def r_cn (G : a_P) (g l : Int) : Nat → Int
  | 0 => 0
  | k + 1 => r_cn G g l k + r_op G g l (k : Int)
theorem r_op01 (G : a_P) (g l c : Int) : r_op G g l c = 0 ∨ r_op G g l c = 1 := by
  unfold r_op
  split
  · split
    · exact Or.inr rfl
    · exact Or.inl rfl
  · exact Or.inl rfl
theorem r_cn_b (G : a_P) (g l : Int) : ∀ k : Nat, 0 ≤ r_cn G g l k ∧ r_cn G g l k ≤ (k : Int)
  | 0 => ⟨Int.le_refl 0, Int.le_refl 0⟩
  | k + 1 => by
    have h := r_cn_b G g l k
    have o := r_op01 G g l (k : Int)
    show 0 ≤ r_cn G g l k + r_op G g l (k : Int) ∧ r_cn G g l k + r_op G g l (k : Int) ≤ ((k + 1 : Nat) : Int)
    omega
noncomputable def r_rm (G : a_P) (g l : Int) : Nat → Int
  | 0 => 1
  | k + 1 => if r_A G (k : Int) = 0 then r_rm G g l k else if r_B g l (k : Int) = 0 then r_rm G g l k else 0
theorem r_rm_0 {G : a_P} {g l : Int} {j : Nat} (h1 : ¬ r_A G (j : Int) = 0) (h2 : ¬ r_B g l (j : Int) = 0) : ∀ k, j < k → r_rm G g l k = 0
  | 0, h => absurd h (by omega)
  | k + 1, h => by
    unfold r_rm
    by_cases c : j = k
    · subst c
      rw [if_neg h1, if_neg h2]
    · have ih := r_rm_0 h1 h2 k (by omega)
      rw [ih]
      split
      · rfl
      · split
        · rfl
        · rfl
theorem c_cells {H G : a_P} {g l : Int} (h : a_now H G) (hg : 0 ≤ g ∧ g ≤ 35) (hl : 0 ≤ l ∧ l ≤ 3) : fn_100 g l H = r_cn G g l 36 := by
  unfold fn_100
  refine a_lp_up (Q := fun v : Int => v = r_cn G g l 36) (fun k s => s.2 = (k : Int) ∧ s.1 = r_cn G g l k) 36 (by omega) (fun k s hk hs nx hn => ?_) (fun s hs nx => ?_) (0, 0) ⟨rfl, rfl⟩
  · obtain ⟨q1, q2⟩ := hs
    have b := r_cn_b G g l k
    have o := r_op01 G g l (k : Int)
    have e1 : Unit → a_w ((k : Int) + 1) = ((k + 1 : Nat) : Int) := fun _ => by rw [a_w_id (by omega) (by omega)]; omega
    have e2 : Unit → a_w (r_cn G g l k + 1) = r_cn G g l k + 1 := fun _ => a_w_id (by omega) (by omega)
    rw [if_pos (by rw [q1]; omega), q1, q2]
    simp only [a_jn, a_bd]
    rw [fe_99 h (by omega) hg hl, e1 (), e2 ()]
    rcases o with o | o
    · rw [if_pos o]
      refine hn (_, _) ⟨rfl, ?_⟩
      show r_cn G g l k = r_cn G g l k + r_op G g l (k : Int)
      omega
    · rw [if_neg (by omega)]
      refine hn (_, _) ⟨rfl, ?_⟩
      show r_cn G g l k + 1 = r_cn G g l k + r_op G g l (k : Int)
      omega
  · rw [if_neg (by rw [hs.1]; omega)]
    exact hs.2
theorem c_rooms {H G : a_P} {g l : Int} (h : a_now H G) (hg : 0 ≤ g ∧ g ≤ 35) (hl : 0 ≤ l ∧ l ≤ 3) : fn_102 g l H = r_rm G g l 36 := by
  unfold fn_102
  refine a_lp_up (Q := fun v : Int => v = r_rm G g l 36) (fun k s => s = (k : Int) ∧ r_rm G g l k = 1) 36 (by omega) (fun k s hk hs nx hn => ?_) (fun s hs nx => ?_) 0 ⟨rfl, rfl⟩
  · obtain ⟨q1, q2⟩ := hs
    have e1 : Unit → a_w ((k : Int) + 1) = ((k + 1 : Nat) : Int) := fun _ => by rw [a_w_id (by omega) (by omega)]; omega
    rw [if_pos (by rw [q1]; omega), q1]
    simp only [a_jn, a_bd]
    rw [fe_98 h (by omega), e1 ()]
    have z := fe_16z (c := (k : Int)) hg hl (by omega)
    by_cases c1 : r_A G (k : Int) = 0
    · rw [if_pos c1]
      refine hn _ ⟨rfl, ?_⟩
      show (if r_A G (k : Int) = 0 then r_rm G g l k else _) = 1
      rw [if_pos c1, q2]
    · rw [if_neg c1]
      by_cases c2 : 0 < r_on g l (k : Int)
      · rw [if_pos (z.mpr c2)]
        have b1 : ¬ r_B g l (k : Int) = 0 := by unfold r_B; rw [if_pos c2]; decide
        exact (r_rm_0 c1 b1 36 hk).symm
      · rw [if_neg (fun q => c2 (z.mp q))]
        have b1 : r_B g l (k : Int) = 0 := by unfold r_B; rw [if_neg c2]
        refine hn _ ⟨rfl, ?_⟩
        show (if r_A G (k : Int) = 0 then r_rm G g l k else if r_B g l (k : Int) = 0 then r_rm G g l k else 0) = 1
        rw [if_neg c1, if_pos b1, q2]
  · rw [if_neg (by rw [hs.1]; omega)]
    exact hs.2.symm
/-! a set, bit by bit -/
theorem a_orv0 : ∀ x : Fin 256, ∀ k : Fin 8, a_or (x.val : Int) (a_shl 1 (k.val : Int)) = ((x.val ||| 2 ^ k.val : Nat) : Int) := by decide +kernel
theorem a_or00 : ∀ x : Fin 256, a_or (x.val : Int) 0 = (x.val : Int) := by decide +kernel
/-- n is the set of those i below k of whom f i is not 0 -/
def a_bs (f : Int → Int) (k n : Nat) : Prop := n < 256 ∧ ∀ i : Nat, n.testBit i = (decide (i < k) && decide (¬ f (i : Int) = 0))
theorem a_bs_u {f g : Int → Int} {k n m : Nat} (h1 : a_bs f k n) (h2 : a_bs g k m) (h : ∀ i : Nat, i < k → (f (i : Int) = 0 ↔ g (i : Int) = 0)) : n = m := by
  refine Nat.eq_of_testBit_eq (fun i => ?_)
  rw [h1.2 i, h2.2 i]
  by_cases c : i < k
  · have e := h i c
    rw [show decide (¬ f (i : Int) = 0) = decide (¬ g (i : Int) = 0) from decide_eq_decide.mpr (not_congr e)]
  · rw [decide_eq_false c]
    rfl
theorem a_or_n {n k : Nat} (hn : n < 256) (hk : k < 8) : a_or (n : Int) (a_shl 1 (k : Int)) = ((n ||| 2 ^ k : Nat) : Int) := a_orv0 ⟨n, hn⟩ ⟨k, hk⟩
theorem a_or_lt {n k : Nat} (hn : n < 256) (hk : k < 8) : n ||| 2 ^ k < 256 := Nat.or_lt_two_pow (n := 8) hn (Nat.pow_lt_pow_right (by decide) hk)
theorem c_people {H G : a_P} {g l : Int} (h : a_now H G) (hg : 0 ≤ g ∧ g ≤ 35) (hl : 0 ≤ l ∧ l ≤ 3) : ∃ n : Nat, fn_101 g l H = (n : Int) ∧ a_bs (fun i => r_op G g l (G 134 (15 + i))) (G 134 0).toNat n := by
  have b0 := h.2.1
  have e6 : H 1 6 = G 134 0 := h.1.2.2.2.2.2.2.1
  unfold fn_101
  refine a_lp_up (Q := fun v : Int => ∃ n : Nat, v = (n : Int) ∧ a_bs (fun i => r_op G g l (G 134 (15 + i))) (G 134 0).toNat n) (fun k s => s.2 = (k : Int) ∧ ∃ n : Nat, s.1 = (n : Int) ∧ a_bs (fun i => r_op G g l (G 134 (15 + i))) k n) (G 134 0).toNat (by omega) (fun k s hk hs nx hn => ?_) (fun s hs nx => ?_) (0, 0) ⟨rfl, 0, rfl, by decide, fun i => by rw [Nat.zero_testBit, decide_eq_false (show ¬ i < 0 by omega)]; rfl⟩
  · obtain ⟨q1, n, q2, q3⟩ := hs
    have e1 : Unit → a_w ((k : Int) + 1) = ((k + 1 : Nat) : Int) := fun _ => by rw [a_w_id (by omega) (by omega)]; omega
    have ec : H 3 (k : Int) = G 134 (15 + (k : Int)) := (h.1.2.2.2.2.2.2.2 (k : Int) (by omega) (by omega)).2.1
    have oc := (h.2.2.2.2.2.2.2.2 (k : Int) (by omega) (by omega)).2.1
    rw [if_pos (by rw [q1, e6]; omega), q1, q2]
    simp only [a_jn, a_bd]
    rw [ec, fe_99 h oc hg hl, e1 ()]
    have n8 : n.testBit k = false := by rw [q3.2 k, decide_eq_false (show ¬ k < k by omega)]; rfl
    by_cases c : r_op G g l (G 134 (15 + (k : Int))) = 0
    · rw [if_pos c]
      refine hn (_, _) ⟨rfl, n, rfl, q3.1, fun i => ?_⟩
      rw [q3.2 i]
      by_cases d : i = k
      · subst d
        rw [decide_eq_false (show ¬ i < i by omega), decide_eq_false (show ¬ ¬ r_op G g l (G 134 (15 + (i : Int))) = 0 from fun q => q c), Bool.and_false, Bool.and_false]
      · by_cases d2 : i < k
        · rw [decide_eq_true d2, decide_eq_true (show i < k + 1 by omega)]
        · rw [decide_eq_false d2, decide_eq_false (show ¬ i < k + 1 by omega)]
    · rw [if_neg c, a_or_n q3.1 (by omega)]
      refine hn (_, _) ⟨rfl, n ||| 2 ^ k, rfl, a_or_lt q3.1 (by omega), fun i => ?_⟩
      rw [Nat.testBit_or, Nat.testBit_two_pow, q3.2 i]
      by_cases d : i = k
      · subst d
        rw [decide_eq_true (show i = i from rfl), Bool.or_true, decide_eq_true (show i < i + 1 by omega), decide_eq_true (show ¬ r_op G g l (G 134 (15 + (i : Int))) = 0 from c)]
        rfl
      · rw [decide_eq_false (show ¬ k = i by omega), Bool.or_false]
        by_cases d2 : i < k
        · rw [decide_eq_true d2, decide_eq_true (show i < k + 1 by omega)]
        · rw [decide_eq_false d2, decide_eq_false (show ¬ i < k + 1 by omega)]
  · obtain ⟨q1, n, q2, q3⟩ := hs
    rw [if_neg (by rw [q1, e6]; omega)]
    exact ⟨n, q2, q3⟩
theorem a_bs_e {f g : Int → Int} {k n : Nat} (h1 : a_bs f k n) (h : ∀ i : Nat, i < k → (f (i : Int) = 0 ↔ g (i : Int) = 0)) : a_bs g k n := by
  refine ⟨h1.1, fun i => ?_⟩
  rw [h1.2 i]
  by_cases c : i < k
  · have e := h i c
    rw [show decide (¬ f (i : Int) = 0) = decide (¬ g (i : Int) = 0) from decide_eq_decide.mpr (not_congr e)]
  · rw [decide_eq_false c]
    rfl
/-- one bit more -/
theorem a_bs_1 {f g : Int → Int} {k n j : Nat} (h1 : a_bs f k n) (hj : j < k) (k8 : k ≤ 8) (hg : ¬ g (j : Int) = 0) (h : ∀ i : Nat, i < k → ¬ i = j → (f (i : Int) = 0 ↔ g (i : Int) = 0)) : a_bs g k (n ||| 2 ^ j) := by
  refine ⟨a_or_lt h1.1 (by omega), fun i => ?_⟩
  rw [Nat.testBit_or, Nat.testBit_two_pow, h1.2 i]
  by_cases c : i = j
  · subst c
    rw [decide_eq_true (show i = i from rfl), Bool.or_true, decide_eq_true hj, decide_eq_true hg]
    rfl
  · rw [decide_eq_false (show ¬ j = i by omega), Bool.or_false]
    by_cases d : i < k
    · have e := h i d c
      rw [show decide (¬ f (i : Int) = 0) = decide (¬ g (i : Int) = 0) from decide_eq_decide.mpr (not_congr e)]
    · rw [decide_eq_false d]
      rfl
def a_Qi (V v : Int) : Prop := v = V
/-- those who stand at an open cell below k -/
noncomputable def r_fk (G : a_P) (g l k : Int) : Int → Int := fun i => if G 134 (15 + i) < k then r_op G g l (G 134 (15 + i)) else 0
theorem m_field {G : a_P} {a1 a2 a3 m : Int} {nP : Nat} (ho : a_ok m (G 134)) (hg : 0 ≤ a1 ∧ a1 ≤ 35) (hl : 0 ≤ a2 ∧ a2 ≤ 3) (h3 : 0 ≤ a3 ∧ a3 ≤ 2) (hP : a_bs (fun i => r_op G a1 a2 (G 134 (15 + i))) (G 134 0).toNat nP) : a_Qi (if a3 = 0 then r_cn G a1 a2 36 else if a3 = 1 then (nP : Int) else r_rm G a1 a2 36) (fn_170 a1 a2 a3 G) := by
  have b0 := ho.1
  have v1 : ¬ fn_111 a1 = 0 := by unfold fn_111; rw [fe_108z]; exact fun q => q hg
  have v2 : ¬ fn_108 a2 0 3 = 0 := by rw [fe_108z]; exact fun q => q hl
  have v3 : ¬ fn_108 a3 0 2 = 0 := by rw [fe_108z]; exact fun q => q h3
  generalize hV : (if a3 = 0 then r_cn G a1 a2 36 else if a3 = 1 then (nP : Int) else r_rm G a1 a2 36) = V
  unfold fn_170
  refine a_fjn (Q := a_Qi V) (fun _ => False) (fun _ q => q.elim) (fun j hj => ?_)
  clear hj
  rw [if_neg v1, if_neg v2, if_neg v3]
  refine a_fjn (Q := a_Qi V) (fun s2 : Int × Int × Int => s2.1 = r_cn G a1 a2 36 ∧ s2.2.1 = (nP : Int) ∧ s2.2.2 = r_rm G a1 a2 36) (fun s2 h2 => ?_) (fun j hj => ?_)
  · refine a_fjn (Q := a_Qi V) (fun v : Int => v = V) (fun v hv => hv) (fun j hj => ?_)
    rw [← hV] at hj ⊢
    by_cases d0 : a3 = 0
    · rw [if_pos d0] at hj ⊢
      rw [if_pos d0]
      exact hj _ h2.1
    · rw [if_neg d0] at hj ⊢
      rw [if_neg d0]
      by_cases d1 : a3 = 1
      · rw [if_pos d1] at hj ⊢
        rw [if_pos d1]
        exact hj _ h2.2.1
      · rw [if_neg d1] at hj ⊢
        rw [if_neg d1]
        exact hj _ h2.2.2
  · refine a_lp_up (Q := a_Qi V) (fun k s => s.2.2.2 = (k : Int) ∧ s.1 = r_cn G a1 a2 k ∧ s.2.2.1 = r_rm G a1 a2 k ∧ ∃ n : Nat, s.2.1 = (n : Int) ∧ a_bs (r_fk G a1 a2 (k : Int)) (G 134 0).toNat n) 36 (by omega) (fun k s hk hs nx hn => ?_) (fun s hs nx => ?_) (0, 0, 1, 0) ⟨rfl, rfl, rfl, 0, rfl, by decide, fun i => by
      rw [Nat.zero_testBit]
      by_cases ci : i < (G 134 0).toNat
      · have oc := (ho.2.2.2.2.2.2.2 (i : Int) (by omega) (by omega)).2.1
        have e : r_fk G a1 a2 ((0 : Nat) : Int) (i : Int) = 0 := if_neg (by omega)
        rw [decide_eq_false (show ¬ ¬ r_fk G a1 a2 ((0 : Nat) : Int) (i : Int) = 0 from fun q => q e), Bool.and_false]
      · rw [decide_eq_false ci]
        rfl⟩
    · obtain ⟨q1, q2, q3, n, q4, q5⟩ := hs
      have b := r_cn_b G a1 a2 k
      rw [if_pos (by rw [q1]; omega), q1]
      refine a_fjn (fun s5 : Int => s5 = r_A G (k : Int)) (fun s5 h5 => ?_) (fun j hj => ?_)
      · subst h5
        refine a_fjn (fun s6 : Int => s6 = r_B a1 a2 (k : Int)) (fun s6 h6 => ?_) (fun j hj => ?_)
        · subst h6
          refine a_fjn (fun s7 : Int => s7 = r_op G a1 a2 (k : Int)) (fun s7 h7 => ?_) (fun j hj => ?_)
          · subst h7
            refine a_fbd1 (Q := a_Qi V) ?_
            have o := r_op01 G a1 a2 (k : Int)
            have ecn : a_w (s.1 + r_op G a1 a2 (k : Int)) = r_cn G a1 a2 (k + 1) := by
              rw [q2, a_w_id (by omega) (by omega)]
              rfl
            rw [ecn]
            clear ecn
            refine a_fjn (fun s8 : Int => s8 = r_rm G a1 a2 (k + 1)) (fun s8 h8 => ?_) (fun j hj => ?_)
            · subst h8
              refine a_fjn (fun s9 : Int => ∃ n : Nat, s9 = (n : Int) ∧ a_bs (r_fk G a1 a2 ((k + 1 : Nat) : Int)) (G 134 0).toNat n) (fun s9 h9 => ?_) (fun j hj => ?_)
              · refine a_fbd1 (Q := a_Qi V) ?_
                have e1 : a_w ((k : Int) + 1) = ((k + 1 : Nat) : Int) := by rw [a_w_id (by omega) (by omega)]; omega
                rw [e1]
                exact hn (_, _, _, _) ⟨rfl, rfl, rfl, h9⟩
              · refine a_lp_up (Q := a_Qi V) (fun p u => u.2 = (p : Int) ∧ ∃ n : Nat, u.1 = (n : Int) ∧ a_bs (fun i => if i < (p : Int) then r_fk G a1 a2 ((k + 1 : Nat) : Int) i else r_fk G a1 a2 (k : Int) i) (G 134 0).toNat n) (G 134 0).toNat (by omega) (fun p u hp hu nx2 hn2 => ?_) (fun u hu nx2 => ?_) (s.2.1, 0) ⟨rfl, n, q4, a_bs_e q5 (fun i hi => by rw [if_neg (show ¬ (i : Int) < ((0 : Nat) : Int) by omega)])⟩
                · obtain ⟨w1, n', w2, w3⟩ := hu
                  have oc := (ho.2.2.2.2.2.2.2 (p : Int) (by omega) (by omega)).2.1
                  have ep : Unit → a_w ((p : Int) + 1) = ((p + 1 : Nat) : Int) := fun _ => by rw [a_w_id (by omega) (by omega)]; omega
                  have e15 : Unit → a_w (15 + (p : Int)) = 15 + (p : Int) := fun _ => a_w_id (by omega) (by omega)
                  have others : ∀ i : Nat, ¬ i = p → ((if (i : Int) < (p : Int) then r_fk G a1 a2 ((k + 1 : Nat) : Int) (i : Int) else r_fk G a1 a2 (k : Int) (i : Int)) = 0 ↔ (if (i : Int) < ((p + 1 : Nat) : Int) then r_fk G a1 a2 ((k + 1 : Nat) : Int) (i : Int) else r_fk G a1 a2 (k : Int) (i : Int)) = 0) := fun i hi => by
                    by_cases d : (i : Int) < (p : Int)
                    · rw [if_pos d, if_pos (show (i : Int) < ((p + 1 : Nat) : Int) by omega)]
                    · rw [if_neg d, if_neg (show ¬ (i : Int) < ((p + 1 : Nat) : Int) by omega)]
                  have self0 : (if (p : Int) < (p : Int) then r_fk G a1 a2 ((k + 1 : Nat) : Int) (p : Int) else r_fk G a1 a2 (k : Int) (p : Int)) = r_fk G a1 a2 (k : Int) (p : Int) := if_neg (by omega)
                  have self1 : (if (p : Int) < ((p + 1 : Nat) : Int) then r_fk G a1 a2 ((k + 1 : Nat) : Int) (p : Int) else r_fk G a1 a2 (k : Int) (p : Int)) = r_fk G a1 a2 ((k + 1 : Nat) : Int) (p : Int) := if_pos (by omega)
                  rw [if_pos (by rw [w1]; omega), w1, w2]
                  refine a_fjn (fun v : Int => (v = 0 ∧ r_fk G a1 a2 ((k + 1 : Nat) : Int) (p : Int) = r_fk G a1 a2 (k : Int) (p : Int)) ∨ (v = a_shl 1 (p : Int) ∧ ¬ r_fk G a1 a2 ((k + 1 : Nat) : Int) (p : Int) = 0)) (fun v hv => ?_) (fun j2 hj2 => ?_)
                  · refine a_fbd1 (Q := a_Qi V) ?_
                    refine a_fbd1 (Q := a_Qi V) ?_
                    rw [ep ()]
                    rcases hv with ⟨hv, hs0⟩ | ⟨hv, hs1⟩
                    · rw [hv, a_or00 ⟨n', w3.1⟩]
                      refine hn2 (_, _) ⟨rfl, n', rfl, a_bs_e w3 (fun i hi => ?_)⟩
                      by_cases d : i = p
                      · subst d
                        show ((if (i : Int) < (i : Int) then r_fk G a1 a2 ((k + 1 : Nat) : Int) (i : Int) else r_fk G a1 a2 (k : Int) (i : Int)) = 0 ↔ (if (i : Int) < ((i + 1 : Nat) : Int) then r_fk G a1 a2 ((k + 1 : Nat) : Int) (i : Int) else r_fk G a1 a2 (k : Int) (i : Int)) = 0)
                        rw [self0, self1, hs0]
                      · exact others i d
                    · rw [hv, a_or_n w3.1 (by omega)]
                      refine hn2 (_, _) ⟨rfl, n' ||| 2 ^ p, rfl, a_bs_1 w3 hp (by omega) ?_ (fun i hi d => others i d)⟩
                      show ¬ (if (p : Int) < ((p + 1 : Nat) : Int) then r_fk G a1 a2 ((k + 1 : Nat) : Int) (p : Int) else r_fk G a1 a2 (k : Int) (p : Int)) = 0
                      rw [self1]
                      exact hs1
                  · have nb : ∀ (hne : ¬ (G 134 (15 + (p : Int)) = (k : Int) ∧ r_A G (k : Int) = 0 ∧ r_B a1 a2 (k : Int) = 0)), r_fk G a1 a2 ((k + 1 : Nat) : Int) (p : Int) = r_fk G a1 a2 (k : Int) (p : Int) := fun hne => by
                      unfold r_fk
                      by_cases d : G 134 (15 + (p : Int)) = (k : Int)
                      · rw [if_pos (by omega), if_neg (by omega), d]
                        unfold r_op
                        by_cases d1 : r_A G (k : Int) = 0
                        · rw [if_pos d1, if_neg (fun q => hne ⟨d, d1, q⟩)]
                        · rw [if_neg d1]
                      · by_cases d2 : G 134 (15 + (p : Int)) < (k : Int)
                        · rw [if_pos d2, if_pos (by omega)]
                        · rw [if_neg d2, if_neg (by omega)]
                    refine a_fjn (fun _ => ¬ (G 134 (15 + (p : Int)) = (k : Int) ∧ r_A G (k : Int) = 0 ∧ r_B a1 a2 (k : Int) = 0)) (fun _ hne => hj2 _ (Or.inl ⟨rfl, nb hne⟩)) (fun j3 hj3 => ?_)
                    rw [e15 ()]
                    refine a_fifc (fun d => ?_) (fun d => hj3 () (fun q => d q.1))
                    refine a_fifc (fun d1 => ?_) (fun d1 => hj3 () (fun q => d1 q.2.1))
                    refine a_fifc (fun d2 => ?_) (fun d2 => hj3 () (fun q => d2 q.2.2))
                    refine hj2 _ (Or.inr ⟨rfl, ?_⟩)
                    unfold r_fk r_op
                    rw [if_pos (by omega), d, if_pos d1, if_pos d2]
                    decide
                · obtain ⟨w1, n', w2, w3⟩ := hu
                  rw [if_neg (by rw [w1]; omega)]
                  refine hj _ ⟨n', w2, a_bs_e w3 (fun i hi => ?_)⟩
                  show ((if (i : Int) < (((G 134 0).toNat : Nat) : Int) then r_fk G a1 a2 ((k + 1 : Nat) : Int) (i : Int) else _) = 0 ↔ _)
                  rw [if_pos (show (i : Int) < (((G 134 0).toNat : Nat) : Int) by omega)]
            · rw [q3]
              have er : r_rm G a1 a2 (k + 1) = if r_A G (k : Int) = 0 then r_rm G a1 a2 k else if r_B a1 a2 (k : Int) = 0 then r_rm G a1 a2 k else 0 := rfl
              refine a_fjn (fun _ => r_rm G a1 a2 (k + 1) = r_rm G a1 a2 k) (fun _ h => hj _ h.symm) (fun j3 hj3 => ?_)
              refine a_fifc (fun d1 => hj3 () (by rw [er, if_pos d1])) (fun d1 => a_fifc (fun d2 => hj3 () (by rw [er, if_neg d1, if_pos d2])) (fun d2 => hj _ (by rw [er, if_neg d1, if_neg d2])))
          · have eo : r_op G a1 a2 (k : Int) = if r_A G (k : Int) = 0 then (if r_B a1 a2 (k : Int) = 0 then 1 else 0) else 0 := rfl
            refine a_fjn (fun _ => r_op G a1 a2 (k : Int) = 0) (fun _ h => hj _ h.symm) (fun j3 hj3 => ?_)
            refine a_fifc (fun d1 => a_fifc (fun d2 => hj _ (by rw [eo, if_pos d1, if_pos d2])) (fun d2 => hj3 () (by rw [eo, if_pos d1, if_neg d2]))) (fun d1 => hj3 () (by rw [eo, if_neg d1]))
        · rw [fe_115 hg (show 0 ≤ (k : Int) ∧ (k : Int) ≤ 35 by omega)]
          exact a_fifc (fun d => hj _ (if_pos d).symm) (fun d => hj _ (if_neg d).symm)
      · have ea : r_A G (k : Int) = if fn_117 G = 0 then 0 else if fn_116 (k : Int) G = 0 then 1 else 0 := rfl
        refine a_fjn (fun _ => r_A G (k : Int) = 0) (fun _ h => hj _ h.symm) (fun j3 hj3 => ?_)
        exact a_fifc (fun d1 => hj3 () (by rw [ea, if_pos d1])) (fun d1 => a_fifc (fun d2 => hj _ (by rw [ea, if_neg d1, if_pos d2])) (fun d2 => hj3 () (by rw [ea, if_neg d1, if_neg d2])))
    · obtain ⟨q1, q2, q3, n, q4, q5⟩ := hs
      rw [if_neg (by rw [q1]; omega)]
      have e : n = nP := a_bs_u q5 hP (fun i hi => by
        have oc := (ho.2.2.2.2.2.2.2 (i : Int) (by omega) (by omega)).2.1
        have e : r_fk G a1 a2 ((36 : Nat) : Int) (i : Int) = r_op G a1 a2 (G 134 (15 + (i : Int))) := if_pos (by omega)
        rw [e])
      exact hj _ ⟨q2, by rw [← e]; exact q4, q3⟩
theorem a2_field (a1 a2 a3 : Int) {H G : a_P} (h : a_R2 H G) : fn_81 a1 a2 a3 H = fn_170 a1 a2 a3 G := by
  by_cases c : (0 ≤ a1 ∧ a1 < 36) ∧ (0 ≤ a2 ∧ a2 < 4) ∧ (0 ≤ a3 ∧ a3 < 3)
  · obtain ⟨c1, c2, c3⟩ := c
    have u1 : ¬ fn_91 a1 36 = 0 := by rw [fe_91z]; exact fun q => q c1
    have u2 : ¬ fn_91 a2 4 = 0 := by rw [fe_91z]; exact fun q => q c2
    have u3 : ¬ fn_91 a3 3 = 0 := by rw [fe_91z]; exact fun q => q c3
    have hg : 0 ≤ a1 ∧ a1 ≤ 35 := by omega
    have hl : 0 ≤ a2 ∧ a2 ≤ 3 := by omega
    obtain ⟨n, e1, e2⟩ := c_people h.1 hg hl
    have m1 : fn_170 a1 a2 a3 G = _ := m_field h.1.2 hg hl (by omega) e2
    rw [m1]
    simp only [fn_81, fn_92, a_jn]
    rw [if_neg u1, if_neg u2, if_neg u3, c_cells h.1 hg hl, e1, c_rooms h.1 hg hl]
    by_cases d0 : a3 = 0
    · rw [if_pos d0, if_pos d0]
    · rw [if_neg d0, if_neg d0]
      by_cases d1 : a3 = 1
      · rw [if_pos d1, if_pos d1]
      · rw [if_neg d1, if_neg d1]
        have rb : ∀ k : Nat, r_rm G a1 a2 k = 0 ∨ r_rm G a1 a2 k = 1 := fun k => by
          induction k with
          | zero => exact Or.inr rfl
          | succ k ih =>
            unfold r_rm
            split
            · exact ih
            · split
              · exact ih
              · exact Or.inl rfl
        rcases rb 36 with r | r
        · rw [r, if_pos rfl]
        · rw [r, if_neg (show ¬ (1 : Int) = 0 by decide)]
  · have e1 : fn_81 a1 a2 a3 H = -1 := by
      simp only [fn_81, a_jn, fe_91z]
      by_cases d1 : 0 ≤ a1 ∧ a1 < 36
      · have w1 : ¬ ¬ (0 ≤ a1 ∧ a1 < 36) := fun q => q d1
        rw [if_neg w1]
        by_cases d2 : 0 ≤ a2 ∧ a2 < 4
        · have w2 : ¬ ¬ (0 ≤ a2 ∧ a2 < 4) := fun q => q d2
          rw [if_neg w2, if_pos (fun q => c ⟨d1, d2, q⟩)]
        · rw [if_pos d2]
      · rw [if_pos d1]
    have e2 : fn_170 a1 a2 a3 G = -1 := by
      simp only [fn_170, fn_111, a_jn, fe_108z]
      by_cases d1 : 0 ≤ a1 ∧ a1 < 36
      · have w1 : ¬ ¬ (0 ≤ a1 ∧ a1 ≤ 35) := fun q => q (by omega)
        rw [if_neg w1]
        by_cases d2 : 0 ≤ a2 ∧ a2 < 4
        · have w2 : ¬ ¬ (0 ≤ a2 ∧ a2 ≤ 3) := fun q => q (by omega)
          rw [if_neg w2, if_pos (fun q => c ⟨d1, d2, by omega⟩)]
        · rw [if_pos (by omega)]
      · rw [if_pos (by omega)]
    rw [e1, e2]
theorem aR_field (a1 a2 a3 : Int) {G : a_P} (hR : a_R G) (hS : a_S G) : fn_81 a1 a2 a3 G = fn_170 a1 a2 a3 G := a2_field a1 a2 a3 hR

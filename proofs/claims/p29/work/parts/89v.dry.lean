/-! DRY -/
/-- alike but for WET and the HOUR -/
def r_sim (w w' : Int → Int) : Prop := ∀ b, b < 39 → ¬ b = 5 → w b = w' b
theorem r_sim_S1 {w w' : Int → Int} (h : r_sim w w') (h8 : w 0 ≤ 8) : r_sim (r_S1 (w 0) w) (r_S1 (w' 0) w') := by
  intro b hb h5
  have e0 : w 0 = w' 0 := h 0 (by omega) (by omega)
  have e3 : w 3 = w' 3 := h 3 (by omega) (by omega)
  rw [← e0]
  unfold r_S1
  by_cases c1 : 15 ≤ b ∧ b < 15 + w 0
  · rw [if_pos c1, if_pos c1]
    unfold r_cell
    rw [e3, h (15 + (b - 15)) (by omega) (by omega), h (23 + (b - 15)) (by omega) (by omega)]
  · rw [if_neg c1, if_neg c1]
    by_cases c2 : 23 ≤ b ∧ b < 23 + w 0
    · rw [if_pos c2, if_pos c2]
      unfold r_walk
      rw [e3, h (15 + (b - 23)) (by omega) (by omega), h (23 + (b - 23)) (by omega) (by omega)]
    · rw [if_neg c2, if_neg c2, h b hb h5]
/-- tired and rested -/
def r_tr (w : Int → Int) : Int → Int := fun b => if b = 5 then w 5 else r_S4 (r_S3 (w 0) w) b
theorem r_sim_tr {w w' : Int → Int} (h : r_sim w w') (h8 : w 0 ≤ 8) (h3 : w 3 = -4 ∨ (0 ≤ w 3 ∧ w 3 < w 0)) : r_sim (r_S4 (r_S3 (w 0) w)) (r_tr w') := by
  intro b hb h5
  have e0 : w 0 = w' 0 := h 0 (by omega) (by omega)
  have e3 : w 3 = w' 3 := h 3 (by omega) (by omega)
  have s : ∀ b, b < 39 → ¬ b = 5 → r_S3 (w 0) w b = r_S3 (w' 0) w' b := fun b hb h5 => by
    unfold r_S3
    rw [← e0, e3, h b hb h5]
  show _ = if b = 5 then w' 5 else r_S4 (r_S3 (w' 0) w') b
  rw [if_neg h5]
  unfold r_S4
  by_cases c : b = 3
  · rw [if_pos c, if_pos c]
    have q3 : r_S3 (w 0) w 3 = w 3 := r_S3_o (by omega)
    have q3' : r_S3 (w' 0) w' 3 = w 3 := by rw [← s 3 (by omega) (by omega), q3]
    rw [q3, q3']
    rcases h3 with g | g
    · rw [if_neg (fun q => q.1 g), if_neg (fun q => q.1 g)]
    · rw [s (31 + w 3) (by omega) (by omega)]
  · rw [if_neg c, if_neg c, if_neg h5, if_neg h5]
    exact s b hb h5
theorem r_in_sim {w w' : Int → Int} {i : Int} (h0 : 0 ≤ i) (h8 : i < 8) (h : r_sim w w') : r_in w i = r_in w' i := by
  unfold r_in
  have e15 : a_w (15 + i) = 15 + i := a_wi h0 (by omega) (by decide)
  have e7 : a_w (7 + i) = 7 + i := a_wi h0 (by omega) (by decide)
  have e14 : a_w (15 + i - 1) = 15 + i - 1 := a_w_id (by omega) (by omega)
  simp only [fn_118, fn_116, e15, e7, e14, h 1 (by decide) (by decide), h 2 (by decide) (by decide), h (15 + i) (by omega) (by omega), h (7 + i) (by omega) (by omega), h (15 + i - 1) (by omega) (by omega)]
theorem r_tr_ok {m : Int} {w : Int → Int} (ho : a_ok m w) : a_ok m (r_tr w) := by
  have o := r_S4_ok ho
  have e : ∀ b, ¬ b = 5 → r_tr w b = r_S4 (r_S3 (w 0) w) b := fun b hb => if_neg hb
  have e5 : r_tr w 5 = w 5 := if_pos rfl
  have o3 := o.2.2.2.1
  refine a_ok_f o (fun b q => e b (by omega)) (e 0 (by decide)) (by rw [e 1 (by decide)]; exact o.2.1) (by rw [e 2 (by decide)]; exact o.2.2.1) (by rw [e 3 (by decide)]; exact o3) (by rw [e 4 (by decide)]; exact o.2.2.2.2.1) (by rw [e5]; exact ho.2.2.2.2.2.1) (by rw [e 6 (by decide)]; exact o.2.2.2.2.2.2.1)
/-- the rows of the next HOURS, dry -/
noncomputable def r_T (W : Int → Int) : Nat → (Int → Int)
  | 0 => W
  | i + 1 => r_tr (r_S1 (r_T W i 0) (r_T W i))
theorem r_T_ok {m : Int} {W : Int → Int} (ho : a_ok m W) : ∀ i, a_ok m (r_T W i)
  | 0 => ho
  | i + 1 => r_tr_ok (r_S1_ok (r_T_ok ho i))
/-- whether one is IN in HOUR i (1, 0) -/
noncomputable def r_ih (W : Int → Int) (x : Int) (i : Nat) : Int := if r_S1 (r_T W i 0) (r_T W i) 3 = -4 ∨ r_in (r_S1 (r_T W i 0) (r_T W i)) x = 0 then 0 else 1
/-- how WET one is behind k HOURS by a set of rains -/
noncomputable def r_wd (W : Int → Int) (x : Int) (R : Nat) : Nat → Int
  | 0 => W (39 + x)
  | k + 1 => if R.testBit k = true ∧ r_ih W x k = 0 then a_wt (W (7 + x)) (r_wd W x R k) else r_wd W x R k
theorem r_wd_b {m x : Int} {W : Int → Int} {R : Nat} (ho : a_ok m W) (hx : 0 ≤ x ∧ x < W 0) : ∀ k, 0 ≤ r_wd W x R k ∧ r_wd W x R k ≤ 99
  | 0 => (ho.2.2.2.2.2.2.2 x hx.1 hx.2).2.2.2.2
  | k + 1 => by
    have ih := r_wd_b (R := R) ho hx k
    unfold r_wd
    split
    · exact a_wt_b ih
    · exact ih
/-- odds -/
def r_od (R : Nat) (c : Int) : Nat → Int
  | 0 => 1
  | k + 1 => r_od R c k * (if R.testBit k = true then c else 10 - c)
def r_so (c : Int) (n : Nat) : Nat → Int
  | 0 => 0
  | r + 1 => r_so c n r + r_od r c n
noncomputable def r_sa (W : Int → Int) (x v c : Int) (n : Nat) : Nat → Int
  | 0 => 0
  | r + 1 => if v < r_wd W x r n then r_sa W x v c n r else r_sa W x v c n r + r_od r c n
theorem r_so_all : ∀ n : Fin 7, ∀ c : Fin 11, r_so (c.val : Int) n.val (2 ^ n.val) = ((10 ^ n.val : Nat) : Int) := by decide +kernel
theorem r_od_b {R : Nat} {c : Int} (hc : 0 ≤ c ∧ c ≤ 10) : ∀ k : Nat, 0 ≤ r_od R c k ∧ r_od R c k ≤ ((10 ^ k : Nat) : Int)
  | 0 => ⟨by show (0 : Int) ≤ 1; decide, by show (1 : Int) ≤ 1; decide⟩
  | k + 1 => by
    obtain ⟨h0, h1⟩ := r_od_b (R := R) hc k
    have e : ((10 ^ (k + 1) : Nat) : Int) = ((10 ^ k : Nat) : Int) * 10 := by rw [Nat.pow_succ]; omega
    have d : ∀ y : Int, 0 ≤ y → y ≤ 10 → 0 ≤ r_od R c k * y ∧ r_od R c k * y ≤ ((10 ^ k : Nat) : Int) * 10 := fun y y0 y1 => ⟨Int.mul_nonneg h0 y0, Int.mul_le_mul h1 y1 y0 (by omega)⟩
    unfold r_od
    rw [e]
    split
    · exact d c hc.1 hc.2
    · exact d (10 - c) (by omega) (by omega)
theorem a_p26 {k : Nat} (h : k ≤ 6) : 2 ^ k ≤ 64 := Nat.pow_le_pow_right (n := 2) (by decide) h
theorem a_p10 {k : Nat} (h : k ≤ 6) : 10 ^ k ≤ 1000000 := Nat.pow_le_pow_right (n := 10) (by decide) h
theorem a_tb {n i : Nat} (hn : n < 256) (hi : i < 8) : (a_and (a_shr (n : Int) (i : Int)) 1 = 1) ↔ n.testBit i = true := by
  rw [a_bit hn hi]
  cases n.testBit i with
  | true => exact ⟨fun _ => rfl, fun _ => rfl⟩
  | false => exact ⟨fun h => absurd h (by decide), fun h => absurd h (by decide)⟩
theorem a_msk0 : ∀ R : Fin 64, ∀ g : Fin 64, a_and (R.val : Int) (a_xor (g.val : Int) (-1)) = ((R.val &&& (63 - g.val) : Nat) : Int) := by decide +kernel
theorem a_msk1 : ∀ g : Fin 64, ∀ i : Fin 6, (63 - g.val).testBit i.val = !g.val.testBit i.val := by decide +kernel
/-! the class: hours in, wet behind, odds -/
theorem c_hin {H G : a_P} {x n : Int} (h : a_now H G) (hx : 0 ≤ x ∧ x < G 134 0) (hn : 0 ≤ n ∧ n ≤ 6) : ∃ g : Nat, (fn_103 x n H).1 = (g : Int) ∧ g < 64 ∧ ∀ i : Nat, i < n.toNat → g.testBit i = decide (r_ih (G 134) x i = 1) := by
  have b0 := h.2.1
  unfold fn_103
  refine a_fbd1 (Q := fun r : a_F => ∃ g : Nat, r.1 = (g : Int) ∧ g < 64 ∧ ∀ i : Nat, i < n.toNat → g.testBit i = decide (r_ih (G 134) x i = 1)) ?_
  refine a_lp_up (Q := fun r : a_F => ∃ g : Nat, r.1 = (g : Int) ∧ g < 64 ∧ ∀ i : Nat, i < n.toNat → g.testBit i = decide (r_ih (G 134) x i = 1)) (fun k (s : Int × Int × a_P) => s.2.1 = (k : Int) ∧ a_sm s.2.2 7 (r_T (G 134) k) ∧ ∃ g : Nat, s.1 = (g : Int) ∧ g < 2 ^ k ∧ ∀ i : Nat, i < k → g.testBit i = decide (r_ih (G 134) x i = 1)) n.toNat (by omega) (fun k s hk hss nx hnx => ?_) (fun s hss nx => ?_) (0, 0, fn_10 7 1 H) ⟨rfl, c_like h, 0, rfl, by decide, fun i hi => absurd hi (by omega)⟩
  · obtain ⟨q1, q2, g, q3, q4, q5⟩ := hss
    have ok := r_T_ok h.2 k
    have s1 := fl_walk q2 ok
    have o1 := r_S1_ok ok
    have t1 : a_sm (fn_30 7 (fn_28 7 s.2.2)) 7 (r_T (G 134) (k + 1)) := fl_tire s1 o1
    have m0 : r_S1 (r_T (G 134) k 0) (r_T (G 134) k) 0 = G 134 0 := by
      have key : ∀ k : Nat, r_T (G 134) k 0 = G 134 0 := fun k => by
        induction k with
        | zero => rfl
        | succ k ih =>
          have okk := (r_T_ok h.2 k).1
          have e1 : r_S1 (r_T (G 134) k 0) (r_T (G 134) k) 0 = r_T (G 134) k 0 := r_S1_o (by omega) (by omega)
          show (if (0 : Int) = 5 then r_S1 (r_T (G 134) k 0) (r_T (G 134) k) 5 else r_S4 (r_S3 (r_S1 (r_T (G 134) k 0) (r_T (G 134) k) 0) (r_S1 (r_T (G 134) k 0) (r_T (G 134) k))) 0) = _
          rw [if_neg (by decide)]
          unfold r_S4
          rw [if_neg (by decide), if_neg (by decide), r_S3_o (by omega), e1, ih]
      have okk := ok.1
      rw [r_S1_o (by omega) (by omega), key]
    have ins : fn_21 7 x (fn_28 7 s.2.2) = r_ih (G 134) x k := by
      have st := fl_stands (G := fun _ => r_S1 (r_T (G 134) k 0) (r_T (G 134) k)) s1 o1
      have li := fl_in (G := fun _ => r_S1 (r_T (G 134) k 0) (r_T (G 134) k)) s1 o1 hx.1 (by show x < r_S1 (r_T (G 134) k 0) (r_T (G 134) k) 0; rw [m0]; exact hx.2)
      have li2 : fn_118 x (fun _ => r_S1 (r_T (G 134) k 0) (r_T (G 134) k)) = r_in (r_S1 (r_T (G 134) k 0) (r_T (G 134) k)) x := rfl
      simp only [fn_21, a_jn]
      rw [st, li, li2]
      simp only [fn_117, a_jn]
      unfold r_ih
      by_cases c1 : r_S1 (r_T (G 134) k 0) (r_T (G 134) k) 3 = -4
      · rw [if_pos c1, if_pos rfl, if_pos (Or.inl c1)]
      · rw [if_neg c1, if_neg (show ¬ (1 : Int) = 0 by decide)]
        by_cases c2 : r_in (r_S1 (r_T (G 134) k 0) (r_T (G 134) k)) x = 0
        · rw [if_pos c2, if_pos (Or.inr c2)]
        · rw [if_neg c2, if_neg (fun q => by rcases q with q | q; exact c1 q; exact c2 q)]
    have ek : Unit → a_w ((k : Int) + 1) = ((k + 1 : Nat) : Int) := fun _ => by rw [a_w_id (by omega) (by omega)]; omega
    have p6 : 2 ^ k ≤ 64 := a_p26 (by omega)
    have pk : 2 ^ (k + 1) = 2 ^ k + 2 ^ k := by rw [Nat.pow_succ]; omega
    rw [if_pos (by rw [q1]; omega), q1, q3]
    simp only [a_jn, a_bd]
    rw [ins, ek ()]
    by_cases c : r_ih (G 134) x k = 0
    · rw [if_pos c]
      refine hnx (_, _, _) ⟨rfl, t1, g, rfl, by omega, fun i hi => ?_⟩
      by_cases ci : i < k
      · exact q5 i ci
      · have : i = k := by omega
        subst this
        rw [Nat.testBit_lt_two_pow q4]
        exact (decide_eq_false (by omega)).symm
    · have c1 : r_ih (G 134) x k = 1 := by
        unfold r_ih at c ⊢
        split
        · rename_i q
          rw [if_pos q] at c
          exact absurd rfl c
        · rfl
      rw [if_neg c, a_orp (by omega) (by omega) q4]
      refine hnx (_, _, _) ⟨rfl, t1, 2 ^ k + g, rfl, by omega, fun i hi => ?_⟩
      by_cases ci : i < k
      · rw [Nat.testBit_two_pow_add_gt ci]
        exact q5 i ci
      · have : i = k := by omega
        subst this
        rw [Nat.testBit_two_pow_add_eq, Nat.testBit_lt_two_pow q4]
        exact (decide_eq_true c1).symm
  · obtain ⟨q1, q2, g, q3, q4, q5⟩ := hss
    have p6 : 2 ^ n.toNat ≤ 64 := a_p26 (by omega)
    rw [if_neg (by rw [q1]; omega)]
    exact ⟨g, q3, by omega, q5⟩
theorem r_ih01 (W : Int → Int) (x : Int) (i : Nat) : r_ih W x i = 0 ∨ r_ih W x i = 1 := by
  unfold r_ih
  split
  · exact Or.inl rfl
  · exact Or.inr rfl
theorem c_wetb {H G : a_P} {x n : Int} {R g : Nat} (h : a_now H G) (hx : 0 ≤ x ∧ x < G 134 0) (hn : 0 ≤ n ∧ n ≤ 6) (hR : R < 64) (hg : g < 64) (hb : ∀ i : Nat, i < n.toNat → g.testBit i = decide (r_ih (G 134) x i = 1)) : fn_104 x n (a_and (R : Int) (a_xor (g : Int) (-1))) H = r_wd (G 134) x R n.toNat := by
  obtain ⟨t1, t2, t3, t4, t5⟩ := h.1.2.2.2.2.2.2.2 x hx.1 hx.2
  obtain ⟨s1, s2, s3, s4, s5⟩ := h.2.2.2.2.2.2.2.2 x hx.1 hx.2
  have e6 : H 6 x = G 134 (39 + x) := t5
  have e2 : H 2 x = G 134 (7 + x) := t1
  rw [a_msk0 ⟨R, hR⟩ ⟨g, hg⟩]
  have ml : R &&& (63 - g) < 256 := by
    have := Nat.and_le_left (n := R) (m := 63 - g)
    omega
  unfold fn_104
  refine a_fbd1 (Q := fun v : Int => v = r_wd (G 134) x R n.toNat) ?_
  rw [e6]
  refine a_lp_up (Q := fun v : Int => v = r_wd (G 134) x R n.toNat) (fun k (s : Int × Int) => s.2 = (k : Int) ∧ s.1 = r_wd (G 134) x R k) n.toNat (by omega) (fun k s hk hss nx hnx => ?_) (fun s hss nx => ?_) (G 134 (39 + x), 0) ⟨rfl, rfl⟩
  · obtain ⟨q1, q2⟩ := hss
    have ek : Unit → a_w ((k : Int) + 1) = ((k + 1 : Nat) : Int) := fun _ => by rw [a_w_id (by omega) (by omega)]; omega
    have wb := r_wd_b (R := R) h.2 hx k
    have bit := a_tb (n := R &&& (63 - g)) (i := k) ml (by omega)
    have mb := a_msk1 ⟨g, hg⟩ ⟨k, by omega⟩
    have mb : (63 - g).testBit k = !g.testBit k := mb
    have gb := hb k hk
    rw [if_pos (by rw [q1]; omega), q1, q2, e2]
    simp only [a_jn, a_bd]
    rw [ek (), fl_wt s1 wb]
    have eq : (R &&& (63 - g)).testBit k = true ↔ (R.testBit k = true ∧ r_ih (G 134) x k = 0) := by
      rw [Nat.testBit_and, mb, gb]
      rcases r_ih01 (G 134) x k with r | r
      · rw [r, decide_eq_false (show ¬ (0 : Int) = 1 by decide)]
        cases R.testBit k <;> simp
      · rw [r, decide_eq_true (show (1 : Int) = 1 from rfl)]
        cases R.testBit k <;> simp
    by_cases c : R.testBit k = true ∧ r_ih (G 134) x k = 0
    · rw [if_pos (bit.mpr (eq.mpr c))]
      refine hnx (_, _) ⟨rfl, ?_⟩
      show _ = if R.testBit k = true ∧ r_ih (G 134) x k = 0 then _ else _
      rw [if_pos c]
    · rw [if_neg (fun q => c (eq.mp (bit.mp q)))]
      refine hnx (_, _) ⟨rfl, ?_⟩
      show _ = if R.testBit k = true ∧ r_ih (G 134) x k = 0 then _ else _
      rw [if_neg c]
  · rw [if_neg (by rw [hss.1]; omega)]
    exact hss.2
theorem c_odds {n c : Int} {R : Nat} (hR : R < 64) (hn : 0 ≤ n ∧ n ≤ 6) (hc : 0 ≤ c ∧ c ≤ 10) : fn_105 (R : Int) n c = r_od R c n.toNat := by
  unfold fn_105
  refine a_lp_up (Q := fun v : Int => v = r_od R c n.toNat) (fun k (s : Int × Int) => s.2 = (k : Int) ∧ s.1 = r_od R c k) n.toNat (by omega) (fun k s hk hss nx hnx => ?_) (fun s hss nx => ?_) (1, 0) ⟨rfl, rfl⟩
  · obtain ⟨q1, q2⟩ := hss
    have ek : Unit → a_w ((k : Int) + 1) = ((k + 1 : Nat) : Int) := fun _ => by rw [a_w_id (by omega) (by omega)]; omega
    have ob := r_od_b (R := R) hc (k + 1)
    have pk := a_p10 (k := k + 1) (by omega)
    have bit := a_tb (n := R) (i := k) (by omega) (by omega)
    rw [if_pos (by rw [q1]; omega), q1, q2]
    simp only [a_jn, a_bd]
    rw [ek (), a_w_id (x := 10 - c) (by omega) (by omega)]
    have eo : r_od R c (k + 1) = r_od R c k * (if R.testBit k = true then c else 10 - c) := rfl
    by_cases cb : R.testBit k = true
    · rw [if_pos cb] at eo
      rw [if_pos (bit.mpr cb), ← eo, a_w_id (by omega) (by omega)]
      exact hnx (_, _) ⟨rfl, rfl⟩
    · rw [if_neg cb] at eo
      rw [if_neg (fun q => cb (bit.mp q)), ← eo, a_w_id (by omega) (by omega)]
      exact hnx (_, _) ⟨rfl, rfl⟩
  · rw [if_neg (by rw [hss.1]; omega)]
    exact hss.2
theorem r_sa_b {W : Int → Int} {x v c : Int} {n : Nat} (hc : 0 ≤ c ∧ c ≤ 10) (hn : n ≤ 6) : ∀ r : Nat, 0 ≤ r_sa W x v c n r ∧ r_sa W x v c n r ≤ r_so c n r ∧ r_so c n r ≤ 1000000 * (r : Int)
  | 0 => ⟨Int.le_refl 0, Int.le_refl 0, by show (0 : Int) ≤ 1000000 * ((0 : Nat) : Int); omega⟩
  | r + 1 => by
    obtain ⟨h0, h1, h2⟩ := r_sa_b (W := W) (x := x) (v := v) hc hn r
    have ob := r_od_b (R := r) hc n
    have pk := a_p10 hn
    have es : r_so c n (r + 1) = r_so c n r + r_od r c n := rfl
    have ea : r_sa W x v c n (r + 1) = if v < r_wd W x r n then r_sa W x v c n r else r_sa W x v c n r + r_od r c n := rfl
    rw [es, ea]
    split
    · omega
    · omega

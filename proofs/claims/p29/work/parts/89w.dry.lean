/-! DRY, on: the fraction -/
def r_gc : Nat → Int → Int → Int
  | 0, a, _ => a
  | n + 1, a, b => if b = 0 then a else r_gc n b (a % b)
theorem r_gc_z : ∀ (n : Nat) (a : Int), r_gc n a 0 = a
  | 0, _ => rfl
  | n + 1, a => by unfold r_gc; rw [if_pos rfl]
theorem r_gc_pos : ∀ (n : Nat) (a b : Int), 0 < a → 0 ≤ b → 0 < r_gc n a b
  | 0, a, b, h, _ => h
  | n + 1, a, b, h, h2 => by
    unfold r_gc
    by_cases c : b = 0
    · rw [if_pos c]; exact h
    · rw [if_neg c]
      exact r_gc_pos n b (a % b) (by omega) (Int.emod_nonneg _ c)
/-- how the rest shrinks -/
def r_eu (k : Nat) (a b : Int) : Prop := 0 ≤ a ∧ a ≤ 100000000 ∧ 0 ≤ b ∧ b ≤ 100000000 ∧ ∃ j : Nat, (k = 2 * j ∧ b < ((2 ^ (20 - j) : Nat) : Int)) ∨ (k = 2 * j + 1 ∧ a < ((2 ^ (20 - j) : Nat) : Int) ∧ b < a)
theorem r_eu_s {k : Nat} {a b : Int} (h : r_eu k a b) (hk : k < 40) (hb : ¬ b = 0) : r_eu (k + 1) b (a % b) := by
  obtain ⟨a0, a1, b0, b1, j, hj⟩ := h
  have m0 := Int.emod_nonneg a hb
  have m1 := Int.emod_lt_of_pos a (show 0 < b by omega)
  refine ⟨b0, b1, m0, by omega, ?_⟩
  rcases hj with ⟨h1, h2⟩ | ⟨h1, h2, h3⟩
  · exact ⟨j, Or.inr ⟨by omega, h2, m1⟩⟩
  · refine ⟨j + 1, Or.inl ⟨by omega, ?_⟩⟩
    obtain ⟨d, hd⟩ : ∃ d, 20 - j = d + 1 := ⟨20 - j - 1, by omega⟩
    have hd2 : 20 - (j + 1) = d := by omega
    rw [hd2]
    rw [hd, Nat.pow_succ] at h2
    have q1 : 1 ≤ a / b := Int.le_ediv_of_mul_le (by omega) (by omega)
    have q2 : b * 1 ≤ b * (a / b) := Int.mul_le_mul_of_nonneg_left q1 b0
    have q3 := Int.emod_def a b
    omega
theorem r_eu_e {a b : Int} (h : r_eu 40 a b) : b = 0 := by
  obtain ⟨a0, a1, b0, b1, j, hj⟩ := h
  rcases hj with ⟨h1, h2⟩ | ⟨h1, h2, h3⟩
  · have : j = 20 := by omega
    subst this
    have e : ((2 ^ (20 - 20) : Nat) : Int) = 1 := by decide
    omega
  · omega
theorem c_gcd {a b : Int} (h : r_eu 0 a b) : fn_106 a b = r_gc 40 a b := by
  unfold fn_106
  refine a_fjn (Q := fun v : Int => v = r_gc 40 a b) (fun v : Int => v = r_gc 40 a b) (fun v hv => hv) (fun j hj => ?_)
  refine a_lp_up (Q := fun v : Int => v = r_gc 40 a b) (fun k (s : Int × Int × Int) => s.2.2 = (k : Int) ∧ r_eu k s.1 s.2.1 ∧ r_gc (40 - k) s.1 s.2.1 = r_gc 40 a b) 40 (by omega) (fun k s hk hss nx hnx => ?_) (fun s hss nx => ?_) (a, b, 0) ⟨rfl, h, rfl⟩
  · obtain ⟨q1, q2, q3⟩ := hss
    rw [if_pos (by rw [q1]; omega)]
    by_cases c : s.2.1 = 0
    · rw [if_pos c]
      refine hj _ ?_
      rw [← q3, c, r_gc_z]
    · rw [if_neg c]
      refine a_fbd1 (Q := fun v : Int => v = r_gc 40 a b) ?_
      refine a_fbd1 (Q := fun v : Int => v = r_gc 40 a b) ?_
      have ek : Unit → a_w (s.2.2 + 1) = ((k + 1 : Nat) : Int) := fun _ => by rw [q1, a_w_id (by omega) (by omega)]; omega
      obtain ⟨a0, a1, b0, b1, -⟩ := id q2
      rw [ek (), a_rem_id a0 (by omega) (by omega)]
      refine hnx (_, _, _) ⟨rfl, r_eu_s q2 hk c, ?_⟩
      show r_gc (40 - (k + 1)) s.2.1 (s.1 % s.2.1) = _
      rw [← q3, show 40 - k = (40 - (k + 1)) + 1 by omega]
      show _ = if s.2.1 = 0 then s.1 else r_gc (40 - (k + 1)) s.2.1 (s.1 % s.2.1)
      rw [if_neg c]
  · obtain ⟨q1, q2, q3⟩ := hss
    have z := r_eu_e q2
    rw [if_pos (by rw [q1]; omega), if_pos z]
    refine hj _ ?_
    rw [← q3, z, r_gc_z]
theorem a_lc_eq {x y : Int} : s_lc x y = 0 ↔ x = y := by
  unfold s_lc
  split
  · exact ⟨fun h => absurd h (by decide), fun h => by omega⟩
  · split
    · exact ⟨fun _ => by assumption, fun _ => rfl⟩
    · exact ⟨fun h => absurd h (by decide), fun h => by omega⟩
theorem m_part {a b w : Int} (h : r_eu 0 a b) (hb : 0 < b) : fn_171 a b w = (if w = 0 then a else b) / r_gc 40 a b := by
  obtain ⟨a0, a1, b0, b1, -⟩ := id h
  have gp : 0 < r_gc 40 a b := by
    show 0 < if b = 0 then a else r_gc 39 b (a % b)
    rw [if_neg (by omega)]
    exact r_gc_pos 39 b (a % b) hb (Int.emod_nonneg _ (by omega))
  unfold fn_171
  refine a_fjn (Q := fun v : Int => v = (if w = 0 then a else b) / r_gc 40 a b) (fun v : Int => v = r_gc 40 a b) (fun v hv => ?_) (fun j hj => ?_)
  · subst hv
    have dv : ∀ x : Int, 0 ≤ x → x ≤ 100000000 → a_w (a_ldv x (r_gc 40 a b)) = x / r_gc 40 a b := fun x x0 x1 => by
      have d0 := Int.ediv_nonneg x0 (Int.le_of_lt gp)
      have d1 := Int.ediv_le_self (r_gc 40 a b) x0
      unfold a_ldv
      rw [Int.tdiv_eq_ediv_of_nonneg x0, a_wl_id (by omega) (by omega), a_w_id (by omega) (by omega)]
    simp only [a_jn]
    by_cases c : w = 0
    · rw [if_pos c, if_pos c, dv a a0 a1]
    · rw [if_neg c, if_neg c, dv b b0 b1]
  · refine a_lp_up (Q := fun v : Int => v = (if w = 0 then a else b) / r_gc 40 a b) (fun k (s : Int × Int) => r_eu k s.1 s.2 ∧ r_gc (40 - k) s.1 s.2 = r_gc 40 a b) 40 (by omega) (fun k s hk hss nx hnx => ?_) (fun s hss nx => ?_) (a, b) ⟨h, rfl⟩
    · obtain ⟨q2, q3⟩ := hss
      by_cases c : s.2 = 0
      · rw [if_pos (a_lc_eq.mpr c)]
        refine hj _ ?_
        rw [← q3, c, r_gc_z]
      · rw [if_neg (fun q => c (a_lc_eq.mp q))]
        refine a_fbd1 (Q := fun v : Int => v = (if w = 0 then a else b) / r_gc 40 a b) ?_
        obtain ⟨a0, a1, b0, b1, -⟩ := id q2
        rw [a_lrm_id a0 (by omega) (by omega)]
        refine hnx (_, _) ⟨r_eu_s q2 hk c, ?_⟩
        show r_gc (40 - (k + 1)) s.2 (s.1 % s.2) = _
        rw [← q3, show 40 - k = (40 - (k + 1)) + 1 by omega]
        show _ = if s.2 = 0 then s.1 else r_gc (40 - (k + 1)) s.2 (s.1 % s.2)
        rw [if_neg c]
    · obtain ⟨q2, q3⟩ := hss
      have z := r_eu_e q2
      rw [if_pos (a_lc_eq.mpr z)]
      refine hj _ ?_
      rw [← q3, z, r_gc_z]
/-! one set of rains, tried by the reference -/
theorem r_T_k {m : Int} {W : Int → Int} (ho : a_ok m W) : ∀ (k : Nat) (b : Int), (b = 0 ∨ (7 ≤ b ∧ b < 15)) → r_T W k b = W b
  | 0, b, _ => rfl
  | k + 1, b, hb => by
    have ih := r_T_k ho k
    have ok := (r_T_ok ho k).1
    have e1 : ∀ b, (b = 0 ∨ (7 ≤ b ∧ b < 15)) → r_S1 (r_T W k 0) (r_T W k) b = r_T W k b := fun b hb => r_S1_o (by omega) (by omega)
    show (if b = 5 then r_S1 (r_T W k 0) (r_T W k) 5 else r_S4 (r_S3 (r_S1 (r_T W k 0) (r_T W k) 0) (r_S1 (r_T W k 0) (r_T W k))) b) = W b
    rw [if_neg (by omega)]
    unfold r_S4
    rw [if_neg (by omega), if_neg (by omega), e1 0 (by omega), r_S3_o (by omega), e1 b hb, ih b hb]
theorem m_pass {m c x : Int} {W V : Int → Int} {R k : Nat} (hW : a_ok 9999 W) (ho : a_ok m V) (hs : r_sim V (r_T W k)) (hx : 0 ≤ x ∧ x < W 0) (hv : V (39 + x) = r_wd W x R k) (hc : (c = 1 ∧ R.testBit k = true) ∨ (c = 0 ∧ ¬ R.testBit k = true)) : r_sim (r_pass c V) (r_T W (k + 1)) ∧ r_pass c V (39 + x) = r_wd W x R (k + 1) := by
  have b0 := ho.1
  have v0 : V 0 = W 0 := (hs 0 (by omega) (by omega)).trans (r_T_k hW k 0 (by omega))
  have s1 := r_sim_S1 hs b0.2
  have o1 := r_S1_ok ho
  have z0 : r_S1 (V 0) V 0 = V 0 := r_S1_o (by omega) (by omega)
  have w2lo : ∀ b, b < 39 → r_w2 c V b = r_S1 (V 0) V b := fun b hb => by
    unfold r_w2
    by_cases h : c = 0
    · rw [if_pos h]
    · rw [if_neg h, r_S2_o (by omega)]
  have w20 : r_w2 c V 0 = V 0 := (w2lo 0 (by omega)).trans z0
  have s2 : r_sim (r_w2 c V) (r_S1 (r_T W k 0) (r_T W k)) := fun b hb h5 => (w2lo b hb).trans (s1 b hb h5)
  have o2 := r_w2_ok (c := c) ho
  refine ⟨?_, ?_⟩
  · refine r_sim_tr s2 (by rw [w20]; exact b0.2) ?_
    rcases o2.2.2.2.1 with q | ⟨q1, q2, -⟩
    · exact Or.inl q
    · exact Or.inr ⟨q1, q2⟩
  · have e1 : r_pass c V (39 + x) = r_w2 c V (39 + x) := by
      unfold r_pass r_S4
      rw [if_neg (by omega), if_neg (by omega), w20, r_S3_o (by omega)]
    have e2 : r_S1 (V 0) V (39 + x) = V (39 + x) := r_S1_o (by omega) (by omega)
    have e7 : r_S1 (V 0) V (7 + x) = W (7 + x) := by
      rw [r_S1_o (by omega) (by omega), hs (7 + x) (by omega) (by omega)]
      exact r_T_k hW k _ (by omega)
    have ih : r_ih W x k = if r_S1 (V 0) V 3 = -4 ∨ r_in (r_S1 (V 0) V) x = 0 then 0 else 1 := by
      unfold r_ih
      rw [s1 3 (by omega) (by omega), r_in_sim hx.1 (by omega) s1]
    rw [e1]
    show _ = if R.testBit k = true ∧ r_ih W x k = 0 then a_wt (W (7 + x)) (r_wd W x R k) else r_wd W x R k
    unfold r_w2
    rcases hc with ⟨c1, c2⟩ | ⟨c1, c2⟩
    · rw [if_neg (by omega)]
      by_cases d : r_S1 (V 0) V 3 = -4 ∨ r_in (r_S1 (V 0) V) x = 0
      · rw [r_S2_i hx.1 (by omega) d, e7, e2, hv, if_pos ⟨c2, by rw [ih, if_pos d]⟩]
      · rw [r_S2_n d, e2, hv, if_neg (fun q => by rw [ih, if_neg d] at q; exact absurd q.2 (by decide))]
    · rw [if_pos c1, e2, hv, if_neg (fun q => c2 q.1)]
theorem m_dry {G : a_P} {a1 a2 a3 a4 a5 : Int} (ho : a_ok 9999 (G 134)) (c1 : 0 ≤ a1 ∧ a1 < G 134 0) (c2 : 0 ≤ a2 ∧ a2 ≤ 99) (c3 : 0 ≤ a3 ∧ a3 ≤ 6) (c4 : 0 ≤ a4 ∧ a4 ≤ 10) (c5 : 0 ≤ a5 ∧ a5 ≤ 1) : a_Qf1 (fn_171 (r_sa (G 134) a1 a2 a4 a3.toNat (2 ^ a3.toNat)) (r_so a4 a3.toNat (2 ^ a3.toNat)) a5) (fn_172 a1 a2 a3 a4 a5 G) := by
  have b0 := ho.1
  have v1 : ¬ fn_110 a1 G = 0 := by rw [fe_110 b0.1 b0.2]; exact fun q => q c1
  have v2 : ¬ fn_108 a2 0 99 = 0 := by rw [fe_108z]; exact fun q => q c2
  have v3 : ¬ fn_108 a3 0 6 = 0 := by rw [fe_108z]; exact fun q => q c3
  have v4 : ¬ fn_108 a4 0 10 = 0 := by rw [fe_108z]; exact fun q => q c4
  have v5 : ¬ fn_108 a5 0 1 = 0 := by rw [fe_108z]; exact fun q => q c5
  obtain ⟨n, hn⟩ : ∃ n : Nat, a3 = (n : Int) := ⟨a3.toNat, by omega⟩
  have n6 : n ≤ 6 := by omega
  have ent : a3.toNat = n := by omega
  rw [ent]
  have p2 : 2 ^ n ≤ 64 := a_p26 n6
  have shl : a_shl 1 a3 = ((2 ^ n : Nat) : Int) := by rw [hn]; exact (a_shl0 ⟨n, by omega⟩).1
  generalize hV : fn_171 (r_sa (G 134) a1 a2 a4 n (2 ^ n)) (r_so a4 n (2 ^ n)) a5 = V
  unfold fn_172
  refine a_fjn (Q := a_Qf1 V) (fun _ => False) (fun _ q => q.elim) (fun j hj => ?_)
  clear hj
  rw [if_neg v1, if_neg v2, if_neg v3, if_neg v4, if_neg v5]
  refine a_fbd1 (Q := a_Qf1 V) ?_
  have hK := a_asd_0 G
  generalize fn_153 G = K at hK
  refine a_fjn (Q := a_Qf1 V) (fun s2 : Int × Int × a_P => s2.1 = r_sa (G 134) a1 a2 a4 n (2 ^ n) ∧ s2.2.1 = r_so a4 n (2 ^ n)) (fun s2 h2 => ?_) (fun j hj => ?_)
  · show fn_171 s2.1 s2.2.1 a5 = V
    rw [h2.1, h2.2, hV]
  · rw [shl]
    refine a_lp_up (Q := a_Qf1 V) (fun R (s : Int × Int × Int × a_P) => s.2.2.1 = (R : Int) ∧ s.1 = r_sa (G 134) a1 a2 a4 n R ∧ s.2.1 = r_so a4 n R ∧ a_asd s.2.2.2 (G 134)) (2 ^ n) (by omega) (fun R s hR hss nx hnx => ?_) (fun s hss nx => ?_) (0, 0, 0, K) ⟨rfl, rfl, rfl, hK⟩
    · obtain ⟨q1, q2, q3, q4⟩ := hss
      have ob := r_od_b (R := R) c4 n
      have pk := a_p10 n6
      have sb := r_sa_b (W := G 134) (x := a1) (v := a2) c4 n6 R
      rw [if_pos (by rw [q1]; omega)]
      refine a_fjn (Q := a_Qf1 V) (fun u : Int × a_P => u.1 = r_od R a4 n ∧ u.2 134 (39 + a1) = r_wd (G 134) a1 R n ∧ a_pre u.2 (G 134)) (fun u hu => ?_) (fun j2 hj2 => ?_)
      · obtain ⟨u1, u2, u3⟩ := hu
        refine a_fbd1 (Q := a_Qf1 V) ?_
        have es : a_wl (s.2.1 + u.1) = r_so a4 n (R + 1) := by
          rw [q3, u1, a_wl_id (by omega) (by omega)]
          rfl
        rw [es, a_w_id (x := 39 + a1) (by omega) (by omega), u2]
        have ek : Unit → a_w (s.2.2.1 + 1) = ((R + 1 : Nat) : Int) := fun _ => by rw [q1, a_w_id (by omega) (by omega)]; omega
        refine a_fjn (Q := a_Qf1 V) (fun v : Int => v = if a2 < r_wd (G 134) a1 R n then 0 else r_od R a4 n) (fun v hv => ?_) (fun j3 hj3 => ?_)
        · refine a_fbd1 (Q := a_Qf1 V) ?_
          refine a_fbd1 (Q := a_Qf1 V) ?_
          refine a_fbd1 (Q := a_Qf1 V) ?_
          have ea : a_wl (s.1 + v) = r_sa (G 134) a1 a2 a4 n (R + 1) := by
            have e0 : r_sa (G 134) a1 a2 a4 n (R + 1) = if a2 < r_wd (G 134) a1 R n then r_sa (G 134) a1 a2 a4 n R else r_sa (G 134) a1 a2 a4 n R + r_od R a4 n := rfl
            rw [q2, hv, e0]
            by_cases d : a2 < r_wd (G 134) a1 R n
            · rw [if_pos d, if_pos d, a_wl_id (by omega) (by omega)]
              omega
            · rw [if_neg d, if_neg d, a_wl_id (by omega) (by omega)]
          rw [ea, ek ()]
          exact hnx (_, _, _, _) ⟨rfl, rfl, rfl, a_pre_back u3⟩
        · rw [u1]
          exact a_fifc (fun d => hj3 _ (by rw [if_pos d])) (fun d => hj3 _ (by rw [if_neg d]))
      · have e134 : s.2.2.2 134 = G 134 := funext q4.1
        refine a_lp_up (Q := a_Qf1 V) (fun k (u : Int × Int × a_P) => u.2.1 = (k : Int) ∧ u.1 = r_od R a4 k ∧ a_pre u.2.2 (G 134) ∧ a_ok (9999 + (k : Int)) (u.2.2 134) ∧ r_sim (u.2.2 134) (r_T (G 134) k) ∧ u.2.2 134 (39 + a1) = r_wd (G 134) a1 R k) n (by omega) (fun k u hk hu nx2 hnx2 => ?_) (fun u hu nx2 => ?_) (1, 0, s.2.2.2) ⟨rfl, rfl, a_pre_asd q4, by
          show a_ok (9999 + ((0 : Nat) : Int)) (s.2.2.2 134)
          rw [e134]
          exact a_ok_mono ho (by omega), by
          show r_sim (s.2.2.2 134) (G 134)
          rw [e134]
          exact fun _ _ _ => rfl, q4.1 _⟩
        · obtain ⟨u1, u2, u3, u4, u5, u6⟩ := hu
          have bit := a_tb (n := R) (i := k) (by omega) (by omega)
          have ob1 := r_od_b (R := R) c4 (k + 1)
          have pk1 := a_p10 (k := k + 1) (by omega)
          have ek : Unit → a_w (u.2.1 + 1) = ((k + 1 : Nat) : Int) := fun _ => by rw [u1, a_w_id (by omega) (by omega)]; omega
          rw [if_pos (by rw [u1]; omega), q1]
          refine a_fjn (Q := a_Qf1 V) (fun v : Int => (v = 1 ∧ R.testBit k = true) ∨ (v = 0 ∧ ¬ R.testBit k = true)) (fun v hv => ?_) (fun j3 hj3 => ?_)
          · refine a_fjn (Q := a_Qf1 V) (fun y : Int => y = if R.testBit k = true then a4 else 10 - a4) (fun y hy => ?_) (fun j4 hj4 => ?_)
            · refine a_fbd1 (Q := a_Qf1 V) ?_
              refine a_fbd1 (Q := a_Qf1 V) ?_
              refine a_fbd1 (Q := a_Qf1 V) ?_
              have eo : a_wl (u.1 * y) = r_od R a4 (k + 1) := by
                rw [u2, hy]
                show a_wl (r_od R a4 (k + 1)) = _
                exact a_wl_id (by omega) (by omega)
              rw [eo, ek ()]
              have mp := fl_mpass (c := v) u4 (by omega)
              have em : fn_123 v u.2.2 134 = r_pass v (u.2.2 134) := funext mp
              obtain ⟨z1, z2⟩ := m_pass (c := v) (R := R) ho u4 u5 c1 u6 hv
              refine hnx2 (_, _, _) ⟨rfl, rfl, ⟨fun b w0 w1 => ?_, fun b w => ?_⟩, ?_, ?_, ?_⟩
              · show fn_123 v u.2.2 138 b = _
                rw [fr_123 v u.2.2 138 b (by unfold w_123; omega)]
                exact u3.1 b w0 w1
              · show fn_123 v u.2.2 134 b = _
                rw [mp b, r_pass_o u4.1.2 w]
                exact u3.2 b w
              · show a_ok (9999 + ((k + 1 : Nat) : Int)) (fn_123 v u.2.2 134)
                rw [em]
                exact a_ok_mono (r_pass_ok u4) (by omega)
              · show r_sim (fn_123 v u.2.2 134) (r_T (G 134) (k + 1))
                rw [em]
                exact z1
              · show fn_123 v u.2.2 134 (39 + a1) = _
                rw [em]
                exact z2
            · rw [a_w_id (x := 10 - a4) (by omega) (by omega)]
              rcases hv with ⟨h1, h2⟩ | ⟨h1, h2⟩
              · rw [if_neg (by omega)]
                exact hj4 _ (by rw [if_pos h2])
              · rw [if_pos h1]
                exact hj4 _ (by rw [if_neg h2])
          · rw [u1]
            exact a_fifc (fun d => hj3 _ (Or.inl ⟨rfl, bit.mp d⟩)) (fun d => hj3 _ (Or.inr ⟨rfl, fun q => d (bit.mpr q)⟩))
        · obtain ⟨u1, u2, u3, u4, u5, u6⟩ := hu
          rw [if_neg (by rw [u1]; omega)]
          exact hj2 _ ⟨u2, u6, u3⟩
    · obtain ⟨q1, q2, q3, q4⟩ := hss
      rw [if_neg (by rw [q1]; omega)]
      exact hj _ ⟨q2, q3⟩
theorem c_dry {H G : a_P} {a1 a2 a3 a4 a5 : Int} (h : a_now H G) (c1 : 0 ≤ a1 ∧ a1 < G 134 0) (c2 : 0 ≤ a2 ∧ a2 ≤ 99) (c3 : 0 ≤ a3 ∧ a3 ≤ 6) (c4 : 0 ≤ a4 ∧ a4 ≤ 10) (c5 : 0 ≤ a5 ∧ a5 ≤ 1) (eu : r_eu 0 (r_sa (G 134) a1 a2 a4 a3.toNat (2 ^ a3.toNat)) ((10 ^ a3.toNat : Nat) : Int)) : a_Qf1 ((if a5 = 0 then r_sa (G 134) a1 a2 a4 a3.toNat (2 ^ a3.toNat) else ((10 ^ a3.toNat : Nat) : Int)) / r_gc 40 (r_sa (G 134) a1 a2 a4 a3.toNat (2 ^ a3.toNat)) ((10 ^ a3.toNat : Nat) : Int)) (fn_82 a1 a2 a3 a4 a5 H) := by
  have v1 : ¬ fn_12 1 a1 H = 0 := by rw [fe_12h h]; exact fun q => q c1
  have v2 : ¬ fn_91 a2 100 = 0 := by rw [fe_91z]; exact fun q => q (by omega)
  have v3 : ¬ fn_91 a3 7 = 0 := by rw [fe_91z]; exact fun q => q (by omega)
  have v4 : ¬ fn_91 a4 11 = 0 := by rw [fe_91z]; exact fun q => q (by omega)
  have v5 : ¬ fn_91 a5 2 = 0 := by rw [fe_91z]; exact fun q => q (by omega)
  obtain ⟨g, g1, g2, g3⟩ := c_hin h c1 c3
  have nH : a_now (fn_103 a1 a3 H).2 G := a_now_fr h (fun a b q1 q2 => fr_103 a1 a3 H a b (by unfold w_103; omega)) (fun _ _ _ => rfl)
  obtain ⟨n, hn⟩ : ∃ n : Nat, a3 = (n : Int) := ⟨a3.toNat, by omega⟩
  have n6 : n ≤ 6 := by omega
  have ent : a3.toNat = n := by omega
  rw [ent] at eu g3
  rw [ent]
  have p2 : 2 ^ n ≤ 64 := a_p26 n6
  have p10 := a_p10 n6
  have pp10 : 0 < 10 ^ n := Nat.pow_pos (by decide)
  have shl : a_shl 1 a3 = ((2 ^ n : Nat) : Int) := by rw [hn]; exact (a_shl0 ⟨n, by omega⟩).1
  generalize hV : (if a5 = 0 then r_sa (G 134) a1 a2 a4 n (2 ^ n) else ((10 ^ n : Nat) : Int)) / r_gc 40 (r_sa (G 134) a1 a2 a4 n (2 ^ n)) ((10 ^ n : Nat) : Int) = V
  unfold fn_82
  refine a_fjn (Q := a_Qf1 V) (fun _ => False) (fun _ q => q.elim) (fun j hj => ?_)
  clear hj
  rw [if_neg v1, if_neg v2, if_neg v3]
  refine a_fjn (Q := a_Qf1 V) (fun _ => False) (fun _ q => q.elim) (fun j hj => ?_)
  clear hj
  rw [if_neg v4, if_neg v5]
  refine a_fbd1 (Q := a_Qf1 V) ?_
  rw [g1]
  generalize (fn_103 a1 a3 H).2 = X at nH
  refine a_fjn (Q := a_Qf1 V) (fun v : Int => v = ((10 ^ n : Nat) : Int)) (fun v hv => ?_) (fun j hj => ?_)
  · subst hv
    refine a_fjn (Q := a_Qf1 V) (fun v : Int => v = r_sa (G 134) a1 a2 a4 n (2 ^ n)) (fun v hv => ?_) (fun j hj => ?_)
    · subst hv
      have gp : 0 < r_gc 40 (r_sa (G 134) a1 a2 a4 n (2 ^ n)) ((10 ^ n : Nat) : Int) := by
        show 0 < if ((10 ^ n : Nat) : Int) = 0 then _ else r_gc 39 ((10 ^ n : Nat) : Int) (_ % ((10 ^ n : Nat) : Int))
        rw [if_neg (by omega)]
        exact r_gc_pos 39 _ _ (by omega) (Int.emod_nonneg _ (by omega))
      obtain ⟨a0, a1', b0', b1', -⟩ := id eu
      refine a_fbd1 (Q := a_Qf1 V) ?_
      rw [c_gcd eu, if_neg (by omega)]
      simp only [a_jn]
      by_cases d : a5 = 0
      · rw [if_pos d] at hV
        rw [if_pos d, a_div_id a0 (by omega) gp]
        exact hV
      · rw [if_neg d] at hV
        rw [if_neg d, a_div_id b0' (by omega) gp]
        exact hV
    · rw [shl]
      refine a_lp_up (Q := a_Qf1 V) (fun R (s : Int × Int) => s.2 = (R : Int) ∧ s.1 = r_sa (G 134) a1 a2 a4 n R) (2 ^ n) (by omega) (fun R s hR hss nx hnx => ?_) (fun s hss nx => ?_) (0, 0) ⟨rfl, rfl⟩
      · obtain ⟨q1, q2⟩ := hss
        have ob := r_od_b (R := R) c4 n
        have sb := r_sa_b (W := G 134) (x := a1) (v := a2) c4 n6 R
        have ek : Unit → a_w ((R : Int) + 1) = ((R + 1 : Nat) : Int) := fun _ => by rw [a_w_id (by omega) (by omega)]; omega
        have wb := c_wetb (R := R) (g := g) nH c1 c3 (by omega) g2 (by rw [ent]; exact g3)
        have od := c_odds (R := R) (by omega) c3 c4
        rw [ent] at wb od
        rw [if_pos (by rw [q1]; omega), q1, q2, wb, od]
        simp only [a_jn, a_bd]
        rw [ek ()]
        have e0 : r_sa (G 134) a1 a2 a4 n (R + 1) = if a2 < r_wd (G 134) a1 R n then r_sa (G 134) a1 a2 a4 n R else r_sa (G 134) a1 a2 a4 n R + r_od R a4 n := rfl
        by_cases d : a2 < r_wd (G 134) a1 R n
        · rw [if_pos d] at e0
          rw [if_pos d]
          exact hnx (_, _) ⟨rfl, e0.symm⟩
        · rw [if_neg d] at e0
          rw [if_neg d, a_w_id (by omega) (by omega)]
          exact hnx (_, _) ⟨rfl, e0.symm⟩
      · obtain ⟨q1, q2⟩ := hss
        rw [if_neg (by rw [q1]; omega)]
        exact hj _ q2
  · refine a_lp_up (Q := a_Qf1 V) (fun k (s : Int × Int) => s.2 = (k : Int) ∧ s.1 = ((10 ^ k : Nat) : Int)) n (by omega) (fun k s hk hss nx hnx => ?_) (fun s hss nx => ?_) (1, 0) ⟨rfl, rfl⟩
    · obtain ⟨q1, q2⟩ := hss
      have pk := a_p10 (k := k + 1) (by omega)
      have ps : 10 ^ (k + 1) = 10 ^ k * 10 := Nat.pow_succ ..
      have e1 : Unit → a_w (s.1 * 10) = ((10 ^ (k + 1) : Nat) : Int) := fun _ => by rw [q2, a_w_id (by omega) (by omega), ps]; omega
      have e2 : Unit → a_w (s.2 + 1) = ((k + 1 : Nat) : Int) := fun _ => by rw [q1, a_w_id (by omega) (by omega)]; omega
      rw [if_pos (by rw [q1]; omega)]
      refine a_fbd1 (Q := a_Qf1 V) ?_
      refine a_fbd1 (Q := a_Qf1 V) ?_
      rw [e1 (), e2 ()]
      exact hnx (_, _) ⟨rfl, rfl⟩
    · obtain ⟨q1, q2⟩ := hss
      rw [if_neg (by rw [q1]; omega)]
      exact hj _ q2
theorem r2_dry (a1 a2 a3 a4 a5 : Int) {H G : a_P} (h : a_R2 H G) : (fn_82 a1 a2 a3 a4 a5 H).1 = (fn_172 a1 a2 a3 a4 a5 G).1 := by
  have b0 := h.1.2.1
  have z1 := fe_12h h.1 a1
  have z2 := fe_110 (a := a1) (G := G) b0.1 b0.2
  by_cases c1 : 0 ≤ a1 ∧ a1 < G 134 0
  · by_cases c2 : 0 ≤ a2 ∧ a2 ≤ 99
    · by_cases c3 : 0 ≤ a3 ∧ a3 ≤ 6
      · by_cases c4 : 0 ≤ a4 ∧ a4 ≤ 10
        · by_cases c5 : 0 ≤ a5 ∧ a5 ≤ 1
          · have so : r_so a4 a3.toNat (2 ^ a3.toNat) = ((10 ^ a3.toNat : Nat) : Int) := by
              have := r_so_all ⟨a3.toNat, by omega⟩ ⟨a4.toNat, by omega⟩
              have e : ((a4.toNat : Nat) : Int) = a4 := by omega
              simp only [e] at this
              exact this
            have sb := r_sa_b (W := G 134) (x := a1) (v := a2) (n := a3.toNat) c4 (by omega) (2 ^ a3.toNat)
            have p10 := a_p10 (k := a3.toNat) (by omega)
            have pp10 : 0 < 10 ^ a3.toNat := Nat.pow_pos (by decide)
            have eu : r_eu 0 (r_sa (G 134) a1 a2 a4 a3.toNat (2 ^ a3.toNat)) ((10 ^ a3.toNat : Nat) : Int) := by
              have e20 : ((2 ^ (20 - 0) : Nat) : Int) = 1048576 := by decide
              refine ⟨sb.1, by omega, by omega, by omega, 0, Or.inl ⟨rfl, ?_⟩⟩
              rw [e20]
              omega
            have k1 : (fn_82 a1 a2 a3 a4 a5 H).1 = _ := c_dry h.1 c1 c2 c3 c4 c5 eu
            have k2 : (fn_172 a1 a2 a3 a4 a5 G).1 = _ := m_dry h.1.2 c1 c2 c3 c4 c5
            rw [k1, k2, so, m_part eu (by omega)]
          · simp only [fn_82, fn_172, a_jn, a_bd, z1, z2, fe_91z, fe_108z]
            rw [if_neg (show ¬ ¬ (0 ≤ a1 ∧ a1 < G 134 0) from fun q => q c1), if_neg (show ¬ ¬ (0 ≤ a2 ∧ a2 < 100) from fun q => q (by omega)), if_neg (show ¬ ¬ (0 ≤ a3 ∧ a3 < 7) from fun q => q (by omega)), if_neg (show ¬ ¬ (0 ≤ a4 ∧ a4 < 11) from fun q => q (by omega)), if_pos (show ¬ (0 ≤ a5 ∧ a5 < 2) by omega), if_neg (show ¬ ¬ (0 ≤ a1 ∧ a1 < G 134 0) from fun q => q c1), if_neg (show ¬ ¬ (0 ≤ a2 ∧ a2 ≤ 99) from fun q => q c2), if_neg (show ¬ ¬ (0 ≤ a3 ∧ a3 ≤ 6) from fun q => q c3), if_neg (show ¬ ¬ (0 ≤ a4 ∧ a4 ≤ 10) from fun q => q c4), if_pos c5]
        · simp only [fn_82, fn_172, a_jn, a_bd, z1, z2, fe_91z, fe_108z]
          rw [if_neg (show ¬ ¬ (0 ≤ a1 ∧ a1 < G 134 0) from fun q => q c1), if_neg (show ¬ ¬ (0 ≤ a2 ∧ a2 < 100) from fun q => q (by omega)), if_neg (show ¬ ¬ (0 ≤ a3 ∧ a3 < 7) from fun q => q (by omega)), if_pos (show ¬ (0 ≤ a4 ∧ a4 < 11) by omega), if_neg (show ¬ ¬ (0 ≤ a1 ∧ a1 < G 134 0) from fun q => q c1), if_neg (show ¬ ¬ (0 ≤ a2 ∧ a2 ≤ 99) from fun q => q c2), if_neg (show ¬ ¬ (0 ≤ a3 ∧ a3 ≤ 6) from fun q => q c3), if_pos c4]
      · simp only [fn_82, fn_172, a_jn, a_bd, z1, z2, fe_91z, fe_108z]
        rw [if_neg (show ¬ ¬ (0 ≤ a1 ∧ a1 < G 134 0) from fun q => q c1), if_neg (show ¬ ¬ (0 ≤ a2 ∧ a2 < 100) from fun q => q (by omega)), if_pos (show ¬ (0 ≤ a3 ∧ a3 < 7) by omega), if_neg (show ¬ ¬ (0 ≤ a1 ∧ a1 < G 134 0) from fun q => q c1), if_neg (show ¬ ¬ (0 ≤ a2 ∧ a2 ≤ 99) from fun q => q c2), if_pos c3]
    · simp only [fn_82, fn_172, a_jn, a_bd, z1, z2, fe_91z, fe_108z]
      rw [if_neg (show ¬ ¬ (0 ≤ a1 ∧ a1 < G 134 0) from fun q => q c1), if_pos (show ¬ (0 ≤ a2 ∧ a2 < 100) by omega), if_neg (show ¬ ¬ (0 ≤ a1 ∧ a1 < G 134 0) from fun q => q c1), if_pos c2]
  · simp only [fn_82, fn_172, a_jn, a_bd, z1, z2]
    rw [if_pos c1, if_pos c1]
theorem aR_dry (a1 a2 a3 a4 a5 : Int) {G : a_P} (hR : a_R G) (hS : a_S G) : (fn_82 a1 a2 a3 a4 a5 G).1 = (fn_172 a1 a2 a3 a4 a5 (fn_82 a1 a2 a3 a4 a5 G).2).1 := a_glueA (f := fn_82 a1 a2 a3 a4 a5) (g := fn_172 a1 a2 a3 a4 a5) hR (fun a b q => fr_82 a1 a2 a3 a4 a5 G a b (by unfold w_82; omega)) (fun X hX => r2_dry a1 a2 a3 a4 a5 hX)

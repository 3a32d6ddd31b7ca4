/-! ROOM, NEAREST -/
def r_bt (x : Int) : Nat → Int
  | 0 => 0
  | k + 1 => a_w (r_bt x k + a_and (a_shr x (k : Int)) 1)
theorem fe_163 (x : Int) : fn_163 x = r_bt x 8 := by
  unfold fn_163
  refine a_lp_up (Q := fun v : Int => v = r_bt x 8) (fun k s => s.2 = (k : Int) ∧ s.1 = r_bt x k) 8 (by omega) (fun k s hk hs nx hn => ?_) (fun s hs nx => ?_) (0, 0) ⟨rfl, rfl⟩
  · obtain ⟨q1, q2⟩ := hs
    have e1 : Unit → a_w ((k : Int) + 1) = ((k + 1 : Nat) : Int) := fun _ => by rw [a_w_id (by omega) (by omega)]; omega
    rw [if_pos (by rw [q1]; omega), q1, q2]
    simp only [a_bd]
    rw [e1 ()]
    exact hn (_, _) ⟨rfl, rfl⟩
  · rw [if_neg (by rw [hs.1]; omega)]
    exact hs.2
theorem a_bits0 : ∀ x : Fin 256, fn_185 (x.val : Int) = r_bt (x.val : Int) 8 ∧ 0 ≤ r_bt (x.val : Int) 8 ∧ r_bt (x.val : Int) 8 ≤ 8 ∧ (r_bt (x.val : Int) 8 = 0 ↔ (x.val : Int) = 0) := by decide +kernel
theorem a_bits {x : Int} (h0 : 0 ≤ x) (h1 : x ≤ 255) : fn_185 x = r_bt x 8 ∧ 0 ≤ r_bt x 8 ∧ r_bt x 8 ≤ 8 ∧ (r_bt x 8 = 0 ↔ x = 0) := by
  obtain ⟨n, rfl⟩ := a_fin (k := 256) h0 (by omega)
  exact a_bits0 n
theorem a_tn {a : Int} (h0 : 0 ≤ a) (h1 : a ≤ 255) : (Int32.ofInt a).toBitVec.toNat = a.toNat := by
  have h2 : (Int32.ofInt a).toInt = a := by rw [Int32.toInt_ofInt]; exact q_bm (by omega) (by omega)
  have h3 : (Int32.ofInt a).toInt = if 2 * (Int32.ofInt a).toBitVec.toNat < 2 ^ 32 then ((Int32.ofInt a).toBitVec.toNat : Int) else ((Int32.ofInt a).toBitVec.toNat : Int) - ((2 ^ 32 : Nat) : Int) := BitVec.toInt_eq_toNat_cond _
  have h4 : (Int32.ofInt a).toBitVec.toNat < 2 ^ 32 := (Int32.ofInt a).toBitVec.isLt
  rw [h2] at h3
  generalize (Int32.ofInt a).toBitVec.toNat = N at h3 h4
  split at h3 <;> omega
theorem a_xor_b {a b : Int} (a0 : 0 ≤ a) (a1 : a ≤ 255) (b0 : 0 ≤ b) (b1 : b ≤ 255) : 0 ≤ a_xor a b ∧ a_xor a b ≤ 255 := by
  have e1 : (Int32.ofInt a ^^^ Int32.ofInt b).toBitVec.toNat = a.toNat ^^^ b.toNat := by
    rw [Int32.toBitVec_xor, BitVec.toNat_xor, a_tn a0 a1, a_tn b0 b1]
  have h2 : a.toNat ^^^ b.toNat < 2 ^ 8 := Nat.xor_lt_two_pow (by omega) (by omega)
  have h3 : (Int32.ofInt a ^^^ Int32.ofInt b).toInt = if 2 * (Int32.ofInt a ^^^ Int32.ofInt b).toBitVec.toNat < 2 ^ 32 then ((Int32.ofInt a ^^^ Int32.ofInt b).toBitVec.toNat : Int) else ((Int32.ofInt a ^^^ Int32.ofInt b).toBitVec.toNat : Int) - ((2 ^ 32 : Nat) : Int) := BitVec.toInt_eq_toNat_cond _
  unfold a_xor
  rw [h3, e1]
  generalize a.toNat ^^^ b.toNat = N at h2
  rw [if_pos (by omega)]
  omega
theorem r_let_b {m : Int} {w : Int → Int} (ho : a_ok m w) : 0 ≤ r_let w ∧ r_let w ≤ 255 := by
  obtain ⟨n, e, h1, -⟩ := fl_set (G := fun _ => w) ho.1.1 ho.1.2
  have p8 := a_p8 (k := (w 0).toNat) (by have := ho.1; omega)
  have h1 : n < 2 ^ (w 0).toNat := h1
  unfold r_let
  rw [e]
  omega
/-- the row with THE GATE carried, turned -/
def r_pl (W : Int → Int) (c l : Int) : Int → Int := r_up (r_up (r_up W 1 c) 2 l) (15 + W 3) c
theorem r_pl_ok {m c l : Int} {W : Int → Int} (ho : a_ok m W) (hb : 0 ≤ W 3 ∧ W 3 < W 0) (hc : 0 ≤ c ∧ c ≤ 35) (hl : 0 ≤ l ∧ l ≤ 3) : a_ok m (r_pl W c l) := by
  have b0 := ho.1
  have rr : ∀ b, ¬ b = 1 → ¬ b = 2 → ¬ b = 15 + W 3 → r_pl W c l b = W b := fun b w1 w2 w3 => by unfold r_pl; rw [r_up_ne w3, r_up_ne w2, r_up_ne w1]
  have r1 : r_pl W c l 1 = c := by unfold r_pl; rw [r_up_ne (by omega), r_up_ne (by omega), r_up_eq]
  have r2 : r_pl W c l 2 = l := by unfold r_pl; rw [r_up_ne (by omega), r_up_eq]
  have r15 : r_pl W c l (15 + W 3) = c := r_up_eq
  obtain ⟨o0, o1, o2, o3, o4, o5, o6, oA⟩ := ho
  refine ⟨by rw [rr 0 (by omega) (by omega) (by omega)]; exact o0, by rw [r1]; exact hc, by rw [r2]; exact hl, ?_, by rw [rr 4 (by omega) (by omega) (by omega)]; exact o4, by rw [rr 5 (by omega) (by omega) (by omega)]; exact o5, by rw [rr 6 (by omega) (by omega) (by omega)]; exact o6, fun i i0 i1 => ?_⟩
  · rw [rr 3 (by omega) (by omega) (by omega), rr 0 (by omega) (by omega) (by omega), rr (31 + W 3) (by omega) (by omega) (by omega)]
    exact o3
  · rw [rr 0 (by omega) (by omega) (by omega)] at i1
    obtain ⟨u1, u2, u3, u4, u5⟩ := oA i i0 i1
    rw [rr (7 + i) (by omega) (by omega) (by omega), rr (23 + i) (by omega) (by omega) (by omega), rr (31 + i) (by omega) (by omega) (by omega), rr (39 + i) (by omega) (by omega) (by omega)]
    refine ⟨u1, ?_, u3, u4, u5⟩
    by_cases ci : i = W 3
    · rw [ci, r15]; exact hc
    · rw [rr _ (by omega) (by omega) (by omega)]; exact u2
noncomputable def r_par (W : Int → Int) (some_ : Int) (c l : Int) : Int := a_xor (r_let (r_pl W c l)) some_
noncomputable def r_stp (W : Int → Int) (c : Int) : Int := fn_114 c (W 1)
noncomputable def r_own (W : Int → Int) (c l : Int) : Int := r_stp W c + (if l = W 2 then 0 else 1)
/-- the best of what was tried -/
def r_off (x : Option (Int × Int × Int × Int)) (o d c l : Int) : Option (Int × Int × Int × Int) := match x with
  | none => some (o, d, c, l)
  | some y => if r_bt o 8 < r_bt y.1 8 ∨ (r_bt o 8 = r_bt y.1 8 ∧ d < y.2.1) then some (o, d, c, l) else some y
noncomputable def r_bp (W : Int → Int) (some_ : Int) : Nat → Option (Int × Int × Int × Int)
  | 0 => none
  | k + 1 => if r_stp W ((k : Int) / 4) < W (31 + W 3) then r_off (r_bp W some_ k) (r_par W some_ ((k : Int) / 4) ((k : Int) % 4)) (r_own W ((k : Int) / 4) ((k : Int) % 4)) ((k : Int) / 4) ((k : Int) % 4) else r_bp W some_ k
theorem fe_113b {a b : Int} (ha : 0 ≤ a ∧ a ≤ 35) (hb : 0 ≤ b ∧ b ≤ 35) : 0 ≤ fn_114 a b ∧ fn_114 a b ≤ 10 := by
  simp only [fn_114, fn_113, a_jn]
  rw [a_div6 ha.1 ha.2, a_div6 hb.1 hb.2, a_rem6 ha.1 ha.2, a_rem6 hb.1 hb.2, a_w_id (x := b / 6 - a / 6) (by omega) (by omega), a_w_id (x := a / 6 - b / 6) (by omega) (by omega), a_w_id (x := b % 6 - a % 6) (by omega) (by omega), a_w_id (x := a % 6 - b % 6) (by omega) (by omega)]
  by_cases c1 : a / 6 < b / 6
  · rw [if_pos c1]
    by_cases c2 : a % 6 < b % 6
    · rw [if_pos c2, a_w_id (by omega) (by omega)]; omega
    · rw [if_neg c2, a_w_id (by omega) (by omega)]; omega
  · rw [if_neg c1]
    by_cases c2 : a % 6 < b % 6
    · rw [if_pos c2, a_w_id (by omega) (by omega)]; omega
    · rw [if_neg c2, a_w_id (by omega) (by omega)]; omega
theorem fe_114s (a : Int) (ha : 0 ≤ a ∧ a ≤ 35) : fn_114 a a = 0 := by
  simp only [fn_114, fn_113, a_jn]
  rw [if_neg (show ¬ a_div a 6 < a_div a 6 by omega), if_neg (show ¬ a_rem a 6 < a_rem a 6 by omega), show a_div a 6 - a_div a 6 = 0 by omega, show a_rem a 6 - a_rem a 6 = 0 by omega]
  decide
/-- who the best lies, in the class and in the reference -/
def a_cb (H : a_P) (x : Option (Int × Int × Int × Int)) : Prop := match x with
  | none => H 122 4 = 1
  | some y => H 122 4 = 0 ∧ H 122 0 = y.1 ∧ H 122 1 = y.2.1 ∧ H 122 2 = y.2.2.1 ∧ H 122 3 = y.2.2.2 ∧ (0 ≤ y.1 ∧ y.1 ≤ 255)
def a_mb (G : a_P) (x : Option (Int × Int × Int × Int)) : Prop := match x with
  | none => G 133 9 = 99
  | some y => G 133 9 = r_bt y.1 8 ∧ G 133 10 = y.1 ∧ G 133 11 = y.2.1 ∧ G 133 12 = y.2.2.1 ∧ G 133 13 = y.2.2.2 ∧ (0 ≤ y.1 ∧ y.1 ≤ 255)
theorem c_offer {H : a_P} {x : Option (Int × Int × Int × Int)} {o d c l : Int} (h : a_cb H x) (ho : 0 ≤ o ∧ o ≤ 255) : a_cb (fn_7 o d c l H) (r_off x o d c l) := by
  have new : a_cb (a_up (a_up (a_up (a_up (a_up H 122 4 0) 122 0 o) 122 1 d) 122 2 c) 122 3 l) (some (o, d, c, l)) := by
    refine ⟨?_, ?_, ?_, ?_, a_up_eq, ho⟩
    · rw [a_up_ne (by omega), a_up_ne (by omega), a_up_ne (by omega), a_up_ne (by omega), a_up_eq]
    · rw [a_up_ne (by omega), a_up_ne (by omega), a_up_ne (by omega), a_up_eq]
    · rw [a_up_ne (by omega), a_up_ne (by omega), a_up_eq]
    · rw [a_up_ne (by omega), a_up_eq]
  cases x with
  | none =>
    have h4 : H 122 4 = 1 := h
    simp only [fn_7, a_jn, a_bd]
    rw [if_neg (by omega)]
    exact new
  | some y =>
    show a_cb _ (if r_bt o 8 < r_bt y.1 8 ∨ (r_bt o 8 = r_bt y.1 8 ∧ d < y.2.1) then some (o, d, c, l) else some y)
    obtain ⟨h4, h0, h1, h2, h3, hb⟩ := h
    have bo := a_bits ho.1 ho.2
    have by_ := a_bits hb.1 hb.2
    have better : fn_8 o d H = if r_bt o 8 < r_bt y.1 8 ∨ (r_bt o 8 = r_bt y.1 8 ∧ d < y.2.1) then 1 else 0 := by
      simp only [fn_8, a_jn, a_bd, h0, h1]
      rw [bo.1, by_.1, a_w_id (by omega) (by omega)]
      by_cases c1 : r_bt o 8 - r_bt y.1 8 < 0
      · rw [if_pos c1, if_pos (Or.inl (by omega))]
      · rw [if_neg c1]
        by_cases c2 : r_bt o 8 - r_bt y.1 8 = 0
        · rw [if_pos c2]
          by_cases c3 : d < y.2.1
          · rw [if_pos c3, if_pos (Or.inr ⟨by omega, c3⟩)]
          · rw [if_neg c3, if_neg (by omega)]
        · rw [if_neg c2, if_neg (by omega)]
    simp only [fn_7, a_jn, a_bd, better]
    rw [if_pos h4]
    by_cases c : r_bt o 8 < r_bt y.1 8 ∨ (r_bt o 8 = r_bt y.1 8 ∧ d < y.2.1)
    · rw [if_pos c, if_neg (show ¬ (1 : Int) = 0 by decide), if_pos c]
      exact new
    · rw [if_neg c, if_pos rfl, if_neg c]
      exact ⟨h4, h0, h1, h2, h3, hb⟩
theorem a_cb_fr {H H' : a_P} {x : Option (Int × Int × Int × Int)} (h : a_cb H x) (hf : ∀ b, H' 122 b = H 122 b) : a_cb H' x := by
  cases x with
  | none => exact (hf 4).trans h
  | some y =>
    obtain ⟨h4, h0, h1, h2, h3, hb⟩ := h
    exact ⟨(hf 4).trans h4, (hf 0).trans h0, (hf 1).trans h1, (hf 2).trans h2, (hf 3).trans h3, hb⟩
/-- the class's search -/
theorem c_find {H G : a_P} {a1 : Int} (h : a_now H G) (hb : 0 ≤ G 134 3 ∧ G 134 3 < G 134 0) (hs : 0 ≤ a1 ∧ a1 ≤ 255) : a_cb (fn_95 a1 H) (r_bp (G 134) a1 144) := by
  have o := h.2
  have b0 := o.1
  have ob := o.2.2.2.2.2.2.2 _ hb.1 hb.2
  unfold fn_95
  refine a_fbd1 (Q := fun X => a_cb X (r_bp (G 134) a1 144)) ?_
  refine a_fbd1 (Q := fun X => a_cb X (r_bp (G 134) a1 144)) ?_
  have n2 : a_now (fn_6 (fn_10 7 1 H)) G := a_now_fr h (fun a b q1 q2 => by rw [fr_6 _ a b (by unfold w_6; omega), fr_10 7 1 H a b (by unfold w_10; omega)]) (fun _ _ _ => rfl)
  have s7 : a_sm (fn_6 (fn_10 7 1 H)) 7 (G 134) := a_sm_fr (c_like h) (fun a b q1 q2 => fr_6 _ a b (by unfold w_6; omega))
  have e4 : fn_6 (fn_10 7 1 H) 122 4 = 1 := (a_up_eq : a_up (fn_10 7 1 H) 122 4 1 122 4 = 1)
  generalize fn_6 (fn_10 7 1 H) = H2 at n2 s7 e4
  have e2 : H2 1 2 = G 134 3 := n2.1.2.2.1
  refine a_fbd1 (Q := fun X => a_cb X (r_bp (G 134) a1 144)) ?_
  rw [e2, if_neg (by rw [fe_12h n2]; exact fun q => q hb)]
  have e4' : a_cb H2 (r_bp (G 134) a1 (4 * 0)) := e4
  refine a_lp_up (Q := fun X => a_cb X (r_bp (G 134) a1 144)) (fun k s => s.1 = (k : Int) ∧ a_now s.2 G ∧ (∃ V : Int → Int, a_sm s.2 7 V ∧ ∀ b, ¬ b = 1 → ¬ b = 2 → ¬ b = 15 + G 134 3 → V b = G 134 b) ∧ a_cb s.2 (r_bp (G 134) a1 (4 * k))) 36 (by omega) (fun k s hk hss nx hn => ?_) (fun s hss nx => ?_) (0, H2) ⟨rfl, n2, ⟨G 134, s7, fun _ _ _ _ => rfl⟩, e4'⟩
  · obtain ⟨q1, q2, ⟨V, q3, q3'⟩, q4⟩ := hss
    have g0 : s.2 1 0 = G 134 1 := q2.1.1
    have g5 : s.2 5 (G 134 3) = G 134 (31 + G 134 3) := (q2.1.2.2.2.2.2.2.2 _ hb.1 hb.2).2.2.2.1
    have far : fn_15 (G 134 1) (k : Int) = r_stp (G 134) (k : Int) := fl_far o.2.1 (show 0 ≤ (k : Int) ∧ (k : Int) ≤ 35 by omega)
    have sb : 0 ≤ r_stp (G 134) (k : Int) ∧ r_stp (G 134) (k : Int) ≤ 10 := fe_113b (by omega) o.2.1
    have e1 : Unit → a_w ((k : Int) + 1) = ((k + 1 : Nat) : Int) := fun _ => by rw [a_w_id (by omega) (by omega)]; omega
    rw [if_pos (by rw [q1]; omega), q1]
    refine a_fbd1 (Q := fun X => a_cb X (r_bp (G 134) a1 144)) ?_
    rw [g0, far]
    refine a_fjn (Q := fun X => a_cb X (r_bp (G 134) a1 144)) (fun X => a_now X G ∧ (∃ V : Int → Int, a_sm X 7 V ∧ ∀ b, ¬ b = 1 → ¬ b = 2 → ¬ b = 15 + G 134 3 → V b = G 134 b) ∧ a_cb X (r_bp (G 134) a1 (4 * (k + 1)))) (fun X hX => ?_) (fun j hj => ?_)
    · refine a_fbd1 (Q := fun X => a_cb X (r_bp (G 134) a1 144)) ?_
      rw [e1 ()]
      exact hn (_, _) ⟨rfl, hX⟩
    · rw [g5, a_w_id (x := G 134 (31 + G 134 3) - 1) (by omega) (by omega)]
      have d0 : ∀ j : Nat, j < 4 → ((4 * k + j : Nat) : Int) / 4 = (k : Int) ∧ ((4 * k + j : Nat) : Int) % 4 = (j : Int) := fun j hj => by omega
      by_cases c : G 134 (31 + G 134 3) - 1 < r_stp (G 134) (k : Int)
      · rw [if_pos c]
        have st : ∀ j : Nat, j ≤ 4 → r_bp (G 134) a1 (4 * k + j) = r_bp (G 134) a1 (4 * k) := fun j hj => by
          induction j with
          | zero => rfl
          | succ j ih =>
            have d := d0 j (by omega)
            show (if r_stp (G 134) (((4 * k + j : Nat) : Int) / 4) < G 134 (31 + G 134 3) then _ else r_bp (G 134) a1 (4 * k + j)) = _
            rw [d.1, if_neg (by omega), ih (by omega)]
        refine hj _ ⟨q2, ⟨V, q3, q3'⟩, ?_⟩
        rw [show 4 * (k + 1) = 4 * k + 4 by omega, st 4 (by omega)]
        exact q4
      · rw [if_neg c]
        refine a_fbd1 (Q := fun X => a_cb X (r_bp (G 134) a1 144)) ?_
        refine a_fbd1 (Q := fun X => a_cb X (r_bp (G 134) a1 144)) ?_
        have f4 : ∀ a b, ¬ (7 ≤ a ∧ a ≤ 12) → a_up (a_up s.2 7 0 (k : Int)) 9 (G 134 3) (k : Int) a b = s.2 a b := fun a b w => by rw [a_up_ne (by omega), a_up_ne (by omega)]
        have n4 : a_now (a_up (a_up s.2 7 0 (k : Int)) 9 (G 134 3) (k : Int)) G := a_now_fr q2 (fun a b w1 w2 => f4 a b (by omega)) (fun _ _ _ => rfl)
        have v0 : V 0 ≤ 8 := by rw [q3' 0 (by omega) (by omega) (by omega)]; exact b0.2
        have s4 : a_sm (a_up (a_up s.2 7 0 (k : Int)) 9 (G 134 3) (k : Int)) 7 (r_up (r_up V 1 (k : Int)) (15 + G 134 3) (k : Int)) := by
          have y := a_sm_f (f := 0) (v := (k : Int)) q3 (by omega) (by omega)
          have := a_sm_a (j := 2) (k := G 134 3) (v := (k : Int)) y (by rw [r_up_ne (by omega)]; exact v0) (by omega) (by omega) hb.1 (by omega)
          rw [show (8 : Int) * 2 - 1 + G 134 3 = 15 + G 134 3 by omega] at this
          exact this
        have c4 : a_cb (a_up (a_up s.2 7 0 (k : Int)) 9 (G 134 3) (k : Int)) (r_bp (G 134) a1 (4 * k)) := a_cb_fr q4 (fun b => f4 122 b (by omega))
        generalize a_up (a_up s.2 7 0 (k : Int)) 9 (G 134 3) (k : Int) = X4 at n4 s4 c4
        refine a_lp_up (Q := fun X => a_cb X (r_bp (G 134) a1 144)) (fun i u => u.1 = (i : Int) ∧ a_now u.2 G ∧ (∃ V' : Int → Int, a_sm u.2 7 V' ∧ V' 1 = (k : Int) ∧ V' (15 + G 134 3) = (k : Int) ∧ ∀ b, ¬ b = 1 → ¬ b = 2 → ¬ b = 15 + G 134 3 → V' b = G 134 b) ∧ a_cb u.2 (r_bp (G 134) a1 (4 * k + i))) 4 (by omega) (fun i u hi hu nx2 hn2 => ?_) (fun u hu nx2 => ?_) (0, X4) ⟨rfl, n4, ⟨_, s4, by rw [r_up_ne (by omega), r_up_eq], r_up_eq, fun b w1 w2 w3 => by rw [r_up_ne w3, r_up_ne w1, q3' b w1 w2 w3]⟩, c4⟩
        · obtain ⟨u1, u2, ⟨V', u3, u3a, u3b, u3c⟩, u4⟩ := hu
          have ei : Unit → a_w ((i : Int) + 1) = ((i + 1 : Nat) : Int) := fun _ => by rw [a_w_id (by omega) (by omega)]; omega
          rw [if_pos (by rw [u1]; omega), u1]
          refine a_fbd1 (Q := fun X => a_cb X (r_bp (G 134) a1 144)) ?_
          have f5 : ∀ a b, ¬ a = 7 → a_up u.2 7 1 (i : Int) a b = u.2 a b := fun a b w => a_up_ne (by omega)
          have n5 : a_now (a_up u.2 7 1 (i : Int)) G := a_now_fr u2 (fun a b w1 w2 => f5 a b (by omega)) (fun _ _ _ => rfl)
          have ev : r_up V' 2 (i : Int) = r_pl (G 134) (k : Int) (i : Int) := by
            funext b
            unfold r_pl
            by_cases w3 : b = 15 + G 134 3
            · rw [w3, r_up_eq, r_up_ne (by omega), u3b]
            · rw [r_up_ne (c := 15 + G 134 3) w3]
              by_cases w2 : b = 2
              · rw [w2, r_up_eq, r_up_eq]
              · rw [r_up_ne w2, r_up_ne w2]
                by_cases w1 : b = 1
                · rw [w1, r_up_eq, u3a]
                · rw [r_up_ne w1, u3c b w1 w2 w3]
          have s5 : a_sm (a_up u.2 7 1 (i : Int)) 7 (r_pl (G 134) (k : Int) (i : Int)) := by
            rw [← ev]
            exact a_sm_f (f := 1) u3 (by omega) (by omega)
          have o5 : a_ok 9999 (r_pl (G 134) (k : Int) (i : Int)) := r_pl_ok o hb (by omega) (by omega)
          have c5 : a_cb (a_up u.2 7 1 (i : Int)) (r_bp (G 134) a1 (4 * k + i)) := a_cb_fr u4 (fun b => f5 122 b (by omega))
          have p3 : r_pl (G 134) (k : Int) (i : Int) 3 = G 134 3 := by unfold r_pl; rw [r_up_ne (by omega), r_up_ne (by omega), r_up_ne (by omega)]
          have who : fn_23 7 (a_up u.2 7 1 (i : Int)) = r_let (r_pl (G 134) (k : Int) (i : Int)) := by
            rw [c_who s5 o5]
            unfold r_who
            simp only [fn_120, fn_117, a_jn]
            rw [p3, if_neg (show ¬ G 134 3 = -4 by omega), if_neg (show ¬ (1 : Int) = 0 by decide)]
            rfl
          have l5 : a_up u.2 7 1 (i : Int) 1 1 = G 134 2 := n5.1.2.1
          generalize a_up u.2 7 1 (i : Int) = X5 at n5 s5 c5 who l5
          have lb := r_let_b o5
          have pb := a_xor_b lb.1 lb.2 hs.1 hs.2
          have step : ∀ X, a_cb X (r_off (r_bp (G 134) a1 (4 * k + i)) (r_par (G 134) a1 (k : Int) (i : Int)) (r_own (G 134) (k : Int) (i : Int)) (k : Int) (i : Int)) → a_cb X (r_bp (G 134) a1 (4 * k + (i + 1))) := fun X hX => by
            have d := d0 i hi
            have e : r_bp (G 134) a1 (4 * k + (i + 1)) = if r_stp (G 134) (((4 * k + i : Nat) : Int) / 4) < G 134 (31 + G 134 3) then r_off (r_bp (G 134) a1 (4 * k + i)) (r_par (G 134) a1 (((4 * k + i : Nat) : Int) / 4) (((4 * k + i : Nat) : Int) % 4)) (r_own (G 134) (((4 * k + i : Nat) : Int) / 4) (((4 * k + i : Nat) : Int) % 4)) (((4 * k + i : Nat) : Int) / 4) (((4 * k + i : Nat) : Int) % 4) else r_bp (G 134) a1 (4 * k + i) := rfl
            rw [e, d.1, d.2, if_pos (by omega)]
            exact hX
          have fin : ∀ v : Int, v = (if (i : Int) = G 134 2 then 0 else 1) → a_cb (nx2 (((i + 1 : Nat) : Int), fn_7 (a_xor (fn_23 7 X5) a1) (a_w (r_stp (G 134) (k : Int) + v)) (k : Int) (i : Int) X5)) (r_bp (G 134) a1 144) := fun v hv => by
            have vb : 0 ≤ v ∧ v ≤ 1 := by rw [hv]; split <;> omega
            have own : a_w (r_stp (G 134) (k : Int) + v) = r_own (G 134) (k : Int) (i : Int) := by
              rw [a_w_id (by omega) (by omega), hv]
              rfl
            rw [who, own]
            have ff := fr_7 (a_xor (r_let (r_pl (G 134) (k : Int) (i : Int))) a1) (r_own (G 134) (k : Int) (i : Int)) (k : Int) (i : Int) X5
            refine hn2 (_, _) ⟨rfl, a_now_fr n5 (fun a b w1 w2 => ff a b (by unfold w_7; omega)) (fun _ _ _ => rfl), ⟨_, a_sm_fr s5 (fun a b w1 w2 => ff a b (by unfold w_7; omega)), ?_, ?_, fun b w1 w2 w3 => ?_⟩, step _ (c_offer c5 pb)⟩
            · unfold r_pl; rw [r_up_ne (by omega), r_up_ne (by omega), r_up_eq]
            · exact r_up_eq
            · unfold r_pl; rw [r_up_ne w3, r_up_ne w2, r_up_ne w1]
          refine a_fjn (Q := fun X => a_cb X (r_bp (G 134) a1 144)) (fun v : Int => fn_92 v = (if (i : Int) = G 134 2 then 0 else 1)) (fun v hv => ?_) (fun j2 hj2 => ?_)
          · refine a_fbd1 (Q := fun X => a_cb X (r_bp (G 134) a1 144)) ?_
            refine a_fbd1 (Q := fun X => a_cb X (r_bp (G 134) a1 144)) ?_
            rw [ei ()]
            exact fin _ hv
          · rw [l5]
            refine a_fifc (Q := fun X => a_cb X (r_bp (G 134) a1 144)) (fun d => hj2 _ ?_) (fun d => hj2 _ ?_)
            · rw [if_pos d]; rfl
            · rw [if_neg d]; rfl
        · obtain ⟨u1, u2, ⟨V', u3, u3a, u3b, u3c⟩, u4⟩ := hu
          rw [if_neg (by rw [u1]; omega)]
          exact hj _ ⟨u2, ⟨V', u3, u3c⟩, by rw [show 4 * (k + 1) = 4 * k + 4 by omega]; exact u4⟩
  · obtain ⟨q1, q2, q3, q4⟩ := hss
    rw [if_neg (by rw [q1]; omega)]
    exact q4

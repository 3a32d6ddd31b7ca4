theorem r_cmp {u : Nat} {v w : Value} {i k : q_IV} (hu : u < 6) (hi : i_ty i = 0) (hk : i_ty k = 0) (hv : r_v v i) (hw : r_v w k) : ∃ b, q_cmp u v w = some b ∧ ∀ b', i_cmp u i k = some b' → b' = b := by
  have t1 := r_ty hv
  have t2 := r_ty hw
  rw [hi] at t1
  rw [hk] at t2
  cases v <;> first | (simp [q_ty] at t1; done) | skip
  cases w <;> first | (simp [q_ty] at t2; done) | skip
  rename_i x y
  obtain ⟨t, a, a'⟩ := i
  obtain ⟨t', b, b'⟩ := k
  obtain ⟨e1, x1, x2⟩ := hv
  obtain ⟨e2, y1, y2⟩ := hw
  simp only at e1 e2 x1 x2 y1 y2
  subst e1
  subst e2
  have hv : u = 0 ∨ u = 1 ∨ u = 2 ∨ u = 3 ∨ u = 4 ∨ u = 5 := by omega
  have nb : ∀ {p q : Int}, ¬ i_blt p q = true → q ≤ p := fun h => by
    rw [i_blt_iff] at h
    omega
  rcases hv with rfl | rfl | rfl | rfl | rfl | rfl
  · refine ⟨_, rfl, fun c h => ?_⟩
    simp only [i_cmp] at h
    cases c1 : (i_blt a' b || i_blt b' a) with
    | true =>
      rw [c1, cond_true] at h
      cases h
      rw [Bool.or_eq_true, i_blt_iff, i_blt_iff] at c1
      exact (decide_eq_false (fun e => by rw [e] at x1 x2; omega)).symm
    | false =>
      rw [c1, cond_false] at h
      cases c2 : (i_beq a a' && i_beq b b') with
      | false => rw [c2] at h; cases h
      | true =>
        rw [c2, cond_true] at h
        cases h
        rw [Bool.and_eq_true, i_beq_iff, i_beq_iff] at c2
        rw [Bool.or_eq_false_iff] at c1
        have c3 : ¬ a' < b := fun q => by rw [i_blt_iff.mpr q] at c1; cases c1.1
        have c4 : ¬ b' < a := fun q => by rw [i_blt_iff.mpr q] at c1; cases c1.2
        exact (decide_eq_true (Int32.toInt_inj.mp (by omega))).symm
  · refine ⟨_, rfl, fun c h => ?_⟩
    simp only [i_cmp] at h
    cases c1 : (i_blt a' b || i_blt b' a) with
    | true =>
      rw [c1, cond_true] at h
      cases h
      rw [Bool.or_eq_true, i_blt_iff, i_blt_iff] at c1
      have hne : ¬ x = y := fun e => by rw [e] at x1 x2; omega
      exact (decide_eq_true hne).symm
    | false =>
      rw [c1, cond_false] at h
      cases c2 : (i_beq a a' && i_beq b b') with
      | false => rw [c2] at h; cases h
      | true =>
        rw [c2, cond_true] at h
        cases h
        rw [Bool.and_eq_true, i_beq_iff, i_beq_iff] at c2
        rw [Bool.or_eq_false_iff] at c1
        have c3 : ¬ a' < b := fun q => by rw [i_blt_iff.mpr q] at c1; cases c1.1
        have c4 : ¬ b' < a := fun q => by rw [i_blt_iff.mpr q] at c1; cases c1.2
        exact (decide_eq_false (fun hne => hne (Int32.toInt_inj.mp (by omega)))).symm
  · refine ⟨_, rfl, fun c h => ?_⟩
    simp only [i_cmp] at h
    cases c1 : i_blt a' b with
    | true => rw [c1, cond_true] at h; cases h; rw [i_blt_iff] at c1; exact (decide_eq_true (Int32.lt_iff_toInt_lt.mpr (by omega))).symm
    | false =>
      rw [c1, cond_false] at h
      cases c2 : i_ble b' a with
      | false => rw [c2] at h; cases h
      | true => rw [c2, cond_true] at h; cases h; rw [i_ble_iff] at c2; exact (decide_eq_false (fun q => by have := Int32.lt_iff_toInt_lt.mp q; omega)).symm
  · refine ⟨_, rfl, fun c h => ?_⟩
    simp only [i_cmp] at h
    cases c1 : i_ble b' a with
    | true => rw [c1, cond_true] at h; cases h; rw [i_ble_iff] at c1; exact (decide_eq_true (Int32.le_iff_toInt_le.mpr (by omega))).symm
    | false =>
      rw [c1, cond_false] at h
      cases c2 : i_blt a' b with
      | false => rw [c2] at h; cases h
      | true => rw [c2, cond_true] at h; cases h; rw [i_blt_iff] at c2; exact (decide_eq_false (fun q => by have := Int32.le_iff_toInt_le.mp q; omega)).symm
  · refine ⟨_, rfl, fun c h => ?_⟩
    simp only [i_cmp] at h
    cases c1 : i_blt b' a with
    | true => rw [c1, cond_true] at h; cases h; rw [i_blt_iff] at c1; exact (decide_eq_true (Int32.lt_iff_toInt_lt.mpr (by omega))).symm
    | false =>
      rw [c1, cond_false] at h
      cases c2 : i_ble a' b with
      | false => rw [c2] at h; cases h
      | true => rw [c2, cond_true] at h; cases h; rw [i_ble_iff] at c2; exact (decide_eq_false (fun q => by have := Int32.lt_iff_toInt_lt.mp q; omega)).symm
  · refine ⟨_, rfl, fun c h => ?_⟩
    simp only [i_cmp] at h
    cases c1 : i_ble a' b with
    | true => rw [c1, cond_true] at h; cases h; rw [i_ble_iff] at c1; exact (decide_eq_true (Int32.le_iff_toInt_le.mpr (by omega))).symm
    | false =>
      rw [c1, cond_false] at h
      cases c2 : i_blt b' a with
      | false => rw [c2] at h; cases h
      | true => rw [c2, cond_true] at h; cases h; rw [i_blt_iff] at c2; exact (decide_eq_false (fun q => by have := Int32.le_iff_toInt_le.mp q; omega)).symm
theorem r_ix {v : Value} {i : q_IV} {n : Nat} (h : i_ix i = some n) (hv : r_v v i) : q_ix v = some n := by
  obtain ⟨t, a, b⟩ := i
  unfold i_ix at h
  split at h
  · rename_i a0 b0 heq
    cases heq
    cases c1 : (i_beq (.ofNat a0) b && Nat.ble a0 2147483647) with
    | false => rw [c1] at h; cases h
    | true =>
      rw [c1, cond_true] at h
      cases h
      rw [Bool.and_eq_true, i_beq_iff] at c1
      obtain ⟨x, rfl, x1, x2⟩ := r_int hv
      have e : x.toInt = (n : Int) := by
        have h9 := c1.1
        rw [← h9] at x2
        have x1 : (n : Int) ≤ x.toInt := x1
        have x2 : x.toInt ≤ (n : Int) := x2
        omega
      have h0 : ¬ x < 0 := fun q => by
        have := Int32.lt_iff_toInt_lt.mp q
        simp at this
        omega
      show (if x < 0 then none else some x.toNatClampNeg) = some n
      rw [if_neg h0]
      congr 1
      show x.toInt.toNat = n
      omega
  · cases h
theorem r_rf {v : Value} {i : q_IV} {n : Nat} (h : i_rf i = some n) (hv : r_v v i) : q_rf v = some n := by
  obtain ⟨t, a, b⟩ := i
  unfold i_rf at h
  split at h
  · rename_i a0 b0 heq
    cases heq
    cases h
    cases v <;> simp only [r_v] at hv
    · cases hv.1
    · cases hv.1
    · cases hv
    · cases hv
    · rename_i hh
      have h9 : (n : Int) = (hh : Int) := hv.2
      have : n = hh := by omega
      subst this
      rfl
  · cases h
theorem r_fit {t : Nat} {v : Value} {i : q_IV} (h : i_fit t i = true) (hv : r_v v i) : q_fit t v = true := by
  obtain ⟨u, a, b⟩ := i
  unfold i_fit at h
  simp only at h
  split at h
  · obtain ⟨x, rfl, -, -⟩ := r_int hv
    rfl
  · obtain ⟨x, rfl, -, -⟩ := r_long hv
    rfl
  · obtain ⟨x, rfl, x1, x2⟩ := r_int hv
    rw [Bool.and_eq_true, i_ble_iff, i_ble_iff] at h
    show (decide (0 ≤ x.toInt) && decide (x.toInt ≤ 65535)) = true
    rw [Bool.and_eq_true, decide_eq_true_eq, decide_eq_true_eq]
    omega
  · obtain ⟨x, rfl, x1, x2⟩ := r_int hv
    rw [Bool.and_eq_true, i_ble_iff, i_ble_iff] at h
    show (decide (x = 0) || decide (x = 1)) = true
    rw [Bool.or_eq_true, decide_eq_true_eq, decide_eq_true_eq]
    have e2 : (0 : Int32).toInt = 0 := by decide
    have e1 : (1 : Int32).toInt = 1 := by decide
    by_cases c : x.toInt = 0
    · exact Or.inl (Int32.toInt_inj.mp (by omega))
    · exact Or.inr (Int32.toInt_inj.mp (by omega))
  · cases v <;> simp only [r_v] at hv
    · cases hv.1
    · cases hv.1
    · cases hv
    · cases hv
    · rfl
  · cases h
theorem r_sw {c : Int} {n : Nat} {v : Value} {i : q_IV} {o : Option Nat} (h : i_sw c n i = some o) (hv : r_v v i) : q_sw c n v = some o := by
  obtain ⟨u, a, b⟩ := i
  unfold i_sw at h
  split at h
  · rename_i a0 b0 heq
    cases heq
    obtain ⟨x, rfl, x1, x2⟩ := r_int hv
    show (if x.toInt < c then some none else if c + n ≤ x.toInt then some none else some (some (x.toInt - c).toNat)) = some o
    cases c1 : i_blt b c with
    | true =>
      rw [c1, cond_true] at h
      cases h
      rw [i_blt_iff] at c1
      rw [if_pos (by omega)]
    | false =>
      rw [c1, cond_false] at h
      have c1' : ¬ b < c := fun q => by rw [i_blt_iff.mpr q] at c1; cases c1
      cases c2 : i_ble (c + n) a with
      | true =>
        rw [c2, cond_true] at h
        cases h
        rw [i_ble_iff] at c2
        rw [if_neg (by omega), if_pos (by omega)]
      | false =>
        rw [c2, cond_false] at h
        cases c3 : (i_beq a b && i_ble c a && i_blt a (c + n)) with
        | false => rw [c3] at h; cases h
        | true =>
          rw [c3, cond_true] at h
          cases h
          rw [Bool.and_eq_true, Bool.and_eq_true, i_beq_iff, i_ble_iff, i_blt_iff] at c3
          obtain ⟨⟨rfl, c4⟩, c5⟩ := c3
          have e : x.toInt = a := by omega
          rw [if_neg (by omega), if_neg (by omega), e]
  · cases h
-- packed places
theorem p_dg_lt (N i : Nat) : p_dg N i < 2 ^ 64 := Nat.mod_lt _ (by decide)
theorem p_dg_bit (N i b : Nat) : (p_dg N i).testBit b = (decide (b < 64) && N.testBit (64 * (i + 1) + b)) := by
  show ((N >>> (64 * (i + 1))) % 2 ^ 64).testBit b = _
  rw [Nat.testBit_mod_two_pow, Nat.testBit_shiftRight]
theorem p_sd_dg (N i w j : Nat) (hw : w < 2 ^ 64) : p_dg (p_sd N i w) j = if j = i then w else p_dg N j := by
  apply Nat.eq_of_testBit_eq
  intro b
  rw [p_dg_bit]
  show (decide (b < 64) && (N ^^^ (((p_dg N i ^^^ w) <<< (64 * (i + 1))) ^^^ (((p_dg N i ^^^ w) <<< (4 * i)) % 2 ^ 64))).testBit (64 * (j + 1) + b)) = _
  have hz : decide (64 * (j + 1) + b < 64) = false := decide_eq_false (by omega)
  rw [Nat.testBit_xor, Nat.testBit_xor, Nat.testBit_mod_two_pow, hz, Bool.false_and, Bool.xor_false, Nat.testBit_shiftLeft, Nat.testBit_xor, p_dg_bit]
  have hwb : ∀ q, 64 ≤ q → w.testBit q = false := fun q hq => Nat.testBit_lt_two_pow (Nat.lt_of_lt_of_le hw (Nat.pow_le_pow_right (by decide) hq))
  by_cases hb : b < 64
  · by_cases e : j = i
    · subst e
      rw [if_pos rfl]
      simp only [hb, decide_true, Bool.true_and, ge_iff_le, Nat.le_add_right, Nat.add_sub_cancel_left]
      cases N.testBit (64 * (j + 1) + b) <;> cases w.testBit b <;> rfl
    · rw [if_neg e, p_dg_bit]
      simp only [hb, decide_true, Bool.true_and]
      by_cases c1 : 64 * (i + 1) ≤ 64 * (j + 1) + b
      · have c2 : 64 ≤ 64 * (j + 1) + b - 64 * (i + 1) := by omega
        simp only [c1, ge_iff_le, decide_true, Bool.true_and, hwb _ c2, show ¬ (64 * (j + 1) + b - 64 * (i + 1) < 64) by omega, decide_false, Bool.false_and, Bool.xor_false]
      · simp only [ge_iff_le, c1, decide_false, Bool.false_and, Bool.xor_false]
  · simp only [hb, decide_false, Bool.false_and]
    by_cases e : j = i
    · rw [if_pos e, hwb b (by omega)]
    · rw [if_neg e, p_dg_bit]
      simp [hb]
theorem p_enc_ok {z : Int} (h : p_ok z = true) : p_enc z < 2 ^ 64 ∧ p_dec (p_enc z) = z := by
  cases z with
  | ofNat n =>
    have h : n < 9223372036854775808 := Nat.lt_of_succ_le (Nat.le_of_ble_eq_true h)
    refine ⟨by show n + 9223372036854775808 < 18446744073709551616; omega, ?_⟩
    show (bif Nat.ble 9223372036854775808 (n + 9223372036854775808) then Int.ofNat (n + 9223372036854775808 - 9223372036854775808) else Int.negSucc (9223372036854775807 - (n + 9223372036854775808))) = _
    rw [Nat.ble_eq.mpr (by omega), cond_true, Nat.add_sub_cancel]
  | negSucc n =>
    have h : n < 9223372036854775808 := Nat.lt_of_succ_le (Nat.le_of_ble_eq_true h)
    refine ⟨by show 9223372036854775807 - n < 18446744073709551616; omega, ?_⟩
    show (bif Nat.ble 9223372036854775808 (9223372036854775807 - n) then Int.ofNat (9223372036854775807 - n - 9223372036854775808) else Int.negSucc (9223372036854775807 - (9223372036854775807 - n))) = _
    have hb : Nat.ble 9223372036854775808 (9223372036854775807 - n) = false := by
      cases q : Nat.ble 9223372036854775808 (9223372036854775807 - n) with
      | false => rfl
      | true => have := Nat.le_of_ble_eq_true q; omega
    rw [hb, cond_false]
    congr 1
    omega
theorem p_dec_mono {d d' : Nat} (h : d ≤ d') : p_dec d ≤ p_dec d' := by
  unfold p_dec
  cases c1 : Nat.ble 9223372036854775808 d with
  | true =>
    have := Nat.le_of_ble_eq_true c1
    rw [Nat.ble_eq.mpr (show 9223372036854775808 ≤ d' by omega), cond_true, cond_true]
    show ((Nat.sub d 9223372036854775808 : Nat) : Int) ≤ ((Nat.sub d' 9223372036854775808 : Nat) : Int)
    have : Nat.sub d 9223372036854775808 ≤ Nat.sub d' 9223372036854775808 := Nat.sub_le_sub_right h _
    omega
  | false =>
    rw [cond_false]
    have h1 := Int.negSucc_eq (Nat.sub 9223372036854775807 d)
    cases c2 : Nat.ble 9223372036854775808 d' with
    | true =>
      rw [cond_true]
      have : (0 : Int) ≤ Int.ofNat (Nat.sub d' 9223372036854775808) := Int.natCast_nonneg _
      omega
    | false =>
      rw [cond_false]
      have h2 := Int.negSucc_eq (Nat.sub 9223372036854775807 d')
      have : Nat.sub 9223372036854775807 d' ≤ Nat.sub 9223372036854775807 d := Nat.sub_le_sub_left h _
      omega

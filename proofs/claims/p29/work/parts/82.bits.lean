/-! SETS, STEPS, RAIN: by all cases -/
theorem a_bit0 : ∀ x : Fin 256, ∀ i : Fin 8, a_and (a_shr (x.val : Int) (i.val : Int)) 1 = ((x.val.testBit i.val).toNat : Int) := by decide +kernel
theorem a_bit {n i : Nat} (hn : n < 256) (hi : i < 8) : a_and (a_shr (n : Int) (i : Int)) 1 = ((n.testBit i).toNat : Int) := a_bit0 ⟨n, hn⟩ ⟨i, hi⟩
theorem a_orp0 : ∀ x : Fin 256, ∀ k : Fin 8, x.val < 2 ^ k.val → a_or (x.val : Int) (a_shl 1 (k.val : Int)) = ((2 ^ k.val + x.val : Nat) : Int) := by decide +kernel
theorem a_orp {n k : Nat} (hn : n < 256) (hk : k < 8) (h : n < 2 ^ k) : a_or (n : Int) (a_shl 1 (k : Int)) = ((2 ^ k + n : Nat) : Int) := a_orp0 ⟨n, hn⟩ ⟨k, hk⟩ h
theorem a_p8 {k : Nat} (h : k ≤ 8) : 2 ^ k ≤ 256 := Nat.pow_le_pow_right (by decide) h
/-- n is the set of those of w who would be IN -/
def a_isin (G : a_P) (k n : Nat) : Prop := n < 2 ^ k ∧ ∀ i : Nat, i < k → n.testBit i = decide (¬ fn_118 (i : Int) G = 0)
theorem fl_set {G : a_P} (h0 : 0 ≤ G 134 0) (h8 : G 134 0 ≤ 8) : ∃ n : Nat, fn_119 G = (n : Int) ∧ a_isin G (G 134 0).toNat n := by
  unfold fn_119
  refine a_lp_up (Q := fun v : Int => ∃ n : Nat, v = (n : Int) ∧ a_isin G (G 134 0).toNat n) (fun k s => s.2 = (k : Int) ∧ ∃ n : Nat, s.1 = (n : Int) ∧ a_isin G k n) (G 134 0).toNat (by omega) (fun k s hk hs nx hn => ?_) (fun s hs nx => ?_) (0, 0) ⟨rfl, 0, rfl, by decide, fun i hi => absurd hi (by omega)⟩
  · obtain ⟨h2, n, h1, h3, h4⟩ := hs
    obtain ⟨v, k0⟩ := s
    have h2 : k0 = (k : Int) := h2
    have h1 : v = (n : Int) := h1
    subst h2 h1
    rw [if_pos (by omega)]
    simp only [a_jn, a_bd]
    have e1 : a_w ((k : Int) + 1) = ((k + 1 : Nat) : Int) := by rw [a_w_id (by omega) (by omega)]; omega
    have p8 := a_p8 (k := k) (by omega)
    have pk : 2 ^ (k + 1) = 2 ^ k + 2 ^ k := by rw [Nat.pow_succ]; omega
    rw [e1]
    by_cases c : fn_118 (k : Int) G = 0
    · rw [if_pos c, a_or_0 (by omega) (by omega)]
      have z : a_isin G (k + 1) n := by
        refine ⟨by rw [pk]; omega, fun i hi => ?_⟩
        by_cases ci : i < k
        · exact h4 i ci
        · have : i = k := by omega
          subst this
          rw [Nat.testBit_lt_two_pow h3]
          exact (decide_eq_false (fun h => h c)).symm
      exact hn ((n : Int), ((k + 1 : Nat) : Int)) ⟨rfl, n, rfl, z⟩
    · rw [if_neg c, a_orp (by omega) (by omega) h3]
      have z : a_isin G (k + 1) (2 ^ k + n) := by
        refine ⟨by rw [pk]; omega, fun i hi => ?_⟩
        by_cases ci : i < k
        · rw [Nat.testBit_two_pow_add_gt ci]
          exact h4 i ci
        · have : i = k := by omega
          subst this
          rw [Nat.testBit_two_pow_add_eq, Nat.testBit_lt_two_pow h3]
          exact (decide_eq_true c).symm
      exact hn (((2 ^ k + n : Nat) : Int), ((k + 1 : Nat) : Int)) ⟨rfl, 2 ^ k + n, rfl, z⟩
  · obtain ⟨h2, n, h1, h3⟩ := hs
    rw [if_neg (by rw [h2]; omega)]
    exact ⟨n, h1, h3⟩
theorem fl_step0 : ∀ c : Fin 36, ∀ d : Fin 4, (fn_17 (c.val : Int) (d.val : Int) = -1 ∧ fn_112 (c.val : Int) (d.val : Int) = -4) ∨ (fn_17 (c.val : Int) (d.val : Int) = fn_112 (c.val : Int) (d.val : Int) ∧ 0 ≤ fn_112 (c.val : Int) (d.val : Int) ∧ fn_112 (c.val : Int) (d.val : Int) ≤ 35) := by decide +kernel
theorem a_fin {x : Int} {k : Nat} (h0 : 0 ≤ x) (h1 : x < k) : ∃ n : Fin k, x = (n.val : Int) := ⟨⟨x.toNat, by omega⟩, by simp; omega⟩
theorem fl_step {c d : Int} (hc : 0 ≤ c ∧ c ≤ 35) (hd : 0 ≤ d ∧ d ≤ 3) : (fn_17 c d = -1 ∧ fn_112 c d = -4) ∨ (fn_17 c d = fn_112 c d ∧ 0 ≤ fn_112 c d ∧ fn_112 c d ≤ 35) := by
  obtain ⟨n, rfl⟩ := a_fin (k := 36) hc.1 (by omega)
  obtain ⟨m, rfl⟩ := a_fin (k := 4) hd.1 (by omega)
  exact fl_step0 n m
theorem fl_step4 (c : Int) : fn_112 c 4 = -4 := by
  simp [fn_112, a_sw]
/-- how WET behind an HOUR of RAIN -/
def a_wt (k v : Int) : Int := if 99 < v + (if k = 2 ∨ (k = 4 ∧ v % 2 = 0) then 2 else 1) then 99 else v + (if k = 2 ∨ (k = 4 ∧ v % 2 = 0) then 2 else 1)
theorem fl_wt0 : ∀ k : Fin 5, ∀ v : Fin 100, fn_25 (k.val : Int) (v.val : Int) = a_wt (k.val : Int) (v.val : Int) := by decide +kernel
theorem fl_wt {k v : Int} (hk : 0 ≤ k ∧ k ≤ 4) (hv : 0 ≤ v ∧ v ≤ 99) : fn_25 k v = a_wt k v := by
  obtain ⟨n, rfl⟩ := a_fin (k := 5) hk.1 (by omega)
  obtain ⟨m, rfl⟩ := a_fin (k := 100) hv.1 (by omega)
  exact fl_wt0 n m

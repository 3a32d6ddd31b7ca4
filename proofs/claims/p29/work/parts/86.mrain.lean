/-- the reference's rain: n bits tell who is in -/
theorem fl_mset {G : a_P} {m : Int} (ho : a_ok m (G 134)) {k : Nat} (hk : (k : Int) < G 134 0) : (a_and (a_shr (fn_120 G) (k : Int)) 1 = 0) ↔ (G 134 3 = -4 ∨ r_in (G 134) (k : Int) = 0) := by
  have b0 := ho.1
  simp only [fn_120, fn_117, a_jn]
  by_cases c : G 134 3 = -4
  · rw [if_pos c, if_pos rfl]
    have := a_bit (n := 0) (i := k) (by decide) (by omega)
    rw [show ((0 : Nat) : Int) = 0 from rfl] at this
    rw [this, Nat.zero_testBit]
    exact ⟨fun _ => Or.inl c, fun _ => rfl⟩
  · rw [if_neg c, if_neg (by decide)]
    obtain ⟨n, e, h1, h2⟩ := fl_set b0.1 b0.2
    have p8 := a_p8 (k := (G 134 0).toNat) (by omega)
    rw [e, a_bit (by omega) (by omega), h2 k (by omega), ← r_in_eq]
    by_cases d : fn_118 (k : Int) G = 0
    · rw [decide_eq_false (fun h => h d)]
      exact ⟨fun _ => Or.inr d, fun _ => rfl⟩
    · rw [decide_eq_true d]
      exact ⟨fun h => absurd h (by decide), fun h => by rcases h with h | h; exact absurd h c; exact absurd h d⟩
theorem r_S2_s {G G' : a_P} {k : Int} {w : Int → Int} (h : ∀ b, G 134 b = r_S2 k w b) (hk : 0 ≤ k) (hf : ∀ b, ¬ (b = 39 + k) → G' 134 b = G 134 b) (hc : G' 134 (39 + k) = r_S2 (k + 1) w (39 + k)) : ∀ b, G' 134 b = r_S2 (k + 1) w b := by
  intro b
  by_cases c : b = 39 + k
  · subst c
    exact hc
  · rw [hf b c, h b]
    unfold r_S2
    by_cases d : 39 ≤ b ∧ b < 39 + k ∧ (w 3 = -4 ∨ r_in w (b - 39) = 0)
    · rw [if_pos d, if_pos ⟨d.1, by omega, d.2.2⟩]
    · rw [if_neg d, if_neg (fun g => d ⟨g.1, by omega, g.2.2⟩)]
theorem fl_wets {G : a_P} {i : Int} (h0 : 0 ≤ i) (h8 : i < 8) (hv : 0 ≤ G 134 (39 + i) ∧ G 134 (39 + i) ≤ 99) : (if 99 < a_w (G 134 (39 + i) + fn_122 i G) then 99 else a_w (G 134 (39 + i) + fn_122 i G)) = a_wt (G 134 (7 + i)) (G 134 (39 + i)) := by
  have e39 : Unit → a_w (39 + i) = 39 + i := fun _ => a_wi h0 (by omega) (by decide)
  have e7 : Unit → a_w (7 + i) = 7 + i := fun _ => a_wi h0 (by omega) (by decide)
  have e : fn_122 i G = if G 134 (7 + i) = 2 ∨ (G 134 (7 + i) = 4 ∧ G 134 (39 + i) % 2 = 0) then 2 else 1 := by
    simp only [fn_122, a_jn, a_bd, e39 (), e7 ()]
    rw [a_rem_id hv.1 (by omega) (by decide)]
    by_cases c1 : G 134 (7 + i) = 2
    · rw [if_pos c1, if_pos (Or.inl c1)]
    · rw [if_neg c1]
      by_cases c2 : G 134 (7 + i) = 4
      · rw [if_pos c2]
        by_cases c3 : G 134 (39 + i) % 2 = 0
        · rw [if_pos c3, if_pos (Or.inr ⟨c2, c3⟩)]
        · rw [if_neg c3, if_neg (by omega)]
      · rw [if_neg c2, if_neg (by omega)]
  have b : fn_122 i G = 1 ∨ fn_122 i G = 2 := by rw [e]; split; exact Or.inr rfl; exact Or.inl rfl
  rw [a_w_id (by omega) (by omega)]
  unfold a_wt
  rw [e]
/-- the reference's second loop; x is who is in, c whether it rains -/
theorem fl_mrain {G : a_P} {m c : Int} (ho : a_ok m (G 134)) (j : a_P → a_P) : ∃ G1, a_lp (fun (s8 : Int × a_P) => s8.2) (fun (s8 : Int × a_P) n40 => (if s8.1 < (s8.2 134 0) then a_jn (fun (s9 : a_P) => a_bd (a_w (s8.1 + 1)) fun x5 =>
  n40 (x5, s9)) fun j102 =>
  (if c = 0 then j102 s8.2
  else (if (a_and (a_shr (fn_120 G) s8.1) 1) = 0 then a_bd (a_w ((s8.2 134 (a_w (39 + s8.1))) + (fn_122 s8.1 s8.2))) fun x6 =>
  a_jn (fun (s10 : Int) => a_bd (a_up s8.2 134 (a_w (39 + s8.1)) s10) fun H4 =>
  j102 H4) fun j101 =>
  (if 99 < x6 then j101 99
  else j101 x6)
  else j102 s8.2))
  else j s8.2)) a_fuel (0, G) = j G1 ∧ (∀ b, G1 134 b = (if c = 0 then G 134 b else r_S2 (G 134 0) (G 134) b)) ∧ ∀ a b, ¬ a = 134 → G1 a b = G a b := by
  have b0 := ho.1
  by_cases cc : c = 0
  · refine a_lp_up (Q := fun r => ∃ G1, r = j G1 ∧ (∀ b, G1 134 b = (if c = 0 then G 134 b else r_S2 (G 134 0) (G 134) b)) ∧ ∀ a b, ¬ a = 134 → G1 a b = G a b) (fun k s => s.1 = (k : Int) ∧ s.2 = G) (G 134 0).toNat (by omega) (fun k s hk hss nx hn => ?_) (fun s hss nx => ?_) (0, G) ⟨rfl, rfl⟩
    · obtain ⟨h1, h2⟩ := hss
      have ek : Unit → a_w ((k : Int) + 1) = ((k + 1 : Nat) : Int) := fun _ => by rw [a_w_id (by omega) (by omega)]; omega
      rw [h1, h2, if_pos (by omega)]
      simp only [a_jn, a_bd]
      rw [if_pos cc, ek ()]
      exact hn (((k + 1 : Nat) : Int), G) ⟨rfl, rfl⟩
    · obtain ⟨h1, h2⟩ := hss
      rw [h1, h2, if_neg (by omega)]
      exact ⟨G, rfl, fun b => by rw [if_pos cc], fun a b _ => rfl⟩
  · refine a_lp_up (Q := fun r => ∃ G1, r = j G1 ∧ (∀ b, G1 134 b = (if c = 0 then G 134 b else r_S2 (G 134 0) (G 134) b)) ∧ ∀ a b, ¬ a = 134 → G1 a b = G a b) (fun k s => s.1 = (k : Int) ∧ (∀ b, s.2 134 b = r_S2 (k : Int) (G 134) b) ∧ ∀ a b, ¬ a = 134 → s.2 a b = G a b) (G 134 0).toNat (by omega) (fun k s hk hss nx hn => ?_) (fun s hss nx => ?_) (0, G) ⟨rfl, fun b => (r_S2_o (by omega)).symm, fun a b _ => rfl⟩
    · obtain ⟨k0, X⟩ := s
      obtain ⟨h1, h2, h3⟩ : (k0 = (k : Int)) ∧ (∀ b, X 134 b = r_S2 (k : Int) (G 134) b) ∧ (∀ a b, ¬ a = 134 → X a b = G a b) := hss
      subst h1
      have e0 : X 134 0 = G 134 0 := by rw [h2, r_S2_o (by omega)]
      have e39 : Unit → a_w (39 + (k : Int)) = 39 + (k : Int) := fun _ => a_w_id (by omega) (by omega)
      have ew : X 134 (39 + (k : Int)) = G 134 (39 + (k : Int)) := by rw [h2, r_S2_o (by omega)]
      have e7 : X 134 (7 + (k : Int)) = G 134 (7 + (k : Int)) := by rw [h2, r_S2_o (by omega)]
      have oi := ho.2.2.2.2.2.2.2 (k : Int) (by omega) (by omega)
      have ek : Unit → a_w ((k : Int) + 1) = ((k + 1 : Nat) : Int) := fun _ => by rw [a_w_id (by omega) (by omega)]; omega
      have fw := fl_wets (G := X) (i := (k : Int)) (by omega) (by omega) (by rw [ew]; exact oi.2.2.2.2)
      have ms := fl_mset ho (k := k) (by omega)
      simp only [a_jn, a_bd, e0, e39 ()]
      rw [if_pos (by omega), ek (), if_neg cc]
      by_cases c2 : G 134 3 = -4 ∨ r_in (G 134) (k : Int) = 0
      · rw [if_pos (ms.mpr c2)]
        have kk : ∀ v, v = a_wt (G 134 (7 + (k : Int))) (G 134 (39 + (k : Int))) → (∃ G1, nx (((k + 1 : Nat) : Int), a_up X 134 (39 + (k : Int)) v) = j G1 ∧ (∀ b, G1 134 b = (if c = 0 then G 134 b else r_S2 (G 134 0) (G 134) b)) ∧ ∀ a b, ¬ a = 134 → G1 a b = G a b) := by
          intro v hv
          refine hn _ ⟨rfl, ?_, fun a b g => ?_⟩
          · refine r_S2_s h2 (by omega) (fun b g => a_up_ne (by omega)) ?_
            show a_up X 134 (39 + (k : Int)) v 134 (39 + (k : Int)) = _
            rw [a_up_eq, hv, r_S2_i (by omega) (by omega) c2]
          · show a_up X 134 (39 + (k : Int)) v a b = _
            rw [a_up_ne (by omega), h3 a b g]
        rw [e7, ew] at fw
        by_cases c9 : 99 < a_w (X 134 (39 + (k : Int)) + fn_122 (k : Int) X)
        · rw [if_pos c9]
          rw [ew] at c9
          rw [if_pos c9] at fw
          exact kk 99 fw
        · rw [if_neg c9]
          have c9' := c9
          rw [ew] at c9'
          rw [if_neg c9'] at fw
          exact kk _ (by rw [ew]; exact fw)
      · rw [if_neg (fun h => c2 (ms.mp h))]
        refine hn _ ⟨rfl, ?_, h3⟩
        refine r_S2_s h2 (by omega) (fun b _ => rfl) ?_
        show X 134 (39 + (k : Int)) = _
        rw [ew, r_S2_n c2]
    · obtain ⟨h1, h2, h3⟩ := hss
      have e0 : s.2 134 0 = G 134 0 := by rw [h2, r_S2_o (by omega)]
      rw [if_neg (by rw [h1, e0]; omega)]
      rw [show (((G 134 0).toNat : Nat) : Int) = G 134 0 by omega] at h2
      exact ⟨s.2, rfl, fun b => by rw [if_neg cc]; exact h2 b, h3⟩

theorem r_S1_s {G G' : a_P} {k : Int} {w : Int → Int} (h : ∀ b, G 134 b = r_S1 k w b) (hk : 0 ≤ k) (h8 : k < 8) (hf : ∀ b, ¬ (b = 15 + k) → ¬ (b = 23 + k) → G' 134 b = G 134 b) (hc : G' 134 (15 + k) = r_cell w k) (hd : G' 134 (23 + k) = r_walk w k) : ∀ b, G' 134 b = r_S1 (k + 1) w b := by
  intro b
  by_cases c1 : b = 15 + k
  · subst c1
    rw [hc, r_S1_c hk (by omega)]
  · by_cases c2 : b = 23 + k
    · subst c2
      rw [hd, r_S1_w hk (by omega) (by omega)]
    · rw [hf b c1 c2, h b]
      by_cases d1 : 15 ≤ b ∧ b < 15 + k
      · have e : b = 15 + (b - 15) := by omega
        rw [e, r_S1_c (by omega) (by omega), r_S1_c (by omega) (by omega)]
      · by_cases d2 : 23 ≤ b ∧ b < 23 + k
        · have e : b = 23 + (b - 23) := by omega
          rw [e, r_S1_w (by omega) (by omega) (by omega), r_S1_w (by omega) (by omega) (by omega)]
        · rw [r_S1_o d1 d2, r_S1_o (by omega) (by omega)]
theorem fl_mwalk {G : a_P} {m : Int} (ho : a_ok m (G 134)) (j : a_P → a_P) : ∃ G1, a_lp (fun (s11 : Int × a_P) => s11.2) (fun (s11 : Int × a_P) n2 => (if s11.1 < (s11.2 134 0) then a_jn (fun (s12 : a_P) => a_bd (a_w (s11.1 + 1)) fun x7 =>
  n2 (x7, s12)) fun j27 =>
  (if s11.1 = (s11.2 134 3) then j27 s11.2
  else a_bd (fn_121 s11.1 s11.2) fun H5 =>
  j27 H5)
  else j s11.2)) a_fuel (0, G) = j G1 ∧ (∀ b, G1 134 b = r_S1 (G 134 0) (G 134) b) ∧ ∀ a b, ¬ a = 134 → G1 a b = G a b := by
  have b0 := ho.1
  refine a_lp_up (Q := fun r => ∃ G1, r = j G1 ∧ (∀ b, G1 134 b = r_S1 (G 134 0) (G 134) b) ∧ ∀ a b, ¬ a = 134 → G1 a b = G a b) (fun k s => s.1 = (k : Int) ∧ (∀ b, s.2 134 b = r_S1 (k : Int) (G 134) b) ∧ ∀ a b, ¬ a = 134 → s.2 a b = G a b) (G 134 0).toNat (by omega) (fun k s hk hss nx hn => ?_) (fun s hss nx => ?_) (0, G) ⟨rfl, fun b => (r_S1_0 b).symm, fun a b _ => rfl⟩
  · obtain ⟨k0, X⟩ := s
    obtain ⟨h1, h2, h3⟩ : (k0 = (k : Int)) ∧ (∀ b, X 134 b = r_S1 (k : Int) (G 134) b) ∧ (∀ a b, ¬ a = 134 → X a b = G a b) := hss
    subst h1
    have e0 : X 134 0 = G 134 0 := by rw [h2, r_S1_o (by omega) (by omega)]
    have e3 : X 134 3 = G 134 3 := by rw [h2, r_S1_o (by omega) (by omega)]
    have ec : X 134 (15 + (k : Int)) = G 134 (15 + (k : Int)) := by rw [h2, r_S1_o (by omega) (by omega)]
    have ew : X 134 (23 + (k : Int)) = G 134 (23 + (k : Int)) := by rw [h2, r_S1_o (by omega) (by omega)]
    have oi := ho.2.2.2.2.2.2.2 (k : Int) (by omega) (by omega)
    have ek : Unit → a_w ((k : Int) + 1) = ((k + 1 : Nat) : Int) := fun _ => by rw [a_w_id (by omega) (by omega)]; omega
    have w23 : Unit → a_w (23 + (k : Int)) = 23 + (k : Int) := fun _ => a_w_id (by omega) (by omega)
    have w15 : Unit → a_w (15 + (k : Int)) = 15 + (k : Int) := fun _ => a_w_id (by omega) (by omega)
    simp only [a_jn, a_bd, e0, e3]
    rw [if_pos (by omega), ek ()]
    by_cases c1 : (k : Int) = G 134 3
    · rw [if_pos c1]
      refine hn _ ⟨rfl, ?_, h3⟩
      exact r_S1_s h2 (by omega) (by omega) (fun b _ _ => rfl) (by show X 134 (15 + (k : Int)) = _; rw [ec]; unfold r_cell; rw [if_pos c1]) (by show X 134 (23 + (k : Int)) = _; rw [ew]; unfold r_walk; rw [if_pos c1])
    · rw [if_neg c1]
      have key : ∀ Y, Y = fn_121 (k : Int) X → (∀ b, ¬ (b = 15 + (k : Int)) → ¬ (b = 23 + (k : Int)) → Y 134 b = X 134 b) ∧ Y 134 (15 + (k : Int)) = r_cell (G 134) (k : Int) ∧ Y 134 (23 + (k : Int)) = r_walk (G 134) (k : Int) := by
        intro Y hY
        simp only [fn_121, a_jn, a_bd, w23 (), w15 (), ec, ew] at hY
        unfold r_cell r_walk
        rw [if_neg c1, if_neg c1]
        by_cases c2 : fn_112 (G 134 (15 + (k : Int))) (G 134 (23 + (k : Int))) = -4
        · rw [if_pos c2] at hY
          rw [if_pos c2, if_pos c2]
          by_cases c4 : G 134 (23 + (k : Int)) = 4
          · rw [if_pos c4] at hY
            rw [hY, if_pos c4]
            exact ⟨fun b _ g => a_up_ne (by omega), by rw [a_up_ne (by omega), ec], a_up_eq⟩
          · rw [if_neg c4, a_w_id (by omega) (by omega), a_rem_id (by omega) (by omega) (by decide)] at hY
            rw [hY, if_neg c4]
            exact ⟨fun b _ g => a_up_ne (by omega), by rw [a_up_ne (by omega), ec], a_up_eq⟩
        · rw [if_neg c2] at hY
          rw [if_neg c2, if_neg c2, hY]
          exact ⟨fun b g _ => a_up_ne (by omega), a_up_eq, by rw [a_up_ne (by omega), ew]⟩
      obtain ⟨k1, k2, k3⟩ := key _ rfl
      refine hn _ ⟨rfl, r_S1_s h2 (by omega) (by omega) k1 k2 k3, fun a b g => ?_⟩
      show fn_121 (k : Int) X a b = G a b
      rw [fr_121 (k : Int) X a b (by unfold w_121; exact g), h3 a b g]
  · obtain ⟨h1, h2, h3⟩ := hss
    have e0 : s.2 134 0 = G 134 0 := by rw [h2, r_S1_o (by omega) (by omega)]
    rw [if_neg (by rw [h1, e0]; omega)]
    rw [show (((G 134 0).toNat : Nat) : Int) = G 134 0 by omega] at h2
    exact ⟨s.2, rfl, h2, h3⟩

/-! CarriedGateModel.part by hand: Euclid's loop; the product of its two numbers halves in each turn -/
def h_L (A B : Int64) (w : Int32) (a b : Int64) (x y : Option Value) : List (Option Value) := [some (.long A), none, some (.long B), none, some (.int w), some (.long a), none, some (.long b), none, x, y]
section h_part
variable {cal : Nat → List Value → q_H → Option (q_R Value q_H)} {fr : Nat} {hp : q_H} {A B a b : Int64} {w : Int32} {x y : Option Value}
theorem h_begin (f : Nat) : q_steps q_CO (q_I 171).2 cal fr (f + 4) 0 [some (.long A), none, some (.long B), none, some (.int w), none, none, none, none, none, none] [] hp = q_steps q_CO (q_I 171).2 cal fr f 6 (h_L A B w A B none none) [] hp := rfl
theorem h_head (f : Nat) : q_steps q_CO (q_I 171).2 cal fr (f + 4) 6 (h_L A B w a b x y) [] hp = q_br q_CO (q_cmp 0 (.int (lg_cmp b (Int64.ofInt 0))) (.int (Int32.ofInt 0))) 31 13 (h_L A B w a b x y) [] hp (q_steps q_CO (q_I 171).2 cal fr f) := rfl
theorem h_rem (f : Nat) : q_steps q_CO (q_I 171).2 cal fr (f + 9) 13 (h_L A B w a b x y) [] hp = q_ob (q_bin 15 (.long a) (.long b)) fun r => q_steps q_CO (q_I 171).2 cal fr (f + 6) 18 (h_L A B w a b x y) [r] hp := rfl
theorem h_back {r : Int64} (f : Nat) : q_steps q_CO (q_I 171).2 cal fr (f + 6) 18 (h_L A B w a b x y) [.long r] hp = q_steps q_CO (q_I 171).2 cal fr f 6 (h_L A B w b r (some (.long r)) none) [] hp := rfl
theorem h_exit (f : Nat) : q_steps q_CO (q_I 171).2 cal fr (f + 2) 31 (h_L A B w a b x y) [] hp = q_br q_CO (q_cmp 1 (.int w) (.int (Int32.ofInt 0))) 40 36 (h_L A B w a b x y) [] hp (q_steps q_CO (q_I 171).2 cal fr f) := rfl
theorem h_ex0 (f : Nat) : q_steps q_CO (q_I 171).2 cal fr (f + 6) 36 (h_L A B w a b x y) [] hp = q_ob (q_bin 14 (.long A) (.long a)) fun r => q_steps q_CO (q_I 171).2 cal fr (f + 2) 44 (h_L A B w a b x y) [r] hp := rfl
theorem h_ex1 (f : Nat) : q_steps q_CO (q_I 171).2 cal fr (f + 5) 40 (h_L A B w a b x y) [] hp = q_ob (q_bin 14 (.long B) (.long a)) fun r => q_steps q_CO (q_I 171).2 cal fr (f + 2) 44 (h_L A B w a b x y) [r] hp := rfl
theorem h_ret {r : Int64} (f : Nat) : q_steps q_CO (q_I 171).2 cal fr (f + 2) 44 (h_L A B w a b x y) [.long r] hp = some (some (.int r.toInt32), hp) := rfl
theorem h_zero : (Int64.ofInt 0).toInt = 0 := by decide
theorem h_cmp0 (h : b.toInt = 0) : q_cmp 0 (.int (lg_cmp b (Int64.ofInt 0))) (.int (Int32.ofInt 0)) = some true := by
  rw [s_rel_cmp (by decide), s_lc_ok, h_zero, h]
  rfl
theorem h_cmp1 (h : b.toInt ≠ 0) : q_cmp 0 (.int (lg_cmp b (Int64.ofInt 0))) (.int (Int32.ofInt 0)) = some false := by
  rw [s_rel_cmp (by decide), s_lc_ok, h_zero]
  show some (decide (s_lc b.toInt 0 = (Int32.ofInt 0).toInt)) = some false
  rw [show (Int32.ofInt 0).toInt = 0 by decide, decide_eq_false]
  unfold s_lc
  split
  · omega
  · first | omega | (rw [if_neg h]; omega)
theorem h_fin (ha : a.toInt ≠ 0) (hb : b.toInt = 0) : ∃ r : Int32, ∀ f, q_steps q_CO (q_I 171).2 cal fr (f + 12) 6 (h_L A B w a b x y) [] hp = some (some (.int r), hp) := by
  have ha : a ≠ 0 := s_ne0l ha
  have e1 : ∀ z : Int64, q_bin 14 (.long z) (.long a) = some (.long (z / a)) := fun z => by simp only [q_bin]; rw [if_neg ha]
  by_cases hw : q_cmp 1 (.int w) (.int (Int32.ofInt 0)) = some true
  · refine ⟨(B / a).toInt32, fun f => ?_⟩
    rw [show f + 12 = (f + 8) + 4 by omega, h_head, h_cmp0 hb]
    show q_steps q_CO (q_I 171).2 cal fr (f + 8) 31 (h_L A B w a b x y) [] hp = _
    rw [show f + 8 = (f + 6) + 2 by omega, h_exit, hw]
    show q_steps q_CO (q_I 171).2 cal fr (f + 6) 40 (h_L A B w a b x y) [] hp = _
    rw [show f + 6 = (f + 1) + 5 by omega, h_ex1, e1]
    exact h_ret (f + 1)
  · have hw : q_cmp 1 (.int w) (.int (Int32.ofInt 0)) = some false := by
      rw [s_rel_cmp (by decide)] at hw ⊢
      cases hc : s_rel 1 w.toInt (Int32.ofInt 0).toInt with
      | true => rw [hc] at hw; exact absurd rfl hw
      | false => rfl
    refine ⟨(A / a).toInt32, fun f => ?_⟩
    rw [show f + 12 = (f + 8) + 4 by omega, h_head, h_cmp0 hb]
    show q_steps q_CO (q_I 171).2 cal fr (f + 8) 31 (h_L A B w a b x y) [] hp = _
    rw [show f + 8 = (f + 6) + 2 by omega, h_exit, hw]
    show q_steps q_CO (q_I 171).2 cal fr (f + 6) 36 (h_L A B w a b x y) [] hp = _
    rw [h_ex0, e1]
    exact h_ret f
theorem h_it (hb : b.toInt ≠ 0) (f : Nat) : q_steps q_CO (q_I 171).2 cal fr (f + 13) 6 (h_L A B w a b x y) [] hp = q_steps q_CO (q_I 171).2 cal fr f 6 (h_L A B w b (a - a / b * b) (some (.long (a - a / b * b))) none) [] hp := by
  rw [show f + 13 = (f + 9) + 4 by omega, h_head, h_cmp1 hb]
  show q_steps q_CO (q_I 171).2 cal fr (f + 9) 13 (h_L A B w a b x y) [] hp = _
  rw [h_rem, show q_bin 15 (.long a) (.long b) = some (.long (a - a / b * b)) by simp only [q_bin]; rw [if_neg (s_ne0l hb)]]
  exact h_back f
theorem h_half {a b : Int} (hb : 1 ≤ b) (hab : b ≤ a) : b * (a - b * a.tdiv b) * 2 ≤ a * b := by
  have h1 := s_tm (a := a) (b := b) (by omega)
  have h2 := (s_tq (a := a) (b := b) (by omega)).1 (by omega)
  have h3 : 1 ≤ a.tdiv b := by
    rcases Int.lt_or_le (a.tdiv b) 1 with h | h
    · have h4 : a.tdiv b = 0 := by omega
      rw [h4, Int.mul_zero] at h1
      omega
    · exact h
  have h4 : b * 1 ≤ b * a.tdiv b := Int.mul_le_mul_of_nonneg_left h3 (by omega)
  obtain ⟨r, hr⟩ : ∃ r, r = a - b * a.tdiv b := ⟨_, rfl⟩
  rw [← hr] at h1 ⊢
  have h5 : b + r ≤ a := by omega
  have h6 : (b + r) * b ≤ a * b := Int.mul_le_mul_of_nonneg_right h5 (by omega)
  have h7 : r * b ≤ b * b := Int.mul_le_mul_of_nonneg_right (by omega) (by omega)
  rw [Int.add_mul] at h6
  have h8 : b * r = r * b := Int.mul_comm b r
  rw [h8]
  omega
theorem h_go : ∀ (n : Nat) (a b : Int64) (x y : Option Value), 0 ≤ b.toInt → b.toInt ≤ a.toInt → 1 ≤ a.toInt → a.toInt * b.toInt < 2 ^ n → ∃ r : Int32, ∀ f, q_steps q_CO (q_I 171).2 cal fr (f + 13 * n + 12) 6 (h_L A B w a b x y) [] hp = some (some (.int r), hp)
  | 0, a, b, x, y, h1, h2, h3, h4 => by
    have hb : b.toInt = 0 := by
      rcases Int.lt_or_le 0 b.toInt with h | h
      · have := Int.mul_le_mul_of_nonneg_left (show (1 : Int) ≤ b.toInt by omega) (show 0 ≤ a.toInt by omega)
        omega
      · omega
    exact h_fin (by omega) hb
  | n + 1, a, b, x, y, h1, h2, h3, h4 => by
    by_cases hb : b.toInt = 0
    · obtain ⟨r, hr⟩ := h_fin (cal := cal) (fr := fr) (hp := hp) (A := A) (B := B) (w := w) (x := x) (y := y) (show a.toInt ≠ 0 by omega) hb
      exact ⟨r, fun f => hr (f + 13 * (n + 1))⟩
    · have e := s_r64 (x := a) (y := b) (by omega)
      have h5 := s_tm (a := a.toInt) (b := b.toInt) (by omega)
      have h6 := h_half (a := a.toInt) (b := b.toInt) (by omega) h2
      obtain ⟨r, hr⟩ := h_go n b (a - a / b * b) (some (.long (a - a / b * b))) none (by rw [e]; exact (h5.2.2 (by omega)).1) (by rw [e]; omega) (by omega) (by
        rw [e]
        rw [Int.pow_succ] at h4
        omega)
      refine ⟨r, fun f => ?_⟩
      rw [show f + 13 * (n + 1) + 12 = (f + 13 * n + 12) + 13 by omega, h_it hb]
      exact hr f
end h_part
theorem s_part : ∀ d, s_U_364.2.1 ≤ d → s_holds (q_run q_CO q_I 1000000 d) s_U_364 := by
  intro d hd ρ as hp H hpre
  have hd : 1 ≤ d := hd
  obtain ⟨p1, p2, -⟩ := hpre
  obtain ⟨d', rfl⟩ : ∃ d', d = d' + 1 := ⟨d - 1, by omega⟩
  obtain ⟨v0, g0, k0, a0, b0⟩ := p2 0 _ rfl
  obtain ⟨v1, g1, k1, a1, b1⟩ := p2 1 _ rfl
  obtain ⟨v2, g2, k2, a2, b2⟩ := p2 2 _ rfl
  obtain ⟨A, rfl, hA⟩ := s_vk_long k0
  obtain ⟨B, rfl, hB⟩ := s_vk_long k1
  obtain ⟨w, rfl, hw⟩ := s_vk_int k2
  have a0 : (0 : Int) ≤ ρ 0 := a0
  have b0 : ρ 0 ≤ 1000000000 := b0
  have a1 : (1 : Int) ≤ ρ 1 := a1
  have b1 : ρ 1 ≤ 1000000000 := b1
  match as, p1, g0, g1, g2 with
  | [u0, u1, u2], _, g0, g1, g2 =>
    cases g0
    cases g1
    cases g2
    have e := s_r64 (x := A) (y := B) (by omega)
    have h5 := s_tm (a := A.toInt) (b := B.toInt) (by omega)
    have h6 := h5.2.2 (by omega)
    have h7 : B.toInt * (A - A / B * B).toInt < 2 ^ 60 := by
      rw [e]
      have h8 := Int.mul_le_mul_of_nonneg_left (show A.toInt - B.toInt * A.toInt.tdiv B.toInt ≤ 1000000000 by omega) (show 0 ≤ B.toInt by omega)
      have h9 : (2 : Int) ^ 60 = 1152921504606846976 := by decide
      omega
    obtain ⟨r, hr⟩ := h_go (cal := q_run q_CO q_I 1000000 d') (fr := d') (hp := hp) (A := A) (B := B) (w := w) 60 B (A - A / B * B) (some (.long (A - A / B * B))) none (by rw [e]; omega) (by rw [e]; omega) (by omega) h7
    have hrun : q_run q_CO q_I 1000000 (d' + 1) 171 [.long A, .long B, .int w] hp = some (some (.int r), hp) := by
      have e1 : q_run q_CO q_I 1000000 (d' + 1) 171 [.long A, .long B, .int w] hp = q_steps q_CO (q_I 171).2 (q_run q_CO q_I 1000000 d') d' 1000000 0 [some (.long A), none, some (.long B), none, some (.int w), none, none, none, none, none, none] [] hp := by
        rw [q_run_succ, q_frc_eq]
        rfl
      rw [e1, show 1000000 = 999996 + 4 from rfl, h_begin, show 999996 = 999983 + 13 from rfl, h_it (by omega)]
      have := hr 999191
      exact this
    refine ⟨_, hrun, H, s_fm.rfl', _, List.mem_cons_self, rfl, fun j x y hj => ?_, ⟨r.toInt, ⟨rfl, rfl⟩, ?_⟩, fun t c p P hm => by cases hm⟩
    · match j, hj with
      | 0, hj => cases hj; exact ⟨a0, b0⟩
      | 1, hj => cases hj; exact ⟨a1, b1⟩
      | 2, hj => cases hj; exact ⟨a2, b2⟩
      | j + 3, hj => cases hj
    · exact s_b32 r
  | [], p1, _, _, _ => cases p1
  | [_], p1, _, _, _ => cases p1
  | [_, _], p1, _, _, _ => cases p1
  | _ :: _ :: _ :: _ :: _, p1, _, _, _ => cases p1

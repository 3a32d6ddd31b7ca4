/-! AN HOUR, ROW BY ROW: who is STRONG; the whole HOUR -/
def a_cap (x : Int) : Int := if 20 < x then 20 else x
/-- the class: all but THE BEARER -/
def r_S3c (k : Int) (w : Int → Int) : Int → Int := fun b => if 31 ≤ b ∧ b < 31 + k ∧ ¬ (b - 31 = w 3) then a_cap (w b + 1) else w b
/-- the reference: all -/
def r_S3 (k : Int) (w : Int → Int) : Int → Int := fun b => if 31 ≤ b ∧ b < 31 + k then a_cap (w b + (if b - 31 = w 3 then -1 else 1)) else w b
/-- it LIES, if THE BEARER can no more; the next HOUR -/
def r_S4 (w : Int → Int) : Int → Int := fun b => if b = 3 then (if ¬ (w 3 = -4) ∧ w (31 + w 3) = 0 then -4 else w 3) else if b = 5 then w 5 + 1 else w b
theorem r_S3c_o {k b : Int} {w : Int → Int} (h : ¬ (31 ≤ b ∧ b < 31 + k)) : r_S3c k w b = w b := by unfold r_S3c; rw [if_neg (fun g => h ⟨g.1, g.2.1⟩)]
theorem r_S3_o {k b : Int} {w : Int → Int} (h : ¬ (31 ≤ b ∧ b < 31 + k)) : r_S3 k w b = w b := by unfold r_S3; rw [if_neg h]
theorem a_sm_S3 {G G' : a_P} {p k : Int} {w : Int → Int} (h : a_sm G p (r_S3c k w)) (hk : 0 ≤ k) (hk1 : k < w 0) (h8 : w 0 ≤ 8) (hf : ∀ a b, ¬ (a = p + 4 ∧ b = k) → G' a b = G a b) (hc : G' (p + 4) k = r_S3c (k + 1) w (31 + k)) : a_sm G' p (r_S3c (k + 1) w) := by
  obtain ⟨g0, g1, g2, g3, g4, g5, g6, gA⟩ := h
  have o : ∀ b, ¬ (b = 31 + k) → r_S3c (k + 1) w b = r_S3c k w b := fun b hb => by
    unfold r_S3c
    by_cases c : 31 ≤ b ∧ b < 31 + k ∧ ¬ (b - 31 = w 3)
    · rw [if_pos c, if_pos ⟨c.1, by omega, c.2.2⟩]
    · rw [if_neg c, if_neg (fun g => c ⟨g.1, by omega, g.2.2⟩)]
  have e0 : r_S3c (k + 1) w 0 = w 0 := r_S3c_o (by omega)
  have e0' : r_S3c k w 0 = w 0 := r_S3c_o (by omega)
  refine ⟨?_, ?_, ?_, ?_, ?_, ?_, ?_, fun i h0 h1 => ?_⟩
  · rw [hf _ _ (by omega), g0, o 1 (by omega)]
  · rw [hf _ _ (by omega), g1, o 2 (by omega)]
  · rw [hf _ _ (by omega), g2, o 3 (by omega)]
  · rw [hf _ _ (by omega), g3, o 4 (by omega)]
  · rw [hf _ _ (by omega), g4, o 5 (by omega)]
  · rw [hf _ _ (by omega), g5, o 6 (by omega)]
  · rw [hf _ _ (by omega), g6, o 0 (by omega)]
  · rw [e0] at h1
    obtain ⟨a1, a2, a3, a4, a5⟩ := gA i h0 (by rw [e0']; exact h1)
    refine ⟨by rw [hf _ _ (by omega), a1, o _ (by omega)], by rw [hf _ _ (by omega), a2, o _ (by omega)], by rw [hf _ _ (by omega), a3, o _ (by omega)], ?_, by rw [hf _ _ (by omega), a5, o _ (by omega)]⟩
    by_cases c : i = k
    · subst c
      exact hc
    · rw [hf _ _ (by omega), a4, o _ (by omega)]
theorem fe_12 {p x : Int} {H : a_P} (h8 : H p 6 ≤ 8) : (fn_12 p x H = 0) ↔ ¬ (0 ≤ x ∧ x < H p 6) := by
  simp only [fn_12, a_jn]
  by_cases c1 : x < 0
  · rw [if_pos c1]; omega
  · rw [if_neg c1]
    by_cases c2 : x < H p 6
    · rw [if_pos c2, if_pos (by omega)]; omega
    · rw [if_neg c2]; omega
theorem fl_tire {H : a_P} {p m : Int} {w : Int → Int} (hs : a_sm H p w) (ho : a_ok m w) : a_sm (fn_30 p H) p (fun b => if b = 5 then w 5 else r_S4 (r_S3 (w 0) w) b) := by
  have b0 := ho.1
  have hst : a_sm H p (r_S3c ((0 : Nat) : Int) w) := by
    have e : r_S3c ((0 : Nat) : Int) w = w := by funext b; exact r_S3c_o (by omega)
    rw [e]; exact hs
  have e2 : H p 2 = w 3 := hs.2.2.1
  simp only [fn_30, a_bd, e2]
  refine a_fjn (Q := fun G => a_sm G p (fun b => if b = 5 then w 5 else r_S4 (r_S3 (w 0) w) b)) (fun G => a_sm G p (r_S3c (w 0) w)) (fun X hX => ?_) (fun j hj => ?_)
  · have x6 : X p 6 = w 0 := by rw [hX.2.2.2.2.2.2.1, r_S3c_o (by omega)]
    obtain ⟨g0, g1, g2, g3, g4, g5, g6, gA⟩ := hX
    have q3 : ∀ b, b < 31 ∨ 39 ≤ b → r_S3 (w 0) w b = w b := fun b hb => r_S3_o (by omega)
    have q3c : ∀ b, b < 31 ∨ 39 ≤ b → r_S3c (w 0) w b = w b := fun b hb => r_S3c_o (by omega)
    have t0 : (fun b => if b = 5 then w 5 else r_S4 (r_S3 (w 0) w) b) 0 = w 0 := by simp [r_S4, q3]
    -- places that stay
    have same : ∀ b, ¬ b = 3 → (b < 31 ∨ 39 ≤ b) → (fun b => if b = 5 then w 5 else r_S4 (r_S3 (w 0) w) b) b = w b := fun b h3 hb => by
      show (if b = 5 then w 5 else r_S4 (r_S3 (w 0) w) b) = w b
      by_cases c5 : b = 5
      · rw [if_pos c5, c5]
      · unfold r_S4
        rw [if_neg c5, if_neg h3, if_neg c5, q3 b hb]
    have strong : ∀ i, 0 ≤ i → i < w 0 → (fun b => if b = 5 then w 5 else r_S4 (r_S3 (w 0) w) b) (31 + i) = a_cap (w (31 + i) + (if i = w 3 then -1 else 1)) := fun i h0 h1 => by
      show (if 31 + i = 5 then w 5 else r_S4 (r_S3 (w 0) w) (31 + i)) = _
      unfold r_S4 r_S3
      rw [if_neg (by omega), if_neg (by omega), if_neg (by omega), if_pos (by omega), show 31 + i - 31 = i by omega]
    have fin : ∀ X', (∀ a b, ¬ (a = p ∧ b = 2) → ¬ (a = p + 4 ∧ b = w 3) → X' a b = X a b) → X' p 2 = (fun b => if b = 5 then w 5 else r_S4 (r_S3 (w 0) w) b) 3 → (0 ≤ w 3 → w 3 < w 0 → X' (p + 4) (w 3) = w (31 + w 3) - 1) → a_sm X' p (fun b => if b = 5 then w 5 else r_S4 (r_S3 (w 0) w) b) := by
      intro X' hf hb hw
      refine ⟨?_, ?_, hb, ?_, ?_, ?_, ?_, fun i h0 h1 => ?_⟩
      · rw [hf _ _ (by omega) (by omega), g0, q3c 1 (by omega), same 1 (by omega) (by omega)]
      · rw [hf _ _ (by omega) (by omega), g1, q3c 2 (by omega), same 2 (by omega) (by omega)]
      · rw [hf _ _ (by omega) (by omega), g3, q3c 4 (by omega), same 4 (by omega) (by omega)]
      · rw [hf _ _ (by omega) (by omega), g4, q3c 5 (by omega), same 5 (by omega) (by omega)]
      · rw [hf _ _ (by omega) (by omega), g5, q3c 6 (by omega), same 6 (by omega) (by omega)]
      · rw [hf _ _ (by omega) (by omega), g6, q3c 0 (by omega), same 0 (by omega) (by omega)]
      · rw [same 0 (by omega) (by omega)] at h1
        obtain ⟨a1, a2, a3, a4, a5⟩ := gA i h0 (by rw [q3c 0 (by omega)]; exact h1)
        have oi := ho.2.2.2.2.2.2.2 i h0 h1
        refine ⟨?_, ?_, ?_, ?_, ?_⟩
        · rw [hf _ _ (by omega) (by omega), a1, q3c _ (by omega), same _ (by omega) (by omega)]
        · rw [hf _ _ (by omega) (by omega), a2, q3c _ (by omega), same _ (by omega) (by omega)]
        · rw [hf _ _ (by omega) (by omega), a3, q3c _ (by omega), same _ (by omega) (by omega)]
        · rw [strong i h0 h1]
          by_cases c : i = w 3
          · subst c
            rw [hw h0 h1, if_pos rfl]
            unfold a_cap
            rw [if_neg (by omega)]
            omega
          · rw [hf _ _ (by omega) (by omega), a4, if_neg c]
            unfold r_S3c
            rw [if_pos ⟨by omega, by omega, by omega⟩]
        · rw [hf _ _ (by omega) (by omega), a5, q3c _ (by omega), same _ (by omega) (by omega)]
    have t3 : (fun b => if b = 5 then w 5 else r_S4 (r_S3 (w 0) w) b) 3 = if ¬ (w 3 = -4) ∧ r_S3 (w 0) w (31 + w 3) = 0 then -4 else w 3 := by
      show (if (3 : Int) = 5 then w 5 else r_S4 (r_S3 (w 0) w) 3) = _
      unfold r_S4
      rw [if_neg (by decide), if_pos rfl, q3 3 (by omega)]
    rcases ho.2.2.2.1 with hb | ⟨hb1, hb2, hb3⟩
    · rw [if_pos ((fe_12 (by rw [x6]; exact b0.2)).mpr (by omega))]
      refine fin X (fun a b _ _ => rfl) ?_ (fun h => by omega)
      rw [t3, if_neg (by omega), g2, q3c 3 (by omega)]
    · rw [if_neg (by rw [fe_12 (by rw [x6]; exact b0.2), x6]; omega)]
      obtain ⟨-, -, -, a4, -⟩ := gA (w 3) hb1 (by rw [q3c 0 (by omega)]; exact hb2)
      have oi := ho.2.2.2.2.2.2.2 (w 3) hb1 hb2
      have a4' : X (p + 4) (w 3) = w (31 + w 3) := by
        rw [a4]
        unfold r_S3c
        rw [if_neg (fun g => g.2.2 (by omega))]
      have s3 : r_S3 (w 0) w (31 + w 3) = w (31 + w 3) - 1 := by
        unfold r_S3
        rw [if_pos (by omega), if_pos (by omega)]
        unfold a_cap
        rw [if_neg (by omega)]
        omega
      rw [a4', a_w_id (by omega) (by omega)]
      simp only [a_jn, a_up_eq]
      by_cases c : 0 < w (31 + w 3) - 1
      · rw [if_pos c]
        refine fin _ (fun a b h1 h2 => a_up_ne h2) ?_ (fun _ _ => a_up_eq)
        rw [t3, if_neg (by omega), a_up_ne (by omega), g2, q3c 3 (by omega)]
      · rw [if_neg c]
        refine fin _ (fun a b h1 h2 => by rw [a_up_ne h1, a_up_ne h2]) ?_ (fun _ _ => by rw [a_up_ne (by omega), a_up_eq])
        rw [t3, if_pos ⟨by omega, by omega⟩, a_up_eq]
  · refine a_lp_up (Q := fun G => a_sm G p (fun b => if b = 5 then w 5 else r_S4 (r_S3 (w 0) w) b)) (fun k s => s.1 = (k : Int) ∧ a_sm s.2 p (r_S3c (k : Int) w)) (w 0).toNat (by omega) (fun k s hk hss nx hn => ?_) (fun s hss nx => ?_) (0, H) ⟨rfl, hst⟩
    · obtain ⟨k0, G⟩ := s
      obtain ⟨h1, h2⟩ : (k0 = (k : Int)) ∧ (a_sm G p (r_S3c (k : Int) w)) := hss
      subst h1
      have e6 : G p 6 = w 0 := by rw [h2.2.2.2.2.2.2.1, r_S3c_o (by omega)]
      obtain ⟨-, -, -, a4, -⟩ := h2.2.2.2.2.2.2.2 (k : Int) (by omega) (by rw [r_S3c_o (by omega)]; omega)
      rw [r_S3c_o (by omega)] at a4
      have oi := ho.2.2.2.2.2.2.2 (k : Int) (by omega) (by omega)
      have ek : Unit → a_w ((k : Int) + 1) = ((k + 1 : Nat) : Int) := fun _ => by rw [a_w_id (by omega) (by omega)]; omega
      simp only [a_jn, e6, a4]
      rw [if_pos (by omega), ek ()]
      by_cases c1 : (k : Int) = w 3
      · rw [if_pos c1]
        refine hn _ ⟨rfl, a_sm_S3 h2 (by omega) (by omega) b0.2 (fun a b _ => rfl) ?_⟩
        show G (p + 4) (k : Int) = _
        rw [a4]
        unfold r_S3c
        rw [if_neg (fun g => g.2.2 (by omega))]
      · rw [if_neg c1, a_w_id (by omega) (by omega)]
        refine hn _ ⟨rfl, a_sm_S3 h2 (by omega) (by omega) b0.2 (fun a b g => a_up_ne g) ?_⟩
        show a_up G (p + 4) (k : Int) _ (p + 4) (k : Int) = _
        rw [a_up_eq]
        unfold r_S3c a_min a_cap
        rw [if_pos (show 31 ≤ 31 + (k : Int) ∧ 31 + (k : Int) < 31 + ((k : Int) + 1) ∧ ¬ (31 + (k : Int) - 31 = w 3) by omega)]
    · obtain ⟨h1, h2⟩ := hss
      have e6 : s.2 p 6 = w 0 := by rw [h2.2.2.2.2.2.2.1, r_S3c_o (by omega)]
      rw [if_neg (by rw [h1, e6]; omega)]
      rw [show (((w 0).toNat : Nat) : Int) = w 0 by omega] at h2
      exact hj _ h2

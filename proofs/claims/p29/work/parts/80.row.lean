/-! A PLAIN OF THE CLASS AND A ROW OF THE REFERENCE -/
theorem a_lp2 {σ τ α β : Type} {Q : α → β → Prop} {z1 : σ → α} {b1 : σ → (σ → α) → α} {z2 : τ → β} {b2 : τ → (τ → β) → β} (P : Nat → σ → τ → Prop) (n : Nat) (hn : n < 1000000) (hb : ∀ i s t, i < n → P i s t → ∀ (n1 : σ → α) (n2 : τ → β), (∀ s' t', P (i + 1) s' t' → Q (n1 s') (n2 t')) → Q (b1 s n1) (b2 t n2)) (he : ∀ s t, P n s t → ∀ (n1 : σ → α) (n2 : τ → β), Q (b1 s n1) (b2 t n2)) (s : σ) (t : τ) (h0 : P 0 s t) : Q (a_lp z1 b1 a_fuel s) (a_lp z2 b2 a_fuel t) := by
  have key : ∀ j i, i + j = n → ∀ m, j < m → ∀ s t, P i s t → Q (a_lp z1 b1 m s) (a_lp z2 b2 m t) := by
    intro j
    induction j with
    | zero =>
      intro i hi m hm s t hs
      obtain ⟨m, rfl⟩ : ∃ m', m = m' + 1 := ⟨m - 1, by omega⟩
      have : i = n := by omega
      subst this
      exact he s t hs _ _
    | succ j ih =>
      intro i hi m hm s t hs
      obtain ⟨m, rfl⟩ : ∃ m', m = m' + 1 := ⟨m - 1, by omega⟩
      exact hb i s t (by omega) hs _ _ (fun s' t' hs' => ih (i + 1) (by omega) m (by omega) s' t' hs')
  exact key n 0 (by omega) a_fuel (by rw [a_fuel_eq]; exact hn) s t h0
/-- a row as it may be, the HOUR at most m -/
def a_ok (m : Int) (w : Int → Int) : Prop := (0 ≤ w 0 ∧ w 0 ≤ 8) ∧ (0 ≤ w 1 ∧ w 1 ≤ 35) ∧ (0 ≤ w 2 ∧ w 2 ≤ 3) ∧ (w 3 = -4 ∨ (0 ≤ w 3 ∧ w 3 < w 0 ∧ 1 ≤ w (31 + w 3))) ∧ (0 ≤ w 4 ∧ w 4 ≤ 63) ∧ (0 ≤ w 5 ∧ w 5 ≤ m) ∧ (0 ≤ w 6 ∧ w 6 ≤ 2147483647) ∧ ∀ i, 0 ≤ i → i < w 0 → (0 ≤ w (7 + i) ∧ w (7 + i) ≤ 4) ∧ (0 ≤ w (15 + i) ∧ w (15 + i) ≤ 35) ∧ (0 ≤ w (23 + i) ∧ w (23 + i) ≤ 4) ∧ (0 ≤ w (31 + i) ∧ w (31 + i) ≤ 20) ∧ (0 ≤ w (39 + i) ∧ w (39 + i) ≤ 99)
/-- the Plain at p is the row w -/
def a_sm (H : a_P) (p : Int) (w : Int → Int) : Prop := H p 0 = w 1 ∧ H p 1 = w 2 ∧ H p 2 = w 3 ∧ H p 3 = w 4 ∧ H p 4 = w 5 ∧ H p 5 = w 6 ∧ H p 6 = w 0 ∧ ∀ i, 0 ≤ i → i < w 0 → H (p + 1) i = w (7 + i) ∧ H (p + 2) i = w (15 + i) ∧ H (p + 3) i = w (23 + i) ∧ H (p + 4) i = w (31 + i) ∧ H (p + 5) i = w (39 + i)
theorem a_div6 {x : Int} (h0 : 0 ≤ x) (h1 : x ≤ 35) : a_div x 6 = x / 6 := a_div_id h0 (by omega) (by decide)
theorem a_rem6 {x : Int} (h0 : 0 ≤ x) (h1 : x ≤ 35) : a_rem x 6 = x % 6 := a_rem_id h0 (by omega) (by decide)
/-- how far a cell is onward of a gate -/
def r_on (g l c : Int) : Int := if l = 0 then g / 6 - c / 6 else if l = 1 then c % 6 - g % 6 else if l = 2 then c / 6 - g / 6 else g % 6 - c % 6
theorem fe_115 {g l c : Int} (hg : 0 ≤ g ∧ g ≤ 35) (hc : 0 ≤ c ∧ c ≤ 35) : fn_115 c g l = r_on g l c := by
  simp only [fn_115, a_jn]
  rw [a_div6 hg.1 hg.2, a_div6 hc.1 hc.2, a_rem6 hg.1 hg.2, a_rem6 hc.1 hc.2, a_w_id (x := g / 6 - c / 6) (by omega) (by omega), a_w_id (x := c % 6 - g % 6) (by omega) (by omega), a_w_id (x := c / 6 - g / 6) (by omega) (by omega), a_w_id (x := g % 6 - c % 6) (by omega) (by omega)]
  rfl
theorem fe_16 {g l c : Int} (hg : 0 ≤ g ∧ g ≤ 35) (hl : 0 ≤ l ∧ l ≤ 3) (hc : 0 ≤ c ∧ c ≤ 35) : fn_16 g l c = if r_on g l c = 0 then 1 else if 0 < r_on g l c then 0 else 2 := by
  simp only [fn_16, a_jn, a_bd]
  rw [a_div6 hg.1 hg.2, a_div6 hc.1 hc.2, a_rem6 hg.1 hg.2, a_rem6 hc.1 hc.2, a_w_id (x := c / 6 - g / 6) (by omega) (by omega), a_w_id (x := c % 6 - g % 6) (by omega) (by omega), a_w_id (x := -(c / 6 - g / 6)) (by omega) (by omega), a_w_id (x := -(c % 6 - g % 6)) (by omega) (by omega)]
  unfold r_on
  have : l = 0 ∨ l = 1 ∨ l = 2 ∨ l = 3 := by omega
  rcases this with h | h | h | h
  · rw [if_pos h, if_pos h, show -(c / 6 - g / 6) = g / 6 - c / 6 by omega]
  · have h0 : ¬ l = 0 := by omega
    rw [if_neg h0, if_pos h, if_neg h0, if_pos h]
  · have h0 : ¬ l = 0 := by omega
    have h1 : ¬ l = 1 := by omega
    rw [if_neg h0, if_neg h1, if_pos h, if_neg h0, if_neg h1, if_pos h]
  · have h0 : ¬ l = 0 := by omega
    have h1 : ¬ l = 1 := by omega
    have h2 : ¬ l = 2 := by omega
    rw [if_neg h0, if_neg h1, if_neg h2, if_neg h0, if_neg h1, if_neg h2, show -(c % 6 - g % 6) = g % 6 - c % 6 by omega]
theorem a_tri (x : Int) : (if x = 0 then (1 : Int) else if 0 < x then 0 else 2) = if 0 < x then 0 else if x = 0 then 1 else 2 := by
  rcases Int.lt_trichotomy x 0 with h | h | h
  · rw [if_neg (by omega), if_neg (by omega), if_neg (by omega), if_neg (by omega)]
  · rw [if_pos h, if_neg (by omega), if_pos h]
  · rw [if_neg (by omega), if_pos h, if_pos h]
theorem fl_side {g l c : Int} {G : a_P} (hg : 0 ≤ g ∧ g ≤ 35) (hl : 0 ≤ l ∧ l ≤ 3) (hc : 0 ≤ c ∧ c ≤ 35) (e1 : G 134 1 = g) (e2 : G 134 2 = l) : fn_16 g l c = fn_116 c G := by
  rw [fe_16 hg hl hc, a_tri]
  simp only [fn_116, a_jn, a_bd, e1, e2, fe_115 hg hc]
theorem fl_side3 (c : Int) (G : a_P) : fn_116 c G = 0 ∨ fn_116 c G = 1 ∨ fn_116 c G = 2 := by
  simp only [fn_116, a_jn, a_bd]
  split
  · exact Or.inl rfl
  · split
    · exact Or.inr (Or.inl rfl)
    · exact Or.inr (Or.inr rfl)
theorem a_abs_id {x : Int} (h0 : -1000 ≤ x) (h1 : x ≤ 1000) : a_abs x = if 0 ≤ x then x else -x := by
  unfold a_abs
  split
  · rfl
  · rw [a_w_id (by omega) (by omega)]; omega
theorem fl_far {a b : Int} (ha : 0 ≤ a ∧ a ≤ 35) (hb : 0 ≤ b ∧ b ≤ 35) : fn_15 a b = fn_114 b a := by
  simp only [fn_15, fn_114, fn_113, a_jn]
  rw [a_div6 ha.1 ha.2, a_div6 hb.1 hb.2, a_rem6 ha.1 ha.2, a_rem6 hb.1 hb.2, a_w_id (x := a / 6 - b / 6) (by omega) (by omega), a_w_id (x := a % 6 - b % 6) (by omega) (by omega), a_abs_id (by omega) (by omega), a_abs_id (by omega) (by omega), a_w_id (x := b / 6 - a / 6) (by omega) (by omega), a_w_id (x := b % 6 - a % 6) (by omega) (by omega)]
  congr 1
  split <;> split <;> split <;> split <;> omega
theorem a_wi {x i : Int} (h0 : 0 ≤ i) (h1 : i < 100) (hx : 0 ≤ x ∧ x < 1000) : a_w (x + i) = x + i := a_w_id (by omega) (by omega)

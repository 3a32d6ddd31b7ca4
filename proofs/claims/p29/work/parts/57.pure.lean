/-! NUMBERS, LOOPS -/
theorem a_w_id {x : Int} (h0 : -2147483648 ≤ x) (h1 : x ≤ 2147483647) : a_w x = x := q_bm h0 h1
theorem a_wl_id {x : Int} (h0 : -9223372036854775808 ≤ x) (h1 : x ≤ 9223372036854775807) : a_wl x = x := q_bm64 h0 h1
theorem a_w_b (x : Int) : -2147483648 ≤ a_w x ∧ a_w x ≤ 2147483647 := by
  unfold a_w
  have h1 := Int.le_bmod (x := x) (m := 4294967296) (by decide)
  have h2 := Int.bmod_lt (x := x) (m := 4294967296) (by decide)
  omega
theorem a_div_id {x y : Int} (h0 : 0 ≤ x) (h1 : x ≤ 2147483647) (h2 : 0 < y) : a_div x y = x / y := by
  unfold a_div
  rw [Int.tdiv_eq_ediv_of_nonneg h0]
  have h3 := Int.ediv_nonneg h0 (Int.le_of_lt h2)
  have h4 := Int.ediv_le_self y h0
  exact a_w_id (by omega) (by omega)
theorem a_rem_id {x y : Int} (h0 : 0 ≤ x) (h1 : x ≤ 2147483647) (h2 : 0 < y) : a_rem x y = x % y := by
  unfold a_rem
  rw [Int.tdiv_eq_ediv_of_nonneg h0]
  have h3 := Int.ediv_nonneg h0 (Int.le_of_lt h2)
  have h4 := Int.ediv_le_self y h0
  have h5 := Int.emod_def x y
  have h6 := Int.emod_nonneg x (Int.ne_of_gt h2)
  have h7 := Int.emod_lt_of_pos x h2
  have e : x / y * y = y * (x / y) := Int.mul_comm _ _
  have h8 : 0 ≤ y * (x / y) := Int.mul_nonneg (Int.le_of_lt h2) h3
  rw [a_w_id (x := x / y) (by omega) (by omega), e, a_w_id (x := y * (x / y)) (by omega) (by omega), a_w_id (by omega) (by omega)]
  exact h5.symm
theorem a_lp_up {σ ρ : Type} {Q : ρ → Prop} {z : σ → ρ} {body : σ → (σ → ρ) → ρ} (P : Nat → σ → Prop) (n : Nat) (hn : n < 1000000) (hb : ∀ i s, i < n → P i s → ∀ next : σ → ρ, (∀ s', P (i + 1) s' → Q (next s')) → Q (body s next)) (he : ∀ s, P n s → ∀ next : σ → ρ, Q (body s next)) (s : σ) (h0 : P 0 s) : Q (a_lp z body a_fuel s) := by
  have key : ∀ j i, i + j = n → ∀ m, j < m → ∀ s, P i s → Q (a_lp z body m s) := by
    intro j
    induction j with
    | zero =>
      intro i hi m hm s hs
      obtain ⟨m, rfl⟩ : ∃ m', m = m' + 1 := ⟨m - 1, by omega⟩
      have : i = n := by omega
      subst this
      exact he s hs _
    | succ j ih =>
      intro i hi m hm s hs
      obtain ⟨m, rfl⟩ : ∃ m', m = m' + 1 := ⟨m - 1, by omega⟩
      exact hb i s (by omega) hs _ (fun s' hs' => ih (i + 1) (by omega) m (by omega) s' hs')
  exact key n 0 (by omega) a_fuel (by rw [a_fuel_eq]; exact hn) s h0
theorem a_lc_lt {x y : Int} : s_lc x y < 0 ↔ x < y := by
  unfold s_lc
  split
  · exact ⟨fun _ => by assumption, fun _ => by decide⟩
  · split
    · exact ⟨fun h => absurd h (by decide), fun h => by omega⟩
    · exact ⟨fun h => absurd h (by decide), fun h => by omega⟩
theorem a_lc_gt {x y : Int} : 0 < s_lc x y ↔ y < x := by
  unfold s_lc
  split
  · exact ⟨fun h => absurd h (by decide), fun h => by omega⟩
  · split
    · exact ⟨fun h => absurd h (by decide), fun h => by omega⟩
    · exact ⟨fun _ => by omega, fun _ => by decide⟩
theorem fe_91 (a b : Int) : fn_91 a b = if 0 ≤ a ∧ a < b then 1 else 0 := by
  simp only [fn_91, a_jn]
  by_cases h : a < 0
  · rw [if_pos h, if_neg (by omega)]
  · rw [if_neg h]
    by_cases h2 : a < b
    · rw [if_pos h2, if_pos (by omega)]
    · rw [if_neg h2, if_neg (by omega)]
theorem fe_108 (a b c : Int) : fn_108 a b c = if b ≤ a ∧ a ≤ c then 1 else 0 := by
  simp only [fn_108, a_jn, a_lc_lt, a_lc_gt]
  by_cases h : a < b
  · rw [if_pos h, if_neg (by omega)]
  · rw [if_neg h]
    by_cases h2 : c < a
    · rw [if_pos h2, if_neg (by omega)]
    · rw [if_neg h2, if_pos (by omega)]
theorem fe_91z (a b : Int) : (fn_91 a b = 0) ↔ ¬ (0 ≤ a ∧ a < b) := by
  rw [fe_91]
  split <;> simp_all
theorem fe_108z (a b c : Int) : (fn_108 a b c = 0) ↔ ¬ (b ≤ a ∧ a ≤ c) := by
  rw [fe_108]
  split <;> simp_all
theorem fe_175z (a : Int) : (fn_175 a = 0) ↔ ¬ (0 ≤ a ∧ a < 4) := by
  unfold fn_175
  rw [fe_108z]
  omega
theorem a_up_eq {H : a_P} {h i v : Int} : a_up H h i v h i = v := by unfold a_up; rw [if_pos ⟨rfl, rfl⟩]
theorem a_up_ne {H : a_P} {h i v a b : Int} (hn : ¬ (a = h ∧ b = i)) : a_up H h i v a b = H a b := by unfold a_up; rw [if_neg hn]
theorem a_cp_ne {H : a_P} {hs sp hd dp n a b : Int} (hn : ¬ (a = hd ∧ dp ≤ b ∧ b < dp + n)) : a_cp H hs sp hd dp n a b = H a b := by unfold a_cp; rw [if_neg hn]
theorem a_cp_eq {H : a_P} {hs sp hd dp n b : Int} (h0 : dp ≤ b) (h1 : b < dp + n) : a_cp H hs sp hd dp n hd b = H hs (sp + (b - dp)) := by unfold a_cp; rw [if_pos ⟨rfl, h0, h1⟩]
/-- ranges that safety keeps -/
theorem a_rng {hp : q_H} {G : a_P} {c t i : Nat} {D : s_D} {q : s_Q} (HO : s_hok hp) (hG : a_hr hp G) (hc : s_ct[c]? = some t) (hD : s_td t = some D) (hi : i < D.2.1) (hq : s_sg D.2.2.1 i = some q) (h2 : q.1 < 2) (hr : a_isr D.1 i = false) : q.2.1 ≤ G c i ∧ G c i ≤ q.2.2 := by
  obtain ⟨D', d, h3, h4, h5, h6, h7⟩ := HO.2.2 c t hc
  rw [hD] at h3
  cases h3
  have hlt : i < d.2.length := by omega
  have h8 := List.getElem?_eq_getElem hlt
  obtain ⟨q', h9, z, h10, h11⟩ := h7 i _ h8
  rw [hq] at h9
  cases h9
  have h12 := hG c d i _ h4 h8
  have h13 := h11 (by omega)
  unfold a_get at h12
  rw [h5, hr, cond_false] at h12
  have h14 : (a_of d.2[i]).2 = G c i := by rw [h12]
  have h15 : (a_of d.2[i]).2 = z := by
    cases hv : d.2[i] with
    | int x => rw [hv] at h10; exact h10.2
    | long x => rw [hv] at h10; exact h10.2
    | float n => rw [hv] at h10; exact h10.2
    | ref h => rw [hv] at h10; obtain ⟨t', e, -⟩ := h10; omega
    | _ => rw [hv] at h10; exact h10.elim
  rw [← h14, h15]
  exact h13

/-! THE FIRST HEAP -/
def a_v0 (h t i : Nat) (v : Value) : Bool := Nat.beq (a_of v).1 (a_kd t i) && (!a_isr t i || decide ((a_of v).2 = a_rc h t i))
def a_vs0 (h t : Nat) : Nat → List Value → Bool
  | _, [] => true
  | i, v :: l => a_v0 h t i v && a_vs0 h t (i + 1) l
def a_hs0 : Nat → q_H → Bool
  | _, [] => true
  | h, d :: l => a_vs0 h d.1 0 d.2 && a_hs0 (h + 1) l
theorem a_vs0_ok {h t : Nat} : ∀ {l : List Value} {i j : Nat} {v : Value}, a_vs0 h t i l = true → l[j]? = some v → a_v0 h t (i + j) v = true
  | w :: l, i, 0, v, h1, h2 => by
    cases h2
    rw [a_vs0, Bool.and_eq_true] at h1
    exact h1.1
  | w :: l, i, j + 1, v, h1, h2 => by
    rw [a_vs0, Bool.and_eq_true] at h1
    have := a_vs0_ok (j := j) h1.2 h2
    rwa [show i + 1 + j = i + (j + 1) by omega] at this
  | [], i, j, v, h1, h2 => by cases h2
theorem a_hs0_ok : ∀ {l : q_H} {h j : Nat} {d : Nat × List Value}, a_hs0 h l = true → l[j]? = some d → a_vs0 (h + j) d.1 0 d.2 = true
  | e :: l, h, 0, d, h1, h2 => by
    cases h2
    rw [a_hs0, Bool.and_eq_true] at h1
    exact h1.1
  | e :: l, h, j + 1, d, h1, h2 => by
    rw [a_hs0, Bool.and_eq_true] at h1
    have := a_hs0_ok (j := j) h1.2 h2
    rwa [show h + 1 + j = h + (j + 1) by omega] at this
  | [], h, j, d, h1, h2 => by cases h2
def a_G0 : a_P := fun a b => match q_hp0[a.toNat]? with
  | some d => (match d.2[b.toNat]? with
    | some v => (a_of v).2
    | none => 0)
  | none => 0
theorem a_hr0 : a_hr q_hp0 a_G0 := by
  have h0 : a_hs0 0 q_hp0 = true := by decide +kernel
  intro h d i v h1 h2
  have h3 := a_vs0_ok (a_hs0_ok h0 h1) h2
  rw [Nat.zero_add, Nat.zero_add] at h3
  unfold a_v0 at h3
  rw [Bool.and_eq_true, Bool.or_eq_true] at h3
  have h4 : (a_of v).1 = a_kd d.1 i := Nat.eq_of_beq_eq_true h3.1
  have h5 : (a_of v).2 = a_G0 (h : Int) (i : Int) := by
    unfold a_G0
    rw [Int.toNat_natCast, Int.toNat_natCast, h1]
    simp only [h2]
  unfold a_get
  cases hr : a_isr d.1 i with
  | false => rw [cond_false, ← h4, ← h5]
  | true =>
    rw [hr] at h3
    rcases h3.2 with h6 | h6
    · cases h6
    · rw [cond_true, ← h4, ← of_decide_eq_true h6]
theorem a_I0 : a_I a_G0 := Or.inl ⟨by decide +kernel, by decide +kernel⟩
theorem a_T0 : a_T a_G0 := (by decide +kernel : a_G0 119 1 = a_G0 133 2)
theorem a_Sh0 : a_Sh a_G0 := by
  intro s h0 h4
  have : s = 0 ∨ s = 1 ∨ s = 2 ∨ s = 3 := by omega
  rcases this with rfl | rfl | rfl | rfl
  · exact Or.inl ⟨by decide +kernel, by decide +kernel⟩
  · exact Or.inl ⟨by decide +kernel, by decide +kernel⟩
  · exact Or.inl ⟨by decide +kernel, by decide +kernel⟩
  · exact Or.inl ⟨by decide +kernel, by decide +kernel⟩

def s_dj : List (Int × Int) → List (Int × Int) → Bool
  | (a, b) :: l, (c, d) :: m => i_blt b c || i_blt d a || s_dj l m
  | _, _ => false
def s_same0 (P Q : s_P) : Bool := (!Nat.beq P.2.1 1 && !Nat.beq Q.2.1 1 && i_beq P.2.2.2.1 P.2.2.2.2 && i_beq Q.2.2.2.1 Q.2.2.2.2 && i_beq P.2.2.2.1 Q.2.2.2.1) || (Nat.beq P.2.1 1 && Nat.beq Q.2.1 1 && Nat.beq P.2.2.1 Q.2.2.1 && Nat.blt 0 P.2.2.1)
def s_ag1 (o u : s_O) : Bool := s_dj o.1.tail u.1.tail || (match o.2.1, u.2.1 with
  | some P, some Q => s_same0 P Q
  | _, _ => false)
def s_agr (A B : List s_O) : Bool := A.all fun o => B.all fun u => s_ag1 o u
theorem s_dj_ok {f : Nat → Int} : ∀ {l m : List (Int × Int)} {i : Nat}, s_dj l m = true → (∀ (j : Nat) (a b : Int), l[j]? = some (a, b) → a ≤ f (i + j) ∧ f (i + j) ≤ b) → (∀ (j : Nat) (a b : Int), m[j]? = some (a, b) → a ≤ f (i + j) ∧ f (i + j) ≤ b) → False
  | (a, b) :: l, (c, d) :: m, i, h, h1, h2 => by
    rw [s_dj, Bool.or_eq_true, Bool.or_eq_true, i_blt_iff, i_blt_iff] at h
    have e1 := h1 0 a b rfl
    have e2 := h2 0 c d rfl
    rcases h with (h | h) | h
    · omega
    · omega
    · refine s_dj_ok (f := f) (i := i + 1) h (fun j a b hj => ?_) (fun j a b hj => ?_)
      · have := h1 (j + 1) a b hj
        rwa [show i + (j + 1) = i + 1 + j by omega] at this
      · have := h2 (j + 1) a b hj
        rwa [show i + (j + 1) = i + 1 + j by omega] at this
  | [], _, _, h, _, _ => by cases h
  | _ :: _, [], _, h, _, _ => by cases h
theorem s_agr_ok {A B : List s_O} {n : Nat} {c1 c2 : Int} {g : Nat → Int} {x y : Int32} {h1 h2 : q_H} (h : s_agr A B = true) (e1 : ∃ o ∈ A, s_eo (fun i => match i with
    | 0 => c1
    | i + 1 => g i) n o (some (.int x), h1)) (e2 : ∃ o ∈ B, s_eo (fun i => match i with
    | 0 => c2
    | i + 1 => g i) n o (some (.int y), h2)) : x = y := by
  obtain ⟨o, ho, f1, f2, f3, -⟩ := e1
  obtain ⟨u, hu, k1, k2, k3, -⟩ := e2
  have h := List.all_eq_true.mp (List.all_eq_true.mp h o ho) u hu
  unfold s_ag1 at h
  rw [Bool.or_eq_true] at h
  rcases h with h | h
  · exfalso
    refine s_dj_ok (f := g) (i := 0) h (fun j a b hj => ?_) (fun j a b hj => ?_)
    · rw [List.getElem?_tail] at hj
      rw [Nat.zero_add]
      exact f2 (j + 1) a b hj
    · rw [List.getElem?_tail] at hj
      rw [Nat.zero_add]
      exact k2 (j + 1) a b hj
  · cases hp : o.2.1 with
    | none => rw [hp] at h; cases h
    | some P =>
      cases hq : u.2.1 with
      | none => rw [hp, hq] at h; cases h
      | some Q =>
        rw [hp, hq] at h
        rw [hp] at f3
        rw [hq] at k3
        obtain ⟨z, g1, g2⟩ := f3
        obtain ⟨w, g3, g4⟩ := k3
        have a1 : x.toInt = z := g1.2
        have a2 : y.toInt = w := g3.2
        apply Int32.toInt_inj.mp
        rw [a1, a2]
        have h : s_same0 P Q = true := h
        unfold s_same0 at h
        simp only [Bool.or_eq_true, Bool.and_eq_true, i_beq_iff, Bool.not_eq_true'] at h
        rcases h with ⟨⟨⟨⟨q1, q2⟩, q3⟩, q4⟩, q5⟩ | ⟨⟨⟨q1, q2⟩, q3⟩, q4⟩
        · rw [if_neg (fun e => by rw [e] at q1; cases q1)] at g2
          rw [if_neg (fun e => by rw [e] at q2; cases q2)] at g4
          omega
        · rw [if_pos (s_beq q1)] at g2
          rw [if_pos (s_beq q2)] at g4
          have q3 := s_beq q3
          have q4 := s_blt q4
          rw [g2.2, g4.2, ← q3]
          obtain ⟨j, hj⟩ : ∃ j, P.2.2.1 = j + 1 := ⟨P.2.2.1 - 1, by omega⟩
          rw [hj]

/-! THE PAST -/
/-- the Past at p knows n rows -/
def a_pr (H : a_P) (p n : Int) (A : Int → Int → Int) : Prop := H p 2 = n ∧ (0 ≤ n ∧ n ≤ 8) ∧ (0 ≤ H p 1 ∧ H p 1 ≤ 7) ∧ ∀ j, 0 ≤ j → j < n → a_sm H (p + 2 + 6 * ((H p 1 + j) % 8)) (A j) ∧ a_ok 9999 (A j)
theorem a_pr_fr {H H' : a_P} {p n : Int} {A : Int → Int → Int} (h : a_pr H p n A) (hf : ∀ a b, (a = p ∨ (p + 2 ≤ a ∧ a ≤ p + 49)) → H' a b = H a b) : a_pr H' p n A := by
  obtain ⟨g1, g2, g3, g4⟩ := h
  have e1 := hf p 1 (Or.inl rfl)
  refine ⟨(hf p 2 (Or.inl rfl)).trans g1, g2, by rw [e1]; exact g3, fun j h0 h1 => ?_⟩
  rw [e1]
  exact ⟨a_sm_fr (g4 j h0 h1).1 (fun a b q1 q2 => hf a b (Or.inr (by omega))), (g4 j h0 h1).2⟩
theorem a_pr_e {H : a_P} {p n : Int} {A A' : Int → Int → Int} (h : a_pr H p n A) (he : ∀ j, 0 ≤ j → j < n → ∀ b, 0 ≤ b → b < 47 → A' j b = A j b) : a_pr H p n A' := by
  obtain ⟨g1, g2, g3, g4⟩ := h
  exact ⟨g1, g2, g3, fun j h0 h1 => ⟨a_sm_e (g4 j h0 h1).1 (g4 j h0 h1).2.1.2 (he j h0 h1), a_ok_e (g4 j h0 h1).2 (he j h0 h1)⟩⟩
/-- what is known behind one more -/
def a_kn (n : Int) : Int := if n < 8 then n + 1 else 8
def a_ka (n : Int) (A : Int → Int → Int) (w : Int → Int) : Int → Int → Int := fun j => if n < 8 then (if j = n then w else A j) else (if j = 7 then w else A (j + 1))
theorem fl_keep {H : a_P} {n : Int} {A : Int → Int → Int} {w : Int → Int} (hp : a_pr H 13 n A) (hs : a_sm H 1 w) (ho : a_ok 9999 w) : a_pr (fn_1 13 1 H) 13 (a_kn n) (a_ka n A w) := by
  obtain ⟨g1, g2, g3, g4⟩ := hp
  simp only [fn_1, a_bd, a_jn]
  rw [g1, a_rem8 g3.1 g3.2 g2.1 g2.2]
  have hr : 0 ≤ (H 13 1 + n) % 8 ∧ (H 13 1 + n) % 8 ≤ 7 := by omega
  generalize hrr : (H 13 1 + n) % 8 = r at hr
  have hf := fr_10 (13 + 1 + (1 + 6 * r)) 1 H
  have hl : a_sm (fn_10 (13 + 1 + (1 + 6 * r)) 1 H) (13 + 1 + (1 + 6 * r)) w := fl_like hs ho.1.2 (by omega)
  generalize fn_10 (13 + 1 + (1 + 6 * r)) 1 H = X at hf hl
  have e1 : ∀ b, X 13 b = H 13 b := fun b => hf 13 b (by unfold w_10; omega)
  have old : ∀ j, 0 ≤ j → j < n → ¬ (H 13 1 + j) % 8 = r → a_sm X (13 + 2 + 6 * ((H 13 1 + j) % 8)) (A j) := fun j h0 h1 hne => by
    have hx : 0 ≤ (H 13 1 + j) % 8 ∧ (H 13 1 + j) % 8 ≤ 7 := by omega
    refine a_sm_fr (g4 j h0 h1).1 (fun a b q1 q2 => hf a b ?_)
    generalize (H 13 1 + j) % 8 = x at hx hne q1 q2
    unfold w_10
    omega
  have hl' : ∀ x, x = r → a_sm X (13 + 2 + 6 * x) w := fun x hx => by
    rw [hx, show 13 + 2 + 6 * r = 13 + 1 + (1 + 6 * r) by omega]
    exact hl
  rw [e1 2, e1 1, g1]
  by_cases c : n < 8
  · rw [if_pos c, a_w_id (by omega) (by omega)]
    have ek : a_kn n = n + 1 := if_pos c
    have eo : a_up X 13 2 (n + 1) 13 1 = H 13 1 := by rw [a_up_ne (by omega), e1]
    refine ⟨by rw [a_up_eq, ek], by omega, by rw [eo]; exact g3, fun j h0 h1 => ?_⟩
    rw [eo]
    have ea : a_ka n A w j = if j = n then w else A j := if_pos c
    rw [ea]
    by_cases cj : j = n
    · rw [if_pos cj]
      exact ⟨a_sm_fr (hl' _ (by rw [cj]; exact hrr)) (fun a b q1 q2 => a_up_ne (by omega)), ho⟩
    · rw [if_neg cj]
      exact ⟨a_sm_fr (old j h0 (by omega) (by omega)) (fun a b q1 q2 => a_up_ne (by omega)), (g4 j h0 (by omega)).2⟩
  · rw [if_neg c, a_w_id (by omega) (by omega), a_rem_id (by omega) (by omega) (by decide)]
    have ek : a_kn n = 8 := if_neg c
    have eo : a_up X 13 1 ((H 13 1 + 1) % 8) 13 1 = (H 13 1 + 1) % 8 := a_up_eq
    refine ⟨by rw [a_up_ne (by omega), e1, ek]; omega, by omega, by rw [eo]; omega, fun j h0 h1 => ?_⟩
    rw [eo]
    have ea : a_ka n A w j = if j = 7 then w else A (j + 1) := if_neg c
    rw [ea]
    by_cases cj : j = 7
    · rw [if_pos cj]
      exact ⟨a_sm_fr (hl' _ (by omega)) (fun a b q1 q2 => a_up_ne (by omega)), ho⟩
    · rw [if_neg cj]
      have em : ((H 13 1 + 1) % 8 + j) % 8 = (H 13 1 + (j + 1)) % 8 := by omega
      rw [em]
      exact ⟨a_sm_fr (old (j + 1) (by omega) (by omega) (by omega)) (fun a b q1 q2 => a_up_ne (by omega)), (g4 (j + 1) (by omega) (by omega)).2⟩
def a_Qnt (u : Int) (B w : Int → Int) (r : a_P) : Prop := r 133 7 = u + 1 ∧ ∀ x, 0 ≤ x → x < 47 * u + 47 → r 137 x = if x < 47 * u then B x else w (x - 47 * u)
theorem fl_notes0 {G : a_P} {u : Int} {B : Int → Int} (hu0 : 0 ≤ u) (hu7 : u ≤ 7) (hb : (G 133 7 = 8 ∧ u = 7 ∧ ∀ x, B x = G 137 (x + 47)) ∨ (G 133 7 = u ∧ ∀ x, B x = G 137 x)) : a_Qnt u B (G 134) (fn_142 G) := by
  unfold fn_142
  refine a_fjn (fun s1 : a_P => s1 133 7 = u ∧ (∀ b, s1 134 b = G 134 b) ∧ ∀ x, 0 ≤ x → x < 47 * u → s1 137 x = B x) (fun s1 h1 => ?_) (fun j hj => ?_)
  · obtain ⟨f1, f2, f3⟩ := h1
    refine a_fjn (fun s2 : a_P => s2 133 7 = u ∧ ∀ x, 0 ≤ x → x < 47 * u + 47 → s2 137 x = if x < 47 * u then B x else G 134 (x - 47 * u)) (fun s2 h2 => ?_) (fun j hj => ?_)
    · refine ⟨?_, fun x g0 g1 => ?_⟩
      · show a_up s2 133 7 (a_w (s2 133 7 + 1)) 133 7 = u + 1
        rw [a_up_eq, h2.1, a_w_id (by omega) (by omega)]
      · show a_up s2 133 7 (a_w (s2 133 7 + 1)) 137 x = _
        rw [a_up_ne (by omega)]
        exact h2.2 x g0 g1
    · refine a_lp_up (Q := a_Qnt u B (G 134)) (fun k s => s.1 = (k : Int) ∧ s.2 133 7 = u ∧ (∀ b, s.2 134 b = G 134 b) ∧ ∀ x, 0 ≤ x → x < 47 * u + (k : Int) → s.2 137 x = if x < 47 * u then B x else G 134 (x - 47 * u)) 47 (by omega) (fun k s hk hss nx hn => ?_) (fun s hss nx => ?_) (0, s1) ⟨rfl, f1, f2, fun x g0 g1 => by rw [if_pos (by omega)]; exact f3 x g0 (by omega)⟩
      · obtain ⟨q1, q2, q3, q4⟩ := hss
        rw [if_pos (by rw [q1]; omega)]
        have ea : a_w (a_w (47 * s.2 133 7) + s.1) = 47 * u + (k : Int) := by rw [q1, q2, a_w_id (x := 47 * u) (by omega) (by omega), a_w_id (by omega) (by omega)]
        refine hn _ ⟨?_, ?_, ?_, ?_⟩
        · show a_w (s.1 + 1) = _
          rw [q1, a_w_id (by omega) (by omega)]
          omega
        · show a_up s.2 137 (a_w (a_w (47 * s.2 133 7) + s.1)) (s.2 134 s.1) 133 7 = u
          rw [a_up_ne (by omega)]
          exact q2
        · intro b
          show a_up s.2 137 (a_w (a_w (47 * s.2 133 7) + s.1)) (s.2 134 s.1) 134 b = _
          rw [a_up_ne (by omega)]
          exact q3 b
        · intro x g0 g1
          show a_up s.2 137 (a_w (a_w (47 * s.2 133 7) + s.1)) (s.2 134 s.1) 137 x = _
          rw [ea]
          by_cases c : x = 47 * u + (k : Int)
          · rw [c, a_up_eq, if_neg (by omega), q3, q1, show 47 * u + (k : Int) - 47 * u = (k : Int) by omega]
          · rw [a_up_ne (by omega)]
            exact q4 x g0 (by omega)
      · rw [if_neg (by rw [hss.1]; omega)]
        exact hj _ ⟨hss.2.1, fun x g0 g1 => hss.2.2.2 x g0 (by omega)⟩
  · rcases hb with ⟨h8, hu, hB⟩ | ⟨hu, hB⟩
    · rw [if_pos h8]
      refine a_fjn (fun s4 : a_P => (∀ b, s4 134 b = G 134 b) ∧ ∀ x, 0 ≤ x → x < 329 → s4 137 x = G 137 (x + 47)) (fun s4 h4 => ?_) (fun j2 hj2 => ?_)
      · refine hj _ ⟨?_, ?_, ?_⟩
        · show a_up s4 133 7 7 133 7 = u
          rw [a_up_eq, hu]
        · intro b
          show a_up s4 133 7 7 134 b = _
          rw [a_up_ne (by omega)]
          exact h4.1 b
        · intro x g0 g1
          show a_up s4 133 7 7 137 x = _
          rw [a_up_ne (by omega), hB]
          exact h4.2 x g0 (by omega)
      · refine a_lp_up (Q := a_Qnt u B (G 134)) (fun k s => s.1 = 47 + (k : Int) ∧ (∀ b, s.2 134 b = G 134 b) ∧ (∀ x, 0 ≤ x → x < (k : Int) → s.2 137 x = G 137 (x + 47)) ∧ ∀ x, (k : Int) ≤ x → s.2 137 x = G 137 x) 329 (by omega) (fun k s hk hss nx hn => ?_) (fun s hss nx => ?_) (47, G) ⟨by show (47 : Int) = 47 + ((0 : Nat) : Int); omega, fun b => rfl, fun x g0 g1 => absurd g1 (by omega), fun x _ => rfl⟩
        · obtain ⟨q1, q2, q3, q4⟩ := hss
          rw [if_pos (by rw [q1]; omega)]
          have ea : a_w (s.1 - 47) = (k : Int) := by rw [q1, a_w_id (by omega) (by omega)]; omega
          refine hn _ ⟨?_, ?_, ?_, ?_⟩
          · show a_w (s.1 + 1) = _
            rw [q1, a_w_id (by omega) (by omega)]
            omega
          · intro b
            show a_up s.2 137 (a_w (s.1 - 47)) (s.2 137 s.1) 134 b = _
            rw [a_up_ne (by omega)]
            exact q2 b
          · intro x g0 g1
            show a_up s.2 137 (a_w (s.1 - 47)) (s.2 137 s.1) 137 x = _
            rw [ea]
            by_cases c : x = (k : Int)
            · rw [c, a_up_eq, q1, q4 _ (by omega), Int.add_comm]
            · rw [a_up_ne (by omega)]
              exact q3 x g0 (by omega)
          · intro x g0
            show a_up s.2 137 (a_w (s.1 - 47)) (s.2 137 s.1) 137 x = _
            rw [ea, a_up_ne (by omega)]
            exact q4 x (by omega)
        · rw [if_neg (by rw [hss.1]; omega)]
          exact hj2 _ ⟨hss.2.1, fun x g0 g1 => hss.2.2.1 x g0 (by omega)⟩
    · rw [if_neg (by omega)]
      exact hj _ ⟨hu, fun b => rfl, fun x g0 g1 => (hB x).symm⟩
/-- the rows that the reference knows -/
def a_mr (G : a_P) (c : Int) : Int → Int → Int := fun j b => G c (47 * j + b)
theorem fl_notes {G : a_P} (h0 : 0 ≤ G 133 7) (h8 : G 133 7 ≤ 8) : fn_142 G 133 7 = a_kn (G 133 7) ∧ ∀ j, 0 ≤ j → j < a_kn (G 133 7) → ∀ b, 0 ≤ b → b < 47 → a_mr (fn_142 G) 137 j b = a_ka (G 133 7) (a_mr G 137) (G 134) j b := by
  by_cases c : G 133 7 < 8
  · obtain ⟨h1, h2⟩ := fl_notes0 (u := G 133 7) (B := G 137) h0 (by omega) (Or.inr ⟨rfl, fun x => rfl⟩)
    have ek : a_kn (G 133 7) = G 133 7 + 1 := if_pos c
    rw [ek]
    refine ⟨h1, fun j g0 g1 b g2 g3 => ?_⟩
    have ea : a_ka (G 133 7) (a_mr G 137) (G 134) j = if j = G 133 7 then G 134 else a_mr G 137 j := if_pos c
    rw [ea]
    show fn_142 G 137 (47 * j + b) = _
    rw [h2 _ (by omega) (by omega)]
    by_cases cj : j = G 133 7
    · rw [if_pos cj, if_neg (by omega), cj, show 47 * G 133 7 + b - 47 * G 133 7 = b by omega]
    · rw [if_neg cj, if_pos (by omega)]
      rfl
  · obtain ⟨h1, h2⟩ := fl_notes0 (G := G) (u := 7) (B := fun x => G 137 (x + 47)) (by omega) (by omega) (Or.inl ⟨by omega, rfl, fun x => rfl⟩)
    have ek : a_kn (G 133 7) = 8 := if_neg c
    rw [ek]
    refine ⟨h1, fun j g0 g1 b g2 g3 => ?_⟩
    have ea : a_ka (G 133 7) (a_mr G 137) (G 134) j = if j = 7 then G 134 else a_mr G 137 (j + 1) := if_neg c
    rw [ea]
    show fn_142 G 137 (47 * j + b) = _
    rw [h2 _ (by omega) (by omega)]
    by_cases cj : j = 7
    · rw [if_pos cj, if_neg (by omega), cj, show 47 * 7 + b - 47 * 7 = b by omega]
    · rw [if_neg cj, if_pos (by omega)]
      show G 137 (47 * j + b + 47) = G 137 (47 * (j + 1) + b)
      rw [show 47 * j + b + 47 = 47 * (j + 1) + b by omega]
theorem fl_give {H : a_P} {n : Int} {A : Int → Int → Int} (hp : a_pr H 13 n A) (h0 : 0 < n) : ∃ X, fn_2 13 1 H = (1, X) ∧ a_sm X 1 (A (n - 1)) ∧ a_pr X 13 (n - 1) A ∧ X 13 2 = n - 1 := by
  obtain ⟨g1, g2, g3, g4⟩ := hp
  have e1 : a_up H 13 2 (n - 1) 13 1 = H 13 1 := a_up_ne (by omega)
  have e2 : a_up H 13 2 (n - 1) 13 2 = n - 1 := a_up_eq
  refine ⟨fn_10 1 (13 + 1 + (1 + 6 * ((H 13 1 + (n - 1)) % 8))) (a_up H 13 2 (n - 1)), ?_, ?_, ?_, ?_⟩
  · simp only [fn_2, a_bd]
    rw [g1, if_pos h0, a_w_id (x := n - 1) (by omega) (by omega), e1, e2, a_rem8 g3.1 g3.2 (by omega) (by omega)]
  · have hx : 0 ≤ (H 13 1 + (n - 1)) % 8 ∧ (H 13 1 + (n - 1)) % 8 ≤ 7 := by omega
    have ok := g4 (n - 1) (by omega) (by omega)
    generalize (H 13 1 + (n - 1)) % 8 = x at hx ok
    refine fl_like ?_ ok.2.1.2 (by omega)
    rw [show 13 + 1 + (1 + 6 * x) = 13 + 2 + 6 * x by omega]
    exact a_sm_fr ok.1 (fun a b q1 q2 => a_up_ne (by omega))
  · have hf := fr_10 1 (13 + 1 + (1 + 6 * ((H 13 1 + (n - 1)) % 8))) (a_up H 13 2 (n - 1))
    have e3 : fn_10 1 (13 + 1 + (1 + 6 * ((H 13 1 + (n - 1)) % 8))) (a_up H 13 2 (n - 1)) 13 1 = H 13 1 := (hf 13 1 (by unfold w_10; omega)).trans e1
    refine ⟨(hf 13 2 (by unfold w_10; omega)).trans e2, by omega, by rw [e3]; exact g3, fun j q0 q1 => ?_⟩
    rw [e3]
    refine ⟨a_sm_fr (g4 j q0 (by omega)).1 (fun a b r1 r2 => ?_), (g4 j q0 (by omega)).2⟩
    rw [hf a b (by unfold w_10; omega), a_up_ne (by omega)]
  · exact (fr_10 1 _ _ 13 2 (by unfold w_10; omega)).trans e2
def a_Qu (n : Int) (G : a_P) (r : a_F) : Prop := r.1 = n ∧ r.2 133 7 = n ∧ ∀ b, 0 ≤ b → b < 47 → r.2 134 b = G 137 (47 * n + b)
theorem fl_mundo {G : a_P} (h0 : 0 < G 133 7) (h8 : G 133 7 ≤ 8) : a_Qu (G 133 7 - 1) G (fn_151 G) := by
  simp only [fn_151, a_bd]
  rw [if_neg (by omega), a_w_id (x := G 133 7 - 1) (by omega) (by omega)]
  have y1 : a_up G 133 7 (G 133 7 - 1) 133 7 = G 133 7 - 1 := a_up_eq
  have y2 : ∀ x, a_up G 133 7 (G 133 7 - 1) 137 x = G 137 x := fun x => a_up_ne (by omega)
  refine a_lp_up (Q := a_Qu (G 133 7 - 1) G) (fun k s => s.1 = (k : Int) ∧ s.2 133 7 = G 133 7 - 1 ∧ (∀ x, s.2 137 x = G 137 x) ∧ ∀ b, 0 ≤ b → b < (k : Int) → s.2 134 b = G 137 (47 * (G 133 7 - 1) + b)) 47 (by omega) (fun k s hk hss nx hn => ?_) (fun s hss nx => ?_) (0, a_up G 133 7 (G 133 7 - 1)) ⟨rfl, y1, y2, fun b g0 g1 => absurd g1 (by omega)⟩
  · obtain ⟨q1, q2, q3, q4⟩ := hss
    rw [if_pos (by rw [q1]; omega)]
    have ea : a_w (a_w (47 * s.2 133 7) + s.1) = 47 * (G 133 7 - 1) + (k : Int) := by rw [q1, q2, a_w_id (x := 47 * (G 133 7 - 1)) (by omega) (by omega), a_w_id (by omega) (by omega)]
    refine hn _ ⟨?_, ?_, ?_, ?_⟩
    · show a_w (s.1 + 1) = _
      rw [q1, a_w_id (by omega) (by omega)]
      omega
    · show a_up s.2 134 s.1 (s.2 137 (a_w (a_w (47 * s.2 133 7) + s.1))) 133 7 = _
      rw [a_up_ne (by omega)]
      exact q2
    · intro x
      show a_up s.2 134 s.1 (s.2 137 (a_w (a_w (47 * s.2 133 7) + s.1))) 137 x = _
      rw [a_up_ne (by omega)]
      exact q3 x
    · intro b g0 g1
      show a_up s.2 134 s.1 (s.2 137 (a_w (a_w (47 * s.2 133 7) + s.1))) 134 b = _
      rw [ea]
      by_cases c : b = (k : Int)
      · rw [c, q1, a_up_eq, q3]
      · rw [a_up_ne (by omega)]
        exact q4 b g0 (by omega)
  · rw [if_neg (by rw [hss.1]; omega)]
    exact ⟨hss.2.1, hss.2.1, fun b g0 g1 => hss.2.2.2 b g0 (by omega)⟩
theorem fl_plike {H : a_P} {p q n : Int} {A : Int → Int → Int} (hp : a_pr H q n A) (hd : p + 50 ≤ q ∨ q + 50 ≤ p) : a_pr (fn_4 p q H) p n A := by
  obtain ⟨g1, g2, g3, g4⟩ := hp
  simp only [fn_4, a_bd]
  have y1 : a_up (a_up H p 1 (H q 1)) p 2 (a_up H p 1 (H q 1) q 2) p 1 = H q 1 := by rw [a_up_ne (by omega), a_up_eq]
  have y2 : a_up (a_up H p 1 (H q 1)) p 2 (a_up H p 1 (H q 1) q 2) p 2 = n := by rw [a_up_eq, a_up_ne (by omega), g1]
  have y3 : ∀ a b, ¬ a = p → a_up (a_up H p 1 (H q 1)) p 2 (a_up H p 1 (H q 1) q 2) a b = H a b := fun a b h => by rw [a_up_ne (by omega), a_up_ne (by omega)]
  generalize a_up (a_up H p 1 (H q 1)) p 2 (a_up H p 1 (H q 1) q 2) = Y at y1 y2 y3
  refine a_lp_up (Q := fun X : a_P => a_pr X p n A) (fun k s => s.1 = (k : Int) ∧ (∀ a b, ¬ (p + 2 ≤ a ∧ a ≤ p + 49) → s.2 a b = Y a b) ∧ ∀ r, 0 ≤ r → r < (k : Int) → ∀ w : Int → Int, w 0 ≤ 8 → a_sm H (q + 2 + 6 * r) w → a_sm s.2 (p + 2 + 6 * r) w) 8 (by omega) (fun k s hk hss nx hn => ?_) (fun s hss nx => ?_) (0, Y) ⟨rfl, fun a b _ => rfl, fun r h0 h1 => absurd h1 (by omega)⟩
  · obtain ⟨q1, q2, q3⟩ := hss
    rw [if_pos (by rw [q1]; omega)]
    have hf := fr_10 (p + 1 + (1 + 6 * s.1)) (q + 1 + (1 + 6 * s.1)) s.2
    refine hn _ ⟨?_, ?_, ?_⟩
    · show a_w (s.1 + 1) = _
      rw [q1, a_w_id (by omega) (by omega)]
      omega
    · intro a b hb
      show fn_10 (p + 1 + (1 + 6 * s.1)) (q + 1 + (1 + 6 * s.1)) s.2 a b = Y a b
      rw [hf a b (by unfold w_10; omega)]
      exact q2 a b hb
    · intro r h0 h1 w hw hs
      show a_sm (fn_10 (p + 1 + (1 + 6 * s.1)) (q + 1 + (1 + 6 * s.1)) s.2) (p + 2 + 6 * r) w
      by_cases c : r = (k : Int)
      · have hs2 : a_sm s.2 (q + 1 + (1 + 6 * s.1)) w := by
          rw [q1, show q + 1 + (1 + 6 * (k : Int)) = q + 2 + 6 * r by omega]
          exact a_sm_fr hs (fun a b r1 r2 => by rw [q2 a b (by omega), y3 a b (by omega)])
        have e : p + 2 + 6 * r = p + 1 + (1 + 6 * s.1) := by omega
        rw [e]
        exact fl_like hs2 hw (by omega)
      · exact a_sm_fr (q3 r h0 (by omega) w hw hs) (fun a b r1 r2 => hf a b (by unfold w_10; omega))
  · rw [if_neg (by rw [hss.1]; omega)]
    obtain ⟨q1, q2, q3⟩ := hss
    have z1 : s.2 p 1 = H q 1 := (q2 p 1 (by omega)).trans y1
    have z2 : s.2 p 2 = n := (q2 p 2 (by omega)).trans y2
    refine ⟨z2, g2, by rw [z1]; exact g3, fun j h0 h1 => ?_⟩
    rw [z1]
    have ok := g4 j h0 h1
    exact ⟨q3 _ (by omega) (by omega) (A j) ok.2.1.2 ok.1, ok.2⟩

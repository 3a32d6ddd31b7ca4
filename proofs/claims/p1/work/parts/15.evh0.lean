/-! a long loop, turn by turn: from the loop's head with i turns done to its head with i + 1 -/
noncomputable def q_stepsS (S : q_K q_IV p_H) (ins : Nat → Option q_MI) (calA : Nat → List q_IV → p_H → Option (q_R q_IV p_H)) (fr n : Nat) : q_K q_IV p_H :=
  Nat.rec (motive := fun _ => q_K q_IV p_H) (fun _ _ _ _ => none) (fun _ ih pc lo st ph => match S pc lo st ph with
    | some r => some r
    | none => q_ob (ins pc) fun mi => q_step q_IO calA fr mi lo st ph ih) n
theorem r_step1 {k fr : Nat} {cal : Nat → List Value → q_H → Option (q_R Value q_H)} {calA : Nat → List q_IV → p_H → Option (q_R q_IV p_H)} {KC : q_K Value q_H} {KA : q_K q_IV p_H} (hk : k < q_nm) (hc : ∀ x as asA hp ph rA, calA x asA ph = some rA → x < q_nm → r_l as asA → r_h hp ph → ∃ r, cal x as hp = some r ∧ r_r r rA) (ih : r_K KC KA) {pc : Nat} {lo : List (Option Value)} {st : List Value} {hp : q_H} {loA : List (Option q_IV)} {stA : List q_IV} {ph : p_H} {rA : q_R q_IV p_H} (h : (q_ob ((q_I k).2 pc) fun mi => q_step q_IO calA fr mi loA stA ph KA) = some rA) (ho : r_o lo loA) (hs : r_l st stA) (hh : r_h hp ph) : ∃ r, (q_ob ((q_I k).2 pc) fun mi => q_step q_CO cal fr mi lo st hp KC) = some r ∧ r_r r rA := by
  obtain ⟨mi, hmi, h⟩ := q_ob_some h
  rw [q_obs hmi]
  have hck := q_ins hk hmi
  obtain ⟨op, v, c, x, y, nx, tb⟩ := mi
  have hck : (decide (decode (q_mc k) pc = .ok (q_in pc op v c x nx tb)) && decide (nx = pc + (q_in pc op v c x nx tb).2) && q_ex k op v c x y tb && q_im op c) = true := hck
  rw [Bool.and_eq_true, Bool.and_eq_true] at hck
  obtain ⟨⟨-, hx⟩, him⟩ := hck
  rcases q_cases25 op with rfl | rfl | rfl | rfl | rfl | rfl | rfl | rfl | rfl | rfl | rfl | rfl | rfl | rfl | rfl | rfl | rfl | rfl | rfl | rfl | rfl | rfl | rfl | rfl | rfl | ⟨w, rfl⟩
  · exact s_0 (fr := fr) (v := v) (c := c) (x := x) (y := y) (nx := nx) (tb := tb) (cal := cal) (calA := calA) h ih ho hs hh
  · exact s_1 (fr := fr) (v := v) (c := c) (x := x) (y := y) (nx := nx) (tb := tb) (cal := cal) (calA := calA) h ih ho hs hh
  · exact s_2 (fr := fr) (v := v) (c := c) (x := x) (y := y) (nx := nx) (tb := tb) (cal := cal) (calA := calA) h ih ho hs hh him
  · exact s_3 (fr := fr) (v := v) (c := c) (x := x) (y := y) (nx := nx) (tb := tb) (cal := cal) (calA := calA) h ih ho hs hh (fun as asA hp ph rA q1 q2 q3 => hc x as asA hp ph rA q1 (q_ex3 hx) q2 q3)
  · exact s_4 (fr := fr) (v := v) (c := c) (x := x) (y := y) (nx := nx) (tb := tb) (cal := cal) (calA := calA) (lo := lo) (loA := loA) (KC := KC) (KA := KA) h hs hh
  · exact s_5 (fr := fr) (v := v) (c := c) (x := x) (y := y) (nx := nx) (tb := tb) (cal := cal) (calA := calA) h ih ho hs hh
  · exact s_6 (fr := fr) (v := v) (c := c) (x := x) (y := y) (nx := nx) (tb := tb) (cal := cal) (calA := calA) h ih ho hs hh
  · exact s_7 (fr := fr) (v := v) (c := c) (x := x) (y := y) (nx := nx) (tb := tb) (cal := cal) (calA := calA) h ih ho hs hh
  · exact s_8 (fr := fr) (v := v) (c := c) (x := x) (y := y) (nx := nx) (tb := tb) (cal := cal) (calA := calA) h ih ho hs hh (of_decide_eq_true hx)
  · exact s_9 (fr := fr) (v := v) (c := c) (x := x) (y := y) (nx := nx) (tb := tb) (cal := cal) (calA := calA) h ih ho hs hh (of_decide_eq_true hx)
  · exact s_10 (fr := fr) (v := v) (c := c) (x := x) (y := y) (nx := nx) (tb := tb) (cal := cal) (calA := calA) h ih ho hs hh
  · exact s_11 (fr := fr) (v := v) (c := c) (x := x) (y := y) (nx := nx) (tb := tb) (cal := cal) (calA := calA) h ih ho hs hh
  · exact s_12 (fr := fr) (v := v) (c := c) (x := x) (y := y) (nx := nx) (tb := tb) (cal := cal) (calA := calA) h ih ho hs hh
  · exact s_13 (fr := fr) (v := v) (c := c) (x := x) (y := y) (nx := nx) (tb := tb) (cal := cal) (calA := calA) h ih ho hs hh him
  · exact s_14 (fr := fr) (v := v) (c := c) (x := x) (y := y) (nx := nx) (tb := tb) (cal := cal) (calA := calA) h ih ho hs hh
  · exact s_15 (fr := fr) (v := v) (c := c) (x := x) (y := y) (nx := nx) (tb := tb) (cal := cal) (calA := calA) h ih ho hs hh him
  · exact s_16 (fr := fr) (v := v) (c := c) (x := x) (y := y) (nx := nx) (tb := tb) (cal := cal) (calA := calA) h ih ho hs hh
  · exact s_17 (fr := fr) (v := v) (c := c) (x := x) (y := y) (nx := nx) (tb := tb) (cal := cal) (calA := calA) h ih ho hs hh
  · exact s_18 (fr := fr) (v := v) (c := c) (x := x) (y := y) (nx := nx) (tb := tb) (cal := cal) (calA := calA) h ih ho hs hh
  · exact s_19 (fr := fr) (v := v) (c := c) (x := x) (y := y) (nx := nx) (tb := tb) (cal := cal) (calA := calA) h ih ho hs hh
  · exact s_20 (fr := fr) (v := v) (c := c) (x := x) (y := y) (nx := nx) (tb := tb) (cal := cal) (calA := calA) h ih ho hs hh
  · exact s_21 (fr := fr) (v := v) (c := c) (x := x) (y := y) (nx := nx) (tb := tb) (cal := cal) (calA := calA) h ih ho hs hh
  · exact s_22 (fr := fr) (v := v) (c := c) (x := x) (y := y) (nx := nx) (tb := tb) (cal := cal) (calA := calA) h ih ho hs hh
  · exact s_23 (fr := fr) (v := v) (c := c) (x := x) (y := y) (nx := nx) (tb := tb) (cal := cal) (calA := calA) h ih ho hs hh
  · exact s_24 (fr := fr) (v := v) (c := c) (x := x) (y := y) (nx := nx) (tb := tb) (cal := cal) (calA := calA) h ih ho hs hh
  · exact absurd hx Bool.false_ne_true
theorem r_stepsS {k fr F : Nat} {S : q_K q_IV p_H} {cal : Nat → List Value → q_H → Option (q_R Value q_H)} {calA : Nat → List q_IV → p_H → Option (q_R q_IV p_H)} (hk : k < q_nm) (hc : ∀ x as asA hp ph rA, calA x asA ph = some rA → x < q_nm → r_l as asA → r_h hp ph → ∃ r, cal x as hp = some r ∧ r_r r rA)
    (hS : ∀ nC, F ≤ nC → ∀ pc lo st hp loA stA ph rA, S pc loA stA ph = some rA → r_o lo loA → r_l st stA → r_h hp ph → ∃ r, q_steps q_CO (q_I k).2 cal fr nC pc lo st hp = some r ∧ r_r r rA) : ∀ (nA nC : Nat), nA + F ≤ nC → r_K (q_steps q_CO (q_I k).2 cal fr nC) (q_stepsS S (q_I k).2 calA fr nA) := by
  intro nA
  induction nA with
  | zero => intro nC _ pc lo st hp loA stA ph rA h; cases h
  | succ nA ih =>
    intro nC hn pc lo st hp loA stA ph rA h ho hs hh
    have h : (match S pc loA stA ph with
      | some r => some r
      | none => q_ob ((q_I k).2 pc) fun mi => q_step q_IO calA fr mi loA stA ph (q_stepsS S (q_I k).2 calA fr nA)) = some rA := h
    cases e : S pc loA stA ph with
    | some r0 =>
      rw [e] at h
      cases h
      exact hS nC (by omega) pc lo st hp loA stA ph _ e ho hs hh
    | none =>
      rw [e] at h
      obtain ⟨nC', rfl⟩ : ∃ n, nC = n + 1 := ⟨nC - 1, by omega⟩
      rw [q_steps_succ]
      exact r_step1 hk hc (ih nC' (by omega)) h ho hs hh
def h_R0 : q_R q_IV p_H := (some (0, 0, 0), [])
def h_veq : Option q_IV → Option q_IV → Bool
  | none, none => true
  | some (t, a, b), some (u, c, d) => Nat.beq t u && i_beq a c && i_beq b d
  | _, _ => false
def h_leq : List (Option q_IV) → List (Option q_IV) → Bool
  | [], [] => true
  | a :: l, b :: m => h_veq a b && h_leq l m
  | _, _ => false
def h_req : List p_C → List p_C → Bool
  | [], [] => true
  | (t, n, a, b) :: l, (u, m, c, d) :: r => Nat.beq t u && Nat.beq n m && p_eq a c && p_eq b d && h_req l r
  | _, _ => false
def h_heq : p_H → p_H → Bool
  | [], [] => true
  | a :: l, b :: m => h_req a b && h_heq l m
  | _, _ => false
theorem h_veq_ok : ∀ {a b : Option q_IV}, h_veq a b = true → a = b
  | none, none, _ => rfl
  | some (t, a, b), some (u, c, d), h => by
    simp only [h_veq, Bool.and_eq_true, i_beq_iff] at h
    obtain ⟨⟨h1, rfl⟩, rfl⟩ := h
    rw [Nat.eq_of_beq_eq_true h1]
  | none, some _, h => by cases h
  | some (_, _, _), none, h => by cases h
theorem h_leq_ok : ∀ {a b : List (Option q_IV)}, h_leq a b = true → a = b
  | [], [], _ => rfl
  | a :: l, b :: m, h => by
    rw [h_leq, Bool.and_eq_true] at h
    rw [h_veq_ok h.1, h_leq_ok h.2]
  | [], _ :: _, h => by cases h
  | _ :: _, [], h => by cases h
theorem h_req_ok : ∀ {a b : List p_C}, h_req a b = true → a = b
  | [], [], _ => rfl
  | (t, n, a, b) :: l, (u, m, c, d) :: r, h => by
    simp only [h_req, Bool.and_eq_true] at h
    obtain ⟨⟨⟨⟨h1, h2⟩, h3⟩, h4⟩, h5⟩ := h
    rw [Nat.eq_of_beq_eq_true h1, Nat.eq_of_beq_eq_true h2, p_eq_ok h3, p_eq_ok h4, h_req_ok h5]
  | [], _ :: _, h => by cases h
  | (_, _, _, _) :: _, [], h => by cases h
theorem h_heq_ok : ∀ {a b : p_H}, h_heq a b = true → a = b
  | [], [], _ => rfl
  | a :: l, b :: m, h => by
    rw [h_heq, Bool.and_eq_true] at h
    rw [h_req_ok h.1, h_heq_ok h.2]
  | [], _ :: _, h => by cases h
  | _ :: _, [], h => by cases h
def h_S (head : Nat) (lo : List (Option q_IV)) (ph : p_H) : q_K q_IV p_H := fun pc lo' st' ph' => bif Nat.beq pc head && q_nil st' && h_leq lo' lo && h_heq ph' ph then some h_R0 else none
noncomputable def h_cal : Nat → List q_IV → p_H → Option (q_R q_IV p_H) := q_run q_IO q_I 1000000 7
def h_is (r : Option (q_R q_IV p_H)) : Bool := match r with
  | some (some (0, a, b), _) => i_beq a 0 && i_beq b 0
  | _ => false
/-- from the loop's head in such a state the method answers 0 -/
def h_cl (k head F : Nat) (lo : List (Option q_IV)) (ph : p_H) : Prop := ∀ nC, F ≤ nC → ∀ (lo' : List (Option Value)) (hp : q_H), r_o lo' lo → r_h hp ph → ∃ r, q_steps q_CO (q_I k).2 (q_run q_CO q_I 1000000 7) 7 nC head lo' [] hp = some r ∧ r_r r h_R0
theorem h_fin {r : q_R Value q_H} {rA : q_R q_IV p_H} (h : h_is (some rA) = true) (hr : r_r r rA) : r_r r h_R0 := by
  obtain ⟨o, ph⟩ := rA
  unfold h_is at h
  split at h
  · rename_i a b ph' heq
    cases heq
    rw [Bool.and_eq_true, i_beq_iff, i_beq_iff] at h
    obtain ⟨rfl, rfl⟩ := h
    refine ⟨hr.1, hr.2.1, hr.2.2.1, fun x c hc => ?_⟩
    have hc : p_cell [] x = some c := hc
    rw [p_cell_eq, List.getElem?_nil] at hc
    cases hc
  · cases h
theorem h_exit {k head : Nat} {lo : List (Option q_IV)} {ph : p_H} (hk : k < q_nm) (h : h_is (q_stepsS (fun _ _ _ _ => none) (q_I k).2 h_cal 7 100 head lo [] ph) = true) : h_cl k head 100 lo ph := by
  intro nC hn lo' hp ho hh
  cases e : q_stepsS (fun _ _ _ _ => none) (q_I k).2 h_cal 7 100 head lo [] ph with
  | none => rw [e] at h; cases h
  | some rA =>
    rw [e] at h
    obtain ⟨r, h1, h2⟩ := r_stepsS (F := 0) (cal := q_run q_CO q_I 1000000 7) hk (fun x as asA hp ph rA q1 q2 q3 q4 => r_run 1000000 7 x as asA hp ph rA q1 q2 q3 q4) (fun _ _ _ _ _ _ _ _ _ _ q => by cases q) 100 nC hn head lo' [] hp lo [] ph rA e ho trivial hh
    exact ⟨r, h1, h_fin h h2⟩
theorem h_next {k head F st : Nat} {lo lo1 : List (Option q_IV)} {ph ph1 : p_H} (hk : k < q_nm) (hc : h_cl k head F lo1 ph1) (h : h_is (q_stepsS (h_S head lo1 ph1) (q_I k).2 h_cal 7 100 st lo [] ph) = true) {nC : Nat} (hn : F + 100 ≤ nC) {lo' : List (Option Value)} {hp : q_H} (ho : r_o lo' lo) (hh : r_h hp ph) : ∃ r, q_steps q_CO (q_I k).2 (q_run q_CO q_I 1000000 7) 7 nC st lo' [] hp = some r ∧ r_r r h_R0 := by
  cases e : q_stepsS (h_S head lo1 ph1) (q_I k).2 h_cal 7 100 st lo [] ph with
  | none => rw [e] at h; cases h
  | some rA =>
    rw [e] at h
    obtain ⟨r, h1, h2⟩ := r_stepsS (F := F) (cal := q_run q_CO q_I 1000000 7) hk (fun x as asA hp ph rA q1 q2 q3 q4 => r_run 1000000 7 x as asA hp ph rA q1 q2 q3 q4) (fun nC hF pc lo2 st2 hp2 loA stA phA rB q ho2 hs2 hh2 => by
      unfold h_S at q
      cases c : (Nat.beq pc head && q_nil stA && h_leq loA lo1 && h_heq phA ph1) with
      | false => rw [c] at q; cases q
      | true =>
        rw [c] at q
        cases q
        simp only [Bool.and_eq_true] at c
        obtain ⟨⟨⟨c1, c2⟩, c3⟩, c4⟩ := c
        have c1 := Nat.eq_of_beq_eq_true c1
        have c2 := q_nil_true c2
        have c3 := h_leq_ok c3
        have c4 := h_heq_ok c4
        subst c1 c2 c3 c4
        have := r_l_nil hs2
        subst this
        exact hc nC hF lo2 hp2 ho2 hh2) 100 nC (by omega) st lo' [] hp lo [] ph rA e ho trivial hh
    exact ⟨r, h1, h_fin h h2⟩
/-- one turn more: either this is the last, or there is another -/
theorem h_turn {k head F : Nat} {i : Int} {a : Option q_IV} {r r1 : List (Option q_IV)} {ph ph1 : p_H} (hk : k < q_nm) (hF : 100 ≤ F) (hc : h_cl k head F (a :: some (0, i + 1, 40) :: r1) ph1) (h1 : h_is (q_stepsS (fun _ _ _ _ => none) (q_I k).2 h_cal 7 100 head (a :: some (0, i, i) :: r) [] ph) = true) (h2 : h_is (q_stepsS (h_S head (a :: some (0, i + 1, 40) :: r1) ph1) (q_I k).2 h_cal 7 100 head (a :: some (0, i + 1, 40) :: r) [] ph) = true) : h_cl k head (F + 100) (a :: some (0, i, 40) :: r) ph := by
  intro nC hn lo' hp ho hh
  match lo', ho with
  | b :: some v :: l, ho =>
    obtain ⟨x, rfl, x1, x2⟩ := r_int (show r_v v (0, i, 40) from ho.2.1)
    by_cases c : x.toInt = i
    · exact h_exit hk h1 nC (by omega) _ hp ⟨ho.1, ⟨rfl, by show i ≤ x.toInt; omega, by show x.toInt ≤ i; omega⟩, ho.2.2⟩ hh
    · exact h_next hk hc h2 hn ⟨ho.1, ⟨rfl, by show i + 1 ≤ x.toInt; omega, x2⟩, ho.2.2⟩ hh
  | b :: none :: l, ho => cases ho.2.1
  | [_], ho => cases ho.2
  | [], ho => cases ho

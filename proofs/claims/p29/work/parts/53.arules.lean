def a_cc (v : Nat) (p q : Int) : Bool := match v with
  | 0 => decide (p = q)
  | 1 => !decide (p = q)
  | 2 => decide (p < q)
  | 3 => !decide (p < q)
  | 4 => decide (q < p)
  | 5 => !decide (q < p)
  | _ => false
theorem a_dec {p q : Prop} [Decidable p] [Decidable q] (h : p ↔ q) : decide p = decide q := decide_eq_decide.mpr h
theorem a_ndec {p q : Prop} [Decidable p] [Decidable q] (h : p ↔ ¬ q) : decide p = !decide q := by
  by_cases c : q
  · rw [decide_eq_true c, decide_eq_false (fun g => h.mp g c)]; rfl
  · rw [decide_eq_false c, decide_eq_true (h.mpr c)]; rfl
theorem a_cmp_ok {v : Nat} {a b : Value} {t : Bool} {p q : Int} (h : q_cmp v a b = some t) (ha : a_of a = (0, p)) (hb : a_of b = (0, q)) : t = a_cc v p q := by
  obtain ⟨x, rfl, rfl⟩ := a_of_int ha
  obtain ⟨y, rfl, rfl⟩ := a_of_int hb
  unfold q_cmp at h
  split at h
  all_goals try cases h
  all_goals rename_i e1 e2
  all_goals cases e1
  all_goals cases e2
  · exact a_dec Int32.toInt_inj.symm
  · exact a_ndec (not_congr Int32.toInt_inj.symm)
  · exact a_dec Int32.lt_iff_toInt_lt
  · exact a_ndec (by rw [Int32.le_iff_toInt_le]; omega)
  · exact a_dec Int32.lt_iff_toInt_lt
  · exact a_ndec (by rw [Int32.le_iff_toInt_le]; omega)
section a_rules3
variable {ρ : Type} {π : ρ → a_F} {kd k d N M pc x y nx v : Nat} {c : Int} {tb : List Nat} {lo lo' : List (Option a_V)} {st : List a_V} {H : a_P} {F A B : ρ} {a : a_V}
theorem a_w8 {p : Int} (hN : N ≤ M + 1) (hI : (q_I k).2 pc = some (8, v, c, x, y, nx, tb)) (h1 : a_cc v p 0 = true → a_wp π kd k d M x lo st H F) (h2 : a_cc v p 0 = false → a_wp π kd k d M nx lo st H F) : a_wp π kd k d N pc lo ((0, p) :: st) H F := by
  refine a_step hN hI fun n r cl cs hp hn hl hs hh hr => ?_
  obtain ⟨w, cs', rfl, e1, e2⟩ := a_map1 hs
  obtain ⟨-, hr⟩ := q_gd_some (show q_gd (Nat.beq (q_ty w) 0) (q_br q_CO (q_cmp v w (q_cst 0 0)) x nx cl cs' hp (q_steps q_CO (q_I k).2 (q_run q_CO q_I 1000000 d) d n)) = some r from hr)
  have e3 : a_of (q_cst 0 0) = (0, 0) := by rw [a_cst0]; rfl
  cases hb : q_cmp v w (q_cst 0 0) with
  | none =>
    rw [hb] at hr
    obtain ⟨r1, -, hr⟩ := q_ob_some hr
    obtain ⟨r2, -, hr⟩ := q_ob_some hr
    cases hr
  | some t =>
    have e4 := a_cmp_ok hb e1 e3
    rw [hb] at hr
    cases t with
    | true => exact h1 e4.symm n r cl cs' hp hn hl e2 hh hr
    | false => exact h2 e4.symm n r cl cs' hp hn hl e2 hh hr
theorem a_w9 {p q : Int} (hN : N ≤ M + 1) (hI : (q_I k).2 pc = some (9, v, c, x, y, nx, tb)) (h1 : a_cc v p q = true → a_wp π kd k d M x lo st H F) (h2 : a_cc v p q = false → a_wp π kd k d M nx lo st H F) : a_wp π kd k d N pc lo ((0, q) :: (0, p) :: st) H F := by
  refine a_step hN hI fun n r cl cs hp hn hl hs hh hr => ?_
  obtain ⟨w, cs', rfl, e1, e2⟩ := a_map1 hs
  obtain ⟨w2, cs', rfl, e3, e4⟩ := a_map1 e2
  obtain ⟨-, hr⟩ := q_gd_some (show q_gd (Nat.beq (q_ty w2) 0 && Nat.beq (q_ty w) 0) (q_br q_CO (q_cmp v w2 w) x nx cl cs' hp (q_steps q_CO (q_I k).2 (q_run q_CO q_I 1000000 d) d n)) = some r from hr)
  cases hb : q_cmp v w2 w with
  | none =>
    rw [hb] at hr
    obtain ⟨r1, -, hr⟩ := q_ob_some hr
    obtain ⟨r2, -, hr⟩ := q_ob_some hr
    cases hr
  | some t =>
    have e5 := a_cmp_ok hb e3 e1
    rw [hb] at hr
    cases t with
    | true => exact h1 e5.symm n r cl cs' hp hn hl e4 hh hr
    | false => exact h2 e5.symm n r cl cs' hp hn hl e4 hh hr
theorem a_cct {p q : Prop} [Decidable p] (h : decide p = true) (A B : ρ) : (if p then A else B) = A := if_pos (of_decide_eq_true h)
theorem a_ccf {p : Prop} [Decidable p] (h : decide p = false) (A B : ρ) : (if p then A else B) = B := if_neg (of_decide_eq_false h)
theorem a_w8_0 {p : Int} (hN : N ≤ M + 1) (hI : (q_I k).2 pc = some (8, 0, c, x, y, nx, tb)) (h1 : a_wp π kd k d M x lo st H A) (h2 : a_wp π kd k d M nx lo st H B) : a_wp π kd k d N pc lo ((0, p) :: st) H (if p = 0 then A else B) := by
  refine a_w8 hN hI (fun g => ?_) (fun g => ?_)
  · rw [if_pos (show p = 0 from of_decide_eq_true g)]
    exact h1
  · rw [if_neg (show ¬ (p = 0) from of_decide_eq_false g)]
    exact h2
theorem a_w8_1 {p : Int} (hN : N ≤ M + 1) (hI : (q_I k).2 pc = some (8, 1, c, x, y, nx, tb)) (h1 : a_wp π kd k d M x lo st H A) (h2 : a_wp π kd k d M nx lo st H B) : a_wp π kd k d N pc lo ((0, p) :: st) H (if p = 0 then B else A) := by
  refine a_w8 hN hI (fun g => ?_) (fun g => ?_)
  · rw [if_neg (show ¬ (p = 0) from of_decide_eq_false (by rw [← Bool.not_eq_true']; exact g))]
    exact h1
  · rw [if_pos (show p = 0 from of_decide_eq_true (by rw [← Bool.not_eq_false']; exact g))]
    exact h2
theorem a_w8_2 {p : Int} (hN : N ≤ M + 1) (hI : (q_I k).2 pc = some (8, 2, c, x, y, nx, tb)) (h1 : a_wp π kd k d M x lo st H A) (h2 : a_wp π kd k d M nx lo st H B) : a_wp π kd k d N pc lo ((0, p) :: st) H (if p < 0 then A else B) := by
  refine a_w8 hN hI (fun g => ?_) (fun g => ?_)
  · rw [if_pos (show p < 0 from of_decide_eq_true g)]
    exact h1
  · rw [if_neg (show ¬ (p < 0) from of_decide_eq_false g)]
    exact h2
theorem a_w8_3 {p : Int} (hN : N ≤ M + 1) (hI : (q_I k).2 pc = some (8, 3, c, x, y, nx, tb)) (h1 : a_wp π kd k d M x lo st H A) (h2 : a_wp π kd k d M nx lo st H B) : a_wp π kd k d N pc lo ((0, p) :: st) H (if p < 0 then B else A) := by
  refine a_w8 hN hI (fun g => ?_) (fun g => ?_)
  · rw [if_neg (show ¬ (p < 0) from of_decide_eq_false (by rw [← Bool.not_eq_true']; exact g))]
    exact h1
  · rw [if_pos (show p < 0 from of_decide_eq_true (by rw [← Bool.not_eq_false']; exact g))]
    exact h2
theorem a_w8_4 {p : Int} (hN : N ≤ M + 1) (hI : (q_I k).2 pc = some (8, 4, c, x, y, nx, tb)) (h1 : a_wp π kd k d M x lo st H A) (h2 : a_wp π kd k d M nx lo st H B) : a_wp π kd k d N pc lo ((0, p) :: st) H (if 0 < p then A else B) := by
  refine a_w8 hN hI (fun g => ?_) (fun g => ?_)
  · rw [if_pos (show 0 < p from of_decide_eq_true g)]
    exact h1
  · rw [if_neg (show ¬ (0 < p) from of_decide_eq_false g)]
    exact h2
theorem a_w8_5 {p : Int} (hN : N ≤ M + 1) (hI : (q_I k).2 pc = some (8, 5, c, x, y, nx, tb)) (h1 : a_wp π kd k d M x lo st H A) (h2 : a_wp π kd k d M nx lo st H B) : a_wp π kd k d N pc lo ((0, p) :: st) H (if 0 < p then B else A) := by
  refine a_w8 hN hI (fun g => ?_) (fun g => ?_)
  · rw [if_neg (show ¬ (0 < p) from of_decide_eq_false (by rw [← Bool.not_eq_true']; exact g))]
    exact h1
  · rw [if_pos (show 0 < p from of_decide_eq_true (by rw [← Bool.not_eq_false']; exact g))]
    exact h2
theorem a_w9_0 {p q : Int} (hN : N ≤ M + 1) (hI : (q_I k).2 pc = some (9, 0, c, x, y, nx, tb)) (h1 : a_wp π kd k d M x lo st H A) (h2 : a_wp π kd k d M nx lo st H B) : a_wp π kd k d N pc lo ((0, q) :: (0, p) :: st) H (if p = q then A else B) := by
  refine a_w9 hN hI (fun g => ?_) (fun g => ?_)
  · rw [if_pos (show p = q from of_decide_eq_true g)]
    exact h1
  · rw [if_neg (show ¬ (p = q) from of_decide_eq_false g)]
    exact h2
theorem a_w9_1 {p q : Int} (hN : N ≤ M + 1) (hI : (q_I k).2 pc = some (9, 1, c, x, y, nx, tb)) (h1 : a_wp π kd k d M x lo st H A) (h2 : a_wp π kd k d M nx lo st H B) : a_wp π kd k d N pc lo ((0, q) :: (0, p) :: st) H (if p = q then B else A) := by
  refine a_w9 hN hI (fun g => ?_) (fun g => ?_)
  · rw [if_neg (show ¬ (p = q) from of_decide_eq_false (by rw [← Bool.not_eq_true']; exact g))]
    exact h1
  · rw [if_pos (show p = q from of_decide_eq_true (by rw [← Bool.not_eq_false']; exact g))]
    exact h2
theorem a_w9_2 {p q : Int} (hN : N ≤ M + 1) (hI : (q_I k).2 pc = some (9, 2, c, x, y, nx, tb)) (h1 : a_wp π kd k d M x lo st H A) (h2 : a_wp π kd k d M nx lo st H B) : a_wp π kd k d N pc lo ((0, q) :: (0, p) :: st) H (if p < q then A else B) := by
  refine a_w9 hN hI (fun g => ?_) (fun g => ?_)
  · rw [if_pos (show p < q from of_decide_eq_true g)]
    exact h1
  · rw [if_neg (show ¬ (p < q) from of_decide_eq_false g)]
    exact h2
theorem a_w9_3 {p q : Int} (hN : N ≤ M + 1) (hI : (q_I k).2 pc = some (9, 3, c, x, y, nx, tb)) (h1 : a_wp π kd k d M x lo st H A) (h2 : a_wp π kd k d M nx lo st H B) : a_wp π kd k d N pc lo ((0, q) :: (0, p) :: st) H (if p < q then B else A) := by
  refine a_w9 hN hI (fun g => ?_) (fun g => ?_)
  · rw [if_neg (show ¬ (p < q) from of_decide_eq_false (by rw [← Bool.not_eq_true']; exact g))]
    exact h1
  · rw [if_pos (show p < q from of_decide_eq_true (by rw [← Bool.not_eq_false']; exact g))]
    exact h2
theorem a_w9_4 {p q : Int} (hN : N ≤ M + 1) (hI : (q_I k).2 pc = some (9, 4, c, x, y, nx, tb)) (h1 : a_wp π kd k d M x lo st H A) (h2 : a_wp π kd k d M nx lo st H B) : a_wp π kd k d N pc lo ((0, q) :: (0, p) :: st) H (if q < p then A else B) := by
  refine a_w9 hN hI (fun g => ?_) (fun g => ?_)
  · rw [if_pos (show q < p from of_decide_eq_true g)]
    exact h1
  · rw [if_neg (show ¬ (q < p) from of_decide_eq_false g)]
    exact h2
theorem a_w9_5 {p q : Int} (hN : N ≤ M + 1) (hI : (q_I k).2 pc = some (9, 5, c, x, y, nx, tb)) (h1 : a_wp π kd k d M x lo st H A) (h2 : a_wp π kd k d M nx lo st H B) : a_wp π kd k d N pc lo ((0, q) :: (0, p) :: st) H (if q < p then B else A) := by
  refine a_w9 hN hI (fun g => ?_) (fun g => ?_)
  · rw [if_neg (show ¬ (q < p) from of_decide_eq_false (by rw [← Bool.not_eq_true']; exact g))]
    exact h1
  · rw [if_pos (show q < p from of_decide_eq_true (by rw [← Bool.not_eq_false']; exact g))]
    exact h2
def a_sws {ρ : Type} (π : ρ → a_F) (kd k d M : Nat) (lo : List (Option a_V)) (st : List a_V) (H : a_P) : List Nat → List ρ → Prop
  | [], [] => True
  | t :: tb, A :: l => a_wp π kd k d M t lo st H A ∧ a_sws π kd k d M lo st H tb l
  | _, _ => False
theorem a_sw_d {p : Int} {D : ρ} : ∀ {l : List ρ} {c : Int}, (p < c ∨ c + l.length ≤ p) → a_sw p c D l = D
  | [], c, _ => rfl
  | A :: l, c, h => by
    rw [a_sw, if_neg (by rw [List.length_cons] at h; omega)]
    exact a_sw_d (by rw [List.length_cons] at h; omega)
theorem a_sw_i {p : Int} {D : ρ} : ∀ {l : List ρ} {c : Int} {j : Nat} {A : ρ}, l[j]? = some A → p = c + j → a_sw p c D l = A
  | A' :: l, c, 0, A, h, e => by
    cases h
    rw [a_sw, if_pos (by omega)]
  | A' :: l, c, j + 1, A, h, e => by
    rw [a_sw, if_neg (by omega)]
    exact a_sw_i (j := j) h (by omega)
  | [], c, j, A, h, e => by cases h
theorem a_sws_i : ∀ {tb : List Nat} {l : List ρ} {j t : Nat}, a_sws π kd k d M lo st H tb l → tb[j]? = some t → ∃ A, l[j]? = some A ∧ a_wp π kd k d M t lo st H A
  | t' :: tb, A :: l, 0, t, h, e => by cases e; exact ⟨A, rfl, h.1⟩
  | t' :: tb, A :: l, j + 1, t, h, e => a_sws_i (j := j) h.2 e
  | [], [], j, t, h, e => by cases e
  | [], _ :: _, j, t, h, e => h.elim
  | _ :: _, [], j, t, h, e => h.elim
theorem a_sws_len : ∀ {tb : List Nat} {l : List ρ}, a_sws π kd k d M lo st H tb l → tb.length = l.length
  | [], [], _ => rfl
  | _ :: tb, _ :: l, h => by rw [List.length_cons, List.length_cons, a_sws_len h.2]
  | [], _ :: _, h => h.elim
  | _ :: _, [], h => h.elim
theorem a_w18 {p : Int} {l : List ρ} {D : ρ} (hN : N ≤ M + 1) (hI : (q_I k).2 pc = some (18, v, c, x, y, nx, tb)) (hv : tb.length = v) (hs : a_sws π kd k d M lo st H tb l) (hD : a_wp π kd k d M x lo st H D) : a_wp π kd k d N pc lo ((0, p) :: st) H (a_sw p c D l) := by
  refine a_step hN hI fun n r cl cs hp hn hl hs2 hh hr => ?_
  obtain ⟨w, cs', rfl, e1, e2⟩ := a_map1 hs2
  obtain ⟨z, rfl, rfl⟩ := a_of_int e1
  have hlen := a_sws_len hs
  obtain ⟨o, h1, h2⟩ := q_ob_some (show q_ob (q_sw c v (.int z)) (fun o => match o with
    | none => q_steps q_CO (q_I k).2 (q_run q_CO q_I 1000000 d) d n x cl cs' hp
    | some j => q_ob (q_nth tb j) fun t => q_steps q_CO (q_I k).2 (q_run q_CO q_I 1000000 d) d n t cl cs' hp) = some r from hr)
  have h1 : (if z.toInt < c then some none else if c + v ≤ z.toInt then some none else some (some (z.toInt - c).toNat)) = some o := h1
  split at h1
  · rename_i g
    cases h1
    rw [a_sw_d (Or.inl g)]
    exact hD n r cl cs' hp hn hl e2 hh h2
  · split at h1
    · rename_i g
      cases h1
      rw [a_sw_d (Or.inr (by omega))]
      exact hD n r cl cs' hp hn hl e2 hh h2
    · rename_i g1 g2
      cases h1
      obtain ⟨t, h3, h4⟩ := q_ob_some h2
      rw [q_nth_eq] at h3
      obtain ⟨A, h5, h6⟩ := a_sws_i hs h3
      rw [a_sw_i h5 (by omega)]
      exact h6 n r cl cs' hp hn hl e2 hh h4
theorem a_w10 {z h0 yi : Int} {kk : Nat} {f : a_P → ρ} (hN : N ≤ M + 1) (hI : (q_I k).2 pc = some (10, v, c, x, y, nx, tb)) (hk : a_kd x y = kk) (hi : a_isr x y = false) (hy : (y : Int) = yi) (h : ∀ G, a_wp π kd k d M nx lo st G (f G)) : a_wp π kd k d N pc lo ((kk, z) :: (2, h0) :: st) H (a_bd (a_up H h0 yi z) f) := by
  refine a_step hN hI fun n r cl cs hp hn hl hs hh hr => ?_
  obtain ⟨w, cs', rfl, e1, e2⟩ := a_map1 hs
  obtain ⟨w2, cs', rfl, e3, e4⟩ := a_map1 e2
  obtain ⟨g, h1, h2⟩ := q_ob_some (show q_ob (o_rf q_CO w2) (fun h => q_gd (q_fit (v % 10) w) (c_set hp h x y w fun hp => q_steps q_CO (q_I k).2 (q_run q_CO q_I 1000000 d) d n nx cl cs' hp)) = some r from hr)
  obtain ⟨-, h2⟩ := q_gd_some h2
  obtain ⟨rfl, h5⟩ := a_of_ref e3 h1
  obtain ⟨hp', h6, h7⟩ := a_cset hh e1 hk hi h2
  rw [h5, hy] at h7
  exact h _ n r cl cs' hp' hn hl e4 h7 h6
theorem a_w11 (hN : N ≤ M + 1) (hI : (q_I k).2 pc = some (11, v, c, x, y, nx, tb)) (hl' : a_st lo x a = lo') (h : a_wp π kd k d M nx lo' st H F) : a_wp π kd k d N pc lo (a :: st) H F := by
  refine a_step hN hI fun n r cl cs hp hn hl hs hh hr => ?_
  obtain ⟨w, cs', rfl, e1, e2⟩ := a_map1 hs
  obtain ⟨-, hr⟩ := q_gd_some (show q_gd (Nat.beq (q_ty w) y) (q_st q_ty cl x w fun lo => q_steps q_CO (q_I k).2 (q_run q_CO q_I 1000000 d) d n nx lo cs' hp) = some r from hr)
  obtain ⟨cl', h1, h2⟩ := a_st_ok hr hl e1
  rw [hl'] at h2
  exact h n r cl' cs' hp hn h2 e2 hh h1
theorem a_w11b {kk : Nat} {e : Int} {f : Int → ρ} {lof : Int → List (Option a_V)} (hN : N ≤ M + 1) (hI : (q_I k).2 pc = some (11, v, c, x, y, nx, tb)) (hl' : ∀ z, a_st lo x (kk, z) = lof z) (h : ∀ z, a_wp π kd k d M nx (lof z) st H (f z)) : a_wp π kd k d N pc lo ((kk, e) :: st) H (a_bd e f) := a_w11 hN hI (hl' e) (h e)
theorem a_w12 {z i h0 : Int} {kk : Nat} {f : a_P → ρ} (hN : N ≤ M + 1) (hI : (q_I k).2 pc = some (12, v, c, x, y, nx, tb)) (hv : (v = 10 ∧ kk = 0) ∨ (v = 11 ∧ kk = 1)) (h : ∀ G, a_wp π kd k d M nx lo st G (f G)) : a_wp π kd k d N pc lo ((kk, z) :: (0, i) :: (2, h0) :: st) H (a_bd (a_up H h0 i z) f) := by
  refine a_step hN hI fun n r cl cs hp hn hl hs hh hr => ?_
  obtain ⟨w, cs', rfl, e1, e2⟩ := a_map1 hs
  obtain ⟨w2, cs', rfl, e3, e4⟩ := a_map1 e2
  obtain ⟨w3, cs', rfl, e5, e6⟩ := a_map1 e4
  obtain ⟨j, h1, h2⟩ := q_ob_some (show q_ob (o_ix q_CO w2) (fun j => q_ob (o_rf q_CO w3) fun h => q_ob (q_kept q_CO v w hp) fun a => c_set hp h v j a fun hp => q_steps q_CO (q_I k).2 (q_run q_CO q_I 1000000 d) d n nx cl cs' hp) = some r from hr)
  obtain ⟨g, h3, h4⟩ := q_ob_some h2
  obtain ⟨u, h5, h6⟩ := q_ob_some h4
  obtain ⟨rfl, h7⟩ := a_of_ref e5 h3
  have h8 := a_ix e3 h1
  have h9 : u = w := by
    rcases hv with ⟨rfl, rfl⟩ | ⟨rfl, rfl⟩
    · obtain ⟨-, e⟩ := q_gd_some (show q_gd (Nat.beq (q_ty w) 0) (some w) = some u from h5)
      cases e
      rfl
    · obtain ⟨-, e⟩ := q_gd_some (show q_gd (Nat.beq (q_ty w) 1) (some w) = some u from h5)
      cases e
      rfl
  subst h9
  obtain ⟨hp', h10, h11⟩ := a_cset hh e1 (by rcases hv with ⟨rfl, rfl⟩ | ⟨rfl, rfl⟩ <;> rfl) (by rcases hv with ⟨rfl, rfl⟩ | ⟨rfl, rfl⟩ <;> rfl) h6
  rw [h7, h8] at h11
  exact h _ n r cl cs' hp' hn hl e6 h11 h10
theorem a_w12c {z i h0 : Int} {f : a_P → ρ} (hN : N ≤ M + 1) (hI : (q_I k).2 pc = some (12, 12, c, x, y, nx, tb)) (h : ∀ G, a_wp π kd k d M nx lo st G (f G)) : a_wp π kd k d N pc lo ((0, z) :: (0, i) :: (2, h0) :: st) H (a_bd (a_up H h0 i (a_chr z)) f) := by
  refine a_step hN hI fun n r cl cs hp hn hl hs hh hr => ?_
  obtain ⟨w, cs', rfl, e1, e2⟩ := a_map1 hs
  obtain ⟨w2, cs', rfl, e3, e4⟩ := a_map1 e2
  obtain ⟨w3, cs', rfl, e5, e6⟩ := a_map1 e4
  obtain ⟨j, h1, h2⟩ := q_ob_some (show q_ob (o_ix q_CO w2) (fun j => q_ob (o_rf q_CO w3) fun h => q_ob (q_un 6 w) fun a => c_set hp h 12 j a fun hp => q_steps q_CO (q_I k).2 (q_run q_CO q_I 1000000 d) d n nx cl cs' hp) = some r from hr)
  obtain ⟨g, h3, h4⟩ := q_ob_some h2
  obtain ⟨u, h5, h6⟩ := q_ob_some h4
  obtain ⟨rfl, h7⟩ := a_of_ref e5 h3
  have h8 := a_ix e3 h1
  have h9 : a_of u = (0, a_chr z) := a_un_ok h5 e1
  obtain ⟨hp', h10, h11⟩ := a_cset hh h9 rfl rfl h6
  rw [h7, h8] at h11
  exact h _ n r cl cs' hp' hn hl e6 h11 h10
theorem a_w13 {p c' e : Int} {f : Int → ρ} {lof : Int → List (Option a_V)} (hN : N ≤ M + 1) (hI : (q_I k).2 pc = some (13, v, c, x, y, nx, tb)) (hx : lo[x]? = some (some (0, p))) (hc : a_w c = c') (he : a_w (p + c') = e) (hl' : ∀ z, a_st lo x (0, z) = lof z) (h : ∀ z, a_wp π kd k d M nx (lof z) st H (f z)) : a_wp π kd k d N pc lo st H (a_bd e f) := by
  refine a_step hN hI fun n r cl cs hp hn hl hs hh hr => ?_
  obtain ⟨oa, h1, h2⟩ := q_ob_some (show q_ob (q_nth cl x) (fun oa => q_ob oa fun a => q_gd (Nat.beq (q_ty a) 0) (q_ob (q_bin 0 a (q_cst 0 c)) fun r => q_gd (Nat.beq (q_ty r) 0) (q_st q_ty cl x r fun lo => q_steps q_CO (q_I k).2 (q_run q_CO q_I 1000000 d) d n nx lo cs hp))) = some r from hr)
  obtain ⟨w, h3, h4⟩ := q_ob_some h2
  obtain ⟨-, h5⟩ := q_gd_some h4
  obtain ⟨u, h6, h7⟩ := q_ob_some h5
  obtain ⟨-, h8⟩ := q_gd_some h7
  obtain ⟨w', h9, h10⟩ := hl.2 x _ hx
  subst h3
  rw [q_nth_eq, h9] at h1
  cases h1
  have h11 := a_bin_ok h6 h10 (a_cst0 c)
  have h12 : a_of u = (0, e) := by rw [h11, hc, ← he]; rfl
  obtain ⟨cl', h13, h14⟩ := a_st_ok h8 hl h12
  rw [hl'] at h14
  exact h _ n r cl' cs hp hn h14 hs hh h13
theorem a_w19 {hs0 sp hd dp nn : Int} {f : a_P → ρ} (hN : N ≤ M + 1) (hI : (q_I k).2 pc = some (19, v, c, x, y, nx, tb)) (h : ∀ G, a_wp π kd k d M nx lo st G (f G)) : a_wp π kd k d N pc lo ((0, nn) :: (0, dp) :: (2, hd) :: (0, sp) :: (2, hs0) :: st) H (a_bd (a_cp H hs0 sp hd dp nn) f) := by
  refine a_step hN hI fun n r cl cs hp hn hl hs hh hr => ?_
  obtain ⟨w, cs', rfl, e1, e2⟩ := a_map1 hs
  obtain ⟨w2, cs', rfl, e3, e4⟩ := a_map1 e2
  obtain ⟨w3, cs', rfl, e5, e6⟩ := a_map1 e4
  obtain ⟨w4, cs', rfl, e7, e8⟩ := a_map1 e6
  obtain ⟨w5, cs', rfl, e9, e10⟩ := a_map1 e8
  obtain ⟨-, hr⟩ := q_gd_some (show q_gd (Nat.blt 0 d && Nat.ble (q_cats q_ty cs') 8) (q_ob (o_ix q_CO w) fun n' => q_ob (o_ix q_CO w2) fun dp => q_ob (o_ix q_CO w4) fun sp => q_ob (o_rf q_CO w3) fun hd => q_ob (o_rf q_CO w5) fun hs => c_cpy hp hs sp hd dp n' fun hp => q_steps q_CO (q_I k).2 (q_run q_CO q_I 1000000 d) d n nx cl cs' hp) = some r from hr)
  obtain ⟨n1, h1, hr⟩ := q_ob_some hr
  obtain ⟨n2, h2, hr⟩ := q_ob_some hr
  obtain ⟨n4, h4, hr⟩ := q_ob_some hr
  obtain ⟨n3, h3, hr⟩ := q_ob_some hr
  obtain ⟨n5, h5, hr⟩ := q_ob_some hr
  obtain ⟨hp', h6, h7⟩ := a_ccpy hh hr
  rw [a_ix e1 h1, a_ix e3 h2, a_ix e7 h4, (a_of_ref e5 h3).2, (a_of_ref e9 h5).2] at h7
  exact h _ n r cl cs' hp' hn hl e10 h7 h6
theorem a_wbd {α : Type} {e : α} {f : α → ρ} (h : a_wp π kd k d N pc lo st H (f e)) : a_wp π kd k d N pc lo st H (a_bd e f) := h
def a_le : List (Option a_V) → List (Option a_V) → Prop
  | [], [] => True
  | none :: l, _ :: m => a_le l m
  | some a :: l, some b :: m => a = b ∧ a_le l m
  | _, _ => False
theorem a_le_len : ∀ {l m : List (Option a_V)}, a_le l m → m.length = l.length
  | [], [], _ => rfl
  | none :: l, _ :: m, h => by rw [List.length_cons, List.length_cons, a_le_len (l := l) h]
  | some a :: l, some b :: m, h => by rw [List.length_cons, List.length_cons, a_le_len h.2]
  | [], _ :: _, h => h.elim
  | none :: _, [], h => h.elim
  | some _ :: _, [], h => h.elim
  | some _ :: _, none :: _, h => h.elim
theorem a_le_get : ∀ {l m : List (Option a_V)} {i : Nat} {a : a_V}, a_le l m → l[i]? = some (some a) → m[i]? = some (some a)
  | none :: l, _ :: m, 0, a, h, e => by cases e
  | none :: l, _ :: m, i + 1, a, h, e => a_le_get (l := l) (i := i) h e
  | some b :: l, some b' :: m, 0, a, h, e => by cases e; rw [← h.1]; rfl
  | some b :: l, some b' :: m, i + 1, a, h, e => a_le_get (i := i) h.2 e
  | [], _, i, a, h, e => by cases e
  | none :: _, [], i, a, h, e => h.elim
  | some _ :: _, [], i, a, h, e => h.elim
  | some _ :: _, none :: _, i, a, h, e => h.elim
theorem a_wk (h : a_wp π kd k d M pc lo' st H F) (hN : N ≤ M) (hl' : a_le lo' lo) : a_wp π kd k d N pc lo st H F := by
  intro n r cl cs hp hn hl hs hh hr
  refine h n r cl cs hp (Nat.le_trans hn hN) ⟨hl.1.trans (a_le_len hl'), fun i a e => hl.2 i a (a_le_get hl' e)⟩ hs hh hr
theorem a_wjn {α : Type} {J : α → ρ} {f : (α → ρ) → ρ} (pcJ : Nat) (lof : α → List (Option a_V)) (stf : α → List a_V) (Hf : α → a_P) (hJ : ∀ s, a_wp π kd k d N pcJ (lof s) (stf s) (Hf s) (J s)) (h : ∀ j : α → ρ, (∀ s, a_wp π kd k d N pcJ (lof s) (stf s) (Hf s) (j s)) → a_wp π kd k d N pc lo st H (f j)) : a_wp π kd k d N pc lo st H (a_jn J f) := h J hJ
theorem a_wlp {σ : Type} {z : σ → ρ} {body : σ → (σ → ρ) → ρ} (lof : σ → List (Option a_V)) (Hf : σ → a_P) (h : ∀ N1, N1 + 1 ≤ N → ∀ next : σ → ρ, (∀ s, a_wp π kd k d N1 pc (lof s) st (Hf s) (next s)) → ∀ s, a_wp π kd k d (N1 + 1) pc (lof s) st (Hf s) (body s next)) (m : Nat) (hm : N ≤ m) (s : σ) : a_wp π kd k d N pc (lof s) st (Hf s) (a_lp z body m s) := by
  have key : ∀ N1, N1 ≤ N → ∀ (m : Nat), N1 ≤ m → ∀ s, a_wp π kd k d N1 pc (lof s) st (Hf s) (a_lp z body m s) := by
    intro N1
    induction N1 with
    | zero =>
      intro _ m _ s n r cl cs hp hn _ _ _ hr
      have : n = 0 := by omega
      subst this
      cases hr
    | succ N1 ih =>
      intro h1 m h2 s
      obtain ⟨m, rfl⟩ : ∃ m', m = m' + 1 := ⟨m - 1, by omega⟩
      exact h N1 h1 (a_lp z body m) (fun s => ih (by omega) m (by omega) s) s
  exact key N (Nat.le_refl _) m hm s
/-- the arguments as they come to lie -/
def a_ent : List a_V → List (Option a_V)
  | [] => []
  | a :: l => bif Nat.beq a.1 1 then some a :: none :: a_ent l else some a :: a_ent l
def a_fl : Nat → List (Option a_V) → List (Option a_V)
  | 0, _ => []
  | n + 1, [] => none :: a_fl n []
  | n + 1, a :: l => a :: a_fl n l
theorem a_ent_ok : ∀ (as : List Value), (q_ent q_ty as).map (Option.map a_of) = a_ent (as.map a_of)
  | [] => rfl
  | v :: as => by
    rw [List.map_cons, a_ent, ← a_ty, q_ent]
    cases Nat.beq (q_ty v) 1 with
    | true => rw [cond_true, cond_true, List.map_cons, List.map_cons, a_ent_ok as]; rfl
    | false => rw [cond_false, cond_false, List.map_cons, a_ent_ok as]; rfl
theorem a_fl_ok : ∀ (n : Nat) (l : List (Option Value)), (q_fill n l).map (Option.map a_of) = a_fl n (l.map (Option.map a_of))
  | 0, _ => rfl
  | n + 1, [] => by rw [q_fill, List.map_cons, a_fl_ok n []]; rfl
  | n + 1, a :: l => by rw [q_fill, List.map_cons, a_fl_ok n l]; rfl
theorem a_lr_map (cl : List (Option Value)) : a_lr cl (cl.map (Option.map a_of)) := by
  refine ⟨by rw [List.length_map], fun i a h => ?_⟩
  rw [List.getElem?_map] at h
  cases e : cl[i]? with
  | none => rw [e] at h; cases h
  | some o =>
    rw [e] at h
    cases o with
    | none => cases h
    | some v =>
      have h : some (some (a_of v)) = some (some a) := h
      rw [Option.some.injEq, Option.some.injEq] at h
      exact ⟨v, rfl, h⟩
theorem a_mtI {args : List a_V} (hl : a_fl (q_I k).1 (a_ent args) = lo) (h : ∀ d, a_wp π kd k d 1000000 0 lo [] H F) : a_mt π kd k args H F := by
  intro d as hp r ha hh hr
  cases d with
  | zero => cases hr
  | succ d =>
    rw [q_run_succ] at hr
    obtain ⟨-, hr⟩ := q_gd_some hr
    rw [q_frc_eq] at hr
    refine h d 1000000 r _ [] hp (Nat.le_refl _) ?_ rfl hh hr
    have e := a_lr_map (q_fill (q_I k).1 (q_ent q_ty as))
    rw [a_fl_ok, a_ent_ok, ha, hl] at e
    exact e
end a_rules3
theorem a_wno {ρ : Type} {π : ρ → a_F} {kd k d N pc : Nat} {lo : List (Option a_V)} {st : List a_V} {H : a_P} {F : ρ} (hI : (q_I k).2 pc = none) : a_wp π kd k d N pc lo st H F := by
  intro n r cl cs hp hn hl hs hh hr
  cases n with
  | zero => cases hr
  | succ n =>
    rw [q_steps_succ, hI] at hr
    cases hr
/-- what a method answers that writes nothing -/
def a_pp (H : a_P) (v : Int) : a_F := (v, H)
/-- how often a loop may turn: 1000000, and nothing that computes -/
noncomputable def a_fuel : Nat := Classical.choose (⟨1000000, rfl⟩ : ∃ n : Nat, n = 1000000)
theorem a_fuel_eq : a_fuel = 1000000 := Classical.choose_spec (⟨1000000, rfl⟩ : ∃ n : Nat, n = 1000000)
theorem a_fuel_le {N : Nat} (h : N ≤ 1000000) : N ≤ a_fuel := by rw [a_fuel_eq]; exact h

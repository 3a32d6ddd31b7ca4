/-! THE RUNS AS FUNCTIONS: a value is (0 int, 1 long, 2 reference or text; the number); a heap is a function of cell and place. References lie in no heap: they are what they always are (a_rc). -/
abbrev a_V : Type := Nat × Int
abbrev a_P : Type := Int → Int → Int
abbrev a_F : Type := Int × a_P
def a_of : Value → a_V
  | .int x => (0, x.toInt)
  | .long x => (1, x.toInt)
  | .ref h => (2, (h : Int))
  | .float n => (2, (n.toNat : Int))
  | .null => (3, 0)
  | _ => (9, 0)
def a_w (x : Int) : Int := Int.bmod x 4294967296
def a_wl (x : Int) : Int := Int.bmod x 18446744073709551616
def a_isr (t i : Nat) : Bool := match t with
  | 0 => Nat.beq i 0
  | 2 => Nat.ble 7 i
  | 3 => Nat.beq i 3
  | 4 => Nat.beq i 0
  | 5 => !Nat.beq i 5
  | 6 => !(Nat.beq i 2 || Nat.beq i 3 || Nat.beq i 5 || Nat.beq i 7 || (Nat.ble 9 i && Nat.ble i 13) || Nat.beq i 17)
  | 13 => true
  | 14 => true
  | _ => false
def a_kd (t i : Nat) : Nat := bif a_isr t i then 2 else bif Nat.beq t 11 then 1 else 0
/-- where a reference leads -/
def a_rc (h : Int) (t : Nat) (i : Int) : Int := match t with
  | 0 => h + 1
  | 2 => h + (i - 6)
  | 3 => h + 1
  | 4 => h + 1
  | 5 => ([1, 7, 13, 63, 69, 0, 119, 121, 122, 123, 124] : List Int).getD i.toNat 0
  | 6 => ([134, 135, 0, 0, 136, 0, 137, 0, 138, 0, 0, 0, 0, 0, 139, 140, 141, 0, 142, 143, 144, 145] : List Int).getD i.toNat 0
  | 13 => h + (1 + 6 * i)
  | 14 => h + (4 + 2 * i)
  | _ => 0
def a_get (H : a_P) (h : Int) (t : Nat) (i : Nat) : a_V := (a_kd t i, bif a_isr t i then a_rc h t i else H h i)
def a_up (H : a_P) (h i v : Int) : a_P := fun a b => if a = h ∧ b = i then v else H a b
def a_cp (H : a_P) (hs sp hd dp n : Int) : a_P := fun a b => if a = hd ∧ dp ≤ b ∧ b < dp + n then H hs (sp + (b - dp)) else H a b
def a_hr (hp : q_H) (H : a_P) : Prop := ∀ (h : Nat) (d : Nat × List Value) (i : Nat) (v : Value), hp[h]? = some d → d.2[i]? = some v → a_of v = a_get H h d.1 i
def a_rk (kd : Nat) (x : Int) : Option a_V := bif Nat.beq kd 9 then none else some (kd, x)
def a_rr {ρ : Type} (π : ρ → a_F) (kd : Nat) (r : q_R Value q_H) (F : ρ) : Prop := r.1.map a_of = a_rk kd (π F).1 ∧ a_hr r.2 (π F).2
def a_lr (cl : List (Option Value)) (lo : List (Option a_V)) : Prop := cl.length = lo.length ∧ ∀ (i : Nat) (a : a_V), lo[i]? = some (some a) → ∃ v, cl[i]? = some (some v) ∧ a_of v = a
/-- a run of at most N steps from pc on answers F -/
def a_wp {ρ : Type} (π : ρ → a_F) (kd k d N pc : Nat) (lo : List (Option a_V)) (st : List a_V) (H : a_P) (F : ρ) : Prop := ∀ (n : Nat) (r : q_R Value q_H) (cl : List (Option Value)) (cs : List Value) (hp : q_H), n ≤ N → a_lr cl lo → cs.map a_of = st → a_hr hp H → q_steps q_CO (q_I k).2 (q_run q_CO q_I 1000000 d) d n pc cl cs hp = some r → a_rr π kd r F
/-- method k with these arguments, over this heap, answers G -/
def a_mt {ρ : Type} (π : ρ → a_F) (kd k : Nat) (args : List a_V) (H : a_P) (G : ρ) : Prop := ∀ (d : Nat) (as : List Value) (hp : q_H) (r : q_R Value q_H), as.map a_of = args → a_hr hp H → q_run q_CO q_I 1000000 d k as hp = some r → a_rr π kd r G
def a_bd {α ρ : Type} (x : α) (f : α → ρ) : ρ := f x
def a_jn {α ρ : Type} (J : α → ρ) (f : (α → ρ) → ρ) : ρ := f J
/-- a loop: the body is given the state, and what comes next -/
def a_lp {σ ρ : Type} (z : σ → ρ) (body : σ → (σ → ρ) → ρ) : Nat → σ → ρ
  | 0, s => z s
  | m + 1, s => body s (a_lp z body m)
def a_sw {ρ : Type} (x c : Int) (D : ρ) : List ρ → ρ
  | [] => D
  | A :: l => if x = c then A else a_sw x (c + 1) D l
section a_rules
variable {ρ : Type} {π : ρ → a_F} {kd k d N M pc : Nat} {lo : List (Option a_V)} {st : List a_V} {H : a_P} {F : ρ}
theorem a_mono (h : a_wp π kd k d M pc lo st H F) (hN : N ≤ M) : a_wp π kd k d N pc lo st H F := fun n r cl cs hp hn => h n r cl cs hp (Nat.le_trans hn hN)
theorem a_step {mi : q_MI} (hN : N ≤ M + 1) (hI : (q_I k).2 pc = some mi) (h : ∀ (n : Nat) (r : q_R Value q_H) (cl : List (Option Value)) (cs : List Value) (hp : q_H), n ≤ M → a_lr cl lo → cs.map a_of = st → a_hr hp H → q_step q_CO (q_run q_CO q_I 1000000 d) d mi cl cs hp (q_steps q_CO (q_I k).2 (q_run q_CO q_I 1000000 d) d n) = some r → a_rr π kd r F) : a_wp π kd k d N pc lo st H F := by
  intro n r cl cs hp hn hl hs hh hr
  cases n with
  | zero => cases hr
  | succ n =>
    rw [q_steps_succ, hI] at hr
    exact h n r cl cs hp (by omega) hl hs hh hr
theorem a_map1 {cs : List Value} {a : a_V} (h : cs.map a_of = a :: st) : ∃ v cs', cs = v :: cs' ∧ a_of v = a ∧ cs'.map a_of = st := by
  cases cs with
  | nil => cases h
  | cons v cs' =>
    rw [List.map_cons, List.cons.injEq] at h
    exact ⟨v, cs', rfl, h.1, h.2⟩
theorem a_of_int {v : Value} {x : Int} (h : a_of v = (0, x)) : ∃ z : Int32, v = .int z ∧ z.toInt = x := by
  cases v with
  | int z => exact ⟨z, rfl, congrArg Prod.snd h⟩
  | _ => simp [a_of] at h
theorem a_of_long {v : Value} {x : Int} (h : a_of v = (1, x)) : ∃ z : Int64, v = .long z ∧ z.toInt = x := by
  cases v with
  | long z => exact ⟨z, rfl, congrArg Prod.snd h⟩
  | _ => simp [a_of] at h
theorem a_of_ref {v : Value} {x : Int} {h : Nat} (he : a_of v = (2, x)) (hr : o_rf q_CO v = some h) : v = .ref h ∧ (h : Int) = x := by
  cases v with
  | ref g =>
    have : some g = some h := hr
    cases this
    exact ⟨rfl, congrArg Prod.snd he⟩
  | _ => cases hr
theorem a_ix {v : Value} {x : Int} {j : Nat} (he : a_of v = (0, x)) (hr : o_ix q_CO v = some j) : (j : Int) = x := by
  obtain ⟨z, rfl, rfl⟩ := a_of_int he
  have hr : (if z < 0 then none else some z.toNatClampNeg) = some j := hr
  split at hr
  · cases hr
  · rename_i h0
    cases hr
    rw [Int32.lt_iff_toInt_lt] at h0
    have e : (0 : Int32).toInt = 0 := by decide
    show ((z.toInt.toNat : Nat) : Int) = z.toInt
    omega
theorem a_cget {hp : q_H} {h t i : Nat} {v : Value} (hh : a_hr hp H) (hg : o_get q_CO hp h t i = some v) : a_of v = a_get H h t i := by
  obtain ⟨d, h1, h2⟩ := q_ob_some (show q_ob (q_nth hp h) (fun c => q_gd (Nat.beq c.1 t) (q_nth c.2 i)) = some v from hg)
  obtain ⟨h3, h4⟩ := q_gd_some h2
  rw [q_nth_eq] at h1 h4
  have := Nat.eq_of_beq_eq_true h3
  subst this
  exact hh h d i v h1 h4
theorem a_cset {B : Type} {hp : q_H} {h t i : Nat} {v : Value} {K : q_H → Option B} {r : B} {z : Int} {kk : Nat} (hh : a_hr hp H) (hv : a_of v = (kk, z)) (hk : a_kd t i = kk) (hi : a_isr t i = false) (hg : c_set hp h t i v K = some r) : ∃ hp', K hp' = some r ∧ a_hr hp' (a_up H h i z) := by
  obtain ⟨c, h1, h2⟩ := q_ob_some (show q_ob (q_nth hp h) (fun c => q_gd (Nat.beq c.1 t && Nat.blt i c.2.length) (q_set c.2 i v fun vs => q_set hp h (c.1, vs) K)) = some r from hg)
  obtain ⟨h3, h4⟩ := q_gd_some h2
  rw [Bool.and_eq_true] at h3
  have ht := Nat.eq_of_beq_eq_true h3.1
  rw [q_set_eq, q_set_eq] at h4
  rw [q_nth_eq] at h1
  refine ⟨_, h4, ?_⟩
  intro h' d' i' v' hd hv'
  rw [List.getElem?_set] at hd
  unfold a_get a_up
  split at hd
  · rename_i e
    subst e
    split at hd
    · cases hd
      simp only at hv'
      rw [List.getElem?_set] at hv'
      split at hv'
      · rename_i e
        subst e
        split at hv'
        · cases hv'
          rw [hv, ht, hk, hi]
          simp
        · cases hv'
      · rename_i ne
        have e := hh h c i' v' h1 hv'
        rw [e]
        unfold a_get
        have : ¬ ((i' : Int) = (i : Int)) := by omega
        simp [this]
    · cases hd
  · rename_i ne
    have e := hh h' d' i' v' hd hv'
    rw [e]
    unfold a_get
    have : ¬ ((h' : Int) = (h : Int)) := by omega
    simp [this]
theorem a_kd_arr {t i j : Nat} (h : t = 10 ∨ t = 11) : a_kd t i = a_kd t j ∧ a_isr t i = false := by
  rcases h with rfl | rfl <;> exact ⟨rfl, rfl⟩
theorem a_ccpy {B : Type} {hp : q_H} {hs sp hd dp n : Nat} {K : q_H → Option B} {r : B} (hh : a_hr hp H) (hg : c_cpy hp hs sp hd dp n K = some r) : ∃ hp', K hp' = some r ∧ a_hr hp' (a_cp H hs sp hd dp n) := by
  obtain ⟨c, h1, h2⟩ := q_ob_some hg
  obtain ⟨c', h1', h2⟩ := q_ob_some h2
  obtain ⟨h3, h4⟩ := q_gd_some h2
  simp only [Bool.and_eq_true, Bool.or_eq_true] at h3
  obtain ⟨⟨⟨h5, h6⟩, h7⟩, h8⟩ := h3
  have h5 := Nat.eq_of_beq_eq_true h5
  have h7 := Nat.le_of_ble_eq_true h7
  have h8 := Nat.le_of_ble_eq_true h8
  have h6 : c'.1 = 10 ∨ c'.1 = 11 := h6.elim (fun h => Or.inl (Nat.eq_of_beq_eq_true h)) (fun h => Or.inr (Nat.eq_of_beq_eq_true h))
  rw [q_frc_eq, q_set_eq] at h4
  rw [q_nth_eq] at h1 h1'
  refine ⟨_, h4, ?_⟩
  intro h' d' i' v' hd' hv'
  rw [List.getElem?_set] at hd'
  split at hd'
  · rename_i e
    subst e
    split at hd'
    · cases hd'
      simp only at hv'
      have hk := a_kd_arr (i := i') (j := i') h6
      by_cases c1 : i' < dp
      · rw [List.getElem?_append_left (by rw [List.length_take]; omega), List.getElem?_take_of_lt c1] at hv'
        have e := hh hd c' i' v' h1' hv'
        rw [e]
        unfold a_get a_cp
        have : ¬ ((hd : Int) = (hd : Int) ∧ (dp : Int) ≤ (i' : Int) ∧ (i' : Int) < (dp : Int) + (n : Int)) := by omega
        rw [if_neg this]
      · rw [List.getElem?_append_right (by rw [List.length_take]; omega), List.length_take, Nat.min_eq_left (by omega)] at hv'
        by_cases c2 : i' < dp + n
        · rw [List.getElem?_append_left (by rw [List.length_take, List.length_drop]; omega), List.getElem?_take_of_lt (by omega), List.getElem?_drop] at hv'
          have e := hh hs c _ v' h1 hv'
          rw [e]
          unfold a_get a_cp
          have g : ((hd : Int) = (hd : Int) ∧ (dp : Int) ≤ (i' : Int) ∧ (i' : Int) < (dp : Int) + (n : Int)) := by omega
          have e2 : ((sp + (i' - dp) : Nat) : Int) = (sp : Int) + ((i' : Int) - (dp : Int)) := by omega
          have hk2 := a_kd_arr (i := sp + (i' - dp)) (j := i') h6
          rw [← h5, hk2.1, hk2.2, hk.2, e2]
          simp only [g, if_true, cond_false]
          simp
        · rw [List.getElem?_append_right (by rw [List.length_take, List.length_drop]; omega), List.length_take, List.length_drop, Nat.min_eq_left (by omega), List.getElem?_drop] at hv'
          have e2 : dp + n + (i' - dp - n) = i' := by omega
          rw [e2] at hv'
          have e := hh hd c' i' v' h1' hv'
          rw [e]
          unfold a_get a_cp
          have : ¬ ((hd : Int) = (hd : Int) ∧ (dp : Int) ≤ (i' : Int) ∧ (i' : Int) < (dp : Int) + (n : Int)) := by omega
          rw [if_neg this]
    · cases hd'
  · rename_i ne
    have e := hh h' d' i' v' hd' hv'
    rw [e]
    unfold a_get a_cp
    have : ¬ ((h' : Int) = (hd : Int) ∧ (dp : Int) ≤ (i' : Int) ∧ (i' : Int) < (dp : Int) + (n : Int)) := by omega
    rw [if_neg this]
end a_rules

section q_mono
variable {fr nx v x y : Nat} {c : Int} {tb : List Nat} {cal : Nat → List Value → q_H → Option (q_R Value q_H)} {lo : List (Option Value)} {st : List Value} {hp : q_H} {K : q_K Value q_H} {r : q_R Value q_H}
/-- a heap only grows -/
def q_le (a b : q_H) : Prop := a.length ≤ b.length ∧ q_sl a ≤ q_sl b
theorem q_le_app (a b : q_H) : q_le a (a ++ b) := ⟨by simp, by rw [q_sl_app]; omega⟩
theorem q_le.trans {a b d : q_H} (h : q_le a b) (h2 : q_le b d) : q_le a d := ⟨Nat.le_trans h.1 h2.1, Nat.le_trans h.2 h2.2⟩
theorem q_le_set {hp : q_H} {i : Nat} {c d : Nat × List Value} (h : hp[i]? = some c) (hd : d.2.length = c.2.length) : q_le hp (hp.set i d) := ⟨by simp, by rw [q_sl_set hp i c d h hd]; omega⟩
theorem m_0 (h : q_s0 q_CO cal fr (v, c, x, y, nx, tb) lo st hp K = some r) (hm : ∀ pc lo st hp, K pc lo st hp = some r → q_le hp r.2) : q_le hp r.2 := by
  obtain ⟨_, _, h⟩ := q_ob_some h
  obtain ⟨_, _, h⟩ := q_ob_some h
  obtain ⟨_, h⟩ := q_gd_some h
  exact hm _ _ _ _ h
theorem m_1 (h : q_s1 q_CO cal fr (v, c, x, y, nx, tb) lo st hp K = some r) (hm : ∀ pc lo st hp, K pc lo st hp = some r → q_le hp r.2) : q_le hp r.2 := by
  obtain ⟨_, _, _, h⟩ := q_p1_some h
  obtain ⟨_, _, h⟩ := q_ob_some h
  obtain ⟨_, _, h⟩ := q_ob_some h
  exact hm _ _ _ _ h
theorem m_2 (h : q_s2 q_CO cal fr (v, c, x, y, nx, tb) lo st hp K = some r) (hm : ∀ pc lo st hp, K pc lo st hp = some r → q_le hp r.2) : q_le hp r.2 := by
  exact hm _ _ _ _ h
theorem m_5 (h : q_s5 q_CO cal fr (v, c, x, y, nx, tb) lo st hp K = some r) (hm : ∀ pc lo st hp, K pc lo st hp = some r → q_le hp r.2) : q_le hp r.2 := by
  obtain ⟨_, _, _, h⟩ := q_p1_some h
  obtain ⟨_, _, _, h⟩ := q_p1_some h
  obtain ⟨_, _, h⟩ := q_ob_some h
  obtain ⟨_, _, h⟩ := q_ob_some h
  obtain ⟨_, _, h⟩ := q_ob_some h
  exact hm _ _ _ _ h
theorem m_6 (h : q_s6 q_CO cal fr (v, c, x, y, nx, tb) lo st hp K = some r) (hm : ∀ pc lo st hp, K pc lo st hp = some r → q_le hp r.2) : q_le hp r.2 := by
  obtain ⟨_, _, _, h⟩ := q_p1_some h
  obtain ⟨_, _, _, h⟩ := q_p1_some h
  obtain ⟨_, _, h⟩ := q_ob_some h
  exact hm _ _ _ _ h
theorem m_7 (h : q_s7 q_CO cal fr (v, c, x, y, nx, tb) lo st hp K = some r) (hm : ∀ pc lo st hp, K pc lo st hp = some r → q_le hp r.2) : q_le hp r.2 := by
  exact hm _ _ _ _ h
theorem m_14 (h : q_s14 q_CO cal fr (v, c, x, y, nx, tb) lo st hp K = some r) (hm : ∀ pc lo st hp, K pc lo st hp = some r → q_le hp r.2) : q_le hp r.2 := by
  obtain ⟨_, _, _, h⟩ := q_p1_some h
  obtain ⟨_, _, h⟩ := q_ob_some h
  exact hm _ _ _ _ h
theorem m_15 (h : q_s15 q_CO cal fr (v, c, x, y, nx, tb) lo st hp K = some r) (hm : ∀ pc lo st hp, K pc lo st hp = some r → q_le hp r.2) : q_le hp r.2 := by
  exact hm _ _ _ _ h
theorem m_16 (h : q_s16 q_CO cal fr (v, c, x, y, nx, tb) lo st hp K = some r) (hm : ∀ pc lo st hp, K pc lo st hp = some r → q_le hp r.2) : q_le hp r.2 := by
  obtain ⟨_, _, _, h⟩ := q_p1_some h
  obtain ⟨_, h⟩ := q_gd_some h
  exact hm _ _ _ _ h
theorem m_17 (h : q_s17 q_CO cal fr (v, c, x, y, nx, tb) lo st hp K = some r) (hm : ∀ pc lo st hp, K pc lo st hp = some r → q_le hp r.2) : q_le hp r.2 := by
  obtain ⟨_, _, _, h⟩ := q_p1_some h
  obtain ⟨_, _, _, h⟩ := q_p1_some h
  obtain ⟨_, h⟩ := q_gd_some h
  exact hm _ _ _ _ h
theorem m_23 (h : q_s23 q_CO cal fr (v, c, x, y, nx, tb) lo st hp K = some r) (hm : ∀ pc lo st hp, K pc lo st hp = some r → q_le hp r.2) : q_le hp r.2 := by
  obtain ⟨_, _, _, h⟩ := q_p1_some h
  obtain ⟨_, _, h⟩ := q_ob_some h
  obtain ⟨_, h⟩ := q_gd_some h
  exact hm _ _ _ _ h
theorem m_24 (h : q_s24 q_CO cal fr (v, c, x, y, nx, tb) lo st hp K = some r) (hm : ∀ pc lo st hp, K pc lo st hp = some r → q_le hp r.2) : q_le hp r.2 := by
  exact hm _ _ _ _ h
theorem m_25 (h : q_s25 q_CO cal fr (v, c, x, y, nx, tb) lo st hp K = some r) (hm : ∀ pc lo st hp, K pc lo st hp = some r → q_le hp r.2) : q_le hp r.2 := by
  obtain ⟨_, _, _, h⟩ := q_p1_some h
  obtain ⟨-, h⟩ := q_gd_some h
  obtain ⟨_, _, h⟩ := q_ob_some h
  exact hm _ _ _ _ h
theorem m_26 (h : q_s26 q_CO cal fr (v, c, x, y, nx, tb) lo st hp K = some r) (hm : ∀ pc lo st hp, K pc lo st hp = some r → q_le hp r.2) : q_le hp r.2 := by
  obtain ⟨_, _, _, h⟩ := q_p1_some h
  obtain ⟨_, _, _, h⟩ := q_p1_some h
  obtain ⟨-, h⟩ := q_gd_some h
  obtain ⟨_, _, h⟩ := q_ob_some h
  exact hm _ _ _ _ h
theorem m_br {b : Option Bool} (h : q_br q_CO b x nx lo st hp K = some r) (hm : ∀ pc lo st hp, K pc lo st hp = some r → q_le hp r.2) : q_le hp r.2 := by
  cases b with
  | none => exact absurd h (q_ob_jn _ _ _)
  | some b => cases b with
    | true => exact hm _ _ _ _ h
    | false => exact hm _ _ _ _ h
theorem m_8 (h : q_s8 q_CO cal fr (v, c, x, y, nx, tb) lo st hp K = some r) (hm : ∀ pc lo st hp, K pc lo st hp = some r → q_le hp r.2) : q_le hp r.2 := by
  obtain ⟨_, _, _, h⟩ := q_p1_some h
  obtain ⟨_, h⟩ := q_gd_some h
  exact m_br h hm
theorem m_9 (h : q_s9 q_CO cal fr (v, c, x, y, nx, tb) lo st hp K = some r) (hm : ∀ pc lo st hp, K pc lo st hp = some r → q_le hp r.2) : q_le hp r.2 := by
  obtain ⟨_, _, _, h⟩ := q_p1_some h
  obtain ⟨_, _, _, h⟩ := q_p1_some h
  obtain ⟨_, h⟩ := q_gd_some h
  exact m_br h hm
theorem m_11 (h : q_s11 q_CO cal fr (v, c, x, y, nx, tb) lo st hp K = some r) (hm : ∀ pc lo st hp, K pc lo st hp = some r → q_le hp r.2) : q_le hp r.2 := by
  obtain ⟨_, _, _, h⟩ := q_p1_some h
  obtain ⟨_, h⟩ := q_gd_some h
  rename_i a _ _ _
  have h : q_st q_ty lo x _ (fun lo => K nx lo _ hp) = some r := h
  rw [q_st_eq] at h
  exact hm _ _ _ _ h
theorem m_13 (h : q_s13 q_CO cal fr (v, c, x, y, nx, tb) lo st hp K = some r) (hm : ∀ pc lo st hp, K pc lo st hp = some r → q_le hp r.2) : q_le hp r.2 := by
  obtain ⟨_, _, h⟩ := q_ob_some h
  obtain ⟨_, _, h⟩ := q_ob_some h
  obtain ⟨_, h⟩ := q_gd_some h
  obtain ⟨_, _, h⟩ := q_ob_some h
  obtain ⟨_, h⟩ := q_gd_some h
  have h : q_st q_ty lo x _ (fun lo => K nx lo st hp) = some r := h
  rw [q_st_eq] at h
  exact hm _ _ _ _ h
theorem m_18 (h : q_s18 q_CO cal fr (v, c, x, y, nx, tb) lo st hp K = some r) (hm : ∀ pc lo st hp, K pc lo st hp = some r → q_le hp r.2) : q_le hp r.2 := by
  obtain ⟨_, _, _, h⟩ := q_p1_some h
  obtain ⟨o, _, h⟩ := q_ob_some h
  cases o with
  | none => exact hm _ _ _ _ h
  | some j =>
    obtain ⟨_, _, h⟩ := q_ob_some h
    exact hm _ _ _ _ h
theorem m_10 (h : q_s10 q_CO cal fr (v, c, x, y, nx, tb) lo st hp K = some r) (hm : ∀ pc lo st hp, K pc lo st hp = some r → q_le hp r.2) : q_le hp r.2 := by
  obtain ⟨_, _, _, h⟩ := q_p1_some h
  obtain ⟨_, _, _, h⟩ := q_p1_some h
  obtain ⟨_, _, h⟩ := q_ob_some h
  obtain ⟨_, h⟩ := q_gd_some h
  obtain ⟨vs, g1, _, h⟩ := c_set_some (show c_set hp _ x y _ (fun hp => K nx lo _ hp) = some r from h)
  exact (q_le_set g1 (by simp)).trans (hm _ _ _ _ h)
theorem m_12 (h : q_s12 q_CO cal fr (v, c, x, y, nx, tb) lo st hp K = some r) (hm : ∀ pc lo st hp, K pc lo st hp = some r → q_le hp r.2) : q_le hp r.2 := by
  obtain ⟨_, _, _, h⟩ := q_p1_some h
  obtain ⟨_, _, _, h⟩ := q_p1_some h
  obtain ⟨_, _, _, h⟩ := q_p1_some h
  obtain ⟨_, _, h⟩ := q_ob_some h
  obtain ⟨_, _, h⟩ := q_ob_some h
  obtain ⟨_, _, h⟩ := q_ob_some h
  obtain ⟨vs, g1, _, h⟩ := c_set_some (show c_set hp _ v _ _ (fun hp => K nx lo _ hp) = some r from h)
  exact (q_le_set g1 (by simp)).trans (hm _ _ _ _ h)
theorem m_19 (h : q_s19 q_CO cal fr (v, c, x, y, nx, tb) lo st hp K = some r) (hm : ∀ pc lo st hp, K pc lo st hp = some r → q_le hp r.2) : q_le hp r.2 := by
  obtain ⟨_, _, _, h⟩ := q_p1_some h
  obtain ⟨_, _, _, h⟩ := q_p1_some h
  obtain ⟨_, _, _, h⟩ := q_p1_some h
  obtain ⟨_, _, _, h⟩ := q_p1_some h
  obtain ⟨_, _, _, h⟩ := q_p1_some h
  obtain ⟨_, h⟩ := q_gd_some h
  obtain ⟨_, _, h⟩ := q_ob_some h
  obtain ⟨_, _, h⟩ := q_ob_some h
  obtain ⟨_, _, h⟩ := q_ob_some h
  obtain ⟨_, _, h⟩ := q_ob_some h
  obtain ⟨_, _, h⟩ := q_ob_some h
  obtain ⟨cs, f6, h⟩ := q_ob_some (show c_cpy hp _ _ _ _ _ (fun hp => K nx lo _ hp) = some r from h)
  obtain ⟨ct, f7, h⟩ := q_ob_some h
  obtain ⟨f8, h⟩ := q_gd_some h
  rw [q_frc_eq, q_set_eq] at h
  rw [q_nth_eq] at f7
  simp only [Bool.and_eq_true] at f8
  have f11 := Nat.le_of_ble_eq_true f8.1.2
  have f12 := Nat.le_of_ble_eq_true f8.2
  exact (q_le_set f7 (by simp; omega)).trans (hm _ _ _ _ h)
theorem m_20 (h : q_s20 q_CO cal fr (v, c, x, y, nx, tb) lo st hp K = some r) (hm : ∀ pc lo st hp, K pc lo st hp = some r → q_le hp r.2) : q_le hp r.2 := by
  obtain ⟨_, h⟩ := q_gd_some h
  have h := c_new_some (show c_new hp x 0 (fun hp' => K nx lo (.ref hp.length :: st) hp') = some r from h)
  exact (q_le_app _ _).trans (hm _ _ _ _ h)
theorem m_21 (h : q_s21 q_CO cal fr (v, c, x, y, nx, tb) lo st hp K = some r) (hm : ∀ pc lo st hp, K pc lo st hp = some r → q_le hp r.2) : q_le hp r.2 := by
  obtain ⟨_, _, _, h⟩ := q_p1_some h
  obtain ⟨_, _, h⟩ := q_ob_some h
  obtain ⟨_, h⟩ := q_gd_some h
  have h := c_new_some (show c_new hp v _ (fun hp' => K nx lo (.ref hp.length :: _) hp') = some r from h)
  exact (q_le_app _ _).trans (hm _ _ _ _ h)
theorem m_22 (h : q_s22 q_CO cal fr (v, c, x, y, nx, tb) lo st hp K = some r) (hm : ∀ pc lo st hp, K pc lo st hp = some r → q_le hp r.2) : q_le hp r.2 := by
  obtain ⟨_, _, _, h⟩ := q_p1_some h
  obtain ⟨_, _, h⟩ := q_ob_some h
  obtain ⟨_, h⟩ := q_gd_some h
  have h := c_new_some (show c_new hp v _ (fun hp' => K nx lo (.ref hp.length :: _) hp') = some r from h)
  exact (q_le_app _ _).trans (hm _ _ _ _ h)
theorem m_4 (h : q_s4 q_CO cal fr (v, c, x, y, nx, tb) lo st hp K = some r) : q_le hp r.2 := by
  have h : (bif Nat.beq v 4 then q_gd (q_nil st) (some (none, hp)) else q_p1 st fun a st => q_gd (q_nil st && q_fit v a) (some (some a, hp))) = some r := h
  cases hb : Nat.beq v 4 with
  | true =>
    rw [hb, cond_true] at h
    obtain ⟨_, h⟩ := q_gd_some h
    cases h
    exact ⟨Nat.le_refl _, Nat.le_refl _⟩
  | false =>
    rw [hb, cond_false] at h
    obtain ⟨_, _, _, h⟩ := q_p1_some h
    obtain ⟨_, h⟩ := q_gd_some h
    cases h
    exact ⟨Nat.le_refl _, Nat.le_refl _⟩
theorem m_3 (h : q_s3 q_CO cal fr (v, c, x, y, nx, tb) lo st hp K = some r) (hx : x < q_nm) (hm : ∀ pc lo st hp, K pc lo st hp = some r → q_le hp r.2) (hc : ∀ x as hp r', cal x as hp = some r' → x < q_nm → q_le hp r'.2) : q_le hp r.2 := by
  obtain ⟨as, rest, _, _, h⟩ := q_pop_some _ _ _ _ h
  obtain ⟨_, h⟩ := q_gd_some h
  obtain ⟨_, h⟩ := q_gd_some h
  obtain ⟨r', hr, h⟩ := q_ob_some h
  refine (hc _ _ _ _ hr hx).trans ?_
  obtain ⟨ov, hp2⟩ := r'
  cases ov with
  | none => exact hm _ _ _ _ h
  | some a => exact hm _ _ _ _ h
end q_mono
theorem q_recall (f : Nat → Bool) : ∀ n : Nat, Nat.rec (motive := fun _ => Bool) true (fun pc r => r && f pc) n = true → ∀ pc, pc < n → f pc = true
  | 0, _, pc, h => absurd h (by omega)
  | n + 1, h, pc, hp => by
    have h : (Nat.rec (motive := fun _ => Bool) true (fun pc r => r && f pc) n && f n) = true := h
    rw [Bool.and_eq_true] at h
    by_cases e : pc = n
    · rw [e]; exact h.2
    · exact q_recall f n h.1 pc (by omega)
theorem q_ins {k pc : Nat} {mi : q_MI} (hk : k < q_nm) (h : (q_I k).2 pc = some mi) : q_ck k pc mi = true := by
  have hf := q_facts k hk
  rw [Bool.and_eq_true] at hf
  have h2 := q_recall (q_ckp k) (q_len k) hf.1 pc (q_lo k hk pc mi h)
  unfold q_ckp at h2
  rw [h] at h2
  exact h2
theorem q_cases25 (n : Nat) : n = 0 ∨ n = 1 ∨ n = 2 ∨ n = 3 ∨ n = 4 ∨ n = 5 ∨ n = 6 ∨ n = 7 ∨ n = 8 ∨ n = 9 ∨ n = 10 ∨ n = 11 ∨ n = 12 ∨ n = 13 ∨ n = 14 ∨ n = 15 ∨ n = 16 ∨ n = 17 ∨ n = 18 ∨ n = 19 ∨ n = 20 ∨ n = 21 ∨ n = 22 ∨ n = 23 ∨ n = 24 ∨ n = 25 ∨ n = 26 ∨ n = 27 ∨ n = 28 ∨ n = 29 ∨ n = 30 ∨ ∃ w, n = w + 31 := by
  by_cases h : 31 ≤ n
  · exact Or.inr (Or.inr (Or.inr (Or.inr (Or.inr (Or.inr (Or.inr (Or.inr (Or.inr (Or.inr (Or.inr (Or.inr (Or.inr (Or.inr (Or.inr (Or.inr (Or.inr (Or.inr (Or.inr (Or.inr (Or.inr (Or.inr (Or.inr (Or.inr (Or.inr (Or.inr (Or.inr (Or.inr (Or.inr (Or.inr (Or.inr ⟨n - 31, by omega⟩))))))))))))))))))))))))))))))
  · omega
theorem q_steps_le {k fr : Nat} {cal : Nat → List Value → q_H → Option (q_R Value q_H)} {r : q_R Value q_H} (hk : k < q_nm) (hc : ∀ x as hp r', cal x as hp = some r' → x < q_nm → q_le hp r'.2) : ∀ (n pc : Nat) (lo : List (Option Value)) (st : List Value) (hp : q_H), q_steps q_CO (q_I k).2 cal fr n pc lo st hp = some r → q_le hp r.2 := by
  intro n
  induction n with
  | zero => intro pc lo st hp h; cases h
  | succ n ih =>
    intro pc lo st hp h
    rw [q_steps_succ] at h
    obtain ⟨mi, hmi, h⟩ := q_ob_some h
    have hck := q_ins hk hmi
    obtain ⟨op, v, c, x, y, nx, tb⟩ := mi
    have hck : (decide (decode (q_mc k) pc = .ok (q_in pc op v c x nx tb)) && decide (nx = pc + (q_in pc op v c x nx tb).2) && q_ex k op v c x y tb && q_im op c) = true := hck
    simp only [Bool.and_eq_true, decide_eq_true_eq] at hck
    obtain ⟨⟨⟨hd, hn⟩, hx⟩, him⟩ := hck
    rcases q_cases25 op with rfl | rfl | rfl | rfl | rfl | rfl | rfl | rfl | rfl | rfl | rfl | rfl | rfl | rfl | rfl | rfl | rfl | rfl | rfl | rfl | rfl | rfl | rfl | rfl | rfl | rfl | rfl | rfl | rfl | rfl | rfl | ⟨w, rfl⟩
    · exact m_0 (cal := cal) (fr := fr) (v := v) (c := c) (x := x) (y := y) (nx := nx) (tb := tb) h ih
    · exact m_1 (cal := cal) (fr := fr) (v := v) (c := c) (x := x) (y := y) (nx := nx) (tb := tb) h ih
    · exact m_2 (cal := cal) (fr := fr) (v := v) (c := c) (x := x) (y := y) (nx := nx) (tb := tb) h ih
    · exact m_3 (cal := cal) (fr := fr) (v := v) (c := c) (x := x) (y := y) (nx := nx) (tb := tb) h (q_ex3 hx) ih hc
    · exact m_4 (cal := cal) (fr := fr) (v := v) (c := c) (x := x) (y := y) (nx := nx) (tb := tb) (lo := lo) (st := st) (K := q_steps q_CO (q_I k).2 cal fr n) h
    · exact m_5 (cal := cal) (fr := fr) (v := v) (c := c) (x := x) (y := y) (nx := nx) (tb := tb) h ih
    · exact m_6 (cal := cal) (fr := fr) (v := v) (c := c) (x := x) (y := y) (nx := nx) (tb := tb) h ih
    · exact m_7 (cal := cal) (fr := fr) (v := v) (c := c) (x := x) (y := y) (nx := nx) (tb := tb) h ih
    · exact m_8 (cal := cal) (fr := fr) (v := v) (c := c) (x := x) (y := y) (nx := nx) (tb := tb) h ih
    · exact m_9 (cal := cal) (fr := fr) (v := v) (c := c) (x := x) (y := y) (nx := nx) (tb := tb) h ih
    · exact m_10 (cal := cal) (fr := fr) (v := v) (c := c) (x := x) (y := y) (nx := nx) (tb := tb) h ih
    · exact m_11 (cal := cal) (fr := fr) (v := v) (c := c) (x := x) (y := y) (nx := nx) (tb := tb) h ih
    · exact m_12 (cal := cal) (fr := fr) (v := v) (c := c) (x := x) (y := y) (nx := nx) (tb := tb) h ih
    · exact m_13 (cal := cal) (fr := fr) (v := v) (c := c) (x := x) (y := y) (nx := nx) (tb := tb) h ih
    · exact m_14 (cal := cal) (fr := fr) (v := v) (c := c) (x := x) (y := y) (nx := nx) (tb := tb) h ih
    · exact m_15 (cal := cal) (fr := fr) (v := v) (c := c) (x := x) (y := y) (nx := nx) (tb := tb) h ih
    · exact m_16 (cal := cal) (fr := fr) (v := v) (c := c) (x := x) (y := y) (nx := nx) (tb := tb) h ih
    · exact m_17 (cal := cal) (fr := fr) (v := v) (c := c) (x := x) (y := y) (nx := nx) (tb := tb) h ih
    · exact m_18 (cal := cal) (fr := fr) (v := v) (c := c) (x := x) (y := y) (nx := nx) (tb := tb) h ih
    · exact m_19 (cal := cal) (fr := fr) (v := v) (c := c) (x := x) (y := y) (nx := nx) (tb := tb) h ih
    · exact m_20 (cal := cal) (fr := fr) (v := v) (c := c) (x := x) (y := y) (nx := nx) (tb := tb) h ih
    · exact m_21 (cal := cal) (fr := fr) (v := v) (c := c) (x := x) (y := y) (nx := nx) (tb := tb) h ih
    · exact m_22 (cal := cal) (fr := fr) (v := v) (c := c) (x := x) (y := y) (nx := nx) (tb := tb) h ih
    · exact m_23 (cal := cal) (fr := fr) (v := v) (c := c) (x := x) (y := y) (nx := nx) (tb := tb) h ih
    · exact m_24 (cal := cal) (fr := fr) (v := v) (c := c) (x := x) (y := y) (nx := nx) (tb := tb) h ih
    · exact m_25 (cal := cal) (fr := fr) (v := v) (c := c) (x := x) (y := y) (nx := nx) (tb := tb) h ih
    · exact m_26 (cal := cal) (fr := fr) (v := v) (c := c) (x := x) (y := y) (nx := nx) (tb := tb) h ih
    · exact m_2 (cal := cal) (fr := fr) (v := v) (c := c) (x := x) (y := y) (nx := nx) (tb := tb) h ih
    · exact m_14 (cal := cal) (fr := fr) (v := v) (c := c) (x := x) (y := y) (nx := nx) (tb := tb) h ih
    · exact m_14 (cal := cal) (fr := fr) (v := v) (c := c) (x := x) (y := y) (nx := nx) (tb := tb) h ih
    · exact m_6 (cal := cal) (fr := fr) (v := v) (c := c) (x := x) (y := y) (nx := nx) (tb := tb) h ih
    · exact absurd hx Bool.false_ne_true
theorem q_steps_go {p : Program} {l : Launch} {e : Env} {R : Room} {s : State} {m : MethodId} {args : Array Value} {below : List Frame} {meth : Method} {cd : Code} {D : va_G} {base : Nat} {sa : Nat → Nat} {n0 s0 k fr : Nat} {cal : Nat → List Value → q_H → Option (q_R Value q_H)} {r : q_R Value q_H} (hk : k < q_nm) (C : q_Cx p s m args meth cd R k fr n0 base sa) (hRc : r.2.length = n0 + R.cells) (hRs : q_sl r.2 = s0 + R.slots)
    (hcal : ∀ (x : Nat) (as : List Value) (hp : q_H) (r' : q_R Value q_H), cal x as hp = some r' → x < q_nm → 0 < fr ∧ hp.length ≤ r'.2.length ∧ q_sl hp ≤ q_sl r'.2 ∧ Met l (q_mn x) (q_ws x) (q_rm (fr - 1) (r'.2.length - hp.length) (q_sl r'.2 - q_sl hp)) (q_Pc D base sa as hp) (q_Qc D base sa r') (r'.2.length - hp.length) (q_sl r'.2 - q_sl hp) (fun q => base ≤ q)) :
    ∀ (n pc : Nat) (lo : List (Option Value)) (st : List Value) (hp : q_H), q_steps q_CO (q_I k).2 cal fr n pc lo st hp = some r → q_Go p l e R s m args below meth cd D base sa (q_I k).1 n0 s0 (MQ below (q_Qc D base sa r) args s (r.2.length - n0) (q_sl r.2 - s0) (fun q => base ≤ q)) pc lo st hp := by
  have hW : ∀ x, x < q_nm → q_ckw x = true := fun x hx => (Bool.and_eq_true_iff.mp (q_facts x hx)).2
  have hc : ∀ x as hp r', cal x as hp = some r' → x < q_nm → q_le hp r'.2 := fun x as hp r' h hx => ⟨(hcal x as hp r' h hx).2.1, (hcal x as hp r' h hx).2.2.1⟩
  intro n
  induction n with
  | zero => intro pc lo st hp h; cases h
  | succ n ih =>
    intro pc lo st hp h
    have hm := q_steps_le (k := k) (fr := fr) (cal := cal) (r := r) hk hc n
    rw [q_steps_succ] at h
    obtain ⟨mi, hmi, h⟩ := q_ob_some h
    have hck := q_ins hk hmi
    obtain ⟨op, v, c, x, y, nx, tb⟩ := mi
    have hck : (decide (decode (q_mc k) pc = .ok (q_in pc op v c x nx tb)) && decide (nx = pc + (q_in pc op v c x nx tb).2) && q_ex k op v c x y tb && q_im op c) = true := hck
    simp only [Bool.and_eq_true, decide_eq_true_eq] at hck
    obtain ⟨⟨⟨hd, hn⟩, hx⟩, him⟩ := hck
    rcases q_cases25 op with rfl | rfl | rfl | rfl | rfl | rfl | rfl | rfl | rfl | rfl | rfl | rfl | rfl | rfl | rfl | rfl | rfl | rfl | rfl | rfl | rfl | rfl | rfl | rfl | rfl | rfl | rfl | rfl | rfl | rfl | rfl | ⟨w, rfl⟩
    · exact g_0 (cal := cal) (fr := fr) (v := v) (c := c) (x := x) (y := y) (nx := nx) (tb := tb) C hd hn hx h ih
    · exact g_1 (cal := cal) (fr := fr) (v := v) (c := c) (x := x) (y := y) (nx := nx) (tb := tb) C hd hn hx h ih
    · exact g_2 (cal := cal) (fr := fr) (v := v) (c := c) (x := x) (y := y) (nx := nx) (tb := tb) C hd hn hx h ih
    · exact g_3 (cal := cal) (fr := fr) (v := v) (c := c) (x := x) (y := y) (nx := nx) (tb := tb) C hd hn hx h ih hm hRc hRs hW hcal
    · exact g_4 (cal := cal) (fr := fr) (v := v) (c := c) (x := x) (y := y) (nx := nx) (tb := tb) (K := q_steps q_CO (q_I k).2 cal fr n) C hd hx h
    · exact g_5 (cal := cal) (fr := fr) (v := v) (c := c) (x := x) (y := y) (nx := nx) (tb := tb) C hd hn hx h ih
    · exact g_6 (cal := cal) (fr := fr) (v := v) (c := c) (x := x) (y := y) (nx := nx) (tb := tb) C hd hn hx h ih
    · exact g_7 (cal := cal) (fr := fr) (v := v) (c := c) (x := x) (y := y) (nx := nx) (tb := tb) C hd hn hx h ih
    · exact g_8 (cal := cal) (fr := fr) (v := v) (c := c) (x := x) (y := y) (nx := nx) (tb := tb) C hd hn hx h ih
    · exact g_9 (cal := cal) (fr := fr) (v := v) (c := c) (x := x) (y := y) (nx := nx) (tb := tb) C hd hn hx h ih
    · exact g_10 (cal := cal) (fr := fr) (v := v) (c := c) (x := x) (y := y) (nx := nx) (tb := tb) C hd hn hx h ih
    · exact g_11 (cal := cal) (fr := fr) (v := v) (c := c) (x := x) (y := y) (nx := nx) (tb := tb) C hd hn hx h ih
    · exact g_12 (cal := cal) (fr := fr) (v := v) (c := c) (x := x) (y := y) (nx := nx) (tb := tb) C hd hn hx h ih
    · exact g_13 (cal := cal) (fr := fr) (v := v) (c := c) (x := x) (y := y) (nx := nx) (tb := tb) C hd hn hx h ih
    · exact g_14 (cal := cal) (fr := fr) (v := v) (c := c) (x := x) (y := y) (nx := nx) (tb := tb) C hd hn hx h ih
    · exact g_15 (cal := cal) (fr := fr) (v := v) (c := c) (x := x) (y := y) (nx := nx) (tb := tb) C hd hn hx h ih
    · exact g_16 (cal := cal) (fr := fr) (v := v) (c := c) (x := x) (y := y) (nx := nx) (tb := tb) C hd hn hx h ih
    · exact g_17 (cal := cal) (fr := fr) (v := v) (c := c) (x := x) (y := y) (nx := nx) (tb := tb) C hd hn hx h ih
    · exact g_18 (cal := cal) (fr := fr) (v := v) (c := c) (x := x) (y := y) (nx := nx) (tb := tb) C hd hn hx h ih
    · exact g_19 (cal := cal) (fr := fr) (v := v) (c := c) (x := x) (y := y) (nx := nx) (tb := tb) C hd hn hx h ih
    · exact g_20 (cal := cal) (fr := fr) (v := v) (c := c) (x := x) (y := y) (nx := nx) (tb := tb) C hd hn hx h ih hm hRc hRs
    · exact g_21 (cal := cal) (fr := fr) (v := v) (c := c) (x := x) (y := y) (nx := nx) (tb := tb) C hd hn hx h ih hm hRc hRs
    · exact g_22 (cal := cal) (fr := fr) (v := v) (c := c) (x := x) (y := y) (nx := nx) (tb := tb) C hd hn hx h ih hm hRc hRs
    · exact g_23 (cal := cal) (fr := fr) (v := v) (c := c) (x := x) (y := y) (nx := nx) (tb := tb) C hd hn hx h ih
    · exact g_24 (cal := cal) (fr := fr) (v := v) (c := c) (x := x) (y := y) (nx := nx) (tb := tb) C hd hn hx h ih
    · exact g_25 (cal := cal) (fr := fr) (v := v) (c := c) (x := x) (y := y) (nx := nx) (tb := tb) C hd hn hx h ih hm hRc hRs
    · exact g_26 (cal := cal) (fr := fr) (v := v) (c := c) (x := x) (y := y) (nx := nx) (tb := tb) C hd hn hx h ih hm hRc hRs
    · exact g_27 (cal := cal) (fr := fr) (v := v) (c := c) (x := x) (y := y) (nx := nx) (tb := tb) C hd hn hx h ih
    · exact g_28 (cal := cal) (fr := fr) (v := v) (c := c) (x := x) (y := y) (nx := nx) (tb := tb) C hd hn hx h ih
    · exact g_29 (cal := cal) (fr := fr) (v := v) (c := c) (x := x) (y := y) (nx := nx) (tb := tb) C hd hn hx h ih
    · exact g_30 (cal := cal) (fr := fr) (v := v) (c := c) (x := x) (y := y) (nx := nx) (tb := tb) C hd hn hx h ih
    · exact absurd hx Bool.false_ne_true
-- the entry
theorem q_fill_get {A : Type} : ∀ (n : Nat) (l : List (Option A)) (j : Nat) (a : A), (q_fill n l)[j]? = some (some a) → l[j]? = some (some a)
  | 0, l, j, a, h => by simp [q_fill] at h
  | n + 1, [], 0, a, h => by simp [q_fill] at h
  | n + 1, [], j + 1, a, h => by
    simp only [q_fill, List.getElem?_cons_succ] at h
    have := q_fill_get n [] j a h
    simp at this
  | n + 1, b :: l, 0, a, h => by simpa [q_fill] using h
  | n + 1, b :: l, j + 1, a, h => by
    simp only [q_fill, List.getElem?_cons_succ] at h
    rw [List.getElem?_cons_succ]
    exact q_fill_get n l j a h
theorem q_ent_args (base : Nat) (sa : Nat → Nat) : ∀ (as : List Value) (i j : Nat) (v : Value), (q_ent q_ty as)[j]? = some (some v) → (i + j, q_up base sa v) ∈ lv_args i (as.map (q_up base sa))
  | [], i, j, v, h => by simp [q_ent] at h
  | a :: l, i, j, v, h => by
    rw [List.map_cons, lv_args, q_up_cat]
    cases hb : Nat.beq (q_ty a) 1 with
    | true =>
      simp only [q_ent, hb, cond_true] at h
      match j, h with
      | 0, h =>
        simp at h
        rw [h]
        exact List.mem_cons_self
      | 1, h => simp at h
      | j + 2, h =>
        simp only [List.getElem?_cons_succ] at h
        have := q_ent_args base sa l (i + 2) j v h
        refine List.mem_cons_of_mem _ ?_
        simp only [cond_true, if_true]
        rw [show i + (j + 2) = i + 2 + j by omega]
        exact this
    | false =>
      simp only [q_ent, hb, cond_false] at h
      match j, h with
      | 0, h =>
        simp at h
        rw [h]
        exact List.mem_cons_self
      | j + 1, h =>
        simp only [List.getElem?_cons_succ] at h
        have := q_ent_args base sa l (i + 1) j v h
        refine List.mem_cons_of_mem _ ?_
        rw [if_neg (by decide), show i + (j + 1) = i + 1 + j by omega]
        exact this
theorem q_sl_cats (base : Nat) (sa : Nat → Nat) : ∀ as : List Value, (lg_sl (as.map (q_up base sa))).length = q_cats q_ty as
  | [] => rfl
  | a :: l => by
    have h := q_sl_cats base sa l
    unfold lg_sl at h ⊢
    rw [List.map_cons, List.flatMap_cons, List.length_append, h, q_cats, q_up_cat]
    cases Nat.beq (q_ty a) 1 <;> rfl
/-- THE MACHINE DOES WHAT THE LISTS DO -/
theorem q_sound (l : Launch) (D : va_G) (base : Nat) (sa : Nat → Nat) (fu : Nat) : ∀ (d k : Nat) (as : List Value) (hp : q_H) (r : q_R Value q_H), q_run q_CO q_I fu d k as hp = some r → k < q_nm → 0 < d ∧ hp.length ≤ r.2.length ∧ q_sl hp ≤ q_sl r.2 ∧ Met l (q_mn k) (q_ws k) (q_rm (d - 1) (r.2.length - hp.length) (q_sl r.2 - q_sl hp)) (q_Pc D base sa as hp) (q_Qc D base sa r) (r.2.length - hp.length) (q_sl r.2 - q_sl hp) (fun q => base ≤ q) := by
  intro d
  induction d with
  | zero => intro k as hp r h; cases h
  | succ d ih =>
    intro k as hp r h hk
    rw [q_run_succ] at h
    obtain ⟨hcat, h⟩ := q_gd_some h
    rw [q_frc_eq] at h
    have hcat : q_cats q_ty as ≤ (q_I k).1 := Nat.le_of_ble_eq_true hcat
    have hle := q_steps_le hk (fun x as hp r' h hx => ⟨(ih x as hp r' h hx).2.1, (ih x as hp r' h hx).2.2.1⟩) fu 0 _ [] hp h
    refine ⟨Nat.succ_pos d, hle.1, hle.2, ?_⟩
    obtain ⟨-, w3, w4, w5, w6, w7, w8, w9⟩ := q_ckw_get (Bool.and_eq_true_iff.mp (q_facts k hk)).2
    refine va_MetF (cc := q_mc k) (maxL := (q_I k).1) (ret := q_mr k) w5 rfl ?_
    intro p e s m args below meth cd s₁ B hml hv
    obtain ⟨rfl, hsz, hH, hEN⟩ := hv
    have hts := atoms_spec (ws := q_ws k) B.pre
    have hl := lv_entry (as.map (q_up base sa)) (n := (q_I k).1) (by rw [q_sl_cats]; exact hcat)
    rw [lg_entry_eq]
    have C : q_Cx p s m (as.map (q_up base sa)).toArray meth cd (q_rm d (r.2.length - hp.length) (q_sl r.2 - q_sl hp)) k d hp.length base sa := ⟨B.exec, B.bytes, hml, findClass_of_methodNamed B.named, fun w hw => hts w (List.mem_cons_of_mem _ hw), B.returns, B.notSynchronized, (name_of_methodNamed B.named B.method).1, rfl, rfl, hEN, hsz⟩
    have hgo := q_steps_go (p := p) (l := l) (e := e) (below := below) (D := D) (n0 := hp.length) (s0 := q_sl hp) (r := r) hk C (by show r.2.length = hp.length + (r.2.length - hp.length); have := hle.1; omega) (by show q_sl r.2 = q_sl hp + (q_sl r.2 - q_sl hp); have := hle.2; omega) ih fu 0 _ [] hp h
    exact hgo s.heap [] 0 0 _ hH va_S.rf (lv_has_sub hl (fun q hq => by
      obtain ⟨j, v, h1, rfl⟩ := (q_lp_mem base sa _ 0 q).mp hq
      exact q_ent_args base sa as 0 j v (q_fill_get _ _ j v h1))) rfl rfl

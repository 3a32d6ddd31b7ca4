/-- arguments of any number -/
def s_fa : List s_Q → List Value → Prop
  | [], [] => True
  | q :: qs, v :: vs => ((q = (0, -2147483648, 2147483647) ∧ ∃ x : Int32, v = .int x) ∨ (q = (1, -9223372036854775808, 9223372036854775807) ∧ ∃ x : Int64, v = .long x)) ∧ s_fa qs vs
  | _, _ => False
def s_num (v : Value) : Int := match v with
  | .int x => x.toInt
  | .long x => x.toInt
  | _ => 0
theorem s_fa_len : ∀ {qs : List s_Q} {vs : List Value}, s_fa qs vs → vs.length = qs.length
  | [], [], _ => rfl
  | _ :: _, _ :: _, h => by simp [s_fa_len h.2]
  | [], _ :: _, h => h.elim
  | _ :: _, [], h => h.elim
theorem s_fa_get : ∀ {qs : List s_Q} {vs : List Value}, s_fa qs vs → ∀ (i : Nat) (q : s_Q), qs[i]? = some q → ∃ v, vs[i]? = some v ∧ s_vk q.1 (s_num v) v ∧ q.2.1 ≤ s_num v ∧ s_num v ≤ q.2.2
  | [], [], _, i, q, h => by cases h
  | q :: qs, v :: vs, h, i, q', hq => by
    cases i with
    | succ i => exact s_fa_get h.2 i q' hq
    | zero =>
      cases hq
      refine ⟨v, rfl, ?_⟩
      rcases h.1 with ⟨rfl, x, rfl⟩ | ⟨rfl, x, rfl⟩
      · exact ⟨⟨rfl, rfl⟩, (s_b32 x).1, (s_b32 x).2⟩
      · exact ⟨⟨rfl, rfl⟩, (s_b64 x).1, (s_b64 x).2⟩
  | [], _ :: _, h, _, _, _ => h.elim
  | _ :: _, [], h, _, _, _ => h.elim
def s_rets : List s_O → Bool
  | [] => true
  | o :: l => (match o.2.1 with
    | some P => Nat.beq P.1 0
    | none => false) && s_rets l
theorem s_rets_ok : ∀ {os : List s_O}, s_rets os = true → ∀ o ∈ os, ∃ P, o.2.1 = some P ∧ P.1 = 0
  | [], _, o, ho => by cases ho
  | a :: l, h, o, ho => by
    rw [s_rets, Bool.and_eq_true] at h
    rcases List.mem_cons.mp ho with rfl | ho
    · have h1 := h.1
      cases hr : o.2.1 with
      | none => rw [hr] at h1; cases h1
      | some P => rw [hr] at h1; exact ⟨P, rfl, s_beq h1⟩
    · exact s_rets_ok h.2 o ho
/-- a call of the law's: it ends with an int, and the ranges are kept -/
theorem s_root {k c t dp : Nat} {qs : List s_Q} {mask : List Nat} {os : List s_O} {As : List Value} {hp : q_H} (hU : (k, dp, (10 + t, (c : Int), (c : Int)) :: qs, [], mask, os) ∈ s_sm k) (hdp : dp ≤ 12) (hc : s_ct[c]? = some t) (hr : s_rets os = true) (hA : s_fa qs As) (H : s_hok hp) : ∃ (x : Int32) (hp' : q_H), q_run q_CO q_I 1000000 12 k (.ref c :: As) hp = some (some (.int x), hp') ∧ s_hok hp' ∧ s_fm mask hp hp' ∧ ∃ o ∈ os, s_eo (fun i => match i with
    | 0 => (c : Int)
    | i + 1 => s_num (As.getD i .null)) (qs.length + 1) o (some (.int x), hp') := by
  have h1 := s_safe hU hdp
  have hpre : s_pre (fun i => match i with
    | 0 => (c : Int)
    | i + 1 => s_num (As.getD i .null)) ((10 + t, (c : Int), (c : Int)) :: qs) [] (.ref c :: As) hp := by
    refine ⟨by simp [s_fa_len hA], fun i q hq => ?_, fun i t c p q hq => by cases hq⟩
    match i, hq with
    | 0, hq =>
      cases hq
      exact ⟨_, rfl, ⟨t, rfl, rfl, hc⟩, Int.le_refl _, Int.le_refl _⟩
    | i + 1, hq =>
      obtain ⟨v, g1, g2, g3, g4⟩ := s_fa_get hA i q hq
      have e : As.getD i .null = v := by rw [List.getD_eq_getElem?_getD, g1]; rfl
      simp only [e]
      exact ⟨v, g1, g2, g3, g4⟩
  obtain ⟨r, h2, h3, h4, o, h5, h6⟩ := h1 _ _ hp H hpre
  obtain ⟨P, h7, h8⟩ := s_rets_ok hr o h5
  obtain ⟨R, hp'⟩ := r
  have h9 := h6.2.2.1
  rw [h7] at h9
  cases R with
  | none => exact h9.elim
  | some v =>
    obtain ⟨z, h10, -⟩ := h9
    rw [h8] at h10
    obtain ⟨x, rfl, -⟩ := s_vk_int h10
    exact ⟨x, hp', h2, h3, h4, o, h5, h6⟩
/-- the receiver's cell -/
theorem s_recv {hp : q_H} {c t : Nat} {D : s_D} (H : s_hok hp) (hc : s_ct[c]? = some t) (hD : s_td t = some D) : ∃ vs, hp[c]? = some (D.1, vs) := by
  obtain ⟨D', d, h1, h2, h3⟩ := s_cell H hc
  rw [hD] at h1
  cases h1
  exact ⟨d.2, by rw [h2, ← h3.1]⟩
theorem s_root2 {U : s_U} {k c t : Nat} {qs : List s_Q} {As : List Value} {hp : q_H} (hU : U ∈ s_sm k) (h1 : U.1 = k) (hdp : U.2.1 ≤ 12) (hq : U.2.2.1 = (10 + t, (c : Int), (c : Int)) :: qs) (hm : U.2.2.2.1 = []) (hc : s_ct[c]? = some t) (hr : s_rets U.2.2.2.2.2 = true) (hA : s_fa qs As) (H : s_hok hp) : ∃ (x : Int32) (hp' : q_H), q_run q_CO q_I 1000000 12 k (.ref c :: As) hp = some (some (.int x), hp') ∧ s_hok hp' ∧ s_fm U.2.2.2.2.1 hp hp' ∧ ∃ o ∈ U.2.2.2.2.2, s_eo (fun i => match i with
    | 0 => (c : Int)
    | i + 1 => s_num (As.getD i .null)) (qs.length + 1) o (some (.int x), hp') := by
  obtain ⟨k', dp, q0, ps, mask, os⟩ := U
  have h1 : k' = k := h1
  have hq : q0 = (10 + t, (c : Int), (c : Int)) :: qs := hq
  have hm : ps = [] := hm
  subst h1 hq hm
  exact s_root hU hdp hc hr hA H

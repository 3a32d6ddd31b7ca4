def e_iv : Int → List Int → List (Int × Int)
  | lo, [] => [(lo, 2147483647)]
  | lo, c :: cs => (lo, c - 1) :: e_iv c cs
theorem e_iv_ok : ∀ (cs : List Int) (lo x : Int), lo ≤ x → x ≤ 2147483647 → ∃ p ∈ e_iv lo cs, p.1 ≤ x ∧ x ≤ p.2
  | [], lo, x, h1, h2 => ⟨(lo, 2147483647), by simp [e_iv], h1, h2⟩
  | c :: cs, lo, x, h1, h2 => by
    by_cases h : x < c
    · exact ⟨(lo, c - 1), by simp [e_iv], h1, by show x ≤ c - 1; omega⟩
    · obtain ⟨p, h3, h4⟩ := e_iv_ok cs c x (by omega) h2
      exact ⟨p, by rw [e_iv]; exact List.mem_cons_of_mem _ h3, h4⟩
/-- the class's answer and the reference's are one number -/
noncomputable def e_chk (k1 k2 : Nat) (more as : List q_IV) : Bool := match q_irun 8 k1 ((2, 0, 0) :: (as ++ more)) q_pk0 with
  | some (some (0, a, b), ph) => i_beq a b && (match p_tag ph 133 with
      | some t => Nat.beq t 6
      | none => false) && (match q_irun 8 k2 ((2, 133, 133) :: (as ++ more)) ph with
      | some (some (0, a', b'), _) => i_beq a' b' && i_beq a a'
      | _ => false)
  | _ => false
noncomputable def e_all (f : List q_IV → Bool) : List (List Int) → List q_IV → Bool
  | [], acc => f acc
  | cs :: rest, acc => (e_iv (-2147483648) cs).all fun p => e_all f rest (acc ++ [(0, p.1, p.2)])
theorem e_all_ok {f : List q_IV → Bool} : ∀ (doms : List (List Int)) (acc : List q_IV) (xs : List Int32), xs.length = doms.length → e_all f doms acc = true → ∃ as, r_l (xs.map Value.int) as ∧ f (acc ++ as) = true
  | [], acc, [], _, h => ⟨[], trivial, by rw [List.append_nil]; exact h⟩
  | [], acc, _ :: _, h, _ => by simp at h
  | _ :: _, acc, [], h, _ => by simp at h
  | cs :: rest, acc, x :: xs, hl, h => by
    rw [e_all] at h
    obtain ⟨p, h1, h2, h3⟩ := e_iv_ok cs (-2147483648) x.toInt (by have := Int32.le_toInt x; omega) (by have := Int32.toInt_lt x; omega)
    have h4 := List.all_eq_true.mp h p h1
    obtain ⟨as, h5, h6⟩ := e_all_ok rest _ xs (by simpa using hl) h4
    refine ⟨(0, p.1, p.2) :: as, ⟨⟨rfl, h2, h3⟩, h5⟩, ?_⟩
    rw [List.append_assoc] at h6
    exact h6
/-- what the law asks of one pair of calls -/
def e_same (k1 k2 : Nat) (as : List Value) : Prop := ∃ (x : Int32) (hp1 hp2 : q_H), q_run q_CO q_I 1000000 8 k1 (.ref 0 :: as) q_hp0 = some (some (.int x), hp1) ∧ q_run q_CO q_I 1000000 8 k2 (.ref 133 :: as) hp1 = some (some (.int x), hp2) ∧ hp1.length = 146 ∧ q_sl hp1 = 2652 ∧ hp2.length = 146 ∧ q_sl hp2 = 2652 ∧ c_tag hp1 133 = some 6
theorem r_one {r : q_R Value q_H} {a b : Int} {ph : p_H} (h : r_r r (some (0, a, b), ph)) (e : a = b) : ∃ x : Int32, r.1 = some (.int x) ∧ x.toInt = a := by
  obtain ⟨o, hp⟩ := r
  cases o with
  | none => cases h.1
  | some v =>
    obtain ⟨x, rfl, h1, h2⟩ := r_int (show r_v v (0, a, b) from h.1)
    exact ⟨x, rfl, by omega⟩
theorem r_l_app2 {as : List Value} {bs : List q_IV} {ms : List Value} {ns : List q_IV} (h1 : r_l as bs) (h2 : r_l ms ns) : r_l (as ++ ms) (bs ++ ns) := r_l_app h1 h2
theorem e_chk_ok {k1 k2 : Nat} {more as : List q_IV} {vs ms : List Value} (hk1 : k1 < q_nm) (hk2 : k2 < q_nm) (h : e_chk k1 k2 more as = true) (hv : r_l vs as) (hm : r_l ms more) : e_same k1 k2 (vs ++ ms) := by
  unfold e_chk at h
  split at h
  · rename_i a b ph heq
    rw [Bool.and_eq_true, Bool.and_eq_true] at h
    obtain ⟨⟨h1, h2⟩, h3⟩ := h
    have hl := r_l_app2 hv hm
    obtain ⟨r, h4, h5⟩ := r_run 1000000 8 k1 (.ref 0 :: (vs ++ ms)) _ q_hp0 q_pk0 _ heq hk1 ⟨⟨rfl, rfl⟩, hl⟩ q_r0
    obtain ⟨x, e1, e2⟩ := r_one h5 (i_beq_iff.mp h1)
    split at h3
    · rename_i a' b' ph' heq2
      rw [Bool.and_eq_true] at h3
      obtain ⟨r', h6, h7⟩ := r_run 1000000 8 k2 (.ref 133 :: (vs ++ ms)) _ r.2 ph _ heq2 hk2 ⟨⟨rfl, rfl⟩, hl⟩ h5.2
      obtain ⟨x', e3, e4⟩ := r_one h7 (i_beq_iff.mp h3.1)
      have e5 : x = x' := Int32.toInt_inj.mp (by have := i_beq_iff.mp h3.2; omega)
      subst e5
      refine ⟨x, r.2, r'.2, by rw [h4]; obtain ⟨o, hp⟩ := r; cases e1; rfl, by rw [h6]; obtain ⟨o, hp⟩ := r'; cases e3; rfl, h5.2.1, h5.2.2.1, h7.2.1, h7.2.2.1, ?_⟩
      cases ht : p_tag ph 133 with
      | none => rw [ht] at h2; cases h2
      | some t =>
        rw [ht] at h2
        have h2 : t = 6 := Nat.eq_of_beq_eq_true h2
        subst h2
        exact r_tag h5.2 ht
    · cases h3
  · cases h
theorem e_use {k1 k2 : Nat} {doms : List (List Int)} (xs : List Int32) (hk1 : k1 < q_nm) (hk2 : k2 < q_nm) (hl : xs.length = doms.length) (h : e_all (e_chk k1 k2 []) doms [] = true) : e_same k1 k2 (xs.map Value.int) := by
  obtain ⟨as, h1, h2⟩ := e_all_ok doms [] xs hl h
  have h3 := e_chk_ok hk1 hk2 h2 h1 (show r_l [] [] from trivial)
  rw [List.append_nil] at h3
  exact h3
theorem e_useL {k1 k2 : Nat} {doms : List (List Int)} (xs : List Int32) (z : Int64) (hk1 : k1 < q_nm) (hk2 : k2 < q_nm) (hl : xs.length = doms.length) (h : e_all (e_chk k1 k2 [(1, -9223372036854775808, 9223372036854775807)]) doms [] = true) : e_same k1 k2 (xs.map Value.int ++ [.long z]) := by
  obtain ⟨as, h1, h2⟩ := e_all_ok doms [] xs hl h
  exact e_chk_ok hk1 hk2 h2 h1 ⟨⟨rfl, by have := Int64.le_toInt z; simp at this ⊢; omega, by have := Int64.toInt_lt z; simp at this ⊢; omega⟩, trivial⟩

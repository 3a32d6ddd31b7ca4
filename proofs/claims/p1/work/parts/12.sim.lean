-- heaps
def r_s (kd : Nat) (v : Value) (lo hi : Nat) : Prop := if kd = 2 then v = .ref lo else if kd = 1 then ∃ x : Int64, v = .long x ∧ p_dec lo ≤ x.toInt ∧ x.toInt ≤ p_dec hi else ∃ x : Int32, v = .int x ∧ p_dec lo ≤ x.toInt ∧ x.toInt ≤ p_dec hi
def r_c (c : p_C) (d : Nat × List Value) : Prop := d.1 = c.1 ∧ d.2.length = c.2.1 ∧ ∀ (i : Nat) (v : Value), d.2[i]? = some v → r_s (p_kd c.1 i) v (p_gl c.2.2.1 i) (p_gl c.2.2.2 i)
/-- 146 cells of 2652 places in all, before and behind -/
def r_h (hp : q_H) (ph : p_H) : Prop := hp.length = 146 ∧ q_sl hp = 2652 ∧ ∀ (h : Nat) (c : p_C), p_cell ph h = some c → c.1 < 15 → ∃ d, hp[h]? = some d ∧ r_c c d
theorem p_kd_le (t i : Nat) : p_kd t i ≤ 2 := by
  unfold p_kd
  cases Nat.blt t 7 <;> cases Nat.testBit (p_mk t) i <;> cases Nat.beq t 11 <;> cases Nat.blt 12 t <;> decide
theorem p_val_ok {kd lo hi : Nat} {v : Value} {a : q_IV} (h : p_val kd lo hi = some a) (hk : kd ≤ 2) (hs : r_s kd v lo hi) : r_v v a := by
  have hv : kd = 0 ∨ kd = 1 ∨ kd = 2 := by omega
  rcases hv with rfl | rfl | rfl
  · have h : i_fz some (0, p_dec lo, p_dec hi) = some a := h
    rw [i_fz_eq] at h
    cases h
    obtain ⟨x, rfl, h1, h2⟩ := (show ∃ x : Int32, v = .int x ∧ p_dec lo ≤ x.toInt ∧ x.toInt ≤ p_dec hi from hs)
    exact ⟨rfl, h1, h2⟩
  · have h : i_fz some (1, p_dec lo, p_dec hi) = some a := h
    rw [i_fz_eq] at h
    cases h
    obtain ⟨x, rfl, h1, h2⟩ := (show ∃ x : Int64, v = .long x ∧ p_dec lo ≤ x.toInt ∧ x.toInt ≤ p_dec hi from hs)
    exact ⟨rfl, h1, h2⟩
  · have h : i_fN lo (fun a => some ((2, .ofNat a, .ofNat a) : q_IV)) = some a := h
    rw [i_fN_eq] at h
    cases h
    have hs : v = .ref lo := hs
    subst hs
    exact ⟨rfl, rfl⟩
theorem r_tag {hp : q_H} {ph : p_H} {h t : Nat} (hh : r_h hp ph) (hg : p_tag ph h = some t) : c_tag hp h = some t := by
  obtain ⟨c, h1, h2⟩ := q_ob_some hg
  obtain ⟨u, n, lo, hi⟩ := c
  obtain ⟨h3, h4⟩ := q_gd_some (show q_gd (Nat.blt u 15) (some u) = some t from h2)
  cases h4
  obtain ⟨d, h5, h6⟩ := hh.2.2 h _ h1 (Nat.lt_of_succ_le (Nat.le_of_ble_eq_true h3))
  unfold c_tag
  rw [q_nth_eq, h5]
  exact congrArg some h6.1
theorem r_get {hp : q_H} {ph : p_H} {h t i : Nat} {a : q_IV} (hh : r_h hp ph) (hg : p_get ph h t i = some a) : ∃ v, c_get hp h t i = some v ∧ r_v v a := by
  obtain ⟨c, h1, h2⟩ := q_ob_some hg
  obtain ⟨u, n, lo, hi⟩ := c
  obtain ⟨h3, h4⟩ := q_gd_some (show q_gd (Nat.blt u 15 && Nat.beq u t && Nat.blt i n) (p_val (p_kd t i) (p_gl lo i) (p_gl hi i)) = some a from h2)
  rw [Bool.and_eq_true, Bool.and_eq_true] at h3
  obtain ⟨⟨h5, h6⟩, h7⟩ := h3
  have h6 : u = t := Nat.eq_of_beq_eq_true h6
  subst h6
  have h7 : i < n := Nat.lt_of_succ_le (Nat.le_of_ble_eq_true h7)
  obtain ⟨⟨d1, d2⟩, h8, h9, h10, h11⟩ := hh.2.2 h _ h1 (Nat.lt_of_succ_le (Nat.le_of_ble_eq_true h5))
  simp only at h9 h10 h11
  subst h9
  have hi' : i < d2.length := by omega
  have h12 : d2[i]? = some d2[i] := List.getElem?_eq_getElem hi'
  refine ⟨d2[i], ?_, p_val_ok h4 (p_kd_le _ _) (h11 i _ h12)⟩
  unfold c_get
  rw [q_nth_eq, h8]
  show q_gd (Nat.beq d1 d1) (q_nth d2 i) = _
  rw [Nat.beq_refl, q_nth_eq]
  exact h12
theorem p_put_some {B : Type} {ph : p_H} {h : Nat} {c : p_C} {k : p_H → Option B} {r : B} (hg : p_put ph h c k = some r) : ∃ ph', k ph' = some r ∧ ∀ (h' : Nat) (c' : p_C), p_cell ph' h' = some c' → (h' = h ∧ c' = c) ∨ (h' ≠ h ∧ p_cell ph h' = some c') := by
  obtain ⟨row, h1, h2⟩ := q_ob_some hg
  rw [q_set_eq, q_set_eq] at h2
  rw [q_nth_eq] at h1
  have h1 : ph[h / 12]? = some row := h1
  refine ⟨_, h2, fun h' c' hc => ?_⟩
  obtain ⟨row', h3, h4⟩ := q_ob_some hc
  rw [q_nth_eq] at h3 h4
  have h3 : (ph.set (h / 12) (row.set (h % 12) c))[h' / 12]? = some row' := h3
  have h4 : row'[h' % 12]? = some c' := h4
  have hl : h / 12 < ph.length := (List.getElem?_eq_some_iff.mp h1).1
  by_cases e : h' / 12 = h / 12
  · rw [e, List.getElem?_set_self hl] at h3
    cases h3
    by_cases e2 : h' % 12 = h % 12
    · have e3 : h' = h := by omega
      rw [e2] at h4
      by_cases hl2 : h % 12 < row.length
      · rw [List.getElem?_set_self hl2] at h4
        exact Or.inl ⟨e3, (Option.some.inj h4).symm⟩
      · rw [List.getElem?_eq_none (by simpa using hl2)] at h4
        cases h4
    · rw [List.getElem?_set_ne (Ne.symm e2)] at h4
      refine Or.inr ⟨fun q => e2 (by rw [q]), ?_⟩
      unfold p_cell
      rw [q_nth_eq]
      show q_ob (ph[h' / 12]?) _ = _
      rw [e, h1]
      show q_nth row (h' % 12) = _
      rw [q_nth_eq]
      exact h4
  · rw [List.getElem?_set_ne (Ne.symm e)] at h3
    refine Or.inr ⟨fun q => e (by rw [q]), ?_⟩
    unfold p_cell
    rw [q_nth_eq]
    show q_ob (ph[h' / 12]?) _ = _
    rw [h3]
    show q_nth row' (h' % 12) = _
    rw [q_nth_eq]
    exact h4
theorem r_put {hp : q_H} {ph ph' : p_H} {h : Nat} {c : p_C} {d d0 : Nat × List Value} (hh : r_h hp ph) (hl : h < hp.length) (hg : hp[h]? = some d0) (hlen : d.2.length = d0.2.length) (hc : r_c c d) (hp' : ∀ (h' : Nat) (c' : p_C), p_cell ph' h' = some c' → (h' = h ∧ c' = c) ∨ (h' ≠ h ∧ p_cell ph h' = some c')) : r_h (hp.set h d) ph' := by
  refine ⟨by rw [List.length_set]; exact hh.1, by rw [q_sl_set hp h d0 d hg hlen]; exact hh.2.1, ?_⟩
  intro h' c' hc' ht
  rcases hp' h' c' hc' with ⟨rfl, rfl⟩ | ⟨h1, h2⟩
  · exact ⟨d, List.getElem?_set_self hl, hc⟩
  · obtain ⟨d', h3, h4⟩ := hh.2.2 h' c' h2 ht
    exact ⟨d', by rw [List.getElem?_set_ne (Ne.symm h1)]; exact h3, h4⟩
theorem p_gl_eq (L : List Nat) (i : Nat) : p_gl L i = match L[i / 16]? with
  | some N => p_dg N (i % 16)
  | none => 0 := by
  unfold p_gl
  rw [q_nth_eq]
  rfl
theorem p_sl_some {B : Type} {L : List Nat} {i w : Nat} {k : List Nat → Option B} {r : B} (hw : w < 2 ^ 64) (h : p_sl L i w k = some r) : ∃ L', k L' = some r ∧ ∀ j, p_gl L' j = if j = i then w else p_gl L j := by
  obtain ⟨N, h1, h2⟩ := q_ob_some h
  rw [i_fN_eq, q_set_eq] at h2
  rw [q_nth_eq] at h1
  have h1 : L[i / 16]? = some N := h1
  have hl : i / 16 < L.length := (List.getElem?_eq_some_iff.mp h1).1
  refine ⟨_, h2, fun j => ?_⟩
  show p_gl (L.set (i / 16) (p_sd N (i % 16) w)) j = _
  rw [p_gl_eq, p_gl_eq]
  by_cases e : j / 16 = i / 16
  · rw [e, List.getElem?_set_self hl, h1]
    simp only
    rw [p_sd_dg _ _ _ _ hw]
    by_cases e2 : j % 16 = i % 16
    · rw [if_pos e2, if_pos (by omega)]
    · rw [if_neg e2, if_neg (by intro q; exact e2 (by rw [q]))]
  · rw [List.getElem?_set_ne (Ne.symm e), if_neg (by intro q; exact e (by rw [q]))]
theorem r_set {hp : q_H} {ph : p_H} {h t i : Nat} {a : q_IV} {v : Value} {kA : p_H → Option (q_R q_IV p_H)} {rA : q_R q_IV p_H} (hh : r_h hp ph) (hv : r_v v a) (hg : p_set ph h t i a kA = some rA) : ∃ (hp' : q_H) (ph' : p_H), kA ph' = some rA ∧ r_h hp' ph' ∧ ∀ (kC : q_H → Option (q_R Value q_H)), c_set hp h t i v kC = kC hp' := by
  obtain ⟨c, h1, h2⟩ := q_ob_some hg
  obtain ⟨u, n, lo, hi⟩ := c
  obtain ⟨w, z, z'⟩ := a
  obtain ⟨h3, h4⟩ := q_gd_some (show q_gd (Nat.blt u 15 && Nat.beq u t && Nat.blt i n && Nat.beq (p_kd t i) w && Nat.blt w 2 && p_ok z && p_ok z') (p_sl lo i (p_enc z) fun lo => p_sl hi i (p_enc z') fun hi => p_put ph h (u, n, lo, hi) kA) = some rA from h2)
  simp only [Bool.and_eq_true] at h3
  obtain ⟨⟨⟨⟨⟨⟨k1, k2⟩, k3⟩, k4⟩, k5⟩, k6⟩, k7⟩ := h3
  have k2 : u = t := Nat.eq_of_beq_eq_true k2
  have k4 : p_kd t i = w := Nat.eq_of_beq_eq_true k4
  have k3 : i < n := Nat.lt_of_succ_le (Nat.le_of_ble_eq_true k3)
  have k5 : w < 2 := Nat.lt_of_succ_le (Nat.le_of_ble_eq_true k5)
  subst k2
  obtain ⟨⟨d1, d2⟩, h8, h9, h10, h11⟩ := hh.2.2 h _ h1 (Nat.lt_of_succ_le (Nat.le_of_ble_eq_true k1))
  simp only at h9 h10 h11
  subst h9
  have hl : h < hp.length := (List.getElem?_eq_some_iff.mp h8).1
  obtain ⟨e1, e2⟩ := p_enc_ok k6
  obtain ⟨e3, e4⟩ := p_enc_ok k7
  obtain ⟨lo2, h4, g5⟩ := p_sl_some e1 h4
  obtain ⟨hi2, h4, g6⟩ := p_sl_some e3 h4
  obtain ⟨ph', h5, h6⟩ := p_put_some h4
  refine ⟨hp.set h (d1, d2.set i v), ph', h5, r_put hh hl h8 (by simp) (c := (d1, n, lo2, hi2)) ⟨rfl, by simp [h10], fun j v' hv' => ?_⟩ h6, fun kC => ?_⟩
  · show r_s (p_kd d1 j) v' (p_gl lo2 j) (p_gl hi2 j)
    rw [g5 j, g6 j]
    by_cases e : j = i
    · subst e
      rw [if_pos rfl, if_pos rfl]
      have hv' : (d2.set j v)[j]? = some v' := hv'
      rw [List.getElem?_set_self (by omega)] at hv'
      cases hv'
      rw [k4]
      have hw : w = 0 ∨ w = 1 := by omega
      rcases hw with rfl | rfl
      · obtain ⟨x, rfl, x1, x2⟩ := r_int hv
        exact ⟨x, rfl, by rw [e2]; exact x1, by rw [e4]; exact x2⟩
      · obtain ⟨x, rfl, x1, x2⟩ := r_long hv
        exact ⟨x, rfl, by rw [e2]; exact x1, by rw [e4]; exact x2⟩
    · rw [if_neg e, if_neg e]
      have hv' : (d2.set i v)[j]? = some v' := hv'
      rw [List.getElem?_set_ne (Ne.symm e)] at hv'
      exact h11 j v' hv'
  · unfold c_set
    rw [q_nth_eq, h8]
    show q_gd (Nat.beq d1 d1 && Nat.blt i d2.length) _ = _
    rw [Nat.beq_refl, show Nat.blt i d2.length = true from Nat.ble_eq.mpr (by omega)]
    show q_set d2 i v (fun vs => q_set hp h (d1, vs) kC) = _
    rw [q_set_eq, q_set_eq]
theorem r_cpy {hp : q_H} {ph : p_H} {hs sp hd dp n : Nat} {kA : p_H → Option (q_R q_IV p_H)} {rA : q_R q_IV p_H} (hh : r_h hp ph) (hg : p_cpy ph hs sp hd dp n kA = some rA) : ∃ (hp' : q_H) (ph' : p_H), kA ph' = some rA ∧ r_h hp' ph' ∧ ∀ (kC : q_H → Option (q_R Value q_H)), c_cpy hp hs sp hd dp n kC = kC hp' := by
  obtain ⟨cs, h1, h2⟩ := q_ob_some hg
  obtain ⟨cd, h3, h4⟩ := q_ob_some h2
  obtain ⟨t, m, lo, hi⟩ := cs
  obtain ⟨u, m', lo', hi'⟩ := cd
  obtain ⟨h5, h6⟩ := q_gd_some (show q_gd (Nat.beq t u && (Nat.beq t 10 || Nat.beq t 11) && Nat.beq sp 0 && Nat.beq dp 0 && Nat.beq n m && Nat.beq n m') (p_put ph hd (t, m, lo, hi) kA) = some rA from h4)
  obtain ⟨ph', h7, h8⟩ := p_put_some h6
  simp only [Bool.and_eq_true, Bool.or_eq_true] at h5
  obtain ⟨⟨⟨⟨⟨k1, k2⟩, k3⟩, k4⟩, k5⟩, k6⟩ := h5
  have k1 : t = u := Nat.eq_of_beq_eq_true k1
  have k3 : sp = 0 := Nat.eq_of_beq_eq_true k3
  have k4 : dp = 0 := Nat.eq_of_beq_eq_true k4
  have k5 : n = m := Nat.eq_of_beq_eq_true k5
  have k6 : n = m' := Nat.eq_of_beq_eq_true k6
  subst k1 k3 k4 k5
  have ht : t = 10 ∨ t = 11 := k2.imp Nat.eq_of_beq_eq_true Nat.eq_of_beq_eq_true
  obtain ⟨⟨d1, d2⟩, g1, g2, g3, g4⟩ := hh.2.2 hs _ h1 (by show t < 15; omega)
  obtain ⟨⟨b1, b2⟩, f1, f2, f3, f4⟩ := hh.2.2 hd _ h3 (by show t < 15; omega)
  simp only at g2 g3 g4 f2 f3 f4
  subst g2
  subst f2
  have hl : hd < hp.length := (List.getElem?_eq_some_iff.mp f1).1
  refine ⟨hp.set hd (b1, d2), ph', h7, r_put hh hl f1 (by show d2.length = b2.length; omega) ⟨rfl, g3, g4⟩ h8, fun kC => ?_⟩
  unfold c_cpy
  rw [q_nth_eq, g1, q_nth_eq, f1]
  show q_gd (Nat.beq b1 b1 && (Nat.beq b1 10 || Nat.beq b1 11) && Nat.ble (0 + n) d2.length && Nat.ble (0 + n) b2.length) _ = _
  rw [Nat.beq_refl, Bool.or_eq_true_iff.mpr k2, Nat.ble_eq.mpr (show 0 + n ≤ d2.length by omega), Nat.ble_eq.mpr (show 0 + n ≤ b2.length by omega)]
  show q_frc (b2.take 0 ++ ((d2.drop 0).take n ++ b2.drop (0 + n))) (fun vs => q_set hp hd (b1, vs) kC) = _
  rw [q_frc_eq, q_set_eq]
  congr 3
  rw [List.take_zero, List.nil_append, List.drop_zero, List.take_of_length_le (by omega), List.drop_eq_nil_of_le (by omega), List.append_nil]
-- joins
def r_r (r : q_R Value q_H) (rA : q_R q_IV p_H) : Prop := (match r.1, rA.1 with
  | none, none => True
  | some v, some a => r_v v a
  | _, _ => False) ∧ r_h r.2 rA.2
theorem i_hull_ok {i k j : q_IV} (h : i_hull i k = some j) : ∀ v, (r_v v i ∨ r_v v k) → r_v v j := by
  obtain ⟨t, a, a'⟩ := i
  obtain ⟨u, b, b'⟩ := k
  intro v hv
  unfold i_hull at h
  simp only at h
  cases c1 : Nat.beq t u with
  | false => rw [c1] at h; cases h
  | true =>
    rw [c1, cond_true] at h
    have e := Nat.eq_of_beq_eq_true c1
    subst e
    cases c2 : Nat.ble t 1 with
    | true =>
      rw [c2, cond_true, i_fz_eq] at h
      cases h
      have ht := Nat.le_of_ble_eq_true c2
      have key : (bif i_ble a b then a else b) ≤ a ∧ (bif i_ble a b then a else b) ≤ b ∧ a' ≤ (bif i_ble a' b' then b' else a') ∧ b' ≤ (bif i_ble a' b' then b' else a') := by
        cases q1 : i_ble a b with
        | true =>
          rw [i_ble_iff] at q1
          cases q2 : i_ble a' b' with
          | true => rw [i_ble_iff] at q2; simp only [cond_true]; omega
          | false =>
            have : ¬ a' ≤ b' := fun q => by rw [i_ble_iff.mpr q] at q2; cases q2
            simp only [cond_true, cond_false]; omega
        | false =>
          have : ¬ a ≤ b := fun q => by rw [i_ble_iff.mpr q] at q1; cases q1
          cases q2 : i_ble a' b' with
          | true => rw [i_ble_iff] at q2; simp only [cond_true, cond_false]; omega
          | false =>
            have : ¬ a' ≤ b' := fun q => by rw [i_ble_iff.mpr q] at q2; cases q2
            simp only [cond_false]; omega
      have ht : t = 0 ∨ t = 1 := by omega
      rcases ht with rfl | rfl
      · rcases hv with hv | hv
        · obtain ⟨x, rfl, x1, x2⟩ := r_int hv
          exact ⟨rfl, Int.le_trans key.1 x1, Int.le_trans x2 key.2.2.1⟩
        · obtain ⟨x, rfl, x1, x2⟩ := r_int hv
          exact ⟨rfl, Int.le_trans key.2.1 x1, Int.le_trans x2 key.2.2.2⟩
      · rcases hv with hv | hv
        · obtain ⟨x, rfl, x1, x2⟩ := r_long hv
          exact ⟨rfl, Int.le_trans key.1 x1, Int.le_trans x2 key.2.2.1⟩
        · obtain ⟨x, rfl, x1, x2⟩ := r_long hv
          exact ⟨rfl, Int.le_trans key.2.1 x1, Int.le_trans x2 key.2.2.2⟩
    | false =>
      rw [c2, cond_false] at h
      cases c3 : i_beq a b with
      | false => rw [c3] at h; cases h
      | true =>
        rw [c3, cond_true] at h
        cases h
        rw [i_beq_iff] at c3
        subst c3
        have ht : ¬ t ≤ 1 := fun q => by rw [Nat.ble_eq.mpr q] at c2; cases c2
        rcases hv with hv | hv
        · exact hv
        · cases v <;> simp only [r_v] at hv ⊢ <;> first | exact hv | (exfalso; omega)
theorem p_lo_dg (a b : Nat) : ∀ (n j : Nat), p_dg (p_lo a b n) j = if j < n then (bif Nat.ble (p_dg a j) (p_dg b j) then p_dg a j else p_dg b j) else p_dg a j
  | 0, j => by rw [if_neg (by omega)]; rfl
  | n + 1, j => by
    show p_dg (i_fN (p_lo a b n) fun N => p_sd N n (bif Nat.ble (p_dg a n) (p_dg b n) then p_dg a n else p_dg b n)) j = _
    rw [i_fN_eq]
    rw [p_sd_dg _ _ _ _ (by cases Nat.ble (p_dg a n) (p_dg b n) <;> exact p_dg_lt _ _), p_lo_dg a b n j]
    by_cases e : j = n
    · subst e; rw [if_pos rfl, if_pos (by omega)]
    · rw [if_neg e]
      by_cases c : j < n
      · rw [if_pos c, if_pos (by omega)]
      · rw [if_neg c, if_neg (by omega)]
theorem p_hi_dg (a b : Nat) : ∀ (n j : Nat), p_dg (p_hi a b n) j = if j < n then (bif Nat.ble (p_dg a j) (p_dg b j) then p_dg b j else p_dg a j) else p_dg a j
  | 0, j => by rw [if_neg (by omega)]; rfl
  | n + 1, j => by
    show p_dg (i_fN (p_hi a b n) fun N => p_sd N n (bif Nat.ble (p_dg a n) (p_dg b n) then p_dg b n else p_dg a n)) j = _
    rw [i_fN_eq]
    rw [p_sd_dg _ _ _ _ (by cases Nat.ble (p_dg a n) (p_dg b n) <;> exact p_dg_lt _ _), p_hi_dg a b n j]
    by_cases e : j = n
    · subst e; rw [if_pos rfl, if_pos (by omega)]
    · rw [if_neg e]
      by_cases c : j < n
      · rw [if_pos c, if_pos (by omega)]
      · rw [if_neg c, if_neg (by omega)]
theorem p_rs_ok (t : Nat) (a b : List Nat) : ∀ n, p_rs t a b n = true → ∀ i, i < n → p_kd t i < 2 ∨ p_gl a i = p_gl b i
  | 0, _, i, h => absurd h (by omega)
  | n + 1, h, i, hi => by
    have h : (p_rs t a b n && (Nat.blt (p_kd t n) 2 || Nat.beq (p_gl a n) (p_gl b n))) = true := h
    rw [Bool.and_eq_true, Bool.or_eq_true] at h
    by_cases e : i = n
    · subst e
      exact h.2.imp (fun q => Nat.lt_of_succ_le (Nat.le_of_ble_eq_true q)) Nat.eq_of_beq_eq_true
    · exact p_rs_ok t a b n h.1 i (by omega)
theorem p_eq_ok : ∀ {l m : List Nat}, p_eq l m = true → l = m
  | [], [], _ => rfl
  | a :: l, b :: m, h => by
    rw [p_eq, Bool.and_eq_true] at h
    rw [Nat.eq_of_beq_eq_true h.1, p_eq_ok h.2]
  | [], _ :: _, h => by cases h
  | _ :: _, [], h => by cases h
theorem p_lz_ok {B : Type} {r : B} {f : Nat → Nat → Nat → Nat} : ∀ (l m : List Nat) (k : List Nat → Option B), p_lz f l m k = some r → ∃ L, k L = some r ∧ ∀ i : Nat, (L[i]? = none ∧ l[i]? = none ∧ m[i]? = none) ∨ ∃ a b, l[i]? = some a ∧ m[i]? = some b ∧ L[i]? = some (f a b 16)
  | [], [], k, h => ⟨[], h, fun i => Or.inl ⟨by simp, by simp, by simp⟩⟩
  | [], _ :: _, k, h => by simp [p_lz] at h
  | _ :: _, [], k, h => by simp [p_lz] at h
  | a :: l, b :: m, k, h => by
    simp only [p_lz, i_fN_eq] at h
    obtain ⟨L, h1, h2⟩ := p_lz_ok l m _ h
    refine ⟨f a b 16 :: L, h1, fun i => ?_⟩
    cases i with
    | zero => exact Or.inr ⟨a, b, by simp, by simp, by simp⟩
    | succ i =>
      simp only [List.getElem?_cons_succ]
      exact h2 i
theorem p_lol {l m L : List Nat} (h : ∀ i : Nat, (L[i]? = none ∧ l[i]? = none ∧ m[i]? = none) ∨ ∃ a b, l[i]? = some a ∧ m[i]? = some b ∧ L[i]? = some (p_lo a b 16)) (j : Nat) : p_gl L j = (bif Nat.ble (p_gl l j) (p_gl m j) then p_gl l j else p_gl m j) := by
  rw [p_gl_eq, p_gl_eq, p_gl_eq]
  rcases h (j / 16) with ⟨h1, h2, h3⟩ | ⟨a, b, h1, h2, h3⟩
  · rw [h1, h2, h3]
    rfl
  · rw [h1, h2, h3]
    simp only
    rw [p_lo_dg, if_pos (Nat.mod_lt _ (by decide))]
theorem p_hil {l m L : List Nat} (h : ∀ i : Nat, (L[i]? = none ∧ l[i]? = none ∧ m[i]? = none) ∨ ∃ a b, l[i]? = some a ∧ m[i]? = some b ∧ L[i]? = some (p_hi a b 16)) (j : Nat) : p_gl L j = (bif Nat.ble (p_gl l j) (p_gl m j) then p_gl m j else p_gl l j) := by
  rw [p_gl_eq, p_gl_eq, p_gl_eq]
  rcases h (j / 16) with ⟨h1, h2, h3⟩ | ⟨a, b, h1, h2, h3⟩
  · rw [h1, h2, h3]
    rfl
  · rw [h1, h2, h3]
    simp only
    rw [p_hi_dg, if_pos (Nat.mod_lt _ (by decide))]
/-- what a joined cell holds -/
def r_j (a b c : p_C) : Prop := c.1 < 15 → (a.1 = c.1 ∧ b.1 = c.1) ∧ ∀ d, (r_c a d ∨ r_c b d) → r_c c d
theorem p_hc_ok {B : Type} {a b : p_C} {k : p_C → Option B} {r : B} (h : p_hc a b k = some r) : ∃ c, k c = some r ∧ r_j a b c := by
  obtain ⟨t, n, lo, hi⟩ := a
  obtain ⟨u, m, lo', hi'⟩ := b
  unfold p_hc at h
  obtain ⟨h1, hz⟩ := q_gd_some h
  clear h
  have h := hz
  clear hz
  rw [Bool.and_eq_true] at h1
  have e1 : t = u := Nat.eq_of_beq_eq_true h1.1
  have e2 : n = m := Nat.eq_of_beq_eq_true h1.2
  subst e1
  subst e2
  cases c1 : (p_eq lo lo' && p_eq hi hi') with
  | true =>
    rw [c1, cond_true] at h
    rw [Bool.and_eq_true] at c1
    have e3 : lo = lo' := p_eq_ok c1.1
    have e4 : hi = hi' := p_eq_ok c1.2
    subst e3
    subst e4
    exact ⟨_, h, fun _ => ⟨⟨rfl, rfl⟩, fun d hd => hd.elim id id⟩⟩
  | false =>
    rw [c1, cond_false] at h
    cases c2 : Nat.blt 64 n with
    | true =>
      rw [c2, cond_true] at h
      exact ⟨_, h, fun q => absurd q (by decide)⟩
    | false =>
      rw [c2, cond_false] at h
      obtain ⟨h2, h⟩ := q_gd_some h
      obtain ⟨lo2, h, q5⟩ := p_lz_ok _ _ _ h
      obtain ⟨hi2, h, q6⟩ := p_lz_ok _ _ _ h
      refine ⟨_, h, fun _ => ⟨⟨rfl, rfl⟩, fun d hd => ?_⟩⟩
      have hlen : d.1 = t ∧ d.2.length = n := hd.elim (fun q => ⟨q.1, q.2.1⟩) (fun q => ⟨q.1, q.2.1⟩)
      refine ⟨hlen.1, hlen.2, fun i v hv => ?_⟩
      have hi9 : i < n := by rw [← hlen.2]; exact (List.getElem?_eq_some_iff.mp hv).1
      show r_s (p_kd t i) v (p_gl lo2 i) (p_gl hi2 i)
      rw [p_lol q5, p_hil q6]
      by_cases hk2 : p_kd t i = 2
      · rcases p_rs_ok t lo lo' n h2 i hi9 with q | q
        · omega
        · rw [hk2, q]
          have e9 : (bif Nat.ble (p_gl lo' i) (p_gl lo' i) then p_gl lo' i else p_gl lo' i) = p_gl lo' i := by cases Nat.ble (p_gl lo' i) (p_gl lo' i) <;> rfl
          rw [e9]
          rcases hd with hd | hd
          · have h9 : r_s (p_kd t i) v (p_gl lo i) (p_gl hi i) := hd.2.2 i v hv
            rw [hk2, q] at h9
            exact h9
          · have h9 : r_s (p_kd t i) v (p_gl lo' i) (p_gl hi' i) := hd.2.2 i v hv
            rw [hk2] at h9
            exact h9
      have hle : (bif Nat.ble (p_gl lo i) (p_gl lo' i) then p_gl lo i else p_gl lo' i) ≤ p_gl lo i ∧ (bif Nat.ble (p_gl lo i) (p_gl lo' i) then p_gl lo i else p_gl lo' i) ≤ p_gl lo' i := by
        cases q : Nat.ble (p_gl lo i) (p_gl lo' i) with
        | true => have := Nat.le_of_ble_eq_true q; simp only [cond_true]; omega
        | false =>
          have : ¬ p_gl lo i ≤ p_gl lo' i := fun z => by rw [Nat.ble_eq.mpr z] at q; cases q
          simp only [cond_false]; omega
      have hge : p_gl hi i ≤ (bif Nat.ble (p_gl hi i) (p_gl hi' i) then p_gl hi' i else p_gl hi i) ∧ p_gl hi' i ≤ (bif Nat.ble (p_gl hi i) (p_gl hi' i) then p_gl hi' i else p_gl hi i) := by
        cases q : Nat.ble (p_gl hi i) (p_gl hi' i) with
        | true => have := Nat.le_of_ble_eq_true q; simp only [cond_true]; omega
        | false =>
          have : ¬ p_gl hi i ≤ p_gl hi' i := fun z => by rw [Nat.ble_eq.mpr z] at q; cases q
          simp only [cond_false]; omega
      generalize (bif Nat.ble (p_gl lo i) (p_gl lo' i) then p_gl lo i else p_gl lo' i) = L at hle ⊢
      generalize (bif Nat.ble (p_gl hi i) (p_gl hi' i) then p_gl hi' i else p_gl hi i) = U at hge ⊢
      have hmono : ∀ {l u : Nat}, L ≤ l → u ≤ U → r_s (p_kd t i) v l u → r_s (p_kd t i) v L U := fun h1 h2 h3 => by
        unfold r_s at h3 ⊢
        rw [if_neg hk2] at h3 ⊢
        have m1 := p_dec_mono h1
        have m2 := p_dec_mono h2
        split
        · rename_i q
          rw [if_pos q] at h3
          obtain ⟨x, e, x1, x2⟩ := h3
          exact ⟨x, e, by omega, by omega⟩
        · rename_i q
          rw [if_neg q] at h3
          obtain ⟨x, e, x1, x2⟩ := h3
          exact ⟨x, e, by omega, by omega⟩
      rcases hd with hd | hd
      · exact hmono hle.1 hge.1 (hd.2.2 i v hv)
      · exact hmono hle.2 hge.2 (hd.2.2 i v hv)
theorem p_hl_ok {B : Type} {r : B} : ∀ (l m : List p_C) (k : List p_C → Option B), p_hl l m k = some r → ∃ row, k row = some r ∧ ∀ (i : Nat) (c : p_C), row[i]? = some c → ∃ a b, l[i]? = some a ∧ m[i]? = some b ∧ r_j a b c
  | [], [], k, h => ⟨[], h, fun i c hc => by simp at hc⟩
  | [], _ :: _, k, h => by simp [p_hl] at h
  | _ :: _, [], k, h => by simp [p_hl] at h
  | a :: l, b :: m, k, h => by
    simp only [p_hl] at h
    obtain ⟨c, h1, h2⟩ := p_hc_ok h
    obtain ⟨row, h3, h4⟩ := p_hl_ok l m _ h1
    refine ⟨c :: row, h3, fun i d hd => ?_⟩
    cases i with
    | zero =>
      simp at hd
      subst hd
      exact ⟨a, b, by simp, by simp, h2⟩
    | succ i =>
      rw [List.getElem?_cons_succ] at hd
      obtain ⟨a', b', q1, q2, q3⟩ := h4 i d hd
      exact ⟨a', b', by rw [List.getElem?_cons_succ]; exact q1, by rw [List.getElem?_cons_succ]; exact q2, q3⟩
theorem p_hh_ok {B : Type} {r : B} : ∀ (l m : p_H) (k : p_H → Option B), p_hh l m k = some r → ∃ ph, k ph = some r ∧ ∀ (i : Nat) (row : List p_C), ph[i]? = some row → ∃ ra rb, l[i]? = some ra ∧ m[i]? = some rb ∧ ∀ (j : Nat) (c : p_C), row[j]? = some c → ∃ a b, ra[j]? = some a ∧ rb[j]? = some b ∧ r_j a b c
  | [], [], k, h => ⟨[], h, fun i c hc => by simp at hc⟩
  | [], _ :: _, k, h => by simp [p_hh] at h
  | _ :: _, [], k, h => by simp [p_hh] at h
  | a :: l, b :: m, k, h => by
    simp only [p_hh] at h
    obtain ⟨c, h1, h2⟩ := p_hl_ok _ _ _ h
    obtain ⟨row, h3, h4⟩ := p_hh_ok l m _ h1
    refine ⟨c :: row, h3, fun i d hd => ?_⟩
    cases i with
    | zero =>
      simp at hd
      subst hd
      exact ⟨a, b, by simp, by simp, h2⟩
    | succ i =>
      rw [List.getElem?_cons_succ] at hd
      obtain ⟨a', b', q1, q2, q3⟩ := h4 i d hd
      exact ⟨a', b', by rw [List.getElem?_cons_succ]; exact q1, by rw [List.getElem?_cons_succ]; exact q2, q3⟩
theorem p_cell_eq (ph : p_H) (h : Nat) : p_cell ph h = q_ob (ph[h / 12]?) fun row => row[h % 12]? := by
  unfold p_cell
  rw [q_nth_eq]
  show q_ob (ph[h / 12]?) _ = _
  congr 1
  funext row
  exact q_nth_eq row _
theorem r_hh {hp : q_H} {h g ph : p_H} (hj : ∀ (i : Nat) (row : List p_C), ph[i]? = some row → ∃ ra rb, h[i]? = some ra ∧ g[i]? = some rb ∧ ∀ (j : Nat) (c : p_C), row[j]? = some c → ∃ a b, ra[j]? = some a ∧ rb[j]? = some b ∧ r_j a b c) (hr : r_h hp h ∨ r_h hp g) : r_h hp ph := by
  refine ⟨hr.elim (fun q => q.1) (fun q => q.1), hr.elim (fun q => q.2.1) (fun q => q.2.1), ?_⟩
  intro x c hc ht
  rw [p_cell_eq] at hc
  obtain ⟨row, h1, h2⟩ := q_ob_some hc
  obtain ⟨ra, rb, h3, h4, h5⟩ := hj _ _ h1
  obtain ⟨a, b, h6, h7, h8⟩ := h5 _ _ h2
  obtain ⟨⟨e1, e2⟩, h9⟩ := h8 ht
  rcases hr with hr | hr
  · obtain ⟨d, k1, k2⟩ := hr.2.2 x a (by rw [p_cell_eq, h3]; exact h6) (by omega)
    exact ⟨d, k1, h9 d (Or.inl k2)⟩
  · obtain ⟨d, k1, k2⟩ := hr.2.2 x b (by rw [p_cell_eq, h4]; exact h7) (by omega)
    exact ⟨d, k1, h9 d (Or.inr k2)⟩
theorem r_jn {r1 r2 rA : q_R q_IV p_H} {r : q_R Value q_H} (h : p_jn r1 r2 = some rA) (hr : r_r r r1 ∨ r_r r r2) : r_r r rA := by
  obtain ⟨o1, h1⟩ := r1
  obtain ⟨o2, h2⟩ := r2
  obtain ⟨o, hp⟩ := r
  unfold p_jn at h
  cases o1 with
  | none => cases o2 with
    | some b => cases h
    | none =>
      obtain ⟨ph, k1, k2⟩ := p_hh_ok _ _ _ h
      cases k1
      refine ⟨?_, r_hh k2 (hr.imp (fun q => q.2) (fun q => q.2))⟩
      rcases hr with hr | hr <;> exact hr.1
  | some a => cases o2 with
    | none => cases h
    | some b =>
      obtain ⟨j, h3, h4⟩ := q_ob_some h
      obtain ⟨ph, k1, k2⟩ := p_hh_ok _ _ _ h4
      cases k1
      refine ⟨?_, r_hh k2 (hr.imp (fun q => q.2) (fun q => q.2))⟩
      cases o with
      | none => rcases hr with hr | hr <;> exact hr.1
      | some v => exact i_hull_ok h3 v (hr.imp (fun q => q.1) (fun q => q.1))

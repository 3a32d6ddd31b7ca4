theorem q_un_null (v : Nat) : q_un v .null = none := match v with
  | 0 => rfl
  | 1 => rfl
  | 2 => rfl
  | 3 => rfl
  | 4 => rfl
  | 5 => rfl
  | 6 => rfl
  | 7 => rfl
  | 8 => rfl
  | 9 => rfl
  | 10 => rfl
  | _ + 11 => rfl
theorem q_bin_nl (v : Nat) (b : Value) : q_bin v .null b = none := match v with
  | 0 => by cases b <;> rfl
  | 1 => by cases b <;> rfl
  | 2 => by cases b <;> rfl
  | 3 => by cases b <;> rfl
  | 4 => by cases b <;> rfl
  | 5 => by cases b <;> rfl
  | 6 => by cases b <;> rfl
  | 7 => by cases b <;> rfl
  | 8 => by cases b <;> rfl
  | 9 => by cases b <;> rfl
  | 10 => by cases b <;> rfl
  | 11 => by cases b <;> rfl
  | 12 => by cases b <;> rfl
  | 13 => by cases b <;> rfl
  | 14 => by cases b <;> rfl
  | 15 => by cases b <;> rfl
  | 16 => by cases b <;> rfl
  | 17 => by cases b <;> rfl
  | 18 => by cases b <;> rfl
  | 19 => by cases b <;> rfl
  | 20 => by cases b <;> rfl
  | 21 => by cases b <;> rfl
  | 22 => by cases b <;> rfl
  | _ + 23 => by cases b <;> rfl
theorem q_bin_nr (v : Nat) (b : Value) : q_bin v b .null = none := match v with
  | 0 => by cases b <;> rfl
  | 1 => by cases b <;> rfl
  | 2 => by cases b <;> rfl
  | 3 => by cases b <;> rfl
  | 4 => by cases b <;> rfl
  | 5 => by cases b <;> rfl
  | 6 => by cases b <;> rfl
  | 7 => by cases b <;> rfl
  | 8 => by cases b <;> rfl
  | 9 => by cases b <;> rfl
  | 10 => by cases b <;> rfl
  | 11 => by cases b <;> rfl
  | 12 => by cases b <;> rfl
  | 13 => by cases b <;> rfl
  | 14 => by cases b <;> rfl
  | 15 => by cases b <;> rfl
  | 16 => by cases b <;> rfl
  | 17 => by cases b <;> rfl
  | 18 => by cases b <;> rfl
  | 19 => by cases b <;> rfl
  | 20 => by cases b <;> rfl
  | 21 => by cases b <;> rfl
  | 22 => by cases b <;> rfl
  | _ + 23 => by cases b <;> rfl
/-! intervals hold the machine's own values -/
def r_v (v : Value) (i : q_IV) : Prop := match v with
  | .int x => i.1 = 0 ∧ i.2.1 ≤ x.toInt ∧ x.toInt ≤ i.2.2
  | .long x => i.1 = 1 ∧ i.2.1 ≤ x.toInt ∧ x.toInt ≤ i.2.2
  | .ref h => i.1 = 2 ∧ i.2.1 = (h : Int)
  | .float _ => i.1 = 4
  | .null => i.1 = 3
  | _ => False
theorem i_fN_eq {B : Type} (n : Nat) (k : Nat → B) : i_fN n k = k n := by cases n <;> rfl
theorem i_fZ_eq {B : Type} (z : Int) (k : Int → B) : i_fZ z k = k z := by
  cases z with
  | ofNat n =>
    show i_fN n (fun n => k (.ofNat n)) = _
    rw [i_fN_eq]
  | negSucc n =>
    show i_fN n (fun n => k (.negSucc n)) = _
    rw [i_fN_eq]
theorem i_fz_eq {B : Type} (k : q_IV → B) (a : q_IV) : i_fz k a = k a := by
  obtain ⟨t, a, b⟩ := a
  unfold i_fz
  simp only
  rw [i_fZ_eq, i_fZ_eq]
theorem i_ble_iff {a b : Int} : i_ble a b = true ↔ a ≤ b := by
  cases a with
  | ofNat a => cases b with
    | ofNat b =>
      show Nat.ble a b = true ↔ (a : Int) ≤ (b : Int)
      rw [Nat.ble_eq]
      omega
    | negSucc b =>
      have := Int.negSucc_eq b
      show false = true ↔ (a : Int) ≤ Int.negSucc b
      constructor
      · intro h; cases h
      · intro h; omega
  | negSucc a => cases b with
    | ofNat b =>
      have := Int.negSucc_eq a
      show true = true ↔ Int.negSucc a ≤ (b : Int)
      constructor
      · intro h; omega
      · intro h; rfl
    | negSucc b =>
      have h1 := Int.negSucc_eq a
      have h2 := Int.negSucc_eq b
      show Nat.ble b a = true ↔ Int.negSucc a ≤ Int.negSucc b
      rw [Nat.ble_eq]
      omega
theorem i_blt_iff {a b : Int} : i_blt a b = true ↔ a < b := by
  unfold i_blt
  rw [Bool.not_eq_true', ← Bool.not_eq_true, i_ble_iff]
  omega
theorem i_beq_iff {a b : Int} : i_beq a b = true ↔ a = b := by
  cases a <;> cases b <;> simp only [i_beq, Nat.beq_eq, Int.ofNat_eq_natCast, Int.negSucc_eq, Bool.false_eq_true, false_iff] <;> omega
theorem r_ty {v : Value} {i : q_IV} (h : r_v v i) : q_ty v = i_ty i := by
  obtain ⟨t, a, b⟩ := i
  cases v <;> simp only [r_v] at h <;> first | (obtain ⟨rfl, -⟩ := h; rfl) | (subst h; rfl)
theorem q_i32 {x : Int32} {a : Int} (h : x.toInt = a) : Int32.ofInt a = x := by rw [← h]; exact Int32.ofInt_toInt x
theorem q_i64 {x : Int64} {a : Int} (h : x.toInt = a) : Int64.ofInt a = x := by rw [← h]; exact Int64.ofInt_toInt x
/-- an exact interval is one value, if it is a number -/
theorem r_exact {v : Value} {t : Nat} {a : Int} (h : r_v v (t, a, a)) : i_val t a = v ∨ (i_val t a = .null ∧ q_ty v ≠ 0 ∧ q_ty v ≠ 1) := by
  cases v <;> simp only [r_v] at h
  · obtain ⟨rfl, h1, h2⟩ := h
    exact Or.inl (congrArg Value.int (q_i32 (by omega)))
  · obtain ⟨rfl, h1, h2⟩ := h
    exact Or.inl (congrArg Value.long (q_i64 (by omega)))
  · subst h
    exact Or.inr ⟨rfl, by simp [q_ty], by simp [q_ty]⟩
  · subst h
    exact Or.inl rfl
  · obtain ⟨rfl, -⟩ := h
    exact Or.inr ⟨rfl, by simp [q_ty], by simp [q_ty]⟩
theorem i_back_some {o : Option Value} {j : q_IV} (h : i_back o = some j) : ∃ w, o = some w ∧ r_v w j := by
  cases o with
  | none => cases h
  | some w => cases w <;> first | (cases h; done) | (cases h; exact ⟨_, rfl, rfl, Int.le_refl _, Int.le_refl _⟩)
theorem q_cI {x : Int32} (h0 : 0 ≤ x.toInt) (h1 : x.toInt ≤ 65535) : (x.toUInt32 % 65536).toInt32 = x ∧ vp_nar .char x = x := by
  have hz : ¬ x < 0 := fun h => by
    have := Int32.lt_iff_toInt_lt.mp h
    simp at this
    omega
  refine ⟨?_, ?_⟩
  · obtain ⟨j, hj, rfl⟩ := nI_of hz
    rw [nI_toInt hj] at h1
    rw [pk_char, pk_tn (by omega), Nat.mod_eq_of_lt (by omega)]
  · unfold vp_nar
    rw [q_nar_char h0 h1]
theorem r_un {u : Nat} {v : Value} {i j : q_IV} (h : i_un u i = some j) (hr : r_v v i) : ∃ w, q_un u v = some w ∧ r_v w j := by
  obtain ⟨t, a, b⟩ := i
  unfold i_un at h
  simp only at h
  cases hab : i_beq a b with
  | true =>
    rw [hab, cond_true] at h
    have e := i_beq_iff.mp hab
    subst e
    obtain ⟨w, h1, h2⟩ := i_back_some h
    rcases r_exact hr with h3 | ⟨h3, -, -⟩
    · rw [h3] at h1
      exact ⟨w, h1, h2⟩
    · rw [h3] at h1
      rw [q_un_null] at h1
      cases h1
  | false =>
    rw [hab, cond_false] at h
    split at h
    · cases h
      cases v <;> simp only [r_v] at hr <;> first | (cases hr; done) | skip
      · exact ⟨_, rfl, rfl, by rw [Int32.toInt_toInt64]; exact hr.2.1, by rw [Int32.toInt_toInt64]; exact hr.2.2⟩
      all_goals first | (cases hr.1; done) | (cases hr)
    · cases hb : (i_ble 0 a && i_ble b 65535) with
      | false => rw [hb] at h; cases h
      | true =>
        rw [hb] at h
        cases h
        rw [Bool.and_eq_true, i_ble_iff, i_ble_iff] at hb
        cases v <;> simp only [r_v] at hr <;> first | (cases hr; done) | skip
        · obtain ⟨-, h1, h2⟩ := hr
          exact ⟨_, congrArg (fun z => some (Value.int z)) (q_cI (by omega) (by omega)).1, rfl, h1, h2⟩
        all_goals first | (cases hr.1; done) | (cases hr)
    · cases hb : (i_ble 0 a && i_ble b 65535) with
      | false => rw [hb] at h; cases h
      | true =>
        rw [hb] at h
        cases h
        rw [Bool.and_eq_true, i_ble_iff, i_ble_iff] at hb
        cases v <;> simp only [r_v] at hr <;> first | (cases hr; done) | skip
        · obtain ⟨-, h1, h2⟩ := hr
          exact ⟨_, congrArg (fun z => some (Value.int z)) (q_cI (by omega) (by omega)).2, rfl, h1, h2⟩
        all_goals first | (cases hr.1; done) | (cases hr)
    · cases h
theorem q_bm {z : Int} (h0 : -2147483648 ≤ z) (h1 : z ≤ 2147483647) : Int.bmod z (2 ^ 32) = z := by
  rw [Int.bmod_def]
  split <;> omega
theorem i_in32_iff {z : Int} : i_in32 z = true ↔ -2147483648 ≤ z ∧ z ≤ 2147483647 := by
  unfold i_in32
  rw [Bool.and_eq_true, i_ble_iff, i_ble_iff]
theorem r_int {v : Value} {a b : Int} (h : r_v v (0, a, b)) : ∃ x : Int32, v = .int x ∧ a ≤ x.toInt ∧ x.toInt ≤ b := by
  cases v <;> simp only [r_v] at h
  · exact ⟨_, rfl, h.2⟩
  · cases h.1
  · cases h
  · cases h
  · cases h.1
theorem r_long {v : Value} {a b : Int} (h : r_v v (1, a, b)) : ∃ x : Int64, v = .long x ∧ a ≤ x.toInt ∧ x.toInt ≤ b := by
  cases v <;> simp only [r_v] at h
  · cases h.1
  · exact ⟨_, rfl, h.2⟩
  · cases h
  · cases h
  · cases h.1
theorem q_cmp_lt {x y : Int64} : lg_cmp x y = (if y.toInt < x.toInt then 1 else if x.toInt = y.toInt then 0 else -1) := by
  unfold lg_cmp
  simp only [gt_iff_lt, Int64.lt_iff_toInt_lt, ← Int64.toInt_inj]
theorem r_lcmp {x y : Int64} {a a' b b' : Int} {j : q_IV} (h1 : a ≤ x.toInt) (h2 : x.toInt ≤ a') (h3 : b ≤ y.toInt) (h4 : y.toInt ≤ b') (h : (bif i_blt b' a then some (0, 1, 1) else bif i_blt a' b then some (0, -1, -1) else bif i_ble b' a then some (0, 0, 1) else bif i_ble a' b then some (0, -1, 0) else some (0, -1, 1)) = some j) : r_v (.int (lg_cmp x y)) j := by
  rw [q_cmp_lt]
  have e1 : (1 : Int32).toInt = 1 := by decide
  have e2 : (0 : Int32).toInt = 0 := by decide
  have e3 : (-1 : Int32).toInt = -1 := by decide
  cases c1 : i_blt b' a with
  | true =>
    rw [c1, cond_true] at h
    rw [i_blt_iff] at c1
    cases h
    rw [if_pos (by omega)]
    exact ⟨rfl, by rw [e1]; decide, by rw [e1]; decide⟩
  | false =>
    rw [c1, cond_false] at h
    cases c2 : i_blt a' b with
    | true =>
      rw [c2, cond_true] at h
      rw [i_blt_iff] at c2
      cases h
      rw [if_neg (by omega), if_neg (by omega)]
      exact ⟨rfl, by rw [e3]; decide, by rw [e3]; decide⟩
    | false =>
      rw [c2, cond_false] at h
      cases c3 : i_ble b' a with
      | true =>
        rw [c3, cond_true] at h
        rw [i_ble_iff] at c3
        cases h
        split
        · exact ⟨rfl, by rw [e1]; decide, by rw [e1]; decide⟩
        · rw [if_pos (by omega)]
          exact ⟨rfl, by rw [e2]; decide, by rw [e2]; decide⟩
      | false =>
        rw [c3, cond_false] at h
        cases c4 : i_ble a' b with
        | true =>
          rw [c4, cond_true] at h
          rw [i_ble_iff] at c4
          cases h
          rw [if_neg (by omega)]
          split
          · exact ⟨rfl, by rw [e2]; decide, by rw [e2]; decide⟩
          · exact ⟨rfl, by rw [e3]; decide, by rw [e3]; decide⟩
        | false =>
          rw [c4, cond_false] at h
          cases h
          split
          · exact ⟨rfl, by rw [e1]; decide, by rw [e1]; decide⟩
          · split
            · exact ⟨rfl, by rw [e2]; decide, by rw [e2]; decide⟩
            · exact ⟨rfl, by rw [e3]; decide, by rw [e3]; decide⟩
theorem r_bback {u : Nat} {v w : Value} {t t' : Nat} {a b : Int} {j : q_IV} (h : i_back (q_bin u (i_val t a) (i_val t' b)) = some j) (hv : r_v v (t, a, a)) (hw : r_v w (t', b, b)) : ∃ z, q_bin u v w = some z ∧ r_v z j := by
  obtain ⟨z, h1, h2⟩ := i_back_some h
  have key : ∀ (a b : Value), (a = .null ∨ b = .null) → q_bin u a b = none := fun a b h => by
    rcases h with rfl | rfl
    · exact q_bin_nl u b
    · exact q_bin_nr u a
  rcases r_exact hv with h3 | ⟨h3, -, -⟩
  · rcases r_exact hw with h4 | ⟨h4, -, -⟩
    · rw [h3, h4] at h1
      exact ⟨z, h1, h2⟩
    · rw [h4, key _ _ (Or.inr rfl)] at h1
      cases h1
  · rw [h3, key _ _ (Or.inl rfl)] at h1
    cases h1
theorem r_bin {u : Nat} {v w : Value} {i k j : q_IV} (h : i_bin u i k = some j) (hv : r_v v i) (hw : r_v w k) : ∃ z, q_bin u v w = some z ∧ r_v z j := by
  obtain ⟨t, a, a'⟩ := i
  obtain ⟨t', b, b'⟩ := k
  unfold i_bin at h
  simp only at h
  cases hab : (i_beq a a' && i_beq b b') with
  | true =>
    rw [hab, cond_true] at h
    rw [Bool.and_eq_true, i_beq_iff, i_beq_iff] at hab
    obtain ⟨rfl, rfl⟩ := hab
    split at h
    · cases hz : i_in32 (a + b) with
      | false => rw [hz, cond_false] at h; exact r_bback h hv hw
      | true =>
        rw [hz, cond_true] at h
        rw [i_in32_iff] at hz
        cases h
        obtain ⟨x, rfl, x1, x2⟩ := r_int hv
        obtain ⟨y, rfl, y1, y2⟩ := r_int hw
        have e : (x + y).toInt = a + b := by rw [Int32.toInt_add, show x.toInt = a by omega, show y.toInt = b by omega]; exact q_bm hz.1 hz.2
        exact ⟨_, rfl, rfl, by rw [e]; exact Int.le_refl _, by rw [e]; exact Int.le_refl _⟩
    · cases hz : i_in32 (a - b) with
      | false => rw [hz, cond_false] at h; exact r_bback h hv hw
      | true =>
        rw [hz, cond_true] at h
        rw [i_in32_iff] at hz
        cases h
        obtain ⟨x, rfl, x1, x2⟩ := r_int hv
        obtain ⟨y, rfl, y1, y2⟩ := r_int hw
        have e : (x - y).toInt = a - b := by rw [Int32.toInt_sub, show x.toInt = a by omega, show y.toInt = b by omega]; exact q_bm hz.1 hz.2
        exact ⟨_, rfl, rfl, by rw [e]; exact Int.le_refl _, by rw [e]; exact Int.le_refl _⟩
    · cases hz : i_in32 (a * b) with
      | false => rw [hz, cond_false] at h; exact r_bback h hv hw
      | true =>
        rw [hz, cond_true] at h
        rw [i_in32_iff] at hz
        cases h
        obtain ⟨x, rfl, x1, x2⟩ := r_int hv
        obtain ⟨y, rfl, y1, y2⟩ := r_int hw
        have e : (x * y).toInt = a * b := by rw [Int32.toInt_mul, show x.toInt = a by omega, show y.toInt = b by omega]; exact q_bm hz.1 hz.2
        exact ⟨_, rfl, rfl, by rw [e]; exact Int.le_refl _, by rw [e]; exact Int.le_refl _⟩
    · obtain ⟨x, rfl, x1, x2⟩ := r_long hv
      obtain ⟨y, rfl, y1, y2⟩ := r_long hw
      have ex : x.toInt = a := by omega
      have ey : y.toInt = b := by omega
      have e1 : (1 : Int32).toInt = 1 := by decide
      have e2 : (0 : Int32).toInt = 0 := by decide
      have e3 : (-1 : Int32).toInt = -1 := by decide
      refine ⟨.int (lg_cmp x y), rfl, ?_⟩
      rw [q_cmp_lt, ex, ey]
      by_cases c1 : b < a
      · rw [i_blt_iff.mpr c1, cond_true] at h
        cases h
        rw [if_pos c1]
        exact ⟨rfl, by rw [e1]; decide, by rw [e1]; decide⟩
      · have c1' : i_blt b a = false := by
          cases q : i_blt b a with
          | false => rfl
          | true => exact absurd (i_blt_iff.mp q) c1
        rw [c1', cond_false] at h
        rw [if_neg c1]
        by_cases c2 : a = b
        · rw [i_beq_iff.mpr c2, cond_true] at h
          cases h
          rw [if_pos c2]
          exact ⟨rfl, by rw [e2]; decide, by rw [e2]; decide⟩
        · have c2' : i_beq a b = false := by
            cases q : i_beq a b with
            | false => rfl
            | true => exact absurd (i_beq_iff.mp q) c2
          rw [c2', cond_false] at h
          cases h
          rw [if_neg c2]
          exact ⟨rfl, by rw [e3]; decide, by rw [e3]; decide⟩
    · exact r_bback h hv hw
  | false =>
    rw [hab, cond_false] at h
    split at h
    · cases hz : (i_in32 (a + b) && i_in32 (a' + b')) with
      | false => rw [hz] at h; cases h
      | true =>
        rw [hz] at h
        rw [Bool.and_eq_true, i_in32_iff, i_in32_iff] at hz
        cases h
        obtain ⟨x, rfl, x1, x2⟩ := r_int hv
        obtain ⟨y, rfl, y1, y2⟩ := r_int hw
        have e : (x + y).toInt = x.toInt + y.toInt := by rw [Int32.toInt_add]; exact q_bm (by omega) (by omega)
        exact ⟨_, rfl, rfl, by rw [e]; show a + b ≤ _; omega, by rw [e]; show _ ≤ a' + b'; omega⟩
    · obtain ⟨x, rfl, x1, x2⟩ := r_long hv
      obtain ⟨y, rfl, y1, y2⟩ := r_long hw
      exact ⟨_, rfl, r_lcmp x1 x2 y1 y2 h⟩
    · cases h

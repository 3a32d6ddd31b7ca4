/-! the reference's search -/
theorem a_mb_fr {G G' : a_P} {x : Option (Int × Int × Int × Int)} (h : a_mb G x) (hf : ∀ b, G' 133 b = G 133 b) : a_mb G' x := by
  cases x with
  | none => exact (hf 9).trans h
  | some y =>
    obtain ⟨h4, h0, h1, h2, h3, hb⟩ := h
    exact ⟨(hf 9).trans h4, (hf 10).trans h0, (hf 11).trans h1, (hf 12).trans h2, (hf 13).trans h3, hb⟩
def a_Qmb (W : Int → Int) (x : Option (Int × Int × Int × Int)) (r : a_P) : Prop := a_asd r W ∧ a_mb r x
theorem m_find {G : a_P} {a1 m : Int} (o : a_ok m (G 134)) (hb : 0 ≤ G 134 3 ∧ G 134 3 < G 134 0) (hs : 0 ≤ a1 ∧ a1 ≤ 255) : a_Qmb (G 134) (r_bp (G 134) a1 144) (fn_164 a1 G) := by
  have b0 := o.1
  have ob := o.2.2.2.2.2.2.2 _ hb.1 hb.2
  unfold fn_164
  refine a_fbd1 (Q := a_Qmb (G 134) (r_bp (G 134) a1 144)) ?_
  refine a_fbd1 (Q := a_Qmb (G 134) (r_bp (G 134) a1 144)) ?_
  have hK : a_asd (fn_153 (a_up G 133 9 99)) (G 134) := by
    have := a_asd_0 (a_up G 133 9 99)
    have e : a_up G 133 9 99 134 = G 134 := by funext b; exact a_up_ne (by omega)
    rw [e] at this
    exact this
  have e9 : fn_153 (a_up G 133 9 99) 133 9 = 99 := (fr_153 _ 133 9 (by unfold w_153; omega)).trans a_up_eq
  generalize fn_153 (a_up G 133 9 99) = K at hK e9
  have e3 : K 134 3 = G 134 3 := hK.1 3
  have e1 : K 134 1 = G 134 1 := hK.1 1
  refine a_fbd1 (Q := a_Qmb (G 134) (r_bp (G 134) a1 144)) ?_
  refine a_fbd1 (Q := a_Qmb (G 134) (r_bp (G 134) a1 144)) ?_
  rw [e3, e1]
  have e9' : a_mb K (r_bp (G 134) a1 0) := e9
  refine a_lp_up (Q := a_Qmb (G 134) (r_bp (G 134) a1 144)) (fun k s => s.1 = (k : Int) ∧ a_asd s.2 (G 134) ∧ a_mb s.2 (r_bp (G 134) a1 k)) 144 (by omega) (fun k s hk hss nx hn => ?_) (fun s hss nx => ?_) (0, K) ⟨rfl, hK, e9'⟩
  · obtain ⟨q1, q2, q3⟩ := hss
    have m1 : Unit → a_div (k : Int) 4 = (k : Int) / 4 := fun _ => a_div_id (by omega) (by omega) (by decide)
    have m2 : Unit → a_rem (k : Int) 4 = (k : Int) % 4 := fun _ => a_rem_id (by omega) (by omega) (by decide)
    have ek : Unit → a_w ((k : Int) + 1) = ((k + 1 : Nat) : Int) := fun _ => by rw [a_w_id (by omega) (by omega)]; omega
    have w31 : Unit → a_w (31 + G 134 3) = 31 + G 134 3 := fun _ => a_w_id (by omega) (by omega)
    have w15 : Unit → a_w (15 + G 134 3) = 15 + G 134 3 := fun _ => a_w_id (by omega) (by omega)
    have y2 : s.2 138 2 = G 134 2 := q2.2 2 (by omega) (by omega)
    have hc : 0 ≤ (k : Int) / 4 ∧ (k : Int) / 4 ≤ 35 := by omega
    have hl : 0 ≤ (k : Int) % 4 ∧ (k : Int) % 4 ≤ 3 := by omega
    have sb : 0 ≤ r_stp (G 134) ((k : Int) / 4) ∧ r_stp (G 134) ((k : Int) / 4) ≤ 10 := fe_113b hc o.2.1
    rw [if_pos (by rw [q1]; omega), q1, m1 (), m2 ()]
    have er : r_bp (G 134) a1 (k + 1) = if r_stp (G 134) ((k : Int) / 4) < G 134 (31 + G 134 3) then r_off (r_bp (G 134) a1 k) (r_par (G 134) a1 ((k : Int) / 4) ((k : Int) % 4)) (r_own (G 134) ((k : Int) / 4) ((k : Int) % 4)) ((k : Int) / 4) ((k : Int) % 4) else r_bp (G 134) a1 k := rfl
    generalize hcc : (k : Int) / 4 = c at hc sb er
    generalize hll : (k : Int) % 4 = l at hl er
    refine a_fbd1 (Q := a_Qmb (G 134) (r_bp (G 134) a1 144)) ?_
    have es : fn_114 c (G 134 1) = r_stp (G 134) c := rfl
    rw [es]
    refine a_fjn (Q := a_Qmb (G 134) (r_bp (G 134) a1 144)) (fun v : Int => v = if l = G 134 2 then 0 else 1) (fun v hv => ?_) (fun j hj => ?_)
    · have vb : 0 ≤ v ∧ v ≤ 1 := by rw [hv]; split <;> omega
      refine a_fbd1 (Q := a_Qmb (G 134) (r_bp (G 134) a1 144)) ?_
      have own : a_w (r_stp (G 134) c + v) = r_own (G 134) c l := by
        rw [a_w_id (by omega) (by omega), hv]
        rfl
      rw [own]
      clear own
      refine a_fjn (Q := a_Qmb (G 134) (r_bp (G 134) a1 144)) (fun X : a_P => a_asd X (G 134) ∧ a_mb X (r_bp (G 134) a1 (k + 1))) (fun X hX => ?_) (fun j hj => ?_)
      · refine a_fbd1 (Q := a_Qmb (G 134) (r_bp (G 134) a1 144)) ?_
        rw [ek ()]
        exact hn (_, _) ⟨rfl, hX⟩
      · rw [w31 (), q2.1 (31 + G 134 3)]
        refine a_fifc (Q := a_Qmb (G 134) (r_bp (G 134) a1 144)) (fun d => ?_) (fun d => hj _ ⟨q2, by rw [er, if_neg d]; exact q3⟩)
        rw [if_pos d] at er
        refine a_fbd1 (Q := a_Qmb (G 134) (r_bp (G 134) a1 144)) ?_
        refine a_fbd1 (Q := a_Qmb (G 134) (r_bp (G 134) a1 144)) ?_
        refine a_fbd1 (Q := a_Qmb (G 134) (r_bp (G 134) a1 144)) ?_
        rw [w15 ()]
        have e134 : s.2 134 = G 134 := funext q2.1
        have row : a_up (a_up (a_up s.2 134 1 c) 134 2 l) 134 (15 + G 134 3) c 134 = r_pl (G 134) c l := by rw [a_up_row, a_up_row, a_up_row, e134]; rfl
        have o5 : a_ok m (r_pl (G 134) c l) := r_pl_ok o hb hc hl
        have lb := r_let_b o5
        have pb := a_xor_b lb.1 lb.2 hs.1 hs.2
        refine a_fbd1 (Q := a_Qmb (G 134) (r_bp (G 134) a1 144)) ?_
        have ex6 : a_xor (fn_119 (a_up (a_up (a_up s.2 134 1 c) 134 2 l) 134 (15 + G 134 3) c)) a1 = r_par (G 134) a1 c l := by rw [r_let_eq, row]; rfl
        rw [ex6]
        have pb' : 0 ≤ r_par (G 134) a1 c l ∧ r_par (G 134) a1 c l ≤ 255 := pb
        generalize hp6 : r_par (G 134) a1 c l = x6 at pb' er
        refine a_fbd1 (Q := a_Qmb (G 134) (r_bp (G 134) a1 144)) ?_
        have h6 : a_asd (fn_154 (a_up (a_up (a_up s.2 134 1 c) 134 2 l) 134 (15 + G 134 3) c)) (G 134) := a_pre_back (a_pre_up (a_pre_up (a_pre_up (a_pre_asd q2) (by omega) (by omega)) (by omega) (by omega)) (by omega) (by omega))
        have b6 : a_mb (fn_154 (a_up (a_up (a_up s.2 134 1 c) 134 2 l) 134 (15 + G 134 3) c)) (r_bp (G 134) a1 k) := a_mb_fr q3 (fun b => by rw [fr_154 _ 133 b (by unfold w_154; omega), a_up_ne (by omega), a_up_ne (by omega), a_up_ne (by omega)])
        generalize fn_154 (a_up (a_up (a_up s.2 134 1 c) 134 2 l) 134 (15 + G 134 3) c) = H6 at h6 b6
        have bo := a_bits pb'.1 pb'.2
        have ebt : fn_163 x6 = r_bt x6 8 := fe_163 x6
        rw [ebt]
        have take : a_mb (a_up (a_up (a_up (a_up (a_up H6 133 9 (r_bt x6 8)) 133 10 x6) 133 11 (r_own (G 134) c l)) 133 12 c) 133 13 l) (some (x6, r_own (G 134) c l, c, l)) := by
          refine ⟨?_, ?_, ?_, ?_, a_up_eq, pb'⟩
          · rw [a_up_ne (by omega), a_up_ne (by omega), a_up_ne (by omega), a_up_ne (by omega), a_up_eq]
          · rw [a_up_ne (by omega), a_up_ne (by omega), a_up_ne (by omega), a_up_eq]
          · rw [a_up_ne (by omega), a_up_ne (by omega), a_up_eq]
          · rw [a_up_ne (by omega), a_up_eq]
        have keep : a_up (a_up (a_up (a_up (a_up H6 133 9 (H6 133 9)) 133 10 (a_up H6 133 9 (H6 133 9) 133 10)) 133 11 (a_up (a_up H6 133 9 (H6 133 9)) 133 10 (a_up H6 133 9 (H6 133 9) 133 10) 133 11)) 133 12 (a_up (a_up (a_up H6 133 9 (H6 133 9)) 133 10 (a_up H6 133 9 (H6 133 9) 133 10)) 133 11 (a_up (a_up H6 133 9 (H6 133 9)) 133 10 (a_up H6 133 9 (H6 133 9) 133 10) 133 11) 133 12)) 133 13 (a_up (a_up (a_up (a_up H6 133 9 (H6 133 9)) 133 10 (a_up H6 133 9 (H6 133 9) 133 10)) 133 11 (a_up (a_up H6 133 9 (H6 133 9)) 133 10 (a_up H6 133 9 (H6 133 9) 133 10) 133 11)) 133 12 (a_up (a_up (a_up H6 133 9 (H6 133 9)) 133 10 (a_up H6 133 9 (H6 133 9) 133 10)) 133 11 (a_up (a_up H6 133 9 (H6 133 9)) 133 10 (a_up H6 133 9 (H6 133 9) 133 10) 133 11) 133 12) 133 13) = H6 := by
          have idl : ∀ (X : a_P) (i : Int), a_up X 133 i (X 133 i) = X := fun X i => by
            funext a b
            unfold a_up
            split
            · rename_i h
              rw [h.1, h.2]
            · rfl
          rw [idl, idl, idl, idl, idl]
        refine a_fjn (Q := a_Qmb (G 134) (r_bp (G 134) a1 144)) (fun v : Int => (v = 1 ∧ r_bp (G 134) a1 (k + 1) = some (x6, r_own (G 134) c l, c, l)) ∨ (v = 0 ∧ r_bp (G 134) a1 (k + 1) = r_bp (G 134) a1 k)) (fun v hv => ?_) (fun j2 hj2 => ?_)
        · simp only [a_jn, a_bd]
          rcases hv with ⟨hv, hr⟩ | ⟨hv, hr⟩
          · rw [if_neg (by rw [hv]; decide), if_neg (by rw [hv]; decide), if_neg (by rw [hv]; decide), if_neg (by rw [hv]; decide), if_neg (by rw [hv]; decide)]
            refine hj _ ⟨a_asd_upo (a_asd_upo (a_asd_upo (a_asd_upo (a_asd_upo h6 (by omega) (by omega)) (by omega) (by omega)) (by omega) (by omega)) (by omega) (by omega)) (by omega) (by omega), ?_⟩
            rw [hr]
            exact take
          · rw [if_pos hv, if_pos hv, if_pos hv, if_pos hv, if_pos hv, keep]
            refine hj _ ⟨h6, ?_⟩
            rw [hr]
            exact b6
        · cases hx : r_bp (G 134) a1 k with
          | none =>
            rw [hx] at b6 er hj2
            have b9 : H6 133 9 = 99 := b6
            refine a_fjn (Q := a_Qmb (G 134) (r_bp (G 134) a1 144)) (fun _ => True) (fun _ _ => hj2 _ (Or.inl ⟨rfl, er⟩)) (fun j3 hj3 => ?_)
            rw [if_pos (show r_bt x6 8 < H6 133 9 by omega)]
            exact hj3 () trivial
          | some y =>
            rw [hx] at b6 er hj2
            obtain ⟨y9, y10, y11, y12, y13, yb⟩ := b6
            have er : r_bp (G 134) a1 (k + 1) = if r_bt x6 8 < r_bt y.1 8 ∨ (r_bt x6 8 = r_bt y.1 8 ∧ r_own (G 134) c l < y.2.1) then some (x6, r_own (G 134) c l, c, l) else some y := er
            rw [y9, y11]
            refine a_fjn (Q := a_Qmb (G 134) (r_bp (G 134) a1 144)) (fun _ => r_bt x6 8 < r_bt y.1 8 ∨ (r_bt x6 8 = r_bt y.1 8 ∧ r_own (G 134) c l < y.2.1)) (fun _ hq => hj2 _ (Or.inl ⟨rfl, by rw [er, if_pos hq]⟩)) (fun j3 hj3 => ?_)
            refine a_fifc (fun d1 => hj3 () (Or.inl d1)) (fun d1 => ?_)
            refine a_fjn (Q := a_Qmb (G 134) (r_bp (G 134) a1 144)) (fun _ => ¬ (r_bt x6 8 < r_bt y.1 8 ∨ (r_bt x6 8 = r_bt y.1 8 ∧ r_own (G 134) c l < y.2.1))) (fun _ hq => hj2 _ (Or.inr ⟨rfl, by rw [er, if_neg hq]⟩)) (fun j4 hj4 => ?_)
            exact a_fifc (fun d2 => a_fifc (fun d3 => hj3 () (Or.inr ⟨d2, d3⟩)) (fun d3 => hj4 () (by omega))) (fun d2 => hj4 () (by omega))
    · rw [y2]
      exact a_fifc (fun d => hj _ (by rw [if_pos d])) (fun d => hj _ (by rw [if_neg d]))
  · obtain ⟨q1, q2, q3⟩ := hss
    rw [if_neg (by rw [q1]; omega)]
    exact ⟨q2, q3⟩
theorem r_bp_some {W : Int → Int} {a1 m : Int} (o : a_ok m W) (hb : 0 ≤ W 3 ∧ W 3 < W 0) : ∃ y, r_bp W a1 144 = some y := by
  have st : 1 ≤ W (31 + W 3) := by
    rcases o.2.2.2.1 with q | ⟨-, -, q⟩
    · omega
    · exact q
  have key : ∀ k : Nat, (4 * W 1).toNat < k → ∃ y, r_bp W a1 k = some y := fun k => by
    induction k with
    | zero => intro h; omega
    | succ k ih =>
      intro h
      have o1 := o.2.1
      show ∃ y, (if r_stp W ((k : Int) / 4) < W (31 + W 3) then r_off (r_bp W a1 k) (r_par W a1 ((k : Int) / 4) ((k : Int) % 4)) (r_own W ((k : Int) / 4) ((k : Int) % 4)) ((k : Int) / 4) ((k : Int) % 4) else r_bp W a1 k) = some y
      by_cases c : r_stp W ((k : Int) / 4) < W (31 + W 3)
      · rw [if_pos c]
        cases r_bp W a1 k with
        | none => exact ⟨_, rfl⟩
        | some x =>
          unfold r_off
          simp only []
          split
          · exact ⟨_, rfl⟩
          · exact ⟨_, rfl⟩
      · rw [if_neg c]
        by_cases d : k = (4 * W 1).toNat
        · exfalso
          have e : (k : Int) / 4 = W 1 := by omega
          rw [e] at c
          have z : r_stp W (W 1) = 0 := fe_114s _ o1
          omega
        · exact ih (by omega)
  exact key 144 (by have := o.2.1; omega)
theorem r2_room (a1 a2 : Int) {H G : a_P} (h : a_R2 H G) : (fn_76 a1 a2 H).1 = (fn_165 a1 a2 G).1 := by
  have b0 := h.1.2.1
  have z1 := fe_13h h.1 a1
  have z2 := fe_162h (G := G) b0.1 b0.2 a1
  have st := fl_stands h.1.1 h.1.2
  have sb := a_shl1 b0.1 b0.2
  simp only [fn_76, fn_165, a_jn, a_bd, z1, z2, fe_91z, fe_108z, st]
  by_cases c1 : 0 ≤ a1 ∧ a1 < a_shl 1 (G 134 0)
  · have w1 : ¬ ¬ (0 ≤ a1 ∧ a1 < a_shl 1 (G 134 0)) := fun q => q c1
    rw [if_neg w1, if_neg w1]
    by_cases c2 : 0 ≤ a2 ∧ a2 < 3
    · have w2 : ¬ ¬ (0 ≤ a2 ∧ a2 < 3) := fun q => q c2
      have w3 : ¬ ¬ (0 ≤ a2 ∧ a2 ≤ 2) := fun q => q (by omega)
      rw [if_neg w2, if_neg w3]
      by_cases c3 : fn_117 G = 0
      · rw [if_pos c3, if_pos c3]
      · rw [if_neg c3, if_neg c3]
        have hb := a_std h.1.2 c3
        have hs : 0 ≤ a1 ∧ a1 ≤ 255 := by omega
        have fc := c_find h.1 hb hs
        have fm := (m_find h.1.2 hb hs).2
        obtain ⟨y, ey⟩ := r_bp_some (a1 := a1) h.1.2 hb
        rw [ey] at fc fm
        obtain ⟨-, p0, p1, p2, p3, pb⟩ := fc
        obtain ⟨q0, q1, q2, q3, q4, -⟩ := fm
        have bt := a_bits pb.1 pb.2
        rw [p0, p1, p2, p3, q0, q2, q3, q4]
        by_cases d : y.1 = 0
        · rw [if_pos d, if_neg (show ¬ 0 < r_bt y.1 8 by rw [bt.2.2.2.mpr d]; decide)]
          by_cases d0 : a2 = 0
          · rw [if_pos d0, if_pos d0]
          · rw [if_neg d0, if_neg d0]
            by_cases d1 : a2 = 1
            · rw [if_pos d1, if_pos d1]
            · rw [if_neg d1, if_neg d1]
        · have nz : ¬ r_bt y.1 8 = 0 := fun q => d (bt.2.2.2.mp q)
          have pz : 0 < r_bt y.1 8 := by
            have h0 := bt.2.1
            clear bt p0 p1 p2 p3 q0 q1 q2 q3 q4 pb
            generalize r_bt y.1 8 = z at h0 nz
            omega
          rw [if_neg d, if_pos pz]
    · rw [if_pos c2, if_pos (by omega)]
  · rw [if_pos c1, if_pos c1]
theorem r2_nearest (a1 a2 : Int) {H G : a_P} (h : a_R2 H G) : (fn_77 a1 a2 H).1 = (fn_166 a1 a2 G).1 := by
  have b0 := h.1.2.1
  have z1 := fe_13h h.1 a1
  have z2 := fe_162h (G := G) b0.1 b0.2 a1
  have st := fl_stands h.1.1 h.1.2
  have sb := a_shl1 b0.1 b0.2
  simp only [fn_77, fn_166, a_jn, a_bd, z1, z2, fe_91z, fe_108z, st]
  by_cases c1 : 0 ≤ a1 ∧ a1 < a_shl 1 (G 134 0)
  · have w1 : ¬ ¬ (0 ≤ a1 ∧ a1 < a_shl 1 (G 134 0)) := fun q => q c1
    rw [if_neg w1, if_neg w1]
    by_cases c2 : 0 ≤ a2 ∧ a2 < 3
    · have w2 : ¬ ¬ (0 ≤ a2 ∧ a2 < 3) := fun q => q c2
      have w3 : ¬ ¬ (0 ≤ a2 ∧ a2 ≤ 2) := fun q => q (by omega)
      rw [if_neg w2, if_neg w3]
      by_cases c3 : fn_117 G = 0
      · rw [if_pos c3, if_pos c3]
      · rw [if_neg c3, if_neg c3]
        have hb := a_std h.1.2 c3
        have hs : 0 ≤ a1 ∧ a1 ≤ 255 := by omega
        have fc := c_find h.1 hb hs
        have fm := (m_find h.1.2 hb hs).2
        obtain ⟨y, ey⟩ := r_bp_some (a1 := a1) h.1.2 hb
        rw [ey] at fc fm
        obtain ⟨-, p0, p1, p2, p3, pb⟩ := fc
        obtain ⟨q0, q1, q2, q3, q4, -⟩ := fm
        have bt := a_bits pb.1 pb.2
        rw [p0, p1, bt.1, q0, q1, q2]
        by_cases d0 : a2 = 0
        · rw [if_pos d0, if_pos d0]
        · rw [if_neg d0, if_neg d0]
          by_cases d1 : a2 = 1
          · rw [if_pos d1, if_pos d1]
          · rw [if_neg d1, if_neg d1]
    · rw [if_pos c2, if_pos (by omega)]
  · rw [if_pos c1, if_pos c1]
/-- answers of one heap -/
theorem a_glueA {G : a_P} {f : a_P → a_F} {g : a_P → a_F} (hR : a_R G) (hc : ∀ a b, 133 ≤ a → (f G).2 a b = G a b) (h : ∀ X, a_R2 G X → (f G).1 = (g X).1) : (f G).1 = (g (f G).2).1 := h _ (a_R2_fr hR (fun _ _ _ => rfl) (fun a b q => hc a b (by unfold a_mc at q; omega)))
theorem aR_room (a1 a2 : Int) {G : a_P} (hR : a_R G) (hS : a_S G) : (fn_76 a1 a2 G).1 = (fn_165 a1 a2 (fn_76 a1 a2 G).2).1 := a_glueA (f := fn_76 a1 a2) (g := fn_165 a1 a2) hR (fun a b q => fr_76 a1 a2 G a b (by unfold w_76; omega)) (fun X hX => r2_room a1 a2 hX)
theorem aR_nearest (a1 a2 : Int) {G : a_P} (hR : a_R G) (hS : a_S G) : (fn_77 a1 a2 G).1 = (fn_166 a1 a2 (fn_77 a1 a2 G).2).1 := a_glueA (f := fn_77 a1 a2) (g := fn_166 a1 a2) hR (fun a b q => fr_77 a1 a2 G a b (by unfold w_77; omega)) (fun X hX => r2_nearest a1 a2 hX)

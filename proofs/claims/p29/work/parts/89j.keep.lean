/-! WHAT IS TRIED IS LAID BACK -/
theorem a_fifc {ρ : Type} {Q : ρ → Prop} {c : Prop} [Decidable c] {A B : ρ} (h1 : c → Q A) (h2 : ¬ c → Q B) : Q (if c then A else B) := by
  by_cases h : c
  · rw [if_pos h]; exact h1 h
  · rw [if_neg h]; exact h2 h
def a_Q134 (W : Int → Int) (r : a_P) : Prop := ∀ b, r 134 b = W b
def a_Q134f (W : Int → Int) (r : a_F) : Prop := ∀ b, r.2 134 b = W b
/-- what lies aside is W, and the row is W beyond its 47 places -/
def a_pre (X : a_P) (W : Int → Int) : Prop := (∀ b, 0 ≤ b → b < 47 → X 138 b = W b) ∧ ∀ b, b < 0 ∨ 47 ≤ b → X 134 b = W b
theorem a_pre_asd {X : a_P} {W : Int → Int} (h : a_asd X W) : a_pre X W := ⟨h.2, fun b _ => h.1 b⟩
theorem a_pre_back {X : a_P} {W : Int → Int} (h : a_pre X W) : a_asd (fn_154 X) W := a_asd_back h.1 h.2
theorem a_pre_up {X : a_P} {W : Int → Int} {i v : Int} (h : a_pre X W) (h0 : 0 ≤ i) (h1 : i < 47) : a_pre (a_up X 134 i v) W := ⟨fun b q0 q1 => by rw [a_up_ne (by omega)]; exact h.1 b q0 q1, fun b q => by rw [a_up_ne (by omega)]; exact h.2 b q⟩
theorem a_pre_upo {X : a_P} {W : Int → Int} {c i v : Int} (h : a_pre X W) (h1 : ¬ c = 134) (h2 : ¬ c = 138) : a_pre (a_up X c i v) W := ⟨fun b q0 q1 => by rw [a_up_ne (by omega)]; exact h.1 b q0 q1, fun b q => by rw [a_up_ne (by omega)]; exact h.2 b q⟩
theorem a_asd_upo {X : a_P} {W : Int → Int} {c i v : Int} (h : a_asd X W) (h1 : ¬ c = 134) (h2 : ¬ c = 138) : a_asd (a_up X c i v) W := ⟨fun b => by rw [a_up_ne (by omega)]; exact h.1 b, fun b q0 q1 => by rw [a_up_ne (by omega)]; exact h.2 b q0 q1⟩
theorem mk_164 (a1 : Int) {G : a_P} (hb : 0 ≤ G 134 3 ∧ G 134 3 < 8) : a_Q134 (G 134) (fn_164 a1 G) := by
  unfold fn_164
  refine a_fbd1 (Q := a_Q134 (G 134)) ?_
  refine a_fbd1 (Q := a_Q134 (G 134)) ?_
  have hK : a_asd (fn_153 (a_up G 133 9 99)) (G 134) := by
    have := a_asd_0 (a_up G 133 9 99)
    have e : a_up G 133 9 99 134 = G 134 := by funext b; exact a_up_ne (by omega)
    rw [e] at this
    exact this
  have e3 : fn_153 (a_up G 133 9 99) 134 3 = G 134 3 := hK.1 3
  refine a_fbd1 (Q := a_Q134 (G 134)) ?_
  rw [e3]
  refine a_fbdi (Q := a_Q134 (G 134)) fun x2 => ?_
  generalize fn_153 (a_up G 133 9 99) = K at hK
  refine a_flp (Q := a_Q134 (G 134)) (fun s => a_asd s.2 (G 134)) ?_ (fun nx hnx s hs => ?_) a_fuel (0, K) hK
  · exact fun s hs => hs.1
  refine a_fif ?_ hs.1
  refine a_fbdi fun x3 => ?_
  refine a_fjn (fun _ => True) (fun s2 _ => ?_) (fun j hj => a_fif (hj _ trivial) (hj _ trivial))
  refine a_fbdi fun x4 => ?_
  refine a_fjn (fun s3 => a_asd s3 (G 134)) (fun s3 h3 => a_fbdi fun x5 => hnx _ h3) (fun j hj => ?_)
  refine a_fif ?_ (hj _ hs)
  refine a_fbd1 (Q := a_Q134 (G 134)) ?_
  refine a_fbd1 (Q := a_Q134 (G 134)) ?_
  refine a_fbd1 (Q := a_Q134 (G 134)) ?_
  refine a_fbdi fun x6 => ?_
  refine a_fbd1 (Q := a_Q134 (G 134)) ?_
  have h6 : a_asd (fn_154 (a_up (a_up (a_up s.2 134 1 (a_div s.1 4)) 134 2 (a_rem s.1 4)) 134 (a_w (15 + G 134 3)) (a_div s.1 4))) (G 134) := a_pre_back (a_pre_up (a_pre_up (a_pre_up (a_pre_asd hs) (by omega) (by omega)) (by omega) (by omega)) (by rw [a_w_id (by omega) (by omega)]; omega) (by rw [a_w_id (by omega) (by omega)]; omega))
  generalize fn_154 (a_up (a_up (a_up s.2 134 1 (a_div s.1 4)) 134 2 (a_rem s.1 4)) 134 (a_w (15 + G 134 3)) (a_div s.1 4)) = H6 at h6
  refine a_fjn (fun _ => True) (fun s4 _ => ?_) (fun j2 hj2 => ?_)
  · refine a_fjn (fun _ => True) (fun s5 _ => ?_) (fun j3 hj3 => a_fif (hj3 _ trivial) (hj3 _ trivial))
    refine a_fbd1 (Q := a_Q134 (G 134)) ?_
    refine a_fjn (fun _ => True) (fun s6 _ => ?_) (fun j3 hj3 => a_fif (hj3 _ trivial) (hj3 _ trivial))
    refine a_fbd1 (Q := a_Q134 (G 134)) ?_
    refine a_fjn (fun _ => True) (fun s7 _ => ?_) (fun j3 hj3 => a_fif (hj3 _ trivial) (hj3 _ trivial))
    refine a_fbd1 (Q := a_Q134 (G 134)) ?_
    refine a_fjn (fun _ => True) (fun s8 _ => ?_) (fun j3 hj3 => a_fif (hj3 _ trivial) (hj3 _ trivial))
    refine a_fbd1 (Q := a_Q134 (G 134)) ?_
    refine a_fjn (fun _ => True) (fun s9 _ => ?_) (fun j3 hj3 => a_fif (hj3 _ trivial) (hj3 _ trivial))
    refine a_fbd1 (Q := a_Q134 (G 134)) ?_
    exact hj _ (a_asd_upo (a_asd_upo (a_asd_upo (a_asd_upo (a_asd_upo h6 (by omega) (by omega)) (by omega) (by omega)) (by omega) (by omega)) (by omega) (by omega)) (by omega) (by omega))
  · exact a_fjn (fun _ => True) (fun _ _ => hj2 _ trivial) (fun j4 hj4 => a_fif (hj4 _ trivial) (a_fjn (fun _ => True) (fun _ _ => hj2 _ trivial) (fun j5 hj5 => a_fif (a_fif (hj4 _ trivial) (hj5 _ trivial)) (hj5 _ trivial))))
theorem a_std {G : a_P} {m : Int} (ho : a_ok m (G 134)) (h : ¬ fn_117 G = 0) : 0 ≤ G 134 3 ∧ G 134 3 < G 134 0 := by
  simp only [fn_117, a_jn] at h
  rcases ho.2.2.2.1 with r | ⟨r1, r2, -⟩
  · rw [if_pos r] at h
    exact absurd rfl h
  · exact ⟨r1, r2⟩
theorem mk_room (a1 a2 : Int) {G : a_P} {m : Int} (ho : a_ok m (G 134)) : a_Q134f (G 134) (fn_165 a1 a2 G) := by
  have b0 := ho.1
  unfold fn_165
  refine a_fjn (Q := a_Q134f (G 134)) (fun _ => True) (fun _ _ => fun b => rfl) (fun j hj => a_fif (hj () trivial) (a_fif (hj () trivial) (a_fifc (fun _ => fun b => rfl) (fun c => ?_))))
  have hb := a_std ho c
  have k := mk_164 a1 (G := G) (by omega)
  refine a_fbd1 (Q := a_Q134f (G 134)) ?_
  exact a_fjn (fun _ => True) (fun s2 _ => k) (fun j hj => a_fif (hj _ trivial) (a_fif (hj _ trivial) (a_fif (hj _ trivial) (hj _ trivial))))
theorem mk_nearest (a1 a2 : Int) {G : a_P} {m : Int} (ho : a_ok m (G 134)) : a_Q134f (G 134) (fn_166 a1 a2 G) := by
  have b0 := ho.1
  unfold fn_166
  refine a_fjn (Q := a_Q134f (G 134)) (fun _ => True) (fun _ _ => fun b => rfl) (fun j hj => a_fif (hj () trivial) (a_fif (hj () trivial) (a_fifc (fun _ => fun b => rfl) (fun c => ?_))))
  have hb := a_std ho c
  have k := mk_164 a1 (G := G) (by omega)
  refine a_fbd1 (Q := a_Q134f (G 134)) ?_
  exact a_fjn (fun _ => True) (fun s2 _ => k) (fun j hj => a_fif (hj _ trivial) (a_fif (hj _ trivial) (hj _ trivial)))
theorem mk_duel (a1 : Int) (G : a_P) : a_Q134f (G 134) (fn_168 a1 G) := by
  unfold fn_168
  refine a_fifc (Q := a_Q134f (G 134)) (fun _ => fun b => rfl) (fun c => ?_)
  have c : 0 ≤ a1 ∧ a1 ≤ 5 := Classical.not_not.mp (fun q => c ((fe_108z a1 0 5).mpr q))
  refine a_fjn (fun _ => True) (fun s1 _ => ?_) (fun j hj => ?_)
  · refine a_fbd1 (Q := a_Q134f (G 134)) ?_
    have hK := a_asd_0 G
    generalize fn_153 G = K at hK
    refine a_fjn (fun s2 => a_asd s2 (G 134)) (fun s2 h2 => ?_) (fun j hj => ?_)
    · refine a_fbdi fun x1 => ?_
      refine a_fjn (fun s3 => a_asd s3 (G 134)) (fun s3 h3 => h3.1) (fun j hj => ?_)
      refine a_flp (Q := a_Q134f (G 134)) (fun s => a_asd s.2.2 (G 134)) ?_ (fun nx hnx s hs => ?_) a_fuel (s1, x1, s2) h2
      · exact fun s hs => hs.1
      refine a_fif (hj _ hs) (a_fbdi fun x2 => ?_)
      refine a_fjn (fun s5 => a_asd s5 (G 134)) (fun s5 h5 => a_fbdi fun x3 => hnx _ h5) (fun j2 hj2 => ?_)
      refine a_flp (Q := a_Q134f (G 134)) (fun s6 => a_asd s6.2 (G 134)) ?_ (fun nx2 hnx2 s6 hs6 => ?_) a_fuel (0, s.2.2) hs
      · exact fun s6 hs6 => hs6.1
      refine a_fif (a_fbdi fun x4 => ?_) (hj2 _ hs6)
      refine a_fjn (fun _ => True) (fun s7 _ => ?_) (fun j3 hj3 => ?_)
      · refine a_fbd1 (Q := a_Q134f (G 134)) ?_
        exact a_fbdi fun x5 => hnx2 _ (a_asd_upo hs6 (by omega) (by omega))
      · refine a_flp (Q := a_Q134f (G 134)) (fun _ => True) ?_ (fun nx3 hnx3 s8 _ => ?_) a_fuel (x4, 1) trivial
        · exact fun _ _ => hs6.1
        exact a_fif (a_fbdi fun x6 => a_fjn (fun _ => True) (fun s9 _ => a_fbdi fun x7 => hnx3 _ trivial) (fun j4 hj4 => a_fif (a_fif (hj4 _ trivial) (hj4 _ trivial)) (a_fif (hj4 _ trivial) (hj4 _ trivial)))) (hj3 _ trivial)
    · refine a_flp (Q := a_Q134f (G 134)) (fun s => a_asd s.2 (G 134)) ?_ (fun nx hnx s hs => ?_) a_fuel (0, K) hK
      · exact fun s hs => hs.1
      refine a_fif ?_ (hj _ hs)
      refine a_fjn (fun s11 => a_pre s11 (G 134)) (fun s11 h11 => ?_) (fun j2 hj2 => ?_)
      · refine a_fbd1 (Q := a_Q134f (G 134)) ?_
        refine a_fbd1 (Q := a_Q134f (G 134)) ?_
        exact a_fbdi fun x8 => hnx _ (a_pre_back (a_pre_upo h11 (by omega) (by omega)))
      · refine a_lp_up (Q := a_Q134f (G 134)) (fun k s12 => s12.2.1 = (k : Int) ∧ a_pre s12.2.2 (G 134)) a1.toNat (by omega) (fun k s12 hk h12 nx2 hn2 => ?_) (fun s12 h12 nx2 => ?_) (s1, 0, s.2) ⟨rfl, a_pre_asd hs⟩
        · rw [if_pos (by rw [h12.1]; omega)]
          refine a_fbdi fun x9 => a_fbdi fun x10 => ?_
          refine a_fjn (fun _ => True) (fun s13 _ => ?_) (fun j3 hj3 => a_fif (hj3 _ trivial) (hj3 _ trivial))
          refine a_fbd1 (Q := a_Q134f (G 134)) ?_
          refine hn2 (x9, a_w (s12.2.1 + 1), _) ⟨?_, a_pre_up h12.2 (by omega) (by omega)⟩
          show a_w (s12.2.1 + 1) = _
          rw [h12.1, a_w_id (by omega) (by omega)]
          omega
        · rw [if_neg (by rw [h12.1]; omega)]
          exact hj2 _ h12.2
  · refine a_flp (Q := a_Q134f (G 134)) (fun _ => True) ?_ (fun nx hnx s _ => ?_) a_fuel (1, 0) trivial
    · exact fun _ _ => fun b => rfl
    exact a_fif (a_fbdi fun x12 => a_fbdi fun x13 => hnx _ trivial) (hj _ trivial)
theorem mk_dry (a1 a2 a3 a4 a5 : Int) {G : a_P} (ho : a_ok 9999 (G 134)) : a_Q134f (G 134) (fn_172 a1 a2 a3 a4 a5 G) := by
  unfold fn_172
  refine a_fjn (Q := a_Q134f (G 134)) (fun _ => True) (fun _ _ => fun b => rfl) (fun j hj => a_fif (hj () trivial) (a_fif (hj () trivial) (a_fifc (fun _ => hj () trivial) (fun c => a_fif (hj () trivial) (a_fif (hj () trivial) ?_)))))
  have c : 0 ≤ a3 ∧ a3 ≤ 6 := Classical.not_not.mp (fun q => c ((fe_108z a3 0 6).mpr q))
  refine a_fbd1 (Q := a_Q134f (G 134)) ?_
  have hK := a_asd_0 G
  generalize fn_153 G = K at hK
  refine a_fjn (fun s2 : Int × Int × a_P => a_asd s2.2.2 (G 134)) (fun s2 h2 => h2.1) (fun j hj => ?_)
  refine a_flp (Q := a_Q134f (G 134)) (fun s => a_asd s.2.2.2 (G 134)) ?_ (fun nx hnx s hs => ?_) a_fuel (0, 0, 0, K) hK
  · exact fun s hs => hs.1
  refine a_fif ?_ (hj _ hs)
  refine a_fjn (fun s4 : Int × a_P => a_pre s4.2 (G 134)) (fun s4 h4 => ?_) (fun j2 hj2 => ?_)
  · refine a_fbdi fun x1 => ?_
    refine a_fjn (fun _ => True) (fun s5 _ => ?_) (fun j3 hj3 => a_fif (hj3 _ trivial) (hj3 _ trivial))
    refine a_fbdi fun x2 => ?_
    refine a_fbd1 (Q := a_Q134f (G 134)) ?_
    exact a_fbdi fun x3 => hnx _ (a_pre_back h4)
  · refine a_lp_up (Q := a_Q134f (G 134)) (fun k s6 => s6.2.1 = (k : Int) ∧ a_pre s6.2.2 (G 134) ∧ a_ok (9999 + (k : Int)) (s6.2.2 134)) a3.toNat (by omega) (fun k s6 hk h6 nx2 hn2 => ?_) (fun s6 h6 nx2 => ?_) (1, 0, s.2.2.2) ⟨rfl, a_pre_asd hs, by
      have e : s.2.2.2 134 = G 134 := funext hs.1
      show a_ok (9999 + ((0 : Nat) : Int)) (s.2.2.2 134)
      rw [e]
      exact a_ok_mono ho (by omega)⟩
    · rw [if_pos (by rw [h6.1]; omega)]
      refine a_fjn (fun _ => True) (fun s7 _ => ?_) (fun j3 hj3 => a_fif (hj3 _ trivial) (hj3 _ trivial))
      refine a_fjn (fun _ => True) (fun s8 _ => ?_) (fun j3 hj3 => a_fif (hj3 _ trivial) (hj3 _ trivial))
      refine a_fbdi fun x4 => ?_
      refine a_fbd1 (Q := a_Q134f (G 134)) ?_
      have mp := fl_mpass (c := s7) h6.2.2 (by omega)
      refine hn2 (x4, a_w (s6.2.1 + 1), fn_123 s7 s6.2.2) ⟨?_, ⟨fun b q0 q1 => ?_, fun b q => ?_⟩, ?_⟩
      · show a_w (s6.2.1 + 1) = _
        rw [h6.1, a_w_id (by omega) (by omega)]
        omega
      · show fn_123 s7 s6.2.2 138 b = _
        rw [fr_123 s7 s6.2.2 138 b (by unfold w_123; omega)]
        exact h6.2.1.1 b q0 q1
      · show fn_123 s7 s6.2.2 134 b = _
        rw [mp b, r_pass_o h6.2.2.1.2 q]
        exact h6.2.1.2 b q
      · show a_ok (9999 + ((k + 1 : Nat) : Int)) (fn_123 s7 s6.2.2 134)
        have e : fn_123 s7 s6.2.2 134 = r_pass s7 (s6.2.2 134) := funext mp
        rw [e]
        exact a_ok_mono (r_pass_ok h6.2.2) (by omega)
    · rw [if_neg (by rw [h6.1]; omega)]
      exact hj2 _ h6.2.1
def a_Qas (W : Int → Int) (r : a_F) : Prop := a_asd r.2 W
theorem mk_182 {a1 a2 m : Int} {X : a_P} {W : Int → Int} (hp : a_pre X W) (ho : a_ok m (X 134)) (hm : m ≤ 100000) (h0 : 0 ≤ a2) (h1 : a2 ≤ 1000) : a_Qas W (fn_182 a1 a2 X) := by
  unfold fn_182
  refine a_fjn (Q := a_Qas W) (fun s : Int × a_P => a_pre s.2 W) (fun s h => a_pre_back h) (fun j hj => ?_)
  refine a_lp_up (Q := a_Qas W) (fun k s => s.2.1 = (k : Int) ∧ a_pre s.2.2 W ∧ a_ok (m + (k : Int)) (s.2.2 134)) a2.toNat (by omega) (fun k s hk hs nx hn => ?_) (fun s hs nx => ?_) (1, 0, X) ⟨rfl, hp, a_ok_mono ho (by omega)⟩
  · rw [if_pos (by rw [hs.1]; omega)]
    refine a_fif (hj _ hs.2.1) ?_
    refine a_fbd1 (Q := a_Qas W) ?_
    refine a_fjn (fun _ => True) (fun s3 _ => ?_) (fun j3 hj3 => a_fif (hj3 _ trivial) (hj3 _ trivial))
    have mp := fl_mhour hs.2.2 (by omega)
    refine hn (s3, a_w (s.2.1 + 1), fn_124 s.2.2) ⟨?_, ⟨fun b q0 q1 => ?_, fun b q => ?_⟩, ?_⟩
    · show a_w (s.2.1 + 1) = _
      rw [hs.1, a_w_id (by omega) (by omega)]
      omega
    · show fn_124 s.2.2 138 b = _
      rw [fr_124 s.2.2 138 b (by unfold w_124; omega)]
      exact hs.2.1.1 b q0 q1
    · show fn_124 s.2.2 134 b = _
      rw [mp b, r_h_o hs.2.2.1.2 q]
      exact hs.2.1.2 b q
    · show a_ok (m + ((k + 1 : Nat) : Int)) (fn_124 s.2.2 134)
      have e : fn_124 s.2.2 134 = r_h (s.2.2 134) := funext mp
      rw [e]
      exact a_ok_mono (r_h_ok hs.2.2) (by omega)
  · rw [if_neg (by rw [hs.1]; omega)]
    exact hj _ hs.2.1
theorem mk_seen (a1 a2 a3 a4 a5 a6 : Int) {G : a_P} (ho : a_ok 9999 (G 134)) : a_Q134f (G 134) (fn_183 a1 a2 a3 a4 a5 a6 G) := by
  have b0 := ho.1
  unfold fn_183
  refine a_fjn (Q := a_Q134f (G 134)) (fun _ => True) (fun _ _ => fun b => rfl) (fun j hj => a_fifc (fun _ => hj () trivial) (fun c1 => a_fif (hj () trivial) (a_fif (hj () trivial) (a_fifc (fun _ => hj () trivial) (fun c5 => a_fifc (fun _ => hj () trivial) (fun c6 => a_fbdi fun x1 => a_fif (fun b => rfl) ?_))))))
  have c1 : 0 ≤ a1 ∧ a1 < G 134 0 := Classical.not_not.mp (fun q => c1 ((fe_110 b0.1 b0.2).mpr q))
  have c6 : 0 ≤ a6 ∧ a6 ≤ 2 := Classical.not_not.mp (fun q => c6 ((fe_108z a6 0 2).mpr q))
  have c5 : 1 ≤ a5 ∧ a5 ≤ 8 := Classical.not_not.mp (fun q => c5 ((fe_108z a5 1 8).mpr q))
  refine a_fbd1 (Q := a_Q134f (G 134)) ?_
  have hK := a_asd_0 G
  generalize fn_153 G = K at hK
  refine a_flp (Q := a_Q134f (G 134)) (fun s => a_asd s.2.2 (G 134) ∧ 0 ≤ s.2.1 ∧ s.2.1 ≤ 5) ?_ (fun nx hnx s hs => ?_) a_fuel (0, 0, K) ⟨hK, by show (0 : Int) ≤ 0; omega, by show (0 : Int) ≤ 5; omega⟩
  · exact fun s hs => hs.1.1
  refine a_fjn (fun s3 : Int => s3 ≤ 5 ∧ (a6 = 2 → s3 ≤ 4)) (fun s3 h3 => ?_) (fun j hj => a_fifc (fun _ => hj _ ⟨by omega, fun _ => by omega⟩) (fun q => hj _ ⟨by omega, fun w => absurd w q⟩))
  refine a_fifc (fun cv => ?_) (fun _ => hs.1.1)
  have e134 : s.2.2 134 = G 134 := funext hs.1.1
  refine a_fjn (fun s4 : Int => (0 ≤ s4 ∧ s4 < 47) ∧ a_ok 9999 (r_up (G 134) s4 s.2.1)) (fun s4 h4 => ?_) (fun j hj => ?_)
  · refine a_fbd1 (Q := a_Q134f (G 134)) ?_
    have ok : a_ok 9999 (a_up s.2.2 134 s4 s.2.1 134) := by rw [a_up_row, e134]; exact h4.2
    have k := mk_182 (a1 := a_w (a_w (24 * a2) + a4)) (a2 := a5) (a_pre_up (i := s4) (v := s.2.1) (a_pre_asd hs.1) h4.1.1 h4.1.2) ok (by omega) (by omega) (by omega)
    refine a_fbd1 (Q := a_Q134f (G 134)) ?_
    refine a_fjn (fun _ => True) (fun s5 _ => ?_) (fun j3 hj3 => a_fif (hj3 _ trivial) (hj3 _ trivial))
    refine a_fbdi fun x2 => ?_
    refine hnx (x2, a_w (s.2.1 + 1), _) ⟨k, ?_, ?_⟩
    · show 0 ≤ a_w (s.2.1 + 1)
      rw [a_w_id (by omega) (by omega)]
      omega
    · show a_w (s.2.1 + 1) ≤ 5
      rw [a_w_id (by omega) (by omega)]
      omega
  · refine a_fifc (fun d0 => hj _ ?_) (fun d0 => a_fifc (fun d1 => hj _ ?_) (fun d1 => hj _ ?_))
    · rw [a_w_id (x := 7 + a1) (by omega) (by omega)]
      refine ⟨by omega, a_ok_a ho (fun b q => r_up_ne (by omega)) (fun q => ?_) (fun i w0 w1 => ?_)⟩
      · rcases ho.2.2.2.1 with r | ⟨r1, r2, r3⟩
        · exact absurd r q
        · rw [r_up_ne (by omega)]
          exact r3
      · obtain ⟨u1, u2, u3, u4, u5⟩ := ho.2.2.2.2.2.2.2 i w0 w1
        rw [r_up_ne (b := 15 + i) (by omega), r_up_ne (b := 23 + i) (by omega), r_up_ne (b := 31 + i) (by omega), r_up_ne (b := 39 + i) (by omega)]
        refine ⟨?_, u2, u3, u4, u5⟩
        by_cases ci : i = a1
        · rw [ci, r_up_eq]
          omega
        · rw [r_up_ne (by omega)]
          exact u1
    · rw [a_w_id (x := 23 + a1) (by omega) (by omega)]
      refine ⟨by omega, a_ok_a ho (fun b q => r_up_ne (by omega)) (fun q => ?_) (fun i w0 w1 => ?_)⟩
      · rcases ho.2.2.2.1 with r | ⟨r1, r2, r3⟩
        · exact absurd r q
        · rw [r_up_ne (by omega)]
          exact r3
      · obtain ⟨u1, u2, u3, u4, u5⟩ := ho.2.2.2.2.2.2.2 i w0 w1
        rw [r_up_ne (b := 7 + i) (by omega), r_up_ne (b := 15 + i) (by omega), r_up_ne (b := 31 + i) (by omega), r_up_ne (b := 39 + i) (by omega)]
        refine ⟨u1, u2, ?_, u4, u5⟩
        by_cases ci : i = a1
        · rw [ci, r_up_eq]
          omega
        · rw [r_up_ne (by omega)]
          exact u3
    · refine ⟨by omega, a_ok_l ho hs.2.1 ?_⟩
      have := h3.2 (by omega)
      omega
theorem mk_film (a1 a2 a3 a4 : Int) {G : a_P} (ho : a_ok 9999 (G 134)) : a_Q134f (G 134) (fn_184 a1 a2 a3 a4 G) := by
  have b0 := ho.1
  unfold fn_184
  refine a_fjn (Q := a_Q134f (G 134)) (fun _ => True) (fun _ _ => fun b => rfl) (fun j hj => a_fifc (fun _ => hj () trivial) (fun c1 => a_fif (hj () trivial) (a_fif (hj () trivial) (a_fbdi fun x1 => a_fif (fun b => rfl) ?_))))
  have c1 : 1 ≤ a1 ∧ a1 ≤ 24 := Classical.not_not.mp (fun q => c1 ((fe_108z a1 1 24).mpr q))
  refine a_fbd1 (Q := a_Q134f (G 134)) ?_
  have hK := a_asd_0 G
  have eK : fn_153 G 134 = G 134 := funext hK.1
  generalize fn_153 G = K at hK eK
  refine a_lp_up (Q := a_Q134f (G 134)) (fun k s => s.1 = (k : Int) ∧ a_pre s.2 (G 134) ∧ a_ok (9999 + (k : Int)) (s.2 134)) a1.toNat (by omega) (fun k s hk hs nx hn => ?_) (fun s hs nx => ?_) (0, K) ⟨rfl, a_pre_asd hK, by show a_ok (9999 + ((0 : Nat) : Int)) (K 134); rw [eK]; exact a_ok_mono ho (by omega)⟩
  · rw [if_pos (by rw [hs.1]; omega)]
    refine a_fbd1 (Q := a_Q134f (G 134)) ?_
    refine a_fbd1 (Q := a_Q134f (G 134)) ?_
    have mp := fl_mhour hs.2.2 (by omega)
    have pr : a_pre (fn_124 s.2) (G 134) := ⟨fun b q0 q1 => by rw [fr_124 s.2 138 b (by unfold w_124; omega)]; exact hs.2.1.1 b q0 q1, fun b q => by rw [mp b, r_h_o hs.2.2.1.2 q]; exact hs.2.1.2 b q⟩
    have e : fn_124 s.2 134 = r_h (s.2 134) := funext mp
    refine hn (a_w (s.1 + 1), _) ⟨?_, a_pre_upo pr (by omega) (by omega), ?_⟩
    · show a_w (s.1 + 1) = _
      rw [hs.1, a_w_id (by omega) (by omega)]
      omega
    · have e2 : ∀ i v, a_up (fn_124 s.2) 144 i v 134 = fn_124 s.2 134 := fun i v => by funext b; exact a_up_ne (by omega)
      show a_ok (9999 + ((k + 1 : Nat) : Int)) (a_up (fn_124 s.2) 144 (a_w (a_w (a_w (24 * a2) + a4) + s.1)) (fn_176 (fn_120 (fn_124 s.2)) a3) 134)
      rw [e2, e]
      exact a_ok_mono (r_h_ok hs.2.2) (by omega)
  · rw [if_neg (by rw [hs.1]; omega)]
    refine a_fbd1 (Q := a_Q134f (G 134)) ?_
    exact (a_pre_back hs.2.1).1

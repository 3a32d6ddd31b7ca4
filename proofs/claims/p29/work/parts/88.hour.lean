theorem r_S3_s {G G' : a_P} {k : Int} {w : Int → Int} (h : ∀ b, G 134 b = r_S3 k w b) (hk : 0 ≤ k) (hf : ∀ b, ¬ (b = 31 + k) → G' 134 b = G 134 b) (hc : G' 134 (31 + k) = r_S3 (k + 1) w (31 + k)) : ∀ b, G' 134 b = r_S3 (k + 1) w b := by
  intro b
  by_cases c : b = 31 + k
  · subst c
    exact hc
  · rw [hf b c, h b]
    unfold r_S3
    by_cases d : 31 ≤ b ∧ b < 31 + k
    · rw [if_pos d, if_pos (show 31 ≤ b ∧ b < 31 + (k + 1) from ⟨d.1, by omega⟩)]
    · rw [if_neg d, if_neg (by omega)]
theorem fl_mstrong {G : a_P} {m : Int} (ho : a_ok m (G 134)) (j : a_P → a_P) : ∃ G1, a_lp (fun (s5 : Int × a_P) => s5.2) (fun (s5 : Int × a_P) n118 => (if s5.1 < (s5.2 134 0) then a_jn (fun (s6 : Int) => a_bd (a_w ((s5.2 134 (a_w (31 + s5.1))) + s6)) fun x3 =>
  a_jn (fun (s7 : Int) => a_bd (a_up s5.2 134 (a_w (31 + s5.1)) s7) fun H3 =>
  a_bd (a_w (s5.1 + 1)) fun x4 =>
  n118 (x4, H3)) fun j176 =>
  (if 20 < x3 then j176 20
  else j176 x3)) fun j150 =>
  (if s5.1 = (G 134 3) then j150 (-1)
  else j150 1)
  else j s5.2)) a_fuel (0, G) = j G1 ∧ (∀ b, G1 134 b = r_S3 (G 134 0) (G 134) b) ∧ ∀ a b, ¬ a = 134 → G1 a b = G a b := by
  have b0 := ho.1
  refine a_lp_up (Q := fun r => ∃ G1, r = j G1 ∧ (∀ b, G1 134 b = r_S3 (G 134 0) (G 134) b) ∧ ∀ a b, ¬ a = 134 → G1 a b = G a b) (fun k s => s.1 = (k : Int) ∧ (∀ b, s.2 134 b = r_S3 (k : Int) (G 134) b) ∧ ∀ a b, ¬ a = 134 → s.2 a b = G a b) (G 134 0).toNat (by omega) (fun k s hk hss nx hn => ?_) (fun s hss nx => ?_) (0, G) ⟨rfl, fun b => (r_S3_o (by omega)).symm, fun a b _ => rfl⟩
  · obtain ⟨k0, X⟩ := s
    obtain ⟨h1, h2, h3⟩ : (k0 = (k : Int)) ∧ (∀ b, X 134 b = r_S3 (k : Int) (G 134) b) ∧ (∀ a b, ¬ a = 134 → X a b = G a b) := hss
    subst h1
    have e0 : X 134 0 = G 134 0 := by rw [h2, r_S3_o (by omega)]
    have e31 : Unit → a_w (31 + (k : Int)) = 31 + (k : Int) := fun _ => a_w_id (by omega) (by omega)
    have es : X 134 (31 + (k : Int)) = G 134 (31 + (k : Int)) := by rw [h2, r_S3_o (by omega)]
    have oi := ho.2.2.2.2.2.2.2 (k : Int) (by omega) (by omega)
    have ek : Unit → a_w ((k : Int) + 1) = ((k + 1 : Nat) : Int) := fun _ => by rw [a_w_id (by omega) (by omega)]; omega
    simp only [a_jn, a_bd, e0, e31 (), es, ek ()]
    rw [if_pos (by omega)]
    have kk : ∀ v, v = r_S3 ((k : Int) + 1) (G 134) (31 + (k : Int)) → (∃ G1, nx (((k + 1 : Nat) : Int), a_up X 134 (31 + (k : Int)) v) = j G1 ∧ (∀ b, G1 134 b = r_S3 (G 134 0) (G 134) b) ∧ ∀ a b, ¬ a = 134 → G1 a b = G a b) := by
      intro v hv
      refine hn _ ⟨rfl, ?_, fun a b g => ?_⟩
      · refine r_S3_s h2 (by omega) (fun b g => a_up_ne (by omega)) ?_
        show a_up X 134 (31 + (k : Int)) v 134 (31 + (k : Int)) = _
        rw [a_up_eq, hv]
      · show a_up X 134 (31 + (k : Int)) v a b = _
        rw [a_up_ne (by omega), h3 a b g]
    have val : r_S3 ((k : Int) + 1) (G 134) (31 + (k : Int)) = a_cap (G 134 (31 + (k : Int)) + (if (k : Int) = G 134 3 then -1 else 1)) := by
      unfold r_S3
      rw [if_pos (by omega), show 31 + (k : Int) - 31 = (k : Int) by omega]
    rw [val] at kk
    unfold a_cap at kk
    by_cases c1 : (k : Int) = G 134 3
    · rw [if_pos c1]
      rw [if_pos c1] at kk
      rw [a_w_id (by omega) (by omega)]
      by_cases c2 : 20 < G 134 (31 + (k : Int)) + -1
      · rw [if_pos c2]
        rw [if_pos c2] at kk
        exact kk _ rfl
      · rw [if_neg c2]
        rw [if_neg c2] at kk
        exact kk _ rfl
    · rw [if_neg c1]
      rw [if_neg c1] at kk
      rw [a_w_id (by omega) (by omega)]
      by_cases c2 : 20 < G 134 (31 + (k : Int)) + 1
      · rw [if_pos c2]
        rw [if_pos c2] at kk
        exact kk _ rfl
      · rw [if_neg c2]
        rw [if_neg c2] at kk
        exact kk _ rfl
  · obtain ⟨h1, h2, h3⟩ := hss
    have e0 : s.2 134 0 = G 134 0 := by rw [h2, r_S3_o (by omega)]
    rw [if_neg (by rw [h1, e0]; omega)]
    rw [show (((G 134 0).toNat : Nat) : Int) = G 134 0 by omega] at h2
    exact ⟨s.2, rfl, h2, h3⟩
theorem r_S1_ok {m : Int} {w : Int → Int} (ho : a_ok m w) : a_ok m (r_S1 (w 0) w) := by
  obtain ⟨o0, o1, o2, o3, o4, o5, o6, oA⟩ := ho
  have e : ∀ b, b < 15 ∨ 31 ≤ b → r_S1 (w 0) w b = w b := fun b hb => r_S1_o (by omega) (by omega)
  refine ⟨by rw [e 0 (by decide)]; exact o0, by rw [e 1 (by decide)]; exact o1, by rw [e 2 (by decide)]; exact o2, ?_, by rw [e 4 (by decide)]; exact o4, by rw [e 5 (by decide)]; exact o5, by rw [e 6 (by decide)]; exact o6, fun i h0 h1 => ?_⟩
  · rw [e 3 (by decide), e 0 (by decide)]
    rcases o3 with h | ⟨h1, h2, h3⟩
    · exact Or.inl h
    · exact Or.inr ⟨h1, h2, by rw [e _ (by omega)]; exact h3⟩
  · rw [e 0 (by decide)] at h1
    obtain ⟨q1, q2, q3, q4, q5⟩ := oA i h0 h1
    refine ⟨by rw [e _ (by omega)]; exact q1, ?_, ?_, by rw [e _ (by omega)]; exact q4, by rw [e _ (by omega)]; exact q5⟩
    · rw [r_S1_c h0 h1]
      unfold r_cell
      split
      · exact q2
      · split
        · exact q2
        · rename_i c1 c2
          by_cases d : w (23 + i) = 4
          · rw [d] at c2
            exact absurd (fl_step4 _) c2
          · rcases fl_step q2 (show 0 ≤ w (23 + i) ∧ w (23 + i) ≤ 3 by omega) with ⟨-, z⟩ | ⟨-, z1, z2⟩
            · exact absurd z c2
            · exact ⟨z1, z2⟩
    · rw [r_S1_w h0 h1 o0.2]
      unfold r_walk
      split
      · exact q3
      · split
        · split <;> omega
        · exact q3
theorem r_S4_ok {m : Int} {w : Int → Int} (ho : a_ok m w) : a_ok (m + 1) (r_S4 (r_S3 (w 0) w)) := by
  obtain ⟨o0, o1, o2, o3, o4, o5, o6, oA⟩ := ho
  have e3 : ∀ b, b < 31 ∨ 39 ≤ b → r_S3 (w 0) w b = w b := fun b hb => r_S3_o (by omega)
  have e : ∀ b, ¬ b = 3 → ¬ b = 5 → (b < 31 ∨ 39 ≤ b) → r_S4 (r_S3 (w 0) w) b = w b := fun b h3 h5 hb => by
    unfold r_S4
    rw [if_neg h3, if_neg h5, e3 b hb]
  have e5 : r_S4 (r_S3 (w 0) w) 5 = w 5 + 1 := by
    unfold r_S4
    rw [if_neg (by decide), if_pos rfl, e3 5 (by decide)]
  have es : ∀ i, 0 ≤ i → i < w 0 → r_S4 (r_S3 (w 0) w) (31 + i) = a_cap (w (31 + i) + (if i = w 3 then -1 else 1)) := fun i h0 h1 => by
    unfold r_S4 r_S3
    rw [if_neg (by omega), if_neg (by omega), if_pos (by omega), show 31 + i - 31 = i by omega]
  refine ⟨by rw [e 0 (by decide) (by decide) (by decide)]; exact o0, by rw [e 1 (by decide) (by decide) (by decide)]; exact o1, by rw [e 2 (by decide) (by decide) (by decide)]; exact o2, ?_, by rw [e 4 (by decide) (by decide) (by decide)]; exact o4, by rw [e5]; omega, by rw [e 6 (by decide) (by decide) (by decide)]; exact o6, fun i h0 h1 => ?_⟩
  · have e33 : r_S4 (r_S3 (w 0) w) 3 = if ¬ (w 3 = -4) ∧ r_S3 (w 0) w (31 + w 3) = 0 then -4 else w 3 := by
      unfold r_S4
      rw [if_pos rfl, e3 3 (by decide)]
    rw [e33, e 0 (by decide) (by decide) (by decide)]
    rcases o3 with h | ⟨h1, h2, h3⟩
    · rw [if_neg (fun g => g.1 h)]
      exact Or.inl h
    · have oi := oA (w 3) h1 h2
      have s3 : r_S3 (w 0) w (31 + w 3) = w (31 + w 3) - 1 := by
        unfold r_S3
        rw [if_pos (by omega), if_pos (by omega)]
        unfold a_cap
        rw [if_neg (by omega)]
        omega
      rw [s3]
      by_cases c : w (31 + w 3) - 1 = 0
      · rw [if_pos ⟨by omega, c⟩]
        exact Or.inl rfl
      · rw [if_neg (fun g => c g.2)]
        refine Or.inr ⟨h1, h2, ?_⟩
        rw [es (w 3) h1 h2, if_pos rfl]
        unfold a_cap
        rw [if_neg (by omega)]
        omega
  · rw [e 0 (by decide) (by decide) (by decide)] at h1
    obtain ⟨q1, q2, q3, q4, q5⟩ := oA i h0 h1
    refine ⟨by rw [e _ (by omega) (by omega) (by omega)]; exact q1, by rw [e _ (by omega) (by omega) (by omega)]; exact q2, by rw [e _ (by omega) (by omega) (by omega)]; exact q3, ?_, by rw [e _ (by omega) (by omega) (by omega)]; exact q5⟩
    rw [es i h0 h1]
    unfold a_cap
    by_cases c : i = w 3
    · have : 1 ≤ w (31 + i) := by
        rcases o3 with h | ⟨g1, g2, g3⟩
        · omega
        · rw [c]; exact g3
      rw [if_pos c]
      split <;> omega
    · rw [if_neg c]
      split <;> omega
/-- a row behind an HOUR -/
def r_rn (w : Int → Int) : Int := if a_and (a_shr (w 4) (a_rem (w 5) 6)) 1 = 1 then 1 else 0
noncomputable def r_w2 (c : Int) (w : Int → Int) : Int → Int := fun b => if c = 0 then r_S1 (w 0) w b else r_S2 (r_S1 (w 0) w 0) (r_S1 (w 0) w) b
noncomputable def r_pass (c : Int) (w : Int → Int) : Int → Int := r_S4 (r_S3 (r_w2 c w 0) (r_w2 c w))
theorem r_w2_ok {m c : Int} {w : Int → Int} (ho : a_ok m w) : a_ok m (r_w2 c w) := by
  by_cases h : c = 0
  · have e : r_w2 c w = r_S1 (w 0) w := by funext b; unfold r_w2; rw [if_pos h]
    rw [e]
    exact r_S1_ok ho
  · have e : r_w2 c w = r_S2 (r_S1 (w 0) w 0) (r_S1 (w 0) w) := by funext b; unfold r_w2; rw [if_neg h]
    rw [e]
    exact r_S2_ok (r_S1_ok ho)
theorem r_pass_ok {m c : Int} {w : Int → Int} (ho : a_ok m w) : a_ok (m + 1) (r_pass c w) := r_S4_ok (r_w2_ok ho)
theorem a_ok_ext {m : Int} {w w' : Int → Int} (ho : a_ok m w) (h : ∀ b, w' b = w b) : a_ok m w' := by
  have e : w' = w := funext h
  rw [e]; exact ho
theorem a_fbd1 {α ρ : Type} {Q : ρ → Prop} {e : α} {f : α → ρ} (h : Q (f e)) : Q (a_bd e f) := h
def a_Qr (w : Int → Int) (r : a_P) : Prop := ∀ b, r 134 b = w b
theorem fl_mpass {G : a_P} {m c : Int} (ho : a_ok m (G 134)) (hm : m ≤ 1000000) : a_Qr (r_pass c (G 134)) (fn_123 c G) := by
  unfold fn_123
  refine a_fjn (fun s1 => a_Qr (r_S1 (G 134 0) (G 134)) s1) (fun s1 h1 => ?_) (fun j hj => ?_)
  · have o1 : a_ok m (s1 134) := a_ok_ext (r_S1_ok ho) h1
    refine a_fbd1 ?_
    refine a_fjn (fun s2 => a_Qr (r_w2 c (G 134)) s2) (fun s2 h2 => ?_) (fun j hj => ?_)
    · have o2 : a_ok m (s2 134) := a_ok_ext (r_w2_ok ho) h2
      have b2 := o2.1
      refine a_fbd1 ?_
      refine a_fjn (fun s3 => a_Qr (r_S3 (s2 134 0) (s2 134)) s3) (fun s3 h3 => ?_) (fun j hj => ?_)
      · have ew : s2 134 = r_w2 c (G 134) := funext h2
        have fin : ∀ s4 : a_P, (∀ b, ¬ b = 3 → s4 134 b = s3 134 b) → s4 134 3 = r_pass c (G 134) 3 → a_Qr (r_pass c (G 134)) (a_up s4 134 5 (a_w (s4 134 5 + 1))) := by
          intro s4 hf h33 b
          have z5 : s4 134 5 = s2 134 5 := by rw [hf 5 (by decide), h3 5, r_S3_o (by omega)]
          have bh := o2.2.2.2.2.2.1
          by_cases c5 : b = 5
          · subst c5
            rw [a_up_eq, z5, a_w_id (by omega) (by omega)]
            unfold r_pass r_S4
            rw [if_neg (by decide), if_pos rfl, ← ew, r_S3_o (by omega)]
          · rw [a_up_ne (by omega)]
            by_cases c3 : b = 3
            · subst c3
              exact h33
            · rw [hf b c3, h3 b]
              unfold r_pass r_S4
              rw [if_neg c3, if_neg c5, ← ew]
        have p3 : r_pass c (G 134) 3 = if ¬ (s2 134 3 = -4) ∧ s3 134 (31 + s2 134 3) = 0 then -4 else s2 134 3 := by
          unfold r_pass r_S4
          rw [if_pos rfl, ← ew, r_S3_o (b := 3) (by omega), h3 (31 + s2 134 3)]
        have z3 : s3 134 3 = s2 134 3 := by rw [h3 3, r_S3_o (by omega)]
        refine a_fjn (fun s4 => (∀ b, ¬ b = 3 → s4 134 b = s3 134 b) ∧ s4 134 3 = r_pass c (G 134) 3) (fun s4 h4 => fin s4 h4.1 h4.2) (fun j hj => ?_)
        by_cases cx : s2 134 3 = -4
        · rw [if_pos cx]
          exact hj _ ⟨fun _ _ => rfl, by rw [p3, if_neg (fun g => g.1 cx), z3]⟩
        · rw [if_neg cx]
          have hb : 0 ≤ s2 134 3 ∧ s2 134 3 < s2 134 0 := by
            rcases o2.2.2.2.1 with h | ⟨h1, h2, -⟩
            · exact absurd h cx
            · exact ⟨h1, h2⟩
          have e31 : Unit → a_w (31 + s2 134 3) = 31 + s2 134 3 := fun _ => a_w_id (by omega) (by omega)
          rw [e31 ()]
          by_cases cz : s3 134 (31 + s2 134 3) = 0
          · rw [if_pos cz]
            exact hj _ ⟨fun b h => a_up_ne (by omega), by rw [a_up_eq, p3, if_pos ⟨cx, cz⟩]⟩
          · rw [if_neg cz]
            exact hj _ ⟨fun _ _ => rfl, by rw [p3, if_neg (fun g => cz g.2), z3]⟩
      · obtain ⟨G3, e, r, -⟩ := fl_mstrong o2 j
        rw [e]
        exact hj G3 r
    · obtain ⟨G2, e, r, -⟩ := fl_mrain (c := c) o1 j
      rw [e]
      refine hj G2 (fun b => ?_)
      have ew : s1 134 = r_S1 (G 134 0) (G 134) := funext h1
      rw [r b, ew]
      rfl
  · obtain ⟨G1, e, r, -⟩ := fl_mwalk ho j
    rw [e]
    exact hj G1 r

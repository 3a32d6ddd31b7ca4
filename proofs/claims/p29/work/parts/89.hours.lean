/-! AN HOUR OF BOTH, MANY HOURS -/
theorem fl_hour2 {X : a_P} {p m : Int} {w : Int → Int} (hs : a_sm X p w) (ho : a_ok m w) (hm : m ≤ 1000000) : a_sm (a_up (fn_30 p X) p 4 (a_w (fn_30 p X p 4 + 1))) p (r_S4 (r_S3 (w 0) w)) := by
  have b0 := ho.1
  have bh := ho.2.2.2.2.2.1
  obtain ⟨t0, t1, t2, t3, t4, t5, t6, tA⟩ := fl_tire hs ho
  have e : ∀ b, ¬ b = 5 → (if b = 5 then w 5 else r_S4 (r_S3 (w 0) w) b) = r_S4 (r_S3 (w 0) w) b := fun b hb => if_neg hb
  have e5 : r_S4 (r_S3 (w 0) w) 5 = w 5 + 1 := by
    unfold r_S4
    rw [if_neg (by decide), if_pos rfl, r_S3_o (by omega)]
  have z4 : fn_30 p X p 4 = w 5 := t4.trans (if_pos rfl)
  refine ⟨?_, ?_, ?_, ?_, ?_, ?_, ?_, fun i h0 h1 => ?_⟩
  · rw [a_up_ne (by omega)]; exact t0.trans (e 1 (by decide))
  · rw [a_up_ne (by omega)]; exact t1.trans (e 2 (by decide))
  · rw [a_up_ne (by omega)]; exact t2.trans (e 3 (by decide))
  · rw [a_up_ne (by omega)]; exact t3.trans (e 4 (by decide))
  · rw [a_up_eq, z4, a_w_id (by omega) (by omega), e5]
  · rw [a_up_ne (by omega)]; exact t5.trans (e 6 (by decide))
  · rw [a_up_ne (by omega)]; exact t6.trans (e 0 (by decide))
  · have h1' : i < (if (0 : Int) = 5 then w 5 else r_S4 (r_S3 (w 0) w) 0) := by rw [e 0 (by decide)]; exact h1
    obtain ⟨a1, a2, a3, a4, a5⟩ := tA i h0 h1'
    refine ⟨?_, ?_, ?_, ?_, ?_⟩
    · rw [a_up_ne (by omega)]; exact a1.trans (e _ (by omega))
    · rw [a_up_ne (by omega)]; exact a2.trans (e _ (by omega))
    · rw [a_up_ne (by omega)]; exact a3.trans (e _ (by omega))
    · rw [a_up_ne (by omega)]; exact a4.trans (e _ (by omega))
    · rw [a_up_ne (by omega)]; exact a5.trans (e _ (by omega))
/-- a row behind an HOUR, behind many -/
noncomputable def r_h (w : Int → Int) : Int → Int := r_pass (r_rn w) w
noncomputable def r_hs : Nat → (Int → Int) → (Int → Int)
  | 0, w => w
  | n + 1, w => r_h (r_hs n w)
theorem fl_hour {H : a_P} {p m : Int} {w : Int → Int} (hs : a_sm H p w) (ho : a_ok m w) (hm : m ≤ 1000000) : a_sm (fn_27 p H) p (r_h w) := by
  have b0 := ho.1
  have s1 := fl_walk hs ho
  have o1 := r_S1_ok ho
  have e3 : fn_28 p H p 3 = w 4 := s1.2.2.2.1.trans (r_S1_o (by omega) (by omega))
  have e4 : fn_28 p H p 4 = w 5 := s1.2.2.2.2.1.trans (r_S1_o (by omega) (by omega))
  simp only [fn_27, a_bd, a_jn, e3, e4]
  by_cases c : a_and (a_shr (w 4) (a_rem (w 5) 6)) 1 = 1
  · rw [if_pos c]
    have e1 : r_rn w = 1 := if_pos c
    have e2 : r_w2 (r_rn w) w = r_S2 (r_S1 (w 0) w 0) (r_S1 (w 0) w) := by funext b; unfold r_w2; rw [e1, if_neg (by decide)]
    unfold r_h r_pass
    rw [e2]
    exact fl_hour2 (fl_rain s1 o1) (r_S2_ok o1) hm
  · rw [if_neg c]
    have e1 : r_rn w = 0 := if_neg c
    have e2 : r_w2 (r_rn w) w = r_S1 (w 0) w := by funext b; unfold r_w2; rw [e1, if_pos rfl]
    unfold r_h r_pass
    rw [e2]
    exact fl_hour2 s1 o1 hm
theorem fl_mhour {G : a_P} {m : Int} (ho : a_ok m (G 134)) (hm : m ≤ 1000000) : ∀ b, fn_124 G 134 b = r_h (G 134) b := by
  intro b
  simp only [fn_124, a_jn, a_bd]
  unfold r_h
  by_cases c : a_and (a_shr (G 134 4) (a_rem (G 134 5) 6)) 1 = 1
  · rw [if_pos c, show r_rn (G 134) = 1 from if_pos c]
    exact fl_mpass (c := 1) ho hm b
  · rw [if_neg c, show r_rn (G 134) = 0 from if_neg c]
    exact fl_mpass (c := 0) ho hm b
theorem r_h_ok {m : Int} {w : Int → Int} (ho : a_ok m w) : a_ok (m + 1) (r_h w) := r_pass_ok ho
theorem a_ok_mono {m m' : Int} {w : Int → Int} (ho : a_ok m w) (h : m ≤ m') : a_ok m' w := by
  obtain ⟨o0, o1, o2, o3, o4, o5, o6, oA⟩ := ho
  exact ⟨o0, o1, o2, o3, o4, ⟨o5.1, by omega⟩, o6, oA⟩
theorem r_hs_ok {m : Int} {w : Int → Int} (ho : a_ok m w) : ∀ n : Nat, a_ok (m + (n : Int)) (r_hs n w)
  | 0 => a_ok_mono ho (by omega)
  | n + 1 => a_ok_mono (r_h_ok (r_hs_ok ho n)) (by omega)
theorem r_pass_o {c b : Int} {w : Int → Int} (h8 : w 0 ≤ 8) (hb : b < 0 ∨ 47 ≤ b) : r_pass c w b = w b := by
  have e0 : r_S1 (w 0) w 0 = w 0 := r_S1_o (by omega) (by omega)
  have e1 : ∀ b, b < 0 ∨ 47 ≤ b → r_w2 c w b = w b := fun b hb => by
    unfold r_w2
    by_cases h : c = 0
    · rw [if_pos h, r_S1_o (by omega) (by omega)]
    · rw [if_neg h, r_S2_o (by omega), r_S1_o (by omega) (by omega)]
  have e2 : r_w2 c w 0 = w 0 := by
    unfold r_w2
    by_cases h : c = 0
    · rw [if_pos h, e0]
    · rw [if_neg h, r_S2_o (by omega), e0]
  unfold r_pass r_S4
  rw [if_neg (by omega), if_neg (by omega), r_S3_o (by omega), e1 b hb]
theorem r_h_o {b : Int} {w : Int → Int} (h8 : w 0 ≤ 8) (hb : b < 0 ∨ 47 ≤ b) : r_h w b = w b := r_pass_o h8 hb
theorem r_hs_o {m b : Int} {w : Int → Int} (ho : a_ok m w) (hb : b < 0 ∨ 47 ≤ b) : ∀ n : Nat, r_hs n w b = w b
  | 0 => rfl
  | n + 1 => (r_h_o (r_hs_ok ho n).1.2 hb).trans (r_hs_o ho hb n)
theorem fl_hours {H : a_P} {p m n : Int} {w : Int → Int} (hs : a_sm H p w) (ho : a_ok m w) (hm : m ≤ 100000) (h0 : 0 ≤ n) (h1 : n ≤ 1000) : a_sm (fn_26 p n H) p (r_hs n.toNat w) := by
  unfold fn_26
  refine a_lp_up (Q := fun G => a_sm G p (r_hs n.toNat w)) (fun k s => s.1 = (k : Int) ∧ a_sm s.2 p (r_hs k w)) n.toNat (by omega) (fun k s hk hss nx hn => ?_) (fun s hss nx => ?_) (0, H) ⟨rfl, hs⟩
  · obtain ⟨g1, g2⟩ := hss
    rw [if_pos (by rw [g1]; omega)]
    refine hn _ ⟨?_, ?_⟩
    · show a_w (s.1 + 1) = _
      rw [g1, a_w_id (by omega) (by omega)]
      omega
    · exact fl_hour g2 (r_hs_ok ho k) (by omega)
  · rw [if_neg (by rw [hss.1]; omega)]
    exact hss.2
theorem fl_mhours {G : a_P} {m n : Int} (ho : a_ok m (G 134)) (hm : m ≤ 100000) (h0 : 0 ≤ n) (h1 : n ≤ 1000) : ∀ b, fn_155 n G 134 b = r_hs n.toNat (G 134) b := by
  unfold fn_155
  refine a_lp_up (Q := fun X : a_P => ∀ b, X 134 b = r_hs n.toNat (G 134) b) (fun k s => s.1 = (k : Int) ∧ ∀ b, s.2 134 b = r_hs k (G 134) b) n.toNat (by omega) (fun k s hk hss nx hn => ?_) (fun s hss nx => ?_) (0, G) ⟨rfl, fun b => rfl⟩
  · obtain ⟨g1, g2⟩ := hss
    rw [if_pos (by rw [g1]; omega)]
    have ok := r_hs_ok ho k
    have e : s.2 134 = r_hs k (G 134) := funext g2
    refine hn _ ⟨?_, ?_⟩
    · show a_w (s.1 + 1) = _
      rw [g1, a_w_id (by omega) (by omega)]
      omega
    · intro b
      show fn_124 s.2 134 b = r_h (r_hs k (G 134)) b
      rw [← e]
      rw [← e] at ok
      exact fl_mhour ok (by omega) b
  · rw [if_neg (by rw [hss.1]; omega)]
    exact hss.2
/-! LIKE ANOTHER PLAIN; ASIDE AND BACK -/
theorem fl_like_0 {H : a_P} {p q : Int} (hd : p + 6 ≤ q ∨ q + 6 ≤ p) : fn_10 p q H p 0 = H q 0 := by
  simp only [fn_10, a_bd]
  rw [a_cp_ne (by omega), a_cp_ne (by omega), a_cp_ne (by omega), a_cp_ne (by omega), a_cp_ne (by omega), a_up_ne (by omega), a_up_ne (by omega), a_up_ne (by omega), a_up_ne (by omega), a_up_ne (by omega), a_up_ne (by omega), a_up_eq]
theorem fl_like_1 {H : a_P} {p q : Int} (hd : p + 6 ≤ q ∨ q + 6 ≤ p) : fn_10 p q H p 1 = H q 1 := by
  simp only [fn_10, a_bd]
  rw [a_cp_ne (by omega), a_cp_ne (by omega), a_cp_ne (by omega), a_cp_ne (by omega), a_cp_ne (by omega), a_up_ne (by omega), a_up_ne (by omega), a_up_ne (by omega), a_up_ne (by omega), a_up_ne (by omega), a_up_eq, a_up_ne (by omega)]
theorem fl_like_2 {H : a_P} {p q : Int} (hd : p + 6 ≤ q ∨ q + 6 ≤ p) : fn_10 p q H p 2 = H q 2 := by
  simp only [fn_10, a_bd]
  rw [a_cp_ne (by omega), a_cp_ne (by omega), a_cp_ne (by omega), a_cp_ne (by omega), a_cp_ne (by omega), a_up_ne (by omega), a_up_ne (by omega), a_up_ne (by omega), a_up_ne (by omega), a_up_eq, a_up_ne (by omega), a_up_ne (by omega)]
theorem fl_like_3 {H : a_P} {p q : Int} (hd : p + 6 ≤ q ∨ q + 6 ≤ p) : fn_10 p q H p 3 = H q 3 := by
  simp only [fn_10, a_bd]
  rw [a_cp_ne (by omega), a_cp_ne (by omega), a_cp_ne (by omega), a_cp_ne (by omega), a_cp_ne (by omega), a_up_ne (by omega), a_up_ne (by omega), a_up_ne (by omega), a_up_eq, a_up_ne (by omega), a_up_ne (by omega), a_up_ne (by omega)]
theorem fl_like_4 {H : a_P} {p q : Int} (hd : p + 6 ≤ q ∨ q + 6 ≤ p) : fn_10 p q H p 4 = H q 4 := by
  simp only [fn_10, a_bd]
  rw [a_cp_ne (by omega), a_cp_ne (by omega), a_cp_ne (by omega), a_cp_ne (by omega), a_cp_ne (by omega), a_up_ne (by omega), a_up_ne (by omega), a_up_eq, a_up_ne (by omega), a_up_ne (by omega), a_up_ne (by omega), a_up_ne (by omega)]
theorem fl_like_5 {H : a_P} {p q : Int} (hd : p + 6 ≤ q ∨ q + 6 ≤ p) : fn_10 p q H p 5 = H q 5 := by
  simp only [fn_10, a_bd]
  rw [a_cp_ne (by omega), a_cp_ne (by omega), a_cp_ne (by omega), a_cp_ne (by omega), a_cp_ne (by omega), a_up_ne (by omega), a_up_eq, a_up_ne (by omega), a_up_ne (by omega), a_up_ne (by omega), a_up_ne (by omega), a_up_ne (by omega)]
theorem fl_like_6 {H : a_P} {p q : Int} (hd : p + 6 ≤ q ∨ q + 6 ≤ p) : fn_10 p q H p 6 = H q 6 := by
  simp only [fn_10, a_bd]
  rw [a_cp_ne (by omega), a_cp_ne (by omega), a_cp_ne (by omega), a_cp_ne (by omega), a_cp_ne (by omega), a_up_eq, a_up_ne (by omega), a_up_ne (by omega), a_up_ne (by omega), a_up_ne (by omega), a_up_ne (by omega), a_up_ne (by omega)]
theorem fl_like_a1 {H : a_P} {p q i : Int} (hd : p + 6 ≤ q ∨ q + 6 ≤ p) (h0 : 0 ≤ i) (h1 : i < 8) : fn_10 p q H (p + 1) i = H (q + 1) i := by
  simp only [fn_10, a_bd]
  rw [a_cp_ne (by omega), a_cp_ne (by omega), a_cp_ne (by omega), a_cp_ne (by omega), a_cp_eq h0 (by omega), a_up_ne (by omega), a_up_ne (by omega), a_up_ne (by omega), a_up_ne (by omega), a_up_ne (by omega), a_up_ne (by omega), a_up_ne (by omega), show 0 + (i - 0) = i by omega]
theorem fl_like_a2 {H : a_P} {p q i : Int} (hd : p + 6 ≤ q ∨ q + 6 ≤ p) (h0 : 0 ≤ i) (h1 : i < 8) : fn_10 p q H (p + 2) i = H (q + 2) i := by
  simp only [fn_10, a_bd]
  rw [a_cp_ne (by omega), a_cp_ne (by omega), a_cp_ne (by omega), a_cp_eq h0 (by omega), a_cp_ne (by omega), a_up_ne (by omega), a_up_ne (by omega), a_up_ne (by omega), a_up_ne (by omega), a_up_ne (by omega), a_up_ne (by omega), a_up_ne (by omega), show 0 + (i - 0) = i by omega]
theorem fl_like_a3 {H : a_P} {p q i : Int} (hd : p + 6 ≤ q ∨ q + 6 ≤ p) (h0 : 0 ≤ i) (h1 : i < 8) : fn_10 p q H (p + 3) i = H (q + 3) i := by
  simp only [fn_10, a_bd]
  rw [a_cp_ne (by omega), a_cp_ne (by omega), a_cp_eq h0 (by omega), a_cp_ne (by omega), a_cp_ne (by omega), a_up_ne (by omega), a_up_ne (by omega), a_up_ne (by omega), a_up_ne (by omega), a_up_ne (by omega), a_up_ne (by omega), a_up_ne (by omega), show 0 + (i - 0) = i by omega]
theorem fl_like_a4 {H : a_P} {p q i : Int} (hd : p + 6 ≤ q ∨ q + 6 ≤ p) (h0 : 0 ≤ i) (h1 : i < 8) : fn_10 p q H (p + 4) i = H (q + 4) i := by
  simp only [fn_10, a_bd]
  rw [a_cp_ne (by omega), a_cp_eq h0 (by omega), a_cp_ne (by omega), a_cp_ne (by omega), a_cp_ne (by omega), a_up_ne (by omega), a_up_ne (by omega), a_up_ne (by omega), a_up_ne (by omega), a_up_ne (by omega), a_up_ne (by omega), a_up_ne (by omega), show 0 + (i - 0) = i by omega]
theorem fl_like_a5 {H : a_P} {p q i : Int} (hd : p + 6 ≤ q ∨ q + 6 ≤ p) (h0 : 0 ≤ i) (h1 : i < 8) : fn_10 p q H (p + 5) i = H (q + 5) i := by
  simp only [fn_10, a_bd]
  rw [a_cp_eq h0 (by omega), a_cp_ne (by omega), a_cp_ne (by omega), a_cp_ne (by omega), a_cp_ne (by omega), a_up_ne (by omega), a_up_ne (by omega), a_up_ne (by omega), a_up_ne (by omega), a_up_ne (by omega), a_up_ne (by omega), a_up_ne (by omega), show 0 + (i - 0) = i by omega]
theorem fl_like {H : a_P} {p q : Int} {w : Int → Int} (hs : a_sm H q w) (h8 : w 0 ≤ 8) (hd : p + 6 ≤ q ∨ q + 6 ≤ p) : a_sm (fn_10 p q H) p w := by
  obtain ⟨g0, g1, g2, g3, g4, g5, g6, gA⟩ := hs
  refine ⟨(fl_like_0 hd).trans g0, (fl_like_1 hd).trans g1, (fl_like_2 hd).trans g2, (fl_like_3 hd).trans g3, (fl_like_4 hd).trans g4, (fl_like_5 hd).trans g5, (fl_like_6 hd).trans g6, fun i h0 h1 => ?_⟩
  obtain ⟨a1, a2, a3, a4, a5⟩ := gA i h0 h1
  exact ⟨(fl_like_a1 hd h0 (by omega)).trans a1, (fl_like_a2 hd h0 (by omega)).trans a2, (fl_like_a3 hd h0 (by omega)).trans a3, (fl_like_a4 hd h0 (by omega)).trans a4, (fl_like_a5 hd h0 (by omega)).trans a5⟩
theorem a_sm_fr {H H' : a_P} {p : Int} {w : Int → Int} (h : a_sm H p w) (hf : ∀ a b, p ≤ a → a ≤ p + 5 → H' a b = H a b) : a_sm H' p w := by
  obtain ⟨g0, g1, g2, g3, g4, g5, g6, gA⟩ := h
  refine ⟨(hf _ _ (by omega) (by omega)).trans g0, (hf _ _ (by omega) (by omega)).trans g1, (hf _ _ (by omega) (by omega)).trans g2, (hf _ _ (by omega) (by omega)).trans g3, (hf _ _ (by omega) (by omega)).trans g4, (hf _ _ (by omega) (by omega)).trans g5, (hf _ _ (by omega) (by omega)).trans g6, fun i h0 h1 => ?_⟩
  obtain ⟨a1, a2, a3, a4, a5⟩ := gA i h0 h1
  exact ⟨(hf _ _ (by omega) (by omega)).trans a1, (hf _ _ (by omega) (by omega)).trans a2, (hf _ _ (by omega) (by omega)).trans a3, (hf _ _ (by omega) (by omega)).trans a4, (hf _ _ (by omega) (by omega)).trans a5⟩
theorem a_sm_e {H : a_P} {p : Int} {w w' : Int → Int} (h : a_sm H p w) (h8 : w 0 ≤ 8) (he : ∀ b, 0 ≤ b → b < 47 → w' b = w b) : a_sm H p w' := by
  obtain ⟨g0, g1, g2, g3, g4, g5, g6, gA⟩ := h
  refine ⟨g0.trans (he _ (by omega) (by omega)).symm, g1.trans (he _ (by omega) (by omega)).symm, g2.trans (he _ (by omega) (by omega)).symm, g3.trans (he _ (by omega) (by omega)).symm, g4.trans (he _ (by omega) (by omega)).symm, g5.trans (he _ (by omega) (by omega)).symm, g6.trans (he _ (by omega) (by omega)).symm, fun i h0 h1 => ?_⟩
  rw [he 0 (by omega) (by omega)] at h1
  obtain ⟨a1, a2, a3, a4, a5⟩ := gA i h0 h1
  exact ⟨a1.trans (he _ (by omega) (by omega)).symm, a2.trans (he _ (by omega) (by omega)).symm, a3.trans (he _ (by omega) (by omega)).symm, a4.trans (he _ (by omega) (by omega)).symm, a5.trans (he _ (by omega) (by omega)).symm⟩
theorem a_ok_e {m : Int} {w w' : Int → Int} (h : a_ok m w) (he : ∀ b, 0 ≤ b → b < 47 → w' b = w b) : a_ok m w' := by
  obtain ⟨o0, o1, o2, o3, o4, o5, o6, oA⟩ := h
  have e : ∀ b, 0 ≤ b → b < 7 → w' b = w b := fun b g0 g1 => he b g0 (by omega)
  refine ⟨by rw [e 0 (by omega) (by omega)]; exact o0, by rw [e 1 (by omega) (by omega)]; exact o1, by rw [e 2 (by omega) (by omega)]; exact o2, ?_, by rw [e 4 (by omega) (by omega)]; exact o4, by rw [e 5 (by omega) (by omega)]; exact o5, by rw [e 6 (by omega) (by omega)]; exact o6, fun i h0 h1 => ?_⟩
  · rw [e 3 (by omega) (by omega), e 0 (by omega) (by omega)]
    rcases o3 with h | ⟨h1, h2, h3⟩
    · exact Or.inl h
    · exact Or.inr ⟨h1, h2, by rw [he _ (by omega) (by omega)]; exact h3⟩
  · rw [e 0 (by omega) (by omega)] at h1
    obtain ⟨q1, q2, q3, q4, q5⟩ := oA i h0 h1
    exact ⟨by rw [he _ (by omega) (by omega)]; exact q1, by rw [he _ (by omega) (by omega)]; exact q2, by rw [he _ (by omega) (by omega)]; exact q3, by rw [he _ (by omega) (by omega)]; exact q4, by rw [he _ (by omega) (by omega)]; exact q5⟩
theorem fl_aside {G : a_P} : ∀ b, 0 ≤ b → b < 47 → fn_153 G 138 b = G 134 b := by
  unfold fn_153
  refine a_lp_up (Q := fun X : a_P => ∀ b, 0 ≤ b → b < 47 → X 138 b = G 134 b) (fun k s => s.1 = (k : Int) ∧ (∀ b, s.2 134 b = G 134 b) ∧ ∀ b, 0 ≤ b → b < (k : Int) → s.2 138 b = G 134 b) 47 (by omega) (fun k s hk hss nx hn => ?_) (fun s hss nx => ?_) (0, G) ⟨rfl, fun b => rfl, fun b h0 h1 => absurd h1 (by omega)⟩
  · obtain ⟨g1, g2, g3⟩ := hss
    rw [if_pos (by rw [g1]; omega)]
    refine hn _ ⟨?_, ?_, ?_⟩
    · show a_w (s.1 + 1) = _
      rw [g1, a_w_id (by omega) (by omega)]
      omega
    · intro b
      show a_up s.2 138 s.1 (s.2 134 s.1) 134 b = _
      rw [a_up_ne (by omega), g2]
    · intro b h0 h1
      show a_up s.2 138 s.1 (s.2 134 s.1) 138 b = _
      by_cases c : b = s.1
      · rw [c, a_up_eq, g2]
      · rw [a_up_ne (by omega), g3 b h0 (by omega)]
  · rw [if_neg (by rw [hss.1]; omega)]
    exact hss.2.2
/-- back: the row is as it was laid aside -/
theorem fl_back {X : a_P} {w : Int → Int} (h1 : ∀ b, 0 ≤ b → b < 47 → X 138 b = w b) (h2 : ∀ b, b < 0 ∨ 47 ≤ b → X 134 b = w b) : ∀ b, fn_154 X 134 b = w b := by
  unfold fn_154
  refine a_lp_up (Q := fun Y : a_P => ∀ b, Y 134 b = w b) (fun k s => s.1 = (k : Int) ∧ (∀ b, s.2 138 b = X 138 b) ∧ ∀ b, (b < 0 ∨ 47 ≤ b ∨ b < (k : Int)) → s.2 134 b = w b) 47 (by omega) (fun k s hk hss nx hn => ?_) (fun s hss nx => ?_) (0, X) ⟨rfl, fun b => rfl, fun b h => h2 b (by omega)⟩
  · obtain ⟨g1, g2, g3⟩ := hss
    rw [if_pos (by rw [g1]; omega)]
    refine hn _ ⟨?_, ?_, ?_⟩
    · show a_w (s.1 + 1) = _
      rw [g1, a_w_id (by omega) (by omega)]
      omega
    · intro b
      show a_up s.2 134 s.1 (s.2 138 s.1) 138 b = _
      rw [a_up_ne (by omega), g2]
    · intro b h
      show a_up s.2 134 s.1 (s.2 138 s.1) 134 b = _
      by_cases c : b = s.1
      · rw [c, a_up_eq, g2, h1 _ (by omega) (by omega)]
      · rw [a_up_ne (by omega), g3 b (by omega)]
  · rw [if_neg (by rw [hss.1]; omega)]
    exact fun b => hss.2.2 b (by omega)
/-- the reference's heap while something is tried: the row, and what lies aside -/
def a_asd (X : a_P) (w : Int → Int) : Prop := (∀ b, X 134 b = w b) ∧ ∀ b, 0 ≤ b → b < 47 → X 138 b = w b
theorem a_asd_0 (G : a_P) : a_asd (fn_153 G) (G 134) := ⟨fun b => fr_153 G 134 b (by unfold w_153; omega), fl_aside⟩
theorem a_asd_back {X : a_P} {w : Int → Int} (h1 : ∀ b, 0 ≤ b → b < 47 → X 138 b = w b) (h2 : ∀ b, b < 0 ∨ 47 ≤ b → X 134 b = w b) : a_asd (fn_154 X) w := ⟨fl_back h1 h2, fun b g0 g1 => (fr_154 X 138 b (by unfold w_154; omega)).trans (h1 b g0 g1)⟩

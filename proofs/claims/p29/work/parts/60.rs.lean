/-! THE TAPE'S LENGTH, THE IMAGE'S THERE, THE SHEETS' LANES AND LENGTHS -/
/-- what safety keeps of the past, the tape, the sheets -/
def a_S (G : a_P) : Prop := (0 ≤ G 13 1 ∧ G 13 1 ≤ 7) ∧ (0 ≤ G 13 2 ∧ G 13 2 ≤ 8) ∧ (0 ≤ G 133 7 ∧ G 133 7 ≤ 8) ∧ (0 ≤ G 133 2 ∧ G 133 2 ≤ 90) ∧ (0 ≤ G 119 1 ∧ G 119 1 ≤ 90) ∧ (∀ s : Int, 0 ≤ s → s < 4 → (-1 ≤ G 142 s ∧ G 142 s ≤ 3) ∧ (0 ≤ G 143 s ∧ G 143 s ≤ 24))
theorem a_S_of {hp : q_H} {G : a_P} (HO : s_hok hp) (hG : a_hr hp G) : a_S G := by
  refine ⟨a_rng (c := 13) (i := 1) HO hG rfl rfl (by decide) rfl (by decide) rfl, a_rng (c := 13) (i := 2) HO hG rfl rfl (by decide) rfl (by decide) rfl, a_rng (c := 133) (i := 7) HO hG rfl rfl (by decide) rfl (by decide) rfl, a_rng (c := 133) (i := 2) HO hG rfl rfl (by decide) rfl (by decide) rfl, a_rng (c := 119) (i := 1) HO hG rfl rfl (by decide) rfl (by decide) rfl, fun s h0 h4 => ?_⟩
  have : s = 0 ∨ s = 1 ∨ s = 2 ∨ s = 3 := by omega
  rcases this with rfl | rfl | rfl | rfl
  · exact ⟨a_rng (c := 142) (i := 0) HO hG rfl rfl (by decide) rfl (by decide) rfl, a_rng (c := 143) (i := 0) HO hG rfl rfl (by decide) rfl (by decide) rfl⟩
  · exact ⟨a_rng (c := 142) (i := 1) HO hG rfl rfl (by decide) rfl (by decide) rfl, a_rng (c := 143) (i := 1) HO hG rfl rfl (by decide) rfl (by decide) rfl⟩
  · exact ⟨a_rng (c := 142) (i := 2) HO hG rfl rfl (by decide) rfl (by decide) rfl, a_rng (c := 143) (i := 2) HO hG rfl rfl (by decide) rfl (by decide) rfl⟩
  · exact ⟨a_rng (c := 142) (i := 3) HO hG rfl rfl (by decide) rfl (by decide) rfl, a_rng (c := 143) (i := 3) HO hG rfl rfl (by decide) rfl (by decide) rfl⟩
def a_sh (G : a_P) (s : Int) : Prop := (G (121 + (4 + 2 * s)) 0 = 0 ∧ G 142 s = -1) ∨ (G (121 + (4 + 2 * s)) 0 = 1 ∧ G (121 + (4 + 2 * s)) 1 = G 142 s ∧ 0 ≤ G 142 s ∧ G (121 + (4 + 2 * s)) 2 = G 143 s)
def a_R1 (G : a_P) : Prop := G 119 1 = G 133 2 ∧ ((G 0 5 = 0 ∧ G 133 17 = -1) ∨ (G 0 5 = 1 ∧ 0 ≤ G 133 17)) ∧ ∀ s, 0 ≤ s → s < 4 → a_sh G s
/-- the places that it speaks of: of the class, of the reference -/
def a_i1 (a b : Int) : Prop := (a = 119 ∧ b = 1) ∨ (a = 0 ∧ b = 5) ∨ ((a = 125 ∨ a = 127 ∨ a = 129 ∨ a = 131) ∧ 0 ≤ b ∧ b ≤ 2)
def a_i2 (a b : Int) : Prop := (a = 133 ∧ b = 2) ∨ (a = 133 ∧ b = 17) ∨ a = 142 ∨ a = 143
theorem a_R1_fr {G G' : a_P} (h : a_R1 G) (h1 : ∀ a b, a_i1 a b ∨ a_i2 a b → G' a b = G a b) : a_R1 G' := by
  obtain ⟨r1, r2, r3⟩ := h
  refine ⟨?_, ?_, fun s h0 h4 => ?_⟩
  · rw [h1 119 1 (Or.inl (Or.inl ⟨rfl, rfl⟩)), h1 133 2 (Or.inr (Or.inl ⟨rfl, rfl⟩))]
    exact r1
  · rw [h1 0 5 (Or.inl (Or.inr (Or.inl ⟨rfl, rfl⟩))), h1 133 17 (Or.inr (Or.inr (Or.inl ⟨rfl, rfl⟩)))]
    exact r2
  · have h5 := r3 s h0 h4
    have g : ∀ b, 0 ≤ b → b ≤ 2 → G' (121 + (4 + 2 * s)) b = G (121 + (4 + 2 * s)) b := fun b g0 g2 => h1 _ b (Or.inl (Or.inr (Or.inr ⟨by omega, g0, g2⟩)))
    unfold a_sh at h5 ⊢
    rw [g 0 (by decide) (by decide), g 1 (by decide) (by decide), g 2 (by decide) (by decide), h1 142 s (Or.inr (Or.inr (Or.inr (Or.inl rfl)))), h1 143 s (Or.inr (Or.inr (Or.inr (Or.inr rfl))))]
    exact h5
/-- a call of the class, and one of the reference, that leave these places alone -/
theorem a_R1_2 {G G1 G2 : a_P} {W1 W2 : Int → Int → Prop} (h : a_R1 G) (f1 : a_fr W1 G G1) (f2 : a_fr W2 G1 G2) (g1 : ∀ a b, a_i1 a b ∨ a_i2 a b → ¬ W1 a b) (g2 : ∀ a b, a_i1 a b ∨ a_i2 a b → ¬ W2 a b) : a_R1 G2 := a_R1_fr h (fun a b hi => (f2 a b (g2 a b hi)).trans (f1 a b (g1 a b hi)))
theorem a_rem8 {x y : Int} (h0 : 0 ≤ x) (h1 : x ≤ 7) (h2 : 0 ≤ y) (h3 : y ≤ 8) : a_rem (a_w (x + y)) 8 = (x + y) % 8 := by
  rw [a_w_id (by omega) (by omega), a_rem_id (by omega) (by omega) (by decide)]
def a_wk1 (a b : Int) : Prop := a = 13 ∨ (15 ≤ a ∧ a ≤ 62)
theorem fr_1 {H : a_P} (h1 : 0 ≤ H 13 1 ∧ H 13 1 ≤ 7) (h2 : 0 ≤ H 13 2 ∧ H 13 2 ≤ 8) : a_fr a_wk1 H (fn_1 13 1 H) ∧ (0 ≤ fn_1 13 1 H 13 1 ∧ fn_1 13 1 H 13 1 ≤ 7) ∧ (0 ≤ fn_1 13 1 H 13 2 ∧ fn_1 13 1 H 13 2 ≤ 8) := by
  simp only [fn_1, a_bd, a_jn]
  rw [a_rem8 h1.1 h1.2 h2.1 h2.2]
  have hj : 0 ≤ (H 13 1 + H 13 2) % 8 ∧ (H 13 1 + H 13 2) % 8 ≤ 7 := by omega
  generalize (H 13 1 + H 13 2) % 8 = j at hj
  have hf := fr_10 (13 + 1 + (1 + 6 * j)) 1 H
  generalize fn_10 (13 + 1 + (1 + 6 * j)) 1 H = G at hf
  have e1 : ∀ b, G 13 b = H 13 b := fun b => hf 13 b (by unfold w_10; omega)
  have e2 : a_fr a_wk1 H G := fun a b hn => hf a b (fun hw => hn (by unfold w_10 at hw; unfold a_wk1; omega))
  rw [e1 2, e1 1]
  by_cases c : H 13 2 < 8
  · rw [if_pos c, a_up_eq, a_up_ne (by decide), e1 1, a_w_id (by omega) (by omega)]
    exact ⟨a_fr_up (Or.inl rfl) e2, h1, by omega, by omega⟩
  · rw [if_neg c, a_up_eq, a_up_ne (by decide), e1 2, a_w_id (by omega) (by omega), a_rem_id (by omega) (by omega) (by decide)]
    exact ⟨a_fr_up (Or.inl rfl) e2, by omega, h2⟩
/-- now, the past, the ring -/
def a_wn (a b : Int) : Prop := (1 ≤ a ∧ a ≤ 6) ∨ a = 13 ∨ (15 ≤ a ∧ a ≤ 62)
def a_pk (H0 H : a_P) : Prop := a_fr a_wn H0 H ∧ (0 ≤ H 13 1 ∧ H 13 1 ≤ 7) ∧ (0 ≤ H 13 2 ∧ H 13 2 ≤ 8)
theorem a_pk_keep {H0 H : a_P} (h : a_pk H0 H) : a_pk H0 (fn_1 13 1 H) := by
  obtain ⟨h1, h2, h3⟩ := fr_1 h.2.1 h.2.2
  exact ⟨a_fr_call h1 (fun a b hw => by unfold a_wk1 at hw; unfold a_wn; omega) h.1, h2, h3⟩
theorem a_pk_fr {H0 H G : a_P} {W : Int → Int → Prop} (h : a_pk H0 H) (hf : a_fr W H G) (hw : ∀ a b, W a b → 1 ≤ a ∧ a ≤ 6) : a_pk H0 G := by
  refine ⟨a_fr_call hf (fun a b hW => Or.inl (hw a b hW)) h.1, ?_, ?_⟩
  · rw [hf 13 1 (fun e => absurd (hw _ _ e) (by decide))]; exact h.2.1
  · rw [hf 13 2 (fun e => absurd (hw _ _ e) (by decide))]; exact h.2.2
theorem a_pk_up {H0 H : a_P} {c i v : Int} (h : a_pk H0 H) (hc : 1 ≤ c ∧ c ≤ 6) : a_pk H0 (a_up H c i v) := by
  refine ⟨a_fr_up (Or.inl hc) h.1, ?_, ?_⟩
  · rw [a_up_ne (by omega)]; exact h.2.1
  · rw [a_up_ne (by omega)]; exact h.2.2
theorem a_pk_0 {H : a_P} (h : a_S H) : a_pk H H := ⟨a_fr_refl, h.1, h.2.1⟩
def a_pk2 (H : a_P) (r : a_F) : Prop := a_fr a_wn H r.2
theorem fr_61 (a1 : Int) {H : a_P} (h : a_S H) : a_pk2 H (fn_61 a1 H) := by
  unfold fn_61
  refine a_fjn (fun _ => True) (fun _ _ => a_fr_refl) (fun j hj => ?_)
  refine a_fif (hj () trivial) (a_fif (hj () trivial) (a_fif a_fr_refl ?_))
  refine a_flp (Q := a_pk2 H) (fun s => a_pk H s.2) ?_ (fun nx hnx s hs => ?_) a_fuel (0, H) (a_pk_0 h)
  · exact fun s hs => hs.1
  refine a_fif ?_ hs.1
  exact hnx _ (a_pk_fr (a_pk_keep hs) (fr_27 1 _) (fun a b hw => by unfold w_27 at hw; omega))
theorem fr_68 (a1 : Int) {H : a_P} (h : a_S H) : a_pk2 H (fn_68 a1 H) := by
  unfold fn_68
  refine a_fjn (fun _ => True) (fun _ _ => a_fr_refl) (fun j hj => ?_)
  refine a_fif (hj () trivial) (a_fif (hj () trivial) (a_fif a_fr_refl ?_))
  refine a_flp (Q := a_pk2 H) (fun s => a_pk H s.2) ?_ (fun nx hnx s hs => ?_) a_fuel (0, H) (a_pk_0 h)
  · exact fun s hs => hs.1
  refine a_fif ?_ hs.1
  exact hnx _ (a_pk_fr (a_pk_fr (a_pk_keep hs) (fr_31 1 _) (fun a b hw => by unfold w_31 at hw; omega)) (fr_27 1 _) (fun a b hw => by unfold w_27 at hw; omega))
theorem fr_62 (a1 : Int) {H : a_P} (h : a_S H) : a_pk2 H (fn_62 a1 H) := by
  unfold fn_62
  refine a_fif a_fr_refl (a_fif a_fr_refl ?_)
  exact (a_pk_fr (a_pk_keep (a_pk_0 h)) (fr_33 1 a1 _) (fun a b hw => by unfold w_33 at hw; omega)).1
theorem fr_63 (a1 : Int) {H : a_P} (h : a_S H) : a_pk2 H (fn_63 a1 H) := by
  unfold fn_63
  refine a_fif a_fr_refl (a_fif a_fr_refl ?_)
  exact (a_pk_up (a_pk_keep (a_pk_0 h)) (by decide)).1
theorem fr_64 (a1 : Int) {H : a_P} (h : a_S H) : a_pk2 H (fn_64 a1 H) := by
  unfold fn_64
  refine a_fif a_fr_refl (a_fif a_fr_refl ?_)
  exact (a_pk_up (a_pk_up (a_pk_keep (a_pk_0 h)) (by decide)) (by decide)).1
theorem fr_65 {H : a_P} (h : a_S H) : a_pk2 H (fn_65 H) := by
  unfold fn_65
  refine a_fif a_fr_refl ?_
  exact (a_pk_up (a_pk_keep (a_pk_0 h)) (by decide)).1
theorem fr_66 (a1 a2 : Int) {H : a_P} (h : a_S H) : a_pk2 H (fn_66 a1 a2 H) := by
  unfold fn_66
  refine a_fjn (fun _ => True) (fun _ _ => a_fr_refl) (fun j hj => ?_)
  refine a_fif (hj () trivial) (a_fif (hj () trivial) (a_fbdi fun x => a_fif a_fr_refl ?_))
  exact (a_pk_up (a_pk_keep (a_pk_0 h)) (by decide)).1
theorem fr_67 (a1 : Int) {H : a_P} (h : a_S H) : a_pk2 H (fn_67 a1 H) := by
  unfold fn_67
  refine a_fif a_fr_refl (a_fbdi fun x => a_fif a_fr_refl ?_)
  exact (a_pk_up (a_pk_keep (a_pk_0 h)) (by decide)).1
/-- of a Past: itself, its ring -/
def a_wr (p a b : Int) : Prop := a = p ∨ (p + 2 ≤ a ∧ a ≤ p + 49)
theorem fr_4 (p a1 : Int) (H : a_P) : a_fr (a_wr p) H (fn_4 p a1 H) := by
  unfold fn_4
  refine a_fbdh (a_fr_up (W := a_wr p) (Or.inl rfl) a_fr_refl) (fun H1 h1 => ?_)
  refine a_fbdh (a_fr_up (W := a_wr p) (Or.inl rfl) h1) (fun H2 h2 => ?_)
  refine a_flp (Q := a_fr (a_wr p) H) (fun s => 0 ≤ s.1 ∧ a_fr (a_wr p) H s.2) (fun s hs => hs.2) (fun nx hnx s hs => ?_) a_fuel (0, H2) ⟨Int.le_refl 0, h2⟩
  by_cases c : s.1 < 8
  · rw [if_pos c]
    refine hnx _ ⟨?_, ?_⟩
    · show 0 ≤ a_w (s.1 + 1)
      rw [a_w_id (by omega) (by omega)]
      omega
    · exact a_fr_call (fr_10 _ _ _) (fun a b hw => by unfold w_10 at hw; unfold a_wr; omega) hs.2
  · rw [if_neg c]
    exact hs.2

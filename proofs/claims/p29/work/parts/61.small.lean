/-! SMALL RELATIONS: the image is there; the tape's length; the sheets' lanes and lengths -/
def a_I (G : a_P) : Prop := (G 0 5 = 0 ∧ G 133 17 = -1) ∨ (G 0 5 = 1 ∧ 0 ≤ G 133 17)
def a_T (G : a_P) : Prop := G 119 1 = G 133 2
def a_Sh (G : a_P) : Prop := ∀ s, 0 ≤ s → s < 4 → a_sh G s
def a_pI (a b : Int) : Prop := (a = 0 ∧ b = 5) ∨ (a = 133 ∧ b = 17)
def a_pT (a b : Int) : Prop := (a = 119 ∧ b = 1) ∨ (a = 133 ∧ b = 2)
def a_pS (a b : Int) : Prop := a = 125 ∨ a = 127 ∨ a = 129 ∨ a = 131 ∨ a = 142 ∨ a = 143
theorem a_I_fr {G G' : a_P} (h : a_I G) (hf : ∀ a b, a_pI a b → G' a b = G a b) : a_I G' := by
  unfold a_I at *
  rw [hf 0 5 (Or.inl ⟨rfl, rfl⟩), hf 133 17 (Or.inr ⟨rfl, rfl⟩)]
  exact h
theorem a_T_fr {G G' : a_P} (h : a_T G) (hf : ∀ a b, a_pT a b → G' a b = G a b) : a_T G' := by
  unfold a_T at *
  rw [hf 119 1 (Or.inl ⟨rfl, rfl⟩), hf 133 2 (Or.inr ⟨rfl, rfl⟩)]
  exact h
theorem a_Sh_fr {G G' : a_P} (h : a_Sh G) (hf : ∀ a b, a_pS a b → G' a b = G a b) : a_Sh G' := by
  intro s h0 h4
  have h5 := h s h0 h4
  unfold a_sh at *
  have g : ∀ b, G' (121 + (4 + 2 * s)) b = G (121 + (4 + 2 * s)) b := fun b => hf _ b (by unfold a_pS; omega)
  rw [g 0, g 1, g 2, hf 142 s (by unfold a_pS; omega), hf 143 s (by unfold a_pS; omega)]
  exact h5
theorem a_fr_or {W : Int → Int → Prop} {H G : a_P} {P : Int → Int → Prop} (h : a_fr W H G) (hn : ∀ a b, P a b → ¬ W a b) : ∀ a b, P a b → G a b = H a b := fun a b hp => h a b (hn a b hp)
theorem fv_86 (a1 a2 a3 a4 : Int) (G : a_P) : a_fr (fun a b => (7 ≤ a ∧ a ≤ 12) ∨ (0 ≤ a2 ∧ a2 < 4 ∧ a = 126 + 2 * a2)) G (fn_86 a1 a2 a3 a4 G).2 := by
  by_cases c : 0 ≤ a2 ∧ a2 < 4
  · intro a b hn
    exact fr_86 a1 a2 a3 a4 G a b (fun hw => hn (by unfold w_86 at hw; omega))
  · have e : (fn_86 a1 a2 a3 a4 G).2 = G := by
      simp only [fn_86, a_jn, a_bd]
      by_cases c1 : a1 < 1
      · rw [if_pos c1]
      · rw [if_neg c1]
        by_cases c2 : 24 < a1
        · rw [if_pos c2]
        · rw [if_neg c2, if_pos ((fe_91z a2 4).mpr c)]
    rw [e]
    exact a_fr_refl
theorem fv_89 (a1 a2 a3 a4 : Int) (G : a_P) : a_fr (fun a b => 0 ≤ a1 ∧ a1 < 4 ∧ a = 126 + 2 * a1) G (fn_89 a1 a2 a3 a4 G).2 := by
  by_cases c : 0 ≤ a1 ∧ a1 < 4
  · intro a b hn
    exact fr_89 a1 a2 a3 a4 G a b (fun hw => hn (by unfold w_89 at hw; omega))
  · have e : (fn_89 a1 a2 a3 a4 G).2 = G := by
      simp only [fn_89, a_jn, a_bd]
      rw [if_pos ((fe_91z a1 4).mpr c)]
    rw [e]
    exact a_fr_refl
theorem fv_87 (a1 a2 a3 : Int) (G : a_P) : a_fr (fun a b => 0 ≤ a1 ∧ a1 < 4 ∧ (a = 125 + 2 * a1 ∨ a = 126 + 2 * a1)) G (fn_87 a1 a2 a3 G).2 := by
  by_cases c : 0 ≤ a1 ∧ a1 < 4
  · intro a b hn
    exact fr_87 a1 a2 a3 G a b (fun hw => hn (by unfold w_87 at hw; omega))
  · have e : (fn_87 a1 a2 a3 G).2 = G := by
      simp only [fn_87, a_jn, a_bd]
      rw [if_pos ((fe_91z a1 4).mpr c)]
    rw [e]
    exact a_fr_refl
theorem fv_88 (a1 : Int) (G : a_P) : a_fr (fun a b => 0 ≤ a1 ∧ a1 < 4 ∧ a = 125 + 2 * a1) G (fn_88 a1 G).2 := by
  by_cases c : 0 ≤ a1 ∧ a1 < 4
  · intro a b hn
    exact fr_88 a1 G a b (fun hw => hn (by unfold w_88 at hw; omega))
  · have e : (fn_88 a1 G).2 = G := by
      simp only [fn_88, a_bd]
      rw [if_pos ((fe_91z a1 4).mpr c)]
    rw [e]
    exact a_fr_refl
theorem fv_90 (a1 a2 a3 a4 a5 : Int) (G : a_P) : a_fr (fun a b => 0 ≤ a3 ∧ a3 < 4 ∧ a = 126 + 2 * a3) G (fn_90 a1 a2 a3 a4 a5 G).2 := by
  have key : a_fr2 (fun a b => 0 ≤ a3 ∧ a3 < 4 ∧ a = 126 + 2 * a3) G (fn_90 a1 a2 a3 a4 a5 G) := by
    simp only [fn_90, a_bd]
    refine a_fjn (fun _ => True) (fun _ _ => a_fr_refl) (fun j hj => ?_)
    refine a_fif (hj () trivial) ?_
    by_cases c : 0 ≤ a3 ∧ a3 < 4
    · rw [if_neg (by rw [fe_91z]; exact fun h => h c)]
      refine a_fjn (fun _ => True) (fun _ _ => a_fr_refl) (fun j hj => ?_)
      refine a_fif (hj () trivial) (a_fif (hj () trivial) (a_fif ?_ a_fr_refl))
      refine a_fjn (fun _ => True) (fun _ _ => a_fr_refl) (fun j hj => ?_)
      refine a_fif (hj () trivial) (a_fif (hj () trivial) ?_)
      exact a_fr_cp (fun b => ⟨c.1, c.2, by omega⟩) a_fr_refl
    · rw [if_pos ((fe_91z a3 4).mpr c)]
      exact hj () trivial
  exact key
theorem fv_83 (G : a_P) : a_fr (fun a b => (63 ≤ a ∧ a ≤ 118) ∨ (a = 0 ∧ b = 5)) G (fn_83 G).2 := by
  simp only [fn_83, a_bd]
  refine a_fr_up (Or.inr ⟨rfl, rfl⟩) ?_
  refine a_fr_call (fr_4 69 13 _) (fun a b hw => by unfold a_wr at hw; omega) ?_
  exact a_fr_call (fr_10 63 1 G) (fun a b hw => by unfold w_10 at hw; omega) a_fr_refl
theorem fv_84 (G : a_P) : a_fr (fun a b => 1 ≤ a ∧ a ≤ 62) G (fn_84 G).2 := by
  simp only [fn_84, a_bd]
  split
  · exact a_fr_refl
  · refine a_fr_call (fr_4 13 69 _) (fun a b hw => by unfold a_wr at hw; omega) ?_
    exact a_fr_call (fr_10 1 63 G) (fun a b hw => by unfold w_10 at hw; omega) a_fr_refl
theorem rI_person (a1 : Int) (a2 : Int) (a3 : Int) {G : a_P} (hR : a_I G) (hS : a_S G) : a_I (fn_126 a1 a2 a3 (fn_55 a1 a2 a3 G).2).2 := by
  exact a_I_fr (a_I_fr hR (a_fr_or (fr_55 a1 a2 a3 G) (fun a b h hw => by unfold a_pI at h; unfold w_55 at hw; omega))) (a_fr_or (fr_126 a1 a2 a3 (fn_55 a1 a2 a3 G).2) (fun a b h hw => by unfold a_pI at h; unfold w_126 at hw; omega))
theorem rI_of (a1 : Int) (a2 : Int) {G : a_P} (hR : a_I G) (hS : a_S G) : a_I G := by
  exact hR
theorem rI_side (a1 : Int) {G : a_P} (hR : a_I G) (hS : a_S G) : a_I G := by
  exact hR
theorem rI_type (a1 : Int) {G : a_P} (hR : a_I G) (hS : a_S G) : a_I (fn_131 a1 (fn_58 a1 G).2).2 := by
  exact a_I_fr (a_I_fr hR (a_fr_or (fr_58 a1 G) (fun a b h hw => by unfold a_pI at h; unfold w_58 at hw; omega))) (a_fr_or (fr_131 a1 (fn_58 a1 G).2) (fun a b h hw => by unfold a_pI at h; unfold w_131 at hw; omega))
theorem rI_plain {G : a_P} (hR : a_I G) (hS : a_S G) : a_I (fn_141 (fn_59 G).2).2 := by
  exact a_I_fr (a_I_fr hR (a_fr_or (fr_59 G) (fun a b h hw => by unfold a_pI at h; unfold w_59 at hw; omega))) (a_fr_or (fr_141 (fn_59 G).2) (fun a b h hw => by unfold a_pI at h; unfold w_141 at hw; omega))
theorem rI_count (a1 : Int) {G : a_P} (hR : a_I G) (hS : a_S G) : a_I G := by
  exact hR
theorem rI_hours (a1 : Int) {G : a_P} (hR : a_I G) (hS : a_S G) : a_I (fn_143 a1 (fn_61 a1 G).2).2 := by
  exact a_I_fr (a_I_fr hR (a_fr_or (fr_61 a1 hS) (fun a b h hw => by unfold a_pI at h; unfold a_wn at hw; omega))) (a_fr_or (fr_143 a1 (fn_61 a1 G).2) (fun a b h hw => by unfold a_pI at h; unfold w_143 at hw; omega))
theorem rI_carry (a1 : Int) {G : a_P} (hR : a_I G) (hS : a_S G) : a_I (fn_144 a1 (fn_62 a1 G).2).2 := by
  exact a_I_fr (a_I_fr hR (a_fr_or (fr_62 a1 hS) (fun a b h hw => by unfold a_pI at h; unfold a_wn at hw; omega))) (a_fr_or (fr_144 a1 (fn_62 a1 G).2) (fun a b h hw => by unfold a_pI at h; unfold w_144 at hw; omega))
theorem rI_turn (a1 : Int) {G : a_P} (hR : a_I G) (hS : a_S G) : a_I (fn_145 a1 (fn_63 a1 G).2).2 := by
  exact a_I_fr (a_I_fr hR (a_fr_or (fr_63 a1 hS) (fun a b h hw => by unfold a_pI at h; unfold a_wn at hw; omega))) (a_fr_or (fr_145 a1 (fn_63 a1 G).2) (fun a b h hw => by unfold a_pI at h; unfold w_145 at hw; omega))
theorem rI_hand (a1 : Int) {G : a_P} (hR : a_I G) (hS : a_S G) : a_I (fn_146 a1 (fn_64 a1 G).2).2 := by
  exact a_I_fr (a_I_fr hR (a_fr_or (fr_64 a1 hS) (fun a b h hw => by unfold a_pI at h; unfold a_wn at hw; omega))) (a_fr_or (fr_146 a1 (fn_64 a1 G).2) (fun a b h hw => by unfold a_pI at h; unfold w_146 at hw; omega))
theorem rI_lay {G : a_P} (hR : a_I G) (hS : a_S G) : a_I (fn_147 (fn_65 G).2).2 := by
  exact a_I_fr (a_I_fr hR (a_fr_or (fr_65 hS) (fun a b h hw => by unfold a_pI at h; unfold a_wn at hw; omega))) (a_fr_or (fr_147 (fn_65 G).2) (fun a b h hw => by unfold a_pI at h; unfold w_147 at hw; omega))
theorem rI_send (a1 : Int) (a2 : Int) {G : a_P} (hR : a_I G) (hS : a_S G) : a_I (fn_148 a1 a2 (fn_66 a1 a2 G).2).2 := by
  exact a_I_fr (a_I_fr hR (a_fr_or (fr_66 a1 a2 hS) (fun a b h hw => by unfold a_pI at h; unfold a_wn at hw; omega))) (a_fr_or (fr_148 a1 a2 (fn_66 a1 a2 G).2) (fun a b h hw => by unfold a_pI at h; unfold w_148 at hw; omega))
theorem rI_rain (a1 : Int) {G : a_P} (hR : a_I G) (hS : a_S G) : a_I (fn_149 a1 (fn_67 a1 G).2).2 := by
  exact a_I_fr (a_I_fr hR (a_fr_or (fr_67 a1 hS) (fun a b h hw => by unfold a_pI at h; unfold a_wn at hw; omega))) (a_fr_or (fr_149 a1 (fn_67 a1 G).2) (fun a b h hw => by unfold a_pI at h; unfold w_149 at hw; omega))
theorem rI_drift (a1 : Int) {G : a_P} (hR : a_I G) (hS : a_S G) : a_I (fn_150 a1 (fn_68 a1 G).2).2 := by
  exact a_I_fr (a_I_fr hR (a_fr_or (fr_68 a1 hS) (fun a b h hw => by unfold a_pI at h; unfold a_wn at hw; omega))) (a_fr_or (fr_150 a1 (fn_68 a1 G).2) (fun a b h hw => by unfold a_pI at h; unfold w_150 at hw; omega))
theorem rI_undo {G : a_P} (hR : a_I G) (hS : a_S G) : a_I (fn_151 (fn_69 G).2).2 := by
  exact a_I_fr (a_I_fr hR (a_fr_or (fr_69 G) (fun a b h hw => by unfold a_pI at h; unfold w_69 at hw; omega))) (a_fr_or (fr_151 (fn_69 G).2) (fun a b h hw => by unfold a_pI at h; unfold w_151 at hw; omega))
theorem rI_seed (a1 : Int) {G : a_P} (hR : a_I G) (hS : a_S G) : a_I (fn_152 a1 (fn_70 a1 G).2).2 := by
  exact a_I_fr (a_I_fr hR (a_fr_or (fr_70 a1 G) (fun a b h hw => by unfold a_pI at h; unfold w_70 at hw; omega))) (a_fr_or (fr_152 a1 (fn_70 a1 G).2) (fun a b h hw => by unfold a_pI at h; unfold w_152 at hw; omega))
theorem rI_ahead (a1 : Int) {G : a_P} (hR : a_I G) (hS : a_S G) : a_I (fn_156 a1 (fn_71 a1 G).2).2 := by
  exact a_I_fr (a_I_fr hR (a_fr_or (fr_71 a1 G) (fun a b h hw => by unfold a_pI at h; unfold w_71 at hw; omega))) (a_fr_or (fr_156 a1 (fn_71 a1 G).2) (fun a b h hw => by unfold a_pI at h; unfold w_156 at hw; omega))
theorem rI_then (a1 : Int) (a2 : Int) (a3 : Int) {G : a_P} (hR : a_I G) (hS : a_S G) : a_I (fn_157 a1 a2 a3 (fn_72 a1 a2 a3 G).2).2 := by
  exact a_I_fr (a_I_fr hR (a_fr_or (fr_72 a1 a2 a3 G) (fun a b h hw => by unfold a_pI at h; unfold w_72 at hw; omega))) (a_fr_or (fr_157 a1 a2 a3 (fn_72 a1 a2 a3 G).2) (fun a b h hw => by unfold a_pI at h; unfold w_157 at hw; omega))
theorem rI_lies {G : a_P} (hR : a_I G) (hS : a_S G) : a_I (fn_158 (fn_73 G).2).2 := by
  exact a_I_fr (a_I_fr hR (a_fr_or (fr_73 G) (fun a b h hw => by unfold a_pI at h; unfold w_73 at hw; omega))) (a_fr_or (fr_158 (fn_73 G).2) (fun a b h hw => by unfold a_pI at h; unfold w_158 at hw; omega))
theorem rI_wet (a1 : Int) {G : a_P} (hR : a_I G) (hS : a_S G) : a_I (fn_160 a1 (fn_74 a1 G).2).2 := by
  exact a_I_fr (a_I_fr hR (a_fr_or (fr_74 a1 G) (fun a b h hw => by unfold a_pI at h; unfold w_74 at hw; omega))) (a_fr_or (fr_160 a1 (fn_74 a1 G).2) (fun a b h hw => by unfold a_pI at h; unfold w_160 at hw; omega))
theorem rI_facing (a1 : Int) (a2 : Int) {G : a_P} (hR : a_I G) (hS : a_S G) : a_I (fn_161 a1 a2 (fn_75 a1 a2 G).2).2 := by
  exact a_I_fr (a_I_fr hR (a_fr_or (fr_75 a1 a2 G) (fun a b h hw => by unfold a_pI at h; unfold w_75 at hw; omega))) (a_fr_or (fr_161 a1 a2 (fn_75 a1 a2 G).2) (fun a b h hw => by unfold a_pI at h; unfold w_161 at hw; omega))
theorem rI_room (a1 : Int) (a2 : Int) {G : a_P} (hR : a_I G) (hS : a_S G) : a_I (fn_165 a1 a2 (fn_76 a1 a2 G).2).2 := by
  exact a_I_fr (a_I_fr hR (a_fr_or (fr_76 a1 a2 G) (fun a b h hw => by unfold a_pI at h; unfold w_76 at hw; omega))) (a_fr_or (fr_165 a1 a2 (fn_76 a1 a2 G).2) (fun a b h hw => by unfold a_pI at h; unfold w_165 at hw; omega))
theorem rI_nearest (a1 : Int) (a2 : Int) {G : a_P} (hR : a_I G) (hS : a_S G) : a_I (fn_166 a1 a2 (fn_77 a1 a2 G).2).2 := by
  exact a_I_fr (a_I_fr hR (a_fr_or (fr_77 a1 a2 G) (fun a b h hw => by unfold a_pI at h; unfold w_77 at hw; omega))) (a_fr_or (fr_166 a1 a2 (fn_77 a1 a2 G).2) (fun a b h hw => by unfold a_pI at h; unfold w_166 at hw; omega))
theorem rI_hinge (a1 : Int) {G : a_P} (hR : a_I G) (hS : a_S G) : a_I (fn_167 a1 (fn_78 a1 G).2).2 := by
  exact a_I_fr (a_I_fr hR (a_fr_or (fr_78 a1 G) (fun a b h hw => by unfold a_pI at h; unfold w_78 at hw; omega))) (a_fr_or (fr_167 a1 (fn_78 a1 G).2) (fun a b h hw => by unfold a_pI at h; unfold w_167 at hw; omega))
theorem rI_duel (a1 : Int) {G : a_P} (hR : a_I G) (hS : a_S G) : a_I (fn_168 a1 (fn_79 a1 G).2).2 := by
  exact a_I_fr (a_I_fr hR (a_fr_or (fr_79 a1 G) (fun a b h hw => by unfold a_pI at h; unfold w_79 at hw; omega))) (a_fr_or (fr_168 a1 (fn_79 a1 G).2) (fun a b h hw => by unfold a_pI at h; unfold w_168 at hw; omega))
theorem rI_stood (a1 : Int) (a2 : Int) {G : a_P} (hR : a_I G) (hS : a_S G) : a_I (fn_169 a1 a2 (fn_80 a1 a2 G).2).2 := by
  exact a_I_fr (a_I_fr hR (a_fr_or (fr_80 a1 a2 G) (fun a b h hw => by unfold a_pI at h; unfold w_80 at hw; omega))) (a_fr_or (fr_169 a1 a2 (fn_80 a1 a2 G).2) (fun a b h hw => by unfold a_pI at h; unfold w_169 at hw; omega))
theorem rI_field (a1 : Int) (a2 : Int) (a3 : Int) {G : a_P} (hR : a_I G) (hS : a_S G) : a_I G := by
  exact hR
theorem rI_dry (a1 : Int) (a2 : Int) (a3 : Int) (a4 : Int) (a5 : Int) {G : a_P} (hR : a_I G) (hS : a_S G) : a_I (fn_172 a1 a2 a3 a4 a5 (fn_82 a1 a2 a3 a4 a5 G).2).2 := by
  exact a_I_fr (a_I_fr hR (a_fr_or (fr_82 a1 a2 a3 a4 a5 G) (fun a b h hw => by unfold a_pI at h; unfold w_82 at hw; omega))) (a_fr_or (fr_172 a1 a2 a3 a4 a5 (fn_82 a1 a2 a3 a4 a5 G).2) (fun a b h hw => by unfold a_pI at h; unfold w_172 at hw; omega))
theorem rI_restore {G : a_P} (hR : a_I G) (hS : a_S G) : a_I (fn_174 (fn_84 G).2).2 := by
  exact a_I_fr (a_I_fr hR (a_fr_or (fv_84 G) (fun a b h hw => by unfold a_pI at h; omega))) (a_fr_or (fr_174 (fn_84 G).2) (fun a b h hw => by unfold a_pI at h; unfold w_174 at hw; omega))
theorem rI_seen (a1 : Int) (a2 : Int) (a3 : Int) (a4 : Int) (a5 : Int) (a6 : Int) {G : a_P} (hR : a_I G) (hS : a_S G) : a_I (fn_183 a1 a2 a3 a4 a5 a6 (fn_85 a1 a2 a3 a4 a5 a6 G).2).2 := by
  exact a_I_fr (a_I_fr hR (a_fr_or (fr_85 a1 a2 a3 a4 a5 a6 G) (fun a b h hw => by unfold a_pI at h; unfold w_85 at hw; omega))) (a_fr_or (fr_183 a1 a2 a3 a4 a5 a6 (fn_85 a1 a2 a3 a4 a5 a6 G).2) (fun a b h hw => by unfold a_pI at h; unfold w_183 at hw; omega))
theorem rI_film (a1 : Int) (a2 : Int) (a3 : Int) (a4 : Int) {G : a_P} (hR : a_I G) (hS : a_S G) : a_I (fn_184 a1 a2 a3 a4 (fn_86 a1 a2 a3 a4 G).2).2 := by
  exact a_I_fr (a_I_fr hR (a_fr_or (fv_86 a1 a2 a3 a4 G) (fun a b h hw => by unfold a_pI at h; omega))) (a_fr_or (fr_184 a1 a2 a3 a4 (fn_86 a1 a2 a3 a4 G).2) (fun a b h hw => by unfold a_pI at h; unfold w_184 at hw; omega))
theorem rI_sheet (a1 : Int) (a2 : Int) (a3 : Int) {G : a_P} (hR : a_I G) (hS : a_S G) : a_I (fn_177 a1 a2 a3 (fn_87 a1 a2 a3 G).2).2 := by
  exact a_I_fr (a_I_fr hR (a_fr_or (fv_87 a1 a2 a3 G) (fun a b h hw => by unfold a_pI at h; omega))) (a_fr_or (fr_177 a1 a2 a3 (fn_87 a1 a2 a3 G).2) (fun a b h hw => by unfold a_pI at h; unfold w_177 at hw; omega))
theorem rI_drop (a1 : Int) {G : a_P} (hR : a_I G) (hS : a_S G) : a_I (fn_178 a1 (fn_88 a1 G).2).2 := by
  exact a_I_fr (a_I_fr hR (a_fr_or (fv_88 a1 G) (fun a b h hw => by unfold a_pI at h; omega))) (a_fr_or (fr_178 a1 (fn_88 a1 G).2) (fun a b h hw => by unfold a_pI at h; unfold w_178 at hw; omega))
theorem rI_item (a1 : Int) (a2 : Int) (a3 : Int) (a4 : Int) {G : a_P} (hR : a_I G) (hS : a_S G) : a_I (fn_180 a1 a2 a3 a4 (fn_89 a1 a2 a3 a4 G).2).2 := by
  exact a_I_fr (a_I_fr hR (a_fr_or (fv_89 a1 a2 a3 a4 G) (fun a b h hw => by unfold a_pI at h; omega))) (a_fr_or (fr_180 a1 a2 a3 a4 (fn_89 a1 a2 a3 a4 G).2) (fun a b h hw => by unfold a_pI at h; unfold w_180 at hw; omega))
theorem rI_copy (a1 : Int) (a2 : Int) (a3 : Int) (a4 : Int) (a5 : Int) {G : a_P} (hR : a_I G) (hS : a_S G) : a_I (fn_181 a1 a2 a3 a4 a5 (fn_90 a1 a2 a3 a4 a5 G).2).2 := by
  exact a_I_fr (a_I_fr hR (a_fr_or (fv_90 a1 a2 a3 a4 a5 G) (fun a b h hw => by unfold a_pI at h; omega))) (a_fr_or (fr_181 a1 a2 a3 a4 a5 (fn_90 a1 a2 a3 a4 a5 G).2) (fun a b h hw => by unfold a_pI at h; unfold w_181 at hw; omega))
theorem rT_person (a1 : Int) (a2 : Int) (a3 : Int) {G : a_P} (hR : a_T G) (hS : a_S G) : a_T (fn_126 a1 a2 a3 (fn_55 a1 a2 a3 G).2).2 := by
  exact a_T_fr (a_T_fr hR (a_fr_or (fr_55 a1 a2 a3 G) (fun a b h hw => by unfold a_pT at h; unfold w_55 at hw; omega))) (a_fr_or (fr_126 a1 a2 a3 (fn_55 a1 a2 a3 G).2) (fun a b h hw => by unfold a_pT at h; unfold w_126 at hw; omega))
theorem rT_of (a1 : Int) (a2 : Int) {G : a_P} (hR : a_T G) (hS : a_S G) : a_T G := by
  exact hR
theorem rT_side (a1 : Int) {G : a_P} (hR : a_T G) (hS : a_S G) : a_T G := by
  exact hR
theorem rT_count (a1 : Int) {G : a_P} (hR : a_T G) (hS : a_S G) : a_T G := by
  exact hR
theorem rT_hours (a1 : Int) {G : a_P} (hR : a_T G) (hS : a_S G) : a_T (fn_143 a1 (fn_61 a1 G).2).2 := by
  exact a_T_fr (a_T_fr hR (a_fr_or (fr_61 a1 hS) (fun a b h hw => by unfold a_pT at h; unfold a_wn at hw; omega))) (a_fr_or (fr_143 a1 (fn_61 a1 G).2) (fun a b h hw => by unfold a_pT at h; unfold w_143 at hw; omega))
theorem rT_carry (a1 : Int) {G : a_P} (hR : a_T G) (hS : a_S G) : a_T (fn_144 a1 (fn_62 a1 G).2).2 := by
  exact a_T_fr (a_T_fr hR (a_fr_or (fr_62 a1 hS) (fun a b h hw => by unfold a_pT at h; unfold a_wn at hw; omega))) (a_fr_or (fr_144 a1 (fn_62 a1 G).2) (fun a b h hw => by unfold a_pT at h; unfold w_144 at hw; omega))
theorem rT_turn (a1 : Int) {G : a_P} (hR : a_T G) (hS : a_S G) : a_T (fn_145 a1 (fn_63 a1 G).2).2 := by
  exact a_T_fr (a_T_fr hR (a_fr_or (fr_63 a1 hS) (fun a b h hw => by unfold a_pT at h; unfold a_wn at hw; omega))) (a_fr_or (fr_145 a1 (fn_63 a1 G).2) (fun a b h hw => by unfold a_pT at h; unfold w_145 at hw; omega))
theorem rT_hand (a1 : Int) {G : a_P} (hR : a_T G) (hS : a_S G) : a_T (fn_146 a1 (fn_64 a1 G).2).2 := by
  exact a_T_fr (a_T_fr hR (a_fr_or (fr_64 a1 hS) (fun a b h hw => by unfold a_pT at h; unfold a_wn at hw; omega))) (a_fr_or (fr_146 a1 (fn_64 a1 G).2) (fun a b h hw => by unfold a_pT at h; unfold w_146 at hw; omega))
theorem rT_lay {G : a_P} (hR : a_T G) (hS : a_S G) : a_T (fn_147 (fn_65 G).2).2 := by
  exact a_T_fr (a_T_fr hR (a_fr_or (fr_65 hS) (fun a b h hw => by unfold a_pT at h; unfold a_wn at hw; omega))) (a_fr_or (fr_147 (fn_65 G).2) (fun a b h hw => by unfold a_pT at h; unfold w_147 at hw; omega))
theorem rT_send (a1 : Int) (a2 : Int) {G : a_P} (hR : a_T G) (hS : a_S G) : a_T (fn_148 a1 a2 (fn_66 a1 a2 G).2).2 := by
  exact a_T_fr (a_T_fr hR (a_fr_or (fr_66 a1 a2 hS) (fun a b h hw => by unfold a_pT at h; unfold a_wn at hw; omega))) (a_fr_or (fr_148 a1 a2 (fn_66 a1 a2 G).2) (fun a b h hw => by unfold a_pT at h; unfold w_148 at hw; omega))
theorem rT_rain (a1 : Int) {G : a_P} (hR : a_T G) (hS : a_S G) : a_T (fn_149 a1 (fn_67 a1 G).2).2 := by
  exact a_T_fr (a_T_fr hR (a_fr_or (fr_67 a1 hS) (fun a b h hw => by unfold a_pT at h; unfold a_wn at hw; omega))) (a_fr_or (fr_149 a1 (fn_67 a1 G).2) (fun a b h hw => by unfold a_pT at h; unfold w_149 at hw; omega))
theorem rT_drift (a1 : Int) {G : a_P} (hR : a_T G) (hS : a_S G) : a_T (fn_150 a1 (fn_68 a1 G).2).2 := by
  exact a_T_fr (a_T_fr hR (a_fr_or (fr_68 a1 hS) (fun a b h hw => by unfold a_pT at h; unfold a_wn at hw; omega))) (a_fr_or (fr_150 a1 (fn_68 a1 G).2) (fun a b h hw => by unfold a_pT at h; unfold w_150 at hw; omega))
theorem rT_undo {G : a_P} (hR : a_T G) (hS : a_S G) : a_T (fn_151 (fn_69 G).2).2 := by
  exact a_T_fr (a_T_fr hR (a_fr_or (fr_69 G) (fun a b h hw => by unfold a_pT at h; unfold w_69 at hw; omega))) (a_fr_or (fr_151 (fn_69 G).2) (fun a b h hw => by unfold a_pT at h; unfold w_151 at hw; omega))
theorem rT_seed (a1 : Int) {G : a_P} (hR : a_T G) (hS : a_S G) : a_T (fn_152 a1 (fn_70 a1 G).2).2 := by
  exact a_T_fr (a_T_fr hR (a_fr_or (fr_70 a1 G) (fun a b h hw => by unfold a_pT at h; unfold w_70 at hw; omega))) (a_fr_or (fr_152 a1 (fn_70 a1 G).2) (fun a b h hw => by unfold a_pT at h; unfold w_152 at hw; omega))
theorem rT_ahead (a1 : Int) {G : a_P} (hR : a_T G) (hS : a_S G) : a_T (fn_156 a1 (fn_71 a1 G).2).2 := by
  exact a_T_fr (a_T_fr hR (a_fr_or (fr_71 a1 G) (fun a b h hw => by unfold a_pT at h; unfold w_71 at hw; omega))) (a_fr_or (fr_156 a1 (fn_71 a1 G).2) (fun a b h hw => by unfold a_pT at h; unfold w_156 at hw; omega))
theorem rT_then (a1 : Int) (a2 : Int) (a3 : Int) {G : a_P} (hR : a_T G) (hS : a_S G) : a_T (fn_157 a1 a2 a3 (fn_72 a1 a2 a3 G).2).2 := by
  exact a_T_fr (a_T_fr hR (a_fr_or (fr_72 a1 a2 a3 G) (fun a b h hw => by unfold a_pT at h; unfold w_72 at hw; omega))) (a_fr_or (fr_157 a1 a2 a3 (fn_72 a1 a2 a3 G).2) (fun a b h hw => by unfold a_pT at h; unfold w_157 at hw; omega))
theorem rT_lies {G : a_P} (hR : a_T G) (hS : a_S G) : a_T (fn_158 (fn_73 G).2).2 := by
  exact a_T_fr (a_T_fr hR (a_fr_or (fr_73 G) (fun a b h hw => by unfold a_pT at h; unfold w_73 at hw; omega))) (a_fr_or (fr_158 (fn_73 G).2) (fun a b h hw => by unfold a_pT at h; unfold w_158 at hw; omega))
theorem rT_wet (a1 : Int) {G : a_P} (hR : a_T G) (hS : a_S G) : a_T (fn_160 a1 (fn_74 a1 G).2).2 := by
  exact a_T_fr (a_T_fr hR (a_fr_or (fr_74 a1 G) (fun a b h hw => by unfold a_pT at h; unfold w_74 at hw; omega))) (a_fr_or (fr_160 a1 (fn_74 a1 G).2) (fun a b h hw => by unfold a_pT at h; unfold w_160 at hw; omega))
theorem rT_facing (a1 : Int) (a2 : Int) {G : a_P} (hR : a_T G) (hS : a_S G) : a_T (fn_161 a1 a2 (fn_75 a1 a2 G).2).2 := by
  exact a_T_fr (a_T_fr hR (a_fr_or (fr_75 a1 a2 G) (fun a b h hw => by unfold a_pT at h; unfold w_75 at hw; omega))) (a_fr_or (fr_161 a1 a2 (fn_75 a1 a2 G).2) (fun a b h hw => by unfold a_pT at h; unfold w_161 at hw; omega))
theorem rT_room (a1 : Int) (a2 : Int) {G : a_P} (hR : a_T G) (hS : a_S G) : a_T (fn_165 a1 a2 (fn_76 a1 a2 G).2).2 := by
  exact a_T_fr (a_T_fr hR (a_fr_or (fr_76 a1 a2 G) (fun a b h hw => by unfold a_pT at h; unfold w_76 at hw; omega))) (a_fr_or (fr_165 a1 a2 (fn_76 a1 a2 G).2) (fun a b h hw => by unfold a_pT at h; unfold w_165 at hw; omega))
theorem rT_nearest (a1 : Int) (a2 : Int) {G : a_P} (hR : a_T G) (hS : a_S G) : a_T (fn_166 a1 a2 (fn_77 a1 a2 G).2).2 := by
  exact a_T_fr (a_T_fr hR (a_fr_or (fr_77 a1 a2 G) (fun a b h hw => by unfold a_pT at h; unfold w_77 at hw; omega))) (a_fr_or (fr_166 a1 a2 (fn_77 a1 a2 G).2) (fun a b h hw => by unfold a_pT at h; unfold w_166 at hw; omega))
theorem rT_hinge (a1 : Int) {G : a_P} (hR : a_T G) (hS : a_S G) : a_T (fn_167 a1 (fn_78 a1 G).2).2 := by
  exact a_T_fr (a_T_fr hR (a_fr_or (fr_78 a1 G) (fun a b h hw => by unfold a_pT at h; unfold w_78 at hw; omega))) (a_fr_or (fr_167 a1 (fn_78 a1 G).2) (fun a b h hw => by unfold a_pT at h; unfold w_167 at hw; omega))
theorem rT_duel (a1 : Int) {G : a_P} (hR : a_T G) (hS : a_S G) : a_T (fn_168 a1 (fn_79 a1 G).2).2 := by
  exact a_T_fr (a_T_fr hR (a_fr_or (fr_79 a1 G) (fun a b h hw => by unfold a_pT at h; unfold w_79 at hw; omega))) (a_fr_or (fr_168 a1 (fn_79 a1 G).2) (fun a b h hw => by unfold a_pT at h; unfold w_168 at hw; omega))
theorem rT_stood (a1 : Int) (a2 : Int) {G : a_P} (hR : a_T G) (hS : a_S G) : a_T (fn_169 a1 a2 (fn_80 a1 a2 G).2).2 := by
  exact a_T_fr (a_T_fr hR (a_fr_or (fr_80 a1 a2 G) (fun a b h hw => by unfold a_pT at h; unfold w_80 at hw; omega))) (a_fr_or (fr_169 a1 a2 (fn_80 a1 a2 G).2) (fun a b h hw => by unfold a_pT at h; unfold w_169 at hw; omega))
theorem rT_field (a1 : Int) (a2 : Int) (a3 : Int) {G : a_P} (hR : a_T G) (hS : a_S G) : a_T G := by
  exact hR
theorem rT_dry (a1 : Int) (a2 : Int) (a3 : Int) (a4 : Int) (a5 : Int) {G : a_P} (hR : a_T G) (hS : a_S G) : a_T (fn_172 a1 a2 a3 a4 a5 (fn_82 a1 a2 a3 a4 a5 G).2).2 := by
  exact a_T_fr (a_T_fr hR (a_fr_or (fr_82 a1 a2 a3 a4 a5 G) (fun a b h hw => by unfold a_pT at h; unfold w_82 at hw; omega))) (a_fr_or (fr_172 a1 a2 a3 a4 a5 (fn_82 a1 a2 a3 a4 a5 G).2) (fun a b h hw => by unfold a_pT at h; unfold w_172 at hw; omega))
theorem rT_image {G : a_P} (hR : a_T G) (hS : a_S G) : a_T (fn_173 (fn_83 G).2).2 := by
  exact a_T_fr (a_T_fr hR (a_fr_or (fv_83 G) (fun a b h hw => by unfold a_pT at h; omega))) (a_fr_or (fr_173 (fn_83 G).2) (fun a b h hw => by unfold a_pT at h; unfold w_173 at hw; omega))
theorem rT_restore {G : a_P} (hR : a_T G) (hS : a_S G) : a_T (fn_174 (fn_84 G).2).2 := by
  exact a_T_fr (a_T_fr hR (a_fr_or (fv_84 G) (fun a b h hw => by unfold a_pT at h; omega))) (a_fr_or (fr_174 (fn_84 G).2) (fun a b h hw => by unfold a_pT at h; unfold w_174 at hw; omega))
theorem rT_seen (a1 : Int) (a2 : Int) (a3 : Int) (a4 : Int) (a5 : Int) (a6 : Int) {G : a_P} (hR : a_T G) (hS : a_S G) : a_T (fn_183 a1 a2 a3 a4 a5 a6 (fn_85 a1 a2 a3 a4 a5 a6 G).2).2 := by
  exact a_T_fr (a_T_fr hR (a_fr_or (fr_85 a1 a2 a3 a4 a5 a6 G) (fun a b h hw => by unfold a_pT at h; unfold w_85 at hw; omega))) (a_fr_or (fr_183 a1 a2 a3 a4 a5 a6 (fn_85 a1 a2 a3 a4 a5 a6 G).2) (fun a b h hw => by unfold a_pT at h; unfold w_183 at hw; omega))
theorem rT_film (a1 : Int) (a2 : Int) (a3 : Int) (a4 : Int) {G : a_P} (hR : a_T G) (hS : a_S G) : a_T (fn_184 a1 a2 a3 a4 (fn_86 a1 a2 a3 a4 G).2).2 := by
  exact a_T_fr (a_T_fr hR (a_fr_or (fv_86 a1 a2 a3 a4 G) (fun a b h hw => by unfold a_pT at h; omega))) (a_fr_or (fr_184 a1 a2 a3 a4 (fn_86 a1 a2 a3 a4 G).2) (fun a b h hw => by unfold a_pT at h; unfold w_184 at hw; omega))
theorem rT_sheet (a1 : Int) (a2 : Int) (a3 : Int) {G : a_P} (hR : a_T G) (hS : a_S G) : a_T (fn_177 a1 a2 a3 (fn_87 a1 a2 a3 G).2).2 := by
  exact a_T_fr (a_T_fr hR (a_fr_or (fv_87 a1 a2 a3 G) (fun a b h hw => by unfold a_pT at h; omega))) (a_fr_or (fr_177 a1 a2 a3 (fn_87 a1 a2 a3 G).2) (fun a b h hw => by unfold a_pT at h; unfold w_177 at hw; omega))
theorem rT_drop (a1 : Int) {G : a_P} (hR : a_T G) (hS : a_S G) : a_T (fn_178 a1 (fn_88 a1 G).2).2 := by
  exact a_T_fr (a_T_fr hR (a_fr_or (fv_88 a1 G) (fun a b h hw => by unfold a_pT at h; omega))) (a_fr_or (fr_178 a1 (fn_88 a1 G).2) (fun a b h hw => by unfold a_pT at h; unfold w_178 at hw; omega))
theorem rT_item (a1 : Int) (a2 : Int) (a3 : Int) (a4 : Int) {G : a_P} (hR : a_T G) (hS : a_S G) : a_T (fn_180 a1 a2 a3 a4 (fn_89 a1 a2 a3 a4 G).2).2 := by
  exact a_T_fr (a_T_fr hR (a_fr_or (fv_89 a1 a2 a3 a4 G) (fun a b h hw => by unfold a_pT at h; omega))) (a_fr_or (fr_180 a1 a2 a3 a4 (fn_89 a1 a2 a3 a4 G).2) (fun a b h hw => by unfold a_pT at h; unfold w_180 at hw; omega))
theorem rT_copy (a1 : Int) (a2 : Int) (a3 : Int) (a4 : Int) (a5 : Int) {G : a_P} (hR : a_T G) (hS : a_S G) : a_T (fn_181 a1 a2 a3 a4 a5 (fn_90 a1 a2 a3 a4 a5 G).2).2 := by
  exact a_T_fr (a_T_fr hR (a_fr_or (fv_90 a1 a2 a3 a4 a5 G) (fun a b h hw => by unfold a_pT at h; omega))) (a_fr_or (fr_181 a1 a2 a3 a4 a5 (fn_90 a1 a2 a3 a4 a5 G).2) (fun a b h hw => by unfold a_pT at h; unfold w_181 at hw; omega))
theorem rSh_person (a1 : Int) (a2 : Int) (a3 : Int) {G : a_P} (hR : a_Sh G) (hS : a_S G) : a_Sh (fn_126 a1 a2 a3 (fn_55 a1 a2 a3 G).2).2 := by
  exact a_Sh_fr (a_Sh_fr hR (a_fr_or (fr_55 a1 a2 a3 G) (fun a b h hw => by unfold a_pS at h; unfold w_55 at hw; omega))) (a_fr_or (fr_126 a1 a2 a3 (fn_55 a1 a2 a3 G).2) (fun a b h hw => by unfold a_pS at h; unfold w_126 at hw; omega))
theorem rSh_of (a1 : Int) (a2 : Int) {G : a_P} (hR : a_Sh G) (hS : a_S G) : a_Sh G := by
  exact hR
theorem rSh_side (a1 : Int) {G : a_P} (hR : a_Sh G) (hS : a_S G) : a_Sh G := by
  exact hR
theorem rSh_type (a1 : Int) {G : a_P} (hR : a_Sh G) (hS : a_S G) : a_Sh (fn_131 a1 (fn_58 a1 G).2).2 := by
  exact a_Sh_fr (a_Sh_fr hR (a_fr_or (fr_58 a1 G) (fun a b h hw => by unfold a_pS at h; unfold w_58 at hw; omega))) (a_fr_or (fr_131 a1 (fn_58 a1 G).2) (fun a b h hw => by unfold a_pS at h; unfold w_131 at hw; omega))
theorem rSh_plain {G : a_P} (hR : a_Sh G) (hS : a_S G) : a_Sh (fn_141 (fn_59 G).2).2 := by
  exact a_Sh_fr (a_Sh_fr hR (a_fr_or (fr_59 G) (fun a b h hw => by unfold a_pS at h; unfold w_59 at hw; omega))) (a_fr_or (fr_141 (fn_59 G).2) (fun a b h hw => by unfold a_pS at h; unfold w_141 at hw; omega))
theorem rSh_count (a1 : Int) {G : a_P} (hR : a_Sh G) (hS : a_S G) : a_Sh G := by
  exact hR
theorem rSh_hours (a1 : Int) {G : a_P} (hR : a_Sh G) (hS : a_S G) : a_Sh (fn_143 a1 (fn_61 a1 G).2).2 := by
  exact a_Sh_fr (a_Sh_fr hR (a_fr_or (fr_61 a1 hS) (fun a b h hw => by unfold a_pS at h; unfold a_wn at hw; omega))) (a_fr_or (fr_143 a1 (fn_61 a1 G).2) (fun a b h hw => by unfold a_pS at h; unfold w_143 at hw; omega))
theorem rSh_carry (a1 : Int) {G : a_P} (hR : a_Sh G) (hS : a_S G) : a_Sh (fn_144 a1 (fn_62 a1 G).2).2 := by
  exact a_Sh_fr (a_Sh_fr hR (a_fr_or (fr_62 a1 hS) (fun a b h hw => by unfold a_pS at h; unfold a_wn at hw; omega))) (a_fr_or (fr_144 a1 (fn_62 a1 G).2) (fun a b h hw => by unfold a_pS at h; unfold w_144 at hw; omega))
theorem rSh_turn (a1 : Int) {G : a_P} (hR : a_Sh G) (hS : a_S G) : a_Sh (fn_145 a1 (fn_63 a1 G).2).2 := by
  exact a_Sh_fr (a_Sh_fr hR (a_fr_or (fr_63 a1 hS) (fun a b h hw => by unfold a_pS at h; unfold a_wn at hw; omega))) (a_fr_or (fr_145 a1 (fn_63 a1 G).2) (fun a b h hw => by unfold a_pS at h; unfold w_145 at hw; omega))
theorem rSh_hand (a1 : Int) {G : a_P} (hR : a_Sh G) (hS : a_S G) : a_Sh (fn_146 a1 (fn_64 a1 G).2).2 := by
  exact a_Sh_fr (a_Sh_fr hR (a_fr_or (fr_64 a1 hS) (fun a b h hw => by unfold a_pS at h; unfold a_wn at hw; omega))) (a_fr_or (fr_146 a1 (fn_64 a1 G).2) (fun a b h hw => by unfold a_pS at h; unfold w_146 at hw; omega))
theorem rSh_lay {G : a_P} (hR : a_Sh G) (hS : a_S G) : a_Sh (fn_147 (fn_65 G).2).2 := by
  exact a_Sh_fr (a_Sh_fr hR (a_fr_or (fr_65 hS) (fun a b h hw => by unfold a_pS at h; unfold a_wn at hw; omega))) (a_fr_or (fr_147 (fn_65 G).2) (fun a b h hw => by unfold a_pS at h; unfold w_147 at hw; omega))
theorem rSh_send (a1 : Int) (a2 : Int) {G : a_P} (hR : a_Sh G) (hS : a_S G) : a_Sh (fn_148 a1 a2 (fn_66 a1 a2 G).2).2 := by
  exact a_Sh_fr (a_Sh_fr hR (a_fr_or (fr_66 a1 a2 hS) (fun a b h hw => by unfold a_pS at h; unfold a_wn at hw; omega))) (a_fr_or (fr_148 a1 a2 (fn_66 a1 a2 G).2) (fun a b h hw => by unfold a_pS at h; unfold w_148 at hw; omega))
theorem rSh_rain (a1 : Int) {G : a_P} (hR : a_Sh G) (hS : a_S G) : a_Sh (fn_149 a1 (fn_67 a1 G).2).2 := by
  exact a_Sh_fr (a_Sh_fr hR (a_fr_or (fr_67 a1 hS) (fun a b h hw => by unfold a_pS at h; unfold a_wn at hw; omega))) (a_fr_or (fr_149 a1 (fn_67 a1 G).2) (fun a b h hw => by unfold a_pS at h; unfold w_149 at hw; omega))
theorem rSh_drift (a1 : Int) {G : a_P} (hR : a_Sh G) (hS : a_S G) : a_Sh (fn_150 a1 (fn_68 a1 G).2).2 := by
  exact a_Sh_fr (a_Sh_fr hR (a_fr_or (fr_68 a1 hS) (fun a b h hw => by unfold a_pS at h; unfold a_wn at hw; omega))) (a_fr_or (fr_150 a1 (fn_68 a1 G).2) (fun a b h hw => by unfold a_pS at h; unfold w_150 at hw; omega))
theorem rSh_undo {G : a_P} (hR : a_Sh G) (hS : a_S G) : a_Sh (fn_151 (fn_69 G).2).2 := by
  exact a_Sh_fr (a_Sh_fr hR (a_fr_or (fr_69 G) (fun a b h hw => by unfold a_pS at h; unfold w_69 at hw; omega))) (a_fr_or (fr_151 (fn_69 G).2) (fun a b h hw => by unfold a_pS at h; unfold w_151 at hw; omega))
theorem rSh_seed (a1 : Int) {G : a_P} (hR : a_Sh G) (hS : a_S G) : a_Sh (fn_152 a1 (fn_70 a1 G).2).2 := by
  exact a_Sh_fr (a_Sh_fr hR (a_fr_or (fr_70 a1 G) (fun a b h hw => by unfold a_pS at h; unfold w_70 at hw; omega))) (a_fr_or (fr_152 a1 (fn_70 a1 G).2) (fun a b h hw => by unfold a_pS at h; unfold w_152 at hw; omega))
theorem rSh_ahead (a1 : Int) {G : a_P} (hR : a_Sh G) (hS : a_S G) : a_Sh (fn_156 a1 (fn_71 a1 G).2).2 := by
  exact a_Sh_fr (a_Sh_fr hR (a_fr_or (fr_71 a1 G) (fun a b h hw => by unfold a_pS at h; unfold w_71 at hw; omega))) (a_fr_or (fr_156 a1 (fn_71 a1 G).2) (fun a b h hw => by unfold a_pS at h; unfold w_156 at hw; omega))
theorem rSh_then (a1 : Int) (a2 : Int) (a3 : Int) {G : a_P} (hR : a_Sh G) (hS : a_S G) : a_Sh (fn_157 a1 a2 a3 (fn_72 a1 a2 a3 G).2).2 := by
  exact a_Sh_fr (a_Sh_fr hR (a_fr_or (fr_72 a1 a2 a3 G) (fun a b h hw => by unfold a_pS at h; unfold w_72 at hw; omega))) (a_fr_or (fr_157 a1 a2 a3 (fn_72 a1 a2 a3 G).2) (fun a b h hw => by unfold a_pS at h; unfold w_157 at hw; omega))
theorem rSh_lies {G : a_P} (hR : a_Sh G) (hS : a_S G) : a_Sh (fn_158 (fn_73 G).2).2 := by
  exact a_Sh_fr (a_Sh_fr hR (a_fr_or (fr_73 G) (fun a b h hw => by unfold a_pS at h; unfold w_73 at hw; omega))) (a_fr_or (fr_158 (fn_73 G).2) (fun a b h hw => by unfold a_pS at h; unfold w_158 at hw; omega))
theorem rSh_wet (a1 : Int) {G : a_P} (hR : a_Sh G) (hS : a_S G) : a_Sh (fn_160 a1 (fn_74 a1 G).2).2 := by
  exact a_Sh_fr (a_Sh_fr hR (a_fr_or (fr_74 a1 G) (fun a b h hw => by unfold a_pS at h; unfold w_74 at hw; omega))) (a_fr_or (fr_160 a1 (fn_74 a1 G).2) (fun a b h hw => by unfold a_pS at h; unfold w_160 at hw; omega))
theorem rSh_facing (a1 : Int) (a2 : Int) {G : a_P} (hR : a_Sh G) (hS : a_S G) : a_Sh (fn_161 a1 a2 (fn_75 a1 a2 G).2).2 := by
  exact a_Sh_fr (a_Sh_fr hR (a_fr_or (fr_75 a1 a2 G) (fun a b h hw => by unfold a_pS at h; unfold w_75 at hw; omega))) (a_fr_or (fr_161 a1 a2 (fn_75 a1 a2 G).2) (fun a b h hw => by unfold a_pS at h; unfold w_161 at hw; omega))
theorem rSh_room (a1 : Int) (a2 : Int) {G : a_P} (hR : a_Sh G) (hS : a_S G) : a_Sh (fn_165 a1 a2 (fn_76 a1 a2 G).2).2 := by
  exact a_Sh_fr (a_Sh_fr hR (a_fr_or (fr_76 a1 a2 G) (fun a b h hw => by unfold a_pS at h; unfold w_76 at hw; omega))) (a_fr_or (fr_165 a1 a2 (fn_76 a1 a2 G).2) (fun a b h hw => by unfold a_pS at h; unfold w_165 at hw; omega))
theorem rSh_nearest (a1 : Int) (a2 : Int) {G : a_P} (hR : a_Sh G) (hS : a_S G) : a_Sh (fn_166 a1 a2 (fn_77 a1 a2 G).2).2 := by
  exact a_Sh_fr (a_Sh_fr hR (a_fr_or (fr_77 a1 a2 G) (fun a b h hw => by unfold a_pS at h; unfold w_77 at hw; omega))) (a_fr_or (fr_166 a1 a2 (fn_77 a1 a2 G).2) (fun a b h hw => by unfold a_pS at h; unfold w_166 at hw; omega))
theorem rSh_hinge (a1 : Int) {G : a_P} (hR : a_Sh G) (hS : a_S G) : a_Sh (fn_167 a1 (fn_78 a1 G).2).2 := by
  exact a_Sh_fr (a_Sh_fr hR (a_fr_or (fr_78 a1 G) (fun a b h hw => by unfold a_pS at h; unfold w_78 at hw; omega))) (a_fr_or (fr_167 a1 (fn_78 a1 G).2) (fun a b h hw => by unfold a_pS at h; unfold w_167 at hw; omega))
theorem rSh_duel (a1 : Int) {G : a_P} (hR : a_Sh G) (hS : a_S G) : a_Sh (fn_168 a1 (fn_79 a1 G).2).2 := by
  exact a_Sh_fr (a_Sh_fr hR (a_fr_or (fr_79 a1 G) (fun a b h hw => by unfold a_pS at h; unfold w_79 at hw; omega))) (a_fr_or (fr_168 a1 (fn_79 a1 G).2) (fun a b h hw => by unfold a_pS at h; unfold w_168 at hw; omega))
theorem rSh_stood (a1 : Int) (a2 : Int) {G : a_P} (hR : a_Sh G) (hS : a_S G) : a_Sh (fn_169 a1 a2 (fn_80 a1 a2 G).2).2 := by
  exact a_Sh_fr (a_Sh_fr hR (a_fr_or (fr_80 a1 a2 G) (fun a b h hw => by unfold a_pS at h; unfold w_80 at hw; omega))) (a_fr_or (fr_169 a1 a2 (fn_80 a1 a2 G).2) (fun a b h hw => by unfold a_pS at h; unfold w_169 at hw; omega))
theorem rSh_field (a1 : Int) (a2 : Int) (a3 : Int) {G : a_P} (hR : a_Sh G) (hS : a_S G) : a_Sh G := by
  exact hR
theorem rSh_dry (a1 : Int) (a2 : Int) (a3 : Int) (a4 : Int) (a5 : Int) {G : a_P} (hR : a_Sh G) (hS : a_S G) : a_Sh (fn_172 a1 a2 a3 a4 a5 (fn_82 a1 a2 a3 a4 a5 G).2).2 := by
  exact a_Sh_fr (a_Sh_fr hR (a_fr_or (fr_82 a1 a2 a3 a4 a5 G) (fun a b h hw => by unfold a_pS at h; unfold w_82 at hw; omega))) (a_fr_or (fr_172 a1 a2 a3 a4 a5 (fn_82 a1 a2 a3 a4 a5 G).2) (fun a b h hw => by unfold a_pS at h; unfold w_172 at hw; omega))
theorem rSh_image {G : a_P} (hR : a_Sh G) (hS : a_S G) : a_Sh (fn_173 (fn_83 G).2).2 := by
  exact a_Sh_fr (a_Sh_fr hR (a_fr_or (fv_83 G) (fun a b h hw => by unfold a_pS at h; omega))) (a_fr_or (fr_173 (fn_83 G).2) (fun a b h hw => by unfold a_pS at h; unfold w_173 at hw; omega))
theorem rSh_restore {G : a_P} (hR : a_Sh G) (hS : a_S G) : a_Sh (fn_174 (fn_84 G).2).2 := by
  exact a_Sh_fr (a_Sh_fr hR (a_fr_or (fv_84 G) (fun a b h hw => by unfold a_pS at h; omega))) (a_fr_or (fr_174 (fn_84 G).2) (fun a b h hw => by unfold a_pS at h; unfold w_174 at hw; omega))
theorem rSh_seen (a1 : Int) (a2 : Int) (a3 : Int) (a4 : Int) (a5 : Int) (a6 : Int) {G : a_P} (hR : a_Sh G) (hS : a_S G) : a_Sh (fn_183 a1 a2 a3 a4 a5 a6 (fn_85 a1 a2 a3 a4 a5 a6 G).2).2 := by
  exact a_Sh_fr (a_Sh_fr hR (a_fr_or (fr_85 a1 a2 a3 a4 a5 a6 G) (fun a b h hw => by unfold a_pS at h; unfold w_85 at hw; omega))) (a_fr_or (fr_183 a1 a2 a3 a4 a5 a6 (fn_85 a1 a2 a3 a4 a5 a6 G).2) (fun a b h hw => by unfold a_pS at h; unfold w_183 at hw; omega))
theorem rSh_film (a1 : Int) (a2 : Int) (a3 : Int) (a4 : Int) {G : a_P} (hR : a_Sh G) (hS : a_S G) : a_Sh (fn_184 a1 a2 a3 a4 (fn_86 a1 a2 a3 a4 G).2).2 := by
  exact a_Sh_fr (a_Sh_fr hR (a_fr_or (fv_86 a1 a2 a3 a4 G) (fun a b h hw => by unfold a_pS at h; omega))) (a_fr_or (fr_184 a1 a2 a3 a4 (fn_86 a1 a2 a3 a4 G).2) (fun a b h hw => by unfold a_pS at h; unfold w_184 at hw; omega))
theorem rSh_item (a1 : Int) (a2 : Int) (a3 : Int) (a4 : Int) {G : a_P} (hR : a_Sh G) (hS : a_S G) : a_Sh (fn_180 a1 a2 a3 a4 (fn_89 a1 a2 a3 a4 G).2).2 := by
  exact a_Sh_fr (a_Sh_fr hR (a_fr_or (fv_89 a1 a2 a3 a4 G) (fun a b h hw => by unfold a_pS at h; omega))) (a_fr_or (fr_180 a1 a2 a3 a4 (fn_89 a1 a2 a3 a4 G).2) (fun a b h hw => by unfold a_pS at h; unfold w_180 at hw; omega))
theorem rSh_copy (a1 : Int) (a2 : Int) (a3 : Int) (a4 : Int) (a5 : Int) {G : a_P} (hR : a_Sh G) (hS : a_S G) : a_Sh (fn_181 a1 a2 a3 a4 a5 (fn_90 a1 a2 a3 a4 a5 G).2).2 := by
  exact a_Sh_fr (a_Sh_fr hR (a_fr_or (fv_90 a1 a2 a3 a4 a5 G) (fun a b h hw => by unfold a_pS at h; omega))) (a_fr_or (fr_181 a1 a2 a3 a4 a5 (fn_90 a1 a2 a3 a4 a5 G).2) (fun a b h hw => by unfold a_pS at h; unfold w_181 at hw; omega))

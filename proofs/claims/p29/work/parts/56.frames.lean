def w_3 (p : Int) (a b : Int) : Prop := a = p
theorem fr_3 (p : Int) (H : a_P) : a_fr (w_3 p) H (fn_3 p H) := by
  generalize hW : w_3 p = W
  have W0 : ∀ a b, w_3 p a b → W a b := fun a b h => by rw [← hW]; exact h
  unfold fn_3
  refine a_fbdh (a_fr_up (W0 _ _ rfl) a_fr_refl) (fun H1 hH1 => ?_)
  exact hH1
def w_11 (p : Int) (a1 : Int) (a2 : Int) (a3 : Int) (a4 : Int) (a b : Int) : Prop := a = (p + 1) ∨ a = (p + 2) ∨ a = (p + 3) ∨ a = (p + 4) ∨ a = (p + 5) ∨ a = p
theorem fr_11 (p : Int) (a1 : Int) (a2 : Int) (a3 : Int) (a4 : Int) (H : a_P) : a_fr2 (w_11 p a1 a2 a3 a4) H (fn_11 p a1 a2 a3 a4 H) := by
  generalize hW : w_11 p a1 a2 a3 a4 = W
  have W0 : ∀ a b, w_11 p a1 a2 a3 a4 a b → W a b := fun a b h => by rw [← hW]; exact h
  unfold fn_11
  refine a_fbdi (fun x1 => ?_)
  refine a_fjn (fun (s : Unit) => a_fr W H H) (fun s1 hs_s1 => ?_) (fun j18 hj18 => ?_)
  · exact a_fr_refl
  · refine a_fif ?_ ?_
    · exact hj18 () a_fr_refl
    · refine a_fif ?_ ?_
      · refine a_fbdh (a_fr_up (W0 _ _ (Or.inl rfl)) a_fr_refl) (fun H1 hH1 => ?_)
        refine a_fbdh (a_fr_up (W0 _ _ (Or.inr (Or.inl rfl))) hH1) (fun H2 hH2 => ?_)
        refine a_fbdh (a_fr_up (W0 _ _ (Or.inr (Or.inr (Or.inl rfl)))) hH2) (fun H3 hH3 => ?_)
        refine a_fbdh (a_fr_up (W0 _ _ (Or.inr (Or.inr (Or.inr (Or.inl rfl))))) hH3) (fun H4 hH4 => ?_)
        refine a_fbdh (a_fr_up (W0 _ _ (Or.inr (Or.inr (Or.inr (Or.inr (Or.inl rfl)))))) hH4) (fun H5 hH5 => ?_)
        refine a_fbdh (a_fr_up (W0 _ _ (Or.inr (Or.inr (Or.inr (Or.inr (Or.inr rfl)))))) hH5) (fun H6 hH6 => ?_)
        exact hH6
      · exact hj18 () a_fr_refl
def w_55 (a1 : Int) (a2 : Int) (a3 : Int) (a b : Int) : Prop := a = 13 ∨ a = 2 ∨ a = 3 ∨ a = 4 ∨ a = 5 ∨ a = 6 ∨ a = 1
theorem fr_55 (a1 : Int) (a2 : Int) (a3 : Int) (H : a_P) : a_fr2 (w_55 a1 a2 a3) H (fn_55 a1 a2 a3 H) := by
  generalize hW : w_55 a1 a2 a3 = W
  have W0 : ∀ a b, w_55 a1 a2 a3 a b → W a b := fun a b h => by rw [← hW]; exact h
  unfold fn_55
  refine a_fjn (fun (s : Unit) => a_fr W H H) (fun s1 hs_s1 => ?_) (fun j26 hj26 => ?_)
  · exact a_fr_refl
  · refine a_fif ?_ ?_
    · exact hj26 () a_fr_refl
    · refine a_fif ?_ ?_
      · exact hj26 () a_fr_refl
      · refine a_fif ?_ ?_
        · exact hj26 () a_fr_refl
        · refine a_fif ?_ ?_
          · refine a_fbdh (a_fr_call (fr_3 13 H) (fun a b h => W0 a b ((fun e => (Or.inl e)) h)) a_fr_refl) (fun H1 hH1 => ?_)
            refine a_fbdg (a_fr_calf (fr_11 1 a1 a2 4 a3 H1) (fun a b h => W0 a b ((fun h => Or.elim h (fun e => (Or.inr (Or.inl e))) (fun h => Or.elim h (fun e => (Or.inr (Or.inr (Or.inl e)))) (fun h => Or.elim h (fun e => (Or.inr (Or.inr (Or.inr (Or.inl e))))) (fun h => Or.elim h (fun e => (Or.inr (Or.inr (Or.inr (Or.inr (Or.inl e)))))) (fun h => Or.elim h (fun e => (Or.inr (Or.inr (Or.inr (Or.inr (Or.inr (Or.inl e))))))) (fun e => (Or.inr (Or.inr (Or.inr (Or.inr (Or.inr (Or.inr e)))))))))))) h)) hH1) (fun g1 hg1 => ?_)
            exact hg1
          · exact a_fr_refl
def w_43 (a1 : Int) (a b : Int) : Prop := a = 120 ∨ a = 119
theorem fr_43 (a1 : Int) (H : a_P) : a_fr2 (w_43 a1) H (fn_43 a1 H) := by
  generalize hW : w_43 a1 = W
  have W0 : ∀ a b, w_43 a1 a b → W a b := fun a b h => by rw [← hW]; exact h
  unfold fn_43
  refine a_fjn (fun (s : Unit) => a_fr W H H) (fun s1 hs_s1 => ?_) (fun j16 hj16 => ?_)
  · exact a_fr_refl
  · refine a_fif ?_ ?_
    · exact hj16 () a_fr_refl
    · refine a_fif ?_ ?_
      · refine a_fbdh (a_fr_up (W0 _ _ (Or.inl rfl)) a_fr_refl) (fun H1 hH1 => ?_)
        refine a_fbdh (a_fr_up (W0 _ _ (Or.inr rfl)) hH1) (fun H2 hH2 => ?_)
        exact hH2
      · exact hj16 () a_fr_refl
def w_58 (a1 : Int) (a b : Int) : Prop := a = 120 ∨ a = 119
theorem fr_58 (a1 : Int) (H : a_P) : a_fr2 (w_58 a1) H (fn_58 a1 H) := by
  generalize hW : w_58 a1 = W
  have W0 : ∀ a b, w_58 a1 a b → W a b := fun a b h => by rw [← hW]; exact h
  unfold fn_58
  refine a_fjn (fun (s : Unit) => a_fr W H H) (fun s1 hs_s1 => ?_) (fun j12 hj12 => ?_)
  · exact a_fr_refl
  · refine a_fif ?_ ?_
    · exact hj12 () a_fr_refl
    · refine a_fif ?_ ?_
      · exact hj12 () a_fr_refl
      · refine a_fbdg (a_fr_calf (fr_43 (a_i2c a1) H) (fun a b h => W0 a b ((fun h => Or.elim h (fun e => (Or.inl e)) (fun e => (Or.inr e))) h)) a_fr_refl) (fun g1 hg1 => ?_)
        refine a_fjn (fun (s : Int) => a_fr W H H) (fun s2 hs_s2 => ?_) (fun j38 hj38 => ?_)
        · exact hg1
        · refine a_fif ?_ ?_
          · exact hj38 (-3) a_fr_refl
          · exact hj38 (g1.2 119 1) a_fr_refl
def w_10 (p : Int) (a1 : Int) (a b : Int) : Prop := a = p ∨ a = (p + 1) ∨ a = (p + 2) ∨ a = (p + 3) ∨ a = (p + 4) ∨ a = (p + 5)
theorem fr_10 (p : Int) (a1 : Int) (H : a_P) : a_fr (w_10 p a1) H (fn_10 p a1 H) := by
  generalize hW : w_10 p a1 = W
  have W0 : ∀ a b, w_10 p a1 a b → W a b := fun a b h => by rw [← hW]; exact h
  unfold fn_10
  refine a_fbdh (a_fr_up (W0 _ _ (Or.inl rfl)) a_fr_refl) (fun H1 hH1 => ?_)
  refine a_fbdh (a_fr_up (W0 _ _ (Or.inl rfl)) hH1) (fun H2 hH2 => ?_)
  refine a_fbdh (a_fr_up (W0 _ _ (Or.inl rfl)) hH2) (fun H3 hH3 => ?_)
  refine a_fbdh (a_fr_up (W0 _ _ (Or.inl rfl)) hH3) (fun H4 hH4 => ?_)
  refine a_fbdh (a_fr_up (W0 _ _ (Or.inl rfl)) hH4) (fun H5 hH5 => ?_)
  refine a_fbdh (a_fr_up (W0 _ _ (Or.inl rfl)) hH5) (fun H6 hH6 => ?_)
  refine a_fbdh (a_fr_up (W0 _ _ (Or.inl rfl)) hH6) (fun H7 hH7 => ?_)
  refine a_fbdh (a_fr_cp (fun _ => (W0 _ _ (Or.inr (Or.inl rfl)))) hH7) (fun H8 hH8 => ?_)
  refine a_fbdh (a_fr_cp (fun _ => (W0 _ _ (Or.inr (Or.inr (Or.inl rfl))))) hH8) (fun H9 hH9 => ?_)
  refine a_fbdh (a_fr_cp (fun _ => (W0 _ _ (Or.inr (Or.inr (Or.inr (Or.inl rfl)))))) hH9) (fun H10 hH10 => ?_)
  refine a_fbdh (a_fr_cp (fun _ => (W0 _ _ (Or.inr (Or.inr (Or.inr (Or.inr (Or.inl rfl))))))) hH10) (fun H11 hH11 => ?_)
  refine a_fbdh (a_fr_cp (fun _ => (W0 _ _ (Or.inr (Or.inr (Or.inr (Or.inr (Or.inr rfl))))))) hH11) (fun H12 hH12 => ?_)
  exact hH12
def w_47 (a1 : Int) (a b : Int) : Prop := a = 119
theorem fr_47 (a1 : Int) (H : a_P) : a_fr (w_47 a1) H (fn_47 a1 H) := by
  generalize hW : w_47 a1 = W
  have W0 : ∀ a b, w_47 a1 a b → W a b := fun a b h => by rw [← hW]; exact h
  unfold fn_47
  refine a_fjn (fun (s : a_P) => a_fr W H s) (fun s1 hs_s1 => ?_) (fun j15 hj15 => ?_)
  · exact hs_s1
  · refine a_fif ?_ ?_
    · refine a_fbdh (a_fr_up (W0 _ _ rfl) a_fr_refl) (fun H1 hH1 => ?_)
      exact hj15 H1 hH1
    · exact hj15 H a_fr_refl
def w_48 (a b : Int) : Prop := a = 119
theorem fr_48 (H : a_P) : a_fr2 (w_48) H (fn_48 H) := by
  generalize hW : w_48 = W
  have W0 : ∀ a b, w_48 a b → W a b := fun a b h => by rw [← hW]; exact h
  unfold fn_48
  refine a_fjn (fun (s : a_P) => a_fr W H s) (fun s1 hs_s1 => ?_) (fun j37 hj37 => ?_)
  · exact hs_s1
  · refine a_flp (fun (s : a_P) => a_fr W H s) ?_ ?_ a_fuel H ?_
    · exact fun _ h => h
    · intro n0 hn0 s2 hs_s2
      refine a_fif ?_ ?_
      · refine a_fif ?_ ?_
        · refine a_fbdh (a_fr_up (W0 _ _ rfl) hs_s2) (fun H1 hH1 => ?_)
          exact hn0 H1 hH1
        · exact hj37 s2 hs_s2
      · exact hj37 s2 hs_s2
    · exact a_fr_refl
def w_51 (a1 : Int) (a b : Int) : Prop := a = 119
theorem fr_51 (a1 : Int) (H : a_P) : a_fr2 (w_51 a1) H (fn_51 a1 H) := by
  generalize hW : w_51 a1 = W
  have W0 : ∀ a b, w_51 a1 a b → W a b := fun a b h => by rw [← hW]; exact h
  unfold fn_51
  refine a_fif ?_ ?_
  · refine a_fbdg (a_fr_calf (fr_48 H) (fun a b h => W0 a b ((fun e => e) h)) a_fr_refl) (fun g1 hg1 => ?_)
    refine a_fbdi (fun x1 => ?_)
    refine a_fif ?_ ?_
    · refine a_fbdh (a_fr_call (fr_47 (g1.2 119 2) g1.2) (fun a b h => W0 a b ((fun e => e) h)) hg1) (fun H2 hH2 => ?_)
      exact hH2
    · refine a_fbdh (a_fr_up (W0 _ _ rfl) hg1) (fun H1 hH1 => ?_)
      exact hH1
  · exact a_fr_refl
def w_52 (a1 : Int) (a b : Int) : Prop := a = 119
theorem fr_52 (a1 : Int) (H : a_P) : a_fr2 (w_52 a1) H (fn_52 a1 H) := by
  generalize hW : w_52 a1 = W
  have W0 : ∀ a b, w_52 a1 a b → W a b := fun a b h => by rw [← hW]; exact h
  unfold fn_52
  refine a_fif ?_ ?_
  · refine a_fbdg (a_fr_calf (fr_48 H) (fun a b h => W0 a b ((fun e => e) h)) a_fr_refl) (fun g1 hg1 => ?_)
    refine a_fif ?_ ?_
    · refine a_fbdh (a_fr_call (fr_47 (g1.2 119 2) g1.2) (fun a b h => W0 a b ((fun e => e) h)) hg1) (fun H4 hH4 => ?_)
      exact hH4
    · refine a_fbdi (fun x1 => ?_)
      refine a_fbdi (fun x2 => ?_)
      refine a_fbdh (a_fr_up (W0 _ _ rfl) hg1) (fun H1 hH1 => ?_)
      refine a_fjn (fun (s : Int × a_P) => a_fr W H s.2) (fun s1 hs_s1 => ?_) (fun j97 hj97 => ?_)
      · refine a_fjn (fun (s : a_P) => a_fr W H s) (fun s2 hs_s2 => ?_) (fun j107 hj107 => ?_)
        · exact hs_s2
        · refine a_fif ?_ ?_
          · refine a_fbdh (a_fr_call (fr_47 x1 s1.2) (fun a b h => W0 a b ((fun e => e) h)) hs_s1) (fun H2 hH2 => ?_)
            exact hj107 H2 hH2
          · exact hj107 s1.2 hs_s1
      · refine a_fif ?_ ?_
        · exact hj97 (x2, H1) hH1
        · refine a_fbdi (fun x3 => ?_)
          refine a_fbdh (a_fr_up (W0 _ _ rfl) hH1) (fun H3 hH3 => ?_)
          exact hj97 (x3, H3) hH3
  · exact a_fr_refl
def w_46 (a1 : Int) (a b : Int) : Prop := a = 119 ∨ a = (a1 + 1) ∨ a = (a1 + 2) ∨ a = (a1 + 3) ∨ a = (a1 + 4) ∨ a = (a1 + 5) ∨ a = a1
theorem fr_46 (a1 : Int) (H : a_P) : a_fr (w_46 a1) H (fn_46 a1 H) := by
  generalize hW : w_46 a1 = W
  have W0 : ∀ a b, w_46 a1 a b → W a b := fun a b h => by rw [← hW]; exact h
  unfold fn_46
  refine a_fbdg (a_fr_calf (fr_51 74 H) (fun a b h => W0 a b ((fun e => (Or.inl e)) h)) a_fr_refl) (fun g1 hg1 => ?_)
  refine a_fbdg (a_fr_calf (fr_52 35 g1.2) (fun a b h => W0 a b ((fun e => (Or.inl e)) h)) hg1) (fun g2 hg2 => ?_)
  refine a_fbdg (a_fr_calf (fr_51 76 g2.2) (fun a b h => W0 a b ((fun e => (Or.inl e)) h)) hg2) (fun g3 hg3 => ?_)
  refine a_fbdg (a_fr_calf (fr_52 20 g3.2) (fun a b h => W0 a b ((fun e => (Or.inl e)) h)) hg3) (fun g4 hg4 => ?_)
  refine a_fif ?_ ?_
  · refine a_fbdg (a_fr_calf (fr_11 a1 g1.1 g2.1 g3.1 g4.1 g4.2) (fun a b h => W0 a b ((fun h => Or.elim h (fun e => (Or.inr (Or.inl e))) (fun h => Or.elim h (fun e => (Or.inr (Or.inr (Or.inl e)))) (fun h => Or.elim h (fun e => (Or.inr (Or.inr (Or.inr (Or.inl e))))) (fun h => Or.elim h (fun e => (Or.inr (Or.inr (Or.inr (Or.inr (Or.inl e)))))) (fun h => Or.elim h (fun e => (Or.inr (Or.inr (Or.inr (Or.inr (Or.inr (Or.inl e))))))) (fun e => (Or.inr (Or.inr (Or.inr (Or.inr (Or.inr (Or.inr e)))))))))))) h)) hg4) (fun g5 hg5 => ?_)
    refine a_fbdg (a_fr_calf (fr_48 g5.2) (fun a b h => W0 a b ((fun e => (Or.inl e)) h)) hg5) (fun g6 hg6 => ?_)
    refine a_fif ?_ ?_
    · refine a_fjn (fun (s : Unit) => a_fr W H H) (fun s1 hs_s1 => ?_) (fun j81 hj81 => ?_)
      · refine a_fbdh (a_fr_call (fr_47 (g6.2 119 2) g6.2) (fun a b h => W0 a b ((fun e => (Or.inl e)) h)) hg6) (fun H1 hH1 => ?_)
        exact hH1
      · refine a_fif ?_ ?_
        · refine a_fif ?_ ?_
          · exact hj81 () a_fr_refl
          · refine a_fif ?_ ?_
            · refine a_fbdh (a_fr_up (W0 _ _ (Or.inl rfl)) hg6) (fun H2 hH2 => ?_)
              refine a_fbdh (a_fr_up (W0 _ _ (Or.inr (Or.inr (Or.inr (Or.inr (Or.inr (Or.inr rfl))))))) hH2) (fun H3 hH3 => ?_)
              exact hH3
            · exact hj81 () a_fr_refl
        · exact hj81 () a_fr_refl
    · exact hg6
  · exact hg4
def w_50 (a1 : Int) (a b : Int) : Prop := a = 119
theorem fr_50 (a1 : Int) (H : a_P) : a_fr2 (w_50 a1) H (fn_50 a1 H) := by
  generalize hW : w_50 a1 = W
  have W0 : ∀ a b, w_50 a1 a b → W a b := fun a b h => by rw [← hW]; exact h
  unfold fn_50
  refine a_fjn (fun (s : a_P) => a_fr W H s) (fun s1 hs_s1 => ?_) (fun j15 hj15 => ?_)
  · exact hs_s1
  · refine a_fif ?_ ?_
    · refine a_fbdg (a_fr_calf (fr_48 H) (fun a b h => W0 a b ((fun e => e) h)) a_fr_refl) (fun g1 hg1 => ?_)
      refine a_fif ?_ ?_
      · refine a_fbdh (a_fr_up (W0 _ _ rfl) hg1) (fun H1 hH1 => ?_)
        exact hH1
      · exact hj15 g1.2 hg1
    · exact hj15 H a_fr_refl
def w_45 (a1 : Int) (a b : Int) : Prop := a = 119 ∨ a = (a1 + 1) ∨ a = (a1 + 2) ∨ a = (a1 + 3) ∨ a = (a1 + 4) ∨ a = (a1 + 5) ∨ a = a1
theorem fr_45 (a1 : Int) (H : a_P) : a_fr (w_45 a1) H (fn_45 a1 H) := by
  generalize hW : w_45 a1 = W
  have W0 : ∀ a b, w_45 a1 a b → W a b := fun a b h => by rw [← hW]; exact h
  unfold fn_45
  refine a_fjn (fun (s : a_P) => a_fr W H s) (fun s1 hs_s1 => ?_) (fun j35 hj35 => ?_)
  · exact hs_s1
  · refine a_flp (fun (s : Int × a_P) => a_fr W H s.2) ?_ ?_ a_fuel (0, H) ?_
    · exact fun _ h => h
    · intro n2 hn2 s2 hs_s2
      refine a_fif ?_ ?_
      · refine a_fbdh (a_fr_call (fr_46 a1 s2.2) (fun a b h => W0 a b ((fun h => Or.elim h (fun e => (Or.inl e)) (fun h => Or.elim h (fun e => (Or.inr (Or.inl e))) (fun h => Or.elim h (fun e => (Or.inr (Or.inr (Or.inl e)))) (fun h => Or.elim h (fun e => (Or.inr (Or.inr (Or.inr (Or.inl e))))) (fun h => Or.elim h (fun e => (Or.inr (Or.inr (Or.inr (Or.inr (Or.inl e)))))) (fun h => Or.elim h (fun e => (Or.inr (Or.inr (Or.inr (Or.inr (Or.inr (Or.inl e))))))) (fun e => (Or.inr (Or.inr (Or.inr (Or.inr (Or.inr (Or.inr e))))))))))))) h)) hs_s2) (fun H1 hH1 => ?_)
        refine a_fif ?_ ?_
        · refine a_fif ?_ ?_
          · exact hj35 H1 hH1
          · refine a_fbdg (a_fr_calf (fr_50 44 H1) (fun a b h => W0 a b ((fun e => (Or.inl e)) h)) hH1) (fun g1 hg1 => ?_)
            refine a_fif ?_ ?_
            · exact hj35 g1.2 hg1
            · refine a_fbdi (fun x1 => ?_)
              exact hn2 (x1, g1.2) hg1
        · exact hj35 H1 hH1
      · exact hs_s2
    · exact a_fr_refl
def w_44 (a1 : Int) (a b : Int) : Prop := a = 119 ∨ a = a1 ∨ a = (a1 + 1) ∨ a = (a1 + 2) ∨ a = (a1 + 3) ∨ a = (a1 + 4) ∨ a = (a1 + 5)
theorem fr_44 (a1 : Int) (H : a_P) : a_fr2 (w_44 a1) H (fn_44 a1 H) := by
  generalize hW : w_44 a1 = W
  have W0 : ∀ a b, w_44 a1 a b → W a b := fun a b h => by rw [← hW]; exact h
  unfold fn_44
  refine a_fbdh (a_fr_up (W0 _ _ (Or.inl rfl)) a_fr_refl) (fun H1 hH1 => ?_)
  refine a_fbdh (a_fr_up (W0 _ _ (Or.inl rfl)) hH1) (fun H2 hH2 => ?_)
  refine a_fbdh (a_fr_up (W0 _ _ (Or.inr (Or.inl rfl))) hH2) (fun H3 hH3 => ?_)
  refine a_fbdh (a_fr_up (W0 _ _ (Or.inr (Or.inl rfl))) hH3) (fun H4 hH4 => ?_)
  refine a_fbdh (a_fr_up (W0 _ _ (Or.inr (Or.inl rfl))) hH4) (fun H5 hH5 => ?_)
  refine a_fbdg (a_fr_calf (fr_52 35 H5) (fun a b h => W0 a b ((fun e => (Or.inl e)) h)) hH5) (fun g1 hg1 => ?_)
  refine a_fbdh (a_fr_up (W0 _ _ (Or.inr (Or.inl rfl))) hg1) (fun H6 hH6 => ?_)
  refine a_fbdg (a_fr_calf (fr_51 43 H6) (fun a b h => W0 a b ((fun e => (Or.inl e)) h)) hH6) (fun g2 hg2 => ?_)
  refine a_fbdh (a_fr_up (W0 _ _ (Or.inr (Or.inl rfl))) hg2) (fun H7 hH7 => ?_)
  refine a_fbdg (a_fr_calf (fr_50 47 H7) (fun a b h => W0 a b ((fun e => (Or.inl e)) h)) hH7) (fun g3 hg3 => ?_)
  refine a_fjn (fun (s : Int × a_P) => a_fr W H s.2) (fun s1 hs_s1 => ?_) (fun j66 hj66 => ?_)
  · refine a_fbdh (a_fr_up (W0 _ _ (Or.inr (Or.inl rfl))) hs_s1) (fun H8 hH8 => ?_)
    refine a_fbdg (a_fr_calf (fr_50 59 H8) (fun a b h => W0 a b ((fun e => (Or.inl e)) h)) hH8) (fun g4 hg4 => ?_)
    refine a_fjn (fun (s : a_P) => a_fr W H s) (fun s2 hs_s2 => ?_) (fun j83 hj83 => ?_)
    · refine a_fbdg (a_fr_calf (fr_48 s2) (fun a b h => W0 a b ((fun e => (Or.inl e)) h)) hs_s2) (fun g5 hg5 => ?_)
      refine a_fjn (fun (s : a_P) => a_fr W H s) (fun s3 hs_s3 => ?_) (fun j98 hj98 => ?_)
      · exact hs_s3
      · refine a_fif ?_ ?_
        · exact hj98 g5.2 hg5
        · refine a_fbdh (a_fr_call (fr_47 (g5.2 119 2) g5.2) (fun a b h => W0 a b ((fun e => (Or.inl e)) h)) hg5) (fun H9 hH9 => ?_)
          exact hj98 H9 hH9
    · refine a_fif ?_ ?_
      · exact hj83 g4.2 hg4
      · refine a_fbdh (a_fr_call (fr_45 a1 g4.2) (fun a b h => W0 a b ((fun h => Or.elim h (fun e => (Or.inl e)) (fun h => Or.elim h (fun e => (Or.inr (Or.inr (Or.inl e)))) (fun h => Or.elim h (fun e => (Or.inr (Or.inr (Or.inr (Or.inl e))))) (fun h => Or.elim h (fun e => (Or.inr (Or.inr (Or.inr (Or.inr (Or.inl e)))))) (fun h => Or.elim h (fun e => (Or.inr (Or.inr (Or.inr (Or.inr (Or.inr (Or.inl e))))))) (fun h => Or.elim h (fun e => (Or.inr (Or.inr (Or.inr (Or.inr (Or.inr (Or.inr e))))))) (fun e => (Or.inr (Or.inl e))))))))) h)) hg4) (fun H10 hH10 => ?_)
        exact hj83 H10 hH10
  · refine a_fif ?_ ?_
    · exact hj66 (0, g3.2) hg3
    · refine a_fbdg (a_fr_calf (fr_52 63 g3.2) (fun a b h => W0 a b ((fun e => (Or.inl e)) h)) hg3) (fun g6 hg6 => ?_)
      exact hj66 (g6.1, g6.2) hg6
def w_59 (a b : Int) : Prop := a = 119 ∨ a = 7 ∨ a = 8 ∨ a = 9 ∨ a = 10 ∨ a = 11 ∨ a = 12 ∨ a = 1 ∨ a = 2 ∨ a = 3 ∨ a = 4 ∨ a = 5 ∨ a = 6 ∨ a = 13
theorem fr_59 (H : a_P) : a_fr2 (w_59) H (fn_59 H) := by
  generalize hW : w_59 = W
  have W0 : ∀ a b, w_59 a b → W a b := fun a b h => by rw [← hW]; exact h
  unfold fn_59
  refine a_fbdg (a_fr_calf (fr_44 7 H) (fun a b h => W0 a b ((fun h => Or.elim h (fun e => (Or.inl e)) (fun h => Or.elim h (fun e => (Or.inr (Or.inl e))) (fun h => Or.elim h (fun e => (Or.inr (Or.inr (Or.inl e)))) (fun h => Or.elim h (fun e => (Or.inr (Or.inr (Or.inr (Or.inl e))))) (fun h => Or.elim h (fun e => (Or.inr (Or.inr (Or.inr (Or.inr (Or.inl e)))))) (fun h => Or.elim h (fun e => (Or.inr (Or.inr (Or.inr (Or.inr (Or.inr (Or.inl e))))))) (fun e => (Or.inr (Or.inr (Or.inr (Or.inr (Or.inr (Or.inr (Or.inl e)))))))))))))) h)) a_fr_refl) (fun g1 hg1 => ?_)
  refine a_fbdh (a_fr_up (W0 _ _ (Or.inl rfl)) hg1) (fun H1 hH1 => ?_)
  refine a_fif ?_ ?_
  · refine a_fbdh (a_fr_up (W0 _ _ (Or.inr (Or.inl rfl))) hH1) (fun H2 hH2 => ?_)
    refine a_fbdh (a_fr_call (fr_10 1 7 H2) (fun a b h => W0 a b ((fun h => Or.elim h (fun e => (Or.inr (Or.inr (Or.inr (Or.inr (Or.inr (Or.inr (Or.inr (Or.inl e))))))))) (fun h => Or.elim h (fun e => (Or.inr (Or.inr (Or.inr (Or.inr (Or.inr (Or.inr (Or.inr (Or.inr (Or.inl e)))))))))) (fun h => Or.elim h (fun e => (Or.inr (Or.inr (Or.inr (Or.inr (Or.inr (Or.inr (Or.inr (Or.inr (Or.inr (Or.inl e))))))))))) (fun h => Or.elim h (fun e => (Or.inr (Or.inr (Or.inr (Or.inr (Or.inr (Or.inr (Or.inr (Or.inr (Or.inr (Or.inr (Or.inl e)))))))))))) (fun h => Or.elim h (fun e => (Or.inr (Or.inr (Or.inr (Or.inr (Or.inr (Or.inr (Or.inr (Or.inr (Or.inr (Or.inr (Or.inr (Or.inl e))))))))))))) (fun e => (Or.inr (Or.inr (Or.inr (Or.inr (Or.inr (Or.inr (Or.inr (Or.inr (Or.inr (Or.inr (Or.inr (Or.inr (Or.inl e))))))))))))))))))) h)) hH2) (fun H3 hH3 => ?_)
    refine a_fbdh (a_fr_call (fr_3 13 H3) (fun a b h => W0 a b ((fun e => (Or.inr (Or.inr (Or.inr (Or.inr (Or.inr (Or.inr (Or.inr (Or.inr (Or.inr (Or.inr (Or.inr (Or.inr (Or.inr e)))))))))))))) h)) hH3) (fun H4 hH4 => ?_)
    exact hH4
  · exact hH1
def w_28 (p : Int) (a b : Int) : Prop := a = (p + 2) ∨ a = (p + 3)
theorem fr_28 (p : Int) (H : a_P) : a_fr (w_28 p) H (fn_28 p H) := by
  generalize hW : w_28 p = W
  have W0 : ∀ a b, w_28 p a b → W a b := fun a b h => by rw [← hW]; exact h
  unfold fn_28
  refine a_flp (fun (s : Int × a_P) => a_fr W H s.2) ?_ ?_ a_fuel (0, H) ?_
  · exact fun _ h => h
  · intro n2 hn2 s1 hs_s1
    refine a_fif ?_ ?_
    · refine a_fjn (fun (s : a_P) => a_fr W H s) (fun s2 hs_s2 => ?_) (fun j78 hj78 => ?_)
      · refine a_fbdi (fun x1 => ?_)
        exact hn2 (x1, s2) hs_s2
      · refine a_fif ?_ ?_
        · exact hj78 s1.2 hs_s1
        · refine a_fif ?_ ?_
          · exact hj78 s1.2 hs_s1
          · refine a_fbdi (fun x2 => ?_)
            refine a_fif ?_ ?_
            · refine a_fbdh (a_fr_up (W0 _ _ (Or.inr rfl)) hs_s1) (fun H2 hH2 => ?_)
              exact hj78 H2 hH2
            · refine a_fbdh (a_fr_up (W0 _ _ (Or.inl rfl)) hs_s1) (fun H1 hH1 => ?_)
              exact hj78 H1 hH1
    · exact hs_s1
  · exact a_fr_refl
def w_29 (p : Int) (a b : Int) : Prop := a = (p + 5)
theorem fr_29 (p : Int) (H : a_P) : a_fr (w_29 p) H (fn_29 p H) := by
  generalize hW : w_29 p = W
  have W0 : ∀ a b, w_29 p a b → W a b := fun a b h => by rw [← hW]; exact h
  unfold fn_29
  refine a_flp (fun (s : Int × a_P) => a_fr W H s.2) ?_ ?_ a_fuel (0, H) ?_
  · exact fun _ h => h
  · intro n2 hn2 s1 hs_s1
    refine a_fif ?_ ?_
    · refine a_fjn (fun (s : a_P) => a_fr W H s) (fun s2 hs_s2 => ?_) (fun j46 hj46 => ?_)
      · refine a_fbdi (fun x1 => ?_)
        exact hn2 (x1, s2) hs_s2
      · refine a_fjn (fun (s : Unit) => a_fr W H H) (fun s3 hs_s3 => ?_) (fun j25 hj25 => ?_)
        · refine a_fbdh (a_fr_up (W0 _ _ rfl) hs_s1) (fun H1 hH1 => ?_)
          exact hj46 H1 hH1
        · refine a_fif ?_ ?_
          · exact hj25 () a_fr_refl
          · refine a_fif ?_ ?_
            · exact hj25 () a_fr_refl
            · exact hj46 s1.2 hs_s1
    · exact hs_s1
  · exact a_fr_refl
def w_30 (p : Int) (a b : Int) : Prop := a = (p + 4) ∨ a = p
theorem fr_30 (p : Int) (H : a_P) : a_fr (w_30 p) H (fn_30 p H) := by
  generalize hW : w_30 p = W
  have W0 : ∀ a b, w_30 p a b → W a b := fun a b h => by rw [← hW]; exact h
  unfold fn_30
  refine a_fbdi (fun x1 => ?_)
  refine a_fjn (fun (s : a_P) => a_fr W H s) (fun s1 hs_s1 => ?_) (fun j45 hj45 => ?_)
  · refine a_fif ?_ ?_
    · exact hs_s1
    · refine a_fbdh (a_fr_up (W0 _ _ (Or.inl rfl)) hs_s1) (fun H1 hH1 => ?_)
      refine a_fjn (fun (s : a_P) => a_fr W H s) (fun s2 hs_s2 => ?_) (fun j79 hj79 => ?_)
      · exact hs_s2
      · refine a_fif ?_ ?_
        · exact hj79 H1 hH1
        · refine a_fbdh (a_fr_up (W0 _ _ (Or.inr rfl)) hH1) (fun H2 hH2 => ?_)
          exact hj79 H2 hH2
  · refine a_flp (fun (s : Int × a_P) => a_fr W H s.2) ?_ ?_ a_fuel (0, H) ?_
    · exact fun _ h => h
    · intro n7 hn7 s3 hs_s3
      refine a_fif ?_ ?_
      · refine a_fjn (fun (s : a_P) => a_fr W H s) (fun s4 hs_s4 => ?_) (fun j39 hj39 => ?_)
        · refine a_fbdi (fun x2 => ?_)
          exact hn7 (x2, s4) hs_s4
        · refine a_fif ?_ ?_
          · exact hj39 s3.2 hs_s3
          · refine a_fbdh (a_fr_up (W0 _ _ (Or.inl rfl)) hs_s3) (fun H3 hH3 => ?_)
            exact hj39 H3 hH3
      · exact hj45 s3.2 hs_s3
    · exact a_fr_refl
def w_27 (p : Int) (a b : Int) : Prop := a = (p + 2) ∨ a = (p + 3) ∨ a = (p + 4) ∨ a = p ∨ a = (p + 5)
theorem fr_27 (p : Int) (H : a_P) : a_fr (w_27 p) H (fn_27 p H) := by
  generalize hW : w_27 p = W
  have W0 : ∀ a b, w_27 p a b → W a b := fun a b h => by rw [← hW]; exact h
  unfold fn_27
  refine a_fbdh (a_fr_call (fr_28 p H) (fun a b h => W0 a b ((fun h => Or.elim h (fun e => (Or.inl e)) (fun e => (Or.inr (Or.inl e)))) h)) a_fr_refl) (fun H1 hH1 => ?_)
  refine a_fjn (fun (s : a_P) => a_fr W H s) (fun s1 hs_s1 => ?_) (fun j26 hj26 => ?_)
  · refine a_fbdh (a_fr_call (fr_30 p s1) (fun a b h => W0 a b ((fun h => Or.elim h (fun e => (Or.inr (Or.inr (Or.inl e)))) (fun e => (Or.inr (Or.inr (Or.inr (Or.inl e)))))) h)) hs_s1) (fun H2 hH2 => ?_)
    refine a_fbdh (a_fr_up (W0 _ _ (Or.inr (Or.inr (Or.inr (Or.inl rfl))))) hH2) (fun H3 hH3 => ?_)
    exact hH3
  · refine a_fif ?_ ?_
    · refine a_fbdh (a_fr_call (fr_29 p H1) (fun a b h => W0 a b ((fun e => (Or.inr (Or.inr (Or.inr (Or.inr e))))) h)) hH1) (fun H4 hH4 => ?_)
      exact hj26 H4 hH4
    · exact hj26 H1 hH1
def w_33 (p : Int) (a1 : Int) (a b : Int) : Prop := a = p ∨ a = (p + 2) ∨ a = (p + 4)
theorem fr_33 (p : Int) (a1 : Int) (H : a_P) : a_fr (w_33 p a1) H (fn_33 p a1 H) := by
  generalize hW : w_33 p a1 = W
  have W0 : ∀ a b, w_33 p a1 a b → W a b := fun a b h => by rw [← hW]; exact h
  unfold fn_33
  refine a_fif ?_ ?_
  · exact a_fr_refl
  · refine a_fbdh (a_fr_up (W0 _ _ (Or.inl rfl)) a_fr_refl) (fun H1 hH1 => ?_)
    refine a_fbdh (a_fr_up (W0 _ _ (Or.inr (Or.inl rfl))) hH1) (fun H2 hH2 => ?_)
    refine a_fbdh (a_fr_up (W0 _ _ (Or.inr (Or.inr rfl))) hH2) (fun H3 hH3 => ?_)
    exact hH3
def w_31 (p : Int) (a b : Int) : Prop := a = p ∨ a = (p + 3)
theorem fr_31 (p : Int) (H : a_P) : a_fr (w_31 p) H (fn_31 p H) := by
  generalize hW : w_31 p = W
  have W0 : ∀ a b, w_31 p a b → W a b := fun a b h => by rw [← hW]; exact h
  unfold fn_31
  refine a_fbdh (a_fr_up (W0 _ _ (Or.inl rfl)) a_fr_refl) (fun H1 hH1 => ?_)
  refine a_fif ?_ ?_
  · refine a_fbdi (fun x1 => ?_)
    refine a_fjn (fun (s : a_P) => a_fr W H s) (fun s1 hs_s1 => ?_) (fun j63 hj63 => ?_)
    · exact hs_s1
    · refine a_fif ?_ ?_
      · exact hj63 H1 hH1
      · refine a_fbdh (a_fr_up (W0 _ _ (Or.inr rfl)) hH1) (fun H2 hH2 => ?_)
        exact hj63 H2 hH2
  · exact hH1
def w_2 (p : Int) (a1 : Int) (a b : Int) : Prop := a = p ∨ a = a1 ∨ a = (a1 + 1) ∨ a = (a1 + 2) ∨ a = (a1 + 3) ∨ a = (a1 + 4) ∨ a = (a1 + 5)
theorem fr_2 (p : Int) (a1 : Int) (H : a_P) : a_fr2 (w_2 p a1) H (fn_2 p a1 H) := by
  generalize hW : w_2 p a1 = W
  have W0 : ∀ a b, w_2 p a1 a b → W a b := fun a b h => by rw [← hW]; exact h
  unfold fn_2
  refine a_fif ?_ ?_
  · refine a_fbdh (a_fr_up (W0 _ _ (Or.inl rfl)) a_fr_refl) (fun H1 hH1 => ?_)
    refine a_fbdh (a_fr_call (fr_10 a1 ((p + 1) + (1 + 6 * (a_rem (a_w ((H1 p 1) + (H1 p 2))) 8))) H1) (fun a b h => W0 a b ((fun h => Or.elim h (fun e => (Or.inr (Or.inl e))) (fun h => Or.elim h (fun e => (Or.inr (Or.inr (Or.inl e)))) (fun h => Or.elim h (fun e => (Or.inr (Or.inr (Or.inr (Or.inl e))))) (fun h => Or.elim h (fun e => (Or.inr (Or.inr (Or.inr (Or.inr (Or.inl e)))))) (fun h => Or.elim h (fun e => (Or.inr (Or.inr (Or.inr (Or.inr (Or.inr (Or.inl e))))))) (fun e => (Or.inr (Or.inr (Or.inr (Or.inr (Or.inr (Or.inr e)))))))))))) h)) hH1) (fun H2 hH2 => ?_)
    exact hH2
  · exact a_fr_refl
def w_69 (a b : Int) : Prop := a = 13 ∨ a = 1 ∨ a = 2 ∨ a = 3 ∨ a = 4 ∨ a = 5 ∨ a = 6
theorem fr_69 (H : a_P) : a_fr2 (w_69) H (fn_69 H) := by
  generalize hW : w_69 = W
  have W0 : ∀ a b, w_69 a b → W a b := fun a b h => by rw [← hW]; exact h
  unfold fn_69
  refine a_fbdg (a_fr_calf (fr_2 13 1 H) (fun a b h => W0 a b ((fun h => Or.elim h (fun e => (Or.inl e)) (fun h => Or.elim h (fun e => (Or.inr (Or.inl e))) (fun h => Or.elim h (fun e => (Or.inr (Or.inr (Or.inl e)))) (fun h => Or.elim h (fun e => (Or.inr (Or.inr (Or.inr (Or.inl e))))) (fun h => Or.elim h (fun e => (Or.inr (Or.inr (Or.inr (Or.inr (Or.inl e)))))) (fun h => Or.elim h (fun e => (Or.inr (Or.inr (Or.inr (Or.inr (Or.inr (Or.inl e))))))) (fun e => (Or.inr (Or.inr (Or.inr (Or.inr (Or.inr (Or.inr e))))))))))))) h)) a_fr_refl) (fun g1 hg1 => ?_)
  refine a_fjn (fun (s : Int) => a_fr W H H) (fun s1 hs_s1 => ?_) (fun j26 hj26 => ?_)
  · exact hg1
  · refine a_fif ?_ ?_
    · exact hj26 (-4) a_fr_refl
    · exact hj26 (g1.2 13 2) a_fr_refl
def w_70 (a1 : Int) (a b : Int) : Prop := a = 1
theorem fr_70 (a1 : Int) (H : a_P) : a_fr2 (w_70 a1) H (fn_70 a1 H) := by
  generalize hW : w_70 a1 = W
  have W0 : ∀ a b, w_70 a1 a b → W a b := fun a b h => by rw [← hW]; exact h
  unfold fn_70
  refine a_fif ?_ ?_
  · exact a_fr_refl
  · refine a_fbdi (fun x1 => ?_)
    refine a_fbdh (a_fr_up (W0 _ _ rfl) a_fr_refl) (fun H1 hH1 => ?_)
    exact hH1
def w_26 (p : Int) (a1 : Int) (a b : Int) : Prop := a = (p + 2) ∨ a = (p + 3) ∨ a = (p + 4) ∨ a = p ∨ a = (p + 5)
theorem fr_26 (p : Int) (a1 : Int) (H : a_P) : a_fr (w_26 p a1) H (fn_26 p a1 H) := by
  generalize hW : w_26 p a1 = W
  have W0 : ∀ a b, w_26 p a1 a b → W a b := fun a b h => by rw [← hW]; exact h
  unfold fn_26
  refine a_flp (fun (s : Int × a_P) => a_fr W H s.2) ?_ ?_ a_fuel (0, H) ?_
  · exact fun _ h => h
  · intro n2 hn2 s1 hs_s1
    refine a_fif ?_ ?_
    · refine a_fbdh (a_fr_call (fr_27 p s1.2) (fun a b h => W0 a b ((fun h => Or.elim h (fun e => (Or.inl e)) (fun h => Or.elim h (fun e => (Or.inr (Or.inl e))) (fun h => Or.elim h (fun e => (Or.inr (Or.inr (Or.inl e)))) (fun h => Or.elim h (fun e => (Or.inr (Or.inr (Or.inr (Or.inl e))))) (fun e => (Or.inr (Or.inr (Or.inr (Or.inr e))))))))) h)) hs_s1) (fun H1 hH1 => ?_)
      refine a_fbdi (fun x1 => ?_)
      exact hn2 (x1, H1) hH1
    · exact hs_s1
  · exact a_fr_refl
def w_93 (a1 : Int) (a b : Int) : Prop := a = 7 ∨ a = 8 ∨ a = 9 ∨ a = 10 ∨ a = 11 ∨ a = 12
theorem fr_93 (a1 : Int) (H : a_P) : a_fr (w_93 a1) H (fn_93 a1 H) := by
  generalize hW : w_93 a1 = W
  have W0 : ∀ a b, w_93 a1 a b → W a b := fun a b h => by rw [← hW]; exact h
  unfold fn_93
  refine a_fbdh (a_fr_call (fr_10 7 1 H) (fun a b h => W0 a b ((fun h => Or.elim h (fun e => (Or.inl e)) (fun h => Or.elim h (fun e => (Or.inr (Or.inl e))) (fun h => Or.elim h (fun e => (Or.inr (Or.inr (Or.inl e)))) (fun h => Or.elim h (fun e => (Or.inr (Or.inr (Or.inr (Or.inl e))))) (fun h => Or.elim h (fun e => (Or.inr (Or.inr (Or.inr (Or.inr (Or.inl e)))))) (fun e => (Or.inr (Or.inr (Or.inr (Or.inr (Or.inr e))))))))))) h)) a_fr_refl) (fun H1 hH1 => ?_)
  refine a_fbdh (a_fr_call (fr_26 7 a1 H1) (fun a b h => W0 a b ((fun h => Or.elim h (fun e => (Or.inr (Or.inr (Or.inl e)))) (fun h => Or.elim h (fun e => (Or.inr (Or.inr (Or.inr (Or.inl e))))) (fun h => Or.elim h (fun e => (Or.inr (Or.inr (Or.inr (Or.inr (Or.inl e)))))) (fun h => Or.elim h (fun e => (Or.inl e)) (fun e => (Or.inr (Or.inr (Or.inr (Or.inr (Or.inr e)))))))))) h)) hH1) (fun H2 hH2 => ?_)
  exact hH2
def w_71 (a1 : Int) (a b : Int) : Prop := a = 7 ∨ a = 8 ∨ a = 9 ∨ a = 10 ∨ a = 11 ∨ a = 12
theorem fr_71 (a1 : Int) (H : a_P) : a_fr2 (w_71 a1) H (fn_71 a1 H) := by
  generalize hW : w_71 a1 = W
  have W0 : ∀ a b, w_71 a1 a b → W a b := fun a b h => by rw [← hW]; exact h
  unfold fn_71
  refine a_fif ?_ ?_
  · exact a_fr_refl
  · refine a_fbdh (a_fr_call (fr_93 a1 H) (fun a b h => W0 a b ((fun h => Or.elim h (fun e => (Or.inl e)) (fun h => Or.elim h (fun e => (Or.inr (Or.inl e))) (fun h => Or.elim h (fun e => (Or.inr (Or.inr (Or.inl e)))) (fun h => Or.elim h (fun e => (Or.inr (Or.inr (Or.inr (Or.inl e))))) (fun h => Or.elim h (fun e => (Or.inr (Or.inr (Or.inr (Or.inr (Or.inl e)))))) (fun e => (Or.inr (Or.inr (Or.inr (Or.inr (Or.inr e))))))))))) h)) a_fr_refl) (fun H1 hH1 => ?_)
    exact hH1
def w_72 (a1 : Int) (a2 : Int) (a3 : Int) (a b : Int) : Prop := a = 7 ∨ a = 8 ∨ a = 9 ∨ a = 10 ∨ a = 11 ∨ a = 12
theorem fr_72 (a1 : Int) (a2 : Int) (a3 : Int) (H : a_P) : a_fr2 (w_72 a1 a2 a3) H (fn_72 a1 a2 a3 H) := by
  generalize hW : w_72 a1 a2 a3 = W
  have W0 : ∀ a b, w_72 a1 a2 a3 a b → W a b := fun a b h => by rw [← hW]; exact h
  unfold fn_72
  refine a_fjn (fun (s : Unit) => a_fr W H H) (fun s1 hs_s1 => ?_) (fun j28 hj28 => ?_)
  · exact a_fr_refl
  · refine a_fif ?_ ?_
    · exact hj28 () a_fr_refl
    · refine a_fif ?_ ?_
      · exact hj28 () a_fr_refl
      · refine a_fif ?_ ?_
        · exact hj28 () a_fr_refl
        · refine a_fbdh (a_fr_call (fr_93 a2 H) (fun a b h => W0 a b ((fun h => Or.elim h (fun e => (Or.inl e)) (fun h => Or.elim h (fun e => (Or.inr (Or.inl e))) (fun h => Or.elim h (fun e => (Or.inr (Or.inr (Or.inl e)))) (fun h => Or.elim h (fun e => (Or.inr (Or.inr (Or.inr (Or.inl e))))) (fun h => Or.elim h (fun e => (Or.inr (Or.inr (Or.inr (Or.inr (Or.inl e)))))) (fun e => (Or.inr (Or.inr (Or.inr (Or.inr (Or.inr e))))))))))) h)) a_fr_refl) (fun H1 hH1 => ?_)
          refine a_fif ?_ ?_
          · exact hH1
          · refine a_fif ?_ ?_
            · exact hH1
            · refine a_fjn (fun (s : Int) => a_fr W H H) (fun s2 hs_s2 => ?_) (fun j80 hj80 => ?_)
              · exact hH1
              · refine a_fif ?_ ?_
                · exact hj80 1 a_fr_refl
                · exact hj80 0 a_fr_refl
def w_73 (a b : Int) : Prop := a = 7 ∨ a = 8 ∨ a = 9 ∨ a = 10 ∨ a = 11 ∨ a = 12
theorem fr_73 (H : a_P) : a_fr2 (w_73) H (fn_73 H) := by
  generalize hW : w_73 = W
  have W0 : ∀ a b, w_73 a b → W a b := fun a b h => by rw [← hW]; exact h
  unfold fn_73
  refine a_fbdh (a_fr_call (fr_10 7 1 H) (fun a b h => W0 a b ((fun h => Or.elim h (fun e => (Or.inl e)) (fun h => Or.elim h (fun e => (Or.inr (Or.inl e))) (fun h => Or.elim h (fun e => (Or.inr (Or.inr (Or.inl e)))) (fun h => Or.elim h (fun e => (Or.inr (Or.inr (Or.inr (Or.inl e))))) (fun h => Or.elim h (fun e => (Or.inr (Or.inr (Or.inr (Or.inr (Or.inl e)))))) (fun e => (Or.inr (Or.inr (Or.inr (Or.inr (Or.inr e))))))))))) h)) a_fr_refl) (fun H1 hH1 => ?_)
  refine a_flp (fun (s : Int × a_P) => a_fr W H s.2) ?_ ?_ a_fuel (0, H1) ?_
  · exact fun _ h => h
  · intro n13 hn13 s1 hs_s1
    refine a_fif ?_ ?_
    · exact hs_s1
    · refine a_fif ?_ ?_
      · exact hs_s1
      · refine a_fbdh (a_fr_call (fr_27 7 s1.2) (fun a b h => W0 a b ((fun h => Or.elim h (fun e => (Or.inr (Or.inr (Or.inl e)))) (fun h => Or.elim h (fun e => (Or.inr (Or.inr (Or.inr (Or.inl e))))) (fun h => Or.elim h (fun e => (Or.inr (Or.inr (Or.inr (Or.inr (Or.inl e)))))) (fun h => Or.elim h (fun e => (Or.inl e)) (fun e => (Or.inr (Or.inr (Or.inr (Or.inr (Or.inr e)))))))))) h)) hs_s1) (fun H2 hH2 => ?_)
        refine a_fbdi (fun x1 => ?_)
        exact hn13 (x1, H2) hH2
  · exact hH1
def w_74 (a1 : Int) (a b : Int) : Prop := a = 7 ∨ a = 8 ∨ a = 9 ∨ a = 10 ∨ a = 11 ∨ a = 12
theorem fr_74 (a1 : Int) (H : a_P) : a_fr2 (w_74 a1) H (fn_74 a1 H) := by
  generalize hW : w_74 a1 = W
  have W0 : ∀ a b, w_74 a1 a b → W a b := fun a b h => by rw [← hW]; exact h
  unfold fn_74
  refine a_fif ?_ ?_
  · exact a_fr_refl
  · refine a_fbdh (a_fr_call (fr_93 a1 H) (fun a b h => W0 a b ((fun h => Or.elim h (fun e => (Or.inl e)) (fun h => Or.elim h (fun e => (Or.inr (Or.inl e))) (fun h => Or.elim h (fun e => (Or.inr (Or.inr (Or.inl e)))) (fun h => Or.elim h (fun e => (Or.inr (Or.inr (Or.inr (Or.inl e))))) (fun h => Or.elim h (fun e => (Or.inr (Or.inr (Or.inr (Or.inr (Or.inl e)))))) (fun e => (Or.inr (Or.inr (Or.inr (Or.inr (Or.inr e))))))))))) h)) a_fr_refl) (fun H1 hH1 => ?_)
    exact hH1
def w_94 (a1 : Int) (a2 : Int) (a b : Int) : Prop := a = 7 ∨ a = 8 ∨ a = 9 ∨ a = 10 ∨ a = 11 ∨ a = 12
theorem fr_94 (a1 : Int) (a2 : Int) (H : a_P) : a_fr2 (w_94 a1 a2) H (fn_94 a1 a2 H) := by
  generalize hW : w_94 a1 a2 = W
  have W0 : ∀ a b, w_94 a1 a2 a b → W a b := fun a b h => by rw [← hW]; exact h
  unfold fn_94
  refine a_fbdh (a_fr_call (fr_10 7 1 H) (fun a b h => W0 a b ((fun h => Or.elim h (fun e => (Or.inl e)) (fun h => Or.elim h (fun e => (Or.inr (Or.inl e))) (fun h => Or.elim h (fun e => (Or.inr (Or.inr (Or.inl e)))) (fun h => Or.elim h (fun e => (Or.inr (Or.inr (Or.inr (Or.inl e))))) (fun h => Or.elim h (fun e => (Or.inr (Or.inr (Or.inr (Or.inr (Or.inl e)))))) (fun e => (Or.inr (Or.inr (Or.inr (Or.inr (Or.inr e))))))))))) h)) a_fr_refl) (fun H1 hH1 => ?_)
  refine a_fbdh (a_fr_up (W0 _ _ (Or.inl rfl)) hH1) (fun H2 hH2 => ?_)
  refine a_fbdh (a_fr_call (fr_26 7 a2 H2) (fun a b h => W0 a b ((fun h => Or.elim h (fun e => (Or.inr (Or.inr (Or.inl e)))) (fun h => Or.elim h (fun e => (Or.inr (Or.inr (Or.inr (Or.inl e))))) (fun h => Or.elim h (fun e => (Or.inr (Or.inr (Or.inr (Or.inr (Or.inl e)))))) (fun h => Or.elim h (fun e => (Or.inl e)) (fun e => (Or.inr (Or.inr (Or.inr (Or.inr (Or.inr e)))))))))) h)) hH2) (fun H3 hH3 => ?_)
  exact hH3
def w_75 (a1 : Int) (a2 : Int) (a b : Int) : Prop := a = 7 ∨ a = 8 ∨ a = 9 ∨ a = 10 ∨ a = 11 ∨ a = 12
theorem fr_75 (a1 : Int) (a2 : Int) (H : a_P) : a_fr2 (w_75 a1 a2) H (fn_75 a1 a2 H) := by
  generalize hW : w_75 a1 a2 = W
  have W0 : ∀ a b, w_75 a1 a2 a b → W a b := fun a b h => by rw [← hW]; exact h
  unfold fn_75
  refine a_fjn (fun (s : Unit) => a_fr W H H) (fun s1 hs_s1 => ?_) (fun j19 hj19 => ?_)
  · exact a_fr_refl
  · refine a_fif ?_ ?_
    · exact hj19 () a_fr_refl
    · refine a_fif ?_ ?_
      · exact hj19 () a_fr_refl
      · refine a_fif ?_ ?_
        · exact hj19 () a_fr_refl
        · refine a_fbdg (a_fr_calf (fr_94 0 a1 H) (fun a b h => W0 a b ((fun h => Or.elim h (fun e => (Or.inl e)) (fun h => Or.elim h (fun e => (Or.inr (Or.inl e))) (fun h => Or.elim h (fun e => (Or.inr (Or.inr (Or.inl e)))) (fun h => Or.elim h (fun e => (Or.inr (Or.inr (Or.inr (Or.inl e))))) (fun h => Or.elim h (fun e => (Or.inr (Or.inr (Or.inr (Or.inr (Or.inl e)))))) (fun e => (Or.inr (Or.inr (Or.inr (Or.inr (Or.inr e))))))))))) h)) a_fr_refl) (fun g1 hg1 => ?_)
          refine a_fjn (fun (s : Int × Int × a_P) => a_fr W H s.2.2) (fun s2 hs_s2 => ?_) (fun j69 hj69 => ?_)
          · refine a_fjn (fun (s : Int) => a_fr W H H) (fun s3 hs_s3 => ?_) (fun j79 hj79 => ?_)
            · exact hs_s2
            · refine a_fif ?_ ?_
              · exact hj79 s2.1 a_fr_refl
              · exact hj79 s2.2.1 a_fr_refl
          · refine a_flp (fun (s : Int × Int × Int × a_P) => a_fr W H s.2.2.2) ?_ ?_ a_fuel (0, g1.1, 1, g1.2) ?_
            · exact fun _ h => h
            · intro n34 hn34 s4 hs_s4
              refine a_fif ?_ ?_
              · refine a_fbdg (a_fr_calf (fr_94 s4.2.2.1 a1 s4.2.2.2) (fun a b h => W0 a b ((fun h => Or.elim h (fun e => (Or.inl e)) (fun h => Or.elim h (fun e => (Or.inr (Or.inl e))) (fun h => Or.elim h (fun e => (Or.inr (Or.inr (Or.inl e)))) (fun h => Or.elim h (fun e => (Or.inr (Or.inr (Or.inr (Or.inl e))))) (fun h => Or.elim h (fun e => (Or.inr (Or.inr (Or.inr (Or.inr (Or.inl e)))))) (fun e => (Or.inr (Or.inr (Or.inr (Or.inr (Or.inr e))))))))))) h)) hs_s4) (fun g2 hg2 => ?_)
                refine a_fjn (fun (s : Int × Int) => a_fr W H H) (fun s5 hs_s5 => ?_) (fun j63 hj63 => ?_)
                · refine a_fbdi (fun x1 => ?_)
                  exact hn34 (s5.1, s5.2, x1, g2.2) hg2
                · refine a_fif ?_ ?_
                  · exact hj63 (s4.2.2.1, g2.1) a_fr_refl
                  · exact hj63 (s4.1, s4.2.1) a_fr_refl
              · exact hj69 (s4.1, s4.2.1, s4.2.2.2) hs_s4
            · exact hg1
def w_6 (a b : Int) : Prop := a = 122
theorem fr_6 (H : a_P) : a_fr (w_6) H (fn_6 H) := by
  generalize hW : w_6 = W
  have W0 : ∀ a b, w_6 a b → W a b := fun a b h => by rw [← hW]; exact h
  unfold fn_6
  refine a_fbdh (a_fr_up (W0 _ _ rfl) a_fr_refl) (fun H1 hH1 => ?_)
  exact hH1
def w_7 (a1 : Int) (a2 : Int) (a3 : Int) (a4 : Int) (a b : Int) : Prop := a = 122
theorem fr_7 (a1 : Int) (a2 : Int) (a3 : Int) (a4 : Int) (H : a_P) : a_fr (w_7 a1 a2 a3 a4) H (fn_7 a1 a2 a3 a4 H) := by
  generalize hW : w_7 a1 a2 a3 a4 = W
  have W0 : ∀ a b, w_7 a1 a2 a3 a4 a b → W a b := fun a b h => by rw [← hW]; exact h
  unfold fn_7
  refine a_fjn (fun (s : Unit) => a_fr W H H) (fun s1 hs_s1 => ?_) (fun j17 hj17 => ?_)
  · refine a_fbdh (a_fr_up (W0 _ _ rfl) a_fr_refl) (fun H1 hH1 => ?_)
    refine a_fbdh (a_fr_up (W0 _ _ rfl) hH1) (fun H2 hH2 => ?_)
    refine a_fbdh (a_fr_up (W0 _ _ rfl) hH2) (fun H3 hH3 => ?_)
    refine a_fbdh (a_fr_up (W0 _ _ rfl) hH3) (fun H4 hH4 => ?_)
    refine a_fbdh (a_fr_up (W0 _ _ rfl) hH4) (fun H5 hH5 => ?_)
    exact hH5
  · refine a_fif ?_ ?_
    · refine a_fif ?_ ?_
      · exact a_fr_refl
      · exact hj17 () a_fr_refl
    · exact hj17 () a_fr_refl
def w_95 (a1 : Int) (a b : Int) : Prop := a = 7 ∨ a = 8 ∨ a = 9 ∨ a = 10 ∨ a = 11 ∨ a = 12 ∨ a = 122
theorem fr_95 (a1 : Int) (H : a_P) : a_fr (w_95 a1) H (fn_95 a1 H) := by
  generalize hW : w_95 a1 = W
  have W0 : ∀ a b, w_95 a1 a b → W a b := fun a b h => by rw [← hW]; exact h
  unfold fn_95
  refine a_fbdh (a_fr_call (fr_10 7 1 H) (fun a b h => W0 a b ((fun h => Or.elim h (fun e => (Or.inl e)) (fun h => Or.elim h (fun e => (Or.inr (Or.inl e))) (fun h => Or.elim h (fun e => (Or.inr (Or.inr (Or.inl e)))) (fun h => Or.elim h (fun e => (Or.inr (Or.inr (Or.inr (Or.inl e))))) (fun h => Or.elim h (fun e => (Or.inr (Or.inr (Or.inr (Or.inr (Or.inl e)))))) (fun e => (Or.inr (Or.inr (Or.inr (Or.inr (Or.inr (Or.inl e)))))))))))) h)) a_fr_refl) (fun H1 hH1 => ?_)
  refine a_fbdh (a_fr_call (fr_6 H1) (fun a b h => W0 a b ((fun e => (Or.inr (Or.inr (Or.inr (Or.inr (Or.inr (Or.inr e))))))) h)) hH1) (fun H2 hH2 => ?_)
  refine a_fbdi (fun x1 => ?_)
  refine a_fif ?_ ?_
  · exact hH2
  · refine a_flp (fun (s : Int × a_P) => a_fr W H s.2) ?_ ?_ a_fuel (0, H2) ?_
    · exact fun _ h => h
    · intro n40 hn40 s1 hs_s1
      refine a_fif ?_ ?_
      · refine a_fbdi (fun x2 => ?_)
        refine a_fjn (fun (s : a_P) => a_fr W H s) (fun s2 hs_s2 => ?_) (fun j162 hj162 => ?_)
        · refine a_fbdi (fun x3 => ?_)
          exact hn40 (x3, s2) hs_s2
        · refine a_fif ?_ ?_
          · exact hj162 s1.2 hs_s1
          · refine a_fbdh (a_fr_up (W0 _ _ (Or.inl rfl)) hs_s1) (fun H3 hH3 => ?_)
            refine a_fbdh (a_fr_up (W0 _ _ (Or.inr (Or.inr (Or.inl rfl)))) hH3) (fun H4 hH4 => ?_)
            refine a_flp (fun (s : Int × a_P) => a_fr W H s.2) ?_ ?_ a_fuel (0, H4) ?_
            · exact fun _ h => h
            · intro n99 hn99 s3 hs_s3
              refine a_fif ?_ ?_
              · refine a_fbdh (a_fr_up (W0 _ _ (Or.inl rfl)) hs_s3) (fun H5 hH5 => ?_)
                refine a_fjn (fun (s : Int) => a_fr W H H) (fun s4 hs_s4 => ?_) (fun j146 hj146 => ?_)
                · refine a_fbdh (a_fr_call (fr_7 (a_xor (fn_23 7 H5) a1) (a_w (x2 + (fn_92 s4))) s1.1 s3.1 H5) (fun a b h => W0 a b ((fun e => (Or.inr (Or.inr (Or.inr (Or.inr (Or.inr (Or.inr e))))))) h)) hH5) (fun H6 hH6 => ?_)
                  refine a_fbdi (fun x4 => ?_)
                  exact hn99 (x4, H6) hH6
                · refine a_fif ?_ ?_
                  · exact hj146 0 a_fr_refl
                  · exact hj146 1 a_fr_refl
              · exact hj162 s3.2 hs_s3
            · exact hH4
      · exact hs_s1
    · exact hH2
def w_76 (a1 : Int) (a2 : Int) (a b : Int) : Prop := a = 7 ∨ a = 8 ∨ a = 9 ∨ a = 10 ∨ a = 11 ∨ a = 12 ∨ a = 122
theorem fr_76 (a1 : Int) (a2 : Int) (H : a_P) : a_fr2 (w_76 a1 a2) H (fn_76 a1 a2 H) := by
  generalize hW : w_76 a1 a2 = W
  have W0 : ∀ a b, w_76 a1 a2 a b → W a b := fun a b h => by rw [← hW]; exact h
  unfold fn_76
  refine a_fjn (fun (s : Unit) => a_fr W H H) (fun s1 hs_s1 => ?_) (fun j19 hj19 => ?_)
  · exact a_fr_refl
  · refine a_fif ?_ ?_
    · exact hj19 () a_fr_refl
    · refine a_fif ?_ ?_
      · exact hj19 () a_fr_refl
      · refine a_fif ?_ ?_
        · exact a_fr_refl
        · refine a_fbdh (a_fr_call (fr_95 a1 H) (fun a b h => W0 a b ((fun h => Or.elim h (fun e => (Or.inl e)) (fun h => Or.elim h (fun e => (Or.inr (Or.inl e))) (fun h => Or.elim h (fun e => (Or.inr (Or.inr (Or.inl e)))) (fun h => Or.elim h (fun e => (Or.inr (Or.inr (Or.inr (Or.inl e))))) (fun h => Or.elim h (fun e => (Or.inr (Or.inr (Or.inr (Or.inr (Or.inl e)))))) (fun h => Or.elim h (fun e => (Or.inr (Or.inr (Or.inr (Or.inr (Or.inr (Or.inl e))))))) (fun e => (Or.inr (Or.inr (Or.inr (Or.inr (Or.inr (Or.inr e))))))))))))) h)) a_fr_refl) (fun H1 hH1 => ?_)
          refine a_fif ?_ ?_
          · refine a_fif ?_ ?_
            · exact hH1
            · refine a_fjn (fun (s : Int) => a_fr W H H) (fun s2 hs_s2 => ?_) (fun j86 hj86 => ?_)
              · exact hH1
              · refine a_fif ?_ ?_
                · exact hj86 (H1 122 2) a_fr_refl
                · exact hj86 (H1 122 3) a_fr_refl
          · exact hH1
def w_77 (a1 : Int) (a2 : Int) (a b : Int) : Prop := a = 7 ∨ a = 8 ∨ a = 9 ∨ a = 10 ∨ a = 11 ∨ a = 12 ∨ a = 122
theorem fr_77 (a1 : Int) (a2 : Int) (H : a_P) : a_fr2 (w_77 a1 a2) H (fn_77 a1 a2 H) := by
  generalize hW : w_77 a1 a2 = W
  have W0 : ∀ a b, w_77 a1 a2 a b → W a b := fun a b h => by rw [← hW]; exact h
  unfold fn_77
  refine a_fjn (fun (s : Unit) => a_fr W H H) (fun s1 hs_s1 => ?_) (fun j19 hj19 => ?_)
  · exact a_fr_refl
  · refine a_fif ?_ ?_
    · exact hj19 () a_fr_refl
    · refine a_fif ?_ ?_
      · exact hj19 () a_fr_refl
      · refine a_fif ?_ ?_
        · exact a_fr_refl
        · refine a_fbdh (a_fr_call (fr_95 a1 H) (fun a b h => W0 a b ((fun h => Or.elim h (fun e => (Or.inl e)) (fun h => Or.elim h (fun e => (Or.inr (Or.inl e))) (fun h => Or.elim h (fun e => (Or.inr (Or.inr (Or.inl e)))) (fun h => Or.elim h (fun e => (Or.inr (Or.inr (Or.inr (Or.inl e))))) (fun h => Or.elim h (fun e => (Or.inr (Or.inr (Or.inr (Or.inr (Or.inl e)))))) (fun h => Or.elim h (fun e => (Or.inr (Or.inr (Or.inr (Or.inr (Or.inr (Or.inl e))))))) (fun e => (Or.inr (Or.inr (Or.inr (Or.inr (Or.inr (Or.inr e))))))))))))) h)) a_fr_refl) (fun H1 hH1 => ?_)
          refine a_fif ?_ ?_
          · exact hH1
          · refine a_fjn (fun (s : Int) => a_fr W H H) (fun s2 hs_s2 => ?_) (fun j76 hj76 => ?_)
            · exact hH1
            · refine a_fif ?_ ?_
              · exact hj76 (H1 122 0) a_fr_refl
              · exact hj76 (H1 122 1) a_fr_refl
def w_78 (a1 : Int) (a b : Int) : Prop := a = 7 ∨ a = 8 ∨ a = 9 ∨ a = 10 ∨ a = 11 ∨ a = 12
theorem fr_78 (a1 : Int) (H : a_P) : a_fr2 (w_78 a1) H (fn_78 a1 H) := by
  generalize hW : w_78 a1 = W
  have W0 : ∀ a b, w_78 a1 a b → W a b := fun a b h => by rw [← hW]; exact h
  unfold fn_78
  refine a_fjn (fun (s : Unit) => a_fr W H H) (fun s1 hs_s1 => ?_) (fun j11 hj11 => ?_)
  · exact a_fr_refl
  · refine a_fif ?_ ?_
    · exact hj11 () a_fr_refl
    · refine a_fif ?_ ?_
      · exact hj11 () a_fr_refl
      · refine a_fbdh (a_fr_call (fr_93 a1 H) (fun a b h => W0 a b ((fun h => Or.elim h (fun e => (Or.inl e)) (fun h => Or.elim h (fun e => (Or.inr (Or.inl e))) (fun h => Or.elim h (fun e => (Or.inr (Or.inr (Or.inl e)))) (fun h => Or.elim h (fun e => (Or.inr (Or.inr (Or.inr (Or.inl e))))) (fun h => Or.elim h (fun e => (Or.inr (Or.inr (Or.inr (Or.inr (Or.inl e)))))) (fun e => (Or.inr (Or.inr (Or.inr (Or.inr (Or.inr e))))))))))) h)) a_fr_refl) (fun H1 hH1 => ?_)
        refine a_fbdi (fun x1 => ?_)
        refine a_fbdh (a_fr_call (fr_10 7 1 H1) (fun a b h => W0 a b ((fun h => Or.elim h (fun e => (Or.inl e)) (fun h => Or.elim h (fun e => (Or.inr (Or.inl e))) (fun h => Or.elim h (fun e => (Or.inr (Or.inr (Or.inl e)))) (fun h => Or.elim h (fun e => (Or.inr (Or.inr (Or.inr (Or.inl e))))) (fun h => Or.elim h (fun e => (Or.inr (Or.inr (Or.inr (Or.inr (Or.inl e)))))) (fun e => (Or.inr (Or.inr (Or.inr (Or.inr (Or.inr e))))))))))) h)) hH1) (fun H2 hH2 => ?_)
        refine a_fbdh (a_fr_up (W0 _ _ (Or.inl rfl)) hH2) (fun H3 hH3 => ?_)
        refine a_fbdh (a_fr_call (fr_26 7 a1 H3) (fun a b h => W0 a b ((fun h => Or.elim h (fun e => (Or.inr (Or.inr (Or.inl e)))) (fun h => Or.elim h (fun e => (Or.inr (Or.inr (Or.inr (Or.inl e))))) (fun h => Or.elim h (fun e => (Or.inr (Or.inr (Or.inr (Or.inr (Or.inl e)))))) (fun h => Or.elim h (fun e => (Or.inl e)) (fun e => (Or.inr (Or.inr (Or.inr (Or.inr (Or.inr e)))))))))) h)) hH3) (fun H4 hH4 => ?_)
        exact hH4
def w_96 (a b : Int) : Prop := a = 7 ∨ a = 8 ∨ a = 9 ∨ a = 10 ∨ a = 11 ∨ a = 12 ∨ a = 123
theorem fr_96 (H : a_P) : a_fr (w_96) H (fn_96 H) := by
  generalize hW : w_96 = W
  have W0 : ∀ a b, w_96 a b → W a b := fun a b h => by rw [← hW]; exact h
  unfold fn_96
  refine a_fbdh (a_fr_call (fr_10 7 1 H) (fun a b h => W0 a b ((fun h => Or.elim h (fun e => (Or.inl e)) (fun h => Or.elim h (fun e => (Or.inr (Or.inl e))) (fun h => Or.elim h (fun e => (Or.inr (Or.inr (Or.inl e)))) (fun h => Or.elim h (fun e => (Or.inr (Or.inr (Or.inr (Or.inl e))))) (fun h => Or.elim h (fun e => (Or.inr (Or.inr (Or.inr (Or.inr (Or.inl e)))))) (fun e => (Or.inr (Or.inr (Or.inr (Or.inr (Or.inr (Or.inl e)))))))))))) h)) a_fr_refl) (fun H1 hH1 => ?_)
  refine a_flp (fun (s : Int × a_P) => a_fr W H s.2) ?_ ?_ a_fuel (0, H1) ?_
  · exact fun _ h => h
  · intro n13 hn13 s1 hs_s1
    refine a_fif ?_ ?_
    · refine a_fbdh (a_fr_up (W0 _ _ (Or.inl rfl)) hs_s1) (fun H2 hH2 => ?_)
      refine a_fbdh (a_fr_up (W0 _ _ (Or.inr (Or.inr (Or.inr (Or.inr (Or.inr (Or.inr rfl))))))) hH2) (fun H3 hH3 => ?_)
      refine a_fbdi (fun x1 => ?_)
      exact hn13 (x1, H3) hH3
    · exact hs_s1
  · exact hH1
def w_97 (a1 : Int) (a b : Int) : Prop := a = 124 ∨ a = 123
theorem fr_97 (a1 : Int) (H : a_P) : a_fr (w_97 a1) H (fn_97 a1 H) := by
  generalize hW : w_97 a1 = W
  have W0 : ∀ a b, w_97 a1 a b → W a b := fun a b h => by rw [← hW]; exact h
  unfold fn_97
  refine a_fbdh (a_fr_cp (fun _ => (W0 _ _ (Or.inl rfl))) a_fr_refl) (fun H1 hH1 => ?_)
  refine a_flp (fun (s : Int × a_P) => a_fr W H s.2) ?_ ?_ a_fuel (0, H1) ?_
  · exact fun _ h => h
  · intro n16 hn16 s1 hs_s1
    refine a_fif ?_ ?_
    · refine a_fbdi (fun x1 => ?_)
      refine a_fbdi (fun x2 => ?_)
      refine a_fbdi (fun x3 => ?_)
      refine a_fjn (fun (s : Int) => a_fr W H H) (fun s2 hs_s2 => ?_) (fun j88 hj88 => ?_)
      · refine a_fbdh (a_fr_up (W0 _ _ (Or.inr rfl)) hs_s1) (fun H2 hH2 => ?_)
        refine a_fbdi (fun x4 => ?_)
        exact hn16 (x4, H2) hH2
      · refine a_fif ?_ ?_
        · exact hj88 (a_min x3 (a_min x1 x2)) a_fr_refl
        · exact hj88 (a_max x3 (a_max x1 x2)) a_fr_refl
    · exact hs_s1
  · exact hH1
def w_79 (a1 : Int) (a b : Int) : Prop := a = 7 ∨ a = 8 ∨ a = 9 ∨ a = 10 ∨ a = 11 ∨ a = 12 ∨ a = 123 ∨ a = 124
theorem fr_79 (a1 : Int) (H : a_P) : a_fr2 (w_79 a1) H (fn_79 a1 H) := by
  generalize hW : w_79 a1 = W
  have W0 : ∀ a b, w_79 a1 a b → W a b := fun a b h => by rw [← hW]; exact h
  unfold fn_79
  refine a_fif ?_ ?_
  · exact a_fr_refl
  · refine a_fif ?_ ?_
    · exact a_fr_refl
    · refine a_fbdh (a_fr_call (fr_96 H) (fun a b h => W0 a b ((fun h => Or.elim h (fun e => (Or.inl e)) (fun h => Or.elim h (fun e => (Or.inr (Or.inl e))) (fun h => Or.elim h (fun e => (Or.inr (Or.inr (Or.inl e)))) (fun h => Or.elim h (fun e => (Or.inr (Or.inr (Or.inr (Or.inl e))))) (fun h => Or.elim h (fun e => (Or.inr (Or.inr (Or.inr (Or.inr (Or.inl e)))))) (fun h => Or.elim h (fun e => (Or.inr (Or.inr (Or.inr (Or.inr (Or.inr (Or.inl e))))))) (fun e => (Or.inr (Or.inr (Or.inr (Or.inr (Or.inr (Or.inr (Or.inl e)))))))))))))) h)) a_fr_refl) (fun H1 hH1 => ?_)
      refine a_fbdi (fun x1 => ?_)
      refine a_fjn (fun (s : a_P) => a_fr W H s) (fun s1 hs_s1 => ?_) (fun j56 hj56 => ?_)
      · refine a_fjn (fun (s : Int) => a_fr W H H) (fun s2 hs_s2 => ?_) (fun j86 hj86 => ?_)
        · exact hs_s1
        · refine a_fif ?_ ?_
          · exact hj86 0 a_fr_refl
          · exact hj86 (s1 123 (s1 1 1)) a_fr_refl
      · refine a_flp (fun (s : Int × a_P) => a_fr W H s.2) ?_ ?_ a_fuel (x1, H1) ?_
        · exact fun _ h => h
        · intro n31 hn31 s3 hs_s3
          refine a_fif ?_ ?_
          · exact hj56 s3.2 hs_s3
          · refine a_fjn (fun (s : Int) => a_fr W H H) (fun s4 hs_s4 => ?_) (fun j47 hj47 => ?_)
            · refine a_fbdh (a_fr_call (fr_97 s4 s3.2) (fun a b h => W0 a b ((fun h => Or.elim h (fun e => (Or.inr (Or.inr (Or.inr (Or.inr (Or.inr (Or.inr (Or.inr e)))))))) (fun e => (Or.inr (Or.inr (Or.inr (Or.inr (Or.inr (Or.inr (Or.inl e))))))))) h)) hs_s3) (fun H2 hH2 => ?_)
              refine a_fbdi (fun x2 => ?_)
              exact hn31 (x2, H2) hH2
            · refine a_fif ?_ ?_
              · exact hj47 1 a_fr_refl
              · exact hj47 0 a_fr_refl
        · exact hH1
def w_80 (a1 : Int) (a2 : Int) (a b : Int) : Prop := a = 7 ∨ a = 8 ∨ a = 9 ∨ a = 10 ∨ a = 11 ∨ a = 12
theorem fr_80 (a1 : Int) (a2 : Int) (H : a_P) : a_fr2 (w_80 a1 a2) H (fn_80 a1 a2 H) := by
  generalize hW : w_80 a1 a2 = W
  have W0 : ∀ a b, w_80 a1 a2 a b → W a b := fun a b h => by rw [← hW]; exact h
  unfold fn_80
  refine a_fjn (fun (s : Unit) => a_fr W H H) (fun s1 hs_s1 => ?_) (fun j19 hj19 => ?_)
  · exact a_fr_refl
  · refine a_fif ?_ ?_
    · exact hj19 () a_fr_refl
    · refine a_fif ?_ ?_
      · exact hj19 () a_fr_refl
      · refine a_fbdh (a_fr_call (fr_10 7 1 H) (fun a b h => W0 a b ((fun h => Or.elim h (fun e => (Or.inl e)) (fun h => Or.elim h (fun e => (Or.inr (Or.inl e))) (fun h => Or.elim h (fun e => (Or.inr (Or.inr (Or.inl e)))) (fun h => Or.elim h (fun e => (Or.inr (Or.inr (Or.inr (Or.inl e))))) (fun h => Or.elim h (fun e => (Or.inr (Or.inr (Or.inr (Or.inr (Or.inl e)))))) (fun e => (Or.inr (Or.inr (Or.inr (Or.inr (Or.inr e))))))))))) h)) a_fr_refl) (fun H1 hH1 => ?_)
        refine a_fjn (fun (s : Int × Int × a_P) => a_fr W H s.2.2) (fun s2 hs_s2 => ?_) (fun j102 hj102 => ?_)
        · refine a_fjn (fun (s : Int) => a_fr W H H) (fun s3 hs_s3 => ?_) (fun j112 hj112 => ?_)
          · exact hs_s2
          · refine a_fif ?_ ?_
            · exact hj112 s2.1 a_fr_refl
            · exact hj112 s2.2.1 a_fr_refl
        · refine a_flp (fun (s : Int × Int × Int × a_P) => a_fr W H s.2.2.2) ?_ ?_ a_fuel (0, (-4), 0, H1) ?_
          · exact fun _ h => h
          · intro n41 hn41 s4 hs_s4
            refine a_fif ?_ ?_
            · refine a_fbdh (a_fr_up (W0 _ _ (Or.inl rfl)) hs_s4) (fun H2 hH2 => ?_)
              refine a_fbdh (a_fr_up (W0 _ _ (Or.inl rfl)) hH2) (fun H3 hH3 => ?_)
              refine a_fjn (fun (s : Int × Int) => a_fr W H H) (fun s5 hs_s5 => ?_) (fun j96 hj96 => ?_)
              · refine a_fbdi (fun x1 => ?_)
                exact hn41 (s5.1, s5.2, x1, H3) hH3
              · refine a_fif ?_ ?_
                · refine a_fbdi (fun x2 => ?_)
                  refine a_fif ?_ ?_
                  · exact hj96 (x2, s4.2.2.1) a_fr_refl
                  · exact hj96 (x2, s4.2.1) a_fr_refl
                · exact hj96 (s4.1, s4.2.1) a_fr_refl
            · exact hj102 (s4.1, s4.2.1, s4.2.2.2) hs_s4
          · exact hH1
def w_103 (a1 : Int) (a2 : Int) (a b : Int) : Prop := a = 7 ∨ a = 8 ∨ a = 9 ∨ a = 10 ∨ a = 11 ∨ a = 12
theorem fr_103 (a1 : Int) (a2 : Int) (H : a_P) : a_fr2 (w_103 a1 a2) H (fn_103 a1 a2 H) := by
  generalize hW : w_103 a1 a2 = W
  have W0 : ∀ a b, w_103 a1 a2 a b → W a b := fun a b h => by rw [← hW]; exact h
  unfold fn_103
  refine a_fbdh (a_fr_call (fr_10 7 1 H) (fun a b h => W0 a b ((fun h => Or.elim h (fun e => (Or.inl e)) (fun h => Or.elim h (fun e => (Or.inr (Or.inl e))) (fun h => Or.elim h (fun e => (Or.inr (Or.inr (Or.inl e)))) (fun h => Or.elim h (fun e => (Or.inr (Or.inr (Or.inr (Or.inl e))))) (fun h => Or.elim h (fun e => (Or.inr (Or.inr (Or.inr (Or.inr (Or.inl e)))))) (fun e => (Or.inr (Or.inr (Or.inr (Or.inr (Or.inr e))))))))))) h)) a_fr_refl) (fun H1 hH1 => ?_)
  refine a_flp (fun (s : Int × Int × a_P) => a_fr W H s.2.2) ?_ ?_ a_fuel (0, 0, H1) ?_
  · exact fun _ h => h
  · intro n16 hn16 s1 hs_s1
    refine a_fif ?_ ?_
    · refine a_fbdh (a_fr_call (fr_28 7 s1.2.2) (fun a b h => W0 a b ((fun h => Or.elim h (fun e => (Or.inr (Or.inr (Or.inl e)))) (fun e => (Or.inr (Or.inr (Or.inr (Or.inl e)))))) h)) hs_s1) (fun H2 hH2 => ?_)
      refine a_fjn (fun (s : Int) => a_fr W H H) (fun s2 hs_s2 => ?_) (fun j47 hj47 => ?_)
      · refine a_fbdh (a_fr_call (fr_30 7 H2) (fun a b h => W0 a b ((fun h => Or.elim h (fun e => (Or.inr (Or.inr (Or.inr (Or.inr (Or.inl e)))))) (fun e => (Or.inl e))) h)) hH2) (fun H3 hH3 => ?_)
        refine a_fbdi (fun x1 => ?_)
        exact hn16 (s2, x1, H3) hH3
      · refine a_fif ?_ ?_
        · exact hj47 s1.1 a_fr_refl
        · refine a_fbdi (fun x2 => ?_)
          exact hj47 x2 a_fr_refl
    · exact hs_s1
  · exact hH1
def w_82 (a1 : Int) (a2 : Int) (a3 : Int) (a4 : Int) (a5 : Int) (a b : Int) : Prop := a = 7 ∨ a = 8 ∨ a = 9 ∨ a = 10 ∨ a = 11 ∨ a = 12
theorem fr_82 (a1 : Int) (a2 : Int) (a3 : Int) (a4 : Int) (a5 : Int) (H : a_P) : a_fr2 (w_82 a1 a2 a3 a4 a5) H (fn_82 a1 a2 a3 a4 a5 H) := by
  generalize hW : w_82 a1 a2 a3 a4 a5 = W
  have W0 : ∀ a b, w_82 a1 a2 a3 a4 a5 a b → W a b := fun a b h => by rw [← hW]; exact h
  unfold fn_82
  refine a_fjn (fun (s : Unit) => a_fr W H H) (fun s1 hs_s1 => ?_) (fun j29 hj29 => ?_)
  · exact a_fr_refl
  · refine a_fif ?_ ?_
    · exact hj29 () a_fr_refl
    · refine a_fif ?_ ?_
      · exact hj29 () a_fr_refl
      · refine a_fif ?_ ?_
        · exact hj29 () a_fr_refl
        · refine a_fjn (fun (s : Unit) => a_fr W H H) (fun s2 hs_s2 => ?_) (fun j50 hj50 => ?_)
          · exact a_fr_refl
          · refine a_fif ?_ ?_
            · exact hj50 () a_fr_refl
            · refine a_fif ?_ ?_
              · exact hj50 () a_fr_refl
              · refine a_fbdg (a_fr_calf (fr_103 a1 a3 H) (fun a b h => W0 a b ((fun h => Or.elim h (fun e => (Or.inl e)) (fun h => Or.elim h (fun e => (Or.inr (Or.inl e))) (fun h => Or.elim h (fun e => (Or.inr (Or.inr (Or.inl e)))) (fun h => Or.elim h (fun e => (Or.inr (Or.inr (Or.inr (Or.inl e))))) (fun h => Or.elim h (fun e => (Or.inr (Or.inr (Or.inr (Or.inr (Or.inl e)))))) (fun e => (Or.inr (Or.inr (Or.inr (Or.inr (Or.inr e))))))))))) h)) a_fr_refl) (fun g1 hg1 => ?_)
                refine a_fjn (fun (s : Int) => a_fr W H H) (fun s3 hs_s3 => ?_) (fun j88 hj88 => ?_)
                · refine a_fjn (fun (s : Int) => a_fr W H H) (fun s4 hs_s4 => ?_) (fun j135 hj135 => ?_)
                  · refine a_fbdi (fun x1 => ?_)
                    refine a_fif ?_ ?_
                    · exact hg1
                    · refine a_fjn (fun (s : Int) => a_fr W H H) (fun s5 hs_s5 => ?_) (fun j163 hj163 => ?_)
                      · exact hg1
                      · refine a_fif ?_ ?_
                        · exact hj163 s4 a_fr_refl
                        · exact hj163 s3 a_fr_refl
                  · refine a_flp (fun (s : Int × Int) => a_fr W H H) ?_ ?_ a_fuel (0, 0) ?_
                    · exact fun _ _ => hg1
                    · intro n91 hn91 s6 hs_s6
                      refine a_fif ?_ ?_
                      · refine a_fjn (fun (s : Int) => a_fr W H H) (fun s7 hs_s7 => ?_) (fun j129 hj129 => ?_)
                        · refine a_fbdi (fun x2 => ?_)
                          exact hn91 (s7, x2) a_fr_refl
                        · refine a_fif ?_ ?_
                          · exact hj129 s6.1 a_fr_refl
                          · refine a_fbdi (fun x3 => ?_)
                            exact hj129 x3 a_fr_refl
                      · exact hj135 s6.1 a_fr_refl
                    · exact a_fr_refl
                · refine a_flp (fun (s : Int × Int) => a_fr W H H) ?_ ?_ a_fuel (1, 0) ?_
                  · exact fun _ _ => hg1
                  · intro n69 hn69 s8 hs_s8
                    refine a_fif ?_ ?_
                    · refine a_fbdi (fun x4 => ?_)
                      refine a_fbdi (fun x5 => ?_)
                      exact hn69 (x4, x5) a_fr_refl
                    · exact hj88 s8.1 a_fr_refl
                  · exact a_fr_refl
def w_107 (a1 : Int) (a2 : Int) (a3 : Int) (a b : Int) : Prop := a = 9 ∨ a = 10 ∨ a = 11 ∨ a = 7 ∨ a = 12
theorem fr_107 (a1 : Int) (a2 : Int) (a3 : Int) (H : a_P) : a_fr2 (w_107 a1 a2 a3) H (fn_107 a1 a2 a3 H) := by
  generalize hW : w_107 a1 a2 a3 = W
  have W0 : ∀ a b, w_107 a1 a2 a3 a b → W a b := fun a b h => by rw [← hW]; exact h
  unfold fn_107
  refine a_flp (fun (s : Int × a_P) => a_fr W H s.2) ?_ ?_ a_fuel (0, H) ?_
  · exact fun _ h => h
  · intro n3 hn3 s1 hs_s1
    refine a_fif ?_ ?_
    · refine a_fbdh (a_fr_call (fr_27 7 s1.2) (fun a b h => W0 a b ((fun h => Or.elim h (fun e => (Or.inl e)) (fun h => Or.elim h (fun e => (Or.inr (Or.inl e))) (fun h => Or.elim h (fun e => (Or.inr (Or.inr (Or.inl e)))) (fun h => Or.elim h (fun e => (Or.inr (Or.inr (Or.inr (Or.inl e))))) (fun e => (Or.inr (Or.inr (Or.inr (Or.inr e))))))))) h)) hs_s1) (fun H1 hH1 => ?_)
      refine a_fif ?_ ?_
      · exact hH1
      · refine a_fbdi (fun x1 => ?_)
        exact hn3 (x1, H1) hH1
    · exact hs_s1
  · exact a_fr_refl
def w_85 (a1 : Int) (a2 : Int) (a3 : Int) (a4 : Int) (a5 : Int) (a6 : Int) (a b : Int) : Prop := a = 7 ∨ a = 8 ∨ a = 9 ∨ a = 10 ∨ a = 11 ∨ a = 12
theorem fr_85 (a1 : Int) (a2 : Int) (a3 : Int) (a4 : Int) (a5 : Int) (a6 : Int) (H : a_P) : a_fr2 (w_85 a1 a2 a3 a4 a5 a6) H (fn_85 a1 a2 a3 a4 a5 a6 H) := by
  generalize hW : w_85 a1 a2 a3 a4 a5 a6 = W
  have W0 : ∀ a b, w_85 a1 a2 a3 a4 a5 a6 a b → W a b := fun a b h => by rw [← hW]; exact h
  unfold fn_85
  refine a_fjn (fun (s : Unit) => a_fr W H H) (fun s1 hs_s1 => ?_) (fun j27 hj27 => ?_)
  · exact a_fr_refl
  · refine a_fif ?_ ?_
    · exact hj27 () a_fr_refl
    · refine a_fif ?_ ?_
      · exact hj27 () a_fr_refl
      · refine a_fif ?_ ?_
        · exact hj27 () a_fr_refl
        · refine a_fjn (fun (s : Unit) => a_fr W H H) (fun s2 hs_s2 => ?_) (fun j51 hj51 => ?_)
          · exact a_fr_refl
          · refine a_fif ?_ ?_
            · exact hj51 () a_fr_refl
            · refine a_fif ?_ ?_
              · exact hj51 () a_fr_refl
              · refine a_fif ?_ ?_
                · exact hj51 () a_fr_refl
                · refine a_fbdi (fun x1 => ?_)
                  refine a_fif ?_ ?_
                  · refine a_fjn (fun (s : Int) => a_fr W H H) (fun s3 hs_s3 => ?_) (fun j97 hj97 => ?_)
                    · refine a_flp (fun (s : Int × Int × a_P) => a_fr W H s.2.2) ?_ ?_ a_fuel (0, 0, H) ?_
                      · exact fun _ h => h
                      · intro n105 hn105 s4 hs_s4
                        refine a_fif ?_ ?_
                        · refine a_fbdh (a_fr_call (fr_10 7 1 s4.2.2) (fun a b h => W0 a b ((fun h => Or.elim h (fun e => (Or.inl e)) (fun h => Or.elim h (fun e => (Or.inr (Or.inl e))) (fun h => Or.elim h (fun e => (Or.inr (Or.inr (Or.inl e)))) (fun h => Or.elim h (fun e => (Or.inr (Or.inr (Or.inr (Or.inl e))))) (fun h => Or.elim h (fun e => (Or.inr (Or.inr (Or.inr (Or.inr (Or.inl e)))))) (fun e => (Or.inr (Or.inr (Or.inr (Or.inr (Or.inr e))))))))))) h)) hs_s4) (fun H1 hH1 => ?_)
                          refine a_fjn (fun (s : a_P) => a_fr W H s) (fun s5 hs_s5 => ?_) (fun j171 hj171 => ?_)
                          · refine a_fbdg (a_fr_calf (fr_107 (121 + (4 + 2 * a2)) a4 a5 s5) (fun a b h => W0 a b ((fun h => Or.elim h (fun e => (Or.inr (Or.inr (Or.inl e)))) (fun h => Or.elim h (fun e => (Or.inr (Or.inr (Or.inr (Or.inl e))))) (fun h => Or.elim h (fun e => (Or.inr (Or.inr (Or.inr (Or.inr (Or.inl e)))))) (fun h => Or.elim h (fun e => (Or.inl e)) (fun e => (Or.inr (Or.inr (Or.inr (Or.inr (Or.inr e)))))))))) h)) hs_s5) (fun g1 hg1 => ?_)
                            refine a_fjn (fun (s : Int) => a_fr W H H) (fun s6 hs_s6 => ?_) (fun j197 hj197 => ?_)
                            · refine a_fbdi (fun x2 => ?_)
                              exact hn105 (s6, x2, g1.2) hg1
                            · refine a_fif ?_ ?_
                              · exact hj197 s4.1 a_fr_refl
                              · refine a_fbdi (fun x3 => ?_)
                                exact hj197 x3 a_fr_refl
                          · refine a_fif ?_ ?_
                            · refine a_fbdh (a_fr_up (W0 _ _ (Or.inr (Or.inl rfl))) hH1) (fun H4 hH4 => ?_)
                              exact hj171 H4 hH4
                            · refine a_fif ?_ ?_
                              · refine a_fbdh (a_fr_up (W0 _ _ (Or.inr (Or.inr (Or.inr (Or.inl rfl))))) hH1) (fun H3 hH3 => ?_)
                                exact hj171 H3 hH3
                              · refine a_fbdh (a_fr_up (W0 _ _ (Or.inl rfl)) hH1) (fun H2 hH2 => ?_)
                                exact hj171 H2 hH2
                        · exact hs_s4
                      · exact a_fr_refl
                    · refine a_fif ?_ ?_
                      · exact hj97 5 a_fr_refl
                      · refine a_fif ?_ ?_
                        · exact hj97 5 a_fr_refl
                        · exact hj97 4 a_fr_refl
                  · exact a_fr_refl
def w_39 (p : Int) (a1 : Int) (a2 : Int) (a b : Int) : Prop := a = (p + 1)
theorem fr_39 (p : Int) (a1 : Int) (a2 : Int) (H : a_P) : a_fr (w_39 p a1 a2) H (fn_39 p a1 a2 H) := by
  generalize hW : w_39 p a1 a2 = W
  have W0 : ∀ a b, w_39 p a1 a2 a b → W a b := fun a b h => by rw [← hW]; exact h
  unfold fn_39
  refine a_fjn (fun (s : a_P) => a_fr W H s) (fun s1 hs_s1 => ?_) (fun j20 hj20 => ?_)
  · exact hs_s1
  · refine a_fif ?_ ?_
    · exact hj20 H a_fr_refl
    · refine a_fbdh (a_fr_up (W0 _ _ rfl) a_fr_refl) (fun H1 hH1 => ?_)
      exact hj20 H1 hH1
def w_86 (a1 : Int) (a2 : Int) (a3 : Int) (a4 : Int) (a b : Int) : Prop := a = 7 ∨ a = 8 ∨ a = 9 ∨ a = 10 ∨ a = 11 ∨ a = 12 ∨ a = ((121 + (4 + 2 * a2)) + 1)
theorem fr_86 (a1 : Int) (a2 : Int) (a3 : Int) (a4 : Int) (H : a_P) : a_fr2 (w_86 a1 a2 a3 a4) H (fn_86 a1 a2 a3 a4 H) := by
  generalize hW : w_86 a1 a2 a3 a4 = W
  have W0 : ∀ a b, w_86 a1 a2 a3 a4 a b → W a b := fun a b h => by rw [← hW]; exact h
  unfold fn_86
  refine a_fjn (fun (s : Unit) => a_fr W H H) (fun s1 hs_s1 => ?_) (fun j27 hj27 => ?_)
  · exact a_fr_refl
  · refine a_fif ?_ ?_
    · exact hj27 () a_fr_refl
    · refine a_fif ?_ ?_
      · exact hj27 () a_fr_refl
      · refine a_fif ?_ ?_
        · exact hj27 () a_fr_refl
        · refine a_fif ?_ ?_
          · exact hj27 () a_fr_refl
          · refine a_fbdi (fun x1 => ?_)
            refine a_fif ?_ ?_
            · refine a_fbdh (a_fr_call (fr_10 7 1 H) (fun a b h => W0 a b ((fun h => Or.elim h (fun e => (Or.inl e)) (fun h => Or.elim h (fun e => (Or.inr (Or.inl e))) (fun h => Or.elim h (fun e => (Or.inr (Or.inr (Or.inl e)))) (fun h => Or.elim h (fun e => (Or.inr (Or.inr (Or.inr (Or.inl e))))) (fun h => Or.elim h (fun e => (Or.inr (Or.inr (Or.inr (Or.inr (Or.inl e)))))) (fun e => (Or.inr (Or.inr (Or.inr (Or.inr (Or.inr (Or.inl e)))))))))))) h)) a_fr_refl) (fun H1 hH1 => ?_)
              refine a_flp (fun (s : Int × a_P) => a_fr W H s.2) ?_ ?_ a_fuel (0, H1) ?_
              · exact fun _ h => h
              · intro n66 hn66 s2 hs_s2
                refine a_fif ?_ ?_
                · refine a_fbdh (a_fr_call (fr_27 7 s2.2) (fun a b h => W0 a b ((fun h => Or.elim h (fun e => (Or.inr (Or.inr (Or.inl e)))) (fun h => Or.elim h (fun e => (Or.inr (Or.inr (Or.inr (Or.inl e))))) (fun h => Or.elim h (fun e => (Or.inr (Or.inr (Or.inr (Or.inr (Or.inl e)))))) (fun h => Or.elim h (fun e => (Or.inl e)) (fun e => (Or.inr (Or.inr (Or.inr (Or.inr (Or.inr (Or.inl e))))))))))) h)) hs_s2) (fun H2 hH2 => ?_)
                  refine a_fbdh (a_fr_call (fr_39 (121 + (4 + 2 * a2)) (a_w (a4 + s2.1)) (fn_23 7 H2) H2) (fun a b h => W0 a b ((fun e => (Or.inr (Or.inr (Or.inr (Or.inr (Or.inr (Or.inr e))))))) h)) hH2) (fun H3 hH3 => ?_)
                  refine a_fbdi (fun x2 => ?_)
                  exact hn66 (x2, H3) hH3
                · exact hs_s2
              · exact hH1
            · exact a_fr_refl
def w_36 (p : Int) (a1 : Int) (a2 : Int) (a b : Int) : Prop := a = p ∨ a = (p + 1)
theorem fr_36 (p : Int) (a1 : Int) (a2 : Int) (H : a_P) : a_fr (w_36 p a1 a2) H (fn_36 p a1 a2 H) := by
  generalize hW : w_36 p a1 a2 = W
  have W0 : ∀ a b, w_36 p a1 a2 a b → W a b := fun a b h => by rw [← hW]; exact h
  unfold fn_36
  refine a_fbdh (a_fr_up (W0 _ _ (Or.inl rfl)) a_fr_refl) (fun H1 hH1 => ?_)
  refine a_fbdh (a_fr_up (W0 _ _ (Or.inl rfl)) hH1) (fun H2 hH2 => ?_)
  refine a_fbdh (a_fr_up (W0 _ _ (Or.inl rfl)) hH2) (fun H3 hH3 => ?_)
  refine a_flp (fun (s : Int × a_P) => a_fr W H s.2) ?_ ?_ a_fuel (0, H3) ?_
  · exact fun _ h => h
  · intro n17 hn17 s1 hs_s1
    refine a_fif ?_ ?_
    · refine a_fbdh (a_fr_up (W0 _ _ (Or.inr rfl)) hs_s1) (fun H4 hH4 => ?_)
      refine a_fbdi (fun x1 => ?_)
      exact hn17 (x1, H4) hH4
    · exact hs_s1
  · exact hH3
def w_87 (a1 : Int) (a2 : Int) (a3 : Int) (a b : Int) : Prop := a = (121 + (4 + 2 * a1)) ∨ a = ((121 + (4 + 2 * a1)) + 1)
theorem fr_87 (a1 : Int) (a2 : Int) (a3 : Int) (H : a_P) : a_fr2 (w_87 a1 a2 a3) H (fn_87 a1 a2 a3 H) := by
  generalize hW : w_87 a1 a2 a3 = W
  have W0 : ∀ a b, w_87 a1 a2 a3 a b → W a b := fun a b h => by rw [← hW]; exact h
  unfold fn_87
  refine a_fjn (fun (s : Unit) => a_fr W H H) (fun s1 hs_s1 => ?_) (fun j22 hj22 => ?_)
  · exact a_fr_refl
  · refine a_fif ?_ ?_
    · exact hj22 () a_fr_refl
    · refine a_fif ?_ ?_
      · exact hj22 () a_fr_refl
      · refine a_fif ?_ ?_
        · exact hj22 () a_fr_refl
        · refine a_fif ?_ ?_
          · exact a_fr_refl
          · refine a_fbdh (a_fr_call (fr_36 (121 + (4 + 2 * a1)) a2 a3 H) (fun a b h => W0 a b ((fun h => Or.elim h (fun e => (Or.inl e)) (fun e => (Or.inr e))) h)) a_fr_refl) (fun H1 hH1 => ?_)
            exact hH1
def w_88 (a1 : Int) (a b : Int) : Prop := a = (121 + (4 + 2 * a1))
theorem fr_88 (a1 : Int) (H : a_P) : a_fr2 (w_88 a1) H (fn_88 a1 H) := by
  generalize hW : w_88 a1 = W
  have W0 : ∀ a b, w_88 a1 a b → W a b := fun a b h => by rw [← hW]; exact h
  unfold fn_88
  refine a_fif ?_ ?_
  · exact a_fr_refl
  · refine a_fif ?_ ?_
    · exact a_fr_refl
    · refine a_fbdh (a_fr_up (W0 _ _ rfl) a_fr_refl) (fun H1 hH1 => ?_)
      exact hH1
def w_89 (a1 : Int) (a2 : Int) (a3 : Int) (a4 : Int) (a b : Int) : Prop := a = ((121 + (4 + 2 * a1)) + 1)
theorem fr_89 (a1 : Int) (a2 : Int) (a3 : Int) (a4 : Int) (H : a_P) : a_fr2 (w_89 a1 a2 a3 a4) H (fn_89 a1 a2 a3 a4 H) := by
  generalize hW : w_89 a1 a2 a3 a4 = W
  have W0 : ∀ a b, w_89 a1 a2 a3 a4 a b → W a b := fun a b h => by rw [← hW]; exact h
  unfold fn_89
  refine a_fjn (fun (s : Unit) => a_fr W H H) (fun s1 hs_s1 => ?_) (fun j16 hj16 => ?_)
  · exact a_fr_refl
  · refine a_fif ?_ ?_
    · exact hj16 () a_fr_refl
    · refine a_fif ?_ ?_
      · exact hj16 () a_fr_refl
      · refine a_fbdi (fun x1 => ?_)
        refine a_fif ?_ ?_
        · refine a_fbdh (a_fr_call (fr_39 (121 + (4 + 2 * a1)) a3 a4 H) (fun a b h => W0 a b ((fun e => e) h)) a_fr_refl) (fun H1 hH1 => ?_)
          exact hH1
        · exact a_fr_refl
def w_125 (a1 : Int) (a2 : Int) (a3 : Int) (a4 : Int) (a b : Int) : Prop := a = 134 ∨ (a = 133 ∧ b = 7)
theorem fr_125 (a1 : Int) (a2 : Int) (a3 : Int) (a4 : Int) (H : a_P) : a_fr (w_125 a1 a2 a3 a4) H (fn_125 a1 a2 a3 a4 H) := by
  generalize hW : w_125 a1 a2 a3 a4 = W
  have W0 : ∀ a b, w_125 a1 a2 a3 a4 a b → W a b := fun a b h => by rw [← hW]; exact h
  unfold fn_125
  refine a_fbdi (fun x1 => ?_)
  refine a_fbdh (a_fr_up (W0 _ _ (Or.inl rfl)) a_fr_refl) (fun H1 hH1 => ?_)
  refine a_fbdh (a_fr_up (W0 _ _ (Or.inl rfl)) hH1) (fun H2 hH2 => ?_)
  refine a_fbdh (a_fr_up (W0 _ _ (Or.inl rfl)) hH2) (fun H3 hH3 => ?_)
  refine a_fbdh (a_fr_up (W0 _ _ (Or.inl rfl)) hH3) (fun H4 hH4 => ?_)
  refine a_fbdh (a_fr_up (W0 _ _ (Or.inl rfl)) hH4) (fun H5 hH5 => ?_)
  refine a_fbdh (a_fr_up (W0 _ _ (Or.inl rfl)) hH5) (fun H6 hH6 => ?_)
  refine a_fbdh (a_fr_up (W0 _ _ (Or.inr ⟨rfl, rfl⟩)) hH6) (fun H7 hH7 => ?_)
  exact hH7
def w_126 (a1 : Int) (a2 : Int) (a3 : Int) (a b : Int) : Prop := a = 134 ∨ (a = 133 ∧ b = 7)
theorem fr_126 (a1 : Int) (a2 : Int) (a3 : Int) (H : a_P) : a_fr2 (w_126 a1 a2 a3) H (fn_126 a1 a2 a3 H) := by
  generalize hW : w_126 a1 a2 a3 = W
  have W0 : ∀ a b, w_126 a1 a2 a3 a b → W a b := fun a b h => by rw [← hW]; exact h
  unfold fn_126
  refine a_fjn (fun (s : Unit) => a_fr W H H) (fun s1 hs_s1 => ?_) (fun j31 hj31 => ?_)
  · exact a_fr_refl
  · refine a_fif ?_ ?_
    · exact hj31 () a_fr_refl
    · refine a_fif ?_ ?_
      · exact hj31 () a_fr_refl
      · refine a_fif ?_ ?_
        · exact hj31 () a_fr_refl
        · refine a_fif ?_ ?_
          · exact a_fr_refl
          · refine a_fbdh (a_fr_call (fr_125 a1 a2 4 a3 H) (fun a b h => W0 a b ((fun h => Or.elim h (fun e => (Or.inl e)) (fun e => (Or.inr e))) h)) a_fr_refl) (fun H1 hH1 => ?_)
            exact hH1
def w_131 (a1 : Int) (a b : Int) : Prop := a = 135 ∨ (a = 133 ∧ b = 2)
theorem fr_131 (a1 : Int) (H : a_P) : a_fr2 (w_131 a1) H (fn_131 a1 H) := by
  generalize hW : w_131 a1 = W
  have W0 : ∀ a b, w_131 a1 a b → W a b := fun a b h => by rw [← hW]; exact h
  unfold fn_131
  refine a_fif ?_ ?_
  · exact a_fr_refl
  · refine a_fif ?_ ?_
    · exact a_fr_refl
    · refine a_fbdh (a_fr_up (W0 _ _ (Or.inl rfl)) a_fr_refl) (fun H1 hH1 => ?_)
      refine a_fbdh (a_fr_up (W0 _ _ (Or.inr ⟨rfl, rfl⟩)) hH1) (fun H2 hH2 => ?_)
      exact hH2
def w_132 (a b : Int) : Prop := (a = 133 ∧ b = 3)
theorem fr_132 (H : a_P) : a_fr2 (w_132) H (fn_132 H) := by
  generalize hW : w_132 = W
  have W0 : ∀ a b, w_132 a b → W a b := fun a b h => by rw [← hW]; exact h
  unfold fn_132
  refine a_fjn (fun (s : a_P) => a_fr W H s) (fun s1 hs_s1 => ?_) (fun j38 hj38 => ?_)
  · refine a_fjn (fun (s : Int) => a_fr W H H) (fun s2 hs_s2 => ?_) (fun j62 hj62 => ?_)
    · exact hs_s1
    · refine a_fif ?_ ?_
      · exact hj62 (s1 135 (s1 133 3)) a_fr_refl
      · exact hj62 0 a_fr_refl
  · refine a_flp (fun (s : a_P) => a_fr W H s) ?_ ?_ a_fuel H ?_
    · exact fun _ h => h
    · intro n0 hn0 s3 hs_s3
      refine a_fif ?_ ?_
      · refine a_fif ?_ ?_
        · refine a_fbdh (a_fr_up (W0 _ _ ⟨rfl, rfl⟩) hs_s3) (fun H1 hH1 => ?_)
          exact hn0 H1 hH1
        · exact hj38 s3 hs_s3
      · exact hj38 s3 hs_s3
    · exact a_fr_refl
def w_133 (a1 : Int) (a b : Int) : Prop := (a = 133 ∧ b = 3)
theorem fr_133 (a1 : Int) (H : a_P) : a_fr2 (w_133 a1) H (fn_133 a1 H) := by
  generalize hW : w_133 a1 = W
  have W0 : ∀ a b, w_133 a1 a b → W a b := fun a b h => by rw [← hW]; exact h
  unfold fn_133
  refine a_fbdg (a_fr_calf (fr_132 H) (fun a b h => W0 a b ((fun e => e) h)) a_fr_refl) (fun g1 hg1 => ?_)
  refine a_fif ?_ ?_
  · refine a_fbdh (a_fr_up (W0 _ _ ⟨rfl, rfl⟩) hg1) (fun H1 hH1 => ?_)
    exact hH1
  · exact hg1
def w_134 (a1 : Int) (a b : Int) : Prop := (a = 133 ∧ b = 3)
theorem fr_134 (a1 : Int) (H : a_P) : a_fr2 (w_134 a1) H (fn_134 a1 H) := by
  generalize hW : w_134 a1 = W
  have W0 : ∀ a b, w_134 a1 a b → W a b := fun a b h => by rw [← hW]; exact h
  unfold fn_134
  refine a_fbdg (a_fr_calf (fr_132 H) (fun a b h => W0 a b ((fun e => e) h)) a_fr_refl) (fun g1 hg1 => ?_)
  refine a_fif ?_ ?_
  · exact hg1
  · refine a_fbdi (fun x1 => ?_)
    refine a_fbdi (fun x2 => ?_)
    refine a_fbdh (a_fr_up (W0 _ _ ⟨rfl, rfl⟩) hg1) (fun H1 hH1 => ?_)
    refine a_fjn (fun (s : Int × a_P) => a_fr W H s.2) (fun s1 hs_s1 => ?_) (fun j108 hj108 => ?_)
    · refine a_fif ?_ ?_
      · refine a_fbdh (a_fr_up (W0 _ _ ⟨rfl, rfl⟩) hs_s1) (fun H2 hH2 => ?_)
        exact hH2
      · exact hs_s1
    · refine a_fif ?_ ?_
      · refine a_fif ?_ ?_
        · exact hj108 (x2, H1) hH1
        · refine a_fbdi (fun x3 => ?_)
          refine a_fbdh (a_fr_up (W0 _ _ ⟨rfl, rfl⟩) hH1) (fun H3 hH3 => ?_)
          exact hj108 (x3, H3) hH3
      · exact hj108 (x2, H1) hH1
def w_136 (a1 : Int) (a b : Int) : Prop := (a = 133 ∧ b = 3)
theorem fr_136 (a1 : Int) (H : a_P) : a_fr2 (w_136 a1) H (fn_136 a1 H) := by
  generalize hW : w_136 a1 = W
  have W0 : ∀ a b, w_136 a1 a b → W a b := fun a b h => by rw [← hW]; exact h
  unfold fn_136
  refine a_fbdg (a_fr_calf (fr_132 H) (fun a b h => W0 a b ((fun e => e) h)) a_fr_refl) (fun g1 hg1 => ?_)
  refine a_fbdi (fun x1 => ?_)
  refine a_fjn (fun (s : Int) => a_fr W H H) (fun s1 hs_s1 => ?_) (fun j23 hj23 => ?_)
  · refine a_fbdh (a_fr_up (W0 _ _ ⟨rfl, rfl⟩) hg1) (fun H1 hH1 => ?_)
    exact hH1
  · refine a_fif ?_ ?_
    · exact hj23 0 a_fr_refl
    · exact hj23 1 a_fr_refl
def w_138 (a1 : Int) (a2 : Int) (a b : Int) : Prop := (a = 133 ∧ b = 3) ∨ a = 136 ∨ (a = 133 ∧ b = 5)
theorem fr_138 (a1 : Int) (a2 : Int) (H : a_P) : a_fr2 (w_138 a1 a2) H (fn_138 a1 a2 H) := by
  generalize hW : w_138 a1 a2 = W
  have W0 : ∀ a b, w_138 a1 a2 a b → W a b := fun a b h => by rw [← hW]; exact h
  unfold fn_138
  refine a_fbdg (a_fr_calf (fr_132 H) (fun a b h => W0 a b ((fun e => (Or.inl e)) h)) a_fr_refl) (fun g1 hg1 => ?_)
  refine a_fbdh (a_fr_up (W0 _ _ (Or.inr (Or.inl rfl))) hg1) (fun H1 hH1 => ?_)
  refine a_fif ?_ ?_
  · exact hH1
  · refine a_fbdh (a_fr_up (W0 _ _ (Or.inl ⟨rfl, rfl⟩)) hH1) (fun H2 hH2 => ?_)
    refine a_fbdg (a_fr_calf (fr_134 35 H2) (fun a b h => W0 a b ((fun e => (Or.inl e)) h)) hH2) (fun g2 hg2 => ?_)
    refine a_fbdh (a_fr_up (W0 _ _ (Or.inr (Or.inl rfl))) hg2) (fun H3 hH3 => ?_)
    refine a_fif ?_ ?_
    · exact hH3
    · refine a_fbdg (a_fr_calf (fr_136 1 H3) (fun a b h => W0 a b ((fun e => (Or.inl e)) h)) hH3) (fun g3 hg3 => ?_)
      refine a_fbdh (a_fr_up (W0 _ _ (Or.inr (Or.inl rfl))) hg3) (fun H4 hH4 => ?_)
      refine a_fif ?_ ?_
      · exact hH4
      · refine a_fbdg (a_fr_calf (fr_134 20 H4) (fun a b h => W0 a b ((fun e => (Or.inl e)) h)) hH4) (fun g4 hg4 => ?_)
        refine a_fbdh (a_fr_up (W0 _ _ (Or.inr (Or.inl rfl))) hg4) (fun H5 hH5 => ?_)
        refine a_fif ?_ ?_
        · exact hH5
        · refine a_fjn (fun (s : Int) => a_fr W H H) (fun s1 hs_s1 => ?_) (fun j151 hj151 => ?_)
          · refine a_fjn (fun (s : a_P) => a_fr W H s) (fun s2 hs_s2 => ?_) (fun j172 hj172 => ?_)
            · exact hs_s2
            · refine a_fif ?_ ?_
              · exact hj172 H5 hH5
              · refine a_fbdg (a_fr_calf (fr_133 42 H5) (fun a b h => W0 a b ((fun e => (Or.inl e)) h)) hH5) (fun g5 hg5 => ?_)
                refine a_fif ?_ ?_
                · exact hj172 g5.2 hg5
                · refine a_fbdh (a_fr_up (W0 _ _ (Or.inr (Or.inr ⟨rfl, rfl⟩))) hg5) (fun H6 hH6 => ?_)
                  exact hj172 H6 hH6
          · refine a_fjn (fun (s : Unit) => a_fr W H H) (fun s3 hs_s3 => ?_) (fun j150 hj150 => ?_)
            · exact hj151 0 a_fr_refl
            · refine a_fif ?_ ?_
              · refine a_fif ?_ ?_
                · refine a_fif ?_ ?_
                  · exact hj151 1 a_fr_refl
                  · exact hj150 () a_fr_refl
                · exact hj150 () a_fr_refl
              · exact hj150 () a_fr_refl
def w_139 (a1 : Int) (a b : Int) : Prop := (a = 133 ∧ b = 3) ∨ a = 136 ∨ (a = 133 ∧ b = 5)
theorem fr_139 (a1 : Int) (H : a_P) : a_fr2 (w_139 a1) H (fn_139 a1 H) := by
  generalize hW : w_139 a1 = W
  have W0 : ∀ a b, w_139 a1 a b → W a b := fun a b h => by rw [← hW]; exact h
  unfold fn_139
  refine a_flp (fun (s : Int × Int × a_P) => a_fr W H s.2.2) ?_ ?_ a_fuel (0, 1, H) ?_
  · exact fun _ h => h
  · intro n4 hn4 s1 hs_s1
    refine a_fif ?_ ?_
    · exact hs_s1
    · refine a_fbdg (a_fr_calf (fr_138 (a_w (4 * s1.1)) a1 s1.2.2) (fun a b h => W0 a b ((fun h => Or.elim h (fun e => (Or.inl e)) (fun h => Or.elim h (fun e => (Or.inr (Or.inl e))) (fun e => (Or.inr (Or.inr e))))) h)) hs_s1) (fun g1 hg1 => ?_)
      refine a_fif ?_ ?_
      · exact hg1
      · refine a_fbdi (fun x1 => ?_)
        refine a_fjn (fun (s : Int × a_P) => a_fr W H s.2) (fun s2 hs_s2 => ?_) (fun j44 hj44 => ?_)
        · exact hn4 (x1, s2.1, s2.2) hs_s2
        · refine a_fjn (fun (s : a_P) => a_fr W H s) (fun s3 hs_s3 => ?_) (fun j43 hj43 => ?_)
          · exact hj44 (0, s3) hs_s3
          · refine a_fif ?_ ?_
            · refine a_fbdg (a_fr_calf (fr_133 44 g1.2) (fun a b h => W0 a b ((fun e => (Or.inl e)) h)) hg1) (fun g2 hg2 => ?_)
              refine a_fif ?_ ?_
              · exact hj43 g2.2 hg2
              · exact hj44 (1, g2.2) hg2
            · exact hj43 g1.2 hg1
  · exact a_fr_refl
def w_140 (a b : Int) : Prop := (a = 133 ∧ b = 3) ∨ (a = 133 ∧ b = 2)
theorem fr_140 (H : a_P) : a_fr2 (w_140) H (fn_140 H) := by
  generalize hW : w_140 = W
  have W0 : ∀ a b, w_140 a b → W a b := fun a b h => by rw [← hW]; exact h
  unfold fn_140
  refine a_fbdg (a_fr_calf (fr_132 H) (fun a b h => W0 a b ((fun e => (Or.inl e)) h)) a_fr_refl) (fun g1 hg1 => ?_)
  refine a_fjn (fun (s : Int) => a_fr W H H) (fun s1 hs_s1 => ?_) (fun j12 hj12 => ?_)
  · refine a_fjn (fun (s : Int) => a_fr W H H) (fun s2 hs_s2 => ?_) (fun j30 hj30 => ?_)
    · refine a_fbdi (fun x1 => ?_)
      refine a_fbdh (a_fr_up (W0 _ _ (Or.inr ⟨rfl, rfl⟩)) hg1) (fun H1 hH1 => ?_)
      exact hH1
    · refine a_fif ?_ ?_
      · exact hj30 (g1.2 133 3) a_fr_refl
      · exact hj30 (g1.2 133 2) a_fr_refl
  · refine a_fif ?_ ?_
    · exact hj12 1 a_fr_refl
    · exact hj12 0 a_fr_refl
def w_141 (a b : Int) : Prop := (a = 133 ∧ b = 3) ∨ (a = 133 ∧ b = 5) ∨ (a = 133 ∧ b = 2) ∨ a = 134 ∨ (a = 133 ∧ b = 7) ∨ a = 136
theorem fr_141 (H : a_P) : a_fr2 (w_141) H (fn_141 H) := by
  generalize hW : w_141 = W
  have W0 : ∀ a b, w_141 a b → W a b := fun a b h => by rw [← hW]; exact h
  unfold fn_141
  refine a_fbdh (a_fr_up (W0 _ _ (Or.inl ⟨rfl, rfl⟩)) a_fr_refl) (fun H1 hH1 => ?_)
  refine a_fbdh (a_fr_up (W0 _ _ (Or.inr (Or.inl ⟨rfl, rfl⟩))) hH1) (fun H2 hH2 => ?_)
  refine a_fbdg (a_fr_calf (fr_134 35 H2) (fun a b h => W0 a b ((fun e => (Or.inl e)) h)) hH2) (fun g1 hg1 => ?_)
  refine a_fjn (fun (s : Int × a_P) => a_fr W H s.2) (fun s1 hs_s1 => ?_) (fun j31 hj31 => ?_)
  · refine a_fjn (fun (s : Int × a_P) => a_fr W H s.2) (fun s2 hs_s2 => ?_) (fun j59 hj59 => ?_)
    · refine a_fjn (fun (s : Int × a_P) => a_fr W H s.2) (fun s3 hs_s3 => ?_) (fun j86 hj86 => ?_)
      · refine a_fjn (fun (s : a_P) => a_fr W H s) (fun s4 hs_s4 => ?_) (fun j100 hj100 => ?_)
        · refine a_fbdg (a_fr_calf (fr_140 s4) (fun a b h => W0 a b ((fun h => Or.elim h (fun e => (Or.inl e)) (fun e => (Or.inr (Or.inr (Or.inl e))))) h)) hs_s4) (fun g2 hg2 => ?_)
          exact hg2
        · refine a_fif ?_ ?_
          · exact hj100 s3.2 hs_s3
          · refine a_fbdg (a_fr_calf (fr_132 s3.2) (fun a b h => W0 a b ((fun e => (Or.inl e)) h)) hs_s3) (fun g3 hg3 => ?_)
            refine a_fif ?_ ?_
            · refine a_fbdh (a_fr_up (W0 _ _ (Or.inr (Or.inr (Or.inr (Or.inl rfl))))) hg3) (fun H3 hH3 => ?_)
              refine a_fbdh (a_fr_up (W0 _ _ (Or.inr (Or.inr (Or.inr (Or.inl rfl))))) hH3) (fun H4 hH4 => ?_)
              refine a_fbdh (a_fr_up (W0 _ _ (Or.inr (Or.inr (Or.inr (Or.inl rfl))))) hH4) (fun H5 hH5 => ?_)
              refine a_fbdh (a_fr_up (W0 _ _ (Or.inr (Or.inr (Or.inr (Or.inl rfl))))) hH5) (fun H6 hH6 => ?_)
              refine a_fbdh (a_fr_up (W0 _ _ (Or.inr (Or.inr (Or.inr (Or.inl rfl))))) hH6) (fun H7 hH7 => ?_)
              refine a_fbdh (a_fr_up (W0 _ _ (Or.inr (Or.inr (Or.inr (Or.inl rfl))))) hH7) (fun H8 hH8 => ?_)
              refine a_fbdh (a_fr_up (W0 _ _ (Or.inr (Or.inr (Or.inr (Or.inr (Or.inl ⟨rfl, rfl⟩)))))) hH8) (fun H9 hH9 => ?_)
              refine a_fjn (fun (s : a_P) => a_fr W H s) (fun s5 hs_s5 => ?_) (fun j211 hj211 => ?_)
              · refine a_fbdh (a_fr_up (W0 _ _ (Or.inr (Or.inr (Or.inl ⟨rfl, rfl⟩)))) hs_s5) (fun H10 hH10 => ?_)
                exact hH10
              · refine a_flp (fun (s : Int × a_P) => a_fr W H s.2) ?_ ?_ a_fuel (0, H9) ?_
                · exact fun _ h => h
                · intro n158 hn158 s6 hs_s6
                  refine a_fif ?_ ?_
                  · refine a_fbdh (a_fr_call (fr_125 (s6.2 136 s6.1) (s6.2 136 (a_w (s6.1 + 1))) (s6.2 136 (a_w (s6.1 + 2))) (s6.2 136 (a_w (s6.1 + 3))) s6.2) (fun a b h => W0 a b ((fun h => Or.elim h (fun e => (Or.inr (Or.inr (Or.inr (Or.inl e))))) (fun e => (Or.inr (Or.inr (Or.inr (Or.inr (Or.inl e))))))) h)) hs_s6) (fun H11 hH11 => ?_)
                    refine a_fbdi (fun x1 => ?_)
                    exact hn158 (x1, H11) hH11
                  · exact hj211 s6.2 hs_s6
                · exact hH9
            · exact hj100 g3.2 hg3
      · refine a_fif ?_ ?_
        · exact hj86 ((-1), s2.2) hs_s2
        · refine a_fbdg (a_fr_calf (fr_133 59 s2.2) (fun a b h => W0 a b ((fun e => (Or.inl e)) h)) hs_s2) (fun g4 hg4 => ?_)
          refine a_fif ?_ ?_
          · exact hj86 (0, g4.2) hg4
          · refine a_fbdg (a_fr_calf (fr_139 g1.1 g4.2) (fun a b h => W0 a b ((fun h => Or.elim h (fun e => (Or.inl e)) (fun h => Or.elim h (fun e => (Or.inr (Or.inr (Or.inr (Or.inr (Or.inr e)))))) (fun e => (Or.inr (Or.inl e))))) h)) hg4) (fun g5 hg5 => ?_)
            exact hj86 (g5.1, g5.2) hg5
    · refine a_fif ?_ ?_
      · exact hj59 ((-1), s1.2) hs_s1
      · refine a_fbdg (a_fr_calf (fr_133 47 s1.2) (fun a b h => W0 a b ((fun e => (Or.inl e)) h)) hs_s1) (fun g6 hg6 => ?_)
        refine a_fif ?_ ?_
        · exact hj59 (0, g6.2) hg6
        · refine a_fbdg (a_fr_calf (fr_134 63 g6.2) (fun a b h => W0 a b ((fun e => (Or.inl e)) h)) hg6) (fun g7 hg7 => ?_)
          exact hj59 (g7.1, g7.2) hg7
  · refine a_fif ?_ ?_
    · exact hj31 ((-1), g1.2) hg1
    · refine a_fbdg (a_fr_calf (fr_136 0 g1.2) (fun a b h => W0 a b ((fun e => (Or.inl e)) h)) hg1) (fun g8 hg8 => ?_)
      exact hj31 (g8.1, g8.2) hg8
def w_121 (a1 : Int) (a b : Int) : Prop := a = 134
theorem fr_121 (a1 : Int) (H : a_P) : a_fr (w_121 a1) H (fn_121 a1 H) := by
  generalize hW : w_121 a1 = W
  have W0 : ∀ a b, w_121 a1 a b → W a b := fun a b h => by rw [← hW]; exact h
  unfold fn_121
  refine a_fbdi (fun x1 => ?_)
  refine a_fbdi (fun x2 => ?_)
  refine a_fjn (fun (s : a_P) => a_fr W H s) (fun s1 hs_s1 => ?_) (fun j66 hj66 => ?_)
  · exact hs_s1
  · refine a_fif ?_ ?_
    · refine a_fjn (fun (s : Int) => a_fr W H H) (fun s2 hs_s2 => ?_) (fun j52 hj52 => ?_)
      · refine a_fbdh (a_fr_up (W0 _ _ rfl) a_fr_refl) (fun H2 hH2 => ?_)
        exact hj66 H2 hH2
      · refine a_fif ?_ ?_
        · exact hj52 4 a_fr_refl
        · exact hj52 (a_rem (a_w (x1 + 2)) 4) a_fr_refl
    · refine a_fbdh (a_fr_up (W0 _ _ rfl) a_fr_refl) (fun H1 hH1 => ?_)
      exact hj66 H1 hH1
def w_123 (a1 : Int) (a b : Int) : Prop := a = 134
theorem fr_123 (a1 : Int) (H : a_P) : a_fr (w_123 a1) H (fn_123 a1 H) := by
  generalize hW : w_123 a1 = W
  have W0 : ∀ a b, w_123 a1 a b → W a b := fun a b h => by rw [← hW]; exact h
  unfold fn_123
  refine a_fjn (fun (s : a_P) => a_fr W H s) (fun s1 hs_s1 => ?_) (fun j33 hj33 => ?_)
  · refine a_fbdi (fun x1 => ?_)
    refine a_fjn (fun (s : a_P) => a_fr W H s) (fun s2 hs_s2 => ?_) (fun j108 hj108 => ?_)
    · refine a_fbdi (fun x2 => ?_)
      refine a_fjn (fun (s : a_P) => a_fr W H s) (fun s3 hs_s3 => ?_) (fun j183 hj183 => ?_)
      · refine a_fjn (fun (s : a_P) => a_fr W H s) (fun s4 hs_s4 => ?_) (fun j209 hj209 => ?_)
        · refine a_fbdh (a_fr_up (W0 _ _ rfl) hs_s4) (fun H1 hH1 => ?_)
          exact hH1
        · refine a_fif ?_ ?_
          · exact hj209 s3 hs_s3
          · refine a_fif ?_ ?_
            · refine a_fbdh (a_fr_up (W0 _ _ rfl) hs_s3) (fun H2 hH2 => ?_)
              exact hj209 H2 hH2
            · exact hj209 s3 hs_s3
      · refine a_flp (fun (s : Int × a_P) => a_fr W H s.2) ?_ ?_ a_fuel (0, s2) ?_
        · exact fun _ h => h
        · intro n118 hn118 s5 hs_s5
          refine a_fif ?_ ?_
          · refine a_fjn (fun (s : Int) => a_fr W H H) (fun s6 hs_s6 => ?_) (fun j150 hj150 => ?_)
            · refine a_fbdi (fun x3 => ?_)
              refine a_fjn (fun (s : Int) => a_fr W H H) (fun s7 hs_s7 => ?_) (fun j176 hj176 => ?_)
              · refine a_fbdh (a_fr_up (W0 _ _ rfl) hs_s5) (fun H3 hH3 => ?_)
                refine a_fbdi (fun x4 => ?_)
                exact hn118 (x4, H3) hH3
              · refine a_fif ?_ ?_
                · exact hj176 20 a_fr_refl
                · exact hj176 x3 a_fr_refl
            · refine a_fif ?_ ?_
              · exact hj150 (-1) a_fr_refl
              · exact hj150 1 a_fr_refl
          · exact hj183 s5.2 hs_s5
        · exact hs_s2
    · refine a_flp (fun (s : Int × a_P) => a_fr W H s.2) ?_ ?_ a_fuel (0, s1) ?_
      · exact fun _ h => h
      · intro n40 hn40 s8 hs_s8
        refine a_fif ?_ ?_
        · refine a_fjn (fun (s : a_P) => a_fr W H s) (fun s9 hs_s9 => ?_) (fun j102 hj102 => ?_)
          · refine a_fbdi (fun x5 => ?_)
            exact hn40 (x5, s9) hs_s9
          · refine a_fif ?_ ?_
            · exact hj102 s8.2 hs_s8
            · refine a_fif ?_ ?_
              · refine a_fbdi (fun x6 => ?_)
                refine a_fjn (fun (s : Int) => a_fr W H H) (fun s10 hs_s10 => ?_) (fun j101 hj101 => ?_)
                · refine a_fbdh (a_fr_up (W0 _ _ rfl) hs_s8) (fun H4 hH4 => ?_)
                  exact hj102 H4 hH4
                · refine a_fif ?_ ?_
                  · exact hj101 99 a_fr_refl
                  · exact hj101 x6 a_fr_refl
              · exact hj102 s8.2 hs_s8
        · exact hj108 s8.2 hs_s8
      · exact hs_s1
  · refine a_flp (fun (s : Int × a_P) => a_fr W H s.2) ?_ ?_ a_fuel (0, H) ?_
    · exact fun _ h => h
    · intro n2 hn2 s11 hs_s11
      refine a_fif ?_ ?_
      · refine a_fjn (fun (s : a_P) => a_fr W H s) (fun s12 hs_s12 => ?_) (fun j27 hj27 => ?_)
        · refine a_fbdi (fun x7 => ?_)
          exact hn2 (x7, s12) hs_s12
        · refine a_fif ?_ ?_
          · exact hj27 s11.2 hs_s11
          · refine a_fbdh (a_fr_call (fr_121 s11.1 s11.2) (fun a b h => W0 a b ((fun e => e) h)) hs_s11) (fun H5 hH5 => ?_)
            exact hj27 H5 hH5
      · exact hj33 s11.2 hs_s11
    · exact a_fr_refl
def w_124 (a b : Int) : Prop := a = 134
theorem fr_124 (H : a_P) : a_fr (w_124) H (fn_124 H) := by
  generalize hW : w_124 = W
  have W0 : ∀ a b, w_124 a b → W a b := fun a b h => by rw [← hW]; exact h
  unfold fn_124
  refine a_fjn (fun (s : Int) => a_fr W H H) (fun s1 hs_s1 => ?_) (fun j28 hj28 => ?_)
  · refine a_fbdh (a_fr_call (fr_123 s1 H) (fun a b h => W0 a b ((fun e => e) h)) a_fr_refl) (fun H1 hH1 => ?_)
    exact hH1
  · refine a_fif ?_ ?_
    · exact hj28 1 a_fr_refl
    · exact hj28 0 a_fr_refl
def w_142 (a b : Int) : Prop := (a = 133 ∧ b = 7) ∨ a = 137
theorem fr_142 (H : a_P) : a_fr (w_142) H (fn_142 H) := by
  generalize hW : w_142 = W
  have W0 : ∀ a b, w_142 a b → W a b := fun a b h => by rw [← hW]; exact h
  unfold fn_142
  refine a_fjn (fun (s : a_P) => a_fr W H s) (fun s1 hs_s1 => ?_) (fun j46 hj46 => ?_)
  · refine a_fjn (fun (s : a_P) => a_fr W H s) (fun s2 hs_s2 => ?_) (fun j80 hj80 => ?_)
    · refine a_fbdh (a_fr_up (W0 _ _ (Or.inl ⟨rfl, rfl⟩)) hs_s2) (fun H1 hH1 => ?_)
      exact hH1
    · refine a_flp (fun (s : Int × a_P) => a_fr W H s.2) ?_ ?_ a_fuel (0, s1) ?_
      · exact fun _ h => h
      · intro n48 hn48 s3 hs_s3
        refine a_fif ?_ ?_
        · refine a_fbdh (a_fr_up (W0 _ _ (Or.inr rfl)) hs_s3) (fun H2 hH2 => ?_)
          refine a_fbdi (fun x1 => ?_)
          exact hn48 (x1, H2) hH2
        · exact hj80 s3.2 hs_s3
      · exact hs_s1
  · refine a_fif ?_ ?_
    · refine a_fjn (fun (s : a_P) => a_fr W H s) (fun s4 hs_s4 => ?_) (fun j40 hj40 => ?_)
      · refine a_fbdh (a_fr_up (W0 _ _ (Or.inl ⟨rfl, rfl⟩)) hs_s4) (fun H3 hH3 => ?_)
        exact hj46 H3 hH3
      · refine a_flp (fun (s : Int × a_P) => a_fr W H s.2) ?_ ?_ a_fuel (47, H) ?_
        · exact fun _ h => h
        · intro n12 hn12 s5 hs_s5
          refine a_fif ?_ ?_
          · refine a_fbdh (a_fr_up (W0 _ _ (Or.inr rfl)) hs_s5) (fun H4 hH4 => ?_)
            refine a_fbdi (fun x2 => ?_)
            exact hn12 (x2, H4) hH4
          · exact hj40 s5.2 hs_s5
        · exact a_fr_refl
    · exact hj46 H a_fr_refl
def w_143 (a1 : Int) (a b : Int) : Prop := (a = 133 ∧ b = 7) ∨ a = 137 ∨ a = 134
theorem fr_143 (a1 : Int) (H : a_P) : a_fr2 (w_143 a1) H (fn_143 a1 H) := by
  generalize hW : w_143 a1 = W
  have W0 : ∀ a b, w_143 a1 a b → W a b := fun a b h => by rw [← hW]; exact h
  unfold fn_143
  refine a_fif ?_ ?_
  · exact a_fr_refl
  · refine a_fif ?_ ?_
    · exact a_fr_refl
    · refine a_flp (fun (s : Int × a_P) => a_fr W H s.2) ?_ ?_ a_fuel (0, H) ?_
      · exact fun _ h => h
      · intro n33 hn33 s1 hs_s1
        refine a_fif ?_ ?_
        · refine a_fbdh (a_fr_call (fr_142 s1.2) (fun a b h => W0 a b ((fun h => Or.elim h (fun e => (Or.inl e)) (fun e => (Or.inr (Or.inl e)))) h)) hs_s1) (fun H1 hH1 => ?_)
          refine a_fbdh (a_fr_call (fr_124 H1) (fun a b h => W0 a b ((fun e => (Or.inr (Or.inr e))) h)) hH1) (fun H2 hH2 => ?_)
          refine a_fbdi (fun x1 => ?_)
          exact hn33 (x1, H2) hH2
        · exact hs_s1
      · exact a_fr_refl
def w_144 (a1 : Int) (a b : Int) : Prop := (a = 133 ∧ b = 7) ∨ a = 137 ∨ a = 134
theorem fr_144 (a1 : Int) (H : a_P) : a_fr2 (w_144 a1) H (fn_144 a1 H) := by
  generalize hW : w_144 a1 = W
  have W0 : ∀ a b, w_144 a1 a b → W a b := fun a b h => by rw [← hW]; exact h
  unfold fn_144
  refine a_fif ?_ ?_
  · exact a_fr_refl
  · refine a_fbdi (fun x1 => ?_)
    refine a_fbdi (fun x2 => ?_)
    refine a_fjn (fun (s : Unit) => a_fr W H H) (fun s1 hs_s1 => ?_) (fun j57 hj57 => ?_)
    · exact a_fr_refl
    · refine a_fif ?_ ?_
      · exact hj57 () a_fr_refl
      · refine a_fif ?_ ?_
        · exact hj57 () a_fr_refl
        · refine a_fif ?_ ?_
          · exact hj57 () a_fr_refl
          · refine a_fbdh (a_fr_call (fr_142 H) (fun a b h => W0 a b ((fun h => Or.elim h (fun e => (Or.inl e)) (fun e => (Or.inr (Or.inl e)))) h)) a_fr_refl) (fun H1 hH1 => ?_)
            refine a_fbdh (a_fr_up (W0 _ _ (Or.inr (Or.inr rfl))) hH1) (fun H2 hH2 => ?_)
            refine a_fbdh (a_fr_up (W0 _ _ (Or.inr (Or.inr rfl))) hH2) (fun H3 hH3 => ?_)
            refine a_fbdh (a_fr_up (W0 _ _ (Or.inr (Or.inr rfl))) hH3) (fun H4 hH4 => ?_)
            exact hH4
def w_145 (a1 : Int) (a b : Int) : Prop := (a = 133 ∧ b = 7) ∨ a = 137 ∨ a = 134
theorem fr_145 (a1 : Int) (H : a_P) : a_fr2 (w_145 a1) H (fn_145 a1 H) := by
  generalize hW : w_145 a1 = W
  have W0 : ∀ a b, w_145 a1 a b → W a b := fun a b h => by rw [← hW]; exact h
  unfold fn_145
  refine a_fif ?_ ?_
  · exact a_fr_refl
  · refine a_fif ?_ ?_
    · exact a_fr_refl
    · refine a_fbdh (a_fr_call (fr_142 H) (fun a b h => W0 a b ((fun h => Or.elim h (fun e => (Or.inl e)) (fun e => (Or.inr (Or.inl e)))) h)) a_fr_refl) (fun H1 hH1 => ?_)
      refine a_fbdh (a_fr_up (W0 _ _ (Or.inr (Or.inr rfl))) hH1) (fun H2 hH2 => ?_)
      exact hH2
def w_146 (a1 : Int) (a b : Int) : Prop := (a = 133 ∧ b = 7) ∨ a = 137 ∨ a = 134
theorem fr_146 (a1 : Int) (H : a_P) : a_fr2 (w_146 a1) H (fn_146 a1 H) := by
  generalize hW : w_146 a1 = W
  have W0 : ∀ a b, w_146 a1 a b → W a b := fun a b h => by rw [← hW]; exact h
  unfold fn_146
  refine a_fif ?_ ?_
  · exact a_fr_refl
  · refine a_fbdi (fun x1 => ?_)
    refine a_fjn (fun (s : Unit) => a_fr W H H) (fun s1 hs_s1 => ?_) (fun j57 hj57 => ?_)
    · exact a_fr_refl
    · refine a_fif ?_ ?_
      · exact hj57 () a_fr_refl
      · refine a_fif ?_ ?_
        · exact hj57 () a_fr_refl
        · refine a_fif ?_ ?_
          · exact hj57 () a_fr_refl
          · refine a_fbdh (a_fr_call (fr_142 H) (fun a b h => W0 a b ((fun h => Or.elim h (fun e => (Or.inl e)) (fun e => (Or.inr (Or.inl e)))) h)) a_fr_refl) (fun H1 hH1 => ?_)
            refine a_fbdh (a_fr_up (W0 _ _ (Or.inr (Or.inr rfl))) hH1) (fun H2 hH2 => ?_)
            refine a_fbdh (a_fr_up (W0 _ _ (Or.inr (Or.inr rfl))) hH2) (fun H3 hH3 => ?_)
            exact hH3
def w_147 (a b : Int) : Prop := (a = 133 ∧ b = 7) ∨ a = 137 ∨ a = 134
theorem fr_147 (H : a_P) : a_fr2 (w_147) H (fn_147 H) := by
  generalize hW : w_147 = W
  have W0 : ∀ a b, w_147 a b → W a b := fun a b h => by rw [← hW]; exact h
  unfold fn_147
  refine a_fbdi (fun x1 => ?_)
  refine a_fif ?_ ?_
  · exact a_fr_refl
  · refine a_fbdh (a_fr_call (fr_142 H) (fun a b h => W0 a b ((fun h => Or.elim h (fun e => (Or.inl e)) (fun e => (Or.inr (Or.inl e)))) h)) a_fr_refl) (fun H1 hH1 => ?_)
    refine a_fbdh (a_fr_up (W0 _ _ (Or.inr (Or.inr rfl))) hH1) (fun H2 hH2 => ?_)
    exact hH2
def w_148 (a1 : Int) (a2 : Int) (a b : Int) : Prop := (a = 133 ∧ b = 7) ∨ a = 137 ∨ a = 134
theorem fr_148 (a1 : Int) (a2 : Int) (H : a_P) : a_fr2 (w_148 a1 a2) H (fn_148 a1 a2 H) := by
  generalize hW : w_148 a1 a2 = W
  have W0 : ∀ a b, w_148 a1 a2 a b → W a b := fun a b h => by rw [← hW]; exact h
  unfold fn_148
  refine a_fjn (fun (s : Unit) => a_fr W H H) (fun s1 hs_s1 => ?_) (fun j20 hj20 => ?_)
  · exact a_fr_refl
  · refine a_fif ?_ ?_
    · exact hj20 () a_fr_refl
    · refine a_fif ?_ ?_
      · exact hj20 () a_fr_refl
      · refine a_fbdi (fun x1 => ?_)
        refine a_fif ?_ ?_
        · exact a_fr_refl
        · refine a_fbdh (a_fr_call (fr_142 H) (fun a b h => W0 a b ((fun h => Or.elim h (fun e => (Or.inl e)) (fun e => (Or.inr (Or.inl e)))) h)) a_fr_refl) (fun H1 hH1 => ?_)
          refine a_fbdh (a_fr_up (W0 _ _ (Or.inr (Or.inr rfl))) hH1) (fun H2 hH2 => ?_)
          exact hH2
def w_149 (a1 : Int) (a b : Int) : Prop := (a = 133 ∧ b = 7) ∨ a = 137 ∨ a = 134
theorem fr_149 (a1 : Int) (H : a_P) : a_fr2 (w_149 a1) H (fn_149 a1 H) := by
  generalize hW : w_149 a1 = W
  have W0 : ∀ a b, w_149 a1 a b → W a b := fun a b h => by rw [← hW]; exact h
  unfold fn_149
  refine a_fif ?_ ?_
  · exact a_fr_refl
  · refine a_fbdi (fun x1 => ?_)
    refine a_fif ?_ ?_
    · exact a_fr_refl
    · refine a_fbdh (a_fr_call (fr_142 H) (fun a b h => W0 a b ((fun h => Or.elim h (fun e => (Or.inl e)) (fun e => (Or.inr (Or.inl e)))) h)) a_fr_refl) (fun H1 hH1 => ?_)
      refine a_fbdh (a_fr_up (W0 _ _ (Or.inr (Or.inr rfl))) hH1) (fun H2 hH2 => ?_)
      exact hH2
def w_150 (a1 : Int) (a b : Int) : Prop := (a = 133 ∧ b = 7) ∨ a = 137 ∨ a = 134
theorem fr_150 (a1 : Int) (H : a_P) : a_fr2 (w_150 a1) H (fn_150 a1 H) := by
  generalize hW : w_150 a1 = W
  have W0 : ∀ a b, w_150 a1 a b → W a b := fun a b h => by rw [← hW]; exact h
  unfold fn_150
  refine a_fif ?_ ?_
  · exact a_fr_refl
  · refine a_fif ?_ ?_
    · exact a_fr_refl
    · refine a_flp (fun (s : Int × a_P) => a_fr W H s.2) ?_ ?_ a_fuel (0, H) ?_
      · exact fun _ h => h
      · intro n33 hn33 s1 hs_s1
        refine a_fif ?_ ?_
        · refine a_fbdh (a_fr_call (fr_142 s1.2) (fun a b h => W0 a b ((fun h => Or.elim h (fun e => (Or.inl e)) (fun e => (Or.inr (Or.inl e)))) h)) hs_s1) (fun H1 hH1 => ?_)
          refine a_fbdi (fun x1 => ?_)
          refine a_fbdh (a_fr_up (W0 _ _ (Or.inr (Or.inr rfl))) hH1) (fun H2 hH2 => ?_)
          refine a_fjn (fun (s : a_P) => a_fr W H s) (fun s2 hs_s2 => ?_) (fun j119 hj119 => ?_)
          · refine a_fbdh (a_fr_call (fr_124 s2) (fun a b h => W0 a b ((fun e => (Or.inr (Or.inr e))) h)) hs_s2) (fun H3 hH3 => ?_)
            refine a_fbdi (fun x2 => ?_)
            exact hn33 (x2, H3) hH3
          · refine a_fif ?_ ?_
            · refine a_fbdh (a_fr_up (W0 _ _ (Or.inr (Or.inr rfl))) hH2) (fun H4 hH4 => ?_)
              exact hj119 H4 hH4
            · exact hj119 H2 hH2
        · exact hs_s1
      · exact a_fr_refl
def w_151 (a b : Int) : Prop := (a = 133 ∧ b = 7) ∨ a = 134
theorem fr_151 (H : a_P) : a_fr2 (w_151) H (fn_151 H) := by
  generalize hW : w_151 = W
  have W0 : ∀ a b, w_151 a b → W a b := fun a b h => by rw [← hW]; exact h
  unfold fn_151
  refine a_fif ?_ ?_
  · exact a_fr_refl
  · refine a_fbdh (a_fr_up (W0 _ _ (Or.inl ⟨rfl, rfl⟩)) a_fr_refl) (fun H1 hH1 => ?_)
    refine a_flp (fun (s : Int × a_P) => a_fr W H s.2) ?_ ?_ a_fuel (0, H1) ?_
    · exact fun _ h => h
    · intro n22 hn22 s1 hs_s1
      refine a_fif ?_ ?_
      · refine a_fbdh (a_fr_up (W0 _ _ (Or.inr rfl)) hs_s1) (fun H2 hH2 => ?_)
        refine a_fbdi (fun x1 => ?_)
        exact hn22 (x1, H2) hH2
      · exact hs_s1
    · exact hH1
def w_152 (a1 : Int) (a b : Int) : Prop := a = 134
theorem fr_152 (a1 : Int) (H : a_P) : a_fr2 (w_152 a1) H (fn_152 a1 H) := by
  generalize hW : w_152 a1 = W
  have W0 : ∀ a b, w_152 a1 a b → W a b := fun a b h => by rw [← hW]; exact h
  unfold fn_152
  refine a_fif ?_ ?_
  · exact a_fr_refl
  · refine a_fbdi (fun x1 => ?_)
    refine a_fbdh (a_fr_up (W0 _ _ rfl) a_fr_refl) (fun H1 hH1 => ?_)
    exact hH1
def w_153 (a b : Int) : Prop := a = 138
theorem fr_153 (H : a_P) : a_fr (w_153) H (fn_153 H) := by
  generalize hW : w_153 = W
  have W0 : ∀ a b, w_153 a b → W a b := fun a b h => by rw [← hW]; exact h
  unfold fn_153
  refine a_flp (fun (s : Int × a_P) => a_fr W H s.2) ?_ ?_ a_fuel (0, H) ?_
  · exact fun _ h => h
  · intro n2 hn2 s1 hs_s1
    refine a_fif ?_ ?_
    · refine a_fbdh (a_fr_up (W0 _ _ rfl) hs_s1) (fun H1 hH1 => ?_)
      refine a_fbdi (fun x1 => ?_)
      exact hn2 (x1, H1) hH1
    · exact hs_s1
  · exact a_fr_refl
def w_154 (a b : Int) : Prop := a = 134
theorem fr_154 (H : a_P) : a_fr (w_154) H (fn_154 H) := by
  generalize hW : w_154 = W
  have W0 : ∀ a b, w_154 a b → W a b := fun a b h => by rw [← hW]; exact h
  unfold fn_154
  refine a_flp (fun (s : Int × a_P) => a_fr W H s.2) ?_ ?_ a_fuel (0, H) ?_
  · exact fun _ h => h
  · intro n2 hn2 s1 hs_s1
    refine a_fif ?_ ?_
    · refine a_fbdh (a_fr_up (W0 _ _ rfl) hs_s1) (fun H1 hH1 => ?_)
      refine a_fbdi (fun x1 => ?_)
      exact hn2 (x1, H1) hH1
    · exact hs_s1
  · exact a_fr_refl
def w_155 (a1 : Int) (a b : Int) : Prop := a = 134
theorem fr_155 (a1 : Int) (H : a_P) : a_fr (w_155 a1) H (fn_155 a1 H) := by
  generalize hW : w_155 a1 = W
  have W0 : ∀ a b, w_155 a1 a b → W a b := fun a b h => by rw [← hW]; exact h
  unfold fn_155
  refine a_flp (fun (s : Int × a_P) => a_fr W H s.2) ?_ ?_ a_fuel (0, H) ?_
  · exact fun _ h => h
  · intro n2 hn2 s1 hs_s1
    refine a_fif ?_ ?_
    · refine a_fbdh (a_fr_call (fr_124 s1.2) (fun a b h => W0 a b ((fun e => e) h)) hs_s1) (fun H1 hH1 => ?_)
      refine a_fbdi (fun x1 => ?_)
      exact hn2 (x1, H1) hH1
    · exact hs_s1
  · exact a_fr_refl
def w_156 (a1 : Int) (a b : Int) : Prop := a = 138 ∨ a = 134
theorem fr_156 (a1 : Int) (H : a_P) : a_fr2 (w_156 a1) H (fn_156 a1 H) := by
  generalize hW : w_156 a1 = W
  have W0 : ∀ a b, w_156 a1 a b → W a b := fun a b h => by rw [← hW]; exact h
  unfold fn_156
  refine a_fif ?_ ?_
  · exact a_fr_refl
  · refine a_fbdh (a_fr_call (fr_153 H) (fun a b h => W0 a b ((fun e => (Or.inl e)) h)) a_fr_refl) (fun H1 hH1 => ?_)
    refine a_fbdh (a_fr_call (fr_155 a1 H1) (fun a b h => W0 a b ((fun e => (Or.inr e)) h)) hH1) (fun H2 hH2 => ?_)
    refine a_fbdi (fun x1 => ?_)
    refine a_fbdh (a_fr_call (fr_154 H2) (fun a b h => W0 a b ((fun e => (Or.inr e)) h)) hH2) (fun H3 hH3 => ?_)
    exact hH3
def w_157 (a1 : Int) (a2 : Int) (a3 : Int) (a b : Int) : Prop := a = 138 ∨ a = 134
theorem fr_157 (a1 : Int) (a2 : Int) (a3 : Int) (H : a_P) : a_fr2 (w_157 a1 a2 a3) H (fn_157 a1 a2 a3 H) := by
  generalize hW : w_157 a1 a2 a3 = W
  have W0 : ∀ a b, w_157 a1 a2 a3 a b → W a b := fun a b h => by rw [← hW]; exact h
  unfold fn_157
  refine a_fjn (fun (s : Unit) => a_fr W H H) (fun s1 hs_s1 => ?_) (fun j32 hj32 => ?_)
  · exact a_fr_refl
  · refine a_fif ?_ ?_
    · exact hj32 () a_fr_refl
    · refine a_fif ?_ ?_
      · exact hj32 () a_fr_refl
      · refine a_fif ?_ ?_
        · exact hj32 () a_fr_refl
        · refine a_fbdh (a_fr_call (fr_153 H) (fun a b h => W0 a b ((fun e => (Or.inl e)) h)) a_fr_refl) (fun H1 hH1 => ?_)
          refine a_fbdh (a_fr_call (fr_155 a2 H1) (fun a b h => W0 a b ((fun e => (Or.inr e)) h)) hH1) (fun H2 hH2 => ?_)
          refine a_fjn (fun (s : Int) => a_fr W H H) (fun s2 hs_s2 => ?_) (fun j91 hj91 => ?_)
          · refine a_fbdh (a_fr_call (fr_154 H2) (fun a b h => W0 a b ((fun e => (Or.inr e)) h)) hH2) (fun H3 hH3 => ?_)
            exact hH3
          · refine a_fif ?_ ?_
            · exact hj91 (H2 134 (a_w (15 + a1))) a_fr_refl
            · refine a_fif ?_ ?_
              · exact hj91 (H2 134 (a_w (39 + a1))) a_fr_refl
              · refine a_fif ?_ ?_
                · exact hj91 1 a_fr_refl
                · exact hj91 0 a_fr_refl
def w_158 (a b : Int) : Prop := a = 138 ∨ a = 134
theorem fr_158 (H : a_P) : a_fr2 (w_158) H (fn_158 H) := by
  generalize hW : w_158 = W
  have W0 : ∀ a b, w_158 a b → W a b := fun a b h => by rw [← hW]; exact h
  unfold fn_158
  refine a_fbdh (a_fr_call (fr_153 H) (fun a b h => W0 a b ((fun e => (Or.inl e)) h)) a_fr_refl) (fun H1 hH1 => ?_)
  refine a_fjn (fun (s : Int × a_P) => a_fr W H s.2) (fun s1 hs_s1 => ?_) (fun j29 hj29 => ?_)
  · refine a_fbdh (a_fr_call (fr_154 s1.2) (fun a b h => W0 a b ((fun e => (Or.inr e)) h)) hs_s1) (fun H2 hH2 => ?_)
    refine a_fjn (fun (s : Int) => a_fr W H H) (fun s2 hs_s2 => ?_) (fun j45 hj45 => ?_)
    · exact hH2
    · refine a_fif ?_ ?_
      · exact hj45 s1.1 a_fr_refl
      · exact hj45 (-4) a_fr_refl
  · refine a_flp (fun (s : Int × a_P) => a_fr W H s.2) ?_ ?_ a_fuel (0, H1) ?_
    · exact fun _ h => h
    · intro n6 hn6 s3 hs_s3
      refine a_fif ?_ ?_
      · refine a_fif ?_ ?_
        · exact hj29 (s3.1, s3.2) hs_s3
        · refine a_fbdh (a_fr_call (fr_124 s3.2) (fun a b h => W0 a b ((fun e => (Or.inr e)) h)) hs_s3) (fun H3 hH3 => ?_)
          refine a_fbdi (fun x1 => ?_)
          exact hn6 (x1, H3) hH3
      · exact hj29 (s3.1, s3.2) hs_s3
    · exact hH1
def w_159 (a1 : Int) (a b : Int) : Prop := a = 134
theorem fr_159 (a1 : Int) (H : a_P) : a_fr2 (w_159 a1) H (fn_159 a1 H) := by
  generalize hW : w_159 a1 = W
  have W0 : ∀ a b, w_159 a1 a b → W a b := fun a b h => by rw [← hW]; exact h
  unfold fn_159
  refine a_fbdh (a_fr_call (fr_155 a1 H) (fun a b h => W0 a b ((fun e => e) h)) a_fr_refl) (fun H1 hH1 => ?_)
  refine a_fbdi (fun x1 => ?_)
  refine a_fbdh (a_fr_call (fr_154 H1) (fun a b h => W0 a b ((fun e => e) h)) hH1) (fun H2 hH2 => ?_)
  exact hH2
def w_160 (a1 : Int) (a b : Int) : Prop := a = 138 ∨ a = 134
theorem fr_160 (a1 : Int) (H : a_P) : a_fr2 (w_160 a1) H (fn_160 a1 H) := by
  generalize hW : w_160 a1 = W
  have W0 : ∀ a b, w_160 a1 a b → W a b := fun a b h => by rw [← hW]; exact h
  unfold fn_160
  refine a_fif ?_ ?_
  · exact a_fr_refl
  · refine a_fbdh (a_fr_call (fr_153 H) (fun a b h => W0 a b ((fun e => (Or.inl e)) h)) a_fr_refl) (fun H1 hH1 => ?_)
    refine a_fbdg (a_fr_calf (fr_159 a1 H1) (fun a b h => W0 a b ((fun e => (Or.inr e)) h)) hH1) (fun g1 hg1 => ?_)
    exact hg1
def w_161 (a1 : Int) (a2 : Int) (a b : Int) : Prop := a = 138 ∨ a = 134
theorem fr_161 (a1 : Int) (a2 : Int) (H : a_P) : a_fr2 (w_161 a1 a2) H (fn_161 a1 a2 H) := by
  generalize hW : w_161 a1 a2 = W
  have W0 : ∀ a b, w_161 a1 a2 a b → W a b := fun a b h => by rw [← hW]; exact h
  unfold fn_161
  refine a_fjn (fun (s : Unit) => a_fr W H H) (fun s1 hs_s1 => ?_) (fun j22 hj22 => ?_)
  · exact a_fr_refl
  · refine a_fif ?_ ?_
    · exact hj22 () a_fr_refl
    · refine a_fif ?_ ?_
      · exact hj22 () a_fr_refl
      · refine a_fbdh (a_fr_call (fr_153 H) (fun a b h => W0 a b ((fun e => (Or.inl e)) h)) a_fr_refl) (fun H1 hH1 => ?_)
        refine a_fjn (fun (s : Int × Int × a_P) => a_fr W H s.2.2) (fun s2 hs_s2 => ?_) (fun j95 hj95 => ?_)
        · refine a_fjn (fun (s : Int) => a_fr W H H) (fun s3 hs_s3 => ?_) (fun j105 hj105 => ?_)
          · exact hs_s2
          · refine a_fif ?_ ?_
            · exact hj105 s2.1 a_fr_refl
            · exact hj105 s2.2.1 a_fr_refl
        · refine a_flp (fun (s : Int × Int × Int × a_P) => a_fr W H s.2.2.2) ?_ ?_ a_fuel (0, 9999, 0, H1) ?_
          · exact fun _ h => h
          · intro n38 hn38 s4 hs_s4
            refine a_fif ?_ ?_
            · refine a_fbdh (a_fr_up (W0 _ _ (Or.inr rfl)) hs_s4) (fun H2 hH2 => ?_)
              refine a_fbdg (a_fr_calf (fr_159 a1 H2) (fun a b h => W0 a b ((fun e => (Or.inr e)) h)) hH2) (fun g1 hg1 => ?_)
              refine a_fjn (fun (s : Int) => a_fr W H H) (fun s5 hs_s5 => ?_) (fun j72 hj72 => ?_)
              · refine a_fjn (fun (s : Int) => a_fr W H H) (fun s6 hs_s6 => ?_) (fun j87 hj87 => ?_)
                · refine a_fbdi (fun x1 => ?_)
                  exact hn38 (s5, s6, x1, g1.2) hg1
                · refine a_fif ?_ ?_
                  · exact hj87 g1.1 a_fr_refl
                  · exact hj87 s4.2.1 a_fr_refl
              · refine a_fif ?_ ?_
                · exact hj72 s4.2.2.1 a_fr_refl
                · exact hj72 s4.1 a_fr_refl
            · exact hj95 (s4.1, s4.2.1, s4.2.2.2) hs_s4
          · exact hH1
def w_164 (a1 : Int) (a b : Int) : Prop := (a = 133 ∧ b = 9) ∨ a = 138 ∨ a = 134 ∨ (a = 133 ∧ b = 10) ∨ (a = 133 ∧ b = 11) ∨ (a = 133 ∧ b = 12) ∨ (a = 133 ∧ b = 13)
theorem fr_164 (a1 : Int) (H : a_P) : a_fr (w_164 a1) H (fn_164 a1 H) := by
  generalize hW : w_164 a1 = W
  have W0 : ∀ a b, w_164 a1 a b → W a b := fun a b h => by rw [← hW]; exact h
  unfold fn_164
  refine a_fbdh (a_fr_up (W0 _ _ (Or.inl ⟨rfl, rfl⟩)) a_fr_refl) (fun H1 hH1 => ?_)
  refine a_fbdh (a_fr_call (fr_153 H1) (fun a b h => W0 a b ((fun e => (Or.inr (Or.inl e))) h)) hH1) (fun H2 hH2 => ?_)
  refine a_fbdi (fun x1 => ?_)
  refine a_fbdi (fun x2 => ?_)
  refine a_flp (fun (s : Int × a_P) => a_fr W H s.2) ?_ ?_ a_fuel (0, H2) ?_
  · exact fun _ h => h
  · intro n27 hn27 s1 hs_s1
    refine a_fif ?_ ?_
    · refine a_fbdi (fun x3 => ?_)
      refine a_fjn (fun (s : Int) => a_fr W H H) (fun s2 hs_s2 => ?_) (fun j65 hj65 => ?_)
      · refine a_fbdi (fun x4 => ?_)
        refine a_fjn (fun (s : a_P) => a_fr W H s) (fun s3 hs_s3 => ?_) (fun j264 hj264 => ?_)
        · refine a_fbdi (fun x5 => ?_)
          exact hn27 (x5, s3) hs_s3
        · refine a_fif ?_ ?_
          · refine a_fbdh (a_fr_up (W0 _ _ (Or.inr (Or.inr (Or.inl rfl)))) hs_s1) (fun H3 hH3 => ?_)
            refine a_fbdh (a_fr_up (W0 _ _ (Or.inr (Or.inr (Or.inl rfl)))) hH3) (fun H4 hH4 => ?_)
            refine a_fbdh (a_fr_up (W0 _ _ (Or.inr (Or.inr (Or.inl rfl)))) hH4) (fun H5 hH5 => ?_)
            refine a_fbdi (fun x6 => ?_)
            refine a_fbdh (a_fr_call (fr_154 H5) (fun a b h => W0 a b ((fun e => (Or.inr (Or.inr (Or.inl e)))) h)) hH5) (fun H6 hH6 => ?_)
            refine a_fjn (fun (s : Int) => a_fr W H H) (fun s4 hs_s4 => ?_) (fun j165 hj165 => ?_)
            · refine a_fjn (fun (s : Int) => a_fr W H H) (fun s5 hs_s5 => ?_) (fun j185 hj185 => ?_)
              · refine a_fbdh (a_fr_up (W0 _ _ (Or.inl ⟨rfl, rfl⟩)) hH6) (fun H7 hH7 => ?_)
                refine a_fjn (fun (s : Int) => a_fr W H H) (fun s6 hs_s6 => ?_) (fun j203 hj203 => ?_)
                · refine a_fbdh (a_fr_up (W0 _ _ (Or.inr (Or.inr (Or.inr (Or.inl ⟨rfl, rfl⟩))))) hH7) (fun H8 hH8 => ?_)
                  refine a_fjn (fun (s : Int) => a_fr W H H) (fun s7 hs_s7 => ?_) (fun j221 hj221 => ?_)
                  · refine a_fbdh (a_fr_up (W0 _ _ (Or.inr (Or.inr (Or.inr (Or.inr (Or.inl ⟨rfl, rfl⟩)))))) hH8) (fun H9 hH9 => ?_)
                    refine a_fjn (fun (s : Int) => a_fr W H H) (fun s8 hs_s8 => ?_) (fun j241 hj241 => ?_)
                    · refine a_fbdh (a_fr_up (W0 _ _ (Or.inr (Or.inr (Or.inr (Or.inr (Or.inr (Or.inl ⟨rfl, rfl⟩))))))) hH9) (fun H10 hH10 => ?_)
                      refine a_fjn (fun (s : Int) => a_fr W H H) (fun s9 hs_s9 => ?_) (fun j261 hj261 => ?_)
                      · refine a_fbdh (a_fr_up (W0 _ _ (Or.inr (Or.inr (Or.inr (Or.inr (Or.inr (Or.inr ⟨rfl, rfl⟩))))))) hH10) (fun H11 hH11 => ?_)
                        exact hj264 H11 hH11
                      · refine a_fif ?_ ?_
                        · exact hj261 (H10 133 13) a_fr_refl
                        · exact hj261 (a_rem s1.1 4) a_fr_refl
                    · refine a_fif ?_ ?_
                      · exact hj241 (H9 133 12) a_fr_refl
                      · exact hj241 (a_div s1.1 4) a_fr_refl
                  · refine a_fif ?_ ?_
                    · exact hj221 (H8 133 11) a_fr_refl
                    · exact hj221 x4 a_fr_refl
                · refine a_fif ?_ ?_
                  · exact hj203 (H7 133 10) a_fr_refl
                  · exact hj203 x6 a_fr_refl
              · refine a_fif ?_ ?_
                · exact hj185 (H6 133 9) a_fr_refl
                · exact hj185 (fn_163 x6) a_fr_refl
            · refine a_fjn (fun (s : Unit) => a_fr W H H) (fun s10 hs_s10 => ?_) (fun j160 hj160 => ?_)
              · exact hj165 1 a_fr_refl
              · refine a_fif ?_ ?_
                · exact hj160 () a_fr_refl
                · refine a_fjn (fun (s : Unit) => a_fr W H H) (fun s11 hs_s11 => ?_) (fun j164 hj164 => ?_)
                  · exact hj165 0 a_fr_refl
                  · refine a_fif ?_ ?_
                    · refine a_fif ?_ ?_
                      · exact hj160 () a_fr_refl
                      · exact hj164 () a_fr_refl
                    · exact hj164 () a_fr_refl
          · exact hj264 s1.2 hs_s1
      · refine a_fif ?_ ?_
        · exact hj65 0 a_fr_refl
        · exact hj65 1 a_fr_refl
    · exact hs_s1
  · exact hH2
def w_165 (a1 : Int) (a2 : Int) (a b : Int) : Prop := (a = 133 ∧ b = 9) ∨ a = 138 ∨ a = 134 ∨ (a = 133 ∧ b = 10) ∨ (a = 133 ∧ b = 11) ∨ (a = 133 ∧ b = 12) ∨ (a = 133 ∧ b = 13)
theorem fr_165 (a1 : Int) (a2 : Int) (H : a_P) : a_fr2 (w_165 a1 a2) H (fn_165 a1 a2 H) := by
  generalize hW : w_165 a1 a2 = W
  have W0 : ∀ a b, w_165 a1 a2 a b → W a b := fun a b h => by rw [← hW]; exact h
  unfold fn_165
  refine a_fjn (fun (s : Unit) => a_fr W H H) (fun s1 hs_s1 => ?_) (fun j20 hj20 => ?_)
  · exact a_fr_refl
  · refine a_fif ?_ ?_
    · exact hj20 () a_fr_refl
    · refine a_fif ?_ ?_
      · exact hj20 () a_fr_refl
      · refine a_fif ?_ ?_
        · exact a_fr_refl
        · refine a_fbdh (a_fr_call (fr_164 a1 H) (fun a b h => W0 a b ((fun h => Or.elim h (fun e => (Or.inl e)) (fun h => Or.elim h (fun e => (Or.inr (Or.inl e))) (fun h => Or.elim h (fun e => (Or.inr (Or.inr (Or.inl e)))) (fun h => Or.elim h (fun e => (Or.inr (Or.inr (Or.inr (Or.inl e))))) (fun h => Or.elim h (fun e => (Or.inr (Or.inr (Or.inr (Or.inr (Or.inl e)))))) (fun h => Or.elim h (fun e => (Or.inr (Or.inr (Or.inr (Or.inr (Or.inr (Or.inl e))))))) (fun e => (Or.inr (Or.inr (Or.inr (Or.inr (Or.inr (Or.inr e))))))))))))) h)) a_fr_refl) (fun H1 hH1 => ?_)
          refine a_fjn (fun (s : Int) => a_fr W H H) (fun s2 hs_s2 => ?_) (fun j76 hj76 => ?_)
          · exact hH1
          · refine a_fif ?_ ?_
            · exact hj76 (-4) a_fr_refl
            · refine a_fif ?_ ?_
              · exact hj76 (H1 133 11) a_fr_refl
              · refine a_fif ?_ ?_
                · exact hj76 (H1 133 12) a_fr_refl
                · exact hj76 (H1 133 13) a_fr_refl
def w_166 (a1 : Int) (a2 : Int) (a b : Int) : Prop := (a = 133 ∧ b = 9) ∨ a = 138 ∨ a = 134 ∨ (a = 133 ∧ b = 10) ∨ (a = 133 ∧ b = 11) ∨ (a = 133 ∧ b = 12) ∨ (a = 133 ∧ b = 13)
theorem fr_166 (a1 : Int) (a2 : Int) (H : a_P) : a_fr2 (w_166 a1 a2) H (fn_166 a1 a2 H) := by
  generalize hW : w_166 a1 a2 = W
  have W0 : ∀ a b, w_166 a1 a2 a b → W a b := fun a b h => by rw [← hW]; exact h
  unfold fn_166
  refine a_fjn (fun (s : Unit) => a_fr W H H) (fun s1 hs_s1 => ?_) (fun j20 hj20 => ?_)
  · exact a_fr_refl
  · refine a_fif ?_ ?_
    · exact hj20 () a_fr_refl
    · refine a_fif ?_ ?_
      · exact hj20 () a_fr_refl
      · refine a_fif ?_ ?_
        · exact a_fr_refl
        · refine a_fbdh (a_fr_call (fr_164 a1 H) (fun a b h => W0 a b ((fun h => Or.elim h (fun e => (Or.inl e)) (fun h => Or.elim h (fun e => (Or.inr (Or.inl e))) (fun h => Or.elim h (fun e => (Or.inr (Or.inr (Or.inl e)))) (fun h => Or.elim h (fun e => (Or.inr (Or.inr (Or.inr (Or.inl e))))) (fun h => Or.elim h (fun e => (Or.inr (Or.inr (Or.inr (Or.inr (Or.inl e)))))) (fun h => Or.elim h (fun e => (Or.inr (Or.inr (Or.inr (Or.inr (Or.inr (Or.inl e))))))) (fun e => (Or.inr (Or.inr (Or.inr (Or.inr (Or.inr (Or.inr e))))))))))))) h)) a_fr_refl) (fun H1 hH1 => ?_)
          refine a_fjn (fun (s : Int) => a_fr W H H) (fun s2 hs_s2 => ?_) (fun j64 hj64 => ?_)
          · exact hH1
          · refine a_fif ?_ ?_
            · exact hj64 (H1 133 9) a_fr_refl
            · refine a_fif ?_ ?_
              · exact hj64 (H1 133 10) a_fr_refl
              · exact hj64 (H1 133 11) a_fr_refl
def w_167 (a1 : Int) (a b : Int) : Prop := a = 138 ∨ a = 134
theorem fr_167 (a1 : Int) (H : a_P) : a_fr2 (w_167 a1) H (fn_167 a1 H) := by
  generalize hW : w_167 a1 = W
  have W0 : ∀ a b, w_167 a1 a b → W a b := fun a b h => by rw [← hW]; exact h
  unfold fn_167
  refine a_fif ?_ ?_
  · exact a_fr_refl
  · refine a_fbdh (a_fr_call (fr_153 H) (fun a b h => W0 a b ((fun e => (Or.inl e)) h)) a_fr_refl) (fun H1 hH1 => ?_)
    refine a_fbdg (a_fr_calf (fr_159 a1 H1) (fun a b h => W0 a b ((fun e => (Or.inr e)) h)) hH1) (fun g1 hg1 => ?_)
    refine a_fbdh (a_fr_up (W0 _ _ (Or.inr rfl)) hg1) (fun H2 hH2 => ?_)
    refine a_fbdg (a_fr_calf (fr_159 a1 H2) (fun a b h => W0 a b ((fun e => (Or.inr e)) h)) hH2) (fun g2 hg2 => ?_)
    exact hg2
def w_168 (a1 : Int) (a b : Int) : Prop := a = 138 ∨ a = 139 ∨ a = 134
theorem fr_168 (a1 : Int) (H : a_P) : a_fr2 (w_168 a1) H (fn_168 a1 H) := by
  generalize hW : w_168 a1 = W
  have W0 : ∀ a b, w_168 a1 a b → W a b := fun a b h => by rw [← hW]; exact h
  unfold fn_168
  refine a_fif ?_ ?_
  · exact a_fr_refl
  · refine a_fjn (fun (s : Int) => a_fr W H H) (fun s1 hs_s1 => ?_) (fun j33 hj33 => ?_)
    · refine a_fbdh (a_fr_call (fr_153 H) (fun a b h => W0 a b ((fun e => (Or.inl e)) h)) a_fr_refl) (fun H1 hH1 => ?_)
      refine a_fjn (fun (s : a_P) => a_fr W H s) (fun s2 hs_s2 => ?_) (fun j126 hj126 => ?_)
      · refine a_fbdi (fun x1 => ?_)
        refine a_fjn (fun (s : a_P) => a_fr W H s) (fun s3 hs_s3 => ?_) (fun j252 hj252 => ?_)
        · exact hs_s3
        · refine a_flp (fun (s : Int × Int × a_P) => a_fr W H s.2.2) ?_ ?_ a_fuel (s1, x1, s2) ?_
          · exact fun _ h => h
          · intro n133 hn133 s4 hs_s4
            refine a_fif ?_ ?_
            · exact hj252 s4.2.2 hs_s4
            · refine a_fbdi (fun x2 => ?_)
              refine a_fjn (fun (s : a_P) => a_fr W H s) (fun s5 hs_s5 => ?_) (fun j246 hj246 => ?_)
              · refine a_fbdi (fun x3 => ?_)
                exact hn133 (x2, x3, s5) hs_s5
              · refine a_flp (fun (s : Int × a_P) => a_fr W H s.2) ?_ ?_ a_fuel (0, s4.2.2) ?_
                · exact fun _ h => h
                · intro n145 hn145 s6 hs_s6
                  refine a_fif ?_ ?_
                  · refine a_fbdi (fun x4 => ?_)
                    refine a_fjn (fun (s : Int) => a_fr W H H) (fun s7 hs_s7 => ?_) (fun j231 hj231 => ?_)
                    · refine a_fbdh (a_fr_up (W0 _ _ (Or.inr (Or.inl rfl))) hs_s6) (fun H2 hH2 => ?_)
                      refine a_fbdi (fun x5 => ?_)
                      exact hn145 (x5, H2) hH2
                    · refine a_flp (fun (s : Int × Int) => a_fr W H H) ?_ ?_ a_fuel (x4, 1) ?_
                      · exact fun _ _ => hs_s6
                      · intro n165 hn165 s8 hs_s8
                        refine a_fif ?_ ?_
                        · refine a_fbdi (fun x6 => ?_)
                          refine a_fjn (fun (s : Int) => a_fr W H H) (fun s9 hs_s9 => ?_) (fun j223 hj223 => ?_)
                          · refine a_fbdi (fun x7 => ?_)
                            exact hn165 (s9, x7) a_fr_refl
                          · refine a_fif ?_ ?_
                            · refine a_fif ?_ ?_
                              · exact hj223 x6 a_fr_refl
                              · exact hj223 s8.1 a_fr_refl
                            · refine a_fif ?_ ?_
                              · exact hj223 x6 a_fr_refl
                              · exact hj223 s8.1 a_fr_refl
                        · exact hj231 s8.1 a_fr_refl
                      · exact a_fr_refl
                  · exact hj246 s6.2 hs_s6
                · exact hs_s4
          · exact hs_s2
      · refine a_flp (fun (s : Int × a_P) => a_fr W H s.2) ?_ ?_ a_fuel (0, H1) ?_
        · exact fun _ h => h
        · intro n39 hn39 s10 hs_s10
          refine a_fif ?_ ?_
          · refine a_fjn (fun (s : a_P) => a_fr W H s) (fun s11 hs_s11 => ?_) (fun j103 hj103 => ?_)
            · refine a_fbdh (a_fr_up (W0 _ _ (Or.inr (Or.inl rfl))) hs_s11) (fun H3 hH3 => ?_)
              refine a_fbdh (a_fr_call (fr_154 H3) (fun a b h => W0 a b ((fun e => (Or.inr (Or.inr e))) h)) hH3) (fun H4 hH4 => ?_)
              refine a_fbdi (fun x8 => ?_)
              exact hn39 (x8, H4) hH4
            · refine a_flp (fun (s : Int × Int × a_P) => a_fr W H s.2.2) ?_ ?_ a_fuel (s1, 0, s10.2) ?_
              · exact fun _ h => h
              · intro n50 hn50 s12 hs_s12
                refine a_fif ?_ ?_
                · refine a_fbdi (fun x9 => ?_)
                  refine a_fbdi (fun x10 => ?_)
                  refine a_fjn (fun (s : Int) => a_fr W H H) (fun s13 hs_s13 => ?_) (fun j93 hj93 => ?_)
                  · refine a_fbdh (a_fr_up (W0 _ _ (Or.inr (Or.inr rfl))) hs_s12) (fun H5 hH5 => ?_)
                    refine a_fbdi (fun x11 => ?_)
                    exact hn50 (x9, x11, H5) hH5
                  · refine a_fif ?_ ?_
                    · exact hj93 3 a_fr_refl
                    · exact hj93 x10 a_fr_refl
                · exact hj103 s12.2.2 hs_s12
              · exact hs_s10
          · exact hj126 s10.2 hs_s10
        · exact hH1
    · refine a_flp (fun (s : Int × Int) => a_fr W H H) ?_ ?_ a_fuel (1, 0) ?_
      · exact fun _ _ => a_fr_refl
      · intro n18 hn18 s14 hs_s14
        refine a_fif ?_ ?_
        · refine a_fbdi (fun x12 => ?_)
          refine a_fbdi (fun x13 => ?_)
          exact hn18 (x12, x13) a_fr_refl
        · exact hj33 s14.1 a_fr_refl
      · exact a_fr_refl
def w_169 (a1 : Int) (a2 : Int) (a b : Int) : Prop := a = 138 ∨ a = 134
theorem fr_169 (a1 : Int) (a2 : Int) (H : a_P) : a_fr2 (w_169 a1 a2) H (fn_169 a1 a2 H) := by
  generalize hW : w_169 a1 a2 = W
  have W0 : ∀ a b, w_169 a1 a2 a b → W a b := fun a b h => by rw [← hW]; exact h
  unfold fn_169
  refine a_fjn (fun (s : Unit) => a_fr W H H) (fun s1 hs_s1 => ?_) (fun j18 hj18 => ?_)
  · exact a_fr_refl
  · refine a_fif ?_ ?_
    · exact hj18 () a_fr_refl
    · refine a_fif ?_ ?_
      · exact hj18 () a_fr_refl
      · refine a_fbdh (a_fr_call (fr_153 H) (fun a b h => W0 a b ((fun e => (Or.inl e)) h)) a_fr_refl) (fun H1 hH1 => ?_)
        refine a_fjn (fun (s : Int × Int × a_P) => a_fr W H s.2.2) (fun s2 hs_s2 => ?_) (fun j91 hj91 => ?_)
        · refine a_fbdh (a_fr_call (fr_154 s2.2.2) (fun a b h => W0 a b ((fun e => (Or.inr e)) h)) hs_s2) (fun H2 hH2 => ?_)
          refine a_fjn (fun (s : Int) => a_fr W H H) (fun s3 hs_s3 => ?_) (fun j105 hj105 => ?_)
          · exact hH2
          · refine a_fif ?_ ?_
            · exact hj105 s2.1 a_fr_refl
            · exact hj105 s2.2.1 a_fr_refl
        · refine a_flp (fun (s : Int × Int × Int × a_P) => a_fr W H s.2.2.2) ?_ ?_ a_fuel (0, (-4), 0, H1) ?_
          · exact fun _ h => h
          · intro n33 hn33 s4 hs_s4
            refine a_fif ?_ ?_
            · refine a_fbdh (a_fr_up (W0 _ _ (Or.inr rfl)) hs_s4) (fun H3 hH3 => ?_)
              refine a_fbdh (a_fr_up (W0 _ _ (Or.inr rfl)) hH3) (fun H4 hH4 => ?_)
              refine a_fjn (fun (s : Int × Int) => a_fr W H H) (fun s5 hs_s5 => ?_) (fun j85 hj85 => ?_)
              · refine a_fbdi (fun x1 => ?_)
                exact hn33 (s5.1, s5.2, x1, H4) hH4
              · refine a_fif ?_ ?_
                · refine a_fjn (fun (s : Int) => a_fr W H H) (fun s6 hs_s6 => ?_) (fun j80 hj80 => ?_)
                  · refine a_fbdi (fun x2 => ?_)
                    exact hj85 (x2, s6) a_fr_refl
                  · refine a_fif ?_ ?_
                    · exact hj80 s4.2.2.1 a_fr_refl
                    · exact hj80 s4.2.1 a_fr_refl
                · exact hj85 (s4.1, s4.2.1) a_fr_refl
            · exact hj91 (s4.1, s4.2.1, s4.2.2.2) hs_s4
          · exact hH1
def w_172 (a1 : Int) (a2 : Int) (a3 : Int) (a4 : Int) (a5 : Int) (a b : Int) : Prop := a = 138 ∨ a = 134
theorem fr_172 (a1 : Int) (a2 : Int) (a3 : Int) (a4 : Int) (a5 : Int) (H : a_P) : a_fr2 (w_172 a1 a2 a3 a4 a5) H (fn_172 a1 a2 a3 a4 a5 H) := by
  generalize hW : w_172 a1 a2 a3 a4 a5 = W
  have W0 : ∀ a b, w_172 a1 a2 a3 a4 a5 a b → W a b := fun a b h => by rw [← hW]; exact h
  unfold fn_172
  refine a_fjn (fun (s : Unit) => a_fr W H H) (fun s1 hs_s1 => ?_) (fun j56 hj56 => ?_)
  · exact a_fr_refl
  · refine a_fif ?_ ?_
    · exact hj56 () a_fr_refl
    · refine a_fif ?_ ?_
      · exact hj56 () a_fr_refl
      · refine a_fif ?_ ?_
        · exact hj56 () a_fr_refl
        · refine a_fif ?_ ?_
          · exact hj56 () a_fr_refl
          · refine a_fif ?_ ?_
            · exact hj56 () a_fr_refl
            · refine a_fbdh (a_fr_call (fr_153 H) (fun a b h => W0 a b ((fun e => (Or.inl e)) h)) a_fr_refl) (fun H1 hH1 => ?_)
              refine a_fjn (fun (s : Int × Int × a_P) => a_fr W H s.2.2) (fun s2 hs_s2 => ?_) (fun j184 hj184 => ?_)
              · exact hs_s2
              · refine a_flp (fun (s : Int × Int × Int × a_P) => a_fr W H s.2.2.2) ?_ ?_ a_fuel (0, 0, 0, H1) ?_
                · exact fun _ h => h
                · intro n71 hn71 s3 hs_s3
                  refine a_fif ?_ ?_
                  · refine a_fjn (fun (s : Int × a_P) => a_fr W H s.2) (fun s4 hs_s4 => ?_) (fun j143 hj143 => ?_)
                    · refine a_fbdi (fun x1 => ?_)
                      refine a_fjn (fun (s : Int) => a_fr W H H) (fun s5 hs_s5 => ?_) (fun j171 hj171 => ?_)
                      · refine a_fbdi (fun x2 => ?_)
                        refine a_fbdh (a_fr_call (fr_154 s4.2) (fun a b h => W0 a b ((fun e => (Or.inr e)) h)) hs_s4) (fun H2 hH2 => ?_)
                        refine a_fbdi (fun x3 => ?_)
                        exact hn71 (x2, x1, x3, H2) hH2
                      · refine a_fif ?_ ?_
                        · exact hj171 0 a_fr_refl
                        · exact hj171 s4.1 a_fr_refl
                    · refine a_flp (fun (s : Int × Int × a_P) => a_fr W H s.2.2) ?_ ?_ a_fuel (1, 0, s3.2.2.2) ?_
                      · exact fun _ h => h
                      · intro n85 hn85 s6 hs_s6
                        refine a_fif ?_ ?_
                        · refine a_fjn (fun (s : Int) => a_fr W H H) (fun s7 hs_s7 => ?_) (fun j107 hj107 => ?_)
                          · refine a_fjn (fun (s : Int) => a_fr W H H) (fun s8 hs_s8 => ?_) (fun j128 hj128 => ?_)
                            · refine a_fbdi (fun x4 => ?_)
                              refine a_fbdh (a_fr_call (fr_123 s7 s6.2.2) (fun a b h => W0 a b ((fun e => (Or.inr e)) h)) hs_s6) (fun H3 hH3 => ?_)
                              refine a_fbdi (fun x5 => ?_)
                              exact hn85 (x4, x5, H3) hH3
                            · refine a_fif ?_ ?_
                              · exact hj128 (a_w (10 - a4)) a_fr_refl
                              · exact hj128 a4 a_fr_refl
                          · refine a_fif ?_ ?_
                            · exact hj107 1 a_fr_refl
                            · exact hj107 0 a_fr_refl
                        · exact hj143 (s6.1, s6.2.2) hs_s6
                      · exact hs_s3
                  · exact hj184 (s3.1, s3.2.1, s3.2.2.2) hs_s3
                · exact hH1
def w_173 (a b : Int) : Prop := (a = 133 ∧ b = 17) ∨ a = 141 ∨ a = 140
theorem fr_173 (H : a_P) : a_fr2 (w_173) H (fn_173 H) := by
  generalize hW : w_173 = W
  have W0 : ∀ a b, w_173 a b → W a b := fun a b h => by rw [← hW]; exact h
  unfold fn_173
  refine a_fjn (fun (s : a_P) => a_fr W H s) (fun s1 hs_s1 => ?_) (fun j26 hj26 => ?_)
  · refine a_fjn (fun (s : a_P) => a_fr W H s) (fun s2 hs_s2 => ?_) (fun j53 hj53 => ?_)
    · refine a_fbdh (a_fr_up (W0 _ _ (Or.inl ⟨rfl, rfl⟩)) hs_s2) (fun H1 hH1 => ?_)
      exact hH1
    · refine a_flp (fun (s : Int × a_P) => a_fr W H s.2) ?_ ?_ a_fuel (0, s1) ?_
      · exact fun _ h => h
      · intro n28 hn28 s3 hs_s3
        refine a_fif ?_ ?_
        · refine a_fbdh (a_fr_up (W0 _ _ (Or.inr (Or.inl rfl))) hs_s3) (fun H2 hH2 => ?_)
          refine a_fbdi (fun x1 => ?_)
          exact hn28 (x1, H2) hH2
        · exact hj53 s3.2 hs_s3
      · exact hs_s1
  · refine a_flp (fun (s : Int × a_P) => a_fr W H s.2) ?_ ?_ a_fuel (0, H) ?_
    · exact fun _ h => h
    · intro n2 hn2 s4 hs_s4
      refine a_fif ?_ ?_
      · refine a_fbdh (a_fr_up (W0 _ _ (Or.inr (Or.inr rfl))) hs_s4) (fun H3 hH3 => ?_)
        refine a_fbdi (fun x2 => ?_)
        exact hn2 (x2, H3) hH3
      · exact hj26 s4.2 hs_s4
    · exact a_fr_refl
def w_174 (a b : Int) : Prop := (a = 133 ∧ b = 7) ∨ a = 137 ∨ a = 134
theorem fr_174 (H : a_P) : a_fr2 (w_174) H (fn_174 H) := by
  generalize hW : w_174 = W
  have W0 : ∀ a b, w_174 a b → W a b := fun a b h => by rw [← hW]; exact h
  unfold fn_174
  refine a_fif ?_ ?_
  · exact a_fr_refl
  · refine a_fjn (fun (s : a_P) => a_fr W H s) (fun s1 hs_s1 => ?_) (fun j36 hj36 => ?_)
    · refine a_fjn (fun (s : a_P) => a_fr W H s) (fun s2 hs_s2 => ?_) (fun j63 hj63 => ?_)
      · refine a_fbdh (a_fr_up (W0 _ _ (Or.inl ⟨rfl, rfl⟩)) hs_s2) (fun H1 hH1 => ?_)
        exact hH1
      · refine a_flp (fun (s : Int × a_P) => a_fr W H s.2) ?_ ?_ a_fuel (0, s1) ?_
        · exact fun _ h => h
        · intro n38 hn38 s3 hs_s3
          refine a_fif ?_ ?_
          · refine a_fbdh (a_fr_up (W0 _ _ (Or.inr (Or.inl rfl))) hs_s3) (fun H2 hH2 => ?_)
            refine a_fbdi (fun x1 => ?_)
            exact hn38 (x1, H2) hH2
          · exact hj63 s3.2 hs_s3
        · exact hs_s1
    · refine a_flp (fun (s : Int × a_P) => a_fr W H s.2) ?_ ?_ a_fuel (0, H) ?_
      · exact fun _ h => h
      · intro n12 hn12 s4 hs_s4
        refine a_fif ?_ ?_
        · refine a_fbdh (a_fr_up (W0 _ _ (Or.inr (Or.inr rfl))) hs_s4) (fun H3 hH3 => ?_)
          refine a_fbdi (fun x2 => ?_)
          exact hn12 (x2, H3) hH3
        · exact hj36 s4.2 hs_s4
      · exact a_fr_refl
def w_177 (a1 : Int) (a2 : Int) (a3 : Int) (a b : Int) : Prop := a = 142 ∨ a = 143 ∨ a = 144
theorem fr_177 (a1 : Int) (a2 : Int) (a3 : Int) (H : a_P) : a_fr2 (w_177 a1 a2 a3) H (fn_177 a1 a2 a3 H) := by
  generalize hW : w_177 a1 a2 a3 = W
  have W0 : ∀ a b, w_177 a1 a2 a3 a b → W a b := fun a b h => by rw [← hW]; exact h
  unfold fn_177
  refine a_fjn (fun (s : Unit) => a_fr W H H) (fun s1 hs_s1 => ?_) (fun j25 hj25 => ?_)
  · exact a_fr_refl
  · refine a_fif ?_ ?_
    · exact hj25 () a_fr_refl
    · refine a_fif ?_ ?_
      · exact hj25 () a_fr_refl
      · refine a_fif ?_ ?_
        · exact hj25 () a_fr_refl
        · refine a_fif ?_ ?_
          · exact a_fr_refl
          · refine a_fbdh (a_fr_up (W0 _ _ (Or.inl rfl)) a_fr_refl) (fun H1 hH1 => ?_)
            refine a_fbdh (a_fr_up (W0 _ _ (Or.inr (Or.inl rfl))) hH1) (fun H2 hH2 => ?_)
            refine a_flp (fun (s : Int × a_P) => a_fr W H s.2) ?_ ?_ a_fuel (0, H2) ?_
            · exact fun _ h => h
            · intro n51 hn51 s2 hs_s2
              refine a_fif ?_ ?_
              · refine a_fbdh (a_fr_up (W0 _ _ (Or.inr (Or.inr rfl))) hs_s2) (fun H3 hH3 => ?_)
                refine a_fbdi (fun x1 => ?_)
                exact hn51 (x1, H3) hH3
              · exact hs_s2
            · exact hH2
def w_178 (a1 : Int) (a b : Int) : Prop := a = 142
theorem fr_178 (a1 : Int) (H : a_P) : a_fr2 (w_178 a1) H (fn_178 a1 H) := by
  generalize hW : w_178 a1 = W
  have W0 : ∀ a b, w_178 a1 a b → W a b := fun a b h => by rw [← hW]; exact h
  unfold fn_178
  refine a_fif ?_ ?_
  · exact a_fr_refl
  · refine a_fif ?_ ?_
    · exact a_fr_refl
    · refine a_fbdh (a_fr_up (W0 _ _ rfl) a_fr_refl) (fun H1 hH1 => ?_)
      exact hH1
def w_180 (a1 : Int) (a2 : Int) (a3 : Int) (a4 : Int) (a b : Int) : Prop := a = 144
theorem fr_180 (a1 : Int) (a2 : Int) (a3 : Int) (a4 : Int) (H : a_P) : a_fr2 (w_180 a1 a2 a3 a4) H (fn_180 a1 a2 a3 a4 H) := by
  generalize hW : w_180 a1 a2 a3 a4 = W
  have W0 : ∀ a b, w_180 a1 a2 a3 a4 a b → W a b := fun a b h => by rw [← hW]; exact h
  unfold fn_180
  refine a_fjn (fun (s : Unit) => a_fr W H H) (fun s1 hs_s1 => ?_) (fun j19 hj19 => ?_)
  · exact a_fr_refl
  · refine a_fif ?_ ?_
    · exact hj19 () a_fr_refl
    · refine a_fif ?_ ?_
      · exact hj19 () a_fr_refl
      · refine a_fbdi (fun x1 => ?_)
        refine a_fif ?_ ?_
        · exact a_fr_refl
        · refine a_fbdh (a_fr_up (W0 _ _ rfl) a_fr_refl) (fun H1 hH1 => ?_)
          exact hH1
def w_181 (a1 : Int) (a2 : Int) (a3 : Int) (a4 : Int) (a5 : Int) (a b : Int) : Prop := a = 144 ∨ a = 145
theorem fr_181 (a1 : Int) (a2 : Int) (a3 : Int) (a4 : Int) (a5 : Int) (H : a_P) : a_fr2 (w_181 a1 a2 a3 a4 a5) H (fn_181 a1 a2 a3 a4 a5 H) := by
  generalize hW : w_181 a1 a2 a3 a4 a5 = W
  have W0 : ∀ a b, w_181 a1 a2 a3 a4 a5 a b → W a b := fun a b h => by rw [← hW]; exact h
  unfold fn_181
  refine a_fjn (fun (s : Unit) => a_fr W H H) (fun s1 hs_s1 => ?_) (fun j14 hj14 => ?_)
  · exact a_fr_refl
  · refine a_fif ?_ ?_
    · exact hj14 () a_fr_refl
    · refine a_fif ?_ ?_
      · exact hj14 () a_fr_refl
      · refine a_fjn (fun (s : Unit) => a_fr W H H) (fun s2 hs_s2 => ?_) (fun j34 hj34 => ?_)
        · exact a_fr_refl
        · refine a_fif ?_ ?_
          · exact hj34 () a_fr_refl
          · refine a_fif ?_ ?_
            · exact hj34 () a_fr_refl
            · refine a_fif ?_ ?_
              · refine a_fjn (fun (s : Unit) => a_fr W H H) (fun s3 hs_s3 => ?_) (fun j104 hj104 => ?_)
                · exact a_fr_refl
                · refine a_fif ?_ ?_
                  · exact hj104 () a_fr_refl
                  · refine a_fif ?_ ?_
                    · exact hj104 () a_fr_refl
                    · refine a_fif ?_ ?_
                      · exact hj104 () a_fr_refl
                      · refine a_fif ?_ ?_
                        · exact hj104 () a_fr_refl
                        · refine a_fif ?_ ?_
                          · exact hj104 () a_fr_refl
                          · refine a_fjn (fun (s : a_P) => a_fr W H s) (fun s4 hs_s4 => ?_) (fun j144 hj144 => ?_)
                            · refine a_flp (fun (s : Int × a_P) => a_fr W H s.2) ?_ ?_ a_fuel (0, s4) ?_
                              · exact fun _ h => h
                              · intro n147 hn147 s5 hs_s5
                                refine a_fif ?_ ?_
                                · refine a_fbdh (a_fr_up (W0 _ _ (Or.inl rfl)) hs_s5) (fun H1 hH1 => ?_)
                                  refine a_fbdi (fun x1 => ?_)
                                  exact hn147 (x1, H1) hH1
                                · exact hs_s5
                              · exact hs_s4
                            · refine a_flp (fun (s : Int × a_P) => a_fr W H s.2) ?_ ?_ a_fuel (0, H) ?_
                              · exact fun _ h => h
                              · intro n110 hn110 s6 hs_s6
                                refine a_fif ?_ ?_
                                · refine a_fbdh (a_fr_up (W0 _ _ (Or.inr rfl)) hs_s6) (fun H2 hH2 => ?_)
                                  refine a_fbdi (fun x2 => ?_)
                                  exact hn110 (x2, H2) hH2
                                · exact hj144 s6.2 hs_s6
                              · exact a_fr_refl
              · exact a_fr_refl
def w_182 (a1 : Int) (a2 : Int) (a b : Int) : Prop := a = 134
theorem fr_182 (a1 : Int) (a2 : Int) (H : a_P) : a_fr2 (w_182 a1 a2) H (fn_182 a1 a2 H) := by
  generalize hW : w_182 a1 a2 = W
  have W0 : ∀ a b, w_182 a1 a2 a b → W a b := fun a b h => by rw [← hW]; exact h
  unfold fn_182
  refine a_fjn (fun (s : Int × a_P) => a_fr W H s.2) (fun s1 hs_s1 => ?_) (fun j49 hj49 => ?_)
  · refine a_fbdh (a_fr_call (fr_154 s1.2) (fun a b h => W0 a b ((fun e => e) h)) hs_s1) (fun H1 hH1 => ?_)
    exact hH1
  · refine a_flp (fun (s : Int × Int × a_P) => a_fr W H s.2.2) ?_ ?_ a_fuel (1, 0, H) ?_
    · exact fun _ h => h
    · intro n5 hn5 s2 hs_s2
      refine a_fif ?_ ?_
      · refine a_fif ?_ ?_
        · exact hj49 (s2.1, s2.2.2) hs_s2
        · refine a_fbdh (a_fr_call (fr_124 s2.2.2) (fun a b h => W0 a b ((fun e => e) h)) hs_s2) (fun H2 hH2 => ?_)
          refine a_fjn (fun (s : Int) => a_fr W H H) (fun s3 hs_s3 => ?_) (fun j42 hj42 => ?_)
          · refine a_fbdi (fun x1 => ?_)
            exact hn5 (s3, x1, H2) hH2
          · refine a_fif ?_ ?_
            · exact hj42 1 a_fr_refl
            · exact hj42 0 a_fr_refl
      · exact hj49 (s2.1, s2.2.2) hs_s2
    · exact a_fr_refl
def w_183 (a1 : Int) (a2 : Int) (a3 : Int) (a4 : Int) (a5 : Int) (a6 : Int) (a b : Int) : Prop := a = 138 ∨ a = 134
theorem fr_183 (a1 : Int) (a2 : Int) (a3 : Int) (a4 : Int) (a5 : Int) (a6 : Int) (H : a_P) : a_fr2 (w_183 a1 a2 a3 a4 a5 a6) H (fn_183 a1 a2 a3 a4 a5 a6 H) := by
  generalize hW : w_183 a1 a2 a3 a4 a5 a6 = W
  have W0 : ∀ a b, w_183 a1 a2 a3 a4 a5 a6 a b → W a b := fun a b h => by rw [← hW]; exact h
  unfold fn_183
  refine a_fjn (fun (s : Unit) => a_fr W H H) (fun s1 hs_s1 => ?_) (fun j53 hj53 => ?_)
  · exact a_fr_refl
  · refine a_fif ?_ ?_
    · exact hj53 () a_fr_refl
    · refine a_fif ?_ ?_
      · exact hj53 () a_fr_refl
      · refine a_fif ?_ ?_
        · exact hj53 () a_fr_refl
        · refine a_fif ?_ ?_
          · exact hj53 () a_fr_refl
          · refine a_fif ?_ ?_
            · exact hj53 () a_fr_refl
            · refine a_fbdi (fun x1 => ?_)
              refine a_fif ?_ ?_
              · exact a_fr_refl
              · refine a_fbdh (a_fr_call (fr_153 H) (fun a b h => W0 a b ((fun e => (Or.inl e)) h)) a_fr_refl) (fun H1 hH1 => ?_)
                refine a_flp (fun (s : Int × Int × a_P) => a_fr W H s.2.2) ?_ ?_ a_fuel (0, 0, H1) ?_
                · exact fun _ h => h
                · intro n85 hn85 s2 hs_s2
                  refine a_fjn (fun (s : Int) => a_fr W H H) (fun s3 hs_s3 => ?_) (fun j98 hj98 => ?_)
                  · refine a_fif ?_ ?_
                    · refine a_fjn (fun (s : Int) => a_fr W H H) (fun s4 hs_s4 => ?_) (fun j131 hj131 => ?_)
                      · refine a_fbdh (a_fr_up (W0 _ _ (Or.inr rfl)) hs_s2) (fun H2 hH2 => ?_)
                        refine a_fbdg (a_fr_calf (fr_182 (a_w ((a_w (24 * a2)) + a4)) a5 H2) (fun a b h => W0 a b ((fun e => (Or.inr e)) h)) hH2) (fun g1 hg1 => ?_)
                        refine a_fjn (fun (s : Int) => a_fr W H H) (fun s5 hs_s5 => ?_) (fun j160 hj160 => ?_)
                        · refine a_fbdi (fun x2 => ?_)
                          refine a_fbdi (fun x3 => ?_)
                          exact hn85 (x2, x3, g1.2) hg1
                        · refine a_fif ?_ ?_
                          · exact hj160 0 a_fr_refl
                          · exact hj160 (a_shl 1 s2.2.1) a_fr_refl
                      · refine a_fif ?_ ?_
                        · exact hj131 (a_w (7 + a1)) a_fr_refl
                        · refine a_fif ?_ ?_
                          · exact hj131 (a_w (23 + a1)) a_fr_refl
                          · exact hj131 2 a_fr_refl
                    · exact hs_s2
                  · refine a_fif ?_ ?_
                    · exact hj98 4 a_fr_refl
                    · exact hj98 5 a_fr_refl
                · exact hH1
def w_184 (a1 : Int) (a2 : Int) (a3 : Int) (a4 : Int) (a b : Int) : Prop := a = 138 ∨ a = 134 ∨ a = 144
theorem fr_184 (a1 : Int) (a2 : Int) (a3 : Int) (a4 : Int) (H : a_P) : a_fr2 (w_184 a1 a2 a3 a4) H (fn_184 a1 a2 a3 a4 H) := by
  generalize hW : w_184 a1 a2 a3 a4 = W
  have W0 : ∀ a b, w_184 a1 a2 a3 a4 a b → W a b := fun a b h => by rw [← hW]; exact h
  unfold fn_184
  refine a_fjn (fun (s : Unit) => a_fr W H H) (fun s1 hs_s1 => ?_) (fun j31 hj31 => ?_)
  · exact a_fr_refl
  · refine a_fif ?_ ?_
    · exact hj31 () a_fr_refl
    · refine a_fif ?_ ?_
      · exact hj31 () a_fr_refl
      · refine a_fif ?_ ?_
        · exact hj31 () a_fr_refl
        · refine a_fbdi (fun x1 => ?_)
          refine a_fif ?_ ?_
          · exact a_fr_refl
          · refine a_fbdh (a_fr_call (fr_153 H) (fun a b h => W0 a b ((fun e => (Or.inl e)) h)) a_fr_refl) (fun H1 hH1 => ?_)
            refine a_flp (fun (s : Int × a_P) => a_fr W H s.2) ?_ ?_ a_fuel (0, H1) ?_
            · exact fun _ h => h
            · intro n59 hn59 s2 hs_s2
              refine a_fif ?_ ?_
              · refine a_fbdh (a_fr_call (fr_124 s2.2) (fun a b h => W0 a b ((fun e => (Or.inr (Or.inl e))) h)) hs_s2) (fun H3 hH3 => ?_)
                refine a_fbdh (a_fr_up (W0 _ _ (Or.inr (Or.inr rfl))) hH3) (fun H4 hH4 => ?_)
                refine a_fbdi (fun x2 => ?_)
                exact hn59 (x2, H4) hH4
              · refine a_fbdh (a_fr_call (fr_154 s2.2) (fun a b h => W0 a b ((fun e => (Or.inr (Or.inl e))) h)) hs_s2) (fun H2 hH2 => ?_)
                exact hH2
            · exact hH1

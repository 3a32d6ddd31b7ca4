/-! WHAT A METHOD LEAVES ALONE -/
def a_fr (W : Int → Int → Prop) (H G : a_P) : Prop := ∀ a b, ¬ W a b → G a b = H a b
def a_fr2 (W : Int → Int → Prop) (H : a_P) (r : a_F) : Prop := a_fr W H r.2
section a_frames
variable {ρ : Type} {Q : ρ → Prop} {W : Int → Int → Prop} {H G : a_P}
theorem a_fr_refl : a_fr W H H := fun _ _ _ => rfl
theorem a_fr_up {h i v : Int} (hw : W h i) (hG : a_fr W H G) : a_fr W H (a_up G h i v) := by
  intro a b hn
  unfold a_up
  rw [if_neg (fun e => hn (by rw [e.1, e.2]; exact hw))]
  exact hG a b hn
theorem a_fr_cp {hs sp hd dp n : Int} (hw : ∀ b, W hd b) (hG : a_fr W H G) : a_fr W H (a_cp G hs sp hd dp n) := by
  intro a b hn
  unfold a_cp
  rw [if_neg (fun e => hn (by rw [e.1]; exact hw b))]
  exact hG a b hn
theorem a_fr_call {W' : Int → Int → Prop} {G' : a_P} (hs : a_fr W' G G') (hw : ∀ a b, W' a b → W a b) (hG : a_fr W H G) : a_fr W H G' := fun a b hn => (hs a b (fun e => hn (hw a b e))).trans (hG a b hn)
theorem a_fr_calf {W' : Int → Int → Prop} {g : a_F} (hs : a_fr2 W' G g) (hw : ∀ a b, W' a b → W a b) (hG : a_fr W H G) : a_fr W H g.2 := fun a b hn => (hs a b (fun e => hn (hw a b e))).trans (hG a b hn)
theorem a_fbdi {α : Type} {e : α} {f : α → ρ} (h : ∀ x, Q (f x)) : Q (a_bd e f) := h e
theorem a_fbdh {e : a_P} {f : a_P → ρ} (he : a_fr W H e) (h : ∀ G, a_fr W H G → Q (f G)) : Q (a_bd e f) := h e he
theorem a_fbdg {e : a_F} {f : a_F → ρ} (he : a_fr W H e.2) (h : ∀ g : a_F, a_fr W H g.2 → Q (f g)) : Q (a_bd e f) := h e he
theorem a_fjn {α : Type} {J : α → ρ} {f : (α → ρ) → ρ} (P : α → Prop) (hJ : ∀ s, P s → Q (J s)) (h : ∀ j : α → ρ, (∀ s, P s → Q (j s)) → Q (f j)) : Q (a_jn J f) := h J hJ
theorem a_flp {σ : Type} {z : σ → ρ} {body : σ → (σ → ρ) → ρ} (P : σ → Prop) (hz : ∀ s, P s → Q (z s)) (hb : ∀ next : σ → ρ, (∀ s, P s → Q (next s)) → ∀ s, P s → Q (body s next)) : ∀ (m : Nat) (s : σ), P s → Q (a_lp z body m s)
  | 0, s, hs => hz s hs
  | m + 1, s, hs => hb (a_lp z body m) (fun s hs => a_flp P hz hb m s hs) s hs
theorem a_fif {c : Prop} [Decidable c] {A B : ρ} (h1 : Q A) (h2 : Q B) : Q (if c then A else B) := by
  by_cases h : c
  · rw [if_pos h]; exact h1
  · rw [if_neg h]; exact h2
def a_fsl {ρ : Type} (Q : ρ → Prop) : List ρ → Prop
  | [] => True
  | A :: l => Q A ∧ a_fsl Q l
theorem a_fsw {x : Int} {D : ρ} (hD : Q D) : ∀ {l : List ρ} {c : Int}, a_fsl Q l → Q (a_sw x c D l)
  | [], _, _ => hD
  | A :: l, c, h => by
    rw [a_sw]
    exact a_fif h.1 (a_fsw hD h.2)
end a_frames

section q_ops
variable {p : Program} {l : Launch} {e : Env} {R : Room} {s : State} {m : MethodId} {args : Array Value} {below : List Frame} {meth : Method} {cd : Code} {Q : State → Prop} {D : va_G} {base : Nat} {sa : Nat → Nat} {n0 s0 k fr pc nx v x y : Nat} {c : Int} {tb : List Nat} {cal : Nat → List Value → q_H → Option (q_R Value q_H)} {lo : List (Option Value)} {st : List Value} {hp : q_H} {K : q_K Value q_H} {r : q_R Value q_H}
def q_rm (fr mc ms : Nat) : Room := { frames := fr, cells := mc, slots := ms, locals := 40 * fr }
theorem q_ex3 {k v x y : Nat} {c : Int} {tb : List Nat} (h : q_ex k 3 v c x y tb = true) : x < q_nm := of_decide_eq_true (Bool.and_eq_true_iff.mp (show (_ && _) = true from h)).1
theorem q_GI {ws : List Cond} (h : ∀ w ∈ ws, w ∈ q_good) : GoodIn q_good ws := fun w hw => ⟨h w hw, good_of_word (List.mem_filter.mp (h w hw)).2⟩
theorem q_ckw_get {x : Nat} (h : q_ckw x = true) : ((q_kd x = 0 → Cond.instanceMethod (q_mn x) ∈ q_good ∧ Cond.selects (q_mn x).cls (q_mn x) (q_mn x) ∈ q_good) ∧ (q_kd x = 1 → Cond.static (q_mn x) ∈ q_good) ∧ (q_kd x = 2 → Cond.instanceMethod (q_mn x) ∈ q_good ∧ (q_mn x).name = "<init>" ∧ q_mr x = none)) ∧ Cond.initialized (q_mn x).cls ∈ q_good ∧ Cond.code (q_mn x) (q_mc x) (q_I x).1 (q_mr x) ∈ q_good ∧ plainFor (q_mn x) = true ∧ (q_mn x).cls ≠ "java/lang/invoke/MethodHandle" ∧ (q_mn x).cls ≠ "java/lang/invoke/VarHandle" ∧ (parseMethodDescriptor (q_mn x).desc).map (fun d => d.parameters.length) = some (q_na x) ∧ (q_I x).1 ≤ 15 := by
  unfold q_ckw at h
  split at h
  · simp only [Bool.and_eq_true, decide_eq_true_eq] at h
    obtain ⟨⟨⟨⟨⟨⟨⟨h0, h1⟩, h2⟩, h3⟩, h4⟩, h5⟩, h6⟩, h7⟩ := h
    refine ⟨⟨fun e => ?_, fun e => ?_, fun e => ?_⟩, q_at_mem h1, q_at_mem h2, h3, h4, h5, h6, Nat.le_of_ble_eq_true h7⟩
    · rw [e] at h0
      simp only [Bool.and_eq_true] at h0
      exact ⟨q_at_mem h0.1, q_at_mem h0.2⟩
    · rw [e] at h0
      exact q_at_mem h0
    · rw [e] at h0
      simp only [Bool.and_eq_true, decide_eq_true_eq] at h0
      exact ⟨q_at_mem h0.1.1, h0.1.2, h0.2⟩
  · cases h
theorem q_callW {H : Heap} {locs : List Loc} {cells slots mc ms : Nat} {ls : Array Slot} {st0 rest : List Value} {as' : Array Value} {r' : q_R Value q_H} (hr : va_Run p l e R s m args below meth cd H locs cells slots mc ms (F0 m pc ls st0) rest (q_Qc D base sa r' as') (fun q => base ≤ q)) (hS : va_S (fun q => base ≤ q) s.heap H locs)
    (kk : ∀ (H1 : Heap) (locs1 : List Loc), q_HR D base sa s r'.2 H1 → va_S (fun q => base ≤ q) s.heap H1 locs1 → W p l e R s m args below meth cd H1 locs1 (cells + mc) (slots + ms) Q (F0 m (pc + 3) ls ((r'.1.map (q_up base sa)).toList ++ rest))) : W p l e R s m args below meth cd H locs cells slots Q (F0 m pc ls st0) := by
  intro T hT X
  obtain ⟨v, st₀, t, T', L, h0, X', hL, e1, e2, ⟨hv, hH, hz, hk⟩, st⟩ := hr T hT X
  have hv : v = r'.1.map (q_up base sa) := Outcome.returned.inj hv
  subst hv
  rw [h0] at hz hk
  obtain ⟨t2, a1, b1⟩ := kk T'.heap (locs ++ L) (by rw [e1]; exact hH.moved (by rw [← e2]; exact X'.warmed.alike.symm))
    ⟨Nat.le_trans hS.1 (by rw [e1]; exact hz), fun q h1 h2 => by rw [e1, hk q (Nat.lt_of_lt_of_le h1 hS.1) h2]; exact hS.2.1 q h1 h2, fun q hq => by
      rcases List.mem_append.mp hq with h | h
      · exact hS.2.2 q h
      · exact hL q h⟩ T' rfl X'
  exact ⟨t2, st t2 a1, b1⟩
theorem g_3 (C : q_Cx p s m args meth cd R k fr n0 base sa) (hd : decode (q_mc k) pc = .ok (q_in pc 3 v c x nx tb)) (hn : nx = pc + (q_in pc 3 v c x nx tb).2) (hx : q_ex k 3 v c x y tb = true) (h : q_s3 q_CO cal fr (v, c, x, y, nx, tb) lo st hp K = some r) (kk : ∀ pc lo st hp, K pc lo st hp = some r → q_Go p l e R s m args below meth cd D base sa (q_I k).1 n0 s0 Q pc lo st hp) (hm : ∀ pc lo st hp, K pc lo st hp = some r → hp.length ≤ r.2.length ∧ q_sl hp ≤ q_sl r.2) (hRc : r.2.length = n0 + R.cells) (hRs : q_sl r.2 = s0 + R.slots) (hW : ∀ x, x < q_nm → q_ckw x = true) (hcal : ∀ (x : Nat) (as : List Value) (hp : q_H) (r' : q_R Value q_H), cal x as hp = some r' → x < q_nm → 0 < fr ∧ hp.length ≤ r'.2.length ∧ q_sl hp ≤ q_sl r'.2 ∧ Met l (q_mn x) (q_ws x) (q_rm (fr - 1) (r'.2.length - hp.length) (q_sl r'.2 - q_sl hp)) (q_Pc D base sa as hp) (q_Qc D base sa r') (r'.2.length - hp.length) (q_sl r'.2 - q_sl hp) (fun q => base ≤ q)) : q_Go p l e R s m args below meth cd D base sa (q_I k).1 n0 s0 Q pc lo st hp := by
  intro H locs cells slots ls hH hS hl h1 h2
  obtain ⟨xe, xb, xm, xo, xw, xr, xk, xn, xf, xl, xN, xs⟩ := C
  obtain ⟨as, rest, rfl, hlen, h⟩ := q_pop_some _ _ _ _ h
  rw [List.append_nil] at h
  obtain ⟨hcat, h⟩ := q_gd_some h
  obtain ⟨hrcv, h⟩ := q_gd_some h
  obtain ⟨r', hc, h⟩ := q_ob_some h
  have hcat : q_cats q_ty rest ≤ 8 := Nat.le_of_ble_eq_true hcat
  have hxn : x < q_nm := q_ex3 hx
  obtain ⟨hf0, hml, hms, hM⟩ := hcal x as hp r' hc hxn
  obtain ⟨⟨w0, w1, w2⟩, w3, w4, w5, w6, w7, w8, w9⟩ := q_ckw_get (hW x hxn)
  have hn : nx = pc + 3 := by
    have hv : v = 0 ∨ v = 1 ∨ v = 4 ∨ (v ≠ 0 ∧ v ≠ 1 ∧ v ≠ 4) := by omega
    rcases hv with rfl | rfl | rfl | ⟨n0', n1', n4'⟩
    · exact hn
    · exact hn
    · exact hn
    · simp [q_in, n0', n1', n4'] at hn
      exact hn
  subst hn
  have hk : ∀ (H1 : Heap) (locs1 : List Loc), q_HR D base sa s r'.2 H1 → va_S (fun q => base ≤ q) s.heap H1 locs1 → W p l e R s m args below meth cd H1 locs1 (cells + (r'.2.length - hp.length)) (slots + (q_sl r'.2 - q_sl hp)) Q (F0 m (pc + 3) ls ((r'.1.map (q_up base sa)).toList ++ rest.map (q_up base sa))) := by
    intro H1 locs1 hH1 hS1
    obtain ⟨ov, hp2⟩ := r'
    have hml : hp.length ≤ hp2.length := hml
    have hms : q_sl hp ≤ q_sl hp2 := hms
    have q1 : hp2.length = n0 + (cells + (hp2.length - hp.length)) := by omega
    have q2 : q_sl hp2 = s0 + (slots + (q_sl hp2 - q_sl hp)) := by omega
    cases ov with
    | none => exact kk (pc + 3) lo rest hp2 h H1 locs1 _ _ ls hH1 hS1 hl q1 q2
    | some a => exact kk (pc + 3) lo (a :: rest) hp2 h H1 locs1 _ _ ls hH1 hS1 hl q1 q2
  have hmm : r'.2.length ≤ r.2.length ∧ q_sl r'.2 ≤ q_sl r.2 := by
    obtain ⟨ov, hp2⟩ := r'
    cases ov with
    | none => exact hm _ _ _ _ h
    | some a => exact hm _ _ _ _ h
  have hRR : (q_rm (fr - 1) (r'.2.length - hp.length) (q_sl r'.2 - q_sl hp)).frames + 1 ≤ R.frames ∧ 8 + ((q_I x).1 + 11) + (q_rm (fr - 1) (r'.2.length - hp.length) (q_sl r'.2 - q_sl hp)).locals ≤ R.locals := by
    show fr - 1 + 1 ≤ R.frames ∧ 8 + ((q_I x).1 + 11) + 40 * (fr - 1) ≤ R.locals
    rw [xf, xl]
    omega
  have hff : cells + (r'.2.length - hp.length) ≤ R.cells ∧ slots + (q_sl r'.2 - q_sl hp) ≤ R.slots := by omega
  have hGw : ∀ w ∈ q_ws x, w ∈ q_good := fun w hw => by
    rcases List.mem_cons.mp hw with rfl | hw
    · exact w4
    · exact hw
  refine W_sz (fun hz => ?_)
  have hsz : H.size = base + hp.length := by
    have h9 := hH.le (Nat.le_trans (by omega) hS.1)
    omega
  have hbl : FrameBlind (q_Pc D base sa as hp) := fun a U g mk q => ⟨q.1, q.2.1, q.2.2.1.moved (Vm.Alike.refl U.vm), q.2.2.2.same rfl rfl⟩
  have hpc : ∀ U : State, U.heap = H → s.WarmedH U.vm → q_Pc D base sa as hp (as.map (q_up base sa)).toArray U := fun U hU hW => ⟨rfl, by rw [hU]; exact hsz, by rw [hU]; exact hH.moved hW.alike, xN.warm hW (fun a g1 g2 => by rw [hU]; exact hS.2.1 a g1 g2)⟩
  have hroom := lv_room (m := m) (pc := pc) (ls := ls) (rest := ((as.reverse ++ rest).map (q_up base sa))) (show ((rest.map (q_up base sa)).map fun v => v.category).sum ≤ 8 by rw [q_cats_up]; exact hcat)
  have hv : v = 0 ∨ v = 1 ∨ v = 2 ∨ v = 3 ∨ v = 4 := by
    have h9 := (Bool.and_eq_true_iff.mp (show (_ && _) = true from hx)).2
    by_cases h5 : 5 ≤ v
    · obtain ⟨w, rfl⟩ : ∃ w, v = w + 5 := ⟨v - 5, by omega⟩
      cases h9
    · omega
  rcases hv with rfl | rfl | rfl | rfl | rfl
  · have hx : (decide (y = q_na x + 1) && decide (q_kd x = 0) && decide (q_t1 tb < 7) && decide ((q_mn x).cls = q_cR (q_t1 tb)) && q_at (q_t0 tb) (.methodLink (q_mn k).cls c.toNat (q_mn x))) = true := (Bool.and_eq_true_iff.mp (show (_ && _) = true from hx)).2
    simp only [Bool.and_eq_true, decide_eq_true_eq] at hx
    obtain ⟨⟨⟨⟨y1, y2⟩, y3⟩, y4⟩, y5⟩ := hx
    obtain ⟨z1, z2⟩ := w0 y2
    have hrcv : q_rcv q_CO 0 tb as hp = true := hrcv
    unfold q_rcv at hrcv
    simp only at hrcv
    cases as with
    | nil => cases hrcv
    | cons rv As =>
      simp only at hrcv
      cases hrf : o_rf q_CO rv with
      | none => rw [hrf] at hrcv; cases hrcv
      | some ad =>
        rw [hrf] at hrcv
        simp only at hrcv
        cases htg : o_tag q_CO hp ad with
        | none => rw [htg] at hrcv; cases hrcv
        | some t9 =>
          rw [htg] at hrcv
          simp only at hrcv
          have ht9 : t9 = q_t1 tb := by
            cases tb with
            | nil => cases hrcv
            | cons b1 tb1 => cases tb1 with
              | nil => cases hrcv
              | cons b2 tb2 => exact Nat.eq_of_beq_eq_true hrcv
          subst ht9
          have hrv := q_rf_some (show q_rf rv = some ad from hrf)
          subst hrv
          obtain ⟨vs9, k1⟩ := c_tag_some (show c_tag hp ad = some (q_t1 tb) from htg)
          obtain ⟨ws, tys, hK, hP, hR⟩ := id hH
          obtain ⟨en9, k2, k3⟩ := hR.2 ad _ k1
          rcases k3 with ⟨-, k3⟩ | ⟨k3, -⟩ | ⟨k3, -⟩ | ⟨k3, -⟩ | ⟨k3, -⟩ | ⟨k3, -⟩
          · subst k3
            have hrec := va_recv hK hP (q_cl_at _ y3) k2
            rw [← y4] at hrec
            have hGT : ∀ w ∈ wsV (q_mn k).cls c.toNat (q_mn x).cls (q_mn x) (q_ws x), w ∈ q_good := fun w hw => by
              unfold wsV at hw
              simp only [List.cons_append, List.nil_append, List.mem_cons] at hw
              rcases hw with rfl | rfl | rfl | rfl | hw
              · exact q_at_mem y5
              · exact z1
              · exact z2
              · exact w3
              · exact hGw w hw
            refine q_callW (va_runV (As := As.map (q_up base sa)) (rest := rest.map (q_up base sa)) ⟨xe, xb, xm, xo, xw⟩ hM (cwV (q_na x) xw (q_GI hGT) rfl rfl rfl ⟨rfl, w6, w7, w8⟩ hRR) ⟨hbl, hrec, hpc⟩ rfl ?_ hl.1 ?_ hroom hd hff) hS hk
            · simp at hlen ⊢
              omega
            · simp [q_up]
          all_goals (simp only at k3; omega)
  · have hx : (decide (y = q_na x) && decide (q_kd x = 1) && q_at (q_t0 tb) (.methodLink (q_mn k).cls c.toNat (q_mn x))) = true := (Bool.and_eq_true_iff.mp (show (_ && _) = true from hx)).2
    simp only [Bool.and_eq_true, decide_eq_true_eq] at hx
    obtain ⟨⟨y1, y2⟩, y5⟩ := hx
    have z1 := w1 y2
    refine q_callW (va_runS (As := as.map (q_up base sa)) (rest := rest.map (q_up base sa)) ⟨xe, xb, xm, xo, xw⟩ hM ⟨callB_of (q_na x) xw (q_GI hGw) rfl rfl rfl (xw _ w3) (xw _ (q_at_mem y5)) ⟨w6, w7, w8⟩ hRR, xw _ z1⟩ ⟨hbl, hpc⟩ rfl (by simp; omega) hl.1 (by simp) hroom hd hff) hS hk
  · have hx : (decide (y = q_na x + 1) && decide (q_kd x = 2) && q_at (q_t0 tb) (.methodLink (q_mn k).cls c.toNat (q_mn x))) = true := (Bool.and_eq_true_iff.mp (show (_ && _) = true from hx)).2
    simp only [Bool.and_eq_true, decide_eq_true_eq] at hx
    obtain ⟨⟨y1, y2⟩, y5⟩ := hx
    obtain ⟨z1, z2, z3⟩ := w2 y2
    cases as with
    | nil => cases hrcv
    | cons rv As =>
      have hrcv : (match o_rf q_CO rv with
        | some _ => true
        | none => false) = true := hrcv
      cases hrf : o_rf q_CO rv with
      | none => rw [hrf] at hrcv; cases hrcv
      | some ad =>
        have hrv := q_rf_some (show q_rf rv = some ad from hrf)
        subst hrv
        have hws : q_ws x = .code (q_mn x) (q_mc x) (q_I x).1 none :: q_good := by unfold q_ws; rw [z3]
        refine q_callW (va_runI (As := As.map (q_up base sa)) (rest := rest.map (q_up base sa)) ⟨xe, xb, xm, xo, xw⟩ hM (cwI (q_na x) xw (q_GI hGw) hws rfl rfl (xw _ w3) (xw _ (q_at_mem y5)) (xw _ z1) z2 ⟨w6, w7, w8⟩ hRR) ⟨hbl, hpc⟩ rfl ?_ hl.1 ?_ hroom hd hff) hS hk
        · simp at hlen ⊢
          omega
        · simp [q_up]
  · have hx : (decide (y = q_na x + 1) && decide (q_kd x = 2) && decide (((q_mn k).cls, c.toNat, q_mn x, "CarriedGate") ∈ q_nest)) = true := (Bool.and_eq_true_iff.mp (show (_ && _) = true from hx)).2
    simp only [Bool.and_eq_true, decide_eq_true_eq] at hx
    obtain ⟨⟨y1, y2⟩, y5⟩ := hx
    obtain ⟨z1, z2, z3⟩ := w2 y2
    cases as with
    | nil => cases hrcv
    | cons rv As =>
      have hrcv : (match o_rf q_CO rv with
        | some _ => true
        | none => false) = true := hrcv
      cases hrf : o_rf q_CO rv with
      | none => rw [hrf] at hrcv; cases hrcv
      | some ad =>
        have hrv := q_rf_some (show q_rf rv = some ad from hrf)
        subst hrv
        have hws : q_ws x = .code (q_mn x) (q_mc x) (q_I x).1 none :: q_good := by unfold q_ws; rw [z3]
        refine q_callW (va_runIN (As := As.map (q_up base sa)) (rest := rest.map (q_up base sa)) ⟨xe, xb, xm, xo, xw⟩ hM ⟨va_cnB (q_na x) xw (q_GI hGw) hws rfl rfl (xN.1 _ y5) (xw _ w3) ⟨w6, w7, w8⟩ hRR, z2, xw _ z1⟩ ⟨hbl, hpc⟩ rfl ?_ hl.1 ?_ hroom hd hff) hS hk
        · simp at hlen ⊢
          omega
        · simp [q_up]
  · have hx : (decide (y = q_na x + 1) && decide (q_kd x = 0) && decide ((q_mn x).cls = "java/lang/String") && q_at (q_t0 tb) (.methodLink (q_mn k).cls c.toNat (q_mn x))) = true := (Bool.and_eq_true_iff.mp (show (_ && _) = true from hx)).2
    simp only [Bool.and_eq_true, decide_eq_true_eq] at hx
    obtain ⟨⟨⟨y1, y2⟩, y4⟩, y5⟩ := hx
    obtain ⟨z1, z2⟩ := w0 y2
    cases as with
    | nil => cases hrcv
    | cons rv As =>
      have hrcv : q_rcv q_CO 4 tb (rv :: As) hp = true := hrcv
      unfold q_rcv at hrcv
      simp only at hrcv
      cases hrf : o_un q_CO 9 rv with
      | none => rw [hrf] at hrcv; cases hrcv
      | some w9 =>
        obtain ⟨n9, l9, rfl, ht, -⟩ := q_un_tx (Or.inr rfl) (show q_un 9 rv = some w9 from hrf)
        obtain ⟨cell, r1, r2, r3, -⟩ := (xN.2.2.2.2.2 _ l9 ht).1.kept hS.2.1
        have hrec : ∃ cell : Cell, H[sa n9.toNat]? = some cell ∧ cell.vm.isStatics = false ∧ s.vm.findClass (q_mn x).cls = some cell.cls := ⟨cell, r1, r2, by rw [y4]; exact r3⟩
        have hGT : ∀ w ∈ wsV (q_mn k).cls c.toNat (q_mn x).cls (q_mn x) (q_ws x), w ∈ q_good := fun w hw => by
          unfold wsV at hw
          simp only [List.cons_append, List.nil_append, List.mem_cons] at hw
          rcases hw with rfl | rfl | rfl | rfl | hw
          · exact q_at_mem y5
          · exact z1
          · exact z2
          · exact w3
          · exact hGw w hw
        refine q_callW (va_runV (As := As.map (q_up base sa)) (rest := rest.map (q_up base sa)) ⟨xe, xb, xm, xo, xw⟩ hM (cwV (q_na x) xw (q_GI hGT) rfl rfl rfl ⟨rfl, w6, w7, w8⟩ hRR) ⟨hbl, hrec, hpc⟩ rfl ?_ hl.1 ?_ hroom hd hff) hS hk
        · simp at hlen ⊢
          omega
        · simp [q_up]
end q_ops

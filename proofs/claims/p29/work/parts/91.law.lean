
/-! THE CLAIM OUT OF ONE WALK OF THE LAW'S BODY. Your part is whole_start (and what it stands on); all else here is the same for every law, but numbers. -/
def R_law : String := "CarriedGateLaw"
def lw_P (b : Addr) (xs : List Int32) (args : Array Value) (s : State) : Prop := args = #[.ref b] ∧ s.IntsAt b xs ∧ xs.length ≤ 3584 ∧ (Jvm.Cond.and given_1 narrow_1).before args s = true
def lw_Q (_ : Array Value) (s : State) (o : Outcome) (t : State) : Prop := o = .returned (some (.int 1)) ∧ Framed s o t [] 600000 7302250
def lw_Z (below : List Frame) (a : Array Value) (s : State) : State → Prop := fun t => ∃ o, t.status = .running ∧ Ended t below o ∧ lw_Q a s o t
/-- the law's own end, with 1 on the stack, nothing written that was there before, its room as the claim has it -/
theorem lw_ret {p : Program} {l : Launch} {e : Env} {s : State} {m : MethodId} {below : List Frame} {meth : Method} {c : Code} {b : Nat} (hx : p.tables.exec = Jvm.exec) (hb : c.code = code) (hr : meth.sig.returnType = ret) (hlocks : meth.locks = false) {pc : Nat} {H : Heap} {ls : Array Slot} (hdg : decode code pc = .ok (.ireturn, 1)) : W p l e room_1 s m #[Value.ref b] below meth c H [] 600000 7302250 (lw_Z below #[Value.ref b] s) (F0 m pc ls [.int 1]) := by
  intro T hT X
  obtain ⟨fs, hret, hrun, hended, hW, hframe⟩ := X.leave (v := some (.int 1)) (hlocks := hlocks) (fun h => by rw [hr] at h; cases h)
  have hmeth' : T.vm.method? m = some meth := X.method'
  refine ⟨T.setFrames fs, ?_, .returned (some (.int 1)), hrun, hended, rfl, ⟨_, rfl⟩, hW, hframe⟩
  jvm_step X.here [X.here.top, hx, hb, hdg, hmeth', hr, ret, narrow_b1]
  (try refine ⟨rfl, ?_⟩); (try refine ⟨rfl, ?_⟩)
  first | (intro acts; rw [hret _ acts rfl rfl rfl]) | rw [hret _ _ rfl rfl rfl]
  exact Steps.refl _
/-- what holds at the law's entry: the machine, the code, the tables' words (any of lw_tbl by 'hts w (by decide +kernel)'), the script of L ints xs at the cell b, what the Statement gives of the start (any of its parts by flat_of_before) -/
def lw_At (p : Program) (s : State) (m : MethodId) (meth : Method) (c : Code) (b L : Nat) (xs : Nat → Int32) : Prop :=
  p.tables.exec = Jvm.exec ∧ c.code = code ∧ meth.sig.returnType = ret ∧ c.maxLocals = 4 ∧ s.vm.findClass R_law = some m.cls ∧ (∀ w ∈ lw_tbl, w.before #[Value.ref b] s = true) ∧ va_X b L xs s s.heap ∧ b < s.heap.size ∧ meth.locks = false ∧ (Jvm.Cond.and given_1 narrow_1).before #[Value.ref b] s = true
section q_law
variable {p : Program} {l : Launch} {e : Env} {s : State} {m : MethodId} {below : List Frame} {meth : Method} {cd : Code} {b L : Nat} {xs : Nat → Int32} {D : va_G} {sa : Nat → Nat} {ls : Array Slot} {H : Heap} {locs : List Loc} {st : List Value}
/-- a state of the law's one turn -/
abbrev LW (p : Program) (l : Launch) (e : Env) (s : State) (m : MethodId) (below : List Frame) (meth : Method) (cd : Code) (b : Nat) (H : Heap) (locs : List Loc) (pc : Nat) (ls : Array Slot) (st : List Value) : Prop := W p l e room_1 s m #[Value.ref b] below meth cd H locs 146 2652 (lw_Z below #[Value.ref b] s) (F0 m pc ls st)
def law_l (s : State) (b i : Nat) : List (Nat × Value) := [(3, .int (nI i)), (2, .ref (s.heap.size + 133)), (1, .ref s.heap.size), (0, .ref b)]
theorem law_at {i q : Nat} {v : Value} (hl : lv_has ls 4 (law_l s b i)) (k : Nat) (hk : (law_l s b i)[k]? = some (q, v)) : ls[q]? = some (.val v) := lv_at hl k hk
theorem law_add {i j : Nat} (h : i + j < 100000) : nI i + nI j = nI (i + j) := by
  apply Int32.toInt_inj.mp
  rw [Int32.toInt_add, nI_toInt (by omega), nI_toInt (by omega), nI_toInt (by omega)]
  rw [q_bm (by omega) (by omega)]
  omega
theorem law_arg {pc i j : Nat} {n : Int} (C0 : lw_At p s m meth cd b L xs) (hL : i + 7 ≤ L) (hL2 : L ≤ 3584) (hl : lv_has ls 4 (law_l s b i)) (hS : va_S (fun q => s.heap.size ≤ q) s.heap H locs) (d0 : decode code pc = .ok (.aload_n 0, 1)) (d1 : decode code (pc + 1) = .ok (.iload_n 3, 1)) (d2 : decode code (pc + 2) = .ok (.iconst n, 1)) (d3 : decode code (pc + 3) = .ok (.iadd, 1)) (d4 : decode code (pc + 4) = .ok (.iaload, 1)) (hn : Int32.ofInt n = nI j) (hj : j < 7) (k : LW p l e s m below meth cd b H locs (pc + 5) ls (.int (xs (i + j)) :: st)) : LW p l e s m below meth cd b H locs pc ls st := by
  obtain ⟨hx, hb, hr, hml, hown, hts, hX, hbl, hlocks, hgv⟩ := C0
  have hbA : ¬ (fun q : Nat => s.heap.size ≤ q) b := Nat.not_le.mpr hbl
  refine lv_aload_n hx hb d0 rfl (law_at hl 3 rfl) ?_
  refine lv_iload_n hx hb d1 rfl (law_at hl 0 rfl) ?_
  refine lv_iconst (v := nI j) hx hb d2 hn ?_
  refine lv_iadd hx hb d3 ?_
  rw [law_add (by omega)]
  refine va_sld hx hb hX hbl hbA hS (vp_in_nI (by omega) (by omega)) d4 ?_
  rw [nI_clamp (by omega)]
  exact k
theorem law_arg6 {pc i : Nat} (C0 : lw_At p s m meth cd b L xs) (hL : i + 7 ≤ L) (hL2 : L ≤ 3584) (hl : lv_has ls 4 (law_l s b i)) (hS : va_S (fun q => s.heap.size ≤ q) s.heap H locs) (d0 : decode code pc = .ok (.aload_n 0, 1)) (d1 : decode code (pc + 1) = .ok (.iload_n 3, 1)) (d2 : decode code (pc + 2) = .ok (.bipush 6, 2)) (d3 : decode code (pc + 4) = .ok (.iadd, 1)) (d4 : decode code (pc + 5) = .ok (.iaload, 1)) (k : LW p l e s m below meth cd b H locs (pc + 6) ls (.int (xs (i + 6)) :: st)) : LW p l e s m below meth cd b H locs pc ls st := by
  obtain ⟨hx, hb, hr, hml, hown, hts, hX, hbl, hlocks, hgv⟩ := C0
  have hbA : ¬ (fun q : Nat => s.heap.size ≤ q) b := Nat.not_le.mpr hbl
  refine lv_aload_n hx hb d0 rfl (law_at hl 3 rfl) ?_
  refine lv_iload_n hx hb d1 rfl (law_at hl 0 rfl) ?_
  refine lv_bipush (v := nI 6) hx hb d2 (by decide) ?_
  refine lv_iadd hx hb d3 ?_
  rw [law_add (by omega)]
  refine va_sld hx hb hX hbl hbA hS (vp_in_nI (by omega) (by omega)) d4 ?_
  rw [nI_clamp (by omega)]
  exact k
theorem law_cmp {i L : Nat} (h : L ≤ 3584) (hi : i ≤ 4000) : (Int32.ofNat L - 7 < nI i) ↔ ¬ i + 7 ≤ L := by
  have e1 : (Int32.ofNat L).toInt = (L : Int) := nI_toInt (n := L) (by omega)
  have e2 : (7 : Int32).toInt = 7 := by decide
  rw [Int32.lt_iff_toInt_lt, Int32.toInt_sub, e1, e2, nI_toInt (by omega), q_bm (by omega) (by omega)]
  omega
theorem law_call {k ci h pc : Nat} {idx : Nat × Nat} {As rest : List Value} {hp : q_H} {r : q_R Value q_H} {vs : List Value} (C0 : lw_At p s m meth cd b L xs) (hEN : q_EN sa s.heap.size s) (hk : k < q_nm) (hkd : q_kd k = 0) (hci : ci < 7) (hcls : (q_mn k).cls = q_cR ci) (hn : As.length = q_na k) (hlink : q_at idx.1 (.methodLink R_law idx.2 (q_mn k)) = true)
    (hrun : q_run q_CO q_I 1000000 12 k (.ref h :: As) hp = some r) (hl0 : hp.length = 146) (hs0 : q_sl hp = 2652) (hl1 : r.2.length = 146) (hs1 : q_sl r.2 = 2652) (hh : hp[h]? = some (ci, vs)) (hH : q_HR D s.heap.size sa s hp H) (hS : va_S (fun q => s.heap.size ≤ q) s.heap H locs) (hl : ls.size = 4) (hcat : (rest.map fun v => v.category).sum ≤ 8) (hd : decode code pc = .ok (.invokevirtual idx.2, 3))
    (kk : ∀ (H1 : Heap) (locs1 : List Loc), q_HR D s.heap.size sa s r.2 H1 → va_S (fun q => s.heap.size ≤ q) s.heap H1 locs1 → LW p l e s m below meth cd b H1 locs1 (pc + 3) ls ((r.1.map (q_up s.heap.size sa)).toList ++ rest)) : LW p l e s m below meth cd b H locs pc ls ((As.map (q_up s.heap.size sa)).reverse ++ .ref (s.heap.size + h) :: rest) := by
  obtain ⟨hx, hb, hr, hml, hown, hts, hX, hbl, hlocks, hgv⟩ := C0
  have hw : ∀ w ∈ q_good, w.before #[Value.ref b] s = true := fun w h => hts w (List.mem_filter.mp h).1
  obtain ⟨-, -, -, hM⟩ := q_sound l D s.heap.size sa 1000000 12 k (.ref h :: As) hp r hrun hk
  obtain ⟨⟨w0, w1, w2⟩, w3, w4, w5, w6, w7, w8, w9⟩ := q_ckw_get (Bool.and_eq_true_iff.mp (q_facts k hk)).2
  obtain ⟨z1, z2⟩ := w0 hkd
  have c0 : r.2.length - hp.length = 0 := by omega
  have c1 : q_sl r.2 - q_sl hp = 0 := by omega
  rw [c0, c1] at hM
  obtain ⟨ws, tys, hK, hP, hR⟩ := id hH
  obtain ⟨en9, k2, k3⟩ := hR.2 h _ hh
  rcases k3 with ⟨-, k3⟩ | ⟨k3, -⟩ | ⟨k3, -⟩ | ⟨k3, -⟩ | ⟨k3, -⟩ | ⟨k3, -⟩
  · subst k3
    have hrec := va_recv hK hP (q_cl_at _ hci) k2
    rw [← hcls] at hrec
    have hGT : ∀ w ∈ wsV R_law idx.2 (q_mn k).cls (q_mn k) (q_ws k), w ∈ q_good := fun w hw => by
      unfold wsV at hw
      simp only [List.cons_append, List.nil_append, List.mem_cons] at hw
      rcases hw with rfl | rfl | rfl | rfl | hw
      · exact q_at_mem hlink
      · exact z1
      · exact z2
      · exact w3
      · rcases List.mem_cons.mp hw with rfl | hw
        · exact w4
        · exact hw
    refine W_sz (fun hz => ?_)
    have hsz : H.size = s.heap.size + hp.length := by
      have h9 := hH.le hS.1
      omega
    have hbl2 : FrameBlind (q_Pc D s.heap.size sa (.ref h :: As) hp) := fun a U g mk q => ⟨q.1, q.2.1, q.2.2.1.moved (Vm.Alike.refl U.vm), q.2.2.2.same rfl rfl⟩
    have hpc : ∀ U : State, U.heap = H → s.WarmedH U.vm → q_Pc D s.heap.size sa (.ref h :: As) hp ((.ref h :: As).map (q_up s.heap.size sa)).toArray U := fun U hU hW => ⟨rfl, by rw [hU]; exact hsz, by rw [hU]; exact hH.moved hW.alike, hEN.warm hW (fun a g1 g2 => by rw [hU]; exact hS.2.1 a g1 g2)⟩
    refine q_callW (va_runV (As := As.map (q_up s.heap.size sa)) (rest := rest) ⟨hx, hb, hml, hown, hw⟩ hM (cwV (q_na k) hw (q_GI hGT) rfl rfl rfl ⟨rfl, w6, w7, w8⟩ ⟨by decide, by show 8 + ((q_I k).1 + 11) + 40 * 11 ≤ 546; omega⟩) ⟨hbl2, hrec, hpc⟩ rfl (by rw [List.length_map]; exact hn) hl rfl (lv_room hcat) hd ⟨by decide, by decide⟩) hS kk
  all_goals (simp only at k3; omega)
/-- what is kept: safety, a heap as a function, the relation -/
def a_inv (hp : q_H) : Prop := s_hok hp ∧ ∃ G, a_hr hp G ∧ a_R G
/-- one call, and its answer -/
theorem law_fun {ρ : Type} {π : ρ → a_F} {F : ρ} {G : a_P} (U : s_U) (t : Nat) (qs : List s_Q) {k ci h pc : Nat} {idx : Nat × Nat} {As rest : List Value} {hp : q_H} {Dd : s_D} (hm : a_mt π 0 k ((Value.ref h :: As).map a_of) G F) (hG : a_hr hp G) (C0 : lw_At p s m meth cd b L xs) (hEN : q_EN sa s.heap.size s) (hk : k < q_nm) (hkd : q_kd k = 0) (hci : ci < 7) (hcls : (q_mn k).cls = q_cR ci) (hn : As.length = q_na k) (hlink : q_at idx.1 (.methodLink R_law idx.2 (q_mn k)) = true)
    (hU : U ∈ s_sm k) (hU1 : U.1 = k) (hdp : U.2.1 ≤ 12) (hq : U.2.2.1 = (10 + t, (h : Int), (h : Int)) :: qs) (hm0 : U.2.2.2.1 = []) (hc : s_ct[h]? = some t) (hD : s_td t = some Dd) (hDt : Dd.1 = ci) (hr : s_rets U.2.2.2.2.2 = true) (hA : s_fa qs As) (HO : s_hok hp) (hH : q_HR D s.heap.size sa s hp H) (hS : va_S (fun q => s.heap.size ≤ q) s.heap H locs) (hl : ls.size = 4) (hcat : (rest.map fun v => v.category).sum ≤ 8) (hd : decode code pc = .ok (.invokevirtual idx.2, 3))
    (kk : ∀ (x : Int32) (hp1 : q_H) (H1 : Heap) (locs1 : List Loc), s_hok hp1 → x.toInt = (π F).1 → a_hr hp1 (π F).2 → q_HR D s.heap.size sa s hp1 H1 → va_S (fun q => s.heap.size ≤ q) s.heap H1 locs1 → LW p l e s m below meth cd b H1 locs1 (pc + 3) ls (.int x :: rest)) : LW p l e s m below meth cd b H locs pc ls ((As.map (q_up s.heap.size sa)).reverse ++ .ref (s.heap.size + h) :: rest) := by
  obtain ⟨x, hp1, h1, h2, h3, h4⟩ := s_root2 hU hU1 hdp hq hm0 hc hr hA HO
  obtain ⟨vs, h5⟩ := s_recv HO hc hD
  rw [hDt] at h5
  have h6 := hm 12 (.ref h :: As) hp _ rfl hG h1
  have h7 : x.toInt = (π F).1 := by
    have e : some (a_of (.int x)) = some (0, (π F).1) := h6.1
    rw [Option.some.injEq] at e
    exact congrArg Prod.snd e
  exact law_call (r := (some (.int x), hp1)) C0 hEN hk hkd hci hcls hn hlink h1 HO.1 HO.2.1 h2.1 h2.2.1 h5 hH hS hl hcat hd (fun H1 locs1 g1 g2 => kk x hp1 H1 locs1 h2 h7 h6.2 g1 g2)
/-- what stands behind a turn -/
abbrev LT (p : Program) (l : Launch) (e : Env) (s : State) (m : MethodId) (below : List Frame) (meth : Method) (cd : Code) (b : Nat) (D : va_G) (sa : Nat → Nat) (i : Nat) : Prop := ∀ (hp : q_H) (H : Heap) (locs : List Loc) (ls : Array Slot), a_inv hp → lv_has ls 4 (law_l s b i) → q_HR D s.heap.size sa s hp H → va_S (fun q => s.heap.size ≤ q) s.heap H locs → LW p l e s m below meth cd b H locs 18 ls []
theorem law_tail {i : Nat} {hp : q_H} (C0 : lw_At p s m meth cd b L xs) (hL : i + 7 ≤ L) (hL2 : L ≤ 3584) (T : LT p l e s m below meth cd b D sa (i + 7)) (HI : a_inv hp) (hl : lv_has ls 4 (law_l s b i)) (hH : q_HR D s.heap.size sa s hp H) (hS : va_S (fun q => s.heap.size ≤ q) s.heap H locs) : LW p l e s m below meth cd b H locs 1322 ls [] := by
  obtain ⟨hx, hb, hr, hml, hown, hts, hX, hbl, hlocks, hgv⟩ := id C0
  refine lv_iinc (v := nI (i + 7)) (lv' := law_l s b (i + 7)) hx hb dl_1322 hl (k := 0) rfl (law_add (j := 7) (by omega)) (by decide) rfl (fun ls hl => ?_)
  refine lv_goto (tgt := 18) hx hb dl_1325 (by decide) ?_
  exact T hp H locs ls HI hl hH hS
theorem law_c0 {i : Nat} {hp : q_H} (C0 : lw_At p s m meth cd b L xs) (hL : i + 7 ≤ L) (hL2 : L ≤ 3584) (hEN : q_EN sa s.heap.size s) (T : LT p l e s m below meth cd b D sa (i + 7)) (HI : a_inv hp) (hl : lv_has ls 4 (law_l s b i)) (hH : q_HR D s.heap.size sa s hp H) (hS : va_S (fun q => s.heap.size ≤ q) s.heap H locs) : LW p l e s m below meth cd b H locs 192 ls [] := by
  obtain ⟨hx, hb, hr, hml, hown, hts, hX, hbl, hlocks, hgv⟩ := id C0
  obtain ⟨HO, G, hG, hR⟩ := HI
  have hA := a_S_of HO hG
  refine lv_aload_n hx hb dl_192 rfl (law_at hl 2 rfl) ?_
  refine law_arg (j := 1) C0 hL hL2 hl hS dl_193 dl_194 dl_195 dl_196 dl_197 (by decide) (by decide) ?_
  refine law_arg (j := 2) C0 hL hL2 hl hS dl_198 dl_199 dl_200 dl_201 dl_202 (by decide) (by decide) ?_
  refine law_arg (j := 3) C0 hL hL2 hl hS dl_203 dl_204 dl_205 dl_206 dl_207 (by decide) (by decide) ?_
  refine law_fun s_U_5 22 [(0, -2147483648, 2147483647), (0, -2147483648, 2147483647), (0, -2147483648, 2147483647)] (As := [.int (xs (i + 1)), .int (xs (i + 2)), .int (xs (i + 3))]) (rest := []) (idx := (265, 13)) (ci := 5) (h := 0) (mt_55 ((xs (i + 1)).toInt) ((xs (i + 2)).toInt) ((xs (i + 3)).toInt) G) hG C0 hEN (by decide) (by decide +kernel) (by decide) (by decide +kernel) (show (3 : Nat) = q_na 55 by decide +kernel) (by decide +kernel) s_in_55 rfl (by decide) rfl rfl rfl rfl rfl (by decide) (⟨Or.inl ⟨rfl, _, rfl⟩, ⟨Or.inl ⟨rfl, _, rfl⟩, ⟨Or.inl ⟨rfl, _, rfl⟩, trivial⟩⟩⟩) HO hH hS hl.1 (by simp [Value.category]) dl_208 (fun x hp H locs HO ex hG1 hH hS => ?_)
  refine lv_pop hx hb dl_211 rfl ?_
  refine lv_aload_n hx hb dl_212 rfl (law_at hl 1 rfl) ?_
  refine law_arg (j := 1) C0 hL hL2 hl hS dl_213 dl_214 dl_215 dl_216 dl_217 (by decide) (by decide) ?_
  refine law_arg (j := 2) C0 hL hL2 hl hS dl_218 dl_219 dl_220 dl_221 dl_222 (by decide) (by decide) ?_
  refine law_arg (j := 3) C0 hL hL2 hl hS dl_223 dl_224 dl_225 dl_226 dl_227 (by decide) (by decide) ?_
  refine law_fun s_U_249 35 [(0, -2147483648, 2147483647), (0, -2147483648, 2147483647), (0, -2147483648, 2147483647)] (As := [.int (xs (i + 1)), .int (xs (i + 2)), .int (xs (i + 3))]) (rest := []) (idx := (862, 17)) (ci := 6) (h := 133) (mt_126 ((xs (i + 1)).toInt) ((xs (i + 2)).toInt) ((xs (i + 3)).toInt) (fn_55 ((xs (i + 1)).toInt) ((xs (i + 2)).toInt) ((xs (i + 3)).toInt) G).2) hG1 C0 hEN (by decide) (by decide +kernel) (by decide) (by decide +kernel) (show (3 : Nat) = q_na 126 by decide +kernel) (by decide +kernel) s_in_126 rfl (by decide) rfl rfl rfl rfl rfl (by decide) (⟨Or.inl ⟨rfl, _, rfl⟩, ⟨Or.inl ⟨rfl, _, rfl⟩, ⟨Or.inl ⟨rfl, _, rfl⟩, trivial⟩⟩⟩) HO hH hS hl.1 (by simp [Value.category]) dl_228 (fun y hp H locs HO ey hG2 hH hS => ?_)
  have HI : a_inv hp := ⟨HO, _, hG2, rR_person ((xs (i + 1)).toInt) ((xs (i + 2)).toInt) ((xs (i + 3)).toInt) hR hA⟩
  refine lv_pop hx hb dl_231 rfl ?_
  refine lv_goto (tgt := 1322) hx hb dl_232 (by decide) ?_
  exact law_tail C0 hL hL2 T HI hl hH hS
theorem law_c1 {i : Nat} {hp : q_H} (C0 : lw_At p s m meth cd b L xs) (hL : i + 7 ≤ L) (hL2 : L ≤ 3584) (hEN : q_EN sa s.heap.size s) (T : LT p l e s m below meth cd b D sa (i + 7)) (HI : a_inv hp) (hl : lv_has ls 4 (law_l s b i)) (hH : q_HR D s.heap.size sa s hp H) (hS : va_S (fun q => s.heap.size ≤ q) s.heap H locs) : LW p l e s m below meth cd b H locs 235 ls [] := by
  obtain ⟨hx, hb, hr, hml, hown, hts, hX, hbl, hlocks, hgv⟩ := id C0
  obtain ⟨HO, G, hG, hR⟩ := HI
  have hA := a_S_of HO hG
  refine lv_aload_n hx hb dl_235 rfl (law_at hl 2 rfl) ?_
  refine law_arg (j := 1) C0 hL hL2 hl hS dl_236 dl_237 dl_238 dl_239 dl_240 (by decide) (by decide) ?_
  refine law_arg (j := 2) C0 hL hL2 hl hS dl_241 dl_242 dl_243 dl_244 dl_245 (by decide) (by decide) ?_
  refine law_fun s_U_15 22 [(0, -2147483648, 2147483647), (0, -2147483648, 2147483647)] (As := [.int (xs (i + 1)), .int (xs (i + 2))]) (rest := []) (idx := (280, 18)) (ci := 5) (h := 0) (mt_56 ((xs (i + 1)).toInt) ((xs (i + 2)).toInt) G) hG C0 hEN (by decide) (by decide +kernel) (by decide) (by decide +kernel) (show (2 : Nat) = q_na 56 by decide +kernel) (by decide +kernel) s_in_56 rfl (by decide) rfl rfl rfl rfl rfl (by decide) (⟨Or.inl ⟨rfl, _, rfl⟩, ⟨Or.inl ⟨rfl, _, rfl⟩, trivial⟩⟩) HO hH hS hl.1 (by simp [Value.category]) dl_246 (fun x hp H locs HO ex hG1 hH hS => ?_)
  refine lv_pop hx hb dl_249 rfl ?_
  refine lv_aload_n hx hb dl_250 rfl (law_at hl 1 rfl) ?_
  refine law_arg (j := 1) C0 hL hL2 hl hS dl_251 dl_252 dl_253 dl_254 dl_255 (by decide) (by decide) ?_
  refine law_arg (j := 2) C0 hL hL2 hl hS dl_256 dl_257 dl_258 dl_259 dl_260 (by decide) (by decide) ?_
  refine law_fun s_U_261 35 [(0, -2147483648, 2147483647), (0, -2147483648, 2147483647)] (As := [.int (xs (i + 1)), .int (xs (i + 2))]) (rest := []) (idx := (879, 22)) (ci := 6) (h := 133) (mt_127 ((xs (i + 1)).toInt) ((xs (i + 2)).toInt) G) hG1 C0 hEN (by decide) (by decide +kernel) (by decide) (by decide +kernel) (show (2 : Nat) = q_na 127 by decide +kernel) (by decide +kernel) s_in_127 rfl (by decide) rfl rfl rfl rfl rfl (by decide) (⟨Or.inl ⟨rfl, _, rfl⟩, ⟨Or.inl ⟨rfl, _, rfl⟩, trivial⟩⟩) HO hH hS hl.1 (by simp [Value.category]) dl_261 (fun y hp H locs HO ey hG2 hH hS => ?_)
  have HI : a_inv hp := ⟨HO, _, hG2, rR_of ((xs (i + 1)).toInt) ((xs (i + 2)).toInt) hR hA⟩
  refine lv_pop hx hb dl_264 rfl ?_
  refine lv_goto (tgt := 1322) hx hb dl_265 (by decide) ?_
  exact law_tail C0 hL hL2 T HI hl hH hS
theorem law_c2 {i : Nat} {hp : q_H} (C0 : lw_At p s m meth cd b L xs) (hL : i + 7 ≤ L) (hL2 : L ≤ 3584) (hEN : q_EN sa s.heap.size s) (T : LT p l e s m below meth cd b D sa (i + 7)) (HI : a_inv hp) (hl : lv_has ls 4 (law_l s b i)) (hH : q_HR D s.heap.size sa s hp H) (hS : va_S (fun q => s.heap.size ≤ q) s.heap H locs) : LW p l e s m below meth cd b H locs 268 ls [] := by
  obtain ⟨hx, hb, hr, hml, hown, hts, hX, hbl, hlocks, hgv⟩ := id C0
  obtain ⟨HO, G, hG, hR⟩ := HI
  have hA := a_S_of HO hG
  refine lv_aload_n hx hb dl_268 rfl (law_at hl 2 rfl) ?_
  refine law_arg (j := 1) C0 hL hL2 hl hS dl_269 dl_270 dl_271 dl_272 dl_273 (by decide) (by decide) ?_
  refine law_fun s_U_18 22 [(0, -2147483648, 2147483647)] (As := [.int (xs (i + 1))]) (rest := []) (idx := (320, 23)) (ci := 5) (h := 0) (mt_57 ((xs (i + 1)).toInt) G) hG C0 hEN (by decide) (by decide +kernel) (by decide) (by decide +kernel) (show (1 : Nat) = q_na 57 by decide +kernel) (by decide +kernel) s_in_57 rfl (by decide) rfl rfl rfl rfl rfl (by decide) (⟨Or.inl ⟨rfl, _, rfl⟩, trivial⟩) HO hH hS hl.1 (by simp [Value.category]) dl_274 (fun x hp H locs HO ex hG1 hH hS => ?_)
  refine lv_pop hx hb dl_277 rfl ?_
  refine lv_aload_n hx hb dl_278 rfl (law_at hl 1 rfl) ?_
  refine law_arg (j := 1) C0 hL hL2 hl hS dl_279 dl_280 dl_281 dl_282 dl_283 (by decide) (by decide) ?_
  refine law_fun s_U_264 35 [(0, -2147483648, 2147483647)] (As := [.int (xs (i + 1))]) (rest := []) (idx := (916, 27)) (ci := 6) (h := 133) (mt_128 ((xs (i + 1)).toInt) G) hG1 C0 hEN (by decide) (by decide +kernel) (by decide) (by decide +kernel) (show (1 : Nat) = q_na 128 by decide +kernel) (by decide +kernel) s_in_128 rfl (by decide) rfl rfl rfl rfl rfl (by decide) (⟨Or.inl ⟨rfl, _, rfl⟩, trivial⟩) HO hH hS hl.1 (by simp [Value.category]) dl_284 (fun y hp H locs HO ey hG2 hH hS => ?_)
  have HI : a_inv hp := ⟨HO, _, hG2, rR_side ((xs (i + 1)).toInt) hR hA⟩
  refine lv_pop hx hb dl_287 rfl ?_
  refine lv_goto (tgt := 1322) hx hb dl_288 (by decide) ?_
  exact law_tail C0 hL hL2 T HI hl hH hS
theorem law_c3 {i : Nat} {hp : q_H} (C0 : lw_At p s m meth cd b L xs) (hL : i + 7 ≤ L) (hL2 : L ≤ 3584) (hEN : q_EN sa s.heap.size s) (T : LT p l e s m below meth cd b D sa (i + 7)) (HI : a_inv hp) (hl : lv_has ls 4 (law_l s b i)) (hH : q_HR D s.heap.size sa s hp H) (hS : va_S (fun q => s.heap.size ≤ q) s.heap H locs) : LW p l e s m below meth cd b H locs 291 ls [] := by
  obtain ⟨hx, hb, hr, hml, hown, hts, hX, hbl, hlocks, hgv⟩ := id C0
  obtain ⟨HO, G, hG, hR⟩ := HI
  have hA := a_S_of HO hG
  refine lv_aload_n hx hb dl_291 rfl (law_at hl 2 rfl) ?_
  refine law_arg (j := 1) C0 hL hL2 hl hS dl_292 dl_293 dl_294 dl_295 dl_296 (by decide) (by decide) ?_
  refine law_fun s_U_20 22 [(0, -2147483648, 2147483647)] (As := [.int (xs (i + 1))]) (rest := []) (idx := (324, 28)) (ci := 5) (h := 0) (mt_58 ((xs (i + 1)).toInt) G) hG C0 hEN (by decide) (by decide +kernel) (by decide) (by decide +kernel) (show (1 : Nat) = q_na 58 by decide +kernel) (by decide +kernel) s_in_58 rfl (by decide) rfl rfl rfl rfl rfl (by decide) (⟨Or.inl ⟨rfl, _, rfl⟩, trivial⟩) HO hH hS hl.1 (by simp [Value.category]) dl_297 (fun x hp H locs HO ex hG1 hH hS => ?_)
  refine lv_pop hx hb dl_300 rfl ?_
  refine lv_aload_n hx hb dl_301 rfl (law_at hl 1 rfl) ?_
  refine law_arg (j := 1) C0 hL hL2 hl hS dl_302 dl_303 dl_304 dl_305 dl_306 (by decide) (by decide) ?_
  refine law_fun s_U_266 35 [(0, -2147483648, 2147483647)] (As := [.int (xs (i + 1))]) (rest := []) (idx := (928, 31)) (ci := 6) (h := 133) (mt_131 ((xs (i + 1)).toInt) (fn_58 ((xs (i + 1)).toInt) G).2) hG1 C0 hEN (by decide) (by decide +kernel) (by decide) (by decide +kernel) (show (1 : Nat) = q_na 131 by decide +kernel) (by decide +kernel) s_in_131 rfl (by decide) rfl rfl rfl rfl rfl (by decide) (⟨Or.inl ⟨rfl, _, rfl⟩, trivial⟩) HO hH hS hl.1 (by simp [Value.category]) dl_307 (fun y hp H locs HO ey hG2 hH hS => ?_)
  have HI : a_inv hp := ⟨HO, _, hG2, rR_type ((xs (i + 1)).toInt) hR hA⟩
  refine lv_pop hx hb dl_310 rfl ?_
  refine lv_goto (tgt := 1322) hx hb dl_311 (by decide) ?_
  exact law_tail C0 hL hL2 T HI hl hH hS
theorem law_c4 {i : Nat} {hp : q_H} (C0 : lw_At p s m meth cd b L xs) (hL : i + 7 ≤ L) (hL2 : L ≤ 3584) (hEN : q_EN sa s.heap.size s) (T : LT p l e s m below meth cd b D sa (i + 7)) (HI : a_inv hp) (hl : lv_has ls 4 (law_l s b i)) (hH : q_HR D s.heap.size sa s hp H) (hS : va_S (fun q => s.heap.size ≤ q) s.heap H locs) : LW p l e s m below meth cd b H locs 314 ls [] := by
  obtain ⟨hx, hb, hr, hml, hown, hts, hX, hbl, hlocks, hgv⟩ := id C0
  obtain ⟨HO, G, hG, hR⟩ := HI
  have hA := a_S_of HO hG
  refine lv_aload_n hx hb dl_314 rfl (law_at hl 2 rfl) ?_
  refine law_fun s_U_76 22 [] (As := []) (rest := []) (idx := (332, 32)) (ci := 5) (h := 0) (mt_59 G) hG C0 hEN (by decide) (by decide +kernel) (by decide) (by decide +kernel) (show (0 : Nat) = q_na 59 by decide +kernel) (by decide +kernel) s_in_59 rfl (by decide) rfl rfl rfl rfl rfl (by decide) (trivial) HO hH hS hl.1 (by simp [Value.category]) dl_315 (fun x hp H locs HO ex hG1 hH hS => ?_)
  refine lv_pop hx hb dl_318 rfl ?_
  refine lv_aload_n hx hb dl_319 rfl (law_at hl 1 rfl) ?_
  refine law_fun s_U_303 35 [] (As := []) (rest := []) (idx := (934, 36)) (ci := 6) (h := 133) (mt_141 (fn_59 G).2) hG1 C0 hEN (by decide) (by decide +kernel) (by decide) (by decide +kernel) (show (0 : Nat) = q_na 141 by decide +kernel) (by decide +kernel) s_in_141 rfl (by decide) rfl rfl rfl rfl rfl (by decide) (trivial) HO hH hS hl.1 (by simp [Value.category]) dl_320 (fun y hp H locs HO ey hG2 hH hS => ?_)
  have HI : a_inv hp := ⟨HO, _, hG2, rR_plain hR hA⟩
  refine lv_pop hx hb dl_323 rfl ?_
  refine lv_goto (tgt := 1322) hx hb dl_324 (by decide) ?_
  exact law_tail C0 hL hL2 T HI hl hH hS
theorem law_c5 {i : Nat} {hp : q_H} (C0 : lw_At p s m meth cd b L xs) (hL : i + 7 ≤ L) (hL2 : L ≤ 3584) (hEN : q_EN sa s.heap.size s) (T : LT p l e s m below meth cd b D sa (i + 7)) (HI : a_inv hp) (hl : lv_has ls 4 (law_l s b i)) (hH : q_HR D s.heap.size sa s hp H) (hS : va_S (fun q => s.heap.size ≤ q) s.heap H locs) : LW p l e s m below meth cd b H locs 327 ls [] := by
  obtain ⟨hx, hb, hr, hml, hown, hts, hX, hbl, hlocks, hgv⟩ := id C0
  obtain ⟨HO, G, hG, hR⟩ := HI
  have hA := a_S_of HO hG
  refine lv_aload_n hx hb dl_327 rfl (law_at hl 2 rfl) ?_
  refine law_arg (j := 1) C0 hL hL2 hl hS dl_328 dl_329 dl_330 dl_331 dl_332 (by decide) (by decide) ?_
  refine law_fun s_U_81 22 [(0, -2147483648, 2147483647)] (As := [.int (xs (i + 1))]) (rest := []) (idx := (474, 37)) (ci := 5) (h := 0) (mt_60 ((xs (i + 1)).toInt) G) hG C0 hEN (by decide) (by decide +kernel) (by decide) (by decide +kernel) (show (1 : Nat) = q_na 60 by decide +kernel) (by decide +kernel) s_in_60 rfl (by decide) rfl rfl rfl rfl rfl (by decide) (⟨Or.inl ⟨rfl, _, rfl⟩, trivial⟩) HO hH hS hl.1 (by simp [Value.category]) dl_333 (fun x hp H locs HO ex hG1 hH hS => ?_)
  refine lv_pop hx hb dl_336 rfl ?_
  refine lv_aload_n hx hb dl_337 rfl (law_at hl 1 rfl) ?_
  refine law_arg (j := 1) C0 hL hL2 hl hS dl_338 dl_339 dl_340 dl_341 dl_342 (by decide) (by decide) ?_
  refine law_fun s_U_305 35 [(0, -2147483648, 2147483647)] (As := [.int (xs (i + 1))]) (rest := []) (idx := (920, 40)) (ci := 6) (h := 133) (mt_130 ((xs (i + 1)).toInt) G) hG1 C0 hEN (by decide) (by decide +kernel) (by decide) (by decide +kernel) (show (1 : Nat) = q_na 130 by decide +kernel) (by decide +kernel) s_in_130 rfl (by decide) rfl rfl rfl rfl rfl (by decide) (⟨Or.inl ⟨rfl, _, rfl⟩, trivial⟩) HO hH hS hl.1 (by simp [Value.category]) dl_343 (fun y hp H locs HO ey hG2 hH hS => ?_)
  have HI : a_inv hp := ⟨HO, _, hG2, rR_count ((xs (i + 1)).toInt) hR hA⟩
  refine lv_pop hx hb dl_346 rfl ?_
  refine lv_goto (tgt := 1322) hx hb dl_347 (by decide) ?_
  exact law_tail C0 hL hL2 T HI hl hH hS
theorem law_c6 {i : Nat} {hp : q_H} (C0 : lw_At p s m meth cd b L xs) (hL : i + 7 ≤ L) (hL2 : L ≤ 3584) (hEN : q_EN sa s.heap.size s) (T : LT p l e s m below meth cd b D sa (i + 7)) (HI : a_inv hp) (hl : lv_has ls 4 (law_l s b i)) (hH : q_HR D s.heap.size sa s hp H) (hS : va_S (fun q => s.heap.size ≤ q) s.heap H locs) : LW p l e s m below meth cd b H locs 350 ls [] := by
  obtain ⟨hx, hb, hr, hml, hown, hts, hX, hbl, hlocks, hgv⟩ := id C0
  obtain ⟨HO, G, hG, hR⟩ := HI
  have hA := a_S_of HO hG
  refine lv_aload_n hx hb dl_350 rfl (law_at hl 2 rfl) ?_
  refine law_arg (j := 1) C0 hL hL2 hl hS dl_351 dl_352 dl_353 dl_354 dl_355 (by decide) (by decide) ?_
  refine law_fun s_U_90 22 [(0, -2147483648, 2147483647)] (As := [.int (xs (i + 1))]) (rest := []) (idx := (490, 41)) (ci := 5) (h := 0) (mt_61 ((xs (i + 1)).toInt) G) hG C0 hEN (by decide) (by decide +kernel) (by decide) (by decide +kernel) (show (1 : Nat) = q_na 61 by decide +kernel) (by decide +kernel) s_in_61 rfl (by decide) rfl rfl rfl rfl rfl (by decide) (⟨Or.inl ⟨rfl, _, rfl⟩, trivial⟩) HO hH hS hl.1 (by simp [Value.category]) dl_356 (fun x hp H locs HO ex hG1 hH hS => ?_)
  refine lv_pop hx hb dl_359 rfl ?_
  refine lv_aload_n hx hb dl_360 rfl (law_at hl 1 rfl) ?_
  refine law_arg (j := 1) C0 hL hL2 hl hS dl_361 dl_362 dl_363 dl_364 dl_365 (by decide) (by decide) ?_
  refine law_fun s_U_316 35 [(0, -2147483648, 2147483647)] (As := [.int (xs (i + 1))]) (rest := []) (idx := (974, 44)) (ci := 6) (h := 133) (mt_143 ((xs (i + 1)).toInt) (fn_61 ((xs (i + 1)).toInt) G).2) hG1 C0 hEN (by decide) (by decide +kernel) (by decide) (by decide +kernel) (show (1 : Nat) = q_na 143 by decide +kernel) (by decide +kernel) s_in_143 rfl (by decide) rfl rfl rfl rfl rfl (by decide) (⟨Or.inl ⟨rfl, _, rfl⟩, trivial⟩) HO hH hS hl.1 (by simp [Value.category]) dl_366 (fun y hp H locs HO ey hG2 hH hS => ?_)
  have HI : a_inv hp := ⟨HO, _, hG2, rR_hours ((xs (i + 1)).toInt) hR hA⟩
  refine lv_pop hx hb dl_369 rfl ?_
  refine lv_goto (tgt := 1322) hx hb dl_370 (by decide) ?_
  exact law_tail C0 hL hL2 T HI hl hH hS
theorem law_c7 {i : Nat} {hp : q_H} (C0 : lw_At p s m meth cd b L xs) (hL : i + 7 ≤ L) (hL2 : L ≤ 3584) (hEN : q_EN sa s.heap.size s) (T : LT p l e s m below meth cd b D sa (i + 7)) (HI : a_inv hp) (hl : lv_has ls 4 (law_l s b i)) (hH : q_HR D s.heap.size sa s hp H) (hS : va_S (fun q => s.heap.size ≤ q) s.heap H locs) : LW p l e s m below meth cd b H locs 373 ls [] := by
  obtain ⟨hx, hb, hr, hml, hown, hts, hX, hbl, hlocks, hgv⟩ := id C0
  obtain ⟨HO, G, hG, hR⟩ := HI
  have hA := a_S_of HO hG
  refine lv_aload_n hx hb dl_373 rfl (law_at hl 2 rfl) ?_
  refine law_arg (j := 1) C0 hL hL2 hl hS dl_374 dl_375 dl_376 dl_377 dl_378 (by decide) (by decide) ?_
  refine law_fun s_U_95 22 [(0, -2147483648, 2147483647)] (As := [.int (xs (i + 1))]) (rest := []) (idx := (523, 45)) (ci := 5) (h := 0) (mt_62 ((xs (i + 1)).toInt) G) hG C0 hEN (by decide) (by decide +kernel) (by decide) (by decide +kernel) (show (1 : Nat) = q_na 62 by decide +kernel) (by decide +kernel) s_in_62 rfl (by decide) rfl rfl rfl rfl rfl (by decide) (⟨Or.inl ⟨rfl, _, rfl⟩, trivial⟩) HO hH hS hl.1 (by simp [Value.category]) dl_379 (fun x hp H locs HO ex hG1 hH hS => ?_)
  refine lv_pop hx hb dl_382 rfl ?_
  refine lv_aload_n hx hb dl_383 rfl (law_at hl 1 rfl) ?_
  refine law_arg (j := 1) C0 hL hL2 hl hS dl_384 dl_385 dl_386 dl_387 dl_388 (by decide) (by decide) ?_
  refine law_fun s_U_319 35 [(0, -2147483648, 2147483647)] (As := [.int (xs (i + 1))]) (rest := []) (idx := (1002, 48)) (ci := 6) (h := 133) (mt_144 ((xs (i + 1)).toInt) (fn_62 ((xs (i + 1)).toInt) G).2) hG1 C0 hEN (by decide) (by decide +kernel) (by decide) (by decide +kernel) (show (1 : Nat) = q_na 144 by decide +kernel) (by decide +kernel) s_in_144 rfl (by decide) rfl rfl rfl rfl rfl (by decide) (⟨Or.inl ⟨rfl, _, rfl⟩, trivial⟩) HO hH hS hl.1 (by simp [Value.category]) dl_389 (fun y hp H locs HO ey hG2 hH hS => ?_)
  have HI : a_inv hp := ⟨HO, _, hG2, rR_carry ((xs (i + 1)).toInt) hR hA⟩
  refine lv_pop hx hb dl_392 rfl ?_
  refine lv_goto (tgt := 1322) hx hb dl_393 (by decide) ?_
  exact law_tail C0 hL hL2 T HI hl hH hS
theorem law_c8 {i : Nat} {hp : q_H} (C0 : lw_At p s m meth cd b L xs) (hL : i + 7 ≤ L) (hL2 : L ≤ 3584) (hEN : q_EN sa s.heap.size s) (T : LT p l e s m below meth cd b D sa (i + 7)) (HI : a_inv hp) (hl : lv_has ls 4 (law_l s b i)) (hH : q_HR D s.heap.size sa s hp H) (hS : va_S (fun q => s.heap.size ≤ q) s.heap H locs) : LW p l e s m below meth cd b H locs 396 ls [] := by
  obtain ⟨hx, hb, hr, hml, hown, hts, hX, hbl, hlocks, hgv⟩ := id C0
  obtain ⟨HO, G, hG, hR⟩ := HI
  have hA := a_S_of HO hG
  refine lv_aload_n hx hb dl_396 rfl (law_at hl 2 rfl) ?_
  refine law_arg (j := 1) C0 hL hL2 hl hS dl_397 dl_398 dl_399 dl_400 dl_401 (by decide) (by decide) ?_
  refine law_fun s_U_96 22 [(0, -2147483648, 2147483647)] (As := [.int (xs (i + 1))]) (rest := []) (idx := (536, 49)) (ci := 5) (h := 0) (mt_63 ((xs (i + 1)).toInt) G) hG C0 hEN (by decide) (by decide +kernel) (by decide) (by decide +kernel) (show (1 : Nat) = q_na 63 by decide +kernel) (by decide +kernel) s_in_63 rfl (by decide) rfl rfl rfl rfl rfl (by decide) (⟨Or.inl ⟨rfl, _, rfl⟩, trivial⟩) HO hH hS hl.1 (by simp [Value.category]) dl_402 (fun x hp H locs HO ex hG1 hH hS => ?_)
  refine lv_pop hx hb dl_405 rfl ?_
  refine lv_aload_n hx hb dl_406 rfl (law_at hl 1 rfl) ?_
  refine law_arg (j := 1) C0 hL hL2 hl hS dl_407 dl_408 dl_409 dl_410 dl_411 (by decide) (by decide) ?_
  refine law_fun s_U_320 35 [(0, -2147483648, 2147483647)] (As := [.int (xs (i + 1))]) (rest := []) (idx := (1007, 52)) (ci := 6) (h := 133) (mt_145 ((xs (i + 1)).toInt) (fn_63 ((xs (i + 1)).toInt) G).2) hG1 C0 hEN (by decide) (by decide +kernel) (by decide) (by decide +kernel) (show (1 : Nat) = q_na 145 by decide +kernel) (by decide +kernel) s_in_145 rfl (by decide) rfl rfl rfl rfl rfl (by decide) (⟨Or.inl ⟨rfl, _, rfl⟩, trivial⟩) HO hH hS hl.1 (by simp [Value.category]) dl_412 (fun y hp H locs HO ey hG2 hH hS => ?_)
  have HI : a_inv hp := ⟨HO, _, hG2, rR_turn ((xs (i + 1)).toInt) hR hA⟩
  refine lv_pop hx hb dl_415 rfl ?_
  refine lv_goto (tgt := 1322) hx hb dl_416 (by decide) ?_
  exact law_tail C0 hL hL2 T HI hl hH hS
theorem law_c9 {i : Nat} {hp : q_H} (C0 : lw_At p s m meth cd b L xs) (hL : i + 7 ≤ L) (hL2 : L ≤ 3584) (hEN : q_EN sa s.heap.size s) (T : LT p l e s m below meth cd b D sa (i + 7)) (HI : a_inv hp) (hl : lv_has ls 4 (law_l s b i)) (hH : q_HR D s.heap.size sa s hp H) (hS : va_S (fun q => s.heap.size ≤ q) s.heap H locs) : LW p l e s m below meth cd b H locs 419 ls [] := by
  obtain ⟨hx, hb, hr, hml, hown, hts, hX, hbl, hlocks, hgv⟩ := id C0
  obtain ⟨HO, G, hG, hR⟩ := HI
  have hA := a_S_of HO hG
  refine lv_aload_n hx hb dl_419 rfl (law_at hl 2 rfl) ?_
  refine law_arg (j := 1) C0 hL hL2 hl hS dl_420 dl_421 dl_422 dl_423 dl_424 (by decide) (by decide) ?_
  refine law_fun s_U_98 22 [(0, -2147483648, 2147483647)] (As := [.int (xs (i + 1))]) (rest := []) (idx := (540, 53)) (ci := 5) (h := 0) (mt_64 ((xs (i + 1)).toInt) G) hG C0 hEN (by decide) (by decide +kernel) (by decide) (by decide +kernel) (show (1 : Nat) = q_na 64 by decide +kernel) (by decide +kernel) s_in_64 rfl (by decide) rfl rfl rfl rfl rfl (by decide) (⟨Or.inl ⟨rfl, _, rfl⟩, trivial⟩) HO hH hS hl.1 (by simp [Value.category]) dl_425 (fun x hp H locs HO ex hG1 hH hS => ?_)
  refine lv_pop hx hb dl_428 rfl ?_
  refine lv_aload_n hx hb dl_429 rfl (law_at hl 1 rfl) ?_
  refine law_arg (j := 1) C0 hL hL2 hl hS dl_430 dl_431 dl_432 dl_433 dl_434 (by decide) (by decide) ?_
  refine law_fun s_U_321 35 [(0, -2147483648, 2147483647)] (As := [.int (xs (i + 1))]) (rest := []) (idx := (1011, 56)) (ci := 6) (h := 133) (mt_146 ((xs (i + 1)).toInt) (fn_64 ((xs (i + 1)).toInt) G).2) hG1 C0 hEN (by decide) (by decide +kernel) (by decide) (by decide +kernel) (show (1 : Nat) = q_na 146 by decide +kernel) (by decide +kernel) s_in_146 rfl (by decide) rfl rfl rfl rfl rfl (by decide) (⟨Or.inl ⟨rfl, _, rfl⟩, trivial⟩) HO hH hS hl.1 (by simp [Value.category]) dl_435 (fun y hp H locs HO ey hG2 hH hS => ?_)
  have HI : a_inv hp := ⟨HO, _, hG2, rR_hand ((xs (i + 1)).toInt) hR hA⟩
  refine lv_pop hx hb dl_438 rfl ?_
  refine lv_goto (tgt := 1322) hx hb dl_439 (by decide) ?_
  exact law_tail C0 hL hL2 T HI hl hH hS
theorem law_c10 {i : Nat} {hp : q_H} (C0 : lw_At p s m meth cd b L xs) (hL : i + 7 ≤ L) (hL2 : L ≤ 3584) (hEN : q_EN sa s.heap.size s) (T : LT p l e s m below meth cd b D sa (i + 7)) (HI : a_inv hp) (hl : lv_has ls 4 (law_l s b i)) (hH : q_HR D s.heap.size sa s hp H) (hS : va_S (fun q => s.heap.size ≤ q) s.heap H locs) : LW p l e s m below meth cd b H locs 442 ls [] := by
  obtain ⟨hx, hb, hr, hml, hown, hts, hX, hbl, hlocks, hgv⟩ := id C0
  obtain ⟨HO, G, hG, hR⟩ := HI
  have hA := a_S_of HO hG
  refine lv_aload_n hx hb dl_442 rfl (law_at hl 2 rfl) ?_
  refine law_fun s_U_99 22 [] (As := []) (rest := []) (idx := (549, 57)) (ci := 5) (h := 0) (mt_65 G) hG C0 hEN (by decide) (by decide +kernel) (by decide) (by decide +kernel) (show (0 : Nat) = q_na 65 by decide +kernel) (by decide +kernel) s_in_65 rfl (by decide) rfl rfl rfl rfl rfl (by decide) (trivial) HO hH hS hl.1 (by simp [Value.category]) dl_443 (fun x hp H locs HO ex hG1 hH hS => ?_)
  refine lv_pop hx hb dl_446 rfl ?_
  refine lv_aload_n hx hb dl_447 rfl (law_at hl 1 rfl) ?_
  refine law_fun s_U_322 35 [] (As := []) (rest := []) (idx := (1015, 60)) (ci := 6) (h := 133) (mt_147 (fn_65 G).2) hG1 C0 hEN (by decide) (by decide +kernel) (by decide) (by decide +kernel) (show (0 : Nat) = q_na 147 by decide +kernel) (by decide +kernel) s_in_147 rfl (by decide) rfl rfl rfl rfl rfl (by decide) (trivial) HO hH hS hl.1 (by simp [Value.category]) dl_448 (fun y hp H locs HO ey hG2 hH hS => ?_)
  have HI : a_inv hp := ⟨HO, _, hG2, rR_lay hR hA⟩
  refine lv_pop hx hb dl_451 rfl ?_
  refine lv_goto (tgt := 1322) hx hb dl_452 (by decide) ?_
  exact law_tail C0 hL hL2 T HI hl hH hS
theorem law_c11 {i : Nat} {hp : q_H} (C0 : lw_At p s m meth cd b L xs) (hL : i + 7 ≤ L) (hL2 : L ≤ 3584) (hEN : q_EN sa s.heap.size s) (T : LT p l e s m below meth cd b D sa (i + 7)) (HI : a_inv hp) (hl : lv_has ls 4 (law_l s b i)) (hH : q_HR D s.heap.size sa s hp H) (hS : va_S (fun q => s.heap.size ≤ q) s.heap H locs) : LW p l e s m below meth cd b H locs 455 ls [] := by
  obtain ⟨hx, hb, hr, hml, hown, hts, hX, hbl, hlocks, hgv⟩ := id C0
  obtain ⟨HO, G, hG, hR⟩ := HI
  have hA := a_S_of HO hG
  refine lv_aload_n hx hb dl_455 rfl (law_at hl 2 rfl) ?_
  refine law_arg (j := 1) C0 hL hL2 hl hS dl_456 dl_457 dl_458 dl_459 dl_460 (by decide) (by decide) ?_
  refine law_arg (j := 2) C0 hL hL2 hl hS dl_461 dl_462 dl_463 dl_464 dl_465 (by decide) (by decide) ?_
  refine law_fun s_U_100 22 [(0, -2147483648, 2147483647), (0, -2147483648, 2147483647)] (As := [.int (xs (i + 1)), .int (xs (i + 2))]) (rest := []) (idx := (554, 61)) (ci := 5) (h := 0) (mt_66 ((xs (i + 1)).toInt) ((xs (i + 2)).toInt) G) hG C0 hEN (by decide) (by decide +kernel) (by decide) (by decide +kernel) (show (2 : Nat) = q_na 66 by decide +kernel) (by decide +kernel) s_in_66 rfl (by decide) rfl rfl rfl rfl rfl (by decide) (⟨Or.inl ⟨rfl, _, rfl⟩, ⟨Or.inl ⟨rfl, _, rfl⟩, trivial⟩⟩) HO hH hS hl.1 (by simp [Value.category]) dl_466 (fun x hp H locs HO ex hG1 hH hS => ?_)
  refine lv_pop hx hb dl_469 rfl ?_
  refine lv_aload_n hx hb dl_470 rfl (law_at hl 1 rfl) ?_
  refine law_arg (j := 1) C0 hL hL2 hl hS dl_471 dl_472 dl_473 dl_474 dl_475 (by decide) (by decide) ?_
  refine law_arg (j := 2) C0 hL hL2 hl hS dl_476 dl_477 dl_478 dl_479 dl_480 (by decide) (by decide) ?_
  refine law_fun s_U_323 35 [(0, -2147483648, 2147483647), (0, -2147483648, 2147483647)] (As := [.int (xs (i + 1)), .int (xs (i + 2))]) (rest := []) (idx := (1019, 64)) (ci := 6) (h := 133) (mt_148 ((xs (i + 1)).toInt) ((xs (i + 2)).toInt) (fn_66 ((xs (i + 1)).toInt) ((xs (i + 2)).toInt) G).2) hG1 C0 hEN (by decide) (by decide +kernel) (by decide) (by decide +kernel) (show (2 : Nat) = q_na 148 by decide +kernel) (by decide +kernel) s_in_148 rfl (by decide) rfl rfl rfl rfl rfl (by decide) (⟨Or.inl ⟨rfl, _, rfl⟩, ⟨Or.inl ⟨rfl, _, rfl⟩, trivial⟩⟩) HO hH hS hl.1 (by simp [Value.category]) dl_481 (fun y hp H locs HO ey hG2 hH hS => ?_)
  have HI : a_inv hp := ⟨HO, _, hG2, rR_send ((xs (i + 1)).toInt) ((xs (i + 2)).toInt) hR hA⟩
  refine lv_pop hx hb dl_484 rfl ?_
  refine lv_goto (tgt := 1322) hx hb dl_485 (by decide) ?_
  exact law_tail C0 hL hL2 T HI hl hH hS
theorem law_c12 {i : Nat} {hp : q_H} (C0 : lw_At p s m meth cd b L xs) (hL : i + 7 ≤ L) (hL2 : L ≤ 3584) (hEN : q_EN sa s.heap.size s) (T : LT p l e s m below meth cd b D sa (i + 7)) (HI : a_inv hp) (hl : lv_has ls 4 (law_l s b i)) (hH : q_HR D s.heap.size sa s hp H) (hS : va_S (fun q => s.heap.size ≤ q) s.heap H locs) : LW p l e s m below meth cd b H locs 488 ls [] := by
  obtain ⟨hx, hb, hr, hml, hown, hts, hX, hbl, hlocks, hgv⟩ := id C0
  obtain ⟨HO, G, hG, hR⟩ := HI
  have hA := a_S_of HO hG
  refine lv_aload_n hx hb dl_488 rfl (law_at hl 2 rfl) ?_
  refine law_arg (j := 1) C0 hL hL2 hl hS dl_489 dl_490 dl_491 dl_492 dl_493 (by decide) (by decide) ?_
  refine law_fun s_U_102 22 [(0, -2147483648, 2147483647)] (As := [.int (xs (i + 1))]) (rest := []) (idx := (558, 65)) (ci := 5) (h := 0) (mt_67 ((xs (i + 1)).toInt) G) hG C0 hEN (by decide) (by decide +kernel) (by decide) (by decide +kernel) (show (1 : Nat) = q_na 67 by decide +kernel) (by decide +kernel) s_in_67 rfl (by decide) rfl rfl rfl rfl rfl (by decide) (⟨Or.inl ⟨rfl, _, rfl⟩, trivial⟩) HO hH hS hl.1 (by simp [Value.category]) dl_494 (fun x hp H locs HO ex hG1 hH hS => ?_)
  refine lv_pop hx hb dl_497 rfl ?_
  refine lv_aload_n hx hb dl_498 rfl (law_at hl 1 rfl) ?_
  refine law_arg (j := 1) C0 hL hL2 hl hS dl_499 dl_500 dl_501 dl_502 dl_503 (by decide) (by decide) ?_
  refine law_fun s_U_325 35 [(0, -2147483648, 2147483647)] (As := [.int (xs (i + 1))]) (rest := []) (idx := (1023, 68)) (ci := 6) (h := 133) (mt_149 ((xs (i + 1)).toInt) (fn_67 ((xs (i + 1)).toInt) G).2) hG1 C0 hEN (by decide) (by decide +kernel) (by decide) (by decide +kernel) (show (1 : Nat) = q_na 149 by decide +kernel) (by decide +kernel) s_in_149 rfl (by decide) rfl rfl rfl rfl rfl (by decide) (⟨Or.inl ⟨rfl, _, rfl⟩, trivial⟩) HO hH hS hl.1 (by simp [Value.category]) dl_504 (fun y hp H locs HO ey hG2 hH hS => ?_)
  have HI : a_inv hp := ⟨HO, _, hG2, rR_rain ((xs (i + 1)).toInt) hR hA⟩
  refine lv_pop hx hb dl_507 rfl ?_
  refine lv_goto (tgt := 1322) hx hb dl_508 (by decide) ?_
  exact law_tail C0 hL hL2 T HI hl hH hS
theorem law_c13 {i : Nat} {hp : q_H} (C0 : lw_At p s m meth cd b L xs) (hL : i + 7 ≤ L) (hL2 : L ≤ 3584) (hEN : q_EN sa s.heap.size s) (T : LT p l e s m below meth cd b D sa (i + 7)) (HI : a_inv hp) (hl : lv_has ls 4 (law_l s b i)) (hH : q_HR D s.heap.size sa s hp H) (hS : va_S (fun q => s.heap.size ≤ q) s.heap H locs) : LW p l e s m below meth cd b H locs 511 ls [] := by
  obtain ⟨hx, hb, hr, hml, hown, hts, hX, hbl, hlocks, hgv⟩ := id C0
  obtain ⟨HO, G, hG, hR⟩ := HI
  have hA := a_S_of HO hG
  refine lv_aload_n hx hb dl_511 rfl (law_at hl 2 rfl) ?_
  refine law_arg (j := 1) C0 hL hL2 hl hS dl_512 dl_513 dl_514 dl_515 dl_516 (by decide) (by decide) ?_
  refine law_fun s_U_104 22 [(0, -2147483648, 2147483647)] (As := [.int (xs (i + 1))]) (rest := []) (idx := (562, 69)) (ci := 5) (h := 0) (mt_68 ((xs (i + 1)).toInt) G) hG C0 hEN (by decide) (by decide +kernel) (by decide) (by decide +kernel) (show (1 : Nat) = q_na 68 by decide +kernel) (by decide +kernel) s_in_68 rfl (by decide) rfl rfl rfl rfl rfl (by decide) (⟨Or.inl ⟨rfl, _, rfl⟩, trivial⟩) HO hH hS hl.1 (by simp [Value.category]) dl_517 (fun x hp H locs HO ex hG1 hH hS => ?_)
  refine lv_pop hx hb dl_520 rfl ?_
  refine lv_aload_n hx hb dl_521 rfl (law_at hl 1 rfl) ?_
  refine law_arg (j := 1) C0 hL hL2 hl hS dl_522 dl_523 dl_524 dl_525 dl_526 (by decide) (by decide) ?_
  refine law_fun s_U_326 35 [(0, -2147483648, 2147483647)] (As := [.int (xs (i + 1))]) (rest := []) (idx := (1028, 72)) (ci := 6) (h := 133) (mt_150 ((xs (i + 1)).toInt) (fn_68 ((xs (i + 1)).toInt) G).2) hG1 C0 hEN (by decide) (by decide +kernel) (by decide) (by decide +kernel) (show (1 : Nat) = q_na 150 by decide +kernel) (by decide +kernel) s_in_150 rfl (by decide) rfl rfl rfl rfl rfl (by decide) (⟨Or.inl ⟨rfl, _, rfl⟩, trivial⟩) HO hH hS hl.1 (by simp [Value.category]) dl_527 (fun y hp H locs HO ey hG2 hH hS => ?_)
  have HI : a_inv hp := ⟨HO, _, hG2, rR_drift ((xs (i + 1)).toInt) hR hA⟩
  refine lv_pop hx hb dl_530 rfl ?_
  refine lv_goto (tgt := 1322) hx hb dl_531 (by decide) ?_
  exact law_tail C0 hL hL2 T HI hl hH hS
theorem law_c14 {i : Nat} {hp : q_H} (C0 : lw_At p s m meth cd b L xs) (hL : i + 7 ≤ L) (hL2 : L ≤ 3584) (hEN : q_EN sa s.heap.size s) (T : LT p l e s m below meth cd b D sa (i + 7)) (HI : a_inv hp) (hl : lv_has ls 4 (law_l s b i)) (hH : q_HR D s.heap.size sa s hp H) (hS : va_S (fun q => s.heap.size ≤ q) s.heap H locs) : LW p l e s m below meth cd b H locs 534 ls [] := by
  obtain ⟨hx, hb, hr, hml, hown, hts, hX, hbl, hlocks, hgv⟩ := id C0
  obtain ⟨HO, G, hG, hR⟩ := HI
  have hA := a_S_of HO hG
  refine lv_aload_n hx hb dl_534 rfl (law_at hl 2 rfl) ?_
  refine law_fun s_U_107 22 [] (As := []) (rest := []) (idx := (573, 73)) (ci := 5) (h := 0) (mt_69 G) hG C0 hEN (by decide) (by decide +kernel) (by decide) (by decide +kernel) (show (0 : Nat) = q_na 69 by decide +kernel) (by decide +kernel) s_in_69 rfl (by decide) rfl rfl rfl rfl rfl (by decide) (trivial) HO hH hS hl.1 (by simp [Value.category]) dl_535 (fun x hp H locs HO ex hG1 hH hS => ?_)
  refine lv_pop hx hb dl_538 rfl ?_
  refine lv_aload_n hx hb dl_539 rfl (law_at hl 1 rfl) ?_
  refine law_fun s_U_327 35 [] (As := []) (rest := []) (idx := (1036, 76)) (ci := 6) (h := 133) (mt_151 (fn_69 G).2) hG1 C0 hEN (by decide) (by decide +kernel) (by decide) (by decide +kernel) (show (0 : Nat) = q_na 151 by decide +kernel) (by decide +kernel) s_in_151 rfl (by decide) rfl rfl rfl rfl rfl (by decide) (trivial) HO hH hS hl.1 (by simp [Value.category]) dl_540 (fun y hp H locs HO ey hG2 hH hS => ?_)
  have HI : a_inv hp := ⟨HO, _, hG2, rR_undo hR hA⟩
  refine lv_pop hx hb dl_543 rfl ?_
  refine lv_goto (tgt := 1322) hx hb dl_544 (by decide) ?_
  exact law_tail C0 hL hL2 T HI hl hH hS
theorem law_c15 {i : Nat} {hp : q_H} (C0 : lw_At p s m meth cd b L xs) (hL : i + 7 ≤ L) (hL2 : L ≤ 3584) (hEN : q_EN sa s.heap.size s) (T : LT p l e s m below meth cd b D sa (i + 7)) (HI : a_inv hp) (hl : lv_has ls 4 (law_l s b i)) (hH : q_HR D s.heap.size sa s hp H) (hS : va_S (fun q => s.heap.size ≤ q) s.heap H locs) : LW p l e s m below meth cd b H locs 547 ls [] := by
  obtain ⟨hx, hb, hr, hml, hown, hts, hX, hbl, hlocks, hgv⟩ := id C0
  obtain ⟨HO, G, hG, hR⟩ := HI
  have hA := a_S_of HO hG
  refine lv_aload_n hx hb dl_547 rfl (law_at hl 2 rfl) ?_
  refine law_arg (j := 1) C0 hL hL2 hl hS dl_548 dl_549 dl_550 dl_551 dl_552 (by decide) (by decide) ?_
  refine law_fun s_U_108 22 [(0, -2147483648, 2147483647)] (As := [.int (xs (i + 1))]) (rest := []) (idx := (581, 77)) (ci := 5) (h := 0) (mt_70 ((xs (i + 1)).toInt) G) hG C0 hEN (by decide) (by decide +kernel) (by decide) (by decide +kernel) (show (1 : Nat) = q_na 70 by decide +kernel) (by decide +kernel) s_in_70 rfl (by decide) rfl rfl rfl rfl rfl (by decide) (⟨Or.inl ⟨rfl, _, rfl⟩, trivial⟩) HO hH hS hl.1 (by simp [Value.category]) dl_553 (fun x hp H locs HO ex hG1 hH hS => ?_)
  refine lv_pop hx hb dl_556 rfl ?_
  refine lv_aload_n hx hb dl_557 rfl (law_at hl 1 rfl) ?_
  refine law_arg (j := 1) C0 hL hL2 hl hS dl_558 dl_559 dl_560 dl_561 dl_562 (by decide) (by decide) ?_
  refine law_fun s_U_328 35 [(0, -2147483648, 2147483647)] (As := [.int (xs (i + 1))]) (rest := []) (idx := (1040, 80)) (ci := 6) (h := 133) (mt_152 ((xs (i + 1)).toInt) (fn_70 ((xs (i + 1)).toInt) G).2) hG1 C0 hEN (by decide) (by decide +kernel) (by decide) (by decide +kernel) (show (1 : Nat) = q_na 152 by decide +kernel) (by decide +kernel) s_in_152 rfl (by decide) rfl rfl rfl rfl rfl (by decide) (⟨Or.inl ⟨rfl, _, rfl⟩, trivial⟩) HO hH hS hl.1 (by simp [Value.category]) dl_563 (fun y hp H locs HO ey hG2 hH hS => ?_)
  have HI : a_inv hp := ⟨HO, _, hG2, rR_seed ((xs (i + 1)).toInt) hR hA (s_b32 _).2⟩
  refine lv_pop hx hb dl_566 rfl ?_
  refine lv_goto (tgt := 1322) hx hb dl_567 (by decide) ?_
  exact law_tail C0 hL hL2 T HI hl hH hS
theorem law_c16 {i : Nat} {hp : q_H} (C0 : lw_At p s m meth cd b L xs) (hL : i + 7 ≤ L) (hL2 : L ≤ 3584) (hEN : q_EN sa s.heap.size s) (T : LT p l e s m below meth cd b D sa (i + 7)) (HI : a_inv hp) (hl : lv_has ls 4 (law_l s b i)) (hH : q_HR D s.heap.size sa s hp H) (hS : va_S (fun q => s.heap.size ≤ q) s.heap H locs) : LW p l e s m below meth cd b H locs 570 ls [] := by
  obtain ⟨hx, hb, hr, hml, hown, hts, hX, hbl, hlocks, hgv⟩ := id C0
  obtain ⟨HO, G, hG, hR⟩ := HI
  have hA := a_S_of HO hG
  refine lv_aload_n hx hb dl_570 rfl (law_at hl 2 rfl) ?_
  refine law_arg (j := 1) C0 hL hL2 hl hS dl_571 dl_572 dl_573 dl_574 dl_575 (by decide) (by decide) ?_
  refine law_fun s_U_122 22 [(0, -2147483648, 2147483647)] (As := [.int (xs (i + 1))]) (rest := []) (idx := (585, 81)) (ci := 5) (h := 0) (mt_71 ((xs (i + 1)).toInt) G) hG C0 hEN (by decide) (by decide +kernel) (by decide) (by decide +kernel) (show (1 : Nat) = q_na 71 by decide +kernel) (by decide +kernel) s_in_71 rfl (by decide) rfl rfl rfl rfl rfl (by decide) (⟨Or.inl ⟨rfl, _, rfl⟩, trivial⟩) HO hH hS hl.1 (by simp [Value.category]) dl_576 (fun x hp H locs HO ex hG1 hH hS => ?_)
  refine lv_pop hx hb dl_579 rfl ?_
  refine lv_aload_n hx hb dl_580 rfl (law_at hl 1 rfl) ?_
  refine law_arg (j := 1) C0 hL hL2 hl hS dl_581 dl_582 dl_583 dl_584 dl_585 (by decide) (by decide) ?_
  refine law_fun s_U_333 35 [(0, -2147483648, 2147483647)] (As := [.int (xs (i + 1))]) (rest := []) (idx := (1044, 84)) (ci := 6) (h := 133) (mt_156 ((xs (i + 1)).toInt) (fn_71 ((xs (i + 1)).toInt) G).2) hG1 C0 hEN (by decide) (by decide +kernel) (by decide) (by decide +kernel) (show (1 : Nat) = q_na 156 by decide +kernel) (by decide +kernel) s_in_156 rfl (by decide) rfl rfl rfl rfl rfl (by decide) (⟨Or.inl ⟨rfl, _, rfl⟩, trivial⟩) HO hH hS hl.1 (by simp [Value.category]) dl_586 (fun y hp H locs HO ey hG2 hH hS => ?_)
  have HI : a_inv hp := ⟨HO, _, hG2, rR_ahead ((xs (i + 1)).toInt) hR hA⟩
  refine lv_pop hx hb dl_589 rfl ?_
  refine lv_goto (tgt := 1322) hx hb dl_590 (by decide) ?_
  exact law_tail C0 hL hL2 T HI hl hH hS
theorem law_c17 {i : Nat} {hp : q_H} (C0 : lw_At p s m meth cd b L xs) (hL : i + 7 ≤ L) (hL2 : L ≤ 3584) (hEN : q_EN sa s.heap.size s) (T : LT p l e s m below meth cd b D sa (i + 7)) (HI : a_inv hp) (hl : lv_has ls 4 (law_l s b i)) (hH : q_HR D s.heap.size sa s hp H) (hS : va_S (fun q => s.heap.size ≤ q) s.heap H locs) : LW p l e s m below meth cd b H locs 593 ls [] := by
  obtain ⟨hx, hb, hr, hml, hown, hts, hX, hbl, hlocks, hgv⟩ := id C0
  obtain ⟨HO, G, hG, hR⟩ := HI
  have hA := a_S_of HO hG
  refine lv_aload_n hx hb dl_593 rfl (law_at hl 2 rfl) ?_
  refine law_arg (j := 1) C0 hL hL2 hl hS dl_594 dl_595 dl_596 dl_597 dl_598 (by decide) (by decide) ?_
  refine law_arg (j := 2) C0 hL hL2 hl hS dl_599 dl_600 dl_601 dl_602 dl_603 (by decide) (by decide) ?_
  refine law_arg (j := 3) C0 hL hL2 hl hS dl_604 dl_605 dl_606 dl_607 dl_608 (by decide) (by decide) ?_
  refine law_fun s_U_124 22 [(0, -2147483648, 2147483647), (0, -2147483648, 2147483647), (0, -2147483648, 2147483647)] (As := [.int (xs (i + 1)), .int (xs (i + 2)), .int (xs (i + 3))]) (rest := []) (idx := (598, 85)) (ci := 5) (h := 0) (mt_72 ((xs (i + 1)).toInt) ((xs (i + 2)).toInt) ((xs (i + 3)).toInt) G) hG C0 hEN (by decide) (by decide +kernel) (by decide) (by decide +kernel) (show (3 : Nat) = q_na 72 by decide +kernel) (by decide +kernel) s_in_72 rfl (by decide) rfl rfl rfl rfl rfl (by decide) (⟨Or.inl ⟨rfl, _, rfl⟩, ⟨Or.inl ⟨rfl, _, rfl⟩, ⟨Or.inl ⟨rfl, _, rfl⟩, trivial⟩⟩⟩) HO hH hS hl.1 (by simp [Value.category]) dl_609 (fun x hp H locs HO ex hG1 hH hS => ?_)
  refine lv_pop hx hb dl_612 rfl ?_
  refine lv_aload_n hx hb dl_613 rfl (law_at hl 1 rfl) ?_
  refine law_arg (j := 1) C0 hL hL2 hl hS dl_614 dl_615 dl_616 dl_617 dl_618 (by decide) (by decide) ?_
  refine law_arg (j := 2) C0 hL hL2 hl hS dl_619 dl_620 dl_621 dl_622 dl_623 (by decide) (by decide) ?_
  refine law_arg (j := 3) C0 hL hL2 hl hS dl_624 dl_625 dl_626 dl_627 dl_628 (by decide) (by decide) ?_
  refine law_fun s_U_335 35 [(0, -2147483648, 2147483647), (0, -2147483648, 2147483647), (0, -2147483648, 2147483647)] (As := [.int (xs (i + 1)), .int (xs (i + 2)), .int (xs (i + 3))]) (rest := []) (idx := (1060, 88)) (ci := 6) (h := 133) (mt_157 ((xs (i + 1)).toInt) ((xs (i + 2)).toInt) ((xs (i + 3)).toInt) (fn_72 ((xs (i + 1)).toInt) ((xs (i + 2)).toInt) ((xs (i + 3)).toInt) G).2) hG1 C0 hEN (by decide) (by decide +kernel) (by decide) (by decide +kernel) (show (3 : Nat) = q_na 157 by decide +kernel) (by decide +kernel) s_in_157 rfl (by decide) rfl rfl rfl rfl rfl (by decide) (⟨Or.inl ⟨rfl, _, rfl⟩, ⟨Or.inl ⟨rfl, _, rfl⟩, ⟨Or.inl ⟨rfl, _, rfl⟩, trivial⟩⟩⟩) HO hH hS hl.1 (by simp [Value.category]) dl_629 (fun y hp H locs HO ey hG2 hH hS => ?_)
  have HI : a_inv hp := ⟨HO, _, hG2, rR_then ((xs (i + 1)).toInt) ((xs (i + 2)).toInt) ((xs (i + 3)).toInt) hR hA⟩
  refine lv_pop hx hb dl_632 rfl ?_
  refine lv_goto (tgt := 1322) hx hb dl_633 (by decide) ?_
  exact law_tail C0 hL hL2 T HI hl hH hS
theorem law_c18 {i : Nat} {hp : q_H} (C0 : lw_At p s m meth cd b L xs) (hL : i + 7 ≤ L) (hL2 : L ≤ 3584) (hEN : q_EN sa s.heap.size s) (T : LT p l e s m below meth cd b D sa (i + 7)) (HI : a_inv hp) (hl : lv_has ls 4 (law_l s b i)) (hH : q_HR D s.heap.size sa s hp H) (hS : va_S (fun q => s.heap.size ≤ q) s.heap H locs) : LW p l e s m below meth cd b H locs 636 ls [] := by
  obtain ⟨hx, hb, hr, hml, hown, hts, hX, hbl, hlocks, hgv⟩ := id C0
  obtain ⟨HO, G, hG, hR⟩ := HI
  have hA := a_S_of HO hG
  refine lv_aload_n hx hb dl_636 rfl (law_at hl 2 rfl) ?_
  refine law_fun s_U_125 22 [] (As := []) (rest := []) (idx := (602, 89)) (ci := 5) (h := 0) (mt_73 G) hG C0 hEN (by decide) (by decide +kernel) (by decide) (by decide +kernel) (show (0 : Nat) = q_na 73 by decide +kernel) (by decide +kernel) s_in_73 rfl (by decide) rfl rfl rfl rfl rfl (by decide) (trivial) HO hH hS hl.1 (by simp [Value.category]) dl_637 (fun x hp H locs HO ex hG1 hH hS => ?_)
  refine lv_pop hx hb dl_640 rfl ?_
  refine lv_aload_n hx hb dl_641 rfl (law_at hl 1 rfl) ?_
  refine law_fun s_U_336 35 [] (As := []) (rest := []) (idx := (1065, 92)) (ci := 6) (h := 133) (mt_158 (fn_73 G).2) hG1 C0 hEN (by decide) (by decide +kernel) (by decide) (by decide +kernel) (show (0 : Nat) = q_na 158 by decide +kernel) (by decide +kernel) s_in_158 rfl (by decide) rfl rfl rfl rfl rfl (by decide) (trivial) HO hH hS hl.1 (by simp [Value.category]) dl_642 (fun y hp H locs HO ey hG2 hH hS => ?_)
  have HI : a_inv hp := ⟨HO, _, hG2, rR_lies hR hA⟩
  refine lv_pop hx hb dl_645 rfl ?_
  refine lv_goto (tgt := 1322) hx hb dl_646 (by decide) ?_
  exact law_tail C0 hL hL2 T HI hl hH hS
theorem law_c19 {i : Nat} {hp : q_H} (C0 : lw_At p s m meth cd b L xs) (hL : i + 7 ≤ L) (hL2 : L ≤ 3584) (hEN : q_EN sa s.heap.size s) (T : LT p l e s m below meth cd b D sa (i + 7)) (HI : a_inv hp) (hl : lv_has ls 4 (law_l s b i)) (hH : q_HR D s.heap.size sa s hp H) (hS : va_S (fun q => s.heap.size ≤ q) s.heap H locs) : LW p l e s m below meth cd b H locs 649 ls [] := by
  obtain ⟨hx, hb, hr, hml, hown, hts, hX, hbl, hlocks, hgv⟩ := id C0
  obtain ⟨HO, G, hG, hR⟩ := HI
  have hA := a_S_of HO hG
  refine lv_aload_n hx hb dl_649 rfl (law_at hl 2 rfl) ?_
  refine law_arg (j := 1) C0 hL hL2 hl hS dl_650 dl_651 dl_652 dl_653 dl_654 (by decide) (by decide) ?_
  refine law_fun s_U_127 22 [(0, -2147483648, 2147483647)] (As := [.int (xs (i + 1))]) (rest := []) (idx := (606, 93)) (ci := 5) (h := 0) (mt_74 ((xs (i + 1)).toInt) G) hG C0 hEN (by decide) (by decide +kernel) (by decide) (by decide +kernel) (show (1 : Nat) = q_na 74 by decide +kernel) (by decide +kernel) s_in_74 rfl (by decide) rfl rfl rfl rfl rfl (by decide) (⟨Or.inl ⟨rfl, _, rfl⟩, trivial⟩) HO hH hS hl.1 (by simp [Value.category]) dl_655 (fun x hp H locs HO ex hG1 hH hS => ?_)
  refine lv_pop hx hb dl_658 rfl ?_
  refine lv_aload_n hx hb dl_659 rfl (law_at hl 1 rfl) ?_
  refine law_arg (j := 1) C0 hL hL2 hl hS dl_660 dl_661 dl_662 dl_663 dl_664 (by decide) (by decide) ?_
  refine law_fun s_U_338 35 [(0, -2147483648, 2147483647)] (As := [.int (xs (i + 1))]) (rest := []) (idx := (1069, 96)) (ci := 6) (h := 133) (mt_160 ((xs (i + 1)).toInt) (fn_74 ((xs (i + 1)).toInt) G).2) hG1 C0 hEN (by decide) (by decide +kernel) (by decide) (by decide +kernel) (show (1 : Nat) = q_na 160 by decide +kernel) (by decide +kernel) s_in_160 rfl (by decide) rfl rfl rfl rfl rfl (by decide) (⟨Or.inl ⟨rfl, _, rfl⟩, trivial⟩) HO hH hS hl.1 (by simp [Value.category]) dl_665 (fun y hp H locs HO ey hG2 hH hS => ?_)
  have HI : a_inv hp := ⟨HO, _, hG2, rR_wet ((xs (i + 1)).toInt) hR hA⟩
  refine lv_pop hx hb dl_668 rfl ?_
  refine lv_goto (tgt := 1322) hx hb dl_669 (by decide) ?_
  exact law_tail C0 hL hL2 T HI hl hH hS
theorem law_c20 {i : Nat} {hp : q_H} (C0 : lw_At p s m meth cd b L xs) (hL : i + 7 ≤ L) (hL2 : L ≤ 3584) (hEN : q_EN sa s.heap.size s) (T : LT p l e s m below meth cd b D sa (i + 7)) (HI : a_inv hp) (hl : lv_has ls 4 (law_l s b i)) (hH : q_HR D s.heap.size sa s hp H) (hS : va_S (fun q => s.heap.size ≤ q) s.heap H locs) : LW p l e s m below meth cd b H locs 672 ls [] := by
  obtain ⟨hx, hb, hr, hml, hown, hts, hX, hbl, hlocks, hgv⟩ := id C0
  obtain ⟨HO, G, hG, hR⟩ := HI
  have hA := a_S_of HO hG
  refine lv_aload_n hx hb dl_672 rfl (law_at hl 2 rfl) ?_
  refine law_arg (j := 1) C0 hL hL2 hl hS dl_673 dl_674 dl_675 dl_676 dl_677 (by decide) (by decide) ?_
  refine law_arg (j := 2) C0 hL hL2 hl hS dl_678 dl_679 dl_680 dl_681 dl_682 (by decide) (by decide) ?_
  refine law_fun s_U_130 22 [(0, -2147483648, 2147483647), (0, -2147483648, 2147483647)] (As := [.int (xs (i + 1)), .int (xs (i + 2))]) (rest := []) (idx := (610, 97)) (ci := 5) (h := 0) (mt_75 ((xs (i + 1)).toInt) ((xs (i + 2)).toInt) G) hG C0 hEN (by decide) (by decide +kernel) (by decide) (by decide +kernel) (show (2 : Nat) = q_na 75 by decide +kernel) (by decide +kernel) s_in_75 rfl (by decide) rfl rfl rfl rfl rfl (by decide) (⟨Or.inl ⟨rfl, _, rfl⟩, ⟨Or.inl ⟨rfl, _, rfl⟩, trivial⟩⟩) HO hH hS hl.1 (by simp [Value.category]) dl_683 (fun x hp H locs HO ex hG1 hH hS => ?_)
  refine lv_pop hx hb dl_686 rfl ?_
  refine lv_aload_n hx hb dl_687 rfl (law_at hl 1 rfl) ?_
  refine law_arg (j := 1) C0 hL hL2 hl hS dl_688 dl_689 dl_690 dl_691 dl_692 (by decide) (by decide) ?_
  refine law_arg (j := 2) C0 hL hL2 hl hS dl_693 dl_694 dl_695 dl_696 dl_697 (by decide) (by decide) ?_
  refine law_fun s_U_340 35 [(0, -2147483648, 2147483647), (0, -2147483648, 2147483647)] (As := [.int (xs (i + 1)), .int (xs (i + 2))]) (rest := []) (idx := (1077, 100)) (ci := 6) (h := 133) (mt_161 ((xs (i + 1)).toInt) ((xs (i + 2)).toInt) (fn_75 ((xs (i + 1)).toInt) ((xs (i + 2)).toInt) G).2) hG1 C0 hEN (by decide) (by decide +kernel) (by decide) (by decide +kernel) (show (2 : Nat) = q_na 161 by decide +kernel) (by decide +kernel) s_in_161 rfl (by decide) rfl rfl rfl rfl rfl (by decide) (⟨Or.inl ⟨rfl, _, rfl⟩, ⟨Or.inl ⟨rfl, _, rfl⟩, trivial⟩⟩) HO hH hS hl.1 (by simp [Value.category]) dl_698 (fun y hp H locs HO ey hG2 hH hS => ?_)
  have HI : a_inv hp := ⟨HO, _, hG2, rR_facing ((xs (i + 1)).toInt) ((xs (i + 2)).toInt) hR hA⟩
  refine lv_pop hx hb dl_701 rfl ?_
  refine lv_goto (tgt := 1322) hx hb dl_702 (by decide) ?_
  exact law_tail C0 hL hL2 T HI hl hH hS
theorem law_c21 {i : Nat} {hp : q_H} (C0 : lw_At p s m meth cd b L xs) (hL : i + 7 ≤ L) (hL2 : L ≤ 3584) (hEN : q_EN sa s.heap.size s) (T : LT p l e s m below meth cd b D sa (i + 7)) (HI : a_inv hp) (hl : lv_has ls 4 (law_l s b i)) (hH : q_HR D s.heap.size sa s hp H) (hS : va_S (fun q => s.heap.size ≤ q) s.heap H locs) : LW p l e s m below meth cd b H locs 705 ls [] := by
  obtain ⟨hx, hb, hr, hml, hown, hts, hX, hbl, hlocks, hgv⟩ := id C0
  obtain ⟨HO, G, hG, hR⟩ := HI
  have hA := a_S_of HO hG
  refine lv_aload_n hx hb dl_705 rfl (law_at hl 2 rfl) ?_
  refine law_arg (j := 1) C0 hL hL2 hl hS dl_706 dl_707 dl_708 dl_709 dl_710 (by decide) (by decide) ?_
  refine law_arg (j := 2) C0 hL hL2 hl hS dl_711 dl_712 dl_713 dl_714 dl_715 (by decide) (by decide) ?_
  refine law_fun s_U_140 22 [(0, -2147483648, 2147483647), (0, -2147483648, 2147483647)] (As := [.int (xs (i + 1)), .int (xs (i + 2))]) (rest := []) (idx := (618, 101)) (ci := 5) (h := 0) (mt_76 ((xs (i + 1)).toInt) ((xs (i + 2)).toInt) G) hG C0 hEN (by decide) (by decide +kernel) (by decide) (by decide +kernel) (show (2 : Nat) = q_na 76 by decide +kernel) (by decide +kernel) s_in_76 rfl (by decide) rfl rfl rfl rfl rfl (by decide) (⟨Or.inl ⟨rfl, _, rfl⟩, ⟨Or.inl ⟨rfl, _, rfl⟩, trivial⟩⟩) HO hH hS hl.1 (by simp [Value.category]) dl_716 (fun x hp H locs HO ex hG1 hH hS => ?_)
  refine lv_pop hx hb dl_719 rfl ?_
  refine lv_aload_n hx hb dl_720 rfl (law_at hl 1 rfl) ?_
  refine law_arg (j := 1) C0 hL hL2 hl hS dl_721 dl_722 dl_723 dl_724 dl_725 (by decide) (by decide) ?_
  refine law_arg (j := 2) C0 hL hL2 hl hS dl_726 dl_727 dl_728 dl_729 dl_730 (by decide) (by decide) ?_
  refine law_fun s_U_347 35 [(0, -2147483648, 2147483647), (0, -2147483648, 2147483647)] (As := [.int (xs (i + 1)), .int (xs (i + 2))]) (rest := []) (idx := (1081, 104)) (ci := 6) (h := 133) (mt_165 ((xs (i + 1)).toInt) ((xs (i + 2)).toInt) (fn_76 ((xs (i + 1)).toInt) ((xs (i + 2)).toInt) G).2) hG1 C0 hEN (by decide) (by decide +kernel) (by decide) (by decide +kernel) (show (2 : Nat) = q_na 165 by decide +kernel) (by decide +kernel) s_in_165 rfl (by decide) rfl rfl rfl rfl rfl (by decide) (⟨Or.inl ⟨rfl, _, rfl⟩, ⟨Or.inl ⟨rfl, _, rfl⟩, trivial⟩⟩) HO hH hS hl.1 (by simp [Value.category]) dl_731 (fun y hp H locs HO ey hG2 hH hS => ?_)
  have HI : a_inv hp := ⟨HO, _, hG2, rR_room ((xs (i + 1)).toInt) ((xs (i + 2)).toInt) hR hA⟩
  refine lv_pop hx hb dl_734 rfl ?_
  refine lv_goto (tgt := 1322) hx hb dl_735 (by decide) ?_
  exact law_tail C0 hL hL2 T HI hl hH hS
theorem law_c22 {i : Nat} {hp : q_H} (C0 : lw_At p s m meth cd b L xs) (hL : i + 7 ≤ L) (hL2 : L ≤ 3584) (hEN : q_EN sa s.heap.size s) (T : LT p l e s m below meth cd b D sa (i + 7)) (HI : a_inv hp) (hl : lv_has ls 4 (law_l s b i)) (hH : q_HR D s.heap.size sa s hp H) (hS : va_S (fun q => s.heap.size ≤ q) s.heap H locs) : LW p l e s m below meth cd b H locs 738 ls [] := by
  obtain ⟨hx, hb, hr, hml, hown, hts, hX, hbl, hlocks, hgv⟩ := id C0
  obtain ⟨HO, G, hG, hR⟩ := HI
  have hA := a_S_of HO hG
  refine lv_aload_n hx hb dl_738 rfl (law_at hl 2 rfl) ?_
  refine law_arg (j := 1) C0 hL hL2 hl hS dl_739 dl_740 dl_741 dl_742 dl_743 (by decide) (by decide) ?_
  refine law_arg (j := 2) C0 hL hL2 hl hS dl_744 dl_745 dl_746 dl_747 dl_748 (by decide) (by decide) ?_
  refine law_fun s_U_141 22 [(0, -2147483648, 2147483647), (0, -2147483648, 2147483647)] (As := [.int (xs (i + 1)), .int (xs (i + 2))]) (rest := []) (idx := (649, 105)) (ci := 5) (h := 0) (mt_77 ((xs (i + 1)).toInt) ((xs (i + 2)).toInt) G) hG C0 hEN (by decide) (by decide +kernel) (by decide) (by decide +kernel) (show (2 : Nat) = q_na 77 by decide +kernel) (by decide +kernel) s_in_77 rfl (by decide) rfl rfl rfl rfl rfl (by decide) (⟨Or.inl ⟨rfl, _, rfl⟩, ⟨Or.inl ⟨rfl, _, rfl⟩, trivial⟩⟩) HO hH hS hl.1 (by simp [Value.category]) dl_749 (fun x hp H locs HO ex hG1 hH hS => ?_)
  refine lv_pop hx hb dl_752 rfl ?_
  refine lv_aload_n hx hb dl_753 rfl (law_at hl 1 rfl) ?_
  refine law_arg (j := 1) C0 hL hL2 hl hS dl_754 dl_755 dl_756 dl_757 dl_758 (by decide) (by decide) ?_
  refine law_arg (j := 2) C0 hL hL2 hl hS dl_759 dl_760 dl_761 dl_762 dl_763 (by decide) (by decide) ?_
  refine law_fun s_U_348 35 [(0, -2147483648, 2147483647), (0, -2147483648, 2147483647)] (As := [.int (xs (i + 1)), .int (xs (i + 2))]) (rest := []) (idx := (1096, 108)) (ci := 6) (h := 133) (mt_166 ((xs (i + 1)).toInt) ((xs (i + 2)).toInt) (fn_77 ((xs (i + 1)).toInt) ((xs (i + 2)).toInt) G).2) hG1 C0 hEN (by decide) (by decide +kernel) (by decide) (by decide +kernel) (show (2 : Nat) = q_na 166 by decide +kernel) (by decide +kernel) s_in_166 rfl (by decide) rfl rfl rfl rfl rfl (by decide) (⟨Or.inl ⟨rfl, _, rfl⟩, ⟨Or.inl ⟨rfl, _, rfl⟩, trivial⟩⟩) HO hH hS hl.1 (by simp [Value.category]) dl_764 (fun y hp H locs HO ey hG2 hH hS => ?_)
  have HI : a_inv hp := ⟨HO, _, hG2, rR_nearest ((xs (i + 1)).toInt) ((xs (i + 2)).toInt) hR hA⟩
  refine lv_pop hx hb dl_767 rfl ?_
  refine lv_goto (tgt := 1322) hx hb dl_768 (by decide) ?_
  exact law_tail C0 hL hL2 T HI hl hH hS
theorem law_c23 {i : Nat} {hp : q_H} (C0 : lw_At p s m meth cd b L xs) (hL : i + 7 ≤ L) (hL2 : L ≤ 3584) (hEN : q_EN sa s.heap.size s) (T : LT p l e s m below meth cd b D sa (i + 7)) (HI : a_inv hp) (hl : lv_has ls 4 (law_l s b i)) (hH : q_HR D s.heap.size sa s hp H) (hS : va_S (fun q => s.heap.size ≤ q) s.heap H locs) : LW p l e s m below meth cd b H locs 771 ls [] := by
  obtain ⟨hx, hb, hr, hml, hown, hts, hX, hbl, hlocks, hgv⟩ := id C0
  obtain ⟨HO, G, hG, hR⟩ := HI
  have hA := a_S_of HO hG
  refine lv_aload_n hx hb dl_771 rfl (law_at hl 2 rfl) ?_
  refine law_arg (j := 1) C0 hL hL2 hl hS dl_772 dl_773 dl_774 dl_775 dl_776 (by decide) (by decide) ?_
  refine law_fun s_U_142 22 [(0, -2147483648, 2147483647)] (As := [.int (xs (i + 1))]) (rest := []) (idx := (654, 109)) (ci := 5) (h := 0) (mt_78 ((xs (i + 1)).toInt) G) hG C0 hEN (by decide) (by decide +kernel) (by decide) (by decide +kernel) (show (1 : Nat) = q_na 78 by decide +kernel) (by decide +kernel) s_in_78 rfl (by decide) rfl rfl rfl rfl rfl (by decide) (⟨Or.inl ⟨rfl, _, rfl⟩, trivial⟩) HO hH hS hl.1 (by simp [Value.category]) dl_777 (fun x hp H locs HO ex hG1 hH hS => ?_)
  refine lv_pop hx hb dl_780 rfl ?_
  refine lv_aload_n hx hb dl_781 rfl (law_at hl 1 rfl) ?_
  refine law_arg (j := 1) C0 hL hL2 hl hS dl_782 dl_783 dl_784 dl_785 dl_786 (by decide) (by decide) ?_
  refine law_fun s_U_349 35 [(0, -2147483648, 2147483647)] (As := [.int (xs (i + 1))]) (rest := []) (idx := (1100, 112)) (ci := 6) (h := 133) (mt_167 ((xs (i + 1)).toInt) (fn_78 ((xs (i + 1)).toInt) G).2) hG1 C0 hEN (by decide) (by decide +kernel) (by decide) (by decide +kernel) (show (1 : Nat) = q_na 167 by decide +kernel) (by decide +kernel) s_in_167 rfl (by decide) rfl rfl rfl rfl rfl (by decide) (⟨Or.inl ⟨rfl, _, rfl⟩, trivial⟩) HO hH hS hl.1 (by simp [Value.category]) dl_787 (fun y hp H locs HO ey hG2 hH hS => ?_)
  have HI : a_inv hp := ⟨HO, _, hG2, rR_hinge ((xs (i + 1)).toInt) hR hA⟩
  refine lv_pop hx hb dl_790 rfl ?_
  refine lv_goto (tgt := 1322) hx hb dl_791 (by decide) ?_
  exact law_tail C0 hL hL2 T HI hl hH hS
theorem law_c24 {i : Nat} {hp : q_H} (C0 : lw_At p s m meth cd b L xs) (hL : i + 7 ≤ L) (hL2 : L ≤ 3584) (hEN : q_EN sa s.heap.size s) (T : LT p l e s m below meth cd b D sa (i + 7)) (HI : a_inv hp) (hl : lv_has ls 4 (law_l s b i)) (hH : q_HR D s.heap.size sa s hp H) (hS : va_S (fun q => s.heap.size ≤ q) s.heap H locs) : LW p l e s m below meth cd b H locs 794 ls [] := by
  obtain ⟨hx, hb, hr, hml, hown, hts, hX, hbl, hlocks, hgv⟩ := id C0
  obtain ⟨HO, G, hG, hR⟩ := HI
  have hA := a_S_of HO hG
  refine lv_aload_n hx hb dl_794 rfl (law_at hl 2 rfl) ?_
  refine law_arg (j := 1) C0 hL hL2 hl hS dl_795 dl_796 dl_797 dl_798 dl_799 (by decide) (by decide) ?_
  refine law_fun s_U_147 22 [(0, -2147483648, 2147483647)] (As := [.int (xs (i + 1))]) (rest := []) (idx := (658, 113)) (ci := 5) (h := 0) (mt_79 ((xs (i + 1)).toInt) G) hG C0 hEN (by decide) (by decide +kernel) (by decide) (by decide +kernel) (show (1 : Nat) = q_na 79 by decide +kernel) (by decide +kernel) s_in_79 rfl (by decide) rfl rfl rfl rfl rfl (by decide) (⟨Or.inl ⟨rfl, _, rfl⟩, trivial⟩) HO hH hS hl.1 (by simp [Value.category]) dl_800 (fun x hp H locs HO ex hG1 hH hS => ?_)
  refine lv_pop hx hb dl_803 rfl ?_
  refine lv_aload_n hx hb dl_804 rfl (law_at hl 1 rfl) ?_
  refine law_arg (j := 1) C0 hL hL2 hl hS dl_805 dl_806 dl_807 dl_808 dl_809 (by decide) (by decide) ?_
  refine law_fun s_U_351 35 [(0, -2147483648, 2147483647)] (As := [.int (xs (i + 1))]) (rest := []) (idx := (1104, 116)) (ci := 6) (h := 133) (mt_168 ((xs (i + 1)).toInt) (fn_79 ((xs (i + 1)).toInt) G).2) hG1 C0 hEN (by decide) (by decide +kernel) (by decide) (by decide +kernel) (show (1 : Nat) = q_na 168 by decide +kernel) (by decide +kernel) s_in_168 rfl (by decide) rfl rfl rfl rfl rfl (by decide) (⟨Or.inl ⟨rfl, _, rfl⟩, trivial⟩) HO hH hS hl.1 (by simp [Value.category]) dl_810 (fun y hp H locs HO ey hG2 hH hS => ?_)
  have HI : a_inv hp := ⟨HO, _, hG2, rR_duel ((xs (i + 1)).toInt) hR hA⟩
  refine lv_pop hx hb dl_813 rfl ?_
  refine lv_goto (tgt := 1322) hx hb dl_814 (by decide) ?_
  exact law_tail C0 hL hL2 T HI hl hH hS
theorem law_c25 {i : Nat} {hp : q_H} (C0 : lw_At p s m meth cd b L xs) (hL : i + 7 ≤ L) (hL2 : L ≤ 3584) (hEN : q_EN sa s.heap.size s) (T : LT p l e s m below meth cd b D sa (i + 7)) (HI : a_inv hp) (hl : lv_has ls 4 (law_l s b i)) (hH : q_HR D s.heap.size sa s hp H) (hS : va_S (fun q => s.heap.size ≤ q) s.heap H locs) : LW p l e s m below meth cd b H locs 817 ls [] := by
  obtain ⟨hx, hb, hr, hml, hown, hts, hX, hbl, hlocks, hgv⟩ := id C0
  obtain ⟨HO, G, hG, hR⟩ := HI
  have hA := a_S_of HO hG
  refine lv_aload_n hx hb dl_817 rfl (law_at hl 2 rfl) ?_
  refine law_arg (j := 1) C0 hL hL2 hl hS dl_818 dl_819 dl_820 dl_821 dl_822 (by decide) (by decide) ?_
  refine law_arg (j := 2) C0 hL hL2 hl hS dl_823 dl_824 dl_825 dl_826 dl_827 (by decide) (by decide) ?_
  refine law_fun s_U_148 22 [(0, -2147483648, 2147483647), (0, -2147483648, 2147483647)] (As := [.int (xs (i + 1)), .int (xs (i + 2))]) (rest := []) (idx := (673, 117)) (ci := 5) (h := 0) (mt_80 ((xs (i + 1)).toInt) ((xs (i + 2)).toInt) G) hG C0 hEN (by decide) (by decide +kernel) (by decide) (by decide +kernel) (show (2 : Nat) = q_na 80 by decide +kernel) (by decide +kernel) s_in_80 rfl (by decide) rfl rfl rfl rfl rfl (by decide) (⟨Or.inl ⟨rfl, _, rfl⟩, ⟨Or.inl ⟨rfl, _, rfl⟩, trivial⟩⟩) HO hH hS hl.1 (by simp [Value.category]) dl_828 (fun x hp H locs HO ex hG1 hH hS => ?_)
  refine lv_pop hx hb dl_831 rfl ?_
  refine lv_aload_n hx hb dl_832 rfl (law_at hl 1 rfl) ?_
  refine law_arg (j := 1) C0 hL hL2 hl hS dl_833 dl_834 dl_835 dl_836 dl_837 (by decide) (by decide) ?_
  refine law_arg (j := 2) C0 hL hL2 hl hS dl_838 dl_839 dl_840 dl_841 dl_842 (by decide) (by decide) ?_
  refine law_fun s_U_352 35 [(0, -2147483648, 2147483647), (0, -2147483648, 2147483647)] (As := [.int (xs (i + 1)), .int (xs (i + 2))]) (rest := []) (idx := (1109, 120)) (ci := 6) (h := 133) (mt_169 ((xs (i + 1)).toInt) ((xs (i + 2)).toInt) (fn_80 ((xs (i + 1)).toInt) ((xs (i + 2)).toInt) G).2) hG1 C0 hEN (by decide) (by decide +kernel) (by decide) (by decide +kernel) (show (2 : Nat) = q_na 169 by decide +kernel) (by decide +kernel) s_in_169 rfl (by decide) rfl rfl rfl rfl rfl (by decide) (⟨Or.inl ⟨rfl, _, rfl⟩, ⟨Or.inl ⟨rfl, _, rfl⟩, trivial⟩⟩) HO hH hS hl.1 (by simp [Value.category]) dl_843 (fun y hp H locs HO ey hG2 hH hS => ?_)
  have HI : a_inv hp := ⟨HO, _, hG2, rR_stood ((xs (i + 1)).toInt) ((xs (i + 2)).toInt) hR hA⟩
  refine lv_pop hx hb dl_846 rfl ?_
  refine lv_goto (tgt := 1322) hx hb dl_847 (by decide) ?_
  exact law_tail C0 hL hL2 T HI hl hH hS
theorem law_c26 {i : Nat} {hp : q_H} (C0 : lw_At p s m meth cd b L xs) (hL : i + 7 ≤ L) (hL2 : L ≤ 3584) (hEN : q_EN sa s.heap.size s) (T : LT p l e s m below meth cd b D sa (i + 7)) (HI : a_inv hp) (hl : lv_has ls 4 (law_l s b i)) (hH : q_HR D s.heap.size sa s hp H) (hS : va_S (fun q => s.heap.size ≤ q) s.heap H locs) : LW p l e s m below meth cd b H locs 850 ls [] := by
  obtain ⟨hx, hb, hr, hml, hown, hts, hX, hbl, hlocks, hgv⟩ := id C0
  obtain ⟨HO, G, hG, hR⟩ := HI
  have hA := a_S_of HO hG
  refine lv_aload_n hx hb dl_850 rfl (law_at hl 2 rfl) ?_
  refine law_arg (j := 1) C0 hL hL2 hl hS dl_851 dl_852 dl_853 dl_854 dl_855 (by decide) (by decide) ?_
  refine law_arg (j := 2) C0 hL hL2 hl hS dl_856 dl_857 dl_858 dl_859 dl_860 (by decide) (by decide) ?_
  refine law_arg (j := 3) C0 hL hL2 hl hS dl_861 dl_862 dl_863 dl_864 dl_865 (by decide) (by decide) ?_
  refine law_fun s_U_168 22 [(0, -2147483648, 2147483647), (0, -2147483648, 2147483647), (0, -2147483648, 2147483647)] (As := [.int (xs (i + 1)), .int (xs (i + 2)), .int (xs (i + 3))]) (rest := []) (idx := (678, 121)) (ci := 5) (h := 0) (mt_81 ((xs (i + 1)).toInt) ((xs (i + 2)).toInt) ((xs (i + 3)).toInt) G) hG C0 hEN (by decide) (by decide +kernel) (by decide) (by decide +kernel) (show (3 : Nat) = q_na 81 by decide +kernel) (by decide +kernel) s_in_81 rfl (by decide) rfl rfl rfl rfl rfl (by decide) (⟨Or.inl ⟨rfl, _, rfl⟩, ⟨Or.inl ⟨rfl, _, rfl⟩, ⟨Or.inl ⟨rfl, _, rfl⟩, trivial⟩⟩⟩) HO hH hS hl.1 (by simp [Value.category]) dl_866 (fun x hp H locs HO ex hG1 hH hS => ?_)
  refine lv_pop hx hb dl_869 rfl ?_
  refine lv_aload_n hx hb dl_870 rfl (law_at hl 1 rfl) ?_
  refine law_arg (j := 1) C0 hL hL2 hl hS dl_871 dl_872 dl_873 dl_874 dl_875 (by decide) (by decide) ?_
  refine law_arg (j := 2) C0 hL hL2 hl hS dl_876 dl_877 dl_878 dl_879 dl_880 (by decide) (by decide) ?_
  refine law_arg (j := 3) C0 hL hL2 hl hS dl_881 dl_882 dl_883 dl_884 dl_885 (by decide) (by decide) ?_
  refine law_fun s_U_360 35 [(0, -2147483648, 2147483647), (0, -2147483648, 2147483647), (0, -2147483648, 2147483647)] (As := [.int (xs (i + 1)), .int (xs (i + 2)), .int (xs (i + 3))]) (rest := []) (idx := (1113, 124)) (ci := 6) (h := 133) (mt_170 ((xs (i + 1)).toInt) ((xs (i + 2)).toInt) ((xs (i + 3)).toInt) G) hG1 C0 hEN (by decide) (by decide +kernel) (by decide) (by decide +kernel) (show (3 : Nat) = q_na 170 by decide +kernel) (by decide +kernel) s_in_170 rfl (by decide) rfl rfl rfl rfl rfl (by decide) (⟨Or.inl ⟨rfl, _, rfl⟩, ⟨Or.inl ⟨rfl, _, rfl⟩, ⟨Or.inl ⟨rfl, _, rfl⟩, trivial⟩⟩⟩) HO hH hS hl.1 (by simp [Value.category]) dl_886 (fun y hp H locs HO ey hG2 hH hS => ?_)
  have HI : a_inv hp := ⟨HO, _, hG2, rR_field ((xs (i + 1)).toInt) ((xs (i + 2)).toInt) ((xs (i + 3)).toInt) hR hA⟩
  refine lv_pop hx hb dl_889 rfl ?_
  refine lv_goto (tgt := 1322) hx hb dl_890 (by decide) ?_
  exact law_tail C0 hL hL2 T HI hl hH hS
theorem law_c27 {i : Nat} {hp : q_H} (C0 : lw_At p s m meth cd b L xs) (hL : i + 7 ≤ L) (hL2 : L ≤ 3584) (hEN : q_EN sa s.heap.size s) (T : LT p l e s m below meth cd b D sa (i + 7)) (HI : a_inv hp) (hl : lv_has ls 4 (law_l s b i)) (hH : q_HR D s.heap.size sa s hp H) (hS : va_S (fun q => s.heap.size ≤ q) s.heap H locs) : LW p l e s m below meth cd b H locs 893 ls [] := by
  obtain ⟨hx, hb, hr, hml, hown, hts, hX, hbl, hlocks, hgv⟩ := id C0
  obtain ⟨HO, G, hG, hR⟩ := HI
  have hA := a_S_of HO hG
  refine lv_aload_n hx hb dl_893 rfl (law_at hl 2 rfl) ?_
  refine law_arg (j := 1) C0 hL hL2 hl hS dl_894 dl_895 dl_896 dl_897 dl_898 (by decide) (by decide) ?_
  refine law_arg (j := 2) C0 hL hL2 hl hS dl_899 dl_900 dl_901 dl_902 dl_903 (by decide) (by decide) ?_
  refine law_arg (j := 3) C0 hL hL2 hl hS dl_904 dl_905 dl_906 dl_907 dl_908 (by decide) (by decide) ?_
  refine law_arg (j := 4) C0 hL hL2 hl hS dl_909 dl_910 dl_911 dl_912 dl_913 (by decide) (by decide) ?_
  refine law_arg (j := 5) C0 hL hL2 hl hS dl_914 dl_915 dl_916 dl_917 dl_918 (by decide) (by decide) ?_
  refine law_fun s_U_186 22 [(0, -2147483648, 2147483647), (0, -2147483648, 2147483647), (0, -2147483648, 2147483647), (0, -2147483648, 2147483647), (0, -2147483648, 2147483647)] (As := [.int (xs (i + 1)), .int (xs (i + 2)), .int (xs (i + 3)), .int (xs (i + 4)), .int (xs (i + 5))]) (rest := []) (idx := (703, 125)) (ci := 5) (h := 0) (mt_82 ((xs (i + 1)).toInt) ((xs (i + 2)).toInt) ((xs (i + 3)).toInt) ((xs (i + 4)).toInt) ((xs (i + 5)).toInt) G) hG C0 hEN (by decide) (by decide +kernel) (by decide) (by decide +kernel) (show (5 : Nat) = q_na 82 by decide +kernel) (by decide +kernel) s_in_82 rfl (by decide) rfl rfl rfl rfl rfl (by decide) (⟨Or.inl ⟨rfl, _, rfl⟩, ⟨Or.inl ⟨rfl, _, rfl⟩, ⟨Or.inl ⟨rfl, _, rfl⟩, ⟨Or.inl ⟨rfl, _, rfl⟩, ⟨Or.inl ⟨rfl, _, rfl⟩, trivial⟩⟩⟩⟩⟩) HO hH hS hl.1 (by simp [Value.category]) dl_919 (fun x hp H locs HO ex hG1 hH hS => ?_)
  refine lv_aload_n hx hb dl_922 rfl (law_at hl 1 rfl) ?_
  refine law_arg (j := 1) C0 hL hL2 hl hS dl_923 dl_924 dl_925 dl_926 dl_927 (by decide) (by decide) ?_
  refine law_arg (j := 2) C0 hL hL2 hl hS dl_928 dl_929 dl_930 dl_931 dl_932 (by decide) (by decide) ?_
  refine law_arg (j := 3) C0 hL hL2 hl hS dl_933 dl_934 dl_935 dl_936 dl_937 (by decide) (by decide) ?_
  refine law_arg (j := 4) C0 hL hL2 hl hS dl_938 dl_939 dl_940 dl_941 dl_942 (by decide) (by decide) ?_
  refine law_arg (j := 5) C0 hL hL2 hl hS dl_943 dl_944 dl_945 dl_946 dl_947 (by decide) (by decide) ?_
  refine law_fun s_U_365 35 [(0, -2147483648, 2147483647), (0, -2147483648, 2147483647), (0, -2147483648, 2147483647), (0, -2147483648, 2147483647), (0, -2147483648, 2147483647)] (As := [.int (xs (i + 1)), .int (xs (i + 2)), .int (xs (i + 3)), .int (xs (i + 4)), .int (xs (i + 5))]) (rest := [.int x]) (idx := (1117, 129)) (ci := 6) (h := 133) (mt_172 ((xs (i + 1)).toInt) ((xs (i + 2)).toInt) ((xs (i + 3)).toInt) ((xs (i + 4)).toInt) ((xs (i + 5)).toInt) (fn_82 ((xs (i + 1)).toInt) ((xs (i + 2)).toInt) ((xs (i + 3)).toInt) ((xs (i + 4)).toInt) ((xs (i + 5)).toInt) G).2) hG1 C0 hEN (by decide) (by decide +kernel) (by decide) (by decide +kernel) (show (5 : Nat) = q_na 172 by decide +kernel) (by decide +kernel) s_in_172 rfl (by decide) rfl rfl rfl rfl rfl (by decide) (⟨Or.inl ⟨rfl, _, rfl⟩, ⟨Or.inl ⟨rfl, _, rfl⟩, ⟨Or.inl ⟨rfl, _, rfl⟩, ⟨Or.inl ⟨rfl, _, rfl⟩, ⟨Or.inl ⟨rfl, _, rfl⟩, trivial⟩⟩⟩⟩⟩) HO hH hS hl.1 (by simp [Value.category]) dl_948 (fun y hp H locs HO ey hG2 hH hS => ?_)
  have HI : a_inv hp := ⟨HO, _, hG2, rR_dry ((xs (i + 1)).toInt) ((xs (i + 2)).toInt) ((xs (i + 3)).toInt) ((xs (i + 4)).toInt) ((xs (i + 5)).toInt) hR hA⟩
  have exy : x = y := Int32.toInt_inj.mp (ex.trans (Eq.trans (aR_dry ((xs (i + 1)).toInt) ((xs (i + 2)).toInt) ((xs (i + 3)).toInt) ((xs (i + 4)).toInt) ((xs (i + 5)).toInt) hR hA) ey.symm))
  subst exy
  refine lv_icmp_eq (tgt := 1322) hx hb dl_951 (by decide) (fun _ => ?_) (fun h => absurd rfl h)
  exact law_tail C0 hL hL2 T HI hl hH hS
theorem law_c28 {i : Nat} {hp : q_H} (C0 : lw_At p s m meth cd b L xs) (hL : i + 7 ≤ L) (hL2 : L ≤ 3584) (hEN : q_EN sa s.heap.size s) (T : LT p l e s m below meth cd b D sa (i + 7)) (HI : a_inv hp) (hl : lv_has ls 4 (law_l s b i)) (hH : q_HR D s.heap.size sa s hp H) (hS : va_S (fun q => s.heap.size ≤ q) s.heap H locs) : LW p l e s m below meth cd b H locs 956 ls [] := by
  obtain ⟨hx, hb, hr, hml, hown, hts, hX, hbl, hlocks, hgv⟩ := id C0
  obtain ⟨HO, G, hG, hR⟩ := HI
  have hA := a_S_of HO hG
  refine lv_aload_n hx hb dl_956 rfl (law_at hl 2 rfl) ?_
  refine law_fun s_U_190 22 [] (As := []) (rest := []) (idx := (724, 130)) (ci := 5) (h := 0) (mt_83 G) hG C0 hEN (by decide) (by decide +kernel) (by decide) (by decide +kernel) (show (0 : Nat) = q_na 83 by decide +kernel) (by decide +kernel) s_in_83 rfl (by decide) rfl rfl rfl rfl rfl (by decide) (trivial) HO hH hS hl.1 (by simp [Value.category]) dl_957 (fun x hp H locs HO ex hG1 hH hS => ?_)
  refine lv_pop hx hb dl_960 rfl ?_
  refine lv_aload_n hx hb dl_961 rfl (law_at hl 1 rfl) ?_
  refine law_fun s_U_366 35 [] (As := []) (rest := []) (idx := (1127, 133)) (ci := 6) (h := 133) (mt_173 (fn_83 G).2) hG1 C0 hEN (by decide) (by decide +kernel) (by decide) (by decide +kernel) (show (0 : Nat) = q_na 173 by decide +kernel) (by decide +kernel) s_in_173 rfl (by decide) rfl rfl rfl rfl rfl (by decide) (trivial) HO hH hS hl.1 (by simp [Value.category]) dl_962 (fun y hp H locs HO ey hG2 hH hS => ?_)
  have HI : a_inv hp := ⟨HO, _, hG2, rR_image hR hA⟩
  refine lv_pop hx hb dl_965 rfl ?_
  refine lv_goto (tgt := 1322) hx hb dl_966 (by decide) ?_
  exact law_tail C0 hL hL2 T HI hl hH hS
theorem law_c29 {i : Nat} {hp : q_H} (C0 : lw_At p s m meth cd b L xs) (hL : i + 7 ≤ L) (hL2 : L ≤ 3584) (hEN : q_EN sa s.heap.size s) (T : LT p l e s m below meth cd b D sa (i + 7)) (HI : a_inv hp) (hl : lv_has ls 4 (law_l s b i)) (hH : q_HR D s.heap.size sa s hp H) (hS : va_S (fun q => s.heap.size ≤ q) s.heap H locs) : LW p l e s m below meth cd b H locs 969 ls [] := by
  obtain ⟨hx, hb, hr, hml, hown, hts, hX, hbl, hlocks, hgv⟩ := id C0
  obtain ⟨HO, G, hG, hR⟩ := HI
  have hA := a_S_of HO hG
  refine lv_aload_n hx hb dl_969 rfl (law_at hl 2 rfl) ?_
  refine law_fun s_U_194 22 [] (As := []) (rest := []) (idx := (732, 134)) (ci := 5) (h := 0) (mt_84 G) hG C0 hEN (by decide) (by decide +kernel) (by decide) (by decide +kernel) (show (0 : Nat) = q_na 84 by decide +kernel) (by decide +kernel) s_in_84 rfl (by decide) rfl rfl rfl rfl rfl (by decide) (trivial) HO hH hS hl.1 (by simp [Value.category]) dl_970 (fun x hp H locs HO ex hG1 hH hS => ?_)
  refine lv_pop hx hb dl_973 rfl ?_
  refine lv_aload_n hx hb dl_974 rfl (law_at hl 1 rfl) ?_
  refine law_fun s_U_367 35 [] (As := []) (rest := []) (idx := (1131, 137)) (ci := 6) (h := 133) (mt_174 (fn_84 G).2) hG1 C0 hEN (by decide) (by decide +kernel) (by decide) (by decide +kernel) (show (0 : Nat) = q_na 174 by decide +kernel) (by decide +kernel) s_in_174 rfl (by decide) rfl rfl rfl rfl rfl (by decide) (trivial) HO hH hS hl.1 (by simp [Value.category]) dl_975 (fun y hp H locs HO ey hG2 hH hS => ?_)
  have HI : a_inv hp := ⟨HO, _, hG2, rR_restore hR hA⟩
  refine lv_pop hx hb dl_978 rfl ?_
  refine lv_goto (tgt := 1322) hx hb dl_979 (by decide) ?_
  exact law_tail C0 hL hL2 T HI hl hH hS
theorem law_c30 {i : Nat} {hp : q_H} (C0 : lw_At p s m meth cd b L xs) (hL : i + 7 ≤ L) (hL2 : L ≤ 3584) (hEN : q_EN sa s.heap.size s) (T : LT p l e s m below meth cd b D sa (i + 7)) (HI : a_inv hp) (hl : lv_has ls 4 (law_l s b i)) (hH : q_HR D s.heap.size sa s hp H) (hS : va_S (fun q => s.heap.size ≤ q) s.heap H locs) : LW p l e s m below meth cd b H locs 982 ls [] := by
  obtain ⟨hx, hb, hr, hml, hown, hts, hX, hbl, hlocks, hgv⟩ := id C0
  obtain ⟨HO, G, hG, hR⟩ := HI
  have hA := a_S_of HO hG
  refine lv_aload_n hx hb dl_982 rfl (law_at hl 2 rfl) ?_
  refine law_arg (j := 1) C0 hL hL2 hl hS dl_983 dl_984 dl_985 dl_986 dl_987 (by decide) (by decide) ?_
  refine law_arg (j := 2) C0 hL hL2 hl hS dl_988 dl_989 dl_990 dl_991 dl_992 (by decide) (by decide) ?_
  refine law_arg (j := 3) C0 hL hL2 hl hS dl_993 dl_994 dl_995 dl_996 dl_997 (by decide) (by decide) ?_
  refine law_arg (j := 4) C0 hL hL2 hl hS dl_998 dl_999 dl_1000 dl_1001 dl_1002 (by decide) (by decide) ?_
  refine law_arg (j := 5) C0 hL hL2 hl hS dl_1003 dl_1004 dl_1005 dl_1006 dl_1007 (by decide) (by decide) ?_
  refine law_arg6 C0 hL hL2 hl hS dl_1008 dl_1009 dl_1010 dl_1012 dl_1013 ?_
  refine law_fun s_U_205 22 [(0, -2147483648, 2147483647), (0, -2147483648, 2147483647), (0, -2147483648, 2147483647), (0, -2147483648, 2147483647), (0, -2147483648, 2147483647), (0, -2147483648, 2147483647)] (As := [.int (xs (i + 1)), .int (xs (i + 2)), .int (xs (i + 3)), .int (xs (i + 4)), .int (xs (i + 5)), .int (xs (i + 6))]) (rest := []) (idx := (736, 138)) (ci := 5) (h := 0) (mt_85 ((xs (i + 1)).toInt) ((xs (i + 2)).toInt) ((xs (i + 3)).toInt) ((xs (i + 4)).toInt) ((xs (i + 5)).toInt) ((xs (i + 6)).toInt) G) hG C0 hEN (by decide) (by decide +kernel) (by decide) (by decide +kernel) (show (6 : Nat) = q_na 85 by decide +kernel) (by decide +kernel) s_in_85 rfl (by decide) rfl rfl rfl rfl rfl (by decide) (⟨Or.inl ⟨rfl, _, rfl⟩, ⟨Or.inl ⟨rfl, _, rfl⟩, ⟨Or.inl ⟨rfl, _, rfl⟩, ⟨Or.inl ⟨rfl, _, rfl⟩, ⟨Or.inl ⟨rfl, _, rfl⟩, ⟨Or.inl ⟨rfl, _, rfl⟩, trivial⟩⟩⟩⟩⟩⟩) HO hH hS hl.1 (by simp [Value.category]) dl_1014 (fun x hp H locs HO ex hG1 hH hS => ?_)
  refine lv_pop hx hb dl_1017 rfl ?_
  refine lv_aload_n hx hb dl_1018 rfl (law_at hl 1 rfl) ?_
  refine law_arg (j := 1) C0 hL hL2 hl hS dl_1019 dl_1020 dl_1021 dl_1022 dl_1023 (by decide) (by decide) ?_
  refine law_arg (j := 2) C0 hL hL2 hl hS dl_1024 dl_1025 dl_1026 dl_1027 dl_1028 (by decide) (by decide) ?_
  refine law_arg (j := 3) C0 hL hL2 hl hS dl_1029 dl_1030 dl_1031 dl_1032 dl_1033 (by decide) (by decide) ?_
  refine law_arg (j := 4) C0 hL hL2 hl hS dl_1034 dl_1035 dl_1036 dl_1037 dl_1038 (by decide) (by decide) ?_
  refine law_arg (j := 5) C0 hL hL2 hl hS dl_1039 dl_1040 dl_1041 dl_1042 dl_1043 (by decide) (by decide) ?_
  refine law_arg6 C0 hL hL2 hl hS dl_1044 dl_1045 dl_1046 dl_1048 dl_1049 ?_
  refine law_fun s_U_386 35 [(0, -2147483648, 2147483647), (0, -2147483648, 2147483647), (0, -2147483648, 2147483647), (0, -2147483648, 2147483647), (0, -2147483648, 2147483647), (0, -2147483648, 2147483647)] (As := [.int (xs (i + 1)), .int (xs (i + 2)), .int (xs (i + 3)), .int (xs (i + 4)), .int (xs (i + 5)), .int (xs (i + 6))]) (rest := []) (idx := (1161, 142)) (ci := 6) (h := 133) (mt_183 ((xs (i + 1)).toInt) ((xs (i + 2)).toInt) ((xs (i + 3)).toInt) ((xs (i + 4)).toInt) ((xs (i + 5)).toInt) ((xs (i + 6)).toInt) (fn_85 ((xs (i + 1)).toInt) ((xs (i + 2)).toInt) ((xs (i + 3)).toInt) ((xs (i + 4)).toInt) ((xs (i + 5)).toInt) ((xs (i + 6)).toInt) G).2) hG1 C0 hEN (by decide) (by decide +kernel) (by decide) (by decide +kernel) (show (6 : Nat) = q_na 183 by decide +kernel) (by decide +kernel) s_in_183 rfl (by decide) rfl rfl rfl rfl rfl (by decide) (⟨Or.inl ⟨rfl, _, rfl⟩, ⟨Or.inl ⟨rfl, _, rfl⟩, ⟨Or.inl ⟨rfl, _, rfl⟩, ⟨Or.inl ⟨rfl, _, rfl⟩, ⟨Or.inl ⟨rfl, _, rfl⟩, ⟨Or.inl ⟨rfl, _, rfl⟩, trivial⟩⟩⟩⟩⟩⟩) HO hH hS hl.1 (by simp [Value.category]) dl_1050 (fun y hp H locs HO ey hG2 hH hS => ?_)
  have HI : a_inv hp := ⟨HO, _, hG2, rR_seen ((xs (i + 1)).toInt) ((xs (i + 2)).toInt) ((xs (i + 3)).toInt) ((xs (i + 4)).toInt) ((xs (i + 5)).toInt) ((xs (i + 6)).toInt) hR hA⟩
  refine lv_pop hx hb dl_1053 rfl ?_
  refine lv_goto (tgt := 1322) hx hb dl_1054 (by decide) ?_
  exact law_tail C0 hL hL2 T HI hl hH hS
theorem law_c31 {i : Nat} {hp : q_H} (C0 : lw_At p s m meth cd b L xs) (hL : i + 7 ≤ L) (hL2 : L ≤ 3584) (hEN : q_EN sa s.heap.size s) (T : LT p l e s m below meth cd b D sa (i + 7)) (HI : a_inv hp) (hl : lv_has ls 4 (law_l s b i)) (hH : q_HR D s.heap.size sa s hp H) (hS : va_S (fun q => s.heap.size ≤ q) s.heap H locs) : LW p l e s m below meth cd b H locs 1057 ls [] := by
  obtain ⟨hx, hb, hr, hml, hown, hts, hX, hbl, hlocks, hgv⟩ := id C0
  obtain ⟨HO, G, hG, hR⟩ := HI
  have hA := a_S_of HO hG
  refine lv_aload_n hx hb dl_1057 rfl (law_at hl 2 rfl) ?_
  refine law_arg (j := 1) C0 hL hL2 hl hS dl_1058 dl_1059 dl_1060 dl_1061 dl_1062 (by decide) (by decide) ?_
  refine law_arg (j := 2) C0 hL hL2 hl hS dl_1063 dl_1064 dl_1065 dl_1066 dl_1067 (by decide) (by decide) ?_
  refine law_arg (j := 3) C0 hL hL2 hl hS dl_1068 dl_1069 dl_1070 dl_1071 dl_1072 (by decide) (by decide) ?_
  refine law_arg (j := 4) C0 hL hL2 hl hS dl_1073 dl_1074 dl_1075 dl_1076 dl_1077 (by decide) (by decide) ?_
  refine law_fun s_U_208 22 [(0, -2147483648, 2147483647), (0, -2147483648, 2147483647), (0, -2147483648, 2147483647), (0, -2147483648, 2147483647)] (As := [.int (xs (i + 1)), .int (xs (i + 2)), .int (xs (i + 3)), .int (xs (i + 4))]) (rest := []) (idx := (760, 143)) (ci := 5) (h := 0) (mt_86 ((xs (i + 1)).toInt) ((xs (i + 2)).toInt) ((xs (i + 3)).toInt) ((xs (i + 4)).toInt) G) hG C0 hEN (by decide) (by decide +kernel) (by decide) (by decide +kernel) (show (4 : Nat) = q_na 86 by decide +kernel) (by decide +kernel) s_in_86 rfl (by decide) rfl rfl rfl rfl rfl (by decide) (⟨Or.inl ⟨rfl, _, rfl⟩, ⟨Or.inl ⟨rfl, _, rfl⟩, ⟨Or.inl ⟨rfl, _, rfl⟩, ⟨Or.inl ⟨rfl, _, rfl⟩, trivial⟩⟩⟩⟩) HO hH hS hl.1 (by simp [Value.category]) dl_1078 (fun x hp H locs HO ex hG1 hH hS => ?_)
  refine lv_pop hx hb dl_1081 rfl ?_
  refine lv_aload_n hx hb dl_1082 rfl (law_at hl 1 rfl) ?_
  refine law_arg (j := 1) C0 hL hL2 hl hS dl_1083 dl_1084 dl_1085 dl_1086 dl_1087 (by decide) (by decide) ?_
  refine law_arg (j := 2) C0 hL hL2 hl hS dl_1088 dl_1089 dl_1090 dl_1091 dl_1092 (by decide) (by decide) ?_
  refine law_arg (j := 3) C0 hL hL2 hl hS dl_1093 dl_1094 dl_1095 dl_1096 dl_1097 (by decide) (by decide) ?_
  refine law_arg (j := 4) C0 hL hL2 hl hS dl_1098 dl_1099 dl_1100 dl_1101 dl_1102 (by decide) (by decide) ?_
  refine law_fun s_U_405 35 [(0, -2147483648, 2147483647), (0, -2147483648, 2147483647), (0, -2147483648, 2147483647), (0, -2147483648, 2147483647)] (As := [.int (xs (i + 1)), .int (xs (i + 2)), .int (xs (i + 3)), .int (xs (i + 4))]) (rest := []) (idx := (1170, 147)) (ci := 6) (h := 133) (mt_184 ((xs (i + 1)).toInt) ((xs (i + 2)).toInt) ((xs (i + 3)).toInt) ((xs (i + 4)).toInt) (fn_86 ((xs (i + 1)).toInt) ((xs (i + 2)).toInt) ((xs (i + 3)).toInt) ((xs (i + 4)).toInt) G).2) hG1 C0 hEN (by decide) (by decide +kernel) (by decide) (by decide +kernel) (show (4 : Nat) = q_na 184 by decide +kernel) (by decide +kernel) s_in_184 rfl (by decide) rfl rfl rfl rfl rfl (by decide) (⟨Or.inl ⟨rfl, _, rfl⟩, ⟨Or.inl ⟨rfl, _, rfl⟩, ⟨Or.inl ⟨rfl, _, rfl⟩, ⟨Or.inl ⟨rfl, _, rfl⟩, trivial⟩⟩⟩⟩) HO hH hS hl.1 (by simp [Value.category]) dl_1103 (fun y hp H locs HO ey hG2 hH hS => ?_)
  have HI : a_inv hp := ⟨HO, _, hG2, rR_film ((xs (i + 1)).toInt) ((xs (i + 2)).toInt) ((xs (i + 3)).toInt) ((xs (i + 4)).toInt) hR hA⟩
  refine lv_pop hx hb dl_1106 rfl ?_
  refine lv_goto (tgt := 1322) hx hb dl_1107 (by decide) ?_
  exact law_tail C0 hL hL2 T HI hl hH hS
theorem law_c32 {i : Nat} {hp : q_H} (C0 : lw_At p s m meth cd b L xs) (hL : i + 7 ≤ L) (hL2 : L ≤ 3584) (hEN : q_EN sa s.heap.size s) (T : LT p l e s m below meth cd b D sa (i + 7)) (HI : a_inv hp) (hl : lv_has ls 4 (law_l s b i)) (hH : q_HR D s.heap.size sa s hp H) (hS : va_S (fun q => s.heap.size ≤ q) s.heap H locs) : LW p l e s m below meth cd b H locs 1110 ls [] := by
  obtain ⟨hx, hb, hr, hml, hown, hts, hX, hbl, hlocks, hgv⟩ := id C0
  obtain ⟨HO, G, hG, hR⟩ := HI
  have hA := a_S_of HO hG
  refine lv_aload_n hx hb dl_1110 rfl (law_at hl 2 rfl) ?_
  refine law_arg (j := 1) C0 hL hL2 hl hS dl_1111 dl_1112 dl_1113 dl_1114 dl_1115 (by decide) (by decide) ?_
  refine law_arg (j := 2) C0 hL hL2 hl hS dl_1116 dl_1117 dl_1118 dl_1119 dl_1120 (by decide) (by decide) ?_
  refine law_arg (j := 3) C0 hL hL2 hl hS dl_1121 dl_1122 dl_1123 dl_1124 dl_1125 (by decide) (by decide) ?_
  refine law_fun s_U_210 22 [(0, -2147483648, 2147483647), (0, -2147483648, 2147483647), (0, -2147483648, 2147483647)] (As := [.int (xs (i + 1)), .int (xs (i + 2)), .int (xs (i + 3))]) (rest := []) (idx := (768, 148)) (ci := 5) (h := 0) (mt_87 ((xs (i + 1)).toInt) ((xs (i + 2)).toInt) ((xs (i + 3)).toInt) G) hG C0 hEN (by decide) (by decide +kernel) (by decide) (by decide +kernel) (show (3 : Nat) = q_na 87 by decide +kernel) (by decide +kernel) s_in_87 rfl (by decide) rfl rfl rfl rfl rfl (by decide) (⟨Or.inl ⟨rfl, _, rfl⟩, ⟨Or.inl ⟨rfl, _, rfl⟩, ⟨Or.inl ⟨rfl, _, rfl⟩, trivial⟩⟩⟩) HO hH hS hl.1 (by simp [Value.category]) dl_1126 (fun x hp H locs HO ex hG1 hH hS => ?_)
  refine lv_pop hx hb dl_1129 rfl ?_
  refine lv_aload_n hx hb dl_1130 rfl (law_at hl 1 rfl) ?_
  refine law_arg (j := 1) C0 hL hL2 hl hS dl_1131 dl_1132 dl_1133 dl_1134 dl_1135 (by decide) (by decide) ?_
  refine law_arg (j := 2) C0 hL hL2 hl hS dl_1136 dl_1137 dl_1138 dl_1139 dl_1140 (by decide) (by decide) ?_
  refine law_arg (j := 3) C0 hL hL2 hl hS dl_1141 dl_1142 dl_1143 dl_1144 dl_1145 (by decide) (by decide) ?_
  refine law_fun s_U_406 35 [(0, -2147483648, 2147483647), (0, -2147483648, 2147483647), (0, -2147483648, 2147483647)] (As := [.int (xs (i + 1)), .int (xs (i + 2)), .int (xs (i + 3))]) (rest := []) (idx := (1135, 151)) (ci := 6) (h := 133) (mt_177 ((xs (i + 1)).toInt) ((xs (i + 2)).toInt) ((xs (i + 3)).toInt) (fn_87 ((xs (i + 1)).toInt) ((xs (i + 2)).toInt) ((xs (i + 3)).toInt) G).2) hG1 C0 hEN (by decide) (by decide +kernel) (by decide) (by decide +kernel) (show (3 : Nat) = q_na 177 by decide +kernel) (by decide +kernel) s_in_177 rfl (by decide) rfl rfl rfl rfl rfl (by decide) (⟨Or.inl ⟨rfl, _, rfl⟩, ⟨Or.inl ⟨rfl, _, rfl⟩, ⟨Or.inl ⟨rfl, _, rfl⟩, trivial⟩⟩⟩) HO hH hS hl.1 (by simp [Value.category]) dl_1146 (fun y hp H locs HO ey hG2 hH hS => ?_)
  have HI : a_inv hp := ⟨HO, _, hG2, rR_sheet ((xs (i + 1)).toInt) ((xs (i + 2)).toInt) ((xs (i + 3)).toInt) hR hA⟩
  refine lv_pop hx hb dl_1149 rfl ?_
  refine lv_goto (tgt := 1322) hx hb dl_1150 (by decide) ?_
  exact law_tail C0 hL hL2 T HI hl hH hS
theorem law_c33 {i : Nat} {hp : q_H} (C0 : lw_At p s m meth cd b L xs) (hL : i + 7 ≤ L) (hL2 : L ≤ 3584) (hEN : q_EN sa s.heap.size s) (T : LT p l e s m below meth cd b D sa (i + 7)) (HI : a_inv hp) (hl : lv_has ls 4 (law_l s b i)) (hH : q_HR D s.heap.size sa s hp H) (hS : va_S (fun q => s.heap.size ≤ q) s.heap H locs) : LW p l e s m below meth cd b H locs 1153 ls [] := by
  obtain ⟨hx, hb, hr, hml, hown, hts, hX, hbl, hlocks, hgv⟩ := id C0
  obtain ⟨HO, G, hG, hR⟩ := HI
  have hA := a_S_of HO hG
  refine lv_aload_n hx hb dl_1153 rfl (law_at hl 2 rfl) ?_
  refine law_arg (j := 1) C0 hL hL2 hl hS dl_1154 dl_1155 dl_1156 dl_1157 dl_1158 (by decide) (by decide) ?_
  refine law_fun s_U_211 22 [(0, -2147483648, 2147483647)] (As := [.int (xs (i + 1))]) (rest := []) (idx := (776, 152)) (ci := 5) (h := 0) (mt_88 ((xs (i + 1)).toInt) G) hG C0 hEN (by decide) (by decide +kernel) (by decide) (by decide +kernel) (show (1 : Nat) = q_na 88 by decide +kernel) (by decide +kernel) s_in_88 rfl (by decide) rfl rfl rfl rfl rfl (by decide) (⟨Or.inl ⟨rfl, _, rfl⟩, trivial⟩) HO hH hS hl.1 (by simp [Value.category]) dl_1159 (fun x hp H locs HO ex hG1 hH hS => ?_)
  refine lv_pop hx hb dl_1162 rfl ?_
  refine lv_aload_n hx hb dl_1163 rfl (law_at hl 1 rfl) ?_
  refine law_arg (j := 1) C0 hL hL2 hl hS dl_1164 dl_1165 dl_1166 dl_1167 dl_1168 (by decide) (by decide) ?_
  refine law_fun s_U_407 35 [(0, -2147483648, 2147483647)] (As := [.int (xs (i + 1))]) (rest := []) (idx := (1142, 155)) (ci := 6) (h := 133) (mt_178 ((xs (i + 1)).toInt) (fn_88 ((xs (i + 1)).toInt) G).2) hG1 C0 hEN (by decide) (by decide +kernel) (by decide) (by decide +kernel) (show (1 : Nat) = q_na 178 by decide +kernel) (by decide +kernel) s_in_178 rfl (by decide) rfl rfl rfl rfl rfl (by decide) (⟨Or.inl ⟨rfl, _, rfl⟩, trivial⟩) HO hH hS hl.1 (by simp [Value.category]) dl_1169 (fun y hp H locs HO ey hG2 hH hS => ?_)
  have HI : a_inv hp := ⟨HO, _, hG2, rR_drop ((xs (i + 1)).toInt) hR hA⟩
  refine lv_pop hx hb dl_1172 rfl ?_
  refine lv_goto (tgt := 1322) hx hb dl_1173 (by decide) ?_
  exact law_tail C0 hL hL2 T HI hl hH hS
theorem law_c34 {i : Nat} {hp : q_H} (C0 : lw_At p s m meth cd b L xs) (hL : i + 7 ≤ L) (hL2 : L ≤ 3584) (hEN : q_EN sa s.heap.size s) (T : LT p l e s m below meth cd b D sa (i + 7)) (HI : a_inv hp) (hl : lv_has ls 4 (law_l s b i)) (hH : q_HR D s.heap.size sa s hp H) (hS : va_S (fun q => s.heap.size ≤ q) s.heap H locs) : LW p l e s m below meth cd b H locs 1176 ls [] := by
  obtain ⟨hx, hb, hr, hml, hown, hts, hX, hbl, hlocks, hgv⟩ := id C0
  obtain ⟨HO, G, hG, hR⟩ := HI
  have hA := a_S_of HO hG
  refine lv_aload_n hx hb dl_1176 rfl (law_at hl 2 rfl) ?_
  refine law_arg (j := 1) C0 hL hL2 hl hS dl_1177 dl_1178 dl_1179 dl_1180 dl_1181 (by decide) (by decide) ?_
  refine law_arg (j := 2) C0 hL hL2 hl hS dl_1182 dl_1183 dl_1184 dl_1185 dl_1186 (by decide) (by decide) ?_
  refine law_arg (j := 3) C0 hL hL2 hl hS dl_1187 dl_1188 dl_1189 dl_1190 dl_1191 (by decide) (by decide) ?_
  refine law_arg (j := 4) C0 hL hL2 hl hS dl_1192 dl_1193 dl_1194 dl_1195 dl_1196 (by decide) (by decide) ?_
  refine lv_i2l hx hb dl_1197 rfl ?_
  refine lv_bipush (v := 32) hx hb dl_1198 (by decide) ?_
  refine lv_lshl hx hb dl_1200 rfl ?_
  refine law_arg (j := 5) C0 hL hL2 hl hS dl_1201 dl_1202 dl_1203 dl_1204 dl_1205 (by decide) (by decide) ?_
  refine lv_i2l hx hb dl_1206 rfl ?_
  refine lv_ldc2 (v := 4294967295) hx hb hown (hts (.constantLong R_law 156 4294967295) (by decide +kernel)) dl_1207 ?_
  refine lv_land hx hb dl_1210 ?_
  refine lv_lor hx hb dl_1211 ?_
  refine law_fun s_U_216 22 [(0, -2147483648, 2147483647), (0, -2147483648, 2147483647), (0, -2147483648, 2147483647), (1, -9223372036854775808, 9223372036854775807)] (As := [.int (xs (i + 1)), .int (xs (i + 2)), .int (xs (i + 3)), .long ((((xs (i + 4)).toInt64 <<< ((32 : Int32).toInt64 &&& 63)) ||| ((xs (i + 5)).toInt64 &&& 4294967295)))]) (rest := []) (idx := (780, 158)) (ci := 5) (h := 0) (mt_89 ((xs (i + 1)).toInt) ((xs (i + 2)).toInt) ((xs (i + 3)).toInt) (((((xs (i + 4)).toInt64 <<< ((32 : Int32).toInt64 &&& 63)) ||| ((xs (i + 5)).toInt64 &&& 4294967295))).toInt) G) hG C0 hEN (by decide) (by decide +kernel) (by decide) (by decide +kernel) (show (4 : Nat) = q_na 89 by decide +kernel) (by decide +kernel) s_in_89 rfl (by decide) rfl rfl rfl rfl rfl (by decide) (⟨Or.inl ⟨rfl, _, rfl⟩, ⟨Or.inl ⟨rfl, _, rfl⟩, ⟨Or.inl ⟨rfl, _, rfl⟩, ⟨Or.inr ⟨rfl, _, rfl⟩, trivial⟩⟩⟩⟩) HO hH hS hl.1 (by simp [Value.category]) dl_1212 (fun x hp H locs HO ex hG1 hH hS => ?_)
  refine lv_pop hx hb dl_1215 rfl ?_
  refine lv_aload_n hx hb dl_1216 rfl (law_at hl 1 rfl) ?_
  refine law_arg (j := 1) C0 hL hL2 hl hS dl_1217 dl_1218 dl_1219 dl_1220 dl_1221 (by decide) (by decide) ?_
  refine law_arg (j := 2) C0 hL hL2 hl hS dl_1222 dl_1223 dl_1224 dl_1225 dl_1226 (by decide) (by decide) ?_
  refine law_arg (j := 3) C0 hL hL2 hl hS dl_1227 dl_1228 dl_1229 dl_1230 dl_1231 (by decide) (by decide) ?_
  refine law_arg (j := 4) C0 hL hL2 hl hS dl_1232 dl_1233 dl_1234 dl_1235 dl_1236 (by decide) (by decide) ?_
  refine lv_i2l hx hb dl_1237 rfl ?_
  refine lv_bipush (v := 32) hx hb dl_1238 (by decide) ?_
  refine lv_lshl hx hb dl_1240 rfl ?_
  refine law_arg (j := 5) C0 hL hL2 hl hS dl_1241 dl_1242 dl_1243 dl_1244 dl_1245 (by decide) (by decide) ?_
  refine lv_i2l hx hb dl_1246 rfl ?_
  refine lv_ldc2 (v := 4294967295) hx hb hown (hts (.constantLong R_law 156 4294967295) (by decide +kernel)) dl_1247 ?_
  refine lv_land hx hb dl_1250 ?_
  refine lv_lor hx hb dl_1251 ?_
  refine law_fun s_U_409 35 [(0, -2147483648, 2147483647), (0, -2147483648, 2147483647), (0, -2147483648, 2147483647), (1, -9223372036854775808, 9223372036854775807)] (As := [.int (xs (i + 1)), .int (xs (i + 2)), .int (xs (i + 3)), .long ((((xs (i + 4)).toInt64 <<< ((32 : Int32).toInt64 &&& 63)) ||| ((xs (i + 5)).toInt64 &&& 4294967295)))]) (rest := []) (idx := (1146, 162)) (ci := 6) (h := 133) (mt_180 ((xs (i + 1)).toInt) ((xs (i + 2)).toInt) ((xs (i + 3)).toInt) (((((xs (i + 4)).toInt64 <<< ((32 : Int32).toInt64 &&& 63)) ||| ((xs (i + 5)).toInt64 &&& 4294967295))).toInt) (fn_89 ((xs (i + 1)).toInt) ((xs (i + 2)).toInt) ((xs (i + 3)).toInt) (((((xs (i + 4)).toInt64 <<< ((32 : Int32).toInt64 &&& 63)) ||| ((xs (i + 5)).toInt64 &&& 4294967295))).toInt) G).2) hG1 C0 hEN (by decide) (by decide +kernel) (by decide) (by decide +kernel) (show (4 : Nat) = q_na 180 by decide +kernel) (by decide +kernel) s_in_180 rfl (by decide) rfl rfl rfl rfl rfl (by decide) (⟨Or.inl ⟨rfl, _, rfl⟩, ⟨Or.inl ⟨rfl, _, rfl⟩, ⟨Or.inl ⟨rfl, _, rfl⟩, ⟨Or.inr ⟨rfl, _, rfl⟩, trivial⟩⟩⟩⟩) HO hH hS hl.1 (by simp [Value.category]) dl_1252 (fun y hp H locs HO ey hG2 hH hS => ?_)
  have HI : a_inv hp := ⟨HO, _, hG2, rR_item ((xs (i + 1)).toInt) ((xs (i + 2)).toInt) ((xs (i + 3)).toInt) (((((xs (i + 4)).toInt64 <<< ((32 : Int32).toInt64 &&& 63)) ||| ((xs (i + 5)).toInt64 &&& 4294967295))).toInt) hR hA⟩
  refine lv_pop hx hb dl_1255 rfl ?_
  refine lv_goto (tgt := 1322) hx hb dl_1256 (by decide) ?_
  exact law_tail C0 hL hL2 T HI hl hH hS
theorem law_c35 {i : Nat} {hp : q_H} (C0 : lw_At p s m meth cd b L xs) (hL : i + 7 ≤ L) (hL2 : L ≤ 3584) (hEN : q_EN sa s.heap.size s) (T : LT p l e s m below meth cd b D sa (i + 7)) (HI : a_inv hp) (hl : lv_has ls 4 (law_l s b i)) (hH : q_HR D s.heap.size sa s hp H) (hS : va_S (fun q => s.heap.size ≤ q) s.heap H locs) : LW p l e s m below meth cd b H locs 1259 ls [] := by
  obtain ⟨hx, hb, hr, hml, hown, hts, hX, hbl, hlocks, hgv⟩ := id C0
  obtain ⟨HO, G, hG, hR⟩ := HI
  have hA := a_S_of HO hG
  refine lv_aload_n hx hb dl_1259 rfl (law_at hl 2 rfl) ?_
  refine law_arg (j := 1) C0 hL hL2 hl hS dl_1260 dl_1261 dl_1262 dl_1263 dl_1264 (by decide) (by decide) ?_
  refine law_arg (j := 2) C0 hL hL2 hl hS dl_1265 dl_1266 dl_1267 dl_1268 dl_1269 (by decide) (by decide) ?_
  refine law_arg (j := 3) C0 hL hL2 hl hS dl_1270 dl_1271 dl_1272 dl_1273 dl_1274 (by decide) (by decide) ?_
  refine law_arg (j := 4) C0 hL hL2 hl hS dl_1275 dl_1276 dl_1277 dl_1278 dl_1279 (by decide) (by decide) ?_
  refine law_arg (j := 5) C0 hL hL2 hl hS dl_1280 dl_1281 dl_1282 dl_1283 dl_1284 (by decide) (by decide) ?_
  refine law_fun s_U_243 22 [(0, -2147483648, 2147483647), (0, -2147483648, 2147483647), (0, -2147483648, 2147483647), (0, -2147483648, 2147483647), (0, -2147483648, 2147483647)] (As := [.int (xs (i + 1)), .int (xs (i + 2)), .int (xs (i + 3)), .int (xs (i + 4)), .int (xs (i + 5))]) (rest := []) (idx := (784, 163)) (ci := 5) (h := 0) (mt_90 ((xs (i + 1)).toInt) ((xs (i + 2)).toInt) ((xs (i + 3)).toInt) ((xs (i + 4)).toInt) ((xs (i + 5)).toInt) G) hG C0 hEN (by decide) (by decide +kernel) (by decide) (by decide +kernel) (show (5 : Nat) = q_na 90 by decide +kernel) (by decide +kernel) s_in_90 rfl (by decide) rfl rfl rfl rfl rfl (by decide) (⟨Or.inl ⟨rfl, _, rfl⟩, ⟨Or.inl ⟨rfl, _, rfl⟩, ⟨Or.inl ⟨rfl, _, rfl⟩, ⟨Or.inl ⟨rfl, _, rfl⟩, ⟨Or.inl ⟨rfl, _, rfl⟩, trivial⟩⟩⟩⟩⟩) HO hH hS hl.1 (by simp [Value.category]) dl_1285 (fun x hp H locs HO ex hG1 hH hS => ?_)
  refine lv_pop hx hb dl_1288 rfl ?_
  refine lv_aload_n hx hb dl_1289 rfl (law_at hl 1 rfl) ?_
  refine law_arg (j := 1) C0 hL hL2 hl hS dl_1290 dl_1291 dl_1292 dl_1293 dl_1294 (by decide) (by decide) ?_
  refine law_arg (j := 2) C0 hL hL2 hl hS dl_1295 dl_1296 dl_1297 dl_1298 dl_1299 (by decide) (by decide) ?_
  refine law_arg (j := 3) C0 hL hL2 hl hS dl_1300 dl_1301 dl_1302 dl_1303 dl_1304 (by decide) (by decide) ?_
  refine law_arg (j := 4) C0 hL hL2 hl hS dl_1305 dl_1306 dl_1307 dl_1308 dl_1309 (by decide) (by decide) ?_
  refine law_arg (j := 5) C0 hL hL2 hl hS dl_1310 dl_1311 dl_1312 dl_1313 dl_1314 (by decide) (by decide) ?_
  refine law_fun s_U_410 35 [(0, -2147483648, 2147483647), (0, -2147483648, 2147483647), (0, -2147483648, 2147483647), (0, -2147483648, 2147483647), (0, -2147483648, 2147483647)] (As := [.int (xs (i + 1)), .int (xs (i + 2)), .int (xs (i + 3)), .int (xs (i + 4)), .int (xs (i + 5))]) (rest := []) (idx := (1157, 166)) (ci := 6) (h := 133) (mt_181 ((xs (i + 1)).toInt) ((xs (i + 2)).toInt) ((xs (i + 3)).toInt) ((xs (i + 4)).toInt) ((xs (i + 5)).toInt) (fn_90 ((xs (i + 1)).toInt) ((xs (i + 2)).toInt) ((xs (i + 3)).toInt) ((xs (i + 4)).toInt) ((xs (i + 5)).toInt) G).2) hG1 C0 hEN (by decide) (by decide +kernel) (by decide) (by decide +kernel) (show (5 : Nat) = q_na 181 by decide +kernel) (by decide +kernel) s_in_181 rfl (by decide) rfl rfl rfl rfl rfl (by decide) (⟨Or.inl ⟨rfl, _, rfl⟩, ⟨Or.inl ⟨rfl, _, rfl⟩, ⟨Or.inl ⟨rfl, _, rfl⟩, ⟨Or.inl ⟨rfl, _, rfl⟩, ⟨Or.inl ⟨rfl, _, rfl⟩, trivial⟩⟩⟩⟩⟩) HO hH hS hl.1 (by simp [Value.category]) dl_1315 (fun y hp H locs HO ey hG2 hH hS => ?_)
  have HI : a_inv hp := ⟨HO, _, hG2, rR_copy ((xs (i + 1)).toInt) ((xs (i + 2)).toInt) ((xs (i + 3)).toInt) ((xs (i + 4)).toInt) ((xs (i + 5)).toInt) hR hA⟩
  refine lv_pop hx hb dl_1318 rfl ?_
  refine lv_goto (tgt := 1322) hx hb dl_1319 (by decide) ?_
  exact law_tail C0 hL hL2 T HI hl hH hS
theorem law_turn {i : Nat} {hp : q_H} (C0 : lw_At p s m meth cd b L xs) (hL : i + 7 ≤ L) (hL2 : L ≤ 3584) (hEN : q_EN sa s.heap.size s) (T : LT p l e s m below meth cd b D sa (i + 7)) (HI : a_inv hp) (hl : lv_has ls 4 (law_l s b i)) (hH : q_HR D s.heap.size sa s hp H) (hS : va_S (fun q => s.heap.size ≤ q) s.heap H locs) : LW p l e s m below meth cd b H locs 27 ls [] := by
  obtain ⟨hx, hb, hr, hml, hown, hts, hX, hbl, hlocks, hgv⟩ := id C0
  have hbA : ¬ (fun q : Nat => s.heap.size ≤ q) b := Nat.not_le.mpr hbl
  refine lv_aload_n hx hb dl_27 rfl (law_at hl 3 rfl) ?_
  refine lv_iload_n hx hb dl_28 rfl (law_at hl 0 rfl) ?_
  refine va_sld (i := nI i) hx hb hX hbl hbA hS (vp_in_nI (by omega) (by omega)) dl_29 ?_
  refine lv_bipush (v := 63) hx hb dl_30 (by decide) ?_
  refine lv_iand hx hb dl_32 ?_
  obtain ⟨j, hj, ej⟩ := pk_andE (xs (nI i).toNatClampNeg) (m := 63) 6 (by decide)
  rw [ej]
  have e9 : (nI j).toInt = (j : Int) := nI_toInt (by omega)
  by_cases c : 35 < j
  · exact lv_tableOut (tgt := 1322) hx hb dl_33 (Or.inr (by rw [e9]; omega)) (by decide) (law_tail C0 hL hL2 T HI hl hH hS)
  · have hv : j = 0 ∨ j = 1 ∨ j = 2 ∨ j = 3 ∨ j = 4 ∨ j = 5 ∨ j = 6 ∨ j = 7 ∨ j = 8 ∨ j = 9 ∨ j = 10 ∨ j = 11 ∨ j = 12 ∨ j = 13 ∨ j = 14 ∨ j = 15 ∨ j = 16 ∨ j = 17 ∨ j = 18 ∨ j = 19 ∨ j = 20 ∨ j = 21 ∨ j = 22 ∨ j = 23 ∨ j = 24 ∨ j = 25 ∨ j = 26 ∨ j = 27 ∨ j = 28 ∨ j = 29 ∨ j = 30 ∨ j = 31 ∨ j = 32 ∨ j = 33 ∨ j = 34 ∨ j = 35 := by omega
    rcases hv with rfl | rfl | rfl | rfl | rfl | rfl | rfl | rfl | rfl | rfl | rfl | rfl | rfl | rfl | rfl | rfl | rfl | rfl | rfl | rfl | rfl | rfl | rfl | rfl | rfl | rfl | rfl | rfl | rfl | rfl | rfl | rfl | rfl | rfl | rfl | rfl
    · exact lv_tableIn (off := 159) (tgt := 192) hx hb dl_33 (by decide) (by decide) (by decide) (by decide) (law_c0 C0 hL hL2 hEN T HI hl hH hS)
    · exact lv_tableIn (off := 202) (tgt := 235) hx hb dl_33 (by decide) (by decide) (by decide) (by decide) (law_c1 C0 hL hL2 hEN T HI hl hH hS)
    · exact lv_tableIn (off := 235) (tgt := 268) hx hb dl_33 (by decide) (by decide) (by decide) (by decide) (law_c2 C0 hL hL2 hEN T HI hl hH hS)
    · exact lv_tableIn (off := 258) (tgt := 291) hx hb dl_33 (by decide) (by decide) (by decide) (by decide) (law_c3 C0 hL hL2 hEN T HI hl hH hS)
    · exact lv_tableIn (off := 281) (tgt := 314) hx hb dl_33 (by decide) (by decide) (by decide) (by decide) (law_c4 C0 hL hL2 hEN T HI hl hH hS)
    · exact lv_tableIn (off := 294) (tgt := 327) hx hb dl_33 (by decide) (by decide) (by decide) (by decide) (law_c5 C0 hL hL2 hEN T HI hl hH hS)
    · exact lv_tableIn (off := 317) (tgt := 350) hx hb dl_33 (by decide) (by decide) (by decide) (by decide) (law_c6 C0 hL hL2 hEN T HI hl hH hS)
    · exact lv_tableIn (off := 340) (tgt := 373) hx hb dl_33 (by decide) (by decide) (by decide) (by decide) (law_c7 C0 hL hL2 hEN T HI hl hH hS)
    · exact lv_tableIn (off := 363) (tgt := 396) hx hb dl_33 (by decide) (by decide) (by decide) (by decide) (law_c8 C0 hL hL2 hEN T HI hl hH hS)
    · exact lv_tableIn (off := 386) (tgt := 419) hx hb dl_33 (by decide) (by decide) (by decide) (by decide) (law_c9 C0 hL hL2 hEN T HI hl hH hS)
    · exact lv_tableIn (off := 409) (tgt := 442) hx hb dl_33 (by decide) (by decide) (by decide) (by decide) (law_c10 C0 hL hL2 hEN T HI hl hH hS)
    · exact lv_tableIn (off := 422) (tgt := 455) hx hb dl_33 (by decide) (by decide) (by decide) (by decide) (law_c11 C0 hL hL2 hEN T HI hl hH hS)
    · exact lv_tableIn (off := 455) (tgt := 488) hx hb dl_33 (by decide) (by decide) (by decide) (by decide) (law_c12 C0 hL hL2 hEN T HI hl hH hS)
    · exact lv_tableIn (off := 478) (tgt := 511) hx hb dl_33 (by decide) (by decide) (by decide) (by decide) (law_c13 C0 hL hL2 hEN T HI hl hH hS)
    · exact lv_tableIn (off := 501) (tgt := 534) hx hb dl_33 (by decide) (by decide) (by decide) (by decide) (law_c14 C0 hL hL2 hEN T HI hl hH hS)
    · exact lv_tableIn (off := 514) (tgt := 547) hx hb dl_33 (by decide) (by decide) (by decide) (by decide) (law_c15 C0 hL hL2 hEN T HI hl hH hS)
    · exact lv_tableIn (off := 537) (tgt := 570) hx hb dl_33 (by decide) (by decide) (by decide) (by decide) (law_c16 C0 hL hL2 hEN T HI hl hH hS)
    · exact lv_tableIn (off := 560) (tgt := 593) hx hb dl_33 (by decide) (by decide) (by decide) (by decide) (law_c17 C0 hL hL2 hEN T HI hl hH hS)
    · exact lv_tableIn (off := 603) (tgt := 636) hx hb dl_33 (by decide) (by decide) (by decide) (by decide) (law_c18 C0 hL hL2 hEN T HI hl hH hS)
    · exact lv_tableIn (off := 616) (tgt := 649) hx hb dl_33 (by decide) (by decide) (by decide) (by decide) (law_c19 C0 hL hL2 hEN T HI hl hH hS)
    · exact lv_tableIn (off := 639) (tgt := 672) hx hb dl_33 (by decide) (by decide) (by decide) (by decide) (law_c20 C0 hL hL2 hEN T HI hl hH hS)
    · exact lv_tableIn (off := 672) (tgt := 705) hx hb dl_33 (by decide) (by decide) (by decide) (by decide) (law_c21 C0 hL hL2 hEN T HI hl hH hS)
    · exact lv_tableIn (off := 705) (tgt := 738) hx hb dl_33 (by decide) (by decide) (by decide) (by decide) (law_c22 C0 hL hL2 hEN T HI hl hH hS)
    · exact lv_tableIn (off := 738) (tgt := 771) hx hb dl_33 (by decide) (by decide) (by decide) (by decide) (law_c23 C0 hL hL2 hEN T HI hl hH hS)
    · exact lv_tableIn (off := 761) (tgt := 794) hx hb dl_33 (by decide) (by decide) (by decide) (by decide) (law_c24 C0 hL hL2 hEN T HI hl hH hS)
    · exact lv_tableIn (off := 784) (tgt := 817) hx hb dl_33 (by decide) (by decide) (by decide) (by decide) (law_c25 C0 hL hL2 hEN T HI hl hH hS)
    · exact lv_tableIn (off := 817) (tgt := 850) hx hb dl_33 (by decide) (by decide) (by decide) (by decide) (law_c26 C0 hL hL2 hEN T HI hl hH hS)
    · exact lv_tableIn (off := 860) (tgt := 893) hx hb dl_33 (by decide) (by decide) (by decide) (by decide) (law_c27 C0 hL hL2 hEN T HI hl hH hS)
    · exact lv_tableIn (off := 923) (tgt := 956) hx hb dl_33 (by decide) (by decide) (by decide) (by decide) (law_c28 C0 hL hL2 hEN T HI hl hH hS)
    · exact lv_tableIn (off := 936) (tgt := 969) hx hb dl_33 (by decide) (by decide) (by decide) (by decide) (law_c29 C0 hL hL2 hEN T HI hl hH hS)
    · exact lv_tableIn (off := 949) (tgt := 982) hx hb dl_33 (by decide) (by decide) (by decide) (by decide) (law_c30 C0 hL hL2 hEN T HI hl hH hS)
    · exact lv_tableIn (off := 1024) (tgt := 1057) hx hb dl_33 (by decide) (by decide) (by decide) (by decide) (law_c31 C0 hL hL2 hEN T HI hl hH hS)
    · exact lv_tableIn (off := 1077) (tgt := 1110) hx hb dl_33 (by decide) (by decide) (by decide) (by decide) (law_c32 C0 hL hL2 hEN T HI hl hH hS)
    · exact lv_tableIn (off := 1120) (tgt := 1153) hx hb dl_33 (by decide) (by decide) (by decide) (by decide) (law_c33 C0 hL hL2 hEN T HI hl hH hS)
    · exact lv_tableIn (off := 1143) (tgt := 1176) hx hb dl_33 (by decide) (by decide) (by decide) (by decide) (law_c34 C0 hL hL2 hEN T HI hl hH hS)
    · exact lv_tableIn (off := 1226) (tgt := 1259) hx hb dl_33 (by decide) (by decide) (by decide) (by decide) (law_c35 C0 hL hL2 hEN T HI hl hH hS)
theorem law_out {i : Nat} (C0 : lw_At p s m meth cd b L xs) (hL : L ≤ 3584) (hi : i ≤ 4000) (h7 : ¬ i + 7 ≤ L) (hl : lv_has ls 4 (law_l s b i)) (hS : va_S (fun q => s.heap.size ≤ q) s.heap H locs) : LW p l e s m below meth cd b H locs 18 ls [] := by
  obtain ⟨hx, hb, hr, hml, hown, hts, hX, hbl, hlocks, hgv⟩ := C0
  have hbA : ¬ (fun q : Nat => s.heap.size ≤ q) b := Nat.not_le.mpr hbl
  refine lv_iload_n hx hb dl_18 rfl (law_at hl 0 rfl) ?_
  refine lv_aload_n hx hb dl_19 rfl (law_at hl 3 rfl) ?_
  refine va_slen hx hb hX hbl hbA hS dl_20 ?_
  refine lv_bipush (v := 7) hx hb dl_21 (by decide) ?_
  refine lv_isub hx hb dl_23 ?_
  refine lv_icmp_gt (tgt := 1328) hx hb dl_24 (by decide) (fun _ => ?_) (fun h => absurd ((law_cmp hL hi).mpr h7) h)
  refine lv_iconst (v := 1) hx hb dl_1328 (by decide) ?_
  refine va_forget (fun q hq => hS.2.2 q hq) ?_
  refine W.widen (k := 600000) (n := 7302250) (by decide) (by decide) ?_
  exact lw_ret hx hb hr hlocks dl_1329
theorem law_loop (C0 : lw_At p s m meth cd b L xs) (hL : L ≤ 3584) (hEN : q_EN sa s.heap.size s) : ∀ (n i : Nat), L < i + 7 * n + 7 → i ≤ 3600 → LT p l e s m below meth cd b D sa i
  | 0, i, h1, h2 => fun hp H locs ls HI hl hH hS => law_out C0 hL (by omega) (by omega) hl hS
  | n + 1, i, h1, h2 => fun hp H locs ls HI hl hH hS => by
    by_cases h7 : i + 7 ≤ L
    · have T : LT p l e s m below meth cd b D sa (i + 7) := law_loop C0 hL hEN n (i + 7) (by omega) (by omega)
      obtain ⟨hx, hb, hr, hml, hown, hts, hX, hbl, hlocks, hgv⟩ := id C0
      have hbA : ¬ (fun q : Nat => s.heap.size ≤ q) b := Nat.not_le.mpr hbl
      refine lv_iload_n hx hb dl_18 rfl (law_at hl 0 rfl) ?_
      refine lv_aload_n hx hb dl_19 rfl (law_at hl 3 rfl) ?_
      refine va_slen hx hb hX hbl hbA hS dl_20 ?_
      refine lv_bipush (v := 7) hx hb dl_21 (by decide) ?_
      refine lv_isub hx hb dl_23 ?_
      refine lv_icmp_gt (tgt := 1328) hx hb dl_24 (by decide) (fun h => absurd h7 ((law_cmp hL (by omega)).mp h)) (fun _ => ?_)
      exact law_turn C0 h7 hL hEN T HI hl hH hS
    · exact law_out C0 hL (by omega) h7 hl hS
theorem law_rm {x : Nat} (h : x ≤ 15) : 8 + (x + 11) + 40 * 7 ≤ 546 := by omega
def law_tm (i : Nat) : Term := match i with
  | 0 => .string "CarriedGate$Tape" 43
  | 1 => .string "CarriedGate$Tape" 74
  | _ => .string "CarriedGate$Tape" 76
theorem law_env (C0 : lw_At p s m meth cd b L xs) : ∃ sa, q_EN sa s.heap.size s := by
  obtain ⟨hx, hb, hr, hml, hown, hts, hX, hbl, hlocks, hgv⟩ := C0
  have hs := flat_of_before _ hgv
  have hA : ∀ a : Nat, a < s.heap.size → ¬ (fun q : Nat => s.heap.size ≤ q) a := fun a h => Nat.not_le.mpr h
  have c3 : ∀ i : Nat, i < 3 → i = 0 ∨ i = 1 ∨ i = 2 := fun i h => by omega
  obtain ⟨adK, adV, hV, hT⟩ := vk_Sof (args := #[Value.ref b]) (s := s) (N := 3) (tm := law_tm) (len := [4, 5, 5]) (byt := [[110, 101, 115, 119], [103, 115, 116, 104, 112], [110, 101, 115, 119, 46]]) (A := fun q : Nat => s.heap.size ≤ q)
    (fun i h => by rcases c3 i h with rfl | rfl | rfl <;> decide)
    (fun i h => by rcases c3 i h with rfl | rfl | rfl <;> exact hs _ (by decide +kernel))
    (fun i h => by rcases c3 i h with rfl | rfl | rfl <;> exact hs _ (by decide +kernel))
    (fun i h => by rcases c3 i h with rfl | rfl | rfl <;> exact hs _ (by decide +kernel))
    (fun i h => by rcases c3 i h with rfl | rfl | rfl <;> exact hs _ (by decide +kernel))
    (fun i h j hj => by
      have hj5 : j = 0 ∨ j = 1 ∨ j = 2 ∨ j = 3 ∨ j = 4 := by
        rcases c3 i h with rfl | rfl | rfl
        · have : j < 4 := hj
          omega
        · have : j < 5 := hj
          omega
        · have : j < 5 := hj
          omega
      rcases c3 i h with rfl | rfl | rfl <;> rcases hj5 with rfl | rfl | rfl | rfl | rfl <;> first | exact hs _ (by decide +kernel) | exact absurd hj (by decide))
    (fun i j h1 h2 hij => by rcases c3 i h1 with rfl | rfl | rfl <;> rcases c3 j h2 with rfl | rfl | rfl <;> first | exact absurd rfl hij | exact Or.inl (hs _ (by decide +kernel)) | exact Or.inr (hs _ (by decide +kernel)))
    hA
  have hN : ∀ n ∈ q_nest, (Cond.methodLinkNest n.1 n.2.1 n.2.2.1 n.2.2.2) ∈ lw_tbl := by decide +kernel
  refine ⟨fun i => if i = 43 then adK 0 else if i = 74 then adK 1 else if i = 76 then adK 2 else if i = 1043 then adV 0 else if i = 1074 then adV 1 else adV 2, fun n hn => va_tabs rfl rfl (hts _ (hN n hn)), va_AO.of (hts (.arrayOver (.object RX2)) (by decide +kernel)), va_AO.of (hts (.arrayOver (.object RX3)) (by decide +kernel)), fun n hn => ?_, va_Zof (hts _ (by decide +kernel)) (hts _ (by decide +kernel)) (va_eqt (hs (.eq (.static "java/lang/String" "COMPACT_STRINGS" "Z") (.int 1)) (by decide +kernel))) hA, fun n ll hn => ?_⟩
  · have hn : n = ("CarriedGate$Tape", 43, "nesw") ∨ n = ("CarriedGate$Tape", 74, "gsthp") ∨ n = ("CarriedGate$Tape", 76, "nesw.") := by simpa [q_strs] using hn
    rcases hn with rfl | rfl | rfl
    · exact vk_R.of (hts (.stringRef "CarriedGate$Tape" 43 "nesw") (by decide +kernel)) (hT 0 (by decide))
    · exact vk_R.of (hts (.stringRef "CarriedGate$Tape" 74 "gsthp") (by decide +kernel)) (hT 1 (by decide))
    · exact vk_R.of (hts (.stringRef "CarriedGate$Tape" 76 "nesw.") (by decide +kernel)) (hT 2 (by decide))
  · unfold q_txs at hn
    split at hn
    · cases hn
      have h0 := hV.1 0 (by decide)
      refine ⟨h0.1, h0.2.1, h0.2.2.1, ?_⟩
      have e : (fun j : Nat => Value.int (Int32.ofInt (([110, 101, 115, 119] : List Int).getD j 0))) = (fun j : Nat => Value.int ((([[110, 101, 115, 119], [103, 115, 116, 104, 112], [110, 101, 115, 119, 46]] : List (List Int32)).getD 0 []).getD j 0)) := by
        funext j
        match j with
        | 0 => rfl
        | 1 => rfl
        | 2 => rfl
        | 3 => rfl
        | j + 4 => rfl
      rw [e]
      exact h0.2.2.2
    · cases hn
      have h0 := hV.1 1 (by decide)
      refine ⟨h0.1, h0.2.1, h0.2.2.1, ?_⟩
      have e : (fun j : Nat => Value.int (Int32.ofInt (([103, 115, 116, 104, 112] : List Int).getD j 0))) = (fun j : Nat => Value.int ((([[110, 101, 115, 119], [103, 115, 116, 104, 112], [110, 101, 115, 119, 46]] : List (List Int32)).getD 1 []).getD j 0)) := by
        funext j
        match j with
        | 0 => rfl
        | 1 => rfl
        | 2 => rfl
        | 3 => rfl
        | 4 => rfl
        | j + 5 => rfl
      rw [e]
      exact h0.2.2.2
    · cases hn
      have h0 := hV.1 2 (by decide)
      refine ⟨h0.1, h0.2.1, h0.2.2.1, ?_⟩
      have e : (fun j : Nat => Value.int (Int32.ofInt (([110, 101, 115, 119, 46] : List Int).getD j 0))) = (fun j : Nat => Value.int ((([[110, 101, 115, 119], [103, 115, 116, 104, 112], [110, 101, 115, 119, 46]] : List (List Int32)).getD 2 []).getD j 0)) := by
        funext j
        match j with
        | 0 => rfl
        | 1 => rfl
        | 2 => rfl
        | 3 => rfl
        | 4 => rfl
        | j + 5 => rfl
      rw [e]
      exact h0.2.2.2
    · cases hn
end q_law
theorem law_go {A B : q_H} (made1 : q_run q_CO q_I 1000000 8 54 [.ref 0] [(5, c_dfl 5 0)] = some (none, A)) (made2 : q_run q_CO q_I 1000000 8 109 [.ref 133] (A ++ [(6, c_dfl 6 0)]) = some (none, B)) (lA : A.length = 133 ∧ q_sl A = 1244) (lB : B.length = 146 ∧ q_sl B = 2652) {p : Program} {e : Env} {s : State} {m : MethodId} {below : List Frame} {meth : Method} {c : Code} (l : Launch) {b L : Nat} {xs : Nat → Int32} (C0 : lw_At p s m meth c b L xs) (hturn : ∀ (D : va_G) (sa : Nat → Nat) (ls : Array Slot) (H : Heap) (locs : List Loc), q_EN sa s.heap.size s → lv_has ls 4 (law_l s b 0) → q_HR D s.heap.size sa s B H → va_S (fun q => s.heap.size ≤ q) s.heap H locs → LW p l e s m below meth c b H locs 18 ls []) : W p l e room_1 s m #[Value.ref b] below meth c s.heap [] 0 0 (lw_Z below #[Value.ref b] s) (entryFrame m ([Value.ref b] : List Value).toArray 4) := by
  obtain ⟨hx, hb, hr, hml, hown, hts, hX, hbl, hlocks, hgv⟩ := id C0
  have hw : ∀ w ∈ q_good, w.before #[Value.ref b] s = true := fun w h => hts w (List.mem_filter.mp h).1
  have hA : ∀ q : Nat, s.heap.size ≤ q → (fun q : Nat => s.heap.size ≤ q) q := fun _ h => h
  obtain ⟨c0, iS0, hKn0⟩ := u_known (C := RX0) (T := TX0) (N := 3) (n := 3) hts qin_0 (hts (.instantiable RX0 3) (by decide +kernel))
  obtain ⟨c1, iS1, hKn1⟩ := u_known (C := RX1) (T := TX1) (N := 5) (n := 5) hts qin_1 (hts (.instantiable RX1 5) (by decide +kernel))
  obtain ⟨c2, iS2, hKn2⟩ := u_known (C := RX2) (T := TX2) (N := 12) (n := 12) hts qin_2 (hts (.instantiable RX2 12) (by decide +kernel))
  obtain ⟨c3, iS3, hKn3⟩ := u_known (C := RX3) (T := TX3) (N := 4) (n := 4) hts qin_3 (hts (.instantiable RX3 4) (by decide +kernel))
  obtain ⟨c4, iS4, hKn4⟩ := u_known (C := RX4) (T := TX4) (N := 4) (n := 4) hts qin_4 (hts (.instantiable RX4 4) (by decide +kernel))
  obtain ⟨c5, iS5, hKn5⟩ := u_known (C := RX5) (T := TX5) (N := 11) (n := 11) hts qin_5 (hts (.instantiable RX5 11) (by decide +kernel))
  obtain ⟨c6, iS6, hKn6⟩ := u_known (C := RX6) (T := TX6) (N := 22) (n := 22) hts qin_6 (hts (.instantiable RX6 22) (by decide +kernel))
  obtain ⟨D, hKc⟩ : ∃ D : va_G, ∀ (k : Nat) (q : vw_C), q_cl[k]? = some q → u_Kn s q.1 q.2.1 q.2.2 (D.1 k) (D.2 k) := by
    refine ⟨(fun k => match k with | 0 => c0 | 1 => c1 | 2 => c2 | 3 => c3 | 4 => c4 | 5 => c5 | _ => c6, fun k => match k with | 0 => iS0 | 1 => iS1 | 2 => iS2 | 3 => iS3 | 4 => iS4 | 5 => iS5 | _ => iS6), ?_⟩
    intro k q hq
    match k, hq with
    | 0, hq => cases hq; exact hKn0
    | 1, hq => cases hq; exact hKn1
    | 2, hq => cases hq; exact hKn2
    | 3, hq => cases hq; exact hKn3
    | 4, hq => cases hq; exact hKn4
    | 5, hq => cases hq; exact hKn5
    | 6, hq => cases hq; exact hKn6
    | k + 7, hq => simp [q_cl] at hq
  obtain ⟨sa, hEN⟩ : ∃ sa, q_EN sa s.heap.size s := law_env C0
  have hK : va_K D q_cl [] s := ⟨hKc, fun k q h => by simp at h⟩
  have hP : va_P D q_cl [] s.heap := fun k q h => by simp at h
  have hR : q_rel s.heap.size sa [] [] [] := ⟨rfl, fun h c hc => by simp at hc⟩
  have hS : va_S (fun q : Nat => s.heap.size ≤ q) s.heap s.heap [] := va_S.rf
  have hl := lv_entry ([.ref b]) (n := 4) (Nat.le_of_ble_eq_true rfl)
  rw [lg_entry_eq]
  generalize (lg_sl ([.ref b]) ++ List.replicate (4 - (lg_sl ([.ref b])).length) Slot.unset).toArray = ls at hl ⊢
  have hl : lv_has ls 4 [(0, .ref b)] := hl
  obtain ⟨m1, m2, m3, m4⟩ := q_sound l D s.heap.size sa 1000000 8 54 [.ref 0] [(5, c_dfl 5 0)] _ made1 (by decide)
  obtain ⟨m5, m6, m7, m8⟩ := q_sound l D s.heap.size sa 1000000 8 109 [.ref 133] (A ++ [(6, c_dfl 6 0)]) _ made2 (by decide)
  obtain ⟨⟨-, -, u2⟩, u3, u4, u5, u6, u7, u8, u9⟩ := q_ckw_get (Bool.and_eq_true_iff.mp (q_facts 54 (by decide))).2
  obtain ⟨⟨-, -, v2⟩, v3, v4, v5, v6, v7, v8, v9⟩ := q_ckw_get (Bool.and_eq_true_iff.mp (q_facts 109 (by decide))).2
  obtain ⟨u21, u22, u23⟩ := u2 (by decide +kernel)
  obtain ⟨v21, v22, v23⟩ := v2 (by decide +kernel)
  have hGw1 : ∀ w ∈ q_ws 54, w ∈ q_good := fun w hw => by
    rcases List.mem_cons.mp hw with rfl | hw
    · exact u4
    · exact hw
  have hGw2 : ∀ w ∈ q_ws 109, w ∈ q_good := fun w hw => by
    rcases List.mem_cons.mp hw with rfl | hw
    · exact v4
    · exact hw
  have s1 : q_sl [((5 : Nat), c_dfl 5 0)] = 11 := by decide
  have s2 : q_sl [((6 : Nat), c_dfl 6 0)] = 22 := by decide
  have s3 : q_sl (A ++ [((6 : Nat), c_dfl 6 0)]) = 1266 := by rw [q_sl_app, lA.2, s2]
  have l3 : (A ++ [((6 : Nat), c_dfl 6 0)]).length = 134 := by rw [List.length_append, lA.1]; rfl
  have t1 : ((none : Option Value), A).2.length - [((5 : Nat), c_dfl 5 0)].length = 132 := by show A.length - 1 = 132; rw [lA.1]
  have t2 : q_sl ((none : Option Value), A).2 - q_sl [((5 : Nat), c_dfl 5 0)] = 1233 := by rw [s1]; show q_sl A - 11 = _; rw [lA.2]
  have t3 : ((none : Option Value), B).2.length - (A ++ [((6 : Nat), c_dfl 6 0)]).length = 12 := by rw [l3]; show B.length - 134 = 12; rw [lB.1]
  have t4 : q_sl ((none : Option Value), B).2 - q_sl (A ++ [((6 : Nat), c_dfl 6 0)]) = 1386 := by rw [s3]; show q_sl B - _ = _; rw [lB.2]
  rw [t1, t2] at m4
  rw [t3, t4] at m8
  have d5 := q_dfl_ok 5 (by decide)
  have d6 := q_dfl_ok 6 (by decide)
  refine va_new (D := D) (ci := 5) (N := 11) hx hb hw (q_cin 5 (by decide)) (q_cY 5) (q_cYok 5 (by decide)) hown (hts (.classLink R_law 7 RX5) (by decide +kernel)) (hw _ (q_new_words 5 (by decide)).1) (hw _ (q_new_words 5 (by decide)).2) hK hP hR.D hS hA (q_cl_at 5 (by decide)) (fs := c_dfl 5 0) d5.2 (by decide) (by decide) dl_0 (fun q H hP1 hD1 hS1 => ?_)
  refine W_sz (fun hz => ?_)
  have hq := q_newat hR hP1 hD1 (by show H.size ≤ s.heap.size + 0 + 1; omega)
  subst hq
  have hR1 : q_rel s.heap.size sa ([] ++ []) [(5, c_dfl 5 0)] ([] ++ [(s.heap.size + 0, .inr (5, c_dfl 5 0))]) := hR.push rfl (Or.inl ⟨by decide, by rw [q_dfl_up _ _ 5 (by decide)]⟩)
  have hH1 : q_HR D s.heap.size sa s [(5, c_dfl 5 0)] H := ⟨_, _, hK, hP1, hR1⟩
  refine lv_dup hx hb dl_3 rfl ?_
  refine W_sz (fun hz => ?_)
  have hsz1 : H.size = s.heap.size + 1 := by have := hH1.le hS1.1; simp at this; omega
  refine q_callW (r' := (none, A)) (va_runI (As := []) (rest := [.ref (s.heap.size + 0)]) ⟨hx, hb, hml, hown, hw⟩ m4 (cwI 0 hw (q_GI hGw1) (show q_ws 54 = .code (q_mn 54) (q_mc 54) (q_I 54).1 none :: q_good by unfold q_ws; rw [u23]) rfl rfl (hw _ u3) (hts (.methodLink R_law 9 (q_mn 54)) (by decide +kernel)) (hw _ u21) u22 ⟨u6, u7, u8⟩ ⟨by decide, law_rm u9⟩) ⟨fun a U g mk q => ⟨q.1, q.2.1, q.2.2.1.moved (Vm.Alike.refl U.vm), q.2.2.2.same rfl rfl⟩, fun U hU hW => ⟨rfl, by rw [hU]; exact hsz1, by rw [hU]; exact hH1.moved hW.alike, hEN.warm hW (fun a g1 g2 => by rw [hU]; exact hS1.2.1 a g1 g2)⟩⟩ rfl rfl hl.1 rfl (lv_room (by simp [Value.category])) dl_4 ⟨by decide, by decide⟩) hS1 (fun H locs hH2 hS2 => ?_)
  refine lv_astore_n (lv' := [(1, .ref s.heap.size), (0, .ref b)]) hx hb dl_7 rfl hl (by decide) rfl (fun ls hl => ?_)
  obtain ⟨ws2, tys2, hK2, hP2, hR2⟩ := hH2
  refine va_new (D := D) (ci := 6) (N := 22) hx hb hw (q_cin 6 (by decide)) (q_cY 6) (q_cYok 6 (by decide)) hown (hts (.classLink R_law 10 RX6) (by decide +kernel)) (hw _ (q_new_words 6 (by decide)).1) (hw _ (q_new_words 6 (by decide)).2) hK2 hP2 hR2.D hS2 hA (q_cl_at 6 (by decide)) (fs := c_dfl 6 0) d6.2 (by decide) (by decide) dl_8 (fun q H hP3 hD3 hS3 => ?_)
  refine W_sz (fun hz => ?_)
  have hq := q_newat hR2 hP3 hD3 (by show H.size ≤ s.heap.size + A.length + 1; rw [lA.1]; omega)
  subst hq
  have hR3 := hR2.push (t := []) rfl (c := (6, c_dfl 6 0)) (e := .inr (6, c_dfl 6 0)) (Or.inl ⟨by decide, by rw [q_dfl_up _ _ 6 (by decide)]⟩)
  have hH3 : q_HR D s.heap.size sa s (A ++ [(6, c_dfl 6 0)]) H := ⟨_, _, by rw [List.append_nil]; exact hK2, hP3, hR3⟩
  have eA : s.heap.size + ((none : Option Value), A).2.length = s.heap.size + 133 := by show s.heap.size + A.length = _; rw [lA.1]
  rw [eA]
  refine lv_dup hx hb dl_11 rfl ?_
  refine W_sz (fun hz => ?_)
  have hsz3 : H.size = s.heap.size + (A ++ [((6 : Nat), c_dfl 6 0)]).length := by have := hH3.le hS3.1; rw [l3] at this ⊢; omega
  refine q_callW (r' := (none, B)) (va_runI (As := []) (rest := [.ref (s.heap.size + 133)]) ⟨hx, hb, hml, hown, hw⟩ m8 (cwI 0 hw (q_GI hGw2) (show q_ws 109 = .code (q_mn 109) (q_mc 109) (q_I 109).1 none :: q_good by unfold q_ws; rw [v23]) rfl rfl (hw _ v3) (hts (.methodLink R_law 12 (q_mn 109)) (by decide +kernel)) (hw _ v21) v22 ⟨v6, v7, v8⟩ ⟨by decide, law_rm v9⟩) ⟨fun a U g mk q => ⟨q.1, q.2.1, q.2.2.1.moved (Vm.Alike.refl U.vm), q.2.2.2.same rfl rfl⟩, fun U hU hW => ⟨rfl, by rw [hU]; exact hsz3, by rw [hU]; exact hH3.moved hW.alike, hEN.warm hW (fun a g1 g2 => by rw [hU]; exact hS3.2.1 a g1 g2)⟩⟩ rfl rfl hl.1 rfl (lv_room (by simp [Value.category])) dl_12 ⟨by decide, by decide⟩) hS3 (fun H locs hH4 hS4 => ?_)
  refine lv_astore_n (lv' := [(2, .ref (s.heap.size + 133)), (1, .ref s.heap.size), (0, .ref b)]) hx hb dl_15 rfl hl (by decide) rfl (fun ls hl => ?_)
  refine lv_iconst (v := 0) hx hb dl_16 (by decide) ?_
  refine lv_istore_n (lv' := law_l s b 0) hx hb dl_17 rfl hl (by decide) rfl (fun ls hl => ?_)
  exact hturn D sa ls H locs hEN hl hH4 hS4


/-! THE CLAIM OUT OF ONE WALK OF THE LAW'S BODY. Your part is whole_start (and what it stands on); all else here is the same for every law, but numbers. -/
def R_law : String := "CarriedGateLaw"
def lw_P (b : Addr) (xs : List Int32) (args : Array Value) (s : State) : Prop := args = #[.ref b] ∧ s.IntsAt b xs ∧ xs.length ≤ 7 ∧ (Jvm.Cond.and given_1 narrow_1).before args s = true
def lw_Q (_ : Array Value) (s : State) (o : Outcome) (t : State) : Prop := o = .returned (some (.int 1)) ∧ Framed s o t [] 600000 7302250
def lw_Z (below : List Frame) (a : Array Value) (s : State) : State → Prop := fun t => ∃ o, t.status = .running ∧ Ended t below o ∧ lw_Q a s o t
/-- the law's own end, with 1 on the stack, nothing written that was there before, its room as the claim has it -/
theorem lw_ret {p : Program} {l : Launch} {e : Env} {s : State} {m : MethodId} {below : List Frame} {meth : Method} {c : Code} {b : Nat} (hx : p.tables.exec = Jvm.exec) (hb : c.code = code) (hr : meth.sig.returnType = ret) (hlocks : meth.locks = false) {pc : Nat} {H : Heap} {ls : Array Slot} (hdg : decode code pc = .ok (.ireturn, 1)) : W p l e room_1 s m #[Value.ref b] below meth c H [] 600000 7302250 (lw_Z below #[Value.ref b] s) (F0 m pc ls [.int 1]) := by
  intro T hT X
  obtain ⟨fs, hret, hrun, hended, hW, hframe⟩ := X.leave (v := some (.int 1)) (hlocks := hlocks) (fun h => by rw [hr] at h; cases h)
  have hmeth' : T.vm.method? m = some meth := X.method'
  refine ⟨T.setFrames fs, ?_, .returned (some (.int 1)), hrun, hended, rfl, ⟨_, rfl⟩, hW, hframe⟩
  jvm_step X.here [X.here.top, hx, hb, hdg, hmeth', hr, ret, narrow_b1]
  (try refine ⟨rfl, ?_⟩); (try refine ⟨rfl, ?_⟩)
  first | (intro acts; rw [hret _ acts rfl rfl rfl]) | rw [hret _ _ rfl rfl rfl]
  exact Steps.refl _
/-- what holds at the law's entry: the machine, the code, the tables' words (any of lw_tbl by 'hts w (by decide +kernel)'), the script of L ints xs at the cell b, what the Statement gives of the start (any of its parts by flat_of_before) -/
def lw_At (p : Program) (s : State) (m : MethodId) (meth : Method) (c : Code) (b L : Nat) (xs : Nat → Int32) : Prop :=
  p.tables.exec = Jvm.exec ∧ c.code = code ∧ meth.sig.returnType = ret ∧ c.maxLocals = 4 ∧ s.vm.findClass R_law = some m.cls ∧ (∀ w ∈ lw_tbl, w.before #[Value.ref b] s = true) ∧ va_X b L xs s s.heap ∧ b < s.heap.size ∧ meth.locks = false ∧ (Jvm.Cond.and given_1 narrow_1).before #[Value.ref b] s = true
section q_law
variable {p : Program} {l : Launch} {e : Env} {s : State} {m : MethodId} {below : List Frame} {meth : Method} {cd : Code} {b L : Nat} {xs : Nat → Int32} {D : va_G} {sa : Nat → Nat} {ls : Array Slot} {H : Heap} {locs : List Loc} {st : List Value}
/-- a state of the law's one turn -/
abbrev LW (p : Program) (l : Launch) (e : Env) (s : State) (m : MethodId) (below : List Frame) (meth : Method) (cd : Code) (b : Nat) (H : Heap) (locs : List Loc) (pc : Nat) (ls : Array Slot) (st : List Value) : Prop := W p l e room_1 s m #[Value.ref b] below meth cd H locs 146 2652 (lw_Z below #[Value.ref b] s) (F0 m pc ls st)
def law_l (s : State) (b : Nat) : List (Nat × Value) := [(3, .int 0), (2, .ref (s.heap.size + 133)), (1, .ref s.heap.size), (0, .ref b)]
theorem law_at {q : Nat} {v : Value} (hl : lv_has ls 4 (law_l s b)) (k : Nat) (hk : (law_l s b)[k]? = some (q, v)) : ls[q]? = some (.val v) := lv_at hl k hk
theorem law_arg {pc j : Nat} {n : Int} (C0 : lw_At p s m meth cd b L xs) (hL : L = 7) (hl : lv_has ls 4 (law_l s b)) (hS : va_S (fun q => s.heap.size ≤ q) s.heap H locs) (d0 : decode code pc = .ok (.aload_n 0, 1)) (d1 : decode code (pc + 1) = .ok (.iload_n 3, 1)) (d2 : decode code (pc + 2) = .ok (.iconst n, 1)) (d3 : decode code (pc + 3) = .ok (.iadd, 1)) (d4 : decode code (pc + 4) = .ok (.iaload, 1)) (hn : Int32.ofInt n = nI j) (hj : j < 7) (k : LW p l e s m below meth cd b H locs (pc + 5) ls (.int (xs j) :: st)) : LW p l e s m below meth cd b H locs pc ls st := by
  obtain ⟨hx, hb, hr, hml, hown, hts, hX, hbl, hlocks, hgv⟩ := C0
  have hbA : ¬ (fun q : Nat => s.heap.size ≤ q) b := Nat.not_le.mpr hbl
  refine lv_aload_n hx hb d0 rfl (law_at hl 3 rfl) ?_
  refine lv_iload_n hx hb d1 rfl (law_at hl 0 rfl) ?_
  refine lv_iconst (v := nI j) hx hb d2 hn ?_
  refine lv_iadd hx hb d3 ?_
  have e0 : (0 : Int32) + nI j = nI j := Int32.zero_add _
  rw [e0]
  refine va_sld hx hb hX hbl hbA hS (vp_in_nI (by omega) (by omega)) d4 ?_
  rw [nI_clamp (by omega)]
  exact k
theorem law_arg6 {pc : Nat} (C0 : lw_At p s m meth cd b L xs) (hL : L = 7) (hl : lv_has ls 4 (law_l s b)) (hS : va_S (fun q => s.heap.size ≤ q) s.heap H locs) (d0 : decode code pc = .ok (.aload_n 0, 1)) (d1 : decode code (pc + 1) = .ok (.iload_n 3, 1)) (d2 : decode code (pc + 2) = .ok (.bipush 6, 2)) (d3 : decode code (pc + 4) = .ok (.iadd, 1)) (d4 : decode code (pc + 5) = .ok (.iaload, 1)) (k : LW p l e s m below meth cd b H locs (pc + 6) ls (.int (xs 6) :: st)) : LW p l e s m below meth cd b H locs pc ls st := by
  obtain ⟨hx, hb, hr, hml, hown, hts, hX, hbl, hlocks, hgv⟩ := C0
  have hbA : ¬ (fun q : Nat => s.heap.size ≤ q) b := Nat.not_le.mpr hbl
  refine lv_aload_n hx hb d0 rfl (law_at hl 3 rfl) ?_
  refine lv_iload_n hx hb d1 rfl (law_at hl 0 rfl) ?_
  refine lv_bipush (v := nI 6) hx hb d2 (by decide) ?_
  refine lv_iadd hx hb d3 ?_
  have e0 : (0 : Int32) + nI 6 = nI 6 := Int32.zero_add _
  rw [e0]
  refine va_sld hx hb hX hbl hbA hS (vp_in_nI (by omega) (by omega)) d4 ?_
  rw [nI_clamp (by omega)]
  exact k
theorem law_small : ∀ n, n < 8 → (Int32.ofNat n - 7 < 7) := by decide
theorem law_out {x : Int32} (C0 : lw_At p s m meth cd b L xs) (hL : L ≤ 7) (hl : ls[3]? = some (.val (.int x))) (hl0 : ls[0]? = some (.val (.ref b))) (hx0 : Int32.ofNat L - 7 < x) (hS : va_S (fun q => s.heap.size ≤ q) s.heap H locs) : LW p l e s m below meth cd b H locs 18 ls [] := by
  obtain ⟨hx, hb, hr, hml, hown, hts, hX, hbl, hlocks, hgv⟩ := C0
  have hbA : ¬ (fun q : Nat => s.heap.size ≤ q) b := Nat.not_le.mpr hbl
  refine lv_iload_n hx hb dl_18 rfl hl ?_
  refine lv_aload_n hx hb dl_19 rfl hl0 ?_
  refine va_slen hx hb hX hbl hbA hS dl_20 ?_
  refine lv_bipush (v := 7) hx hb dl_21 (by decide) ?_
  refine lv_isub hx hb dl_23 ?_
  refine lv_icmp_gt (tgt := 1328) hx hb dl_24 (by decide) (fun _ => ?_) (fun h => absurd hx0 h)
  refine lv_iconst (v := 1) hx hb dl_1328 (by decide) ?_
  refine va_forget (fun q hq => hS.2.2 q hq) ?_
  refine W.widen (k := 600000) (n := 7302250) (by decide) (by decide) ?_
  exact lw_ret hx hb hr hlocks dl_1329
theorem law_tail (C0 : lw_At p s m meth cd b L xs) (hL : L ≤ 7) (hl : lv_has ls 4 (law_l s b)) (hS : va_S (fun q => s.heap.size ≤ q) s.heap H locs) : LW p l e s m below meth cd b H locs 1322 ls [] := by
  obtain ⟨hx, hb, hr, hml, hown, hts, hX, hbl, hlocks, hgv⟩ := id C0
  refine lv_iinc (v := 7) (lv' := [(3, .int 7), (2, .ref (s.heap.size + 133)), (1, .ref s.heap.size), (0, .ref b)]) hx hb dl_1322 hl (k := 0) rfl (by decide) (by decide) rfl (fun ls hl => ?_)
  refine lv_goto (tgt := 18) hx hb dl_1325 (by decide) ?_
  exact law_out C0 hL (lv_at hl 0 rfl) (lv_at hl 3 rfl) (law_small L (by omega)) hS
theorem law_call {k ci h pc : Nat} {idx : Nat × Nat} {As rest : List Value} {hp : q_H} {r : q_R Value q_H} {vs : List Value} (C0 : lw_At p s m meth cd b L xs) (hEN : q_EN sa s) (hk : k < q_nm) (hkd : q_kd k = 0) (hci : ci < 7) (hcls : (q_mn k).cls = q_cR ci) (hn : As.length = q_na k) (hlink : q_at idx.1 (.methodLink R_law idx.2 (q_mn k)) = true)
    (hrun : q_run q_CO q_I 1000000 8 k (.ref h :: As) hp = some r) (hl0 : hp.length = 146) (hs0 : q_sl hp = 2652) (hl1 : r.2.length = 146) (hs1 : q_sl r.2 = 2652) (hh : hp[h]? = some (ci, vs)) (hH : q_HR D s.heap.size sa s hp H) (hS : va_S (fun q => s.heap.size ≤ q) s.heap H locs) (hl : ls.size = 4) (hcat : (rest.map fun v => v.category).sum ≤ 8) (hd : decode code pc = .ok (.invokevirtual idx.2, 3))
    (kk : ∀ (H1 : Heap) (locs1 : List Loc), q_HR D s.heap.size sa s r.2 H1 → va_S (fun q => s.heap.size ≤ q) s.heap H1 locs1 → LW p l e s m below meth cd b H1 locs1 (pc + 3) ls ((r.1.map (q_up s.heap.size sa)).toList ++ rest)) : LW p l e s m below meth cd b H locs pc ls ((As.map (q_up s.heap.size sa)).reverse ++ .ref (s.heap.size + h) :: rest) := by
  obtain ⟨hx, hb, hr, hml, hown, hts, hX, hbl, hlocks, hgv⟩ := C0
  have hw : ∀ w ∈ q_good, w.before #[Value.ref b] s = true := fun w h => hts w (List.mem_filter.mp h).1
  obtain ⟨-, -, -, hM⟩ := q_sound l D s.heap.size sa 1000000 8 k (.ref h :: As) hp r hrun hk
  obtain ⟨⟨w0, w1, w2⟩, w3, w4, w5, w6, w7, w8, w9⟩ := q_ckw_get (Bool.and_eq_true_iff.mp (q_facts k hk)).2
  obtain ⟨z1, z2⟩ := w0 hkd
  have c0 : r.2.length - hp.length = 0 := by omega
  have c1 : q_sl r.2 - q_sl hp = 0 := by omega
  rw [c0, c1] at hM
  obtain ⟨ws, tys, hK, hP, hR⟩ := id hH
  obtain ⟨en9, k2, k3⟩ := hR.2 h _ hh
  rcases k3 with ⟨-, k3⟩ | ⟨k3, -⟩ | ⟨k3, -⟩ | ⟨k3, -⟩ | ⟨k3, -⟩ | ⟨k3, -⟩
  · subst k3
    have hrec := va_recv hK hP (q_cl_at _ hci) k2
    rw [← hcls] at hrec
    have hGT : ∀ w ∈ wsV R_law idx.2 (q_mn k).cls (q_mn k) (q_ws k), w ∈ q_good := fun w hw => by
      unfold wsV at hw
      simp only [List.cons_append, List.nil_append, List.mem_cons] at hw
      rcases hw with rfl | rfl | rfl | rfl | hw
      · exact q_at_mem hlink
      · exact z1
      · exact z2
      · exact w3
      · rcases List.mem_cons.mp hw with rfl | hw
        · exact w4
        · exact hw
    refine W_sz (fun hz => ?_)
    have hsz : H.size = s.heap.size + hp.length := by
      have h9 := hH.le hS.1
      omega
    have hbl2 : FrameBlind (q_Pc D s.heap.size sa (.ref h :: As) hp) := fun a U g mk q => ⟨q.1, q.2.1, q.2.2.1.moved (Vm.Alike.refl U.vm), q.2.2.2.same rfl⟩
    have hpc : ∀ U : State, U.heap = H → s.WarmedH U.vm → q_Pc D s.heap.size sa (.ref h :: As) hp ((.ref h :: As).map (q_up s.heap.size sa)).toArray U := fun U hU hW => ⟨rfl, by rw [hU]; exact hsz, by rw [hU]; exact hH.moved hW.alike, hEN.warm hW⟩
    refine q_callW (va_runV (As := As.map (q_up s.heap.size sa)) (rest := rest) ⟨hx, hb, hml, hown, hw⟩ hM (cwV (q_na k) hw (q_GI hGT) rfl rfl rfl ⟨rfl, w6, w7, w8⟩ ⟨by decide, by show 8 + ((q_I k).1 + 11) + 40 * 7 ≤ 548; omega⟩) ⟨hbl2, hrec, hpc⟩ rfl (by rw [List.length_map]; exact hn) hl rfl (lv_room hcat) hd ⟨by decide, by decide⟩) hS kk
  all_goals (simp only at k3; omega)
theorem law_c0 (C0 : lw_At p s m meth cd b L xs) (hL : L = 7) (hEN : q_EN sa s) (hl : lv_has ls 4 (law_l s b)) (hH : q_HR D s.heap.size sa s q_hp0 H) (hS : va_S (fun q => s.heap.size ≤ q) s.heap H locs) : LW p l e s m below meth cd b H locs 192 ls [] := by
  obtain ⟨hx, hb, hr, hml, hown, hts, hX, hbl, hlocks, hgv⟩ := id C0
  refine lv_aload_n hx hb dl_192 rfl (law_at hl 2 rfl) ?_
  refine law_arg (j := 1) C0 hL hl hS dl_193 dl_194 dl_195 dl_196 dl_197 (by decide) (by decide) ?_
  refine law_arg (j := 2) C0 hL hl hS dl_198 dl_199 dl_200 dl_201 dl_202 (by decide) (by decide) ?_
  refine law_arg (j := 3) C0 hL hl hS dl_203 dl_204 dl_205 dl_206 dl_207 (by decide) (by decide) ?_
  obtain ⟨x, hp1, hp2, e1, e2, n1, n2, n3, n4, t6⟩ := (show e_same 55 126 [.int (xs 1), .int (xs 2), .int (xs 3)] from e_use [xs 1, xs 2, xs 3] (by decide) (by decide) rfl ev_0)
  obtain ⟨vs6, t6⟩ := c_tag_some t6
  refine law_call (As := [.int (xs 1), .int (xs 2), .int (xs 3)]) (rest := []) (idx := (265, 13)) (ci := 5) (h := 0) C0 hEN (by decide) (by decide +kernel) (by decide) (by decide +kernel) (show (3 : Nat) = q_na 55 by decide +kernel) (by decide +kernel) e1 q_hp0_len.1 q_hp0_len.2 n1 n2 rfl hH hS hl.1 (by decide) dl_208 (fun H locs hH hS => ?_)
  refine lv_aload_n hx hb dl_211 rfl (law_at hl 1 rfl) ?_
  refine law_arg (j := 1) C0 hL hl hS dl_212 dl_213 dl_214 dl_215 dl_216 (by decide) (by decide) ?_
  refine law_arg (j := 2) C0 hL hl hS dl_217 dl_218 dl_219 dl_220 dl_221 (by decide) (by decide) ?_
  refine law_arg (j := 3) C0 hL hl hS dl_222 dl_223 dl_224 dl_225 dl_226 (by decide) (by decide) ?_
  refine law_call (As := [.int (xs 1), .int (xs 2), .int (xs 3)]) (rest := [.int x]) (idx := (862, 17)) (ci := 6) (h := 133) C0 hEN (by decide) (by decide +kernel) (by decide) (by decide +kernel) (show (3 : Nat) = q_na 126 by decide +kernel) (by decide +kernel) e2 n1 n2 n3 n4 t6 hH hS hl.1 (by simp [Value.category]) dl_227 (fun H locs hH hS => ?_)
  refine lv_icmp_eq (tgt := 1322) hx hb dl_230 (by decide) (fun _ => ?_) (fun h => absurd rfl h)
  exact law_tail C0 (by omega) hl hS
theorem law_c1 (C0 : lw_At p s m meth cd b L xs) (hL : L = 7) (hEN : q_EN sa s) (hl : lv_has ls 4 (law_l s b)) (hH : q_HR D s.heap.size sa s q_hp0 H) (hS : va_S (fun q => s.heap.size ≤ q) s.heap H locs) : LW p l e s m below meth cd b H locs 235 ls [] := by
  obtain ⟨hx, hb, hr, hml, hown, hts, hX, hbl, hlocks, hgv⟩ := id C0
  refine lv_aload_n hx hb dl_235 rfl (law_at hl 2 rfl) ?_
  refine law_arg (j := 1) C0 hL hl hS dl_236 dl_237 dl_238 dl_239 dl_240 (by decide) (by decide) ?_
  refine law_arg (j := 2) C0 hL hl hS dl_241 dl_242 dl_243 dl_244 dl_245 (by decide) (by decide) ?_
  obtain ⟨x, hp1, hp2, e1, e2, n1, n2, n3, n4, t6⟩ := (show e_same 56 127 [.int (xs 1), .int (xs 2)] from e_use [xs 1, xs 2] (by decide) (by decide) rfl ev_1)
  obtain ⟨vs6, t6⟩ := c_tag_some t6
  refine law_call (As := [.int (xs 1), .int (xs 2)]) (rest := []) (idx := (280, 18)) (ci := 5) (h := 0) C0 hEN (by decide) (by decide +kernel) (by decide) (by decide +kernel) (show (2 : Nat) = q_na 56 by decide +kernel) (by decide +kernel) e1 q_hp0_len.1 q_hp0_len.2 n1 n2 rfl hH hS hl.1 (by decide) dl_246 (fun H locs hH hS => ?_)
  refine lv_aload_n hx hb dl_249 rfl (law_at hl 1 rfl) ?_
  refine law_arg (j := 1) C0 hL hl hS dl_250 dl_251 dl_252 dl_253 dl_254 (by decide) (by decide) ?_
  refine law_arg (j := 2) C0 hL hl hS dl_255 dl_256 dl_257 dl_258 dl_259 (by decide) (by decide) ?_
  refine law_call (As := [.int (xs 1), .int (xs 2)]) (rest := [.int x]) (idx := (879, 22)) (ci := 6) (h := 133) C0 hEN (by decide) (by decide +kernel) (by decide) (by decide +kernel) (show (2 : Nat) = q_na 127 by decide +kernel) (by decide +kernel) e2 n1 n2 n3 n4 t6 hH hS hl.1 (by simp [Value.category]) dl_260 (fun H locs hH hS => ?_)
  refine lv_icmp_eq (tgt := 1322) hx hb dl_263 (by decide) (fun _ => ?_) (fun h => absurd rfl h)
  exact law_tail C0 (by omega) hl hS
theorem law_c2 (C0 : lw_At p s m meth cd b L xs) (hL : L = 7) (hEN : q_EN sa s) (hl : lv_has ls 4 (law_l s b)) (hH : q_HR D s.heap.size sa s q_hp0 H) (hS : va_S (fun q => s.heap.size ≤ q) s.heap H locs) : LW p l e s m below meth cd b H locs 268 ls [] := by
  obtain ⟨hx, hb, hr, hml, hown, hts, hX, hbl, hlocks, hgv⟩ := id C0
  refine lv_aload_n hx hb dl_268 rfl (law_at hl 2 rfl) ?_
  refine law_arg (j := 1) C0 hL hl hS dl_269 dl_270 dl_271 dl_272 dl_273 (by decide) (by decide) ?_
  obtain ⟨x, hp1, hp2, e1, e2, n1, n2, n3, n4, t6⟩ := (show e_same 57 128 [.int (xs 1)] from e_use [xs 1] (by decide) (by decide) rfl ev_2)
  obtain ⟨vs6, t6⟩ := c_tag_some t6
  refine law_call (As := [.int (xs 1)]) (rest := []) (idx := (320, 23)) (ci := 5) (h := 0) C0 hEN (by decide) (by decide +kernel) (by decide) (by decide +kernel) (show (1 : Nat) = q_na 57 by decide +kernel) (by decide +kernel) e1 q_hp0_len.1 q_hp0_len.2 n1 n2 rfl hH hS hl.1 (by decide) dl_274 (fun H locs hH hS => ?_)
  refine lv_aload_n hx hb dl_277 rfl (law_at hl 1 rfl) ?_
  refine law_arg (j := 1) C0 hL hl hS dl_278 dl_279 dl_280 dl_281 dl_282 (by decide) (by decide) ?_
  refine law_call (As := [.int (xs 1)]) (rest := [.int x]) (idx := (916, 27)) (ci := 6) (h := 133) C0 hEN (by decide) (by decide +kernel) (by decide) (by decide +kernel) (show (1 : Nat) = q_na 128 by decide +kernel) (by decide +kernel) e2 n1 n2 n3 n4 t6 hH hS hl.1 (by simp [Value.category]) dl_283 (fun H locs hH hS => ?_)
  refine lv_icmp_eq (tgt := 1322) hx hb dl_286 (by decide) (fun _ => ?_) (fun h => absurd rfl h)
  exact law_tail C0 (by omega) hl hS
theorem law_c3 (C0 : lw_At p s m meth cd b L xs) (hL : L = 7) (hEN : q_EN sa s) (hl : lv_has ls 4 (law_l s b)) (hH : q_HR D s.heap.size sa s q_hp0 H) (hS : va_S (fun q => s.heap.size ≤ q) s.heap H locs) : LW p l e s m below meth cd b H locs 291 ls [] := by
  obtain ⟨hx, hb, hr, hml, hown, hts, hX, hbl, hlocks, hgv⟩ := id C0
  refine lv_aload_n hx hb dl_291 rfl (law_at hl 2 rfl) ?_
  refine law_arg (j := 1) C0 hL hl hS dl_292 dl_293 dl_294 dl_295 dl_296 (by decide) (by decide) ?_
  obtain ⟨x, hp1, hp2, e1, e2, n1, n2, n3, n4, t6⟩ := (show e_same 58 131 [.int (xs 1)] from e_use [xs 1] (by decide) (by decide) rfl ev_3)
  obtain ⟨vs6, t6⟩ := c_tag_some t6
  refine law_call (As := [.int (xs 1)]) (rest := []) (idx := (324, 28)) (ci := 5) (h := 0) C0 hEN (by decide) (by decide +kernel) (by decide) (by decide +kernel) (show (1 : Nat) = q_na 58 by decide +kernel) (by decide +kernel) e1 q_hp0_len.1 q_hp0_len.2 n1 n2 rfl hH hS hl.1 (by decide) dl_297 (fun H locs hH hS => ?_)
  refine lv_aload_n hx hb dl_300 rfl (law_at hl 1 rfl) ?_
  refine law_arg (j := 1) C0 hL hl hS dl_301 dl_302 dl_303 dl_304 dl_305 (by decide) (by decide) ?_
  refine law_call (As := [.int (xs 1)]) (rest := [.int x]) (idx := (928, 31)) (ci := 6) (h := 133) C0 hEN (by decide) (by decide +kernel) (by decide) (by decide +kernel) (show (1 : Nat) = q_na 131 by decide +kernel) (by decide +kernel) e2 n1 n2 n3 n4 t6 hH hS hl.1 (by simp [Value.category]) dl_306 (fun H locs hH hS => ?_)
  refine lv_icmp_eq (tgt := 1322) hx hb dl_309 (by decide) (fun _ => ?_) (fun h => absurd rfl h)
  exact law_tail C0 (by omega) hl hS
theorem law_c4 (C0 : lw_At p s m meth cd b L xs) (hL : L = 7) (hEN : q_EN sa s) (hl : lv_has ls 4 (law_l s b)) (hH : q_HR D s.heap.size sa s q_hp0 H) (hS : va_S (fun q => s.heap.size ≤ q) s.heap H locs) : LW p l e s m below meth cd b H locs 314 ls [] := by
  obtain ⟨hx, hb, hr, hml, hown, hts, hX, hbl, hlocks, hgv⟩ := id C0
  refine lv_aload_n hx hb dl_314 rfl (law_at hl 2 rfl) ?_
  obtain ⟨x, hp1, hp2, e1, e2, n1, n2, n3, n4, t6⟩ := (show e_same 59 141 [] from e_use [] (by decide) (by decide) rfl ev_4)
  obtain ⟨vs6, t6⟩ := c_tag_some t6
  refine law_call (As := []) (rest := []) (idx := (332, 32)) (ci := 5) (h := 0) C0 hEN (by decide) (by decide +kernel) (by decide) (by decide +kernel) (show (0 : Nat) = q_na 59 by decide +kernel) (by decide +kernel) e1 q_hp0_len.1 q_hp0_len.2 n1 n2 rfl hH hS hl.1 (by decide) dl_315 (fun H locs hH hS => ?_)
  refine lv_aload_n hx hb dl_318 rfl (law_at hl 1 rfl) ?_
  refine law_call (As := []) (rest := [.int x]) (idx := (934, 36)) (ci := 6) (h := 133) C0 hEN (by decide) (by decide +kernel) (by decide) (by decide +kernel) (show (0 : Nat) = q_na 141 by decide +kernel) (by decide +kernel) e2 n1 n2 n3 n4 t6 hH hS hl.1 (by simp [Value.category]) dl_319 (fun H locs hH hS => ?_)
  refine lv_icmp_eq (tgt := 1322) hx hb dl_322 (by decide) (fun _ => ?_) (fun h => absurd rfl h)
  exact law_tail C0 (by omega) hl hS
theorem law_c5 (C0 : lw_At p s m meth cd b L xs) (hL : L = 7) (hEN : q_EN sa s) (hl : lv_has ls 4 (law_l s b)) (hH : q_HR D s.heap.size sa s q_hp0 H) (hS : va_S (fun q => s.heap.size ≤ q) s.heap H locs) : LW p l e s m below meth cd b H locs 327 ls [] := by
  obtain ⟨hx, hb, hr, hml, hown, hts, hX, hbl, hlocks, hgv⟩ := id C0
  refine lv_aload_n hx hb dl_327 rfl (law_at hl 2 rfl) ?_
  refine law_arg (j := 1) C0 hL hl hS dl_328 dl_329 dl_330 dl_331 dl_332 (by decide) (by decide) ?_
  obtain ⟨x, hp1, hp2, e1, e2, n1, n2, n3, n4, t6⟩ := (show e_same 60 130 [.int (xs 1)] from e_use [xs 1] (by decide) (by decide) rfl ev_5)
  obtain ⟨vs6, t6⟩ := c_tag_some t6
  refine law_call (As := [.int (xs 1)]) (rest := []) (idx := (474, 37)) (ci := 5) (h := 0) C0 hEN (by decide) (by decide +kernel) (by decide) (by decide +kernel) (show (1 : Nat) = q_na 60 by decide +kernel) (by decide +kernel) e1 q_hp0_len.1 q_hp0_len.2 n1 n2 rfl hH hS hl.1 (by decide) dl_333 (fun H locs hH hS => ?_)
  refine lv_aload_n hx hb dl_336 rfl (law_at hl 1 rfl) ?_
  refine law_arg (j := 1) C0 hL hl hS dl_337 dl_338 dl_339 dl_340 dl_341 (by decide) (by decide) ?_
  refine law_call (As := [.int (xs 1)]) (rest := [.int x]) (idx := (920, 40)) (ci := 6) (h := 133) C0 hEN (by decide) (by decide +kernel) (by decide) (by decide +kernel) (show (1 : Nat) = q_na 130 by decide +kernel) (by decide +kernel) e2 n1 n2 n3 n4 t6 hH hS hl.1 (by simp [Value.category]) dl_342 (fun H locs hH hS => ?_)
  refine lv_icmp_eq (tgt := 1322) hx hb dl_345 (by decide) (fun _ => ?_) (fun h => absurd rfl h)
  exact law_tail C0 (by omega) hl hS
theorem law_c6 (h_ev6 : ∀ z : Int32, e_same 61 143 [.int z]) (C0 : lw_At p s m meth cd b L xs) (hL : L = 7) (hEN : q_EN sa s) (hl : lv_has ls 4 (law_l s b)) (hH : q_HR D s.heap.size sa s q_hp0 H) (hS : va_S (fun q => s.heap.size ≤ q) s.heap H locs) : LW p l e s m below meth cd b H locs 350 ls [] := by
  obtain ⟨hx, hb, hr, hml, hown, hts, hX, hbl, hlocks, hgv⟩ := id C0
  refine lv_aload_n hx hb dl_350 rfl (law_at hl 2 rfl) ?_
  refine law_arg (j := 1) C0 hL hl hS dl_351 dl_352 dl_353 dl_354 dl_355 (by decide) (by decide) ?_
  obtain ⟨x, hp1, hp2, e1, e2, n1, n2, n3, n4, t6⟩ := (show e_same 61 143 [.int (xs 1)] from h_ev6 (xs 1))
  obtain ⟨vs6, t6⟩ := c_tag_some t6
  refine law_call (As := [.int (xs 1)]) (rest := []) (idx := (490, 41)) (ci := 5) (h := 0) C0 hEN (by decide) (by decide +kernel) (by decide) (by decide +kernel) (show (1 : Nat) = q_na 61 by decide +kernel) (by decide +kernel) e1 q_hp0_len.1 q_hp0_len.2 n1 n2 rfl hH hS hl.1 (by decide) dl_356 (fun H locs hH hS => ?_)
  refine lv_aload_n hx hb dl_359 rfl (law_at hl 1 rfl) ?_
  refine law_arg (j := 1) C0 hL hl hS dl_360 dl_361 dl_362 dl_363 dl_364 (by decide) (by decide) ?_
  refine law_call (As := [.int (xs 1)]) (rest := [.int x]) (idx := (974, 44)) (ci := 6) (h := 133) C0 hEN (by decide) (by decide +kernel) (by decide) (by decide +kernel) (show (1 : Nat) = q_na 143 by decide +kernel) (by decide +kernel) e2 n1 n2 n3 n4 t6 hH hS hl.1 (by simp [Value.category]) dl_365 (fun H locs hH hS => ?_)
  refine lv_icmp_eq (tgt := 1322) hx hb dl_368 (by decide) (fun _ => ?_) (fun h => absurd rfl h)
  exact law_tail C0 (by omega) hl hS
theorem law_c7 (C0 : lw_At p s m meth cd b L xs) (hL : L = 7) (hEN : q_EN sa s) (hl : lv_has ls 4 (law_l s b)) (hH : q_HR D s.heap.size sa s q_hp0 H) (hS : va_S (fun q => s.heap.size ≤ q) s.heap H locs) : LW p l e s m below meth cd b H locs 373 ls [] := by
  obtain ⟨hx, hb, hr, hml, hown, hts, hX, hbl, hlocks, hgv⟩ := id C0
  refine lv_aload_n hx hb dl_373 rfl (law_at hl 2 rfl) ?_
  refine law_arg (j := 1) C0 hL hl hS dl_374 dl_375 dl_376 dl_377 dl_378 (by decide) (by decide) ?_
  obtain ⟨x, hp1, hp2, e1, e2, n1, n2, n3, n4, t6⟩ := (show e_same 62 144 [.int (xs 1)] from e_use [xs 1] (by decide) (by decide) rfl ev_7)
  obtain ⟨vs6, t6⟩ := c_tag_some t6
  refine law_call (As := [.int (xs 1)]) (rest := []) (idx := (523, 45)) (ci := 5) (h := 0) C0 hEN (by decide) (by decide +kernel) (by decide) (by decide +kernel) (show (1 : Nat) = q_na 62 by decide +kernel) (by decide +kernel) e1 q_hp0_len.1 q_hp0_len.2 n1 n2 rfl hH hS hl.1 (by decide) dl_379 (fun H locs hH hS => ?_)
  refine lv_aload_n hx hb dl_382 rfl (law_at hl 1 rfl) ?_
  refine law_arg (j := 1) C0 hL hl hS dl_383 dl_384 dl_385 dl_386 dl_387 (by decide) (by decide) ?_
  refine law_call (As := [.int (xs 1)]) (rest := [.int x]) (idx := (1002, 48)) (ci := 6) (h := 133) C0 hEN (by decide) (by decide +kernel) (by decide) (by decide +kernel) (show (1 : Nat) = q_na 144 by decide +kernel) (by decide +kernel) e2 n1 n2 n3 n4 t6 hH hS hl.1 (by simp [Value.category]) dl_388 (fun H locs hH hS => ?_)
  refine lv_icmp_eq (tgt := 1322) hx hb dl_391 (by decide) (fun _ => ?_) (fun h => absurd rfl h)
  exact law_tail C0 (by omega) hl hS
theorem law_c8 (C0 : lw_At p s m meth cd b L xs) (hL : L = 7) (hEN : q_EN sa s) (hl : lv_has ls 4 (law_l s b)) (hH : q_HR D s.heap.size sa s q_hp0 H) (hS : va_S (fun q => s.heap.size ≤ q) s.heap H locs) : LW p l e s m below meth cd b H locs 396 ls [] := by
  obtain ⟨hx, hb, hr, hml, hown, hts, hX, hbl, hlocks, hgv⟩ := id C0
  refine lv_aload_n hx hb dl_396 rfl (law_at hl 2 rfl) ?_
  refine law_arg (j := 1) C0 hL hl hS dl_397 dl_398 dl_399 dl_400 dl_401 (by decide) (by decide) ?_
  obtain ⟨x, hp1, hp2, e1, e2, n1, n2, n3, n4, t6⟩ := (show e_same 63 145 [.int (xs 1)] from e_use [xs 1] (by decide) (by decide) rfl ev_8)
  obtain ⟨vs6, t6⟩ := c_tag_some t6
  refine law_call (As := [.int (xs 1)]) (rest := []) (idx := (536, 49)) (ci := 5) (h := 0) C0 hEN (by decide) (by decide +kernel) (by decide) (by decide +kernel) (show (1 : Nat) = q_na 63 by decide +kernel) (by decide +kernel) e1 q_hp0_len.1 q_hp0_len.2 n1 n2 rfl hH hS hl.1 (by decide) dl_402 (fun H locs hH hS => ?_)
  refine lv_aload_n hx hb dl_405 rfl (law_at hl 1 rfl) ?_
  refine law_arg (j := 1) C0 hL hl hS dl_406 dl_407 dl_408 dl_409 dl_410 (by decide) (by decide) ?_
  refine law_call (As := [.int (xs 1)]) (rest := [.int x]) (idx := (1007, 52)) (ci := 6) (h := 133) C0 hEN (by decide) (by decide +kernel) (by decide) (by decide +kernel) (show (1 : Nat) = q_na 145 by decide +kernel) (by decide +kernel) e2 n1 n2 n3 n4 t6 hH hS hl.1 (by simp [Value.category]) dl_411 (fun H locs hH hS => ?_)
  refine lv_icmp_eq (tgt := 1322) hx hb dl_414 (by decide) (fun _ => ?_) (fun h => absurd rfl h)
  exact law_tail C0 (by omega) hl hS
theorem law_c9 (C0 : lw_At p s m meth cd b L xs) (hL : L = 7) (hEN : q_EN sa s) (hl : lv_has ls 4 (law_l s b)) (hH : q_HR D s.heap.size sa s q_hp0 H) (hS : va_S (fun q => s.heap.size ≤ q) s.heap H locs) : LW p l e s m below meth cd b H locs 419 ls [] := by
  obtain ⟨hx, hb, hr, hml, hown, hts, hX, hbl, hlocks, hgv⟩ := id C0
  refine lv_aload_n hx hb dl_419 rfl (law_at hl 2 rfl) ?_
  refine law_arg (j := 1) C0 hL hl hS dl_420 dl_421 dl_422 dl_423 dl_424 (by decide) (by decide) ?_
  obtain ⟨x, hp1, hp2, e1, e2, n1, n2, n3, n4, t6⟩ := (show e_same 64 146 [.int (xs 1)] from e_use [xs 1] (by decide) (by decide) rfl ev_9)
  obtain ⟨vs6, t6⟩ := c_tag_some t6
  refine law_call (As := [.int (xs 1)]) (rest := []) (idx := (540, 53)) (ci := 5) (h := 0) C0 hEN (by decide) (by decide +kernel) (by decide) (by decide +kernel) (show (1 : Nat) = q_na 64 by decide +kernel) (by decide +kernel) e1 q_hp0_len.1 q_hp0_len.2 n1 n2 rfl hH hS hl.1 (by decide) dl_425 (fun H locs hH hS => ?_)
  refine lv_aload_n hx hb dl_428 rfl (law_at hl 1 rfl) ?_
  refine law_arg (j := 1) C0 hL hl hS dl_429 dl_430 dl_431 dl_432 dl_433 (by decide) (by decide) ?_
  refine law_call (As := [.int (xs 1)]) (rest := [.int x]) (idx := (1011, 56)) (ci := 6) (h := 133) C0 hEN (by decide) (by decide +kernel) (by decide) (by decide +kernel) (show (1 : Nat) = q_na 146 by decide +kernel) (by decide +kernel) e2 n1 n2 n3 n4 t6 hH hS hl.1 (by simp [Value.category]) dl_434 (fun H locs hH hS => ?_)
  refine lv_icmp_eq (tgt := 1322) hx hb dl_437 (by decide) (fun _ => ?_) (fun h => absurd rfl h)
  exact law_tail C0 (by omega) hl hS
theorem law_c10 (C0 : lw_At p s m meth cd b L xs) (hL : L = 7) (hEN : q_EN sa s) (hl : lv_has ls 4 (law_l s b)) (hH : q_HR D s.heap.size sa s q_hp0 H) (hS : va_S (fun q => s.heap.size ≤ q) s.heap H locs) : LW p l e s m below meth cd b H locs 442 ls [] := by
  obtain ⟨hx, hb, hr, hml, hown, hts, hX, hbl, hlocks, hgv⟩ := id C0
  refine lv_aload_n hx hb dl_442 rfl (law_at hl 2 rfl) ?_
  obtain ⟨x, hp1, hp2, e1, e2, n1, n2, n3, n4, t6⟩ := (show e_same 65 147 [] from e_use [] (by decide) (by decide) rfl ev_10)
  obtain ⟨vs6, t6⟩ := c_tag_some t6
  refine law_call (As := []) (rest := []) (idx := (549, 57)) (ci := 5) (h := 0) C0 hEN (by decide) (by decide +kernel) (by decide) (by decide +kernel) (show (0 : Nat) = q_na 65 by decide +kernel) (by decide +kernel) e1 q_hp0_len.1 q_hp0_len.2 n1 n2 rfl hH hS hl.1 (by decide) dl_443 (fun H locs hH hS => ?_)
  refine lv_aload_n hx hb dl_446 rfl (law_at hl 1 rfl) ?_
  refine law_call (As := []) (rest := [.int x]) (idx := (1015, 60)) (ci := 6) (h := 133) C0 hEN (by decide) (by decide +kernel) (by decide) (by decide +kernel) (show (0 : Nat) = q_na 147 by decide +kernel) (by decide +kernel) e2 n1 n2 n3 n4 t6 hH hS hl.1 (by simp [Value.category]) dl_447 (fun H locs hH hS => ?_)
  refine lv_icmp_eq (tgt := 1322) hx hb dl_450 (by decide) (fun _ => ?_) (fun h => absurd rfl h)
  exact law_tail C0 (by omega) hl hS
theorem law_c11 (C0 : lw_At p s m meth cd b L xs) (hL : L = 7) (hEN : q_EN sa s) (hl : lv_has ls 4 (law_l s b)) (hH : q_HR D s.heap.size sa s q_hp0 H) (hS : va_S (fun q => s.heap.size ≤ q) s.heap H locs) : LW p l e s m below meth cd b H locs 455 ls [] := by
  obtain ⟨hx, hb, hr, hml, hown, hts, hX, hbl, hlocks, hgv⟩ := id C0
  refine lv_aload_n hx hb dl_455 rfl (law_at hl 2 rfl) ?_
  refine law_arg (j := 1) C0 hL hl hS dl_456 dl_457 dl_458 dl_459 dl_460 (by decide) (by decide) ?_
  refine law_arg (j := 2) C0 hL hl hS dl_461 dl_462 dl_463 dl_464 dl_465 (by decide) (by decide) ?_
  obtain ⟨x, hp1, hp2, e1, e2, n1, n2, n3, n4, t6⟩ := (show e_same 66 148 [.int (xs 1), .int (xs 2)] from e_use [xs 1, xs 2] (by decide) (by decide) rfl ev_11)
  obtain ⟨vs6, t6⟩ := c_tag_some t6
  refine law_call (As := [.int (xs 1), .int (xs 2)]) (rest := []) (idx := (554, 61)) (ci := 5) (h := 0) C0 hEN (by decide) (by decide +kernel) (by decide) (by decide +kernel) (show (2 : Nat) = q_na 66 by decide +kernel) (by decide +kernel) e1 q_hp0_len.1 q_hp0_len.2 n1 n2 rfl hH hS hl.1 (by decide) dl_466 (fun H locs hH hS => ?_)
  refine lv_aload_n hx hb dl_469 rfl (law_at hl 1 rfl) ?_
  refine law_arg (j := 1) C0 hL hl hS dl_470 dl_471 dl_472 dl_473 dl_474 (by decide) (by decide) ?_
  refine law_arg (j := 2) C0 hL hl hS dl_475 dl_476 dl_477 dl_478 dl_479 (by decide) (by decide) ?_
  refine law_call (As := [.int (xs 1), .int (xs 2)]) (rest := [.int x]) (idx := (1019, 64)) (ci := 6) (h := 133) C0 hEN (by decide) (by decide +kernel) (by decide) (by decide +kernel) (show (2 : Nat) = q_na 148 by decide +kernel) (by decide +kernel) e2 n1 n2 n3 n4 t6 hH hS hl.1 (by simp [Value.category]) dl_480 (fun H locs hH hS => ?_)
  refine lv_icmp_eq (tgt := 1322) hx hb dl_483 (by decide) (fun _ => ?_) (fun h => absurd rfl h)
  exact law_tail C0 (by omega) hl hS
theorem law_c12 (C0 : lw_At p s m meth cd b L xs) (hL : L = 7) (hEN : q_EN sa s) (hl : lv_has ls 4 (law_l s b)) (hH : q_HR D s.heap.size sa s q_hp0 H) (hS : va_S (fun q => s.heap.size ≤ q) s.heap H locs) : LW p l e s m below meth cd b H locs 488 ls [] := by
  obtain ⟨hx, hb, hr, hml, hown, hts, hX, hbl, hlocks, hgv⟩ := id C0
  refine lv_aload_n hx hb dl_488 rfl (law_at hl 2 rfl) ?_
  refine law_arg (j := 1) C0 hL hl hS dl_489 dl_490 dl_491 dl_492 dl_493 (by decide) (by decide) ?_
  obtain ⟨x, hp1, hp2, e1, e2, n1, n2, n3, n4, t6⟩ := (show e_same 67 149 [.int (xs 1)] from e_use [xs 1] (by decide) (by decide) rfl ev_12)
  obtain ⟨vs6, t6⟩ := c_tag_some t6
  refine law_call (As := [.int (xs 1)]) (rest := []) (idx := (558, 65)) (ci := 5) (h := 0) C0 hEN (by decide) (by decide +kernel) (by decide) (by decide +kernel) (show (1 : Nat) = q_na 67 by decide +kernel) (by decide +kernel) e1 q_hp0_len.1 q_hp0_len.2 n1 n2 rfl hH hS hl.1 (by decide) dl_494 (fun H locs hH hS => ?_)
  refine lv_aload_n hx hb dl_497 rfl (law_at hl 1 rfl) ?_
  refine law_arg (j := 1) C0 hL hl hS dl_498 dl_499 dl_500 dl_501 dl_502 (by decide) (by decide) ?_
  refine law_call (As := [.int (xs 1)]) (rest := [.int x]) (idx := (1023, 68)) (ci := 6) (h := 133) C0 hEN (by decide) (by decide +kernel) (by decide) (by decide +kernel) (show (1 : Nat) = q_na 149 by decide +kernel) (by decide +kernel) e2 n1 n2 n3 n4 t6 hH hS hl.1 (by simp [Value.category]) dl_503 (fun H locs hH hS => ?_)
  refine lv_icmp_eq (tgt := 1322) hx hb dl_506 (by decide) (fun _ => ?_) (fun h => absurd rfl h)
  exact law_tail C0 (by omega) hl hS
theorem law_c13 (h_ev13 : ∀ z : Int32, e_same 68 150 [.int z]) (C0 : lw_At p s m meth cd b L xs) (hL : L = 7) (hEN : q_EN sa s) (hl : lv_has ls 4 (law_l s b)) (hH : q_HR D s.heap.size sa s q_hp0 H) (hS : va_S (fun q => s.heap.size ≤ q) s.heap H locs) : LW p l e s m below meth cd b H locs 511 ls [] := by
  obtain ⟨hx, hb, hr, hml, hown, hts, hX, hbl, hlocks, hgv⟩ := id C0
  refine lv_aload_n hx hb dl_511 rfl (law_at hl 2 rfl) ?_
  refine law_arg (j := 1) C0 hL hl hS dl_512 dl_513 dl_514 dl_515 dl_516 (by decide) (by decide) ?_
  obtain ⟨x, hp1, hp2, e1, e2, n1, n2, n3, n4, t6⟩ := (show e_same 68 150 [.int (xs 1)] from h_ev13 (xs 1))
  obtain ⟨vs6, t6⟩ := c_tag_some t6
  refine law_call (As := [.int (xs 1)]) (rest := []) (idx := (562, 69)) (ci := 5) (h := 0) C0 hEN (by decide) (by decide +kernel) (by decide) (by decide +kernel) (show (1 : Nat) = q_na 68 by decide +kernel) (by decide +kernel) e1 q_hp0_len.1 q_hp0_len.2 n1 n2 rfl hH hS hl.1 (by decide) dl_517 (fun H locs hH hS => ?_)
  refine lv_aload_n hx hb dl_520 rfl (law_at hl 1 rfl) ?_
  refine law_arg (j := 1) C0 hL hl hS dl_521 dl_522 dl_523 dl_524 dl_525 (by decide) (by decide) ?_
  refine law_call (As := [.int (xs 1)]) (rest := [.int x]) (idx := (1028, 72)) (ci := 6) (h := 133) C0 hEN (by decide) (by decide +kernel) (by decide) (by decide +kernel) (show (1 : Nat) = q_na 150 by decide +kernel) (by decide +kernel) e2 n1 n2 n3 n4 t6 hH hS hl.1 (by simp [Value.category]) dl_526 (fun H locs hH hS => ?_)
  refine lv_icmp_eq (tgt := 1322) hx hb dl_529 (by decide) (fun _ => ?_) (fun h => absurd rfl h)
  exact law_tail C0 (by omega) hl hS
theorem law_c14 (C0 : lw_At p s m meth cd b L xs) (hL : L = 7) (hEN : q_EN sa s) (hl : lv_has ls 4 (law_l s b)) (hH : q_HR D s.heap.size sa s q_hp0 H) (hS : va_S (fun q => s.heap.size ≤ q) s.heap H locs) : LW p l e s m below meth cd b H locs 534 ls [] := by
  obtain ⟨hx, hb, hr, hml, hown, hts, hX, hbl, hlocks, hgv⟩ := id C0
  refine lv_aload_n hx hb dl_534 rfl (law_at hl 2 rfl) ?_
  obtain ⟨x, hp1, hp2, e1, e2, n1, n2, n3, n4, t6⟩ := (show e_same 69 151 [] from e_use [] (by decide) (by decide) rfl ev_14)
  obtain ⟨vs6, t6⟩ := c_tag_some t6
  refine law_call (As := []) (rest := []) (idx := (573, 73)) (ci := 5) (h := 0) C0 hEN (by decide) (by decide +kernel) (by decide) (by decide +kernel) (show (0 : Nat) = q_na 69 by decide +kernel) (by decide +kernel) e1 q_hp0_len.1 q_hp0_len.2 n1 n2 rfl hH hS hl.1 (by decide) dl_535 (fun H locs hH hS => ?_)
  refine lv_aload_n hx hb dl_538 rfl (law_at hl 1 rfl) ?_
  refine law_call (As := []) (rest := [.int x]) (idx := (1036, 76)) (ci := 6) (h := 133) C0 hEN (by decide) (by decide +kernel) (by decide) (by decide +kernel) (show (0 : Nat) = q_na 151 by decide +kernel) (by decide +kernel) e2 n1 n2 n3 n4 t6 hH hS hl.1 (by simp [Value.category]) dl_539 (fun H locs hH hS => ?_)
  refine lv_icmp_eq (tgt := 1322) hx hb dl_542 (by decide) (fun _ => ?_) (fun h => absurd rfl h)
  exact law_tail C0 (by omega) hl hS
theorem law_c15 (C0 : lw_At p s m meth cd b L xs) (hL : L = 7) (hEN : q_EN sa s) (hl : lv_has ls 4 (law_l s b)) (hH : q_HR D s.heap.size sa s q_hp0 H) (hS : va_S (fun q => s.heap.size ≤ q) s.heap H locs) : LW p l e s m below meth cd b H locs 547 ls [] := by
  obtain ⟨hx, hb, hr, hml, hown, hts, hX, hbl, hlocks, hgv⟩ := id C0
  refine lv_aload_n hx hb dl_547 rfl (law_at hl 2 rfl) ?_
  refine law_arg (j := 1) C0 hL hl hS dl_548 dl_549 dl_550 dl_551 dl_552 (by decide) (by decide) ?_
  obtain ⟨x, hp1, hp2, e1, e2, n1, n2, n3, n4, t6⟩ := (show e_same 70 152 [.int (xs 1)] from e_use [xs 1] (by decide) (by decide) rfl ev_15)
  obtain ⟨vs6, t6⟩ := c_tag_some t6
  refine law_call (As := [.int (xs 1)]) (rest := []) (idx := (581, 77)) (ci := 5) (h := 0) C0 hEN (by decide) (by decide +kernel) (by decide) (by decide +kernel) (show (1 : Nat) = q_na 70 by decide +kernel) (by decide +kernel) e1 q_hp0_len.1 q_hp0_len.2 n1 n2 rfl hH hS hl.1 (by decide) dl_553 (fun H locs hH hS => ?_)
  refine lv_aload_n hx hb dl_556 rfl (law_at hl 1 rfl) ?_
  refine law_arg (j := 1) C0 hL hl hS dl_557 dl_558 dl_559 dl_560 dl_561 (by decide) (by decide) ?_
  refine law_call (As := [.int (xs 1)]) (rest := [.int x]) (idx := (1040, 80)) (ci := 6) (h := 133) C0 hEN (by decide) (by decide +kernel) (by decide) (by decide +kernel) (show (1 : Nat) = q_na 152 by decide +kernel) (by decide +kernel) e2 n1 n2 n3 n4 t6 hH hS hl.1 (by simp [Value.category]) dl_562 (fun H locs hH hS => ?_)
  refine lv_icmp_eq (tgt := 1322) hx hb dl_565 (by decide) (fun _ => ?_) (fun h => absurd rfl h)
  exact law_tail C0 (by omega) hl hS
theorem law_c16 (C0 : lw_At p s m meth cd b L xs) (hL : L = 7) (hEN : q_EN sa s) (hl : lv_has ls 4 (law_l s b)) (hH : q_HR D s.heap.size sa s q_hp0 H) (hS : va_S (fun q => s.heap.size ≤ q) s.heap H locs) : LW p l e s m below meth cd b H locs 570 ls [] := by
  obtain ⟨hx, hb, hr, hml, hown, hts, hX, hbl, hlocks, hgv⟩ := id C0
  refine lv_aload_n hx hb dl_570 rfl (law_at hl 2 rfl) ?_
  refine law_arg (j := 1) C0 hL hl hS dl_571 dl_572 dl_573 dl_574 dl_575 (by decide) (by decide) ?_
  obtain ⟨x, hp1, hp2, e1, e2, n1, n2, n3, n4, t6⟩ := (show e_same 71 156 [.int (xs 1)] from e_use [xs 1] (by decide) (by decide) rfl ev_16)
  obtain ⟨vs6, t6⟩ := c_tag_some t6
  refine law_call (As := [.int (xs 1)]) (rest := []) (idx := (585, 81)) (ci := 5) (h := 0) C0 hEN (by decide) (by decide +kernel) (by decide) (by decide +kernel) (show (1 : Nat) = q_na 71 by decide +kernel) (by decide +kernel) e1 q_hp0_len.1 q_hp0_len.2 n1 n2 rfl hH hS hl.1 (by decide) dl_576 (fun H locs hH hS => ?_)
  refine lv_aload_n hx hb dl_579 rfl (law_at hl 1 rfl) ?_
  refine law_arg (j := 1) C0 hL hl hS dl_580 dl_581 dl_582 dl_583 dl_584 (by decide) (by decide) ?_
  refine law_call (As := [.int (xs 1)]) (rest := [.int x]) (idx := (1044, 84)) (ci := 6) (h := 133) C0 hEN (by decide) (by decide +kernel) (by decide) (by decide +kernel) (show (1 : Nat) = q_na 156 by decide +kernel) (by decide +kernel) e2 n1 n2 n3 n4 t6 hH hS hl.1 (by simp [Value.category]) dl_585 (fun H locs hH hS => ?_)
  refine lv_icmp_eq (tgt := 1322) hx hb dl_588 (by decide) (fun _ => ?_) (fun h => absurd rfl h)
  exact law_tail C0 (by omega) hl hS
theorem law_c17 (C0 : lw_At p s m meth cd b L xs) (hL : L = 7) (hEN : q_EN sa s) (hl : lv_has ls 4 (law_l s b)) (hH : q_HR D s.heap.size sa s q_hp0 H) (hS : va_S (fun q => s.heap.size ≤ q) s.heap H locs) : LW p l e s m below meth cd b H locs 593 ls [] := by
  obtain ⟨hx, hb, hr, hml, hown, hts, hX, hbl, hlocks, hgv⟩ := id C0
  refine lv_aload_n hx hb dl_593 rfl (law_at hl 2 rfl) ?_
  refine law_arg (j := 1) C0 hL hl hS dl_594 dl_595 dl_596 dl_597 dl_598 (by decide) (by decide) ?_
  refine law_arg (j := 2) C0 hL hl hS dl_599 dl_600 dl_601 dl_602 dl_603 (by decide) (by decide) ?_
  refine law_arg (j := 3) C0 hL hl hS dl_604 dl_605 dl_606 dl_607 dl_608 (by decide) (by decide) ?_
  obtain ⟨x, hp1, hp2, e1, e2, n1, n2, n3, n4, t6⟩ := (show e_same 72 157 [.int (xs 1), .int (xs 2), .int (xs 3)] from e_use [xs 1, xs 2, xs 3] (by decide) (by decide) rfl ev_17)
  obtain ⟨vs6, t6⟩ := c_tag_some t6
  refine law_call (As := [.int (xs 1), .int (xs 2), .int (xs 3)]) (rest := []) (idx := (598, 85)) (ci := 5) (h := 0) C0 hEN (by decide) (by decide +kernel) (by decide) (by decide +kernel) (show (3 : Nat) = q_na 72 by decide +kernel) (by decide +kernel) e1 q_hp0_len.1 q_hp0_len.2 n1 n2 rfl hH hS hl.1 (by decide) dl_609 (fun H locs hH hS => ?_)
  refine lv_aload_n hx hb dl_612 rfl (law_at hl 1 rfl) ?_
  refine law_arg (j := 1) C0 hL hl hS dl_613 dl_614 dl_615 dl_616 dl_617 (by decide) (by decide) ?_
  refine law_arg (j := 2) C0 hL hl hS dl_618 dl_619 dl_620 dl_621 dl_622 (by decide) (by decide) ?_
  refine law_arg (j := 3) C0 hL hl hS dl_623 dl_624 dl_625 dl_626 dl_627 (by decide) (by decide) ?_
  refine law_call (As := [.int (xs 1), .int (xs 2), .int (xs 3)]) (rest := [.int x]) (idx := (1060, 88)) (ci := 6) (h := 133) C0 hEN (by decide) (by decide +kernel) (by decide) (by decide +kernel) (show (3 : Nat) = q_na 157 by decide +kernel) (by decide +kernel) e2 n1 n2 n3 n4 t6 hH hS hl.1 (by simp [Value.category]) dl_628 (fun H locs hH hS => ?_)
  refine lv_icmp_eq (tgt := 1322) hx hb dl_631 (by decide) (fun _ => ?_) (fun h => absurd rfl h)
  exact law_tail C0 (by omega) hl hS
theorem law_c18 (C0 : lw_At p s m meth cd b L xs) (hL : L = 7) (hEN : q_EN sa s) (hl : lv_has ls 4 (law_l s b)) (hH : q_HR D s.heap.size sa s q_hp0 H) (hS : va_S (fun q => s.heap.size ≤ q) s.heap H locs) : LW p l e s m below meth cd b H locs 636 ls [] := by
  obtain ⟨hx, hb, hr, hml, hown, hts, hX, hbl, hlocks, hgv⟩ := id C0
  refine lv_aload_n hx hb dl_636 rfl (law_at hl 2 rfl) ?_
  obtain ⟨x, hp1, hp2, e1, e2, n1, n2, n3, n4, t6⟩ := (show e_same 73 158 [] from e_use [] (by decide) (by decide) rfl ev_18)
  obtain ⟨vs6, t6⟩ := c_tag_some t6
  refine law_call (As := []) (rest := []) (idx := (602, 89)) (ci := 5) (h := 0) C0 hEN (by decide) (by decide +kernel) (by decide) (by decide +kernel) (show (0 : Nat) = q_na 73 by decide +kernel) (by decide +kernel) e1 q_hp0_len.1 q_hp0_len.2 n1 n2 rfl hH hS hl.1 (by decide) dl_637 (fun H locs hH hS => ?_)
  refine lv_aload_n hx hb dl_640 rfl (law_at hl 1 rfl) ?_
  refine law_call (As := []) (rest := [.int x]) (idx := (1065, 92)) (ci := 6) (h := 133) C0 hEN (by decide) (by decide +kernel) (by decide) (by decide +kernel) (show (0 : Nat) = q_na 158 by decide +kernel) (by decide +kernel) e2 n1 n2 n3 n4 t6 hH hS hl.1 (by simp [Value.category]) dl_641 (fun H locs hH hS => ?_)
  refine lv_icmp_eq (tgt := 1322) hx hb dl_644 (by decide) (fun _ => ?_) (fun h => absurd rfl h)
  exact law_tail C0 (by omega) hl hS
theorem law_c19 (C0 : lw_At p s m meth cd b L xs) (hL : L = 7) (hEN : q_EN sa s) (hl : lv_has ls 4 (law_l s b)) (hH : q_HR D s.heap.size sa s q_hp0 H) (hS : va_S (fun q => s.heap.size ≤ q) s.heap H locs) : LW p l e s m below meth cd b H locs 649 ls [] := by
  obtain ⟨hx, hb, hr, hml, hown, hts, hX, hbl, hlocks, hgv⟩ := id C0
  refine lv_aload_n hx hb dl_649 rfl (law_at hl 2 rfl) ?_
  refine law_arg (j := 1) C0 hL hl hS dl_650 dl_651 dl_652 dl_653 dl_654 (by decide) (by decide) ?_
  obtain ⟨x, hp1, hp2, e1, e2, n1, n2, n3, n4, t6⟩ := (show e_same 74 160 [.int (xs 1)] from e_use [xs 1] (by decide) (by decide) rfl ev_19)
  obtain ⟨vs6, t6⟩ := c_tag_some t6
  refine law_call (As := [.int (xs 1)]) (rest := []) (idx := (606, 93)) (ci := 5) (h := 0) C0 hEN (by decide) (by decide +kernel) (by decide) (by decide +kernel) (show (1 : Nat) = q_na 74 by decide +kernel) (by decide +kernel) e1 q_hp0_len.1 q_hp0_len.2 n1 n2 rfl hH hS hl.1 (by decide) dl_655 (fun H locs hH hS => ?_)
  refine lv_aload_n hx hb dl_658 rfl (law_at hl 1 rfl) ?_
  refine law_arg (j := 1) C0 hL hl hS dl_659 dl_660 dl_661 dl_662 dl_663 (by decide) (by decide) ?_
  refine law_call (As := [.int (xs 1)]) (rest := [.int x]) (idx := (1069, 96)) (ci := 6) (h := 133) C0 hEN (by decide) (by decide +kernel) (by decide) (by decide +kernel) (show (1 : Nat) = q_na 160 by decide +kernel) (by decide +kernel) e2 n1 n2 n3 n4 t6 hH hS hl.1 (by simp [Value.category]) dl_664 (fun H locs hH hS => ?_)
  refine lv_icmp_eq (tgt := 1322) hx hb dl_667 (by decide) (fun _ => ?_) (fun h => absurd rfl h)
  exact law_tail C0 (by omega) hl hS
theorem law_c20 (C0 : lw_At p s m meth cd b L xs) (hL : L = 7) (hEN : q_EN sa s) (hl : lv_has ls 4 (law_l s b)) (hH : q_HR D s.heap.size sa s q_hp0 H) (hS : va_S (fun q => s.heap.size ≤ q) s.heap H locs) : LW p l e s m below meth cd b H locs 672 ls [] := by
  obtain ⟨hx, hb, hr, hml, hown, hts, hX, hbl, hlocks, hgv⟩ := id C0
  refine lv_aload_n hx hb dl_672 rfl (law_at hl 2 rfl) ?_
  refine law_arg (j := 1) C0 hL hl hS dl_673 dl_674 dl_675 dl_676 dl_677 (by decide) (by decide) ?_
  refine law_arg (j := 2) C0 hL hl hS dl_678 dl_679 dl_680 dl_681 dl_682 (by decide) (by decide) ?_
  obtain ⟨x, hp1, hp2, e1, e2, n1, n2, n3, n4, t6⟩ := (show e_same 75 161 [.int (xs 1), .int (xs 2)] from e_use [xs 1, xs 2] (by decide) (by decide) rfl ev_20)
  obtain ⟨vs6, t6⟩ := c_tag_some t6
  refine law_call (As := [.int (xs 1), .int (xs 2)]) (rest := []) (idx := (610, 97)) (ci := 5) (h := 0) C0 hEN (by decide) (by decide +kernel) (by decide) (by decide +kernel) (show (2 : Nat) = q_na 75 by decide +kernel) (by decide +kernel) e1 q_hp0_len.1 q_hp0_len.2 n1 n2 rfl hH hS hl.1 (by decide) dl_683 (fun H locs hH hS => ?_)
  refine lv_aload_n hx hb dl_686 rfl (law_at hl 1 rfl) ?_
  refine law_arg (j := 1) C0 hL hl hS dl_687 dl_688 dl_689 dl_690 dl_691 (by decide) (by decide) ?_
  refine law_arg (j := 2) C0 hL hl hS dl_692 dl_693 dl_694 dl_695 dl_696 (by decide) (by decide) ?_
  refine law_call (As := [.int (xs 1), .int (xs 2)]) (rest := [.int x]) (idx := (1077, 100)) (ci := 6) (h := 133) C0 hEN (by decide) (by decide +kernel) (by decide) (by decide +kernel) (show (2 : Nat) = q_na 161 by decide +kernel) (by decide +kernel) e2 n1 n2 n3 n4 t6 hH hS hl.1 (by simp [Value.category]) dl_697 (fun H locs hH hS => ?_)
  refine lv_icmp_eq (tgt := 1322) hx hb dl_700 (by decide) (fun _ => ?_) (fun h => absurd rfl h)
  exact law_tail C0 (by omega) hl hS
theorem law_c21 (C0 : lw_At p s m meth cd b L xs) (hL : L = 7) (hEN : q_EN sa s) (hl : lv_has ls 4 (law_l s b)) (hH : q_HR D s.heap.size sa s q_hp0 H) (hS : va_S (fun q => s.heap.size ≤ q) s.heap H locs) : LW p l e s m below meth cd b H locs 705 ls [] := by
  obtain ⟨hx, hb, hr, hml, hown, hts, hX, hbl, hlocks, hgv⟩ := id C0
  refine lv_aload_n hx hb dl_705 rfl (law_at hl 2 rfl) ?_
  refine law_arg (j := 1) C0 hL hl hS dl_706 dl_707 dl_708 dl_709 dl_710 (by decide) (by decide) ?_
  refine law_arg (j := 2) C0 hL hl hS dl_711 dl_712 dl_713 dl_714 dl_715 (by decide) (by decide) ?_
  obtain ⟨x, hp1, hp2, e1, e2, n1, n2, n3, n4, t6⟩ := (show e_same 76 165 [.int (xs 1), .int (xs 2)] from e_use [xs 1, xs 2] (by decide) (by decide) rfl ev_21)
  obtain ⟨vs6, t6⟩ := c_tag_some t6
  refine law_call (As := [.int (xs 1), .int (xs 2)]) (rest := []) (idx := (618, 101)) (ci := 5) (h := 0) C0 hEN (by decide) (by decide +kernel) (by decide) (by decide +kernel) (show (2 : Nat) = q_na 76 by decide +kernel) (by decide +kernel) e1 q_hp0_len.1 q_hp0_len.2 n1 n2 rfl hH hS hl.1 (by decide) dl_716 (fun H locs hH hS => ?_)
  refine lv_aload_n hx hb dl_719 rfl (law_at hl 1 rfl) ?_
  refine law_arg (j := 1) C0 hL hl hS dl_720 dl_721 dl_722 dl_723 dl_724 (by decide) (by decide) ?_
  refine law_arg (j := 2) C0 hL hl hS dl_725 dl_726 dl_727 dl_728 dl_729 (by decide) (by decide) ?_
  refine law_call (As := [.int (xs 1), .int (xs 2)]) (rest := [.int x]) (idx := (1081, 104)) (ci := 6) (h := 133) C0 hEN (by decide) (by decide +kernel) (by decide) (by decide +kernel) (show (2 : Nat) = q_na 165 by decide +kernel) (by decide +kernel) e2 n1 n2 n3 n4 t6 hH hS hl.1 (by simp [Value.category]) dl_730 (fun H locs hH hS => ?_)
  refine lv_icmp_eq (tgt := 1322) hx hb dl_733 (by decide) (fun _ => ?_) (fun h => absurd rfl h)
  exact law_tail C0 (by omega) hl hS
theorem law_c22 (C0 : lw_At p s m meth cd b L xs) (hL : L = 7) (hEN : q_EN sa s) (hl : lv_has ls 4 (law_l s b)) (hH : q_HR D s.heap.size sa s q_hp0 H) (hS : va_S (fun q => s.heap.size ≤ q) s.heap H locs) : LW p l e s m below meth cd b H locs 738 ls [] := by
  obtain ⟨hx, hb, hr, hml, hown, hts, hX, hbl, hlocks, hgv⟩ := id C0
  refine lv_aload_n hx hb dl_738 rfl (law_at hl 2 rfl) ?_
  refine law_arg (j := 1) C0 hL hl hS dl_739 dl_740 dl_741 dl_742 dl_743 (by decide) (by decide) ?_
  refine law_arg (j := 2) C0 hL hl hS dl_744 dl_745 dl_746 dl_747 dl_748 (by decide) (by decide) ?_
  obtain ⟨x, hp1, hp2, e1, e2, n1, n2, n3, n4, t6⟩ := (show e_same 77 166 [.int (xs 1), .int (xs 2)] from e_use [xs 1, xs 2] (by decide) (by decide) rfl ev_22)
  obtain ⟨vs6, t6⟩ := c_tag_some t6
  refine law_call (As := [.int (xs 1), .int (xs 2)]) (rest := []) (idx := (649, 105)) (ci := 5) (h := 0) C0 hEN (by decide) (by decide +kernel) (by decide) (by decide +kernel) (show (2 : Nat) = q_na 77 by decide +kernel) (by decide +kernel) e1 q_hp0_len.1 q_hp0_len.2 n1 n2 rfl hH hS hl.1 (by decide) dl_749 (fun H locs hH hS => ?_)
  refine lv_aload_n hx hb dl_752 rfl (law_at hl 1 rfl) ?_
  refine law_arg (j := 1) C0 hL hl hS dl_753 dl_754 dl_755 dl_756 dl_757 (by decide) (by decide) ?_
  refine law_arg (j := 2) C0 hL hl hS dl_758 dl_759 dl_760 dl_761 dl_762 (by decide) (by decide) ?_
  refine law_call (As := [.int (xs 1), .int (xs 2)]) (rest := [.int x]) (idx := (1096, 108)) (ci := 6) (h := 133) C0 hEN (by decide) (by decide +kernel) (by decide) (by decide +kernel) (show (2 : Nat) = q_na 166 by decide +kernel) (by decide +kernel) e2 n1 n2 n3 n4 t6 hH hS hl.1 (by simp [Value.category]) dl_763 (fun H locs hH hS => ?_)
  refine lv_icmp_eq (tgt := 1322) hx hb dl_766 (by decide) (fun _ => ?_) (fun h => absurd rfl h)
  exact law_tail C0 (by omega) hl hS
theorem law_c23 (C0 : lw_At p s m meth cd b L xs) (hL : L = 7) (hEN : q_EN sa s) (hl : lv_has ls 4 (law_l s b)) (hH : q_HR D s.heap.size sa s q_hp0 H) (hS : va_S (fun q => s.heap.size ≤ q) s.heap H locs) : LW p l e s m below meth cd b H locs 771 ls [] := by
  obtain ⟨hx, hb, hr, hml, hown, hts, hX, hbl, hlocks, hgv⟩ := id C0
  refine lv_aload_n hx hb dl_771 rfl (law_at hl 2 rfl) ?_
  refine law_arg (j := 1) C0 hL hl hS dl_772 dl_773 dl_774 dl_775 dl_776 (by decide) (by decide) ?_
  obtain ⟨x, hp1, hp2, e1, e2, n1, n2, n3, n4, t6⟩ := (show e_same 78 167 [.int (xs 1)] from e_use [xs 1] (by decide) (by decide) rfl ev_23)
  obtain ⟨vs6, t6⟩ := c_tag_some t6
  refine law_call (As := [.int (xs 1)]) (rest := []) (idx := (654, 109)) (ci := 5) (h := 0) C0 hEN (by decide) (by decide +kernel) (by decide) (by decide +kernel) (show (1 : Nat) = q_na 78 by decide +kernel) (by decide +kernel) e1 q_hp0_len.1 q_hp0_len.2 n1 n2 rfl hH hS hl.1 (by decide) dl_777 (fun H locs hH hS => ?_)
  refine lv_aload_n hx hb dl_780 rfl (law_at hl 1 rfl) ?_
  refine law_arg (j := 1) C0 hL hl hS dl_781 dl_782 dl_783 dl_784 dl_785 (by decide) (by decide) ?_
  refine law_call (As := [.int (xs 1)]) (rest := [.int x]) (idx := (1100, 112)) (ci := 6) (h := 133) C0 hEN (by decide) (by decide +kernel) (by decide) (by decide +kernel) (show (1 : Nat) = q_na 167 by decide +kernel) (by decide +kernel) e2 n1 n2 n3 n4 t6 hH hS hl.1 (by simp [Value.category]) dl_786 (fun H locs hH hS => ?_)
  refine lv_icmp_eq (tgt := 1322) hx hb dl_789 (by decide) (fun _ => ?_) (fun h => absurd rfl h)
  exact law_tail C0 (by omega) hl hS
theorem law_c24 (C0 : lw_At p s m meth cd b L xs) (hL : L = 7) (hEN : q_EN sa s) (hl : lv_has ls 4 (law_l s b)) (hH : q_HR D s.heap.size sa s q_hp0 H) (hS : va_S (fun q => s.heap.size ≤ q) s.heap H locs) : LW p l e s m below meth cd b H locs 794 ls [] := by
  obtain ⟨hx, hb, hr, hml, hown, hts, hX, hbl, hlocks, hgv⟩ := id C0
  refine lv_aload_n hx hb dl_794 rfl (law_at hl 2 rfl) ?_
  refine law_arg (j := 1) C0 hL hl hS dl_795 dl_796 dl_797 dl_798 dl_799 (by decide) (by decide) ?_
  obtain ⟨x, hp1, hp2, e1, e2, n1, n2, n3, n4, t6⟩ := (show e_same 79 168 [.int (xs 1)] from e_use [xs 1] (by decide) (by decide) rfl ev_24)
  obtain ⟨vs6, t6⟩ := c_tag_some t6
  refine law_call (As := [.int (xs 1)]) (rest := []) (idx := (658, 113)) (ci := 5) (h := 0) C0 hEN (by decide) (by decide +kernel) (by decide) (by decide +kernel) (show (1 : Nat) = q_na 79 by decide +kernel) (by decide +kernel) e1 q_hp0_len.1 q_hp0_len.2 n1 n2 rfl hH hS hl.1 (by decide) dl_800 (fun H locs hH hS => ?_)
  refine lv_aload_n hx hb dl_803 rfl (law_at hl 1 rfl) ?_
  refine law_arg (j := 1) C0 hL hl hS dl_804 dl_805 dl_806 dl_807 dl_808 (by decide) (by decide) ?_
  refine law_call (As := [.int (xs 1)]) (rest := [.int x]) (idx := (1104, 116)) (ci := 6) (h := 133) C0 hEN (by decide) (by decide +kernel) (by decide) (by decide +kernel) (show (1 : Nat) = q_na 168 by decide +kernel) (by decide +kernel) e2 n1 n2 n3 n4 t6 hH hS hl.1 (by simp [Value.category]) dl_809 (fun H locs hH hS => ?_)
  refine lv_icmp_eq (tgt := 1322) hx hb dl_812 (by decide) (fun _ => ?_) (fun h => absurd rfl h)
  exact law_tail C0 (by omega) hl hS
theorem law_c25 (C0 : lw_At p s m meth cd b L xs) (hL : L = 7) (hEN : q_EN sa s) (hl : lv_has ls 4 (law_l s b)) (hH : q_HR D s.heap.size sa s q_hp0 H) (hS : va_S (fun q => s.heap.size ≤ q) s.heap H locs) : LW p l e s m below meth cd b H locs 817 ls [] := by
  obtain ⟨hx, hb, hr, hml, hown, hts, hX, hbl, hlocks, hgv⟩ := id C0
  refine lv_aload_n hx hb dl_817 rfl (law_at hl 2 rfl) ?_
  refine law_arg (j := 1) C0 hL hl hS dl_818 dl_819 dl_820 dl_821 dl_822 (by decide) (by decide) ?_
  refine law_arg (j := 2) C0 hL hl hS dl_823 dl_824 dl_825 dl_826 dl_827 (by decide) (by decide) ?_
  obtain ⟨x, hp1, hp2, e1, e2, n1, n2, n3, n4, t6⟩ := (show e_same 80 169 [.int (xs 1), .int (xs 2)] from e_use [xs 1, xs 2] (by decide) (by decide) rfl ev_25)
  obtain ⟨vs6, t6⟩ := c_tag_some t6
  refine law_call (As := [.int (xs 1), .int (xs 2)]) (rest := []) (idx := (673, 117)) (ci := 5) (h := 0) C0 hEN (by decide) (by decide +kernel) (by decide) (by decide +kernel) (show (2 : Nat) = q_na 80 by decide +kernel) (by decide +kernel) e1 q_hp0_len.1 q_hp0_len.2 n1 n2 rfl hH hS hl.1 (by decide) dl_828 (fun H locs hH hS => ?_)
  refine lv_aload_n hx hb dl_831 rfl (law_at hl 1 rfl) ?_
  refine law_arg (j := 1) C0 hL hl hS dl_832 dl_833 dl_834 dl_835 dl_836 (by decide) (by decide) ?_
  refine law_arg (j := 2) C0 hL hl hS dl_837 dl_838 dl_839 dl_840 dl_841 (by decide) (by decide) ?_
  refine law_call (As := [.int (xs 1), .int (xs 2)]) (rest := [.int x]) (idx := (1109, 120)) (ci := 6) (h := 133) C0 hEN (by decide) (by decide +kernel) (by decide) (by decide +kernel) (show (2 : Nat) = q_na 169 by decide +kernel) (by decide +kernel) e2 n1 n2 n3 n4 t6 hH hS hl.1 (by simp [Value.category]) dl_842 (fun H locs hH hS => ?_)
  refine lv_icmp_eq (tgt := 1322) hx hb dl_845 (by decide) (fun _ => ?_) (fun h => absurd rfl h)
  exact law_tail C0 (by omega) hl hS
theorem law_c26 (C0 : lw_At p s m meth cd b L xs) (hL : L = 7) (hEN : q_EN sa s) (hl : lv_has ls 4 (law_l s b)) (hH : q_HR D s.heap.size sa s q_hp0 H) (hS : va_S (fun q => s.heap.size ≤ q) s.heap H locs) : LW p l e s m below meth cd b H locs 850 ls [] := by
  obtain ⟨hx, hb, hr, hml, hown, hts, hX, hbl, hlocks, hgv⟩ := id C0
  refine lv_aload_n hx hb dl_850 rfl (law_at hl 2 rfl) ?_
  refine law_arg (j := 1) C0 hL hl hS dl_851 dl_852 dl_853 dl_854 dl_855 (by decide) (by decide) ?_
  refine law_arg (j := 2) C0 hL hl hS dl_856 dl_857 dl_858 dl_859 dl_860 (by decide) (by decide) ?_
  refine law_arg (j := 3) C0 hL hl hS dl_861 dl_862 dl_863 dl_864 dl_865 (by decide) (by decide) ?_
  obtain ⟨x, hp1, hp2, e1, e2, n1, n2, n3, n4, t6⟩ := (show e_same 81 170 [.int (xs 1), .int (xs 2), .int (xs 3)] from e_use [xs 1, xs 2, xs 3] (by decide) (by decide) rfl ev_26)
  obtain ⟨vs6, t6⟩ := c_tag_some t6
  refine law_call (As := [.int (xs 1), .int (xs 2), .int (xs 3)]) (rest := []) (idx := (678, 121)) (ci := 5) (h := 0) C0 hEN (by decide) (by decide +kernel) (by decide) (by decide +kernel) (show (3 : Nat) = q_na 81 by decide +kernel) (by decide +kernel) e1 q_hp0_len.1 q_hp0_len.2 n1 n2 rfl hH hS hl.1 (by decide) dl_866 (fun H locs hH hS => ?_)
  refine lv_aload_n hx hb dl_869 rfl (law_at hl 1 rfl) ?_
  refine law_arg (j := 1) C0 hL hl hS dl_870 dl_871 dl_872 dl_873 dl_874 (by decide) (by decide) ?_
  refine law_arg (j := 2) C0 hL hl hS dl_875 dl_876 dl_877 dl_878 dl_879 (by decide) (by decide) ?_
  refine law_arg (j := 3) C0 hL hl hS dl_880 dl_881 dl_882 dl_883 dl_884 (by decide) (by decide) ?_
  refine law_call (As := [.int (xs 1), .int (xs 2), .int (xs 3)]) (rest := [.int x]) (idx := (1113, 124)) (ci := 6) (h := 133) C0 hEN (by decide) (by decide +kernel) (by decide) (by decide +kernel) (show (3 : Nat) = q_na 170 by decide +kernel) (by decide +kernel) e2 n1 n2 n3 n4 t6 hH hS hl.1 (by simp [Value.category]) dl_885 (fun H locs hH hS => ?_)
  refine lv_icmp_eq (tgt := 1322) hx hb dl_888 (by decide) (fun _ => ?_) (fun h => absurd rfl h)
  exact law_tail C0 (by omega) hl hS
theorem law_c27 (C0 : lw_At p s m meth cd b L xs) (hL : L = 7) (hEN : q_EN sa s) (hl : lv_has ls 4 (law_l s b)) (hH : q_HR D s.heap.size sa s q_hp0 H) (hS : va_S (fun q => s.heap.size ≤ q) s.heap H locs) : LW p l e s m below meth cd b H locs 893 ls [] := by
  obtain ⟨hx, hb, hr, hml, hown, hts, hX, hbl, hlocks, hgv⟩ := id C0
  refine lv_aload_n hx hb dl_893 rfl (law_at hl 2 rfl) ?_
  refine law_arg (j := 1) C0 hL hl hS dl_894 dl_895 dl_896 dl_897 dl_898 (by decide) (by decide) ?_
  refine law_arg (j := 2) C0 hL hl hS dl_899 dl_900 dl_901 dl_902 dl_903 (by decide) (by decide) ?_
  refine law_arg (j := 3) C0 hL hl hS dl_904 dl_905 dl_906 dl_907 dl_908 (by decide) (by decide) ?_
  refine law_arg (j := 4) C0 hL hl hS dl_909 dl_910 dl_911 dl_912 dl_913 (by decide) (by decide) ?_
  refine law_arg (j := 5) C0 hL hl hS dl_914 dl_915 dl_916 dl_917 dl_918 (by decide) (by decide) ?_
  obtain ⟨x, hp1, hp2, e1, e2, n1, n2, n3, n4, t6⟩ := (show e_same 82 172 [.int (xs 1), .int (xs 2), .int (xs 3), .int (xs 4), .int (xs 5)] from e_use [xs 1, xs 2, xs 3, xs 4, xs 5] (by decide) (by decide) rfl ev_27)
  obtain ⟨vs6, t6⟩ := c_tag_some t6
  refine law_call (As := [.int (xs 1), .int (xs 2), .int (xs 3), .int (xs 4), .int (xs 5)]) (rest := []) (idx := (703, 125)) (ci := 5) (h := 0) C0 hEN (by decide) (by decide +kernel) (by decide) (by decide +kernel) (show (5 : Nat) = q_na 82 by decide +kernel) (by decide +kernel) e1 q_hp0_len.1 q_hp0_len.2 n1 n2 rfl hH hS hl.1 (by decide) dl_919 (fun H locs hH hS => ?_)
  refine lv_aload_n hx hb dl_922 rfl (law_at hl 1 rfl) ?_
  refine law_arg (j := 1) C0 hL hl hS dl_923 dl_924 dl_925 dl_926 dl_927 (by decide) (by decide) ?_
  refine law_arg (j := 2) C0 hL hl hS dl_928 dl_929 dl_930 dl_931 dl_932 (by decide) (by decide) ?_
  refine law_arg (j := 3) C0 hL hl hS dl_933 dl_934 dl_935 dl_936 dl_937 (by decide) (by decide) ?_
  refine law_arg (j := 4) C0 hL hl hS dl_938 dl_939 dl_940 dl_941 dl_942 (by decide) (by decide) ?_
  refine law_arg (j := 5) C0 hL hl hS dl_943 dl_944 dl_945 dl_946 dl_947 (by decide) (by decide) ?_
  refine law_call (As := [.int (xs 1), .int (xs 2), .int (xs 3), .int (xs 4), .int (xs 5)]) (rest := [.int x]) (idx := (1117, 129)) (ci := 6) (h := 133) C0 hEN (by decide) (by decide +kernel) (by decide) (by decide +kernel) (show (5 : Nat) = q_na 172 by decide +kernel) (by decide +kernel) e2 n1 n2 n3 n4 t6 hH hS hl.1 (by simp [Value.category]) dl_948 (fun H locs hH hS => ?_)
  refine lv_icmp_eq (tgt := 1322) hx hb dl_951 (by decide) (fun _ => ?_) (fun h => absurd rfl h)
  exact law_tail C0 (by omega) hl hS
theorem law_c28 (C0 : lw_At p s m meth cd b L xs) (hL : L = 7) (hEN : q_EN sa s) (hl : lv_has ls 4 (law_l s b)) (hH : q_HR D s.heap.size sa s q_hp0 H) (hS : va_S (fun q => s.heap.size ≤ q) s.heap H locs) : LW p l e s m below meth cd b H locs 956 ls [] := by
  obtain ⟨hx, hb, hr, hml, hown, hts, hX, hbl, hlocks, hgv⟩ := id C0
  refine lv_aload_n hx hb dl_956 rfl (law_at hl 2 rfl) ?_
  obtain ⟨x, hp1, hp2, e1, e2, n1, n2, n3, n4, t6⟩ := (show e_same 83 173 [] from e_use [] (by decide) (by decide) rfl ev_28)
  obtain ⟨vs6, t6⟩ := c_tag_some t6
  refine law_call (As := []) (rest := []) (idx := (724, 130)) (ci := 5) (h := 0) C0 hEN (by decide) (by decide +kernel) (by decide) (by decide +kernel) (show (0 : Nat) = q_na 83 by decide +kernel) (by decide +kernel) e1 q_hp0_len.1 q_hp0_len.2 n1 n2 rfl hH hS hl.1 (by decide) dl_957 (fun H locs hH hS => ?_)
  refine lv_aload_n hx hb dl_960 rfl (law_at hl 1 rfl) ?_
  refine law_call (As := []) (rest := [.int x]) (idx := (1127, 133)) (ci := 6) (h := 133) C0 hEN (by decide) (by decide +kernel) (by decide) (by decide +kernel) (show (0 : Nat) = q_na 173 by decide +kernel) (by decide +kernel) e2 n1 n2 n3 n4 t6 hH hS hl.1 (by simp [Value.category]) dl_961 (fun H locs hH hS => ?_)
  refine lv_icmp_eq (tgt := 1322) hx hb dl_964 (by decide) (fun _ => ?_) (fun h => absurd rfl h)
  exact law_tail C0 (by omega) hl hS
theorem law_c29 (C0 : lw_At p s m meth cd b L xs) (hL : L = 7) (hEN : q_EN sa s) (hl : lv_has ls 4 (law_l s b)) (hH : q_HR D s.heap.size sa s q_hp0 H) (hS : va_S (fun q => s.heap.size ≤ q) s.heap H locs) : LW p l e s m below meth cd b H locs 969 ls [] := by
  obtain ⟨hx, hb, hr, hml, hown, hts, hX, hbl, hlocks, hgv⟩ := id C0
  refine lv_aload_n hx hb dl_969 rfl (law_at hl 2 rfl) ?_
  obtain ⟨x, hp1, hp2, e1, e2, n1, n2, n3, n4, t6⟩ := (show e_same 84 174 [] from e_use [] (by decide) (by decide) rfl ev_29)
  obtain ⟨vs6, t6⟩ := c_tag_some t6
  refine law_call (As := []) (rest := []) (idx := (732, 134)) (ci := 5) (h := 0) C0 hEN (by decide) (by decide +kernel) (by decide) (by decide +kernel) (show (0 : Nat) = q_na 84 by decide +kernel) (by decide +kernel) e1 q_hp0_len.1 q_hp0_len.2 n1 n2 rfl hH hS hl.1 (by decide) dl_970 (fun H locs hH hS => ?_)
  refine lv_aload_n hx hb dl_973 rfl (law_at hl 1 rfl) ?_
  refine law_call (As := []) (rest := [.int x]) (idx := (1131, 137)) (ci := 6) (h := 133) C0 hEN (by decide) (by decide +kernel) (by decide) (by decide +kernel) (show (0 : Nat) = q_na 174 by decide +kernel) (by decide +kernel) e2 n1 n2 n3 n4 t6 hH hS hl.1 (by simp [Value.category]) dl_974 (fun H locs hH hS => ?_)
  refine lv_icmp_eq (tgt := 1322) hx hb dl_977 (by decide) (fun _ => ?_) (fun h => absurd rfl h)
  exact law_tail C0 (by omega) hl hS
theorem law_c30 (C0 : lw_At p s m meth cd b L xs) (hL : L = 7) (hEN : q_EN sa s) (hl : lv_has ls 4 (law_l s b)) (hH : q_HR D s.heap.size sa s q_hp0 H) (hS : va_S (fun q => s.heap.size ≤ q) s.heap H locs) : LW p l e s m below meth cd b H locs 982 ls [] := by
  obtain ⟨hx, hb, hr, hml, hown, hts, hX, hbl, hlocks, hgv⟩ := id C0
  refine lv_aload_n hx hb dl_982 rfl (law_at hl 2 rfl) ?_
  refine law_arg (j := 1) C0 hL hl hS dl_983 dl_984 dl_985 dl_986 dl_987 (by decide) (by decide) ?_
  refine law_arg (j := 2) C0 hL hl hS dl_988 dl_989 dl_990 dl_991 dl_992 (by decide) (by decide) ?_
  refine law_arg (j := 3) C0 hL hl hS dl_993 dl_994 dl_995 dl_996 dl_997 (by decide) (by decide) ?_
  refine law_arg (j := 4) C0 hL hl hS dl_998 dl_999 dl_1000 dl_1001 dl_1002 (by decide) (by decide) ?_
  refine law_arg (j := 5) C0 hL hl hS dl_1003 dl_1004 dl_1005 dl_1006 dl_1007 (by decide) (by decide) ?_
  refine law_arg6 C0 hL hl hS dl_1008 dl_1009 dl_1010 dl_1012 dl_1013 ?_
  obtain ⟨x, hp1, hp2, e1, e2, n1, n2, n3, n4, t6⟩ := (show e_same 85 183 [.int (xs 1), .int (xs 2), .int (xs 3), .int (xs 4), .int (xs 5), .int (xs 6)] from e_use [xs 1, xs 2, xs 3, xs 4, xs 5, xs 6] (by decide) (by decide) rfl ev_30)
  obtain ⟨vs6, t6⟩ := c_tag_some t6
  refine law_call (As := [.int (xs 1), .int (xs 2), .int (xs 3), .int (xs 4), .int (xs 5), .int (xs 6)]) (rest := []) (idx := (736, 138)) (ci := 5) (h := 0) C0 hEN (by decide) (by decide +kernel) (by decide) (by decide +kernel) (show (6 : Nat) = q_na 85 by decide +kernel) (by decide +kernel) e1 q_hp0_len.1 q_hp0_len.2 n1 n2 rfl hH hS hl.1 (by decide) dl_1014 (fun H locs hH hS => ?_)
  refine lv_aload_n hx hb dl_1017 rfl (law_at hl 1 rfl) ?_
  refine law_arg (j := 1) C0 hL hl hS dl_1018 dl_1019 dl_1020 dl_1021 dl_1022 (by decide) (by decide) ?_
  refine law_arg (j := 2) C0 hL hl hS dl_1023 dl_1024 dl_1025 dl_1026 dl_1027 (by decide) (by decide) ?_
  refine law_arg (j := 3) C0 hL hl hS dl_1028 dl_1029 dl_1030 dl_1031 dl_1032 (by decide) (by decide) ?_
  refine law_arg (j := 4) C0 hL hl hS dl_1033 dl_1034 dl_1035 dl_1036 dl_1037 (by decide) (by decide) ?_
  refine law_arg (j := 5) C0 hL hl hS dl_1038 dl_1039 dl_1040 dl_1041 dl_1042 (by decide) (by decide) ?_
  refine law_arg6 C0 hL hl hS dl_1043 dl_1044 dl_1045 dl_1047 dl_1048 ?_
  refine law_call (As := [.int (xs 1), .int (xs 2), .int (xs 3), .int (xs 4), .int (xs 5), .int (xs 6)]) (rest := [.int x]) (idx := (1161, 142)) (ci := 6) (h := 133) C0 hEN (by decide) (by decide +kernel) (by decide) (by decide +kernel) (show (6 : Nat) = q_na 183 by decide +kernel) (by decide +kernel) e2 n1 n2 n3 n4 t6 hH hS hl.1 (by simp [Value.category]) dl_1049 (fun H locs hH hS => ?_)
  refine lv_icmp_eq (tgt := 1322) hx hb dl_1052 (by decide) (fun _ => ?_) (fun h => absurd rfl h)
  exact law_tail C0 (by omega) hl hS
theorem law_c31 (C0 : lw_At p s m meth cd b L xs) (hL : L = 7) (hEN : q_EN sa s) (hl : lv_has ls 4 (law_l s b)) (hH : q_HR D s.heap.size sa s q_hp0 H) (hS : va_S (fun q => s.heap.size ≤ q) s.heap H locs) : LW p l e s m below meth cd b H locs 1057 ls [] := by
  obtain ⟨hx, hb, hr, hml, hown, hts, hX, hbl, hlocks, hgv⟩ := id C0
  refine lv_aload_n hx hb dl_1057 rfl (law_at hl 2 rfl) ?_
  refine law_arg (j := 1) C0 hL hl hS dl_1058 dl_1059 dl_1060 dl_1061 dl_1062 (by decide) (by decide) ?_
  refine law_arg (j := 2) C0 hL hl hS dl_1063 dl_1064 dl_1065 dl_1066 dl_1067 (by decide) (by decide) ?_
  refine law_arg (j := 3) C0 hL hl hS dl_1068 dl_1069 dl_1070 dl_1071 dl_1072 (by decide) (by decide) ?_
  refine law_arg (j := 4) C0 hL hl hS dl_1073 dl_1074 dl_1075 dl_1076 dl_1077 (by decide) (by decide) ?_
  obtain ⟨x, hp1, hp2, e1, e2, n1, n2, n3, n4, t6⟩ := (show e_same 86 184 [.int (xs 1), .int (xs 2), .int (xs 3), .int (xs 4)] from e_use [xs 1, xs 2, xs 3, xs 4] (by decide) (by decide) rfl ev_31)
  obtain ⟨vs6, t6⟩ := c_tag_some t6
  refine law_call (As := [.int (xs 1), .int (xs 2), .int (xs 3), .int (xs 4)]) (rest := []) (idx := (760, 143)) (ci := 5) (h := 0) C0 hEN (by decide) (by decide +kernel) (by decide) (by decide +kernel) (show (4 : Nat) = q_na 86 by decide +kernel) (by decide +kernel) e1 q_hp0_len.1 q_hp0_len.2 n1 n2 rfl hH hS hl.1 (by decide) dl_1078 (fun H locs hH hS => ?_)
  refine lv_aload_n hx hb dl_1081 rfl (law_at hl 1 rfl) ?_
  refine law_arg (j := 1) C0 hL hl hS dl_1082 dl_1083 dl_1084 dl_1085 dl_1086 (by decide) (by decide) ?_
  refine law_arg (j := 2) C0 hL hl hS dl_1087 dl_1088 dl_1089 dl_1090 dl_1091 (by decide) (by decide) ?_
  refine law_arg (j := 3) C0 hL hl hS dl_1092 dl_1093 dl_1094 dl_1095 dl_1096 (by decide) (by decide) ?_
  refine law_arg (j := 4) C0 hL hl hS dl_1097 dl_1098 dl_1099 dl_1100 dl_1101 (by decide) (by decide) ?_
  refine law_call (As := [.int (xs 1), .int (xs 2), .int (xs 3), .int (xs 4)]) (rest := [.int x]) (idx := (1170, 147)) (ci := 6) (h := 133) C0 hEN (by decide) (by decide +kernel) (by decide) (by decide +kernel) (show (4 : Nat) = q_na 184 by decide +kernel) (by decide +kernel) e2 n1 n2 n3 n4 t6 hH hS hl.1 (by simp [Value.category]) dl_1102 (fun H locs hH hS => ?_)
  refine lv_icmp_eq (tgt := 1322) hx hb dl_1105 (by decide) (fun _ => ?_) (fun h => absurd rfl h)
  exact law_tail C0 (by omega) hl hS
theorem law_c32 (C0 : lw_At p s m meth cd b L xs) (hL : L = 7) (hEN : q_EN sa s) (hl : lv_has ls 4 (law_l s b)) (hH : q_HR D s.heap.size sa s q_hp0 H) (hS : va_S (fun q => s.heap.size ≤ q) s.heap H locs) : LW p l e s m below meth cd b H locs 1110 ls [] := by
  obtain ⟨hx, hb, hr, hml, hown, hts, hX, hbl, hlocks, hgv⟩ := id C0
  refine lv_aload_n hx hb dl_1110 rfl (law_at hl 2 rfl) ?_
  refine law_arg (j := 1) C0 hL hl hS dl_1111 dl_1112 dl_1113 dl_1114 dl_1115 (by decide) (by decide) ?_
  refine law_arg (j := 2) C0 hL hl hS dl_1116 dl_1117 dl_1118 dl_1119 dl_1120 (by decide) (by decide) ?_
  refine law_arg (j := 3) C0 hL hl hS dl_1121 dl_1122 dl_1123 dl_1124 dl_1125 (by decide) (by decide) ?_
  obtain ⟨x, hp1, hp2, e1, e2, n1, n2, n3, n4, t6⟩ := (show e_same 87 177 [.int (xs 1), .int (xs 2), .int (xs 3)] from e_use [xs 1, xs 2, xs 3] (by decide) (by decide) rfl ev_32)
  obtain ⟨vs6, t6⟩ := c_tag_some t6
  refine law_call (As := [.int (xs 1), .int (xs 2), .int (xs 3)]) (rest := []) (idx := (768, 148)) (ci := 5) (h := 0) C0 hEN (by decide) (by decide +kernel) (by decide) (by decide +kernel) (show (3 : Nat) = q_na 87 by decide +kernel) (by decide +kernel) e1 q_hp0_len.1 q_hp0_len.2 n1 n2 rfl hH hS hl.1 (by decide) dl_1126 (fun H locs hH hS => ?_)
  refine lv_aload_n hx hb dl_1129 rfl (law_at hl 1 rfl) ?_
  refine law_arg (j := 1) C0 hL hl hS dl_1130 dl_1131 dl_1132 dl_1133 dl_1134 (by decide) (by decide) ?_
  refine law_arg (j := 2) C0 hL hl hS dl_1135 dl_1136 dl_1137 dl_1138 dl_1139 (by decide) (by decide) ?_
  refine law_arg (j := 3) C0 hL hl hS dl_1140 dl_1141 dl_1142 dl_1143 dl_1144 (by decide) (by decide) ?_
  refine law_call (As := [.int (xs 1), .int (xs 2), .int (xs 3)]) (rest := [.int x]) (idx := (1135, 151)) (ci := 6) (h := 133) C0 hEN (by decide) (by decide +kernel) (by decide) (by decide +kernel) (show (3 : Nat) = q_na 177 by decide +kernel) (by decide +kernel) e2 n1 n2 n3 n4 t6 hH hS hl.1 (by simp [Value.category]) dl_1145 (fun H locs hH hS => ?_)
  refine lv_icmp_eq (tgt := 1322) hx hb dl_1148 (by decide) (fun _ => ?_) (fun h => absurd rfl h)
  exact law_tail C0 (by omega) hl hS
theorem law_c33 (C0 : lw_At p s m meth cd b L xs) (hL : L = 7) (hEN : q_EN sa s) (hl : lv_has ls 4 (law_l s b)) (hH : q_HR D s.heap.size sa s q_hp0 H) (hS : va_S (fun q => s.heap.size ≤ q) s.heap H locs) : LW p l e s m below meth cd b H locs 1153 ls [] := by
  obtain ⟨hx, hb, hr, hml, hown, hts, hX, hbl, hlocks, hgv⟩ := id C0
  refine lv_aload_n hx hb dl_1153 rfl (law_at hl 2 rfl) ?_
  refine law_arg (j := 1) C0 hL hl hS dl_1154 dl_1155 dl_1156 dl_1157 dl_1158 (by decide) (by decide) ?_
  obtain ⟨x, hp1, hp2, e1, e2, n1, n2, n3, n4, t6⟩ := (show e_same 88 178 [.int (xs 1)] from e_use [xs 1] (by decide) (by decide) rfl ev_33)
  obtain ⟨vs6, t6⟩ := c_tag_some t6
  refine law_call (As := [.int (xs 1)]) (rest := []) (idx := (776, 152)) (ci := 5) (h := 0) C0 hEN (by decide) (by decide +kernel) (by decide) (by decide +kernel) (show (1 : Nat) = q_na 88 by decide +kernel) (by decide +kernel) e1 q_hp0_len.1 q_hp0_len.2 n1 n2 rfl hH hS hl.1 (by decide) dl_1159 (fun H locs hH hS => ?_)
  refine lv_aload_n hx hb dl_1162 rfl (law_at hl 1 rfl) ?_
  refine law_arg (j := 1) C0 hL hl hS dl_1163 dl_1164 dl_1165 dl_1166 dl_1167 (by decide) (by decide) ?_
  refine law_call (As := [.int (xs 1)]) (rest := [.int x]) (idx := (1142, 155)) (ci := 6) (h := 133) C0 hEN (by decide) (by decide +kernel) (by decide) (by decide +kernel) (show (1 : Nat) = q_na 178 by decide +kernel) (by decide +kernel) e2 n1 n2 n3 n4 t6 hH hS hl.1 (by simp [Value.category]) dl_1168 (fun H locs hH hS => ?_)
  refine lv_icmp_eq (tgt := 1322) hx hb dl_1171 (by decide) (fun _ => ?_) (fun h => absurd rfl h)
  exact law_tail C0 (by omega) hl hS
theorem law_c34 (C0 : lw_At p s m meth cd b L xs) (hL : L = 7) (hEN : q_EN sa s) (hl : lv_has ls 4 (law_l s b)) (hH : q_HR D s.heap.size sa s q_hp0 H) (hS : va_S (fun q => s.heap.size ≤ q) s.heap H locs) : LW p l e s m below meth cd b H locs 1176 ls [] := by
  obtain ⟨hx, hb, hr, hml, hown, hts, hX, hbl, hlocks, hgv⟩ := id C0
  refine lv_aload_n hx hb dl_1176 rfl (law_at hl 2 rfl) ?_
  refine law_arg (j := 1) C0 hL hl hS dl_1177 dl_1178 dl_1179 dl_1180 dl_1181 (by decide) (by decide) ?_
  refine law_arg (j := 2) C0 hL hl hS dl_1182 dl_1183 dl_1184 dl_1185 dl_1186 (by decide) (by decide) ?_
  refine law_arg (j := 3) C0 hL hl hS dl_1187 dl_1188 dl_1189 dl_1190 dl_1191 (by decide) (by decide) ?_
  refine law_arg (j := 4) C0 hL hl hS dl_1192 dl_1193 dl_1194 dl_1195 dl_1196 (by decide) (by decide) ?_
  refine lv_i2l hx hb dl_1197 rfl ?_
  refine lv_bipush (v := 32) hx hb dl_1198 (by decide) ?_
  refine lv_lshl hx hb dl_1200 rfl ?_
  refine law_arg (j := 5) C0 hL hl hS dl_1201 dl_1202 dl_1203 dl_1204 dl_1205 (by decide) (by decide) ?_
  refine lv_i2l hx hb dl_1206 rfl ?_
  refine lv_ldc2 (v := 4294967295) hx hb hown (hts (.constantLong R_law 156 4294967295) (by decide +kernel)) dl_1207 ?_
  refine lv_land hx hb dl_1210 ?_
  refine lv_lor hx hb dl_1211 ?_
  obtain ⟨x, hp1, hp2, e1, e2, n1, n2, n3, n4, t6⟩ := (show e_same 89 180 [.int (xs 1), .int (xs 2), .int (xs 3), .long ((((xs 4).toInt64 <<< ((32 : Int32).toInt64 &&& 63)) ||| ((xs 5).toInt64 &&& 4294967295)))] from e_useL [xs 1, xs 2, xs 3] (((xs 4).toInt64 <<< ((32 : Int32).toInt64 &&& 63)) ||| ((xs 5).toInt64 &&& 4294967295)) (by decide) (by decide) rfl ev_34)
  obtain ⟨vs6, t6⟩ := c_tag_some t6
  refine law_call (As := [.int (xs 1), .int (xs 2), .int (xs 3), .long ((((xs 4).toInt64 <<< ((32 : Int32).toInt64 &&& 63)) ||| ((xs 5).toInt64 &&& 4294967295)))]) (rest := []) (idx := (780, 158)) (ci := 5) (h := 0) C0 hEN (by decide) (by decide +kernel) (by decide) (by decide +kernel) (show (4 : Nat) = q_na 89 by decide +kernel) (by decide +kernel) e1 q_hp0_len.1 q_hp0_len.2 n1 n2 rfl hH hS hl.1 (by decide) dl_1212 (fun H locs hH hS => ?_)
  refine lv_aload_n hx hb dl_1215 rfl (law_at hl 1 rfl) ?_
  refine law_arg (j := 1) C0 hL hl hS dl_1216 dl_1217 dl_1218 dl_1219 dl_1220 (by decide) (by decide) ?_
  refine law_arg (j := 2) C0 hL hl hS dl_1221 dl_1222 dl_1223 dl_1224 dl_1225 (by decide) (by decide) ?_
  refine law_arg (j := 3) C0 hL hl hS dl_1226 dl_1227 dl_1228 dl_1229 dl_1230 (by decide) (by decide) ?_
  refine law_arg (j := 4) C0 hL hl hS dl_1231 dl_1232 dl_1233 dl_1234 dl_1235 (by decide) (by decide) ?_
  refine lv_i2l hx hb dl_1236 rfl ?_
  refine lv_bipush (v := 32) hx hb dl_1237 (by decide) ?_
  refine lv_lshl hx hb dl_1239 rfl ?_
  refine law_arg (j := 5) C0 hL hl hS dl_1240 dl_1241 dl_1242 dl_1243 dl_1244 (by decide) (by decide) ?_
  refine lv_i2l hx hb dl_1245 rfl ?_
  refine lv_ldc2 (v := 4294967295) hx hb hown (hts (.constantLong R_law 156 4294967295) (by decide +kernel)) dl_1246 ?_
  refine lv_land hx hb dl_1249 ?_
  refine lv_lor hx hb dl_1250 ?_
  refine law_call (As := [.int (xs 1), .int (xs 2), .int (xs 3), .long ((((xs 4).toInt64 <<< ((32 : Int32).toInt64 &&& 63)) ||| ((xs 5).toInt64 &&& 4294967295)))]) (rest := [.int x]) (idx := (1146, 162)) (ci := 6) (h := 133) C0 hEN (by decide) (by decide +kernel) (by decide) (by decide +kernel) (show (4 : Nat) = q_na 180 by decide +kernel) (by decide +kernel) e2 n1 n2 n3 n4 t6 hH hS hl.1 (by simp [Value.category]) dl_1251 (fun H locs hH hS => ?_)
  refine lv_icmp_eq (tgt := 1322) hx hb dl_1254 (by decide) (fun _ => ?_) (fun h => absurd rfl h)
  exact law_tail C0 (by omega) hl hS
theorem law_c35 (C0 : lw_At p s m meth cd b L xs) (hL : L = 7) (hEN : q_EN sa s) (hl : lv_has ls 4 (law_l s b)) (hH : q_HR D s.heap.size sa s q_hp0 H) (hS : va_S (fun q => s.heap.size ≤ q) s.heap H locs) : LW p l e s m below meth cd b H locs 1259 ls [] := by
  obtain ⟨hx, hb, hr, hml, hown, hts, hX, hbl, hlocks, hgv⟩ := id C0
  refine lv_aload_n hx hb dl_1259 rfl (law_at hl 2 rfl) ?_
  refine law_arg (j := 1) C0 hL hl hS dl_1260 dl_1261 dl_1262 dl_1263 dl_1264 (by decide) (by decide) ?_
  refine law_arg (j := 2) C0 hL hl hS dl_1265 dl_1266 dl_1267 dl_1268 dl_1269 (by decide) (by decide) ?_
  refine law_arg (j := 3) C0 hL hl hS dl_1270 dl_1271 dl_1272 dl_1273 dl_1274 (by decide) (by decide) ?_
  refine law_arg (j := 4) C0 hL hl hS dl_1275 dl_1276 dl_1277 dl_1278 dl_1279 (by decide) (by decide) ?_
  refine law_arg (j := 5) C0 hL hl hS dl_1280 dl_1281 dl_1282 dl_1283 dl_1284 (by decide) (by decide) ?_
  obtain ⟨x, hp1, hp2, e1, e2, n1, n2, n3, n4, t6⟩ := (show e_same 90 181 [.int (xs 1), .int (xs 2), .int (xs 3), .int (xs 4), .int (xs 5)] from e_use [xs 1, xs 2, xs 3, xs 4, xs 5] (by decide) (by decide) rfl ev_35)
  obtain ⟨vs6, t6⟩ := c_tag_some t6
  refine law_call (As := [.int (xs 1), .int (xs 2), .int (xs 3), .int (xs 4), .int (xs 5)]) (rest := []) (idx := (784, 163)) (ci := 5) (h := 0) C0 hEN (by decide) (by decide +kernel) (by decide) (by decide +kernel) (show (5 : Nat) = q_na 90 by decide +kernel) (by decide +kernel) e1 q_hp0_len.1 q_hp0_len.2 n1 n2 rfl hH hS hl.1 (by decide) dl_1285 (fun H locs hH hS => ?_)
  refine lv_aload_n hx hb dl_1288 rfl (law_at hl 1 rfl) ?_
  refine law_arg (j := 1) C0 hL hl hS dl_1289 dl_1290 dl_1291 dl_1292 dl_1293 (by decide) (by decide) ?_
  refine law_arg (j := 2) C0 hL hl hS dl_1294 dl_1295 dl_1296 dl_1297 dl_1298 (by decide) (by decide) ?_
  refine law_arg (j := 3) C0 hL hl hS dl_1299 dl_1300 dl_1301 dl_1302 dl_1303 (by decide) (by decide) ?_
  refine law_arg (j := 4) C0 hL hl hS dl_1304 dl_1305 dl_1306 dl_1307 dl_1308 (by decide) (by decide) ?_
  refine law_arg (j := 5) C0 hL hl hS dl_1309 dl_1310 dl_1311 dl_1312 dl_1313 (by decide) (by decide) ?_
  refine law_call (As := [.int (xs 1), .int (xs 2), .int (xs 3), .int (xs 4), .int (xs 5)]) (rest := [.int x]) (idx := (1157, 166)) (ci := 6) (h := 133) C0 hEN (by decide) (by decide +kernel) (by decide) (by decide +kernel) (show (5 : Nat) = q_na 181 by decide +kernel) (by decide +kernel) e2 n1 n2 n3 n4 t6 hH hS hl.1 (by simp [Value.category]) dl_1314 (fun H locs hH hS => ?_)
  refine lv_icmp_eq (tgt := 1322) hx hb dl_1317 (by decide) (fun _ => ?_) (fun h => absurd rfl h)
  exact law_tail C0 (by omega) hl hS
theorem law_turn (h_ev6 : ∀ z : Int32, e_same 61 143 [.int z]) (h_ev13 : ∀ z : Int32, e_same 68 150 [.int z]) (C0 : lw_At p s m meth cd b L xs) (hL : L = 7) (hEN : q_EN sa s) (hl : lv_has ls 4 (law_l s b)) (hH : q_HR D s.heap.size sa s q_hp0 H) (hS : va_S (fun q => s.heap.size ≤ q) s.heap H locs) : LW p l e s m below meth cd b H locs 27 ls [] := by
  obtain ⟨hx, hb, hr, hml, hown, hts, hX, hbl, hlocks, hgv⟩ := id C0
  have hbA : ¬ (fun q : Nat => s.heap.size ≤ q) b := Nat.not_le.mpr hbl
  refine lv_aload_n hx hb dl_27 rfl (law_at hl 3 rfl) ?_
  refine lv_iload_n hx hb dl_28 rfl (law_at hl 0 rfl) ?_
  refine va_sld (i := 0) hx hb hX hbl hbA hS (by rw [hL]; exact (vp_in_nI (n := 0) (N := 7) (by decide) (by decide))) dl_29 ?_
  refine lv_bipush (v := 63) hx hb dl_30 (by decide) ?_
  refine lv_iand hx hb dl_32 ?_
  obtain ⟨j, hj, ej⟩ := pk_andE (xs (0 : Int32).toNatClampNeg) (m := 63) 6 (by decide)
  rw [ej]
  have e9 : (nI j).toInt = (j : Int) := nI_toInt (by omega)
  by_cases c : 35 < j
  · exact lv_tableOut (tgt := 1322) hx hb dl_33 (Or.inr (by rw [e9]; omega)) (by decide) (law_tail C0 (by omega) hl hS)
  · have hv : j = 0 ∨ j = 1 ∨ j = 2 ∨ j = 3 ∨ j = 4 ∨ j = 5 ∨ j = 6 ∨ j = 7 ∨ j = 8 ∨ j = 9 ∨ j = 10 ∨ j = 11 ∨ j = 12 ∨ j = 13 ∨ j = 14 ∨ j = 15 ∨ j = 16 ∨ j = 17 ∨ j = 18 ∨ j = 19 ∨ j = 20 ∨ j = 21 ∨ j = 22 ∨ j = 23 ∨ j = 24 ∨ j = 25 ∨ j = 26 ∨ j = 27 ∨ j = 28 ∨ j = 29 ∨ j = 30 ∨ j = 31 ∨ j = 32 ∨ j = 33 ∨ j = 34 ∨ j = 35 := by omega
    rcases hv with rfl | rfl | rfl | rfl | rfl | rfl | rfl | rfl | rfl | rfl | rfl | rfl | rfl | rfl | rfl | rfl | rfl | rfl | rfl | rfl | rfl | rfl | rfl | rfl | rfl | rfl | rfl | rfl | rfl | rfl | rfl | rfl | rfl | rfl | rfl | rfl
    · exact lv_tableIn (off := 159) (tgt := 192) hx hb dl_33 (by decide) (by decide) (by decide) (by decide) (law_c0 C0 hL hEN hl hH hS)
    · exact lv_tableIn (off := 202) (tgt := 235) hx hb dl_33 (by decide) (by decide) (by decide) (by decide) (law_c1 C0 hL hEN hl hH hS)
    · exact lv_tableIn (off := 235) (tgt := 268) hx hb dl_33 (by decide) (by decide) (by decide) (by decide) (law_c2 C0 hL hEN hl hH hS)
    · exact lv_tableIn (off := 258) (tgt := 291) hx hb dl_33 (by decide) (by decide) (by decide) (by decide) (law_c3 C0 hL hEN hl hH hS)
    · exact lv_tableIn (off := 281) (tgt := 314) hx hb dl_33 (by decide) (by decide) (by decide) (by decide) (law_c4 C0 hL hEN hl hH hS)
    · exact lv_tableIn (off := 294) (tgt := 327) hx hb dl_33 (by decide) (by decide) (by decide) (by decide) (law_c5 C0 hL hEN hl hH hS)
    · exact lv_tableIn (off := 317) (tgt := 350) hx hb dl_33 (by decide) (by decide) (by decide) (by decide) (law_c6 h_ev6 C0 hL hEN hl hH hS)
    · exact lv_tableIn (off := 340) (tgt := 373) hx hb dl_33 (by decide) (by decide) (by decide) (by decide) (law_c7 C0 hL hEN hl hH hS)
    · exact lv_tableIn (off := 363) (tgt := 396) hx hb dl_33 (by decide) (by decide) (by decide) (by decide) (law_c8 C0 hL hEN hl hH hS)
    · exact lv_tableIn (off := 386) (tgt := 419) hx hb dl_33 (by decide) (by decide) (by decide) (by decide) (law_c9 C0 hL hEN hl hH hS)
    · exact lv_tableIn (off := 409) (tgt := 442) hx hb dl_33 (by decide) (by decide) (by decide) (by decide) (law_c10 C0 hL hEN hl hH hS)
    · exact lv_tableIn (off := 422) (tgt := 455) hx hb dl_33 (by decide) (by decide) (by decide) (by decide) (law_c11 C0 hL hEN hl hH hS)
    · exact lv_tableIn (off := 455) (tgt := 488) hx hb dl_33 (by decide) (by decide) (by decide) (by decide) (law_c12 C0 hL hEN hl hH hS)
    · exact lv_tableIn (off := 478) (tgt := 511) hx hb dl_33 (by decide) (by decide) (by decide) (by decide) (law_c13 h_ev13 C0 hL hEN hl hH hS)
    · exact lv_tableIn (off := 501) (tgt := 534) hx hb dl_33 (by decide) (by decide) (by decide) (by decide) (law_c14 C0 hL hEN hl hH hS)
    · exact lv_tableIn (off := 514) (tgt := 547) hx hb dl_33 (by decide) (by decide) (by decide) (by decide) (law_c15 C0 hL hEN hl hH hS)
    · exact lv_tableIn (off := 537) (tgt := 570) hx hb dl_33 (by decide) (by decide) (by decide) (by decide) (law_c16 C0 hL hEN hl hH hS)
    · exact lv_tableIn (off := 560) (tgt := 593) hx hb dl_33 (by decide) (by decide) (by decide) (by decide) (law_c17 C0 hL hEN hl hH hS)
    · exact lv_tableIn (off := 603) (tgt := 636) hx hb dl_33 (by decide) (by decide) (by decide) (by decide) (law_c18 C0 hL hEN hl hH hS)
    · exact lv_tableIn (off := 616) (tgt := 649) hx hb dl_33 (by decide) (by decide) (by decide) (by decide) (law_c19 C0 hL hEN hl hH hS)
    · exact lv_tableIn (off := 639) (tgt := 672) hx hb dl_33 (by decide) (by decide) (by decide) (by decide) (law_c20 C0 hL hEN hl hH hS)
    · exact lv_tableIn (off := 672) (tgt := 705) hx hb dl_33 (by decide) (by decide) (by decide) (by decide) (law_c21 C0 hL hEN hl hH hS)
    · exact lv_tableIn (off := 705) (tgt := 738) hx hb dl_33 (by decide) (by decide) (by decide) (by decide) (law_c22 C0 hL hEN hl hH hS)
    · exact lv_tableIn (off := 738) (tgt := 771) hx hb dl_33 (by decide) (by decide) (by decide) (by decide) (law_c23 C0 hL hEN hl hH hS)
    · exact lv_tableIn (off := 761) (tgt := 794) hx hb dl_33 (by decide) (by decide) (by decide) (by decide) (law_c24 C0 hL hEN hl hH hS)
    · exact lv_tableIn (off := 784) (tgt := 817) hx hb dl_33 (by decide) (by decide) (by decide) (by decide) (law_c25 C0 hL hEN hl hH hS)
    · exact lv_tableIn (off := 817) (tgt := 850) hx hb dl_33 (by decide) (by decide) (by decide) (by decide) (law_c26 C0 hL hEN hl hH hS)
    · exact lv_tableIn (off := 860) (tgt := 893) hx hb dl_33 (by decide) (by decide) (by decide) (by decide) (law_c27 C0 hL hEN hl hH hS)
    · exact lv_tableIn (off := 923) (tgt := 956) hx hb dl_33 (by decide) (by decide) (by decide) (by decide) (law_c28 C0 hL hEN hl hH hS)
    · exact lv_tableIn (off := 936) (tgt := 969) hx hb dl_33 (by decide) (by decide) (by decide) (by decide) (law_c29 C0 hL hEN hl hH hS)
    · exact lv_tableIn (off := 949) (tgt := 982) hx hb dl_33 (by decide) (by decide) (by decide) (by decide) (law_c30 C0 hL hEN hl hH hS)
    · exact lv_tableIn (off := 1024) (tgt := 1057) hx hb dl_33 (by decide) (by decide) (by decide) (by decide) (law_c31 C0 hL hEN hl hH hS)
    · exact lv_tableIn (off := 1077) (tgt := 1110) hx hb dl_33 (by decide) (by decide) (by decide) (by decide) (law_c32 C0 hL hEN hl hH hS)
    · exact lv_tableIn (off := 1120) (tgt := 1153) hx hb dl_33 (by decide) (by decide) (by decide) (by decide) (law_c33 C0 hL hEN hl hH hS)
    · exact lv_tableIn (off := 1143) (tgt := 1176) hx hb dl_33 (by decide) (by decide) (by decide) (by decide) (law_c34 C0 hL hEN hl hH hS)
    · exact lv_tableIn (off := 1226) (tgt := 1259) hx hb dl_33 (by decide) (by decide) (by decide) (by decide) (law_c35 C0 hL hEN hl hH hS)
theorem law_rm {x : Nat} (h : x ≤ 15) : 8 + (x + 11) + 40 * 7 ≤ 548 := by omega
theorem law_small0 : ∀ n, n < 7 → (Int32.ofNat n - 7 < 0) := by decide
theorem law_env (C0 : lw_At p s m meth cd b L xs) : ∃ sa, q_EN sa s := by
  obtain ⟨hx, hb, hr, hml, hown, hts, hX, hbl, hlocks, hgv⟩ := C0
  have hs := flat_of_before _ hgv
  obtain ⟨a1, _, _, _, q1, -⟩ := Cond.exactly_spec (args := #[Value.ref b]) (first := s) (o := none) (s := s) (idx := []) (t := .string "CarriedGate$Tape" 43) (cls := "java/lang/String") (hs _ (by decide +kernel))
  obtain ⟨a2, _, _, _, q2, -⟩ := Cond.exactly_spec (args := #[Value.ref b]) (first := s) (o := none) (s := s) (idx := []) (t := .string "CarriedGate$Tape" 74) (cls := "java/lang/String") (hs _ (by decide +kernel))
  obtain ⟨a3, _, _, _, q3, -⟩ := Cond.exactly_spec (args := #[Value.ref b]) (first := s) (o := none) (s := s) (idx := []) (t := .string "CarriedGate$Tape" 76) (cls := "java/lang/String") (hs _ (by decide +kernel))
  have hN : ∀ n ∈ q_nest, (Cond.methodLinkNest n.1 n.2.1 n.2.2.1 n.2.2.2) ∈ lw_tbl := by decide +kernel
  refine ⟨fun i => if i = 43 then a1 else if i = 74 then a2 else a3, fun n hn => va_tabs rfl rfl (hts _ (hN n hn)), va_AO.of (hts (.arrayOver (.object RX2)) (by decide +kernel)), va_AO.of (hts (.arrayOver (.object RX3)) (by decide +kernel)), fun n hn => ?_⟩
  have hn : n = ("CarriedGate$Tape", 43, "nesw") ∨ n = ("CarriedGate$Tape", 74, "gsthp") ∨ n = ("CarriedGate$Tape", 76, "nesw.") := by simpa [q_strs] using hn
  rcases hn with rfl | rfl | rfl
  · exact vk_R.of (hts (.stringRef "CarriedGate$Tape" 43 "nesw") (by decide +kernel)) q1
  · exact vk_R.of (hts (.stringRef "CarriedGate$Tape" 74 "gsthp") (by decide +kernel)) q2
  · exact vk_R.of (hts (.stringRef "CarriedGate$Tape" 76 "nesw.") (by decide +kernel)) q3
end q_law
theorem law_go {A B : q_H} (made1 : q_run q_CO q_I 1000000 8 54 [.ref 0] [(5, c_dfl 5 0)] = some (none, A)) (made2 : q_run q_CO q_I 1000000 8 109 [.ref 133] (A ++ [(6, c_dfl 6 0)]) = some (none, B)) (lA : A.length = 133 ∧ q_sl A = 1244) (lB : B.length = 146 ∧ q_sl B = 2652) {p : Program} {e : Env} {s : State} {m : MethodId} {below : List Frame} {meth : Method} {c : Code} (l : Launch) {b L : Nat} {xs : Nat → Int32} (hL : L ≤ 7) (C0 : lw_At p s m meth c b L xs) (hturn : ∀ (D : va_G) (sa : Nat → Nat) (ls : Array Slot) (H : Heap) (locs : List Loc), L = 7 → q_EN sa s → lv_has ls 4 (law_l s b) → q_HR D s.heap.size sa s B H → va_S (fun q => s.heap.size ≤ q) s.heap H locs → LW p l e s m below meth c b H locs 27 ls []) : W p l e room_1 s m #[Value.ref b] below meth c s.heap [] 0 0 (lw_Z below #[Value.ref b] s) (entryFrame m ([Value.ref b] : List Value).toArray 4) := by
  obtain ⟨hx, hb, hr, hml, hown, hts, hX, hbl, hlocks, hgv⟩ := id C0
  have hw : ∀ w ∈ q_good, w.before #[Value.ref b] s = true := fun w h => hts w (List.mem_filter.mp h).1
  have hA : ∀ q : Nat, s.heap.size ≤ q → (fun q : Nat => s.heap.size ≤ q) q := fun _ h => h
  obtain ⟨c0, iS0, hKn0⟩ := u_known (C := RX0) (T := TX0) (N := 3) (n := 3) hts qin_0 (hts (.instantiable RX0 3) (by decide +kernel))
  obtain ⟨c1, iS1, hKn1⟩ := u_known (C := RX1) (T := TX1) (N := 5) (n := 5) hts qin_1 (hts (.instantiable RX1 5) (by decide +kernel))
  obtain ⟨c2, iS2, hKn2⟩ := u_known (C := RX2) (T := TX2) (N := 12) (n := 12) hts qin_2 (hts (.instantiable RX2 12) (by decide +kernel))
  obtain ⟨c3, iS3, hKn3⟩ := u_known (C := RX3) (T := TX3) (N := 4) (n := 4) hts qin_3 (hts (.instantiable RX3 4) (by decide +kernel))
  obtain ⟨c4, iS4, hKn4⟩ := u_known (C := RX4) (T := TX4) (N := 4) (n := 4) hts qin_4 (hts (.instantiable RX4 4) (by decide +kernel))
  obtain ⟨c5, iS5, hKn5⟩ := u_known (C := RX5) (T := TX5) (N := 11) (n := 11) hts qin_5 (hts (.instantiable RX5 11) (by decide +kernel))
  obtain ⟨c6, iS6, hKn6⟩ := u_known (C := RX6) (T := TX6) (N := 22) (n := 22) hts qin_6 (hts (.instantiable RX6 22) (by decide +kernel))
  obtain ⟨D, hKc⟩ : ∃ D : va_G, ∀ (k : Nat) (q : vw_C), q_cl[k]? = some q → u_Kn s q.1 q.2.1 q.2.2 (D.1 k) (D.2 k) := by
    refine ⟨(fun k => match k with | 0 => c0 | 1 => c1 | 2 => c2 | 3 => c3 | 4 => c4 | 5 => c5 | _ => c6, fun k => match k with | 0 => iS0 | 1 => iS1 | 2 => iS2 | 3 => iS3 | 4 => iS4 | 5 => iS5 | _ => iS6), ?_⟩
    intro k q hq
    match k, hq with
    | 0, hq => cases hq; exact hKn0
    | 1, hq => cases hq; exact hKn1
    | 2, hq => cases hq; exact hKn2
    | 3, hq => cases hq; exact hKn3
    | 4, hq => cases hq; exact hKn4
    | 5, hq => cases hq; exact hKn5
    | 6, hq => cases hq; exact hKn6
    | k + 7, hq => simp [q_cl] at hq
  obtain ⟨sa, hEN⟩ : ∃ sa, q_EN sa s := law_env C0
  have hK : va_K D q_cl [] s := ⟨hKc, fun k q h => by simp at h⟩
  have hP : va_P D q_cl [] s.heap := fun k q h => by simp at h
  have hR : q_rel s.heap.size sa [] [] [] := ⟨rfl, fun h c hc => by simp at hc⟩
  have hS : va_S (fun q : Nat => s.heap.size ≤ q) s.heap s.heap [] := va_S.rf
  have hl := lv_entry ([.ref b]) (n := 4) (Nat.le_of_ble_eq_true rfl)
  rw [lg_entry_eq]
  generalize (lg_sl ([.ref b]) ++ List.replicate (4 - (lg_sl ([.ref b])).length) Slot.unset).toArray = ls at hl ⊢
  have hl : lv_has ls 4 [(0, .ref b)] := hl
  obtain ⟨m1, m2, m3, m4⟩ := q_sound l D s.heap.size sa 1000000 8 54 [.ref 0] [(5, c_dfl 5 0)] _ made1 (by decide)
  obtain ⟨m5, m6, m7, m8⟩ := q_sound l D s.heap.size sa 1000000 8 109 [.ref 133] (A ++ [(6, c_dfl 6 0)]) _ made2 (by decide)
  obtain ⟨⟨-, -, u2⟩, u3, u4, u5, u6, u7, u8, u9⟩ := q_ckw_get (Bool.and_eq_true_iff.mp (q_facts 54 (by decide))).2
  obtain ⟨⟨-, -, v2⟩, v3, v4, v5, v6, v7, v8, v9⟩ := q_ckw_get (Bool.and_eq_true_iff.mp (q_facts 109 (by decide))).2
  obtain ⟨u21, u22, u23⟩ := u2 (by decide +kernel)
  obtain ⟨v21, v22, v23⟩ := v2 (by decide +kernel)
  have hGw1 : ∀ w ∈ q_ws 54, w ∈ q_good := fun w hw => by
    rcases List.mem_cons.mp hw with rfl | hw
    · exact u4
    · exact hw
  have hGw2 : ∀ w ∈ q_ws 109, w ∈ q_good := fun w hw => by
    rcases List.mem_cons.mp hw with rfl | hw
    · exact v4
    · exact hw
  have s1 : q_sl [((5 : Nat), c_dfl 5 0)] = 11 := by decide
  have s2 : q_sl [((6 : Nat), c_dfl 6 0)] = 22 := by decide
  have s3 : q_sl (A ++ [((6 : Nat), c_dfl 6 0)]) = 1266 := by rw [q_sl_app, lA.2, s2]
  have l3 : (A ++ [((6 : Nat), c_dfl 6 0)]).length = 134 := by rw [List.length_append, lA.1]; rfl
  have t1 : ((none : Option Value), A).2.length - [((5 : Nat), c_dfl 5 0)].length = 132 := by show A.length - 1 = 132; rw [lA.1]
  have t2 : q_sl ((none : Option Value), A).2 - q_sl [((5 : Nat), c_dfl 5 0)] = 1233 := by rw [s1]; show q_sl A - 11 = _; rw [lA.2]
  have t3 : ((none : Option Value), B).2.length - (A ++ [((6 : Nat), c_dfl 6 0)]).length = 12 := by rw [l3]; show B.length - 134 = 12; rw [lB.1]
  have t4 : q_sl ((none : Option Value), B).2 - q_sl (A ++ [((6 : Nat), c_dfl 6 0)]) = 1386 := by rw [s3]; show q_sl B - _ = _; rw [lB.2]
  rw [t1, t2] at m4
  rw [t3, t4] at m8
  have d5 := q_dfl_ok 5 (by decide)
  have d6 := q_dfl_ok 6 (by decide)
  refine va_new (D := D) (ci := 5) (N := 11) hx hb hw (q_cin 5 (by decide)) (q_cY 5) (q_cYok 5 (by decide)) hown (hts (.classLink R_law 7 RX5) (by decide +kernel)) (hw _ (q_new_words 5 (by decide)).1) (hw _ (q_new_words 5 (by decide)).2) hK hP hR.D hS hA (q_cl_at 5 (by decide)) (fs := c_dfl 5 0) d5.2 (by decide) (by decide) dl_0 (fun q H hP1 hD1 hS1 => ?_)
  refine W_sz (fun hz => ?_)
  have hq := q_newat hR hP1 hD1 (by show H.size ≤ s.heap.size + 0 + 1; omega)
  subst hq
  have hR1 : q_rel s.heap.size sa ([] ++ []) [(5, c_dfl 5 0)] ([] ++ [(s.heap.size + 0, .inr (5, c_dfl 5 0))]) := hR.push rfl (Or.inl ⟨by decide, by rw [q_dfl_up _ _ 5 (by decide)]⟩)
  have hH1 : q_HR D s.heap.size sa s [(5, c_dfl 5 0)] H := ⟨_, _, hK, hP1, hR1⟩
  refine lv_dup hx hb dl_3 rfl ?_
  refine W_sz (fun hz => ?_)
  have hsz1 : H.size = s.heap.size + 1 := by have := hH1.le hS1.1; simp at this; omega
  refine q_callW (r' := (none, A)) (va_runI (As := []) (rest := [.ref (s.heap.size + 0)]) ⟨hx, hb, hml, hown, hw⟩ m4 (cwI 0 hw (q_GI hGw1) (show q_ws 54 = .code (q_mn 54) (q_mc 54) (q_I 54).1 none :: q_good by unfold q_ws; rw [u23]) rfl rfl (hw _ u3) (hts (.methodLink R_law 9 (q_mn 54)) (by decide +kernel)) (hw _ u21) u22 ⟨u6, u7, u8⟩ ⟨by decide, law_rm u9⟩) ⟨fun a U g mk q => ⟨q.1, q.2.1, q.2.2.1.moved (Vm.Alike.refl U.vm), q.2.2.2.same rfl⟩, fun U hU hW => ⟨rfl, by rw [hU]; exact hsz1, by rw [hU]; exact hH1.moved hW.alike, hEN.warm hW⟩⟩ rfl rfl hl.1 rfl (lv_room (by simp [Value.category])) dl_4 ⟨by decide, by decide⟩) hS1 (fun H locs hH2 hS2 => ?_)
  refine lv_astore_n (lv' := [(1, .ref s.heap.size), (0, .ref b)]) hx hb dl_7 rfl hl (by decide) rfl (fun ls hl => ?_)
  obtain ⟨ws2, tys2, hK2, hP2, hR2⟩ := hH2
  refine va_new (D := D) (ci := 6) (N := 22) hx hb hw (q_cin 6 (by decide)) (q_cY 6) (q_cYok 6 (by decide)) hown (hts (.classLink R_law 10 RX6) (by decide +kernel)) (hw _ (q_new_words 6 (by decide)).1) (hw _ (q_new_words 6 (by decide)).2) hK2 hP2 hR2.D hS2 hA (q_cl_at 6 (by decide)) (fs := c_dfl 6 0) d6.2 (by decide) (by decide) dl_8 (fun q H hP3 hD3 hS3 => ?_)
  refine W_sz (fun hz => ?_)
  have hq := q_newat hR2 hP3 hD3 (by show H.size ≤ s.heap.size + A.length + 1; rw [lA.1]; omega)
  subst hq
  have hR3 := hR2.push (t := []) rfl (c := (6, c_dfl 6 0)) (e := .inr (6, c_dfl 6 0)) (Or.inl ⟨by decide, by rw [q_dfl_up _ _ 6 (by decide)]⟩)
  have hH3 : q_HR D s.heap.size sa s (A ++ [(6, c_dfl 6 0)]) H := ⟨_, _, by rw [List.append_nil]; exact hK2, hP3, hR3⟩
  have eA : s.heap.size + ((none : Option Value), A).2.length = s.heap.size + 133 := by show s.heap.size + A.length = _; rw [lA.1]
  rw [eA]
  refine lv_dup hx hb dl_11 rfl ?_
  refine W_sz (fun hz => ?_)
  have hsz3 : H.size = s.heap.size + (A ++ [((6 : Nat), c_dfl 6 0)]).length := by have := hH3.le hS3.1; rw [l3] at this ⊢; omega
  refine q_callW (r' := (none, B)) (va_runI (As := []) (rest := [.ref (s.heap.size + 133)]) ⟨hx, hb, hml, hown, hw⟩ m8 (cwI 0 hw (q_GI hGw2) (show q_ws 109 = .code (q_mn 109) (q_mc 109) (q_I 109).1 none :: q_good by unfold q_ws; rw [v23]) rfl rfl (hw _ v3) (hts (.methodLink R_law 12 (q_mn 109)) (by decide +kernel)) (hw _ v21) v22 ⟨v6, v7, v8⟩ ⟨by decide, law_rm v9⟩) ⟨fun a U g mk q => ⟨q.1, q.2.1, q.2.2.1.moved (Vm.Alike.refl U.vm), q.2.2.2.same rfl⟩, fun U hU hW => ⟨rfl, by rw [hU]; exact hsz3, by rw [hU]; exact hH3.moved hW.alike, hEN.warm hW⟩⟩ rfl rfl hl.1 rfl (lv_room (by simp [Value.category])) dl_12 ⟨by decide, by decide⟩) hS3 (fun H locs hH4 hS4 => ?_)
  refine lv_astore_n (lv' := [(2, .ref (s.heap.size + 133)), (1, .ref s.heap.size), (0, .ref b)]) hx hb dl_15 rfl hl (by decide) rfl (fun ls hl => ?_)
  refine lv_iconst (v := 0) hx hb dl_16 (by decide) ?_
  refine lv_istore_n (lv' := law_l s b) hx hb dl_17 rfl hl (by decide) rfl (fun ls hl => ?_)
  by_cases h7 : L = 7
  · have hbA : ¬ (fun q : Nat => s.heap.size ≤ q) b := Nat.not_le.mpr hbl
    refine lv_iload_n hx hb dl_18 rfl (law_at hl 0 rfl) ?_
    refine lv_aload_n hx hb dl_19 rfl (law_at hl 3 rfl) ?_
    refine va_slen hx hb hX hbl hbA hS4 dl_20 ?_
    refine lv_bipush (v := 7) hx hb dl_21 (by decide) ?_
    refine lv_isub hx hb dl_23 ?_
    refine lv_icmp_gt (tgt := 1328) hx hb dl_24 (by decide) (fun h => absurd h (by rw [h7]; decide)) (fun _ => ?_)
    exact hturn D sa ls H locs h7 hEN hl hH4 hS4
  · exact law_out C0 hL (law_at hl 0 rfl) (law_at hl 3 rfl) (law_small0 L (by omega)) hS4
theorem q_hpA_len : q_hpA.length = 133 ∧ q_sl q_hpA = 1244 := by decide +kernel
theorem whole_start0 (h_ev6 : ∀ z : Int32, e_same 61 143 [.int z]) (h_ev13 : ∀ z : Int32, e_same 68 150 [.int z]) {p : Program} {e : Env} {s : State} {m : MethodId} {below : List Frame} {meth : Method} {c : Code} (l : Launch) {b L : Nat} {xs : Nat → Int32} (hL : L ≤ 7) (C0 : lw_At p s m meth c b L xs) : W p l e room_1 s m #[Value.ref b] below meth c s.heap [] 0 0 (lw_Z below #[Value.ref b] s) (entryFrame m ([Value.ref b] : List Value).toArray 4) := law_go q_made1 q_made2 q_hpA_len q_hp0_len l hL C0 (fun D sa ls H locs h7 hEN hl hH hS => law_turn h_ev6 h_ev13 C0 h7 hEN hl hH hS)

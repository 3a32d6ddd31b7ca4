theorem ev_24_0 : e_all (e_chk 79 168 []) [] [(0, -2147483648, -1)] = true := by decide +kernel
theorem ev_24_1 : e_all (e_chk 79 168 []) [] [(0, 0, 0)] = true := by decide +kernel
theorem ev_24_2 : e_all (e_chk 79 168 []) [] [(0, 1, 1)] = true := by decide +kernel
theorem ev_24_3 : e_all (e_chk 79 168 []) [] [(0, 2, 2)] = true := by decide +kernel
theorem ev_24_4 : e_all (e_chk 79 168 []) [] [(0, 3, 3)] = true := by decide +kernel
theorem ev_24_5 : e_all (e_chk 79 168 []) [] [(0, 4, 4)] = true := by decide +kernel
theorem ev_24_6 : e_all (e_chk 79 168 []) [] [(0, 5, 5)] = true := by decide +kernel
theorem ev_24_7 : e_all (e_chk 79 168 []) [] [(0, 6, 2147483647)] = true := by decide +kernel
theorem ev_24 : e_all (e_chk 79 168 []) [[0, 1, 2, 3, 4, 5, 6]] [] = true := by
  rw [e_all]
  refine List.all_eq_true.mpr ?_
  show ∀ p ∈ [((-2147483648 : Int), (-1 : Int)), ((0 : Int), (0 : Int)), ((1 : Int), (1 : Int)), ((2 : Int), (2 : Int)), ((3 : Int), (3 : Int)), ((4 : Int), (4 : Int)), ((5 : Int), (5 : Int)), ((6 : Int), (2147483647 : Int))], _
  exact List.forall_mem_cons.mpr ⟨ev_24_0, List.forall_mem_cons.mpr ⟨ev_24_1, List.forall_mem_cons.mpr ⟨ev_24_2, List.forall_mem_cons.mpr ⟨ev_24_3, List.forall_mem_cons.mpr ⟨ev_24_4, List.forall_mem_cons.mpr ⟨ev_24_5, List.forall_mem_cons.mpr ⟨ev_24_6, List.forall_mem_cons.mpr ⟨ev_24_7, fun _ h => absurd h List.not_mem_nil⟩⟩⟩⟩⟩⟩⟩⟩

theorem ev_19_0 : e_all (e_chk 74 160 []) [] [(0, -2147483648, -1)] = true := by decide +kernel
theorem ev_19_1 : e_all (e_chk 74 160 []) [] [(0, 0, 0)] = true := by decide +kernel
theorem ev_19_2 : e_all (e_chk 74 160 []) [] [(0, 1, 1)] = true := by decide +kernel
theorem ev_19_3 : e_all (e_chk 74 160 []) [] [(0, 2, 2)] = true := by decide +kernel
theorem ev_19_4 : e_all (e_chk 74 160 []) [] [(0, 3, 3)] = true := by decide +kernel
theorem ev_19_5 : e_all (e_chk 74 160 []) [] [(0, 4, 4)] = true := by decide +kernel
theorem ev_19_6 : e_all (e_chk 74 160 []) [] [(0, 5, 5)] = true := by decide +kernel
theorem ev_19_7 : e_all (e_chk 74 160 []) [] [(0, 6, 6)] = true := by decide +kernel
theorem ev_19_8 : e_all (e_chk 74 160 []) [] [(0, 7, 7)] = true := by decide +kernel
theorem ev_19_9 : e_all (e_chk 74 160 []) [] [(0, 8, 8)] = true := by decide +kernel
theorem ev_19_10 : e_all (e_chk 74 160 []) [] [(0, 9, 9)] = true := by decide +kernel
theorem ev_19_11 : e_all (e_chk 74 160 []) [] [(0, 10, 10)] = true := by decide +kernel
theorem ev_19_12 : e_all (e_chk 74 160 []) [] [(0, 11, 11)] = true := by decide +kernel
theorem ev_19_13 : e_all (e_chk 74 160 []) [] [(0, 12, 12)] = true := by decide +kernel
theorem ev_19_14 : e_all (e_chk 74 160 []) [] [(0, 13, 13)] = true := by decide +kernel
theorem ev_19_15 : e_all (e_chk 74 160 []) [] [(0, 14, 14)] = true := by decide +kernel
theorem ev_19_16 : e_all (e_chk 74 160 []) [] [(0, 15, 15)] = true := by decide +kernel
theorem ev_19_17 : e_all (e_chk 74 160 []) [] [(0, 16, 16)] = true := by decide +kernel
theorem ev_19_18 : e_all (e_chk 74 160 []) [] [(0, 17, 17)] = true := by decide +kernel
theorem ev_19_19 : e_all (e_chk 74 160 []) [] [(0, 18, 18)] = true := by decide +kernel
theorem ev_19_20 : e_all (e_chk 74 160 []) [] [(0, 19, 19)] = true := by decide +kernel
theorem ev_19_21 : e_all (e_chk 74 160 []) [] [(0, 20, 20)] = true := by decide +kernel
theorem ev_19_22 : e_all (e_chk 74 160 []) [] [(0, 21, 21)] = true := by decide +kernel
theorem ev_19_23 : e_all (e_chk 74 160 []) [] [(0, 22, 22)] = true := by decide +kernel
theorem ev_19_24 : e_all (e_chk 74 160 []) [] [(0, 23, 23)] = true := by decide +kernel
theorem ev_19_25 : e_all (e_chk 74 160 []) [] [(0, 24, 24)] = true := by decide +kernel
theorem ev_19_26 : e_all (e_chk 74 160 []) [] [(0, 25, 25)] = true := by decide +kernel
theorem ev_19_27 : e_all (e_chk 74 160 []) [] [(0, 26, 26)] = true := by decide +kernel
theorem ev_19_28 : e_all (e_chk 74 160 []) [] [(0, 27, 27)] = true := by decide +kernel
theorem ev_19_29 : e_all (e_chk 74 160 []) [] [(0, 28, 28)] = true := by decide +kernel
theorem ev_19_30 : e_all (e_chk 74 160 []) [] [(0, 29, 29)] = true := by decide +kernel
theorem ev_19_31 : e_all (e_chk 74 160 []) [] [(0, 30, 30)] = true := by decide +kernel
theorem ev_19_32 : e_all (e_chk 74 160 []) [] [(0, 31, 31)] = true := by decide +kernel
theorem ev_19_33 : e_all (e_chk 74 160 []) [] [(0, 32, 32)] = true := by decide +kernel
theorem ev_19_34 : e_all (e_chk 74 160 []) [] [(0, 33, 33)] = true := by decide +kernel
theorem ev_19_35 : e_all (e_chk 74 160 []) [] [(0, 34, 34)] = true := by decide +kernel
theorem ev_19_36 : e_all (e_chk 74 160 []) [] [(0, 35, 35)] = true := by decide +kernel
theorem ev_19_37 : e_all (e_chk 74 160 []) [] [(0, 36, 36)] = true := by decide +kernel
theorem ev_19_38 : e_all (e_chk 74 160 []) [] [(0, 37, 37)] = true := by decide +kernel
theorem ev_19_39 : e_all (e_chk 74 160 []) [] [(0, 38, 38)] = true := by decide +kernel
theorem ev_19_40 : e_all (e_chk 74 160 []) [] [(0, 39, 39)] = true := by decide +kernel
theorem ev_19_41 : e_all (e_chk 74 160 []) [] [(0, 40, 40)] = true := by decide +kernel
theorem ev_19_42 : e_all (e_chk 74 160 []) [] [(0, 41, 2147483647)] = true := by decide +kernel
theorem ev_19 : e_all (e_chk 74 160 []) [[0, 1, 2, 3, 4, 5, 6, 7, 8, 9, 10, 11, 12, 13, 14, 15, 16, 17, 18, 19, 20, 21, 22, 23, 24, 25, 26, 27, 28, 29, 30, 31, 32, 33, 34, 35, 36, 37, 38, 39, 40, 41]] [] = true := by
  rw [e_all]
  refine List.all_eq_true.mpr ?_
  show ∀ p ∈ [((-2147483648 : Int), (-1 : Int)), ((0 : Int), (0 : Int)), ((1 : Int), (1 : Int)), ((2 : Int), (2 : Int)), ((3 : Int), (3 : Int)), ((4 : Int), (4 : Int)), ((5 : Int), (5 : Int)), ((6 : Int), (6 : Int)), ((7 : Int), (7 : Int)), ((8 : Int), (8 : Int)), ((9 : Int), (9 : Int)), ((10 : Int), (10 : Int)), ((11 : Int), (11 : Int)), ((12 : Int), (12 : Int)), ((13 : Int), (13 : Int)), ((14 : Int), (14 : Int)), ((15 : Int), (15 : Int)), ((16 : Int), (16 : Int)), ((17 : Int), (17 : Int)), ((18 : Int), (18 : Int)), ((19 : Int), (19 : Int)), ((20 : Int), (20 : Int)), ((21 : Int), (21 : Int)), ((22 : Int), (22 : Int)), ((23 : Int), (23 : Int)), ((24 : Int), (24 : Int)), ((25 : Int), (25 : Int)), ((26 : Int), (26 : Int)), ((27 : Int), (27 : Int)), ((28 : Int), (28 : Int)), ((29 : Int), (29 : Int)), ((30 : Int), (30 : Int)), ((31 : Int), (31 : Int)), ((32 : Int), (32 : Int)), ((33 : Int), (33 : Int)), ((34 : Int), (34 : Int)), ((35 : Int), (35 : Int)), ((36 : Int), (36 : Int)), ((37 : Int), (37 : Int)), ((38 : Int), (38 : Int)), ((39 : Int), (39 : Int)), ((40 : Int), (40 : Int)), ((41 : Int), (2147483647 : Int))], _
  exact List.forall_mem_cons.mpr ⟨ev_19_0, List.forall_mem_cons.mpr ⟨ev_19_1, List.forall_mem_cons.mpr ⟨ev_19_2, List.forall_mem_cons.mpr ⟨ev_19_3, List.forall_mem_cons.mpr ⟨ev_19_4, List.forall_mem_cons.mpr ⟨ev_19_5, List.forall_mem_cons.mpr ⟨ev_19_6, List.forall_mem_cons.mpr ⟨ev_19_7, List.forall_mem_cons.mpr ⟨ev_19_8, List.forall_mem_cons.mpr ⟨ev_19_9, List.forall_mem_cons.mpr ⟨ev_19_10, List.forall_mem_cons.mpr ⟨ev_19_11, List.forall_mem_cons.mpr ⟨ev_19_12, List.forall_mem_cons.mpr ⟨ev_19_13, List.forall_mem_cons.mpr ⟨ev_19_14, List.forall_mem_cons.mpr ⟨ev_19_15, List.forall_mem_cons.mpr ⟨ev_19_16, List.forall_mem_cons.mpr ⟨ev_19_17, List.forall_mem_cons.mpr ⟨ev_19_18, List.forall_mem_cons.mpr ⟨ev_19_19, List.forall_mem_cons.mpr ⟨ev_19_20, List.forall_mem_cons.mpr ⟨ev_19_21, List.forall_mem_cons.mpr ⟨ev_19_22, List.forall_mem_cons.mpr ⟨ev_19_23, List.forall_mem_cons.mpr ⟨ev_19_24, List.forall_mem_cons.mpr ⟨ev_19_25, List.forall_mem_cons.mpr ⟨ev_19_26, List.forall_mem_cons.mpr ⟨ev_19_27, List.forall_mem_cons.mpr ⟨ev_19_28, List.forall_mem_cons.mpr ⟨ev_19_29, List.forall_mem_cons.mpr ⟨ev_19_30, List.forall_mem_cons.mpr ⟨ev_19_31, List.forall_mem_cons.mpr ⟨ev_19_32, List.forall_mem_cons.mpr ⟨ev_19_33, List.forall_mem_cons.mpr ⟨ev_19_34, List.forall_mem_cons.mpr ⟨ev_19_35, List.forall_mem_cons.mpr ⟨ev_19_36, List.forall_mem_cons.mpr ⟨ev_19_37, List.forall_mem_cons.mpr ⟨ev_19_38, List.forall_mem_cons.mpr ⟨ev_19_39, List.forall_mem_cons.mpr ⟨ev_19_40, List.forall_mem_cons.mpr ⟨ev_19_41, List.forall_mem_cons.mpr ⟨ev_19_42, fun _ h => absurd h List.not_mem_nil⟩⟩⟩⟩⟩⟩⟩⟩⟩⟩⟩⟩⟩⟩⟩⟩⟩⟩⟩⟩⟩⟩⟩⟩⟩⟩⟩⟩⟩⟩⟩⟩⟩⟩⟩⟩⟩⟩⟩⟩⟩⟩⟩

theorem ev_0 : e_all (e_chk 55 126 []) [[0, 5], [0, 36], [0, 21]] [] = true := by decide +kernel
theorem ev_1 : e_all (e_chk 56 127 []) [[0], []] [] = true := by decide +kernel
theorem ev_2 : e_all (e_chk 57 128 []) [[0, 1, 2, 3, 4, 5, 6, 7, 8, 9, 10, 11, 12, 13, 14, 15, 16, 17, 18, 19, 20, 21, 22, 23, 24, 25, 26, 27, 28, 29, 30, 31, 32, 33, 34, 35, 36]] [] = true := by decide +kernel
theorem ev_3 : e_all (e_chk 58 131 []) [[32, 127]] [] = true := by decide +kernel
theorem ev_4 : e_all (e_chk 59 141 []) [] [] = true := by decide +kernel
theorem ev_5 : e_all (e_chk 60 130 []) [[0, 1, 2, 3, 4, 5, 6, 7, 8, 9]] [] = true := by decide +kernel
theorem ev_7 : e_all (e_chk 62 144 []) [[0, 1, 2, 3, 4]] [] = true := by decide +kernel
theorem ev_8 : e_all (e_chk 63 145 []) [[0, 1, 4]] [] = true := by decide +kernel
theorem ev_9 : e_all (e_chk 64 146 []) [[0]] [] = true := by decide +kernel
theorem ev_10 : e_all (e_chk 65 147 []) [] [] = true := by decide +kernel
theorem ev_11 : e_all (e_chk 66 148 []) [[0], []] [] = true := by decide +kernel
theorem ev_12 : e_all (e_chk 67 149 []) [[0, 1, 64]] [] = true := by decide +kernel
theorem ev_14 : e_all (e_chk 69 151 []) [] [] = true := by decide +kernel
theorem ev_15 : e_all (e_chk 70 152 []) [[0]] [] = true := by decide +kernel
theorem ev_17 : e_all (e_chk 72 157 []) [[0], [], []] [] = true := by decide +kernel
theorem ev_18 : e_all (e_chk 73 158 []) [] [] = true := by decide +kernel
theorem ev_21 : e_all (e_chk 76 165 []) [[0, 1], [0, 3]] [] = true := by decide +kernel
theorem ev_22 : e_all (e_chk 77 166 []) [[0, 1], [0, 3]] [] = true := by decide +kernel
theorem ev_25 : e_all (e_chk 80 169 []) [[0, 1], [0, 1, 2]] [] = true := by decide +kernel
theorem ev_27 : e_all (e_chk 82 172 []) [[0], [], [], [], []] [] = true := by decide +kernel
theorem ev_28 : e_all (e_chk 83 173 []) [] [] = true := by decide +kernel
theorem ev_29 : e_all (e_chk 84 174 []) [] [] = true := by decide +kernel
theorem ev_30 : e_all (e_chk 85 183 []) [[0], [], [], [], [], []] [] = true := by decide +kernel
theorem ev_31 : e_all (e_chk 86 184 []) [[1, 25], [0, 1, 2, 3, 4], [0, 4], []] [] = true := by decide +kernel
theorem ev_33 : e_all (e_chk 88 178 []) [[0, 1, 2, 3, 4]] [] = true := by decide +kernel
theorem ev_34 : e_all (e_chk 89 180 [(1, -9223372036854775808, 9223372036854775807)]) [[0, 1, 2, 3, 4], [0, 4], []] [] = true := by decide +kernel
theorem ev_35 : e_all (e_chk 90 181 []) [[0, 1, 2, 3, 4], [], [0, 1, 2, 3, 4], [], []] [] = true := by decide +kernel

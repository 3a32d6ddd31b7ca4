theorem q_bs {n m : Nat} {x : Option q_MI} {mi : q_MI} (h : (bif Nat.blt n m then x else none) = some mi) : n < m := by
  cases hb : Nat.blt n m with
  | false => rw [hb] at h; cases h
  | true => exact Nat.lt_of_succ_le (Nat.le_of_ble_eq_true hb)
theorem q_lo_0 (n : Nat) (mi : q_MI) (h : q_I_0 n = some mi) : n < 51 := q_bs (m := 51) h
theorem q_lo_1 (n : Nat) (mi : q_MI) (h : q_I_1 n = some mi) : n < 57 := q_bs (m := 57) h
theorem q_lo_2 (n : Nat) (mi : q_MI) (h : q_I_2 n = some mi) : n < 42 := q_bs (m := 42) h
theorem q_lo_3 (n : Nat) (mi : q_MI) (h : q_I_3 n = some mi) : n < 6 := q_bs (m := 6) h
theorem q_lo_4 (n : Nat) (mi : q_MI) (h : q_I_4 n = some mi) : n < 46 := q_bs (m := 46) h
theorem q_lo_5 (n : Nat) (mi : q_MI) (h : q_I_5 n = some mi) : n < 30 := q_bs (m := 30) h
theorem q_lo_6 (n : Nat) (mi : q_MI) (h : q_I_6 n = some mi) : n < 6 := q_bs (m := 6) h
theorem q_lo_7 (n : Nat) (mi : q_MI) (h : q_I_7 n = some mi) : n < 44 := q_bs (m := 44) h
theorem q_lo_8 (n : Nat) (mi : q_MI) (h : q_I_8 n = some mi) : n < 35 := q_bs (m := 35) h
theorem q_lo_9 (n : Nat) (mi : q_MI) (h : q_I_9 n = some mi) : n < 82 := q_bs (m := 82) h
theorem q_lo_10 (n : Nat) (mi : q_MI) (h : q_I_10 n = some mi) : n < 132 := q_bs (m := 132) h
theorem q_lo_11 (n : Nat) (mi : q_MI) (h : q_I_11 n = some mi) : n < 75 := q_bs (m := 75) h
theorem q_lo_12 (n : Nat) (mi : q_MI) (h : q_I_12 n = some mi) : n < 24 := q_bs (m := 24) h
theorem q_lo_13 (n : Nat) (mi : q_MI) (h : q_I_13 n = some mi) : n < 20 := q_bs (m := 20) h
theorem q_lo_14 (n : Nat) (mi : q_MI) (h : q_I_14 n = some mi) : n < 13 := q_bs (m := 13) h
theorem q_lo_15 (n : Nat) (mi : q_MI) (h : q_I_15 n = some mi) : n < 26 := q_bs (m := 26) h
theorem q_lo_16 (n : Nat) (mi : q_MI) (h : q_I_16 n = some mi) : n < 72 := q_bs (m := 72) h
theorem q_lo_17 (n : Nat) (mi : q_MI) (h : q_I_17 n = some mi) : n < 98 := q_bs (m := 98) h
theorem q_lo_18 (n : Nat) (mi : q_MI) (h : q_I_18 n = some mi) : n < 14 := q_bs (m := 14) h
theorem q_lo_19 (n : Nat) (mi : q_MI) (h : q_I_19 n = some mi) : n < 13 := q_bs (m := 13) h
theorem q_lo_20 (n : Nat) (mi : q_MI) (h : q_I_20 n = some mi) : n < 183 := q_bs (m := 183) h
theorem q_lo_21 (n : Nat) (mi : q_MI) (h : q_I_21 n = some mi) : n < 21 := q_bs (m := 21) h
theorem q_lo_22 (n : Nat) (mi : q_MI) (h : q_I_22 n = some mi) : n < 34 := q_bs (m := 34) h
theorem q_lo_23 (n : Nat) (mi : q_MI) (h : q_I_23 n = some mi) : n < 16 := q_bs (m := 16) h
theorem q_lo_24 (n : Nat) (mi : q_MI) (h : q_I_24 n = some mi) : n < 29 := q_bs (m := 29) h
theorem q_lo_25 (n : Nat) (mi : q_MI) (h : q_I_25 n = some mi) : n < 41 := q_bs (m := 41) h
theorem q_lo_26 (n : Nat) (mi : q_MI) (h : q_I_26 n = some mi) : n < 18 := q_bs (m := 18) h
theorem q_lo_27 (n : Nat) (mi : q_MI) (h : q_I_27 n = some mi) : n < 41 := q_bs (m := 41) h
theorem q_lo_28 (n : Nat) (mi : q_MI) (h : q_I_28 n = some mi) : n < 85 := q_bs (m := 85) h
theorem q_lo_29 (n : Nat) (mi : q_MI) (h : q_I_29 n = some mi) : n < 53 := q_bs (m := 53) h
theorem q_lo_30 (n : Nat) (mi : q_MI) (h : q_I_30 n = some mi) : n < 80 := q_bs (m := 80) h
theorem q_lo_31 (n : Nat) (mi : q_MI) (h : q_I_31 n = some mi) : n < 64 := q_bs (m := 64) h
theorem q_lo_32 (n : Nat) (mi : q_MI) (h : q_I_32 n = some mi) : n < 42 := q_bs (m := 42) h
theorem q_lo_33 (n : Nat) (mi : q_MI) (h : q_I_33 n = some mi) : n < 48 := q_bs (m := 48) h
theorem q_lo_34 (n : Nat) (mi : q_MI) (h : q_I_34 n = some mi) : n < 33 := q_bs (m := 33) h
theorem q_lo_35 (n : Nat) (mi : q_MI) (h : q_I_35 n = some mi) : n < 28 := q_bs (m := 28) h
theorem q_lo_36 (n : Nat) (mi : q_MI) (h : q_I_36 n = some mi) : n < 37 := q_bs (m := 37) h
theorem q_lo_37 (n : Nat) (mi : q_MI) (h : q_I_37 n = some mi) : n < 37 := q_bs (m := 37) h
theorem q_lo_38 (n : Nat) (mi : q_MI) (h : q_I_38 n = some mi) : n < 32 := q_bs (m := 32) h
theorem q_lo_39 (n : Nat) (mi : q_MI) (h : q_I_39 n = some mi) : n < 21 := q_bs (m := 21) h
theorem q_lo_40 (n : Nat) (mi : q_MI) (h : q_I_40 n = some mi) : n < 31 := q_bs (m := 31) h
theorem q_lo_41 (n : Nat) (mi : q_MI) (h : q_I_41 n = some mi) : n < 48 := q_bs (m := 48) h
theorem q_lo_42 (n : Nat) (mi : q_MI) (h : q_I_42 n = some mi) : n < 28 := q_bs (m := 28) h
theorem q_lo_43 (n : Nat) (mi : q_MI) (h : q_I_43 n = some mi) : n < 40 := q_bs (m := 40) h
theorem q_lo_44 (n : Nat) (mi : q_MI) (h : q_I_44 n = some mi) : n < 103 := q_bs (m := 103) h
theorem q_lo_45 (n : Nat) (mi : q_MI) (h : q_I_45 n = some mi) : n < 43 := q_bs (m := 43) h
theorem q_lo_46 (n : Nat) (mi : q_MI) (h : q_I_46 n = some mi) : n < 107 := q_bs (m := 107) h
theorem q_lo_47 (n : Nat) (mi : q_MI) (h : q_I_47 n = some mi) : n < 16 := q_bs (m := 16) h
theorem q_lo_48 (n : Nat) (mi : q_MI) (h : q_I_48 n = some mi) : n < 46 := q_bs (m := 46) h
theorem q_lo_49 (n : Nat) (mi : q_MI) (h : q_I_49 n = some mi) : n < 29 := q_bs (m := 29) h
theorem q_lo_50 (n : Nat) (mi : q_MI) (h : q_I_50 n = some mi) : n < 29 := q_bs (m := 29) h
theorem q_lo_51 (n : Nat) (mi : q_MI) (h : q_I_51 n = some mi) : n < 44 := q_bs (m := 44) h
theorem q_lo_52 (n : Nat) (mi : q_MI) (h : q_I_52 n = some mi) : n < 109 := q_bs (m := 109) h
theorem q_lo_53 (n : Nat) (mi : q_MI) (h : q_I_53 n = some mi) : n < 18 := q_bs (m := 18) h
theorem q_lo_54 (n : Nat) (mi : q_MI) (h : q_I_54 n = some mi) : n < 135 := q_bs (m := 135) h
theorem q_lo_55 (n : Nat) (mi : q_MI) (h : q_I_55 n = some mi) : n < 62 := q_bs (m := 62) h
theorem q_lo_56 (n : Nat) (mi : q_MI) (h : q_I_56 n = some mi) : n < 150 := q_bs (m := 150) h
theorem q_lo_57 (n : Nat) (mi : q_MI) (h : q_I_57 n = some mi) : n < 22 := q_bs (m := 22) h
theorem q_lo_58 (n : Nat) (mi : q_MI) (h : q_I_58 n = some mi) : n < 39 := q_bs (m := 39) h
theorem q_lo_59 (n : Nat) (mi : q_MI) (h : q_I_59 n = some mi) : n < 66 := q_bs (m := 66) h
theorem q_lo_60 (n : Nat) (mi : q_MI) (h : q_I_60 n = some mi) : n < 126 := q_bs (m := 126) h
theorem q_lo_61 (n : Nat) (mi : q_MI) (h : q_I_61 n = some mi) : n < 70 := q_bs (m := 70) h
theorem q_lo_62 (n : Nat) (mi : q_MI) (h : q_I_62 n = some mi) : n < 51 := q_bs (m := 51) h
theorem q_lo_63 (n : Nat) (mi : q_MI) (h : q_I_63 n = some mi) : n < 51 := q_bs (m := 51) h
theorem q_lo_64 (n : Nat) (mi : q_MI) (h : q_I_64 n = some mi) : n < 72 := q_bs (m := 72) h
theorem q_lo_65 (n : Nat) (mi : q_MI) (h : q_I_65 n = some mi) : n < 43 := q_bs (m := 43) h
theorem q_lo_66 (n : Nat) (mi : q_MI) (h : q_I_66 n = some mi) : n < 62 := q_bs (m := 62) h
theorem q_lo_67 (n : Nat) (mi : q_MI) (h : q_I_67 n = some mi) : n < 48 := q_bs (m := 48) h
theorem q_lo_68 (n : Nat) (mi : q_MI) (h : q_I_68 n = some mi) : n < 77 := q_bs (m := 77) h
theorem q_lo_69 (n : Nat) (mi : q_MI) (h : q_I_69 n = some mi) : n < 27 := q_bs (m := 27) h
theorem q_lo_70 (n : Nat) (mi : q_MI) (h : q_I_70 n = some mi) : n < 24 := q_bs (m := 24) h
theorem q_lo_71 (n : Nat) (mi : q_MI) (h : q_I_71 n = some mi) : n < 24 := q_bs (m := 24) h
theorem q_lo_72 (n : Nat) (mi : q_MI) (h : q_I_72 n = some mi) : n < 84 := q_bs (m := 84) h
theorem q_lo_73 (n : Nat) (mi : q_MI) (h : q_I_73 n = some mi) : n < 47 := q_bs (m := 47) h
theorem q_lo_74 (n : Nat) (mi : q_MI) (h : q_I_74 n = some mi) : n < 24 := q_bs (m := 24) h
theorem q_lo_75 (n : Nat) (mi : q_MI) (h : q_I_75 n = some mi) : n < 80 := q_bs (m := 80) h
theorem q_lo_76 (n : Nat) (mi : q_MI) (h : q_I_76 n = some mi) : n < 87 := q_bs (m := 87) h
theorem q_lo_77 (n : Nat) (mi : q_MI) (h : q_I_77 n = some mi) : n < 77 := q_bs (m := 77) h
theorem q_lo_78 (n : Nat) (mi : q_MI) (h : q_I_78 n = some mi) : n < 68 := q_bs (m := 68) h
theorem q_lo_79 (n : Nat) (mi : q_MI) (h : q_I_79 n = some mi) : n < 87 := q_bs (m := 87) h
theorem q_lo_80 (n : Nat) (mi : q_MI) (h : q_I_80 n = some mi) : n < 113 := q_bs (m := 113) h
theorem q_lo_81 (n : Nat) (mi : q_MI) (h : q_I_81 n = some mi) : n < 60 := q_bs (m := 60) h
theorem q_lo_82 (n : Nat) (mi : q_MI) (h : q_I_82 n = some mi) : n < 167 := q_bs (m := 167) h
theorem q_lo_83 (n : Nat) (mi : q_MI) (h : q_I_83 n = some mi) : n < 29 := q_bs (m := 29) h
theorem q_lo_84 (n : Nat) (mi : q_MI) (h : q_I_84 n = some mi) : n < 34 := q_bs (m := 34) h
theorem q_lo_85 (n : Nat) (mi : q_MI) (h : q_I_85 n = some mi) : n < 206 := q_bs (m := 206) h
theorem q_lo_86 (n : Nat) (mi : q_MI) (h : q_I_86 n = some mi) : n < 109 := q_bs (m := 109) h
theorem q_lo_87 (n : Nat) (mi : q_MI) (h : q_I_87 n = some mi) : n < 44 := q_bs (m := 44) h
theorem q_lo_88 (n : Nat) (mi : q_MI) (h : q_I_88 n = some mi) : n < 45 := q_bs (m := 45) h
theorem q_lo_89 (n : Nat) (mi : q_MI) (h : q_I_89 n = some mi) : n < 54 := q_bs (m := 54) h
theorem q_lo_90 (n : Nat) (mi : q_MI) (h : q_I_90 n = some mi) : n < 116 := q_bs (m := 116) h
theorem q_lo_91 (n : Nat) (mi : q_MI) (h : q_I_91 n = some mi) : n < 15 := q_bs (m := 15) h
theorem q_lo_92 (n : Nat) (mi : q_MI) (h : q_I_92 n = some mi) : n < 10 := q_bs (m := 10) h
theorem q_lo_93 (n : Nat) (mi : q_MI) (h : q_I_93 n = some mi) : n < 20 := q_bs (m := 20) h
theorem q_lo_94 (n : Nat) (mi : q_MI) (h : q_I_94 n = some mi) : n < 35 := q_bs (m := 35) h
theorem q_lo_95 (n : Nat) (mi : q_MI) (h : q_I_95 n = some mi) : n < 169 := q_bs (m := 169) h
theorem q_lo_96 (n : Nat) (mi : q_MI) (h : q_I_96 n = some mi) : n < 49 := q_bs (m := 49) h
theorem q_lo_97 (n : Nat) (mi : q_MI) (h : q_I_97 n = some mi) : n < 96 := q_bs (m := 96) h
theorem q_lo_98 (n : Nat) (mi : q_MI) (h : q_I_98 n = some mi) : n < 27 := q_bs (m := 27) h
theorem q_lo_99 (n : Nat) (mi : q_MI) (h : q_I_99 n = some mi) : n < 23 := q_bs (m := 23) h
theorem q_lo_100 (n : Nat) (mi : q_MI) (h : q_I_100 n = some mi) : n < 34 := q_bs (m := 34) h
theorem q_lo_101 (n : Nat) (mi : q_MI) (h : q_I_101 n = some mi) : n < 51 := q_bs (m := 51) h
theorem q_lo_102 (n : Nat) (mi : q_MI) (h : q_I_102 n = some mi) : n < 35 := q_bs (m := 35) h
theorem q_lo_103 (n : Nat) (mi : q_MI) (h : q_I_103 n = some mi) : n < 62 := q_bs (m := 62) h
theorem q_lo_104 (n : Nat) (mi : q_MI) (h : q_I_104 n = some mi) : n < 55 := q_bs (m := 55) h
theorem q_lo_105 (n : Nat) (mi : q_MI) (h : q_I_105 n = some mi) : n < 40 := q_bs (m := 40) h
theorem q_lo_106 (n : Nat) (mi : q_MI) (h : q_I_106 n = some mi) : n < 37 := q_bs (m := 37) h
theorem q_lo_107 (n : Nat) (mi : q_MI) (h : q_I_107 n = some mi) : n < 44 := q_bs (m := 44) h
theorem q_lo_108 (n : Nat) (mi : q_MI) (h : q_I_108 n = some mi) : n < 19 := q_bs (m := 19) h
theorem q_lo_109 (n : Nat) (mi : q_MI) (h : q_I_109 n = some mi) : n < 151 := q_bs (m := 151) h
theorem q_lo_110 (n : Nat) (mi : q_MI) (h : q_I_110 n = some mi) : n < 16 := q_bs (m := 16) h
theorem q_lo_111 (n : Nat) (mi : q_MI) (h : q_I_111 n = some mi) : n < 10 := q_bs (m := 10) h
theorem q_lo_112 (n : Nat) (mi : q_MI) (h : q_I_112 n = some mi) : n < 100 := q_bs (m := 100) h
theorem q_lo_113 (n : Nat) (mi : q_MI) (h : q_I_113 n = some mi) : n < 15 := q_bs (m := 15) h
theorem q_lo_114 (n : Nat) (mi : q_MI) (h : q_I_114 n = some mi) : n < 24 := q_bs (m := 24) h
theorem q_lo_115 (n : Nat) (mi : q_MI) (h : q_I_115 n = some mi) : n < 60 := q_bs (m := 60) h
theorem q_lo_116 (n : Nat) (mi : q_MI) (h : q_I_116 n = some mi) : n < 35 := q_bs (m := 35) h
theorem q_lo_117 (n : Nat) (mi : q_MI) (h : q_I_117 n = some mi) : n < 17 := q_bs (m := 17) h
theorem q_lo_118 (n : Nat) (mi : q_MI) (h : q_I_118 n = some mi) : n < 170 := q_bs (m := 170) h
theorem q_lo_119 (n : Nat) (mi : q_MI) (h : q_I_119 n = some mi) : n < 40 := q_bs (m := 40) h
theorem q_lo_120 (n : Nat) (mi : q_MI) (h : q_I_120 n = some mi) : n < 16 := q_bs (m := 16) h
theorem q_lo_121 (n : Nat) (mi : q_MI) (h : q_I_121 n = some mi) : n < 67 := q_bs (m := 67) h
theorem q_lo_122 (n : Nat) (mi : q_MI) (h : q_I_122 n = some mi) : n < 40 := q_bs (m := 40) h
theorem q_lo_123 (n : Nat) (mi : q_MI) (h : q_I_123 n = some mi) : n < 220 := q_bs (m := 220) h
theorem q_lo_124 (n : Nat) (mi : q_MI) (h : q_I_124 n = some mi) : n < 32 := q_bs (m := 32) h
theorem q_lo_125 (n : Nat) (mi : q_MI) (h : q_I_125 n = some mi) : n < 80 := q_bs (m := 80) h
theorem q_lo_126 (n : Nat) (mi : q_MI) (h : q_I_126 n = some mi) : n < 64 := q_bs (m := 64) h
theorem q_lo_127 (n : Nat) (mi : q_MI) (h : q_I_127 n = some mi) : n < 138 := q_bs (m := 138) h
theorem q_lo_128 (n : Nat) (mi : q_MI) (h : q_I_128 n = some mi) : n < 17 := q_bs (m := 17) h
theorem q_lo_129 (n : Nat) (mi : q_MI) (h : q_I_129 n = some mi) : n < 34 := q_bs (m := 34) h
theorem q_lo_130 (n : Nat) (mi : q_MI) (h : q_I_130 n = some mi) : n < 111 := q_bs (m := 111) h
theorem q_lo_131 (n : Nat) (mi : q_MI) (h : q_I_131 n = some mi) : n < 53 := q_bs (m := 53) h
theorem q_lo_132 (n : Nat) (mi : q_MI) (h : q_I_132 n = some mi) : n < 63 := q_bs (m := 63) h
theorem q_lo_133 (n : Nat) (mi : q_MI) (h : q_I_133 n = some mi) : n < 22 := q_bs (m := 22) h
theorem q_lo_134 (n : Nat) (mi : q_MI) (h : q_I_134 n = some mi) : n < 122 := q_bs (m := 122) h
theorem q_lo_135 (n : Nat) (mi : q_MI) (h : q_I_135 n = some mi) : n < 56 := q_bs (m := 56) h
theorem q_lo_136 (n : Nat) (mi : q_MI) (h : q_I_136 n = some mi) : n < 29 := q_bs (m := 29) h
theorem q_lo_137 (n : Nat) (mi : q_MI) (h : q_I_137 n = some mi) : n < 52 := q_bs (m := 52) h
theorem q_lo_138 (n : Nat) (mi : q_MI) (h : q_I_138 n = some mi) : n < 174 := q_bs (m := 174) h
theorem q_lo_139 (n : Nat) (mi : q_MI) (h : q_I_139 n = some mi) : n < 50 := q_bs (m := 50) h
theorem q_lo_140 (n : Nat) (mi : q_MI) (h : q_I_140 n = some mi) : n < 39 := q_bs (m := 39) h
theorem q_lo_141 (n : Nat) (mi : q_MI) (h : q_I_141 n = some mi) : n < 219 := q_bs (m := 219) h
theorem q_lo_142 (n : Nat) (mi : q_MI) (h : q_I_142 n = some mi) : n < 91 := q_bs (m := 91) h
theorem q_lo_143 (n : Nat) (mi : q_MI) (h : q_I_143 n = some mi) : n < 57 := q_bs (m := 57) h
theorem q_lo_144 (n : Nat) (mi : q_MI) (h : q_I_144 n = some mi) : n < 96 := q_bs (m := 96) h
theorem q_lo_145 (n : Nat) (mi : q_MI) (h : q_I_145 n = some mi) : n < 43 := q_bs (m := 43) h
theorem q_lo_146 (n : Nat) (mi : q_MI) (h : q_I_146 n = some mi) : n < 88 := q_bs (m := 88) h
theorem q_lo_147 (n : Nat) (mi : q_MI) (h : q_I_147 n = some mi) : n < 30 := q_bs (m := 30) h
theorem q_lo_148 (n : Nat) (mi : q_MI) (h : q_I_148 n = some mi) : n < 56 := q_bs (m := 56) h
theorem q_lo_149 (n : Nat) (mi : q_MI) (h : q_I_149 n = some mi) : n < 42 := q_bs (m := 42) h
theorem q_lo_150 (n : Nat) (mi : q_MI) (h : q_I_150 n = some mi) : n < 134 := q_bs (m := 134) h
theorem q_lo_151 (n : Nat) (mi : q_MI) (h : q_I_151 n = some mi) : n < 59 := q_bs (m := 59) h
theorem q_lo_152 (n : Nat) (mi : q_MI) (h : q_I_152 n = some mi) : n < 24 := q_bs (m := 24) h
theorem q_lo_153 (n : Nat) (mi : q_MI) (h : q_I_153 n = some mi) : n < 27 := q_bs (m := 27) h
theorem q_lo_154 (n : Nat) (mi : q_MI) (h : q_I_154 n = some mi) : n < 27 := q_bs (m := 27) h
theorem q_lo_155 (n : Nat) (mi : q_MI) (h : q_I_155 n = some mi) : n < 18 := q_bs (m := 18) h
theorem q_lo_156 (n : Nat) (mi : q_MI) (h : q_I_156 n = some mi) : n < 34 := q_bs (m := 34) h
theorem q_lo_157 (n : Nat) (mi : q_MI) (h : q_I_157 n = some mi) : n < 100 := q_bs (m := 100) h
theorem q_lo_158 (n : Nat) (mi : q_MI) (h : q_I_158 n = some mi) : n < 46 := q_bs (m := 46) h
theorem q_lo_159 (n : Nat) (mi : q_MI) (h : q_I_159 n = some mi) : n < 16 := q_bs (m := 16) h
theorem q_lo_160 (n : Nat) (mi : q_MI) (h : q_I_160 n = some mi) : n < 24 := q_bs (m := 24) h
theorem q_lo_161 (n : Nat) (mi : q_MI) (h : q_I_161 n = some mi) : n < 106 := q_bs (m := 106) h
theorem q_lo_162 (n : Nat) (mi : q_MI) (h : q_I_162 n = some mi) : n < 18 := q_bs (m := 18) h
theorem q_lo_163 (n : Nat) (mi : q_MI) (h : q_I_163 n = some mi) : n < 26 := q_bs (m := 26) h
theorem q_lo_164 (n : Nat) (mi : q_MI) (h : q_I_164 n = some mi) : n < 271 := q_bs (m := 271) h
theorem q_lo_165 (n : Nat) (mi : q_MI) (h : q_I_165 n = some mi) : n < 77 := q_bs (m := 77) h
theorem q_lo_166 (n : Nat) (mi : q_MI) (h : q_I_166 n = some mi) : n < 65 := q_bs (m := 65) h
theorem q_lo_167 (n : Nat) (mi : q_MI) (h : q_I_167 n = some mi) : n < 44 := q_bs (m := 44) h
theorem q_lo_168 (n : Nat) (mi : q_MI) (h : q_I_168 n = some mi) : n < 259 := q_bs (m := 259) h
theorem q_lo_169 (n : Nat) (mi : q_MI) (h : q_I_169 n = some mi) : n < 106 := q_bs (m := 106) h
theorem q_lo_170 (n : Nat) (mi : q_MI) (h : q_I_170 n = some mi) : n < 216 := q_bs (m := 216) h
theorem q_lo_171 (n : Nat) (mi : q_MI) (h : q_I_171 n = some mi) : n < 46 := q_bs (m := 46) h
theorem q_lo_172 (n : Nat) (mi : q_MI) (h : q_I_172 n = some mi) : n < 194 := q_bs (m := 194) h
theorem q_lo_173 (n : Nat) (mi : q_MI) (h : q_I_173 n = some mi) : n < 63 := q_bs (m := 63) h
theorem q_lo_174 (n : Nat) (mi : q_MI) (h : q_I_174 n = some mi) : n < 73 := q_bs (m := 73) h
theorem q_lo_175 (n : Nat) (mi : q_MI) (h : q_I_175 n = some mi) : n < 10 := q_bs (m := 10) h
theorem q_lo_176 (n : Nat) (mi : q_MI) (h : q_I_176 n = some mi) : n < 36 := q_bs (m := 36) h
theorem q_lo_177 (n : Nat) (mi : q_MI) (h : q_I_177 n = some mi) : n < 79 := q_bs (m := 79) h
theorem q_lo_178 (n : Nat) (mi : q_MI) (h : q_I_178 n = some mi) : n < 35 := q_bs (m := 35) h
theorem q_lo_179 (n : Nat) (mi : q_MI) (h : q_I_179 n = some mi) : n < 49 := q_bs (m := 49) h
theorem q_lo_180 (n : Nat) (mi : q_MI) (h : q_I_180 n = some mi) : n < 58 := q_bs (m := 58) h
theorem q_lo_181 (n : Nat) (mi : q_MI) (h : q_I_181 n = some mi) : n < 185 := q_bs (m := 185) h
theorem q_lo_182 (n : Nat) (mi : q_MI) (h : q_I_182 n = some mi) : n < 55 := q_bs (m := 55) h
theorem q_lo_183 (n : Nat) (mi : q_MI) (h : q_I_183 n = some mi) : n < 172 := q_bs (m := 172) h
theorem q_lo_184 (n : Nat) (mi : q_MI) (h : q_I_184 n = some mi) : n < 105 := q_bs (m := 105) h
theorem q_lo_185 (n : Nat) (mi : q_MI) (h : q_I_185 n = some mi) : n < 53 := q_bs (m := 53) h
theorem q_lo_186 (n : Nat) (mi : q_MI) (h : q_I_186 n = some mi) : n < 7 := q_bs (m := 7) h
theorem q_lo_187 (n : Nat) (mi : q_MI) (h : q_I_187 n = some mi) : n < 37 := q_bs (m := 37) h
theorem q_lo_188 (n : Nat) (mi : q_MI) (h : q_I_188 n = some mi) : n < 11 := q_bs (m := 11) h
theorem q_lo_189 (n : Nat) (mi : q_MI) (h : q_I_189 n = some mi) : n < 15 := q_bs (m := 15) h
theorem q_lo_190 (n : Nat) (mi : q_MI) (h : q_I_190 n = some mi) : n < 19 := q_bs (m := 19) h
theorem q_lo_191 (n : Nat) (mi : q_MI) (h : q_I_191 n = some mi) : n < 17 := q_bs (m := 17) h
theorem q_lo_192 (n : Nat) (mi : q_MI) (h : q_I_192 n = some mi) : n < 37 := q_bs (m := 37) h
theorem q_lo_193 (n : Nat) (mi : q_MI) (h : q_I_193 n = some mi) : n < 33 := q_bs (m := 33) h
theorem q_lob_0 : ∀ j, j < 12 → ∀ (pc : Nat) (mi : q_MI), (q_I (0 + j)).2 pc = some mi → pc < q_len (0 + j)
  | 0, _ => q_lo_0
  | 1, _ => q_lo_1
  | 2, _ => q_lo_2
  | 3, _ => q_lo_3
  | 4, _ => q_lo_4
  | 5, _ => q_lo_5
  | 6, _ => q_lo_6
  | 7, _ => q_lo_7
  | 8, _ => q_lo_8
  | 9, _ => q_lo_9
  | 10, _ => q_lo_10
  | 11, _ => q_lo_11
  | n + 12, h => absurd h (by omega)
theorem q_lob_1 : ∀ j, j < 12 → ∀ (pc : Nat) (mi : q_MI), (q_I (12 + j)).2 pc = some mi → pc < q_len (12 + j)
  | 0, _ => q_lo_12
  | 1, _ => q_lo_13
  | 2, _ => q_lo_14
  | 3, _ => q_lo_15
  | 4, _ => q_lo_16
  | 5, _ => q_lo_17
  | 6, _ => q_lo_18
  | 7, _ => q_lo_19
  | 8, _ => q_lo_20
  | 9, _ => q_lo_21
  | 10, _ => q_lo_22
  | 11, _ => q_lo_23
  | n + 12, h => absurd h (by omega)
theorem q_lob_2 : ∀ j, j < 12 → ∀ (pc : Nat) (mi : q_MI), (q_I (24 + j)).2 pc = some mi → pc < q_len (24 + j)
  | 0, _ => q_lo_24
  | 1, _ => q_lo_25
  | 2, _ => q_lo_26
  | 3, _ => q_lo_27
  | 4, _ => q_lo_28
  | 5, _ => q_lo_29
  | 6, _ => q_lo_30
  | 7, _ => q_lo_31
  | 8, _ => q_lo_32
  | 9, _ => q_lo_33
  | 10, _ => q_lo_34
  | 11, _ => q_lo_35
  | n + 12, h => absurd h (by omega)
theorem q_lob_3 : ∀ j, j < 12 → ∀ (pc : Nat) (mi : q_MI), (q_I (36 + j)).2 pc = some mi → pc < q_len (36 + j)
  | 0, _ => q_lo_36
  | 1, _ => q_lo_37
  | 2, _ => q_lo_38
  | 3, _ => q_lo_39
  | 4, _ => q_lo_40
  | 5, _ => q_lo_41
  | 6, _ => q_lo_42
  | 7, _ => q_lo_43
  | 8, _ => q_lo_44
  | 9, _ => q_lo_45
  | 10, _ => q_lo_46
  | 11, _ => q_lo_47
  | n + 12, h => absurd h (by omega)
theorem q_lob_4 : ∀ j, j < 12 → ∀ (pc : Nat) (mi : q_MI), (q_I (48 + j)).2 pc = some mi → pc < q_len (48 + j)
  | 0, _ => q_lo_48
  | 1, _ => q_lo_49
  | 2, _ => q_lo_50
  | 3, _ => q_lo_51
  | 4, _ => q_lo_52
  | 5, _ => q_lo_53
  | 6, _ => q_lo_54
  | 7, _ => q_lo_55
  | 8, _ => q_lo_56
  | 9, _ => q_lo_57
  | 10, _ => q_lo_58
  | 11, _ => q_lo_59
  | n + 12, h => absurd h (by omega)
theorem q_lob_5 : ∀ j, j < 12 → ∀ (pc : Nat) (mi : q_MI), (q_I (60 + j)).2 pc = some mi → pc < q_len (60 + j)
  | 0, _ => q_lo_60
  | 1, _ => q_lo_61
  | 2, _ => q_lo_62
  | 3, _ => q_lo_63
  | 4, _ => q_lo_64
  | 5, _ => q_lo_65
  | 6, _ => q_lo_66
  | 7, _ => q_lo_67
  | 8, _ => q_lo_68
  | 9, _ => q_lo_69
  | 10, _ => q_lo_70
  | 11, _ => q_lo_71
  | n + 12, h => absurd h (by omega)
theorem q_lob_6 : ∀ j, j < 12 → ∀ (pc : Nat) (mi : q_MI), (q_I (72 + j)).2 pc = some mi → pc < q_len (72 + j)
  | 0, _ => q_lo_72
  | 1, _ => q_lo_73
  | 2, _ => q_lo_74
  | 3, _ => q_lo_75
  | 4, _ => q_lo_76
  | 5, _ => q_lo_77
  | 6, _ => q_lo_78
  | 7, _ => q_lo_79
  | 8, _ => q_lo_80
  | 9, _ => q_lo_81
  | 10, _ => q_lo_82
  | 11, _ => q_lo_83
  | n + 12, h => absurd h (by omega)
theorem q_lob_7 : ∀ j, j < 12 → ∀ (pc : Nat) (mi : q_MI), (q_I (84 + j)).2 pc = some mi → pc < q_len (84 + j)
  | 0, _ => q_lo_84
  | 1, _ => q_lo_85
  | 2, _ => q_lo_86
  | 3, _ => q_lo_87
  | 4, _ => q_lo_88
  | 5, _ => q_lo_89
  | 6, _ => q_lo_90
  | 7, _ => q_lo_91
  | 8, _ => q_lo_92
  | 9, _ => q_lo_93
  | 10, _ => q_lo_94
  | 11, _ => q_lo_95
  | n + 12, h => absurd h (by omega)
theorem q_lob_8 : ∀ j, j < 12 → ∀ (pc : Nat) (mi : q_MI), (q_I (96 + j)).2 pc = some mi → pc < q_len (96 + j)
  | 0, _ => q_lo_96
  | 1, _ => q_lo_97
  | 2, _ => q_lo_98
  | 3, _ => q_lo_99
  | 4, _ => q_lo_100
  | 5, _ => q_lo_101
  | 6, _ => q_lo_102
  | 7, _ => q_lo_103
  | 8, _ => q_lo_104
  | 9, _ => q_lo_105
  | 10, _ => q_lo_106
  | 11, _ => q_lo_107
  | n + 12, h => absurd h (by omega)
theorem q_lob_9 : ∀ j, j < 12 → ∀ (pc : Nat) (mi : q_MI), (q_I (108 + j)).2 pc = some mi → pc < q_len (108 + j)
  | 0, _ => q_lo_108
  | 1, _ => q_lo_109
  | 2, _ => q_lo_110
  | 3, _ => q_lo_111
  | 4, _ => q_lo_112
  | 5, _ => q_lo_113
  | 6, _ => q_lo_114
  | 7, _ => q_lo_115
  | 8, _ => q_lo_116
  | 9, _ => q_lo_117
  | 10, _ => q_lo_118
  | 11, _ => q_lo_119
  | n + 12, h => absurd h (by omega)
theorem q_lob_10 : ∀ j, j < 12 → ∀ (pc : Nat) (mi : q_MI), (q_I (120 + j)).2 pc = some mi → pc < q_len (120 + j)
  | 0, _ => q_lo_120
  | 1, _ => q_lo_121
  | 2, _ => q_lo_122
  | 3, _ => q_lo_123
  | 4, _ => q_lo_124
  | 5, _ => q_lo_125
  | 6, _ => q_lo_126
  | 7, _ => q_lo_127
  | 8, _ => q_lo_128
  | 9, _ => q_lo_129
  | 10, _ => q_lo_130
  | 11, _ => q_lo_131
  | n + 12, h => absurd h (by omega)
theorem q_lob_11 : ∀ j, j < 12 → ∀ (pc : Nat) (mi : q_MI), (q_I (132 + j)).2 pc = some mi → pc < q_len (132 + j)
  | 0, _ => q_lo_132
  | 1, _ => q_lo_133
  | 2, _ => q_lo_134
  | 3, _ => q_lo_135
  | 4, _ => q_lo_136
  | 5, _ => q_lo_137
  | 6, _ => q_lo_138
  | 7, _ => q_lo_139
  | 8, _ => q_lo_140
  | 9, _ => q_lo_141
  | 10, _ => q_lo_142
  | 11, _ => q_lo_143
  | n + 12, h => absurd h (by omega)
theorem q_lob_12 : ∀ j, j < 12 → ∀ (pc : Nat) (mi : q_MI), (q_I (144 + j)).2 pc = some mi → pc < q_len (144 + j)
  | 0, _ => q_lo_144
  | 1, _ => q_lo_145
  | 2, _ => q_lo_146
  | 3, _ => q_lo_147
  | 4, _ => q_lo_148
  | 5, _ => q_lo_149
  | 6, _ => q_lo_150
  | 7, _ => q_lo_151
  | 8, _ => q_lo_152
  | 9, _ => q_lo_153
  | 10, _ => q_lo_154
  | 11, _ => q_lo_155
  | n + 12, h => absurd h (by omega)
theorem q_lob_13 : ∀ j, j < 12 → ∀ (pc : Nat) (mi : q_MI), (q_I (156 + j)).2 pc = some mi → pc < q_len (156 + j)
  | 0, _ => q_lo_156
  | 1, _ => q_lo_157
  | 2, _ => q_lo_158
  | 3, _ => q_lo_159
  | 4, _ => q_lo_160
  | 5, _ => q_lo_161
  | 6, _ => q_lo_162
  | 7, _ => q_lo_163
  | 8, _ => q_lo_164
  | 9, _ => q_lo_165
  | 10, _ => q_lo_166
  | 11, _ => q_lo_167
  | n + 12, h => absurd h (by omega)
theorem q_lob_14 : ∀ j, j < 12 → ∀ (pc : Nat) (mi : q_MI), (q_I (168 + j)).2 pc = some mi → pc < q_len (168 + j)
  | 0, _ => q_lo_168
  | 1, _ => q_lo_169
  | 2, _ => q_lo_170
  | 3, _ => q_lo_171
  | 4, _ => q_lo_172
  | 5, _ => q_lo_173
  | 6, _ => q_lo_174
  | 7, _ => q_lo_175
  | 8, _ => q_lo_176
  | 9, _ => q_lo_177
  | 10, _ => q_lo_178
  | 11, _ => q_lo_179
  | n + 12, h => absurd h (by omega)
theorem q_lob_15 : ∀ j, j < 12 → ∀ (pc : Nat) (mi : q_MI), (q_I (180 + j)).2 pc = some mi → pc < q_len (180 + j)
  | 0, _ => q_lo_180
  | 1, _ => q_lo_181
  | 2, _ => q_lo_182
  | 3, _ => q_lo_183
  | 4, _ => q_lo_184
  | 5, _ => q_lo_185
  | 6, _ => q_lo_186
  | 7, _ => q_lo_187
  | 8, _ => q_lo_188
  | 9, _ => q_lo_189
  | 10, _ => q_lo_190
  | 11, _ => q_lo_191
  | n + 12, h => absurd h (by omega)
theorem q_lob_16 : ∀ j, j < 2 → ∀ (pc : Nat) (mi : q_MI), (q_I (192 + j)).2 pc = some mi → pc < q_len (192 + j)
  | 0, _ => q_lo_192
  | 1, _ => q_lo_193
  | n + 2, h => absurd h (by omega)
theorem q_lo (k : Nat) (hk : k < q_nm) : ∀ (pc : Nat) (mi : q_MI), (q_I k).2 pc = some mi → pc < q_len k := by
  have hk : k < 194 := hk
  rcases Nat.lt_or_ge k 12 with h0 | h0
  · have q := q_lob_0 (k - 0) (by omega)
    rw [show 0 + (k - 0) = k by omega] at q
    exact q
  rcases Nat.lt_or_ge k 24 with h1 | h1
  · have q := q_lob_1 (k - 12) (by omega)
    rw [show 12 + (k - 12) = k by omega] at q
    exact q
  rcases Nat.lt_or_ge k 36 with h2 | h2
  · have q := q_lob_2 (k - 24) (by omega)
    rw [show 24 + (k - 24) = k by omega] at q
    exact q
  rcases Nat.lt_or_ge k 48 with h3 | h3
  · have q := q_lob_3 (k - 36) (by omega)
    rw [show 36 + (k - 36) = k by omega] at q
    exact q
  rcases Nat.lt_or_ge k 60 with h4 | h4
  · have q := q_lob_4 (k - 48) (by omega)
    rw [show 48 + (k - 48) = k by omega] at q
    exact q
  rcases Nat.lt_or_ge k 72 with h5 | h5
  · have q := q_lob_5 (k - 60) (by omega)
    rw [show 60 + (k - 60) = k by omega] at q
    exact q
  rcases Nat.lt_or_ge k 84 with h6 | h6
  · have q := q_lob_6 (k - 72) (by omega)
    rw [show 72 + (k - 72) = k by omega] at q
    exact q
  rcases Nat.lt_or_ge k 96 with h7 | h7
  · have q := q_lob_7 (k - 84) (by omega)
    rw [show 84 + (k - 84) = k by omega] at q
    exact q
  rcases Nat.lt_or_ge k 108 with h8 | h8
  · have q := q_lob_8 (k - 96) (by omega)
    rw [show 96 + (k - 96) = k by omega] at q
    exact q
  rcases Nat.lt_or_ge k 120 with h9 | h9
  · have q := q_lob_9 (k - 108) (by omega)
    rw [show 108 + (k - 108) = k by omega] at q
    exact q
  rcases Nat.lt_or_ge k 132 with h10 | h10
  · have q := q_lob_10 (k - 120) (by omega)
    rw [show 120 + (k - 120) = k by omega] at q
    exact q
  rcases Nat.lt_or_ge k 144 with h11 | h11
  · have q := q_lob_11 (k - 132) (by omega)
    rw [show 132 + (k - 132) = k by omega] at q
    exact q
  rcases Nat.lt_or_ge k 156 with h12 | h12
  · have q := q_lob_12 (k - 144) (by omega)
    rw [show 144 + (k - 144) = k by omega] at q
    exact q
  rcases Nat.lt_or_ge k 168 with h13 | h13
  · have q := q_lob_13 (k - 156) (by omega)
    rw [show 156 + (k - 156) = k by omega] at q
    exact q
  rcases Nat.lt_or_ge k 180 with h14 | h14
  · have q := q_lob_14 (k - 168) (by omega)
    rw [show 168 + (k - 168) = k by omega] at q
    exact q
  rcases Nat.lt_or_ge k 192 with h15 | h15
  · have q := q_lob_15 (k - 180) (by omega)
    rw [show 180 + (k - 180) = k by omega] at q
    exact q
  rcases Nat.lt_or_ge k 194 with h16 | h16
  · have q := q_lob_16 (k - 192) (by omega)
    rw [show 192 + (k - 192) = k by omega] at q
    exact q
  omega

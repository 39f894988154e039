/-! printed by a program of mine (wip/whole/gen_q.py): objects' kinds, fields -/
theorem kd_0 : tb_kd 0 = (0, 11, [101, 104, 116, 117, 121, 132, 138, 142, 4, 1, 0, 0, 0, 0]) := by decide +kernel
theorem kd_1 : tb_kd 1 = (0, 6, [102, 103, 0, 0, 0, 0, 0, 3, 0, 0, 0, 0]) := by decide +kernel
theorem kd_2 : tb_kd 2 = (1, 900, [2]) := by decide +kernel
theorem kd_3 : tb_kd 3 = (1, 6, [0]) := by decide +kernel
theorem kd_4 : tb_kd 4 = (0, 4, [105, 4]) := by decide +kernel
theorem kd_5 : tb_kd 5 = (0, 10, [0, 0, 0, 0, 0, 0, 0, 0, 0, 0, 0, 0, 1001, 1002, 1003, 1004, 1005]) := by decide +kernel
theorem kd_6 : tb_kd 6 = (1, 6, [0]) := by decide +kernel
theorem kd_7 : tb_kd 7 = (1, 4, [0]) := by decide +kernel
theorem kd_8 : tb_kd 8 = (1, 4, [0]) := by decide +kernel
theorem kd_9 : tb_kd 9 = (1, 8, [0]) := by decide +kernel
theorem kd_10 : tb_kd 10 = (1, 201, [0]) := by decide +kernel
theorem kd_11 : tb_kd 11 = (0, 1, [1001, 1002, 1003, 1004, 0]) := by decide +kernel
theorem kd_12 : tb_kd 12 = (1, 9, [0]) := by decide +kernel
theorem kd_13 : tb_kd 13 = (1, 432, [0]) := by decide +kernel
theorem kd_14 : tb_kd 14 = (1, 22, [3]) := by decide +kernel
theorem kd_15 : tb_kd 15 = (1, 22, [0]) := by decide +kernel
theorem kd_16 : tb_kd 16 = (2, 4, [53, 59, 65, 71]) := by decide +kernel
theorem kd_17 : tb_kd 17 = (0, 0, [118, 119, 120, 0, 0]) := by decide +kernel
theorem kd_18 : tb_kd 18 = (1, 30, [0]) := by decide +kernel
theorem kd_19 : tb_kd 19 = (1, 30, [0]) := by decide +kernel
theorem kd_20 : tb_kd 20 = (1, 30, [0]) := by decide +kernel
theorem kd_21 : tb_kd 21 = (0, 5, [122, 123, 124, 125, 126, 127, 128, 129, 130, 131, 0, 0, 0]) := by decide +kernel
theorem kd_22 : tb_kd 22 = (1, 4, [0]) := by decide +kernel
theorem kd_23 : tb_kd 23 = (1, 4, [0]) := by decide +kernel
theorem kd_24 : tb_kd 24 = (1, 4, [0]) := by decide +kernel
theorem kd_25 : tb_kd 25 = (1, 4, [0]) := by decide +kernel
theorem kd_26 : tb_kd 26 = (1, 8, [0]) := by decide +kernel
theorem kd_27 : tb_kd 27 = (1, 8, [0]) := by decide +kernel
theorem kd_28 : tb_kd 28 = (1, 8, [0]) := by decide +kernel
theorem kd_29 : tb_kd 29 = (1, 8, [0]) := by decide +kernel
theorem kd_30 : tb_kd 30 = (1, 8, [0]) := by decide +kernel
theorem kd_31 : tb_kd 31 = (1, 9, [0]) := by decide +kernel
theorem kd_32 : tb_kd 32 = (0, 3, [133, 134, 135, 136, 137, 0]) := by decide +kernel
theorem kd_33 : tb_kd 33 = (1, 800, [0]) := by decide +kernel
theorem kd_34 : tb_kd 34 = (1, 800, [0]) := by decide +kernel
theorem kd_35 : tb_kd 35 = (1, 800, [0]) := by decide +kernel
theorem kd_36 : tb_kd 36 = (1, 800, [0]) := by decide +kernel
theorem kd_37 : tb_kd 37 = (1, 40, [0]) := by decide +kernel
theorem kd_38 : tb_kd 38 = (0, 2, [4, 4, 141]) := by decide +kernel
theorem kd_39 : tb_kd 39 = (1, 10400, [0]) := by decide +kernel
theorem kd_40 : tb_kd 40 = (1, 10400, [0]) := by decide +kernel
theorem kd_41 : tb_kd 41 = (1, 100, [0]) := by decide +kernel
theorem kd_42 : tb_kd 42 = (0, 9, [143, 144, 0, 145, 4, 4]) := by decide +kernel
theorem kd_43 : tb_kd 43 = (1, 6, [0]) := by decide +kernel
theorem kd_44 : tb_kd 44 = (1, 6, [0]) := by decide +kernel
theorem kd_45 : tb_kd 45 = (1, 2100, [0]) := by decide +kernel
theorem kd_46 : tb_kd 46 = (1, 100, [0]) := by decide +kernel
theorem kd_47 : tb_kd 47 = (1, 100, [0]) := by decide +kernel
theorem kd_48 : tb_kd 48 = (0, 1, [1001, 1002, 1003, 1004, 0]) := by decide +kernel
theorem kd_49 : tb_kd 49 = (1, 9, [0]) := by decide +kernel
theorem kd_50 : tb_kd 50 = (1, 432, [0]) := by decide +kernel
theorem kd_51 : tb_kd 51 = (1, 22, [3]) := by decide +kernel
theorem kd_52 : tb_kd 52 = (1, 22, [0]) := by decide +kernel
theorem kd_53 : tb_kd 53 = (0, 10, [0, 0, 0, 0, 0, 0, 0, 0, 0, 0, 0, 0, 1001, 1002, 1003, 1004, 1005]) := by decide +kernel
theorem kd_54 : tb_kd 54 = (1, 6, [0]) := by decide +kernel
theorem kd_55 : tb_kd 55 = (1, 4, [0]) := by decide +kernel
theorem kd_56 : tb_kd 56 = (1, 4, [0]) := by decide +kernel
theorem kd_57 : tb_kd 57 = (1, 8, [0]) := by decide +kernel
theorem kd_58 : tb_kd 58 = (1, 201, [0]) := by decide +kernel
theorem kd_59 : tb_kd 59 = (0, 10, [0, 0, 0, 0, 0, 0, 0, 0, 0, 0, 0, 0, 1001, 1002, 1003, 1004, 1005]) := by decide +kernel
theorem kd_60 : tb_kd 60 = (1, 6, [0]) := by decide +kernel
theorem kd_61 : tb_kd 61 = (1, 4, [0]) := by decide +kernel
theorem kd_62 : tb_kd 62 = (1, 4, [0]) := by decide +kernel
theorem kd_63 : tb_kd 63 = (1, 8, [0]) := by decide +kernel
theorem kd_64 : tb_kd 64 = (1, 201, [0]) := by decide +kernel
theorem kd_65 : tb_kd 65 = (0, 10, [0, 0, 0, 0, 0, 0, 0, 0, 0, 0, 0, 0, 1001, 1002, 1003, 1004, 1005]) := by decide +kernel
theorem kd_66 : tb_kd 66 = (1, 6, [0]) := by decide +kernel
theorem kd_67 : tb_kd 67 = (1, 4, [0]) := by decide +kernel
theorem kd_68 : tb_kd 68 = (1, 4, [0]) := by decide +kernel
theorem kd_69 : tb_kd 69 = (1, 8, [0]) := by decide +kernel
theorem kd_70 : tb_kd 70 = (1, 201, [0]) := by decide +kernel
theorem kd_71 : tb_kd 71 = (0, 10, [0, 0, 0, 0, 0, 0, 0, 0, 0, 0, 0, 0, 1001, 1002, 1003, 1004, 1005]) := by decide +kernel
theorem kd_72 : tb_kd 72 = (1, 6, [0]) := by decide +kernel
theorem kd_73 : tb_kd 73 = (1, 4, [0]) := by decide +kernel
theorem kd_74 : tb_kd 74 = (1, 4, [0]) := by decide +kernel
theorem kd_75 : tb_kd 75 = (1, 8, [0]) := by decide +kernel
theorem kd_76 : tb_kd 76 = (1, 201, [0]) := by decide +kernel
theorem kd_77 : tb_kd 77 = (0, 12, [0, 178, 0, 0, 0, 0, 0, 0, 0, 0, 0, 0, 179, 1, 1, 180, 181, 182, 183, 0, 184, 185, 186, 0, 187, 188, 189, 0, 0, 0, 0, 190, 191, 192, 193, 194, 195, 196, 197, 198, 199, 200]) := by decide +kernel
theorem kd_78 : tb_kd 78 = (1, 900, [0]) := by decide +kernel
theorem kd_79 : tb_kd 79 = (1, 8, [0]) := by decide +kernel
theorem kd_80 : tb_kd 80 = (1, 362, [0]) := by decide +kernel
theorem kd_81 : tb_kd 81 = (1, 362, [0]) := by decide +kernel
theorem kd_82 : tb_kd 82 = (1, 453, [0]) := by decide +kernel
theorem kd_83 : tb_kd 83 = (1, 1812, [0]) := by decide +kernel
theorem kd_84 : tb_kd 84 = (1, 30, [0]) := by decide +kernel
theorem kd_85 : tb_kd 85 = (1, 30, [0]) := by decide +kernel
theorem kd_86 : tb_kd 86 = (1, 30, [0]) := by decide +kernel
theorem kd_87 : tb_kd 87 = (1, 6, [0]) := by decide +kernel
theorem kd_88 : tb_kd 88 = (1, 6, [0]) := by decide +kernel
theorem kd_89 : tb_kd 89 = (1, 6, [0]) := by decide +kernel
theorem kd_90 : tb_kd 90 = (1, 4, [0]) := by decide +kernel
theorem kd_91 : tb_kd 91 = (1, 4, [0]) := by decide +kernel
theorem kd_92 : tb_kd 92 = (1, 800, [0]) := by decide +kernel
theorem kd_93 : tb_kd 93 = (1, 800, [0]) := by decide +kernel
theorem kd_94 : tb_kd 94 = (1, 40, [0]) := by decide +kernel
theorem kd_95 : tb_kd 95 = (1, 800, [1]) := by decide +kernel
theorem kd_96 : tb_kd 96 = (1, 11200, [3]) := by decide +kernel
theorem kd_97 : tb_kd 97 = (1, 11200, [3]) := by decide +kernel
theorem kd_98 : tb_kd 98 = (1, 100, [1]) := by decide +kernel
theorem kd_99 : tb_kd 99 = (1, 16800, [1]) := by decide +kernel
theorem kd_100 : tb_kd 100 = (1, 16800, [1]) := by decide +kernel
theorem kd_101 : tb_kd 101 = (1, 1, [3]) := by decide +kernel
theorem kd_102 : tb_kd 102 = (3, 9, [0]) := by decide +kernel
theorem kd_103 : tb_kd 103 = (3, 54, [0]) := by decide +kernel
theorem kd_104 : tb_kd 104 = (3, 54, [0]) := by decide +kernel
theorem kd_105 : tb_kd 105 = (3, 8, [0]) := by decide +kernel
theorem kd_106 : tb_kd 106 = (3, 8, [0]) := by decide +kernel
theorem kd_107 : tb_kd 107 = (4, 0, [208, 0]) := by decide +kernel
theorem kd_108 : tb_kd 108 = (3, 58, [2]) := by decide +kernel
theorem kd_109 : tb_kd 109 = (4, 0, [210, 0]) := by decide +kernel
theorem kd_110 : tb_kd 110 = (3, 33, [2]) := by decide +kernel
theorem kd_111 : tb_kd 111 = (4, 0, [212, 0]) := by decide +kernel
theorem kd_112 : tb_kd 112 = (3, 11, [2]) := by decide +kernel
theorem kd_113 : tb_kd 113 = (4, 0, [214, 0]) := by decide +kernel
theorem kd_114 : tb_kd 114 = (3, 12, [2]) := by decide +kernel
theorem kd_115 : tb_kd 115 = (4, 0, [216, 0]) := by decide +kernel
theorem kd_116 : tb_kd 116 = (3, 22, [2]) := by decide +kernel
theorem kd_117 : tb_kd 117 = (4, 0, [218, 0]) := by decide +kernel
theorem kd_118 : tb_kd 118 = (3, 11, [2]) := by decide +kernel
theorem kd_119 : tb_kd 119 = (4, 0, [220, 0]) := by decide +kernel
theorem kd_120 : tb_kd 120 = (3, 8, [2]) := by decide +kernel
theorem kd_121 : tb_kd 121 = (4, 0, [222, 0]) := by decide +kernel
theorem kd_122 : tb_kd 122 = (3, 5, [2]) := by decide +kernel
theorem kd_123 : tb_kd 123 = (4, 0, [224, 0]) := by decide +kernel
theorem kd_124 : tb_kd 124 = (3, 19, [2]) := by decide +kernel
theorem kd_125 : tb_kd 125 = (4, 0, [226, 0]) := by decide +kernel
theorem kd_126 : tb_kd 126 = (3, 5, [2]) := by decide +kernel
theorem kd_127 : tb_kd 127 = (4, 0, [228, 0]) := by decide +kernel
theorem kd_128 : tb_kd 128 = (3, 3, [2]) := by decide +kernel
theorem kd_129 : tb_kd 129 = (4, 0, [230, 0]) := by decide +kernel
theorem kd_130 : tb_kd 130 = (3, 4, [2]) := by decide +kernel
theorem kd_131 : tb_kd 131 = (4, 0, [232, 0]) := by decide +kernel
theorem kd_132 : tb_kd 132 = (3, 3, [2]) := by decide +kernel
theorem kd_133 : tb_kd 133 = (4, 0, [234, 0]) := by decide +kernel
theorem kd_134 : tb_kd 134 = (3, 5, [2]) := by decide +kernel
theorem kd_135 : tb_kd 135 = (4, 0, [236, 0]) := by decide +kernel
theorem kd_136 : tb_kd 136 = (3, 5, [2]) := by decide +kernel
theorem kd_137 : tb_kd 137 = (4, 0, [238, 0]) := by decide +kernel
theorem kd_138 : tb_kd 138 = (3, 4, [2]) := by decide +kernel
theorem kd_139 : tb_kd 139 = (4, 0, [240, 0]) := by decide +kernel
theorem kd_140 : tb_kd 140 = (3, 6, [2]) := by decide +kernel
theorem kd_141 : tb_kd 141 = (4, 0, [242, 0]) := by decide +kernel
theorem kd_142 : tb_kd 142 = (3, 6, [2]) := by decide +kernel
theorem kd_143 : tb_kd 143 = (4, 0, [244, 0]) := by decide +kernel
theorem kd_144 : tb_kd 144 = (3, 2, [2]) := by decide +kernel
theorem kd_145 : tb_kd 145 = (4, 0, [246, 0]) := by decide +kernel
theorem kd_146 : tb_kd 146 = (3, 5, [2]) := by decide +kernel
theorem kd_147 : tb_kd 147 = (4, 0, [248, 0]) := by decide +kernel
theorem kd_148 : tb_kd 148 = (3, 5, [2]) := by decide +kernel
theorem kd_149 : tb_kd 149 = (4, 0, [250, 0]) := by decide +kernel
theorem kd_150 : tb_kd 150 = (3, 5, [2]) := by decide +kernel
theorem kd_151 : tb_kd 151 = (4, 0, [252, 0]) := by decide +kernel
theorem kd_152 : tb_kd 152 = (3, 6, [2]) := by decide +kernel
theorem kd_153 : tb_kd 153 = (4, 0, [254, 0]) := by decide +kernel
theorem kd_154 : tb_kd 154 = (3, 5, [2]) := by decide +kernel
theorem kd_155 : tb_kd 155 = (4, 0, [256, 0]) := by decide +kernel
theorem kd_156 : tb_kd 156 = (3, 4, [2]) := by decide +kernel
theorem kd_157 : tb_kd 157 = (4, 0, [258, 0]) := by decide +kernel
theorem kd_158 : tb_kd 158 = (3, 4, [2]) := by decide +kernel
theorem kd_159 : tb_kd 159 = (4, 0, [260, 0]) := by decide +kernel
theorem kd_160 : tb_kd 160 = (3, 5, [2]) := by decide +kernel
theorem kd_161 : tb_kd 161 = (4, 0, [262, 0]) := by decide +kernel
theorem kd_162 : tb_kd 162 = (3, 5, [2]) := by decide +kernel
theorem kd_163 : tb_kd 163 = (4, 0, [264, 0]) := by decide +kernel
theorem kd_164 : tb_kd 164 = (3, 5, [2]) := by decide +kernel
theorem kd_165 : tb_kd 165 = (4, 0, [266, 0]) := by decide +kernel
theorem kd_166 : tb_kd 166 = (3, 2, [2]) := by decide +kernel
theorem kd_167 : tb_kd 167 = (4, 0, [268, 0]) := by decide +kernel
theorem kd_168 : tb_kd 168 = (3, 6, [2]) := by decide +kernel
theorem kd_169 : tb_kd 169 = (4, 0, [270, 0]) := by decide +kernel
theorem kd_170 : tb_kd 170 = (3, 4, [2]) := by decide +kernel
theorem kd_171 : tb_kd 171 = (4, 0, [272, 0]) := by decide +kernel
theorem kd_172 : tb_kd 172 = (3, 5, [2]) := by decide +kernel
theorem kd_173 : tb_kd 173 = (4, 0, [274, 0]) := by decide +kernel
theorem kd_174 : tb_kd 174 = (3, 4, [2]) := by decide +kernel
theorem kd_175 : tb_kd 175 = (4, 0, [276, 0]) := by decide +kernel
theorem kd_176 : tb_kd 176 = (3, 4, [2]) := by decide +kernel
theorem kd_177 : tb_kd 177 = (4, 0, [278, 0]) := by decide +kernel
theorem kd_178 : tb_kd 178 = (3, 2, [2]) := by decide +kernel
theorem kd_179 : tb_kd 179 = (4, 0, [280, 0]) := by decide +kernel
theorem kd_180 : tb_kd 180 = (3, 4, [2]) := by decide +kernel
theorem kd_181 : tb_kd 181 = (4, 0, [282, 0]) := by decide +kernel
theorem kd_182 : tb_kd 182 = (3, 3, [2]) := by decide +kernel
theorem kd_183 : tb_kd 183 = (5, 0, []) := by decide +kernel
theorem gf_0_0 (A : tb_H) : tb_getf tb_kd A 0 0 11 = some (tb_r 1) := by unfold tb_getf; rw [kd_0]; rfl
theorem gf_0_1 (A : tb_H) : tb_getf tb_kd A 0 1 11 = some (tb_r 4) := by unfold tb_getf; rw [kd_0]; rfl
theorem gf_0_2 (A : tb_H) : tb_getf tb_kd A 0 2 11 = some (tb_r 16) := by unfold tb_getf; rw [kd_0]; rfl
theorem gf_0_3 (A : tb_H) : tb_getf tb_kd A 0 3 11 = some (tb_r 17) := by unfold tb_getf; rw [kd_0]; rfl
theorem gf_0_4 (A : tb_H) : tb_getf tb_kd A 0 4 11 = some (tb_r 21) := by unfold tb_getf; rw [kd_0]; rfl
theorem gf_0_5 (A : tb_H) : tb_getf tb_kd A 0 5 11 = some (tb_r 32) := by unfold tb_getf; rw [kd_0]; rfl
theorem gf_0_6 (A : tb_H) : tb_getf tb_kd A 0 6 11 = some (tb_r 38) := by unfold tb_getf; rw [kd_0]; rfl
theorem gf_0_7 (A : tb_H) : tb_getf tb_kd A 0 7 11 = some (tb_r 42) := by unfold tb_getf; rw [kd_0]; rfl
theorem gf_0_8 (A : tb_H) : tb_getf tb_kd A 0 8 11 = some (tb_r (A.2.2 0 8)) := by unfold tb_getf; rw [kd_0]; rfl
theorem pf_0_8 (A : tb_H) (x : Nat) : tb_putf tb_kd A 0 8 11 (tb_r x) = some (tb_upP A 0 8 x) := by unfold tb_putf; rw [kd_0]; rfl
theorem gf_0_9 (A : tb_H) : tb_getf tb_kd A 0 9 11 = some (tb_i (A.1 0 9)) := by unfold tb_getf; rw [kd_0]; rfl
theorem pf_0_9 (A : tb_H) (x : Int) (h : x = 0 ∨ x = 1) : tb_putf tb_kd A 0 9 11 (tb_i x) = some (tb_upI A 0 9 x) := by unfold tb_putf; rw [kd_0]; exact if_pos h
theorem gf_0_10 (A : tb_H) : tb_getf tb_kd A 0 10 11 = some (tb_i (A.1 0 10)) := by unfold tb_getf; rw [kd_0]; rfl
theorem pf_0_10 (A : tb_H) (x : Int) : tb_putf tb_kd A 0 10 11 (tb_i x) = some (tb_upI A 0 10 x) := by unfold tb_putf; rw [kd_0]; rfl
theorem gf_0_11 (A : tb_H) : tb_getf tb_kd A 0 11 11 = some (tb_i (A.1 0 11)) := by unfold tb_getf; rw [kd_0]; rfl
theorem pf_0_11 (A : tb_H) (x : Int) : tb_putf tb_kd A 0 11 11 (tb_i x) = some (tb_upI A 0 11 x) := by unfold tb_putf; rw [kd_0]; rfl
theorem gf_0_12 (A : tb_H) : tb_getf tb_kd A 0 12 11 = some (tb_i (A.1 0 12)) := by unfold tb_getf; rw [kd_0]; rfl
theorem pf_0_12 (A : tb_H) (x : Int) : tb_putf tb_kd A 0 12 11 (tb_i x) = some (tb_upI A 0 12 x) := by unfold tb_putf; rw [kd_0]; rfl
theorem gf_0_13 (A : tb_H) : tb_getf tb_kd A 0 13 11 = some (tb_i (A.1 0 13)) := by unfold tb_getf; rw [kd_0]; rfl
theorem pf_0_13 (A : tb_H) (x : Int) : tb_putf tb_kd A 0 13 11 (tb_i x) = some (tb_upI A 0 13 x) := by unfold tb_putf; rw [kd_0]; rfl
theorem gf_1_0 (A : tb_H) : tb_getf tb_kd A 1 0 6 = some (tb_r 2) := by unfold tb_getf; rw [kd_1]; rfl
theorem gf_1_1 (A : tb_H) : tb_getf tb_kd A 1 1 6 = some (tb_r 3) := by unfold tb_getf; rw [kd_1]; rfl
theorem gf_1_2 (A : tb_H) : tb_getf tb_kd A 1 2 6 = some (tb_i (A.1 1 2)) := by unfold tb_getf; rw [kd_1]; rfl
theorem pf_1_2 (A : tb_H) (x : Int) : tb_putf tb_kd A 1 2 6 (tb_i x) = some (tb_upI A 1 2 x) := by unfold tb_putf; rw [kd_1]; rfl
theorem gf_1_3 (A : tb_H) : tb_getf tb_kd A 1 3 6 = some (tb_i (A.1 1 3)) := by unfold tb_getf; rw [kd_1]; rfl
theorem pf_1_3 (A : tb_H) (x : Int) : tb_putf tb_kd A 1 3 6 (tb_i x) = some (tb_upI A 1 3 x) := by unfold tb_putf; rw [kd_1]; rfl
theorem gf_1_4 (A : tb_H) : tb_getf tb_kd A 1 4 6 = some (tb_i (A.1 1 4)) := by unfold tb_getf; rw [kd_1]; rfl
theorem pf_1_4 (A : tb_H) (x : Int) : tb_putf tb_kd A 1 4 6 (tb_i x) = some (tb_upI A 1 4 x) := by unfold tb_putf; rw [kd_1]; rfl
theorem gf_1_5 (A : tb_H) : tb_getf tb_kd A 1 5 6 = some (tb_i (A.1 1 5)) := by unfold tb_getf; rw [kd_1]; rfl
theorem pf_1_5 (A : tb_H) (x : Int) : tb_putf tb_kd A 1 5 6 (tb_i x) = some (tb_upI A 1 5 x) := by unfold tb_putf; rw [kd_1]; rfl
theorem gf_1_6 (A : tb_H) : tb_getf tb_kd A 1 6 6 = some (tb_i (A.1 1 6)) := by unfold tb_getf; rw [kd_1]; rfl
theorem pf_1_6 (A : tb_H) (x : Int) : tb_putf tb_kd A 1 6 6 (tb_i x) = some (tb_upI A 1 6 x) := by unfold tb_putf; rw [kd_1]; rfl
theorem gf_1_7 (A : tb_H) : tb_getf tb_kd A 1 7 6 = some (tb_j (A.2.1 1 7)) := by unfold tb_getf; rw [kd_1]; rfl
theorem pf_1_7 (A : tb_H) (x : Int) : tb_putf tb_kd A 1 7 6 (tb_j x) = some (tb_upL A 1 7 x) := by unfold tb_putf; rw [kd_1]; rfl
theorem gf_1_8 (A : tb_H) : tb_getf tb_kd A 1 8 6 = some (tb_i (A.1 1 8)) := by unfold tb_getf; rw [kd_1]; rfl
theorem pf_1_8 (A : tb_H) (x : Int) : tb_putf tb_kd A 1 8 6 (tb_i x) = some (tb_upI A 1 8 x) := by unfold tb_putf; rw [kd_1]; rfl
theorem gf_1_9 (A : tb_H) : tb_getf tb_kd A 1 9 6 = some (tb_i (A.1 1 9)) := by unfold tb_getf; rw [kd_1]; rfl
theorem pf_1_9 (A : tb_H) (x : Int) : tb_putf tb_kd A 1 9 6 (tb_i x) = some (tb_upI A 1 9 x) := by unfold tb_putf; rw [kd_1]; rfl
theorem gf_1_10 (A : tb_H) : tb_getf tb_kd A 1 10 6 = some (tb_i (A.1 1 10)) := by unfold tb_getf; rw [kd_1]; rfl
theorem pf_1_10 (A : tb_H) (x : Int) : tb_putf tb_kd A 1 10 6 (tb_i x) = some (tb_upI A 1 10 x) := by unfold tb_putf; rw [kd_1]; rfl
theorem gf_1_11 (A : tb_H) : tb_getf tb_kd A 1 11 6 = some (tb_i (A.1 1 11)) := by unfold tb_getf; rw [kd_1]; rfl
theorem pf_1_11 (A : tb_H) (x : Int) : tb_putf tb_kd A 1 11 6 (tb_i x) = some (tb_upI A 1 11 x) := by unfold tb_putf; rw [kd_1]; rfl
theorem gf_4_0 (A : tb_H) : tb_getf tb_kd A 4 0 4 = some (tb_r 5) := by unfold tb_getf; rw [kd_4]; rfl
theorem gf_4_1 (A : tb_H) : tb_getf tb_kd A 4 1 4 = some (tb_r (A.2.2 4 1)) := by unfold tb_getf; rw [kd_4]; rfl
theorem pf_4_1 (A : tb_H) (x : Nat) : tb_putf tb_kd A 4 1 4 (tb_r x) = some (tb_upP A 4 1 x) := by unfold tb_putf; rw [kd_4]; rfl
theorem gf_5_0 (A : tb_H) : tb_getf tb_kd A 5 0 10 = some (tb_i (A.1 5 0)) := by unfold tb_getf; rw [kd_5]; rfl
theorem pf_5_0 (A : tb_H) (x : Int) : tb_putf tb_kd A 5 0 10 (tb_i x) = some (tb_upI A 5 0 x) := by unfold tb_putf; rw [kd_5]; rfl
theorem gf_5_1 (A : tb_H) : tb_getf tb_kd A 5 1 10 = some (tb_i (A.1 5 1)) := by unfold tb_getf; rw [kd_5]; rfl
theorem pf_5_1 (A : tb_H) (x : Int) : tb_putf tb_kd A 5 1 10 (tb_i x) = some (tb_upI A 5 1 x) := by unfold tb_putf; rw [kd_5]; rfl
theorem gf_5_2 (A : tb_H) : tb_getf tb_kd A 5 2 10 = some (tb_i (A.1 5 2)) := by unfold tb_getf; rw [kd_5]; rfl
theorem pf_5_2 (A : tb_H) (x : Int) : tb_putf tb_kd A 5 2 10 (tb_i x) = some (tb_upI A 5 2 x) := by unfold tb_putf; rw [kd_5]; rfl
theorem gf_5_3 (A : tb_H) : tb_getf tb_kd A 5 3 10 = some (tb_i (A.1 5 3)) := by unfold tb_getf; rw [kd_5]; rfl
theorem pf_5_3 (A : tb_H) (x : Int) : tb_putf tb_kd A 5 3 10 (tb_i x) = some (tb_upI A 5 3 x) := by unfold tb_putf; rw [kd_5]; rfl
theorem gf_5_4 (A : tb_H) : tb_getf tb_kd A 5 4 10 = some (tb_i (A.1 5 4)) := by unfold tb_getf; rw [kd_5]; rfl
theorem pf_5_4 (A : tb_H) (x : Int) : tb_putf tb_kd A 5 4 10 (tb_i x) = some (tb_upI A 5 4 x) := by unfold tb_putf; rw [kd_5]; rfl
theorem gf_5_5 (A : tb_H) : tb_getf tb_kd A 5 5 10 = some (tb_i (A.1 5 5)) := by unfold tb_getf; rw [kd_5]; rfl
theorem pf_5_5 (A : tb_H) (x : Int) : tb_putf tb_kd A 5 5 10 (tb_i x) = some (tb_upI A 5 5 x) := by unfold tb_putf; rw [kd_5]; rfl
theorem gf_5_6 (A : tb_H) : tb_getf tb_kd A 5 6 10 = some (tb_i (A.1 5 6)) := by unfold tb_getf; rw [kd_5]; rfl
theorem pf_5_6 (A : tb_H) (x : Int) : tb_putf tb_kd A 5 6 10 (tb_i x) = some (tb_upI A 5 6 x) := by unfold tb_putf; rw [kd_5]; rfl
theorem gf_5_7 (A : tb_H) : tb_getf tb_kd A 5 7 10 = some (tb_i (A.1 5 7)) := by unfold tb_getf; rw [kd_5]; rfl
theorem pf_5_7 (A : tb_H) (x : Int) : tb_putf tb_kd A 5 7 10 (tb_i x) = some (tb_upI A 5 7 x) := by unfold tb_putf; rw [kd_5]; rfl
theorem gf_5_8 (A : tb_H) : tb_getf tb_kd A 5 8 10 = some (tb_i (A.1 5 8)) := by unfold tb_getf; rw [kd_5]; rfl
theorem pf_5_8 (A : tb_H) (x : Int) : tb_putf tb_kd A 5 8 10 (tb_i x) = some (tb_upI A 5 8 x) := by unfold tb_putf; rw [kd_5]; rfl
theorem gf_5_9 (A : tb_H) : tb_getf tb_kd A 5 9 10 = some (tb_i (A.1 5 9)) := by unfold tb_getf; rw [kd_5]; rfl
theorem pf_5_9 (A : tb_H) (x : Int) : tb_putf tb_kd A 5 9 10 (tb_i x) = some (tb_upI A 5 9 x) := by unfold tb_putf; rw [kd_5]; rfl
theorem gf_5_10 (A : tb_H) : tb_getf tb_kd A 5 10 10 = some (tb_i (A.1 5 10)) := by unfold tb_getf; rw [kd_5]; rfl
theorem pf_5_10 (A : tb_H) (x : Int) : tb_putf tb_kd A 5 10 10 (tb_i x) = some (tb_upI A 5 10 x) := by unfold tb_putf; rw [kd_5]; rfl
theorem gf_5_11 (A : tb_H) : tb_getf tb_kd A 5 11 10 = some (tb_i (A.1 5 11)) := by unfold tb_getf; rw [kd_5]; rfl
theorem pf_5_11 (A : tb_H) (x : Int) : tb_putf tb_kd A 5 11 10 (tb_i x) = some (tb_upI A 5 11 x) := by unfold tb_putf; rw [kd_5]; rfl
theorem gf_5_12 (A : tb_H) : tb_getf tb_kd A 5 12 10 = some (tb_r 6) := by unfold tb_getf; rw [kd_5]; rfl
theorem gf_5_13 (A : tb_H) : tb_getf tb_kd A 5 13 10 = some (tb_r 7) := by unfold tb_getf; rw [kd_5]; rfl
theorem gf_5_14 (A : tb_H) : tb_getf tb_kd A 5 14 10 = some (tb_r 8) := by unfold tb_getf; rw [kd_5]; rfl
theorem gf_5_15 (A : tb_H) : tb_getf tb_kd A 5 15 10 = some (tb_r 9) := by unfold tb_getf; rw [kd_5]; rfl
theorem gf_5_16 (A : tb_H) : tb_getf tb_kd A 5 16 10 = some (tb_r 10) := by unfold tb_getf; rw [kd_5]; rfl
theorem gf_11_0 (A : tb_H) : tb_getf tb_kd A 11 0 1 = some (tb_r 12) := by unfold tb_getf; rw [kd_11]; rfl
theorem gf_11_1 (A : tb_H) : tb_getf tb_kd A 11 1 1 = some (tb_r 13) := by unfold tb_getf; rw [kd_11]; rfl
theorem gf_11_2 (A : tb_H) : tb_getf tb_kd A 11 2 1 = some (tb_r 14) := by unfold tb_getf; rw [kd_11]; rfl
theorem gf_11_3 (A : tb_H) : tb_getf tb_kd A 11 3 1 = some (tb_r 15) := by unfold tb_getf; rw [kd_11]; rfl
theorem gf_11_4 (A : tb_H) : tb_getf tb_kd A 11 4 1 = some (tb_i (A.1 11 4)) := by unfold tb_getf; rw [kd_11]; rfl
theorem pf_11_4 (A : tb_H) (x : Int) : tb_putf tb_kd A 11 4 1 (tb_i x) = some (tb_upI A 11 4 x) := by unfold tb_putf; rw [kd_11]; rfl
theorem gf_17_0 (A : tb_H) : tb_getf tb_kd A 17 0 0 = some (tb_r 18) := by unfold tb_getf; rw [kd_17]; rfl
theorem gf_17_1 (A : tb_H) : tb_getf tb_kd A 17 1 0 = some (tb_r 19) := by unfold tb_getf; rw [kd_17]; rfl
theorem gf_17_2 (A : tb_H) : tb_getf tb_kd A 17 2 0 = some (tb_r 20) := by unfold tb_getf; rw [kd_17]; rfl
theorem gf_17_3 (A : tb_H) : tb_getf tb_kd A 17 3 0 = some (tb_i (A.1 17 3)) := by unfold tb_getf; rw [kd_17]; rfl
theorem pf_17_3 (A : tb_H) (x : Int) : tb_putf tb_kd A 17 3 0 (tb_i x) = some (tb_upI A 17 3 x) := by unfold tb_putf; rw [kd_17]; rfl
theorem gf_17_4 (A : tb_H) : tb_getf tb_kd A 17 4 0 = some (tb_i (A.1 17 4)) := by unfold tb_getf; rw [kd_17]; rfl
theorem pf_17_4 (A : tb_H) (x : Int) : tb_putf tb_kd A 17 4 0 (tb_i x) = some (tb_upI A 17 4 x) := by unfold tb_putf; rw [kd_17]; rfl
theorem gf_21_0 (A : tb_H) : tb_getf tb_kd A 21 0 5 = some (tb_r 22) := by unfold tb_getf; rw [kd_21]; rfl
theorem gf_21_1 (A : tb_H) : tb_getf tb_kd A 21 1 5 = some (tb_r 23) := by unfold tb_getf; rw [kd_21]; rfl
theorem gf_21_2 (A : tb_H) : tb_getf tb_kd A 21 2 5 = some (tb_r 24) := by unfold tb_getf; rw [kd_21]; rfl
theorem gf_21_3 (A : tb_H) : tb_getf tb_kd A 21 3 5 = some (tb_r 25) := by unfold tb_getf; rw [kd_21]; rfl
theorem gf_21_4 (A : tb_H) : tb_getf tb_kd A 21 4 5 = some (tb_r 26) := by unfold tb_getf; rw [kd_21]; rfl
theorem gf_21_5 (A : tb_H) : tb_getf tb_kd A 21 5 5 = some (tb_r 27) := by unfold tb_getf; rw [kd_21]; rfl
theorem gf_21_6 (A : tb_H) : tb_getf tb_kd A 21 6 5 = some (tb_r 28) := by unfold tb_getf; rw [kd_21]; rfl
theorem gf_21_7 (A : tb_H) : tb_getf tb_kd A 21 7 5 = some (tb_r 29) := by unfold tb_getf; rw [kd_21]; rfl
theorem gf_21_8 (A : tb_H) : tb_getf tb_kd A 21 8 5 = some (tb_r 30) := by unfold tb_getf; rw [kd_21]; rfl
theorem gf_21_9 (A : tb_H) : tb_getf tb_kd A 21 9 5 = some (tb_r 31) := by unfold tb_getf; rw [kd_21]; rfl
theorem gf_21_10 (A : tb_H) : tb_getf tb_kd A 21 10 5 = some (tb_i (A.1 21 10)) := by unfold tb_getf; rw [kd_21]; rfl
theorem pf_21_10 (A : tb_H) (x : Int) : tb_putf tb_kd A 21 10 5 (tb_i x) = some (tb_upI A 21 10 x) := by unfold tb_putf; rw [kd_21]; rfl
theorem gf_21_11 (A : tb_H) : tb_getf tb_kd A 21 11 5 = some (tb_i (A.1 21 11)) := by unfold tb_getf; rw [kd_21]; rfl
theorem pf_21_11 (A : tb_H) (x : Int) : tb_putf tb_kd A 21 11 5 (tb_i x) = some (tb_upI A 21 11 x) := by unfold tb_putf; rw [kd_21]; rfl
theorem gf_21_12 (A : tb_H) : tb_getf tb_kd A 21 12 5 = some (tb_i (A.1 21 12)) := by unfold tb_getf; rw [kd_21]; rfl
theorem pf_21_12 (A : tb_H) (x : Int) : tb_putf tb_kd A 21 12 5 (tb_i x) = some (tb_upI A 21 12 x) := by unfold tb_putf; rw [kd_21]; rfl
theorem gf_32_0 (A : tb_H) : tb_getf tb_kd A 32 0 3 = some (tb_r 33) := by unfold tb_getf; rw [kd_32]; rfl
theorem gf_32_1 (A : tb_H) : tb_getf tb_kd A 32 1 3 = some (tb_r 34) := by unfold tb_getf; rw [kd_32]; rfl
theorem gf_32_2 (A : tb_H) : tb_getf tb_kd A 32 2 3 = some (tb_r 35) := by unfold tb_getf; rw [kd_32]; rfl
theorem gf_32_3 (A : tb_H) : tb_getf tb_kd A 32 3 3 = some (tb_r 36) := by unfold tb_getf; rw [kd_32]; rfl
theorem gf_32_4 (A : tb_H) : tb_getf tb_kd A 32 4 3 = some (tb_r 37) := by unfold tb_getf; rw [kd_32]; rfl
theorem gf_32_5 (A : tb_H) : tb_getf tb_kd A 32 5 3 = some (tb_i (A.1 32 5)) := by unfold tb_getf; rw [kd_32]; rfl
theorem pf_32_5 (A : tb_H) (x : Int) : tb_putf tb_kd A 32 5 3 (tb_i x) = some (tb_upI A 32 5 x) := by unfold tb_putf; rw [kd_32]; rfl
theorem gf_38_0 (A : tb_H) : tb_getf tb_kd A 38 0 2 = some (tb_r (A.2.2 38 0)) := by unfold tb_getf; rw [kd_38]; rfl
theorem pf_38_0 (A : tb_H) (x : Nat) : tb_putf tb_kd A 38 0 2 (tb_r x) = some (tb_upP A 38 0 x) := by unfold tb_putf; rw [kd_38]; rfl
theorem gf_38_1 (A : tb_H) : tb_getf tb_kd A 38 1 2 = some (tb_r (A.2.2 38 1)) := by unfold tb_getf; rw [kd_38]; rfl
theorem pf_38_1 (A : tb_H) (x : Nat) : tb_putf tb_kd A 38 1 2 (tb_r x) = some (tb_upP A 38 1 x) := by unfold tb_putf; rw [kd_38]; rfl
theorem gf_38_2 (A : tb_H) : tb_getf tb_kd A 38 2 2 = some (tb_r 41) := by unfold tb_getf; rw [kd_38]; rfl
theorem gf_42_0 (A : tb_H) : tb_getf tb_kd A 42 0 9 = some (tb_r 43) := by unfold tb_getf; rw [kd_42]; rfl
theorem gf_42_1 (A : tb_H) : tb_getf tb_kd A 42 1 9 = some (tb_r 44) := by unfold tb_getf; rw [kd_42]; rfl
theorem gf_42_2 (A : tb_H) : tb_getf tb_kd A 42 2 9 = some (tb_i (A.1 42 2)) := by unfold tb_getf; rw [kd_42]; rfl
theorem pf_42_2 (A : tb_H) (x : Int) : tb_putf tb_kd A 42 2 9 (tb_i x) = some (tb_upI A 42 2 x) := by unfold tb_putf; rw [kd_42]; rfl
theorem gf_42_3 (A : tb_H) : tb_getf tb_kd A 42 3 9 = some (tb_r 45) := by unfold tb_getf; rw [kd_42]; rfl
theorem gf_42_4 (A : tb_H) : tb_getf tb_kd A 42 4 9 = some (tb_r (A.2.2 42 4)) := by unfold tb_getf; rw [kd_42]; rfl
theorem pf_42_4 (A : tb_H) (x : Nat) : tb_putf tb_kd A 42 4 9 (tb_r x) = some (tb_upP A 42 4 x) := by unfold tb_putf; rw [kd_42]; rfl
theorem gf_42_5 (A : tb_H) : tb_getf tb_kd A 42 5 9 = some (tb_r (A.2.2 42 5)) := by unfold tb_getf; rw [kd_42]; rfl
theorem pf_42_5 (A : tb_H) (x : Nat) : tb_putf tb_kd A 42 5 9 (tb_r x) = some (tb_upP A 42 5 x) := by unfold tb_putf; rw [kd_42]; rfl
theorem gf_48_0 (A : tb_H) : tb_getf tb_kd A 48 0 1 = some (tb_r 49) := by unfold tb_getf; rw [kd_48]; rfl
theorem gf_48_1 (A : tb_H) : tb_getf tb_kd A 48 1 1 = some (tb_r 50) := by unfold tb_getf; rw [kd_48]; rfl
theorem gf_48_2 (A : tb_H) : tb_getf tb_kd A 48 2 1 = some (tb_r 51) := by unfold tb_getf; rw [kd_48]; rfl
theorem gf_48_3 (A : tb_H) : tb_getf tb_kd A 48 3 1 = some (tb_r 52) := by unfold tb_getf; rw [kd_48]; rfl
theorem gf_48_4 (A : tb_H) : tb_getf tb_kd A 48 4 1 = some (tb_i (A.1 48 4)) := by unfold tb_getf; rw [kd_48]; rfl
theorem pf_48_4 (A : tb_H) (x : Int) : tb_putf tb_kd A 48 4 1 (tb_i x) = some (tb_upI A 48 4 x) := by unfold tb_putf; rw [kd_48]; rfl
theorem gf_53_0 (A : tb_H) : tb_getf tb_kd A 53 0 10 = some (tb_i (A.1 53 0)) := by unfold tb_getf; rw [kd_53]; rfl
theorem pf_53_0 (A : tb_H) (x : Int) : tb_putf tb_kd A 53 0 10 (tb_i x) = some (tb_upI A 53 0 x) := by unfold tb_putf; rw [kd_53]; rfl
theorem gf_53_1 (A : tb_H) : tb_getf tb_kd A 53 1 10 = some (tb_i (A.1 53 1)) := by unfold tb_getf; rw [kd_53]; rfl
theorem pf_53_1 (A : tb_H) (x : Int) : tb_putf tb_kd A 53 1 10 (tb_i x) = some (tb_upI A 53 1 x) := by unfold tb_putf; rw [kd_53]; rfl
theorem gf_53_2 (A : tb_H) : tb_getf tb_kd A 53 2 10 = some (tb_i (A.1 53 2)) := by unfold tb_getf; rw [kd_53]; rfl
theorem pf_53_2 (A : tb_H) (x : Int) : tb_putf tb_kd A 53 2 10 (tb_i x) = some (tb_upI A 53 2 x) := by unfold tb_putf; rw [kd_53]; rfl
theorem gf_53_3 (A : tb_H) : tb_getf tb_kd A 53 3 10 = some (tb_i (A.1 53 3)) := by unfold tb_getf; rw [kd_53]; rfl
theorem pf_53_3 (A : tb_H) (x : Int) : tb_putf tb_kd A 53 3 10 (tb_i x) = some (tb_upI A 53 3 x) := by unfold tb_putf; rw [kd_53]; rfl
theorem gf_53_4 (A : tb_H) : tb_getf tb_kd A 53 4 10 = some (tb_i (A.1 53 4)) := by unfold tb_getf; rw [kd_53]; rfl
theorem pf_53_4 (A : tb_H) (x : Int) : tb_putf tb_kd A 53 4 10 (tb_i x) = some (tb_upI A 53 4 x) := by unfold tb_putf; rw [kd_53]; rfl
theorem gf_53_5 (A : tb_H) : tb_getf tb_kd A 53 5 10 = some (tb_i (A.1 53 5)) := by unfold tb_getf; rw [kd_53]; rfl
theorem pf_53_5 (A : tb_H) (x : Int) : tb_putf tb_kd A 53 5 10 (tb_i x) = some (tb_upI A 53 5 x) := by unfold tb_putf; rw [kd_53]; rfl
theorem gf_53_6 (A : tb_H) : tb_getf tb_kd A 53 6 10 = some (tb_i (A.1 53 6)) := by unfold tb_getf; rw [kd_53]; rfl
theorem pf_53_6 (A : tb_H) (x : Int) : tb_putf tb_kd A 53 6 10 (tb_i x) = some (tb_upI A 53 6 x) := by unfold tb_putf; rw [kd_53]; rfl
theorem gf_53_7 (A : tb_H) : tb_getf tb_kd A 53 7 10 = some (tb_i (A.1 53 7)) := by unfold tb_getf; rw [kd_53]; rfl
theorem pf_53_7 (A : tb_H) (x : Int) : tb_putf tb_kd A 53 7 10 (tb_i x) = some (tb_upI A 53 7 x) := by unfold tb_putf; rw [kd_53]; rfl
theorem gf_53_8 (A : tb_H) : tb_getf tb_kd A 53 8 10 = some (tb_i (A.1 53 8)) := by unfold tb_getf; rw [kd_53]; rfl
theorem pf_53_8 (A : tb_H) (x : Int) : tb_putf tb_kd A 53 8 10 (tb_i x) = some (tb_upI A 53 8 x) := by unfold tb_putf; rw [kd_53]; rfl
theorem gf_53_9 (A : tb_H) : tb_getf tb_kd A 53 9 10 = some (tb_i (A.1 53 9)) := by unfold tb_getf; rw [kd_53]; rfl
theorem pf_53_9 (A : tb_H) (x : Int) : tb_putf tb_kd A 53 9 10 (tb_i x) = some (tb_upI A 53 9 x) := by unfold tb_putf; rw [kd_53]; rfl
theorem gf_53_10 (A : tb_H) : tb_getf tb_kd A 53 10 10 = some (tb_i (A.1 53 10)) := by unfold tb_getf; rw [kd_53]; rfl
theorem pf_53_10 (A : tb_H) (x : Int) : tb_putf tb_kd A 53 10 10 (tb_i x) = some (tb_upI A 53 10 x) := by unfold tb_putf; rw [kd_53]; rfl
theorem gf_53_11 (A : tb_H) : tb_getf tb_kd A 53 11 10 = some (tb_i (A.1 53 11)) := by unfold tb_getf; rw [kd_53]; rfl
theorem pf_53_11 (A : tb_H) (x : Int) : tb_putf tb_kd A 53 11 10 (tb_i x) = some (tb_upI A 53 11 x) := by unfold tb_putf; rw [kd_53]; rfl
theorem gf_53_12 (A : tb_H) : tb_getf tb_kd A 53 12 10 = some (tb_r 54) := by unfold tb_getf; rw [kd_53]; rfl
theorem gf_53_13 (A : tb_H) : tb_getf tb_kd A 53 13 10 = some (tb_r 55) := by unfold tb_getf; rw [kd_53]; rfl
theorem gf_53_14 (A : tb_H) : tb_getf tb_kd A 53 14 10 = some (tb_r 56) := by unfold tb_getf; rw [kd_53]; rfl
theorem gf_53_15 (A : tb_H) : tb_getf tb_kd A 53 15 10 = some (tb_r 57) := by unfold tb_getf; rw [kd_53]; rfl
theorem gf_53_16 (A : tb_H) : tb_getf tb_kd A 53 16 10 = some (tb_r 58) := by unfold tb_getf; rw [kd_53]; rfl
theorem gf_59_0 (A : tb_H) : tb_getf tb_kd A 59 0 10 = some (tb_i (A.1 59 0)) := by unfold tb_getf; rw [kd_59]; rfl
theorem pf_59_0 (A : tb_H) (x : Int) : tb_putf tb_kd A 59 0 10 (tb_i x) = some (tb_upI A 59 0 x) := by unfold tb_putf; rw [kd_59]; rfl
theorem gf_59_1 (A : tb_H) : tb_getf tb_kd A 59 1 10 = some (tb_i (A.1 59 1)) := by unfold tb_getf; rw [kd_59]; rfl
theorem pf_59_1 (A : tb_H) (x : Int) : tb_putf tb_kd A 59 1 10 (tb_i x) = some (tb_upI A 59 1 x) := by unfold tb_putf; rw [kd_59]; rfl
theorem gf_59_2 (A : tb_H) : tb_getf tb_kd A 59 2 10 = some (tb_i (A.1 59 2)) := by unfold tb_getf; rw [kd_59]; rfl
theorem pf_59_2 (A : tb_H) (x : Int) : tb_putf tb_kd A 59 2 10 (tb_i x) = some (tb_upI A 59 2 x) := by unfold tb_putf; rw [kd_59]; rfl
theorem gf_59_3 (A : tb_H) : tb_getf tb_kd A 59 3 10 = some (tb_i (A.1 59 3)) := by unfold tb_getf; rw [kd_59]; rfl
theorem pf_59_3 (A : tb_H) (x : Int) : tb_putf tb_kd A 59 3 10 (tb_i x) = some (tb_upI A 59 3 x) := by unfold tb_putf; rw [kd_59]; rfl
theorem gf_59_4 (A : tb_H) : tb_getf tb_kd A 59 4 10 = some (tb_i (A.1 59 4)) := by unfold tb_getf; rw [kd_59]; rfl
theorem pf_59_4 (A : tb_H) (x : Int) : tb_putf tb_kd A 59 4 10 (tb_i x) = some (tb_upI A 59 4 x) := by unfold tb_putf; rw [kd_59]; rfl
theorem gf_59_5 (A : tb_H) : tb_getf tb_kd A 59 5 10 = some (tb_i (A.1 59 5)) := by unfold tb_getf; rw [kd_59]; rfl
theorem pf_59_5 (A : tb_H) (x : Int) : tb_putf tb_kd A 59 5 10 (tb_i x) = some (tb_upI A 59 5 x) := by unfold tb_putf; rw [kd_59]; rfl
theorem gf_59_6 (A : tb_H) : tb_getf tb_kd A 59 6 10 = some (tb_i (A.1 59 6)) := by unfold tb_getf; rw [kd_59]; rfl
theorem pf_59_6 (A : tb_H) (x : Int) : tb_putf tb_kd A 59 6 10 (tb_i x) = some (tb_upI A 59 6 x) := by unfold tb_putf; rw [kd_59]; rfl
theorem gf_59_7 (A : tb_H) : tb_getf tb_kd A 59 7 10 = some (tb_i (A.1 59 7)) := by unfold tb_getf; rw [kd_59]; rfl
theorem pf_59_7 (A : tb_H) (x : Int) : tb_putf tb_kd A 59 7 10 (tb_i x) = some (tb_upI A 59 7 x) := by unfold tb_putf; rw [kd_59]; rfl
theorem gf_59_8 (A : tb_H) : tb_getf tb_kd A 59 8 10 = some (tb_i (A.1 59 8)) := by unfold tb_getf; rw [kd_59]; rfl
theorem pf_59_8 (A : tb_H) (x : Int) : tb_putf tb_kd A 59 8 10 (tb_i x) = some (tb_upI A 59 8 x) := by unfold tb_putf; rw [kd_59]; rfl
theorem gf_59_9 (A : tb_H) : tb_getf tb_kd A 59 9 10 = some (tb_i (A.1 59 9)) := by unfold tb_getf; rw [kd_59]; rfl
theorem pf_59_9 (A : tb_H) (x : Int) : tb_putf tb_kd A 59 9 10 (tb_i x) = some (tb_upI A 59 9 x) := by unfold tb_putf; rw [kd_59]; rfl
theorem gf_59_10 (A : tb_H) : tb_getf tb_kd A 59 10 10 = some (tb_i (A.1 59 10)) := by unfold tb_getf; rw [kd_59]; rfl
theorem pf_59_10 (A : tb_H) (x : Int) : tb_putf tb_kd A 59 10 10 (tb_i x) = some (tb_upI A 59 10 x) := by unfold tb_putf; rw [kd_59]; rfl
theorem gf_59_11 (A : tb_H) : tb_getf tb_kd A 59 11 10 = some (tb_i (A.1 59 11)) := by unfold tb_getf; rw [kd_59]; rfl
theorem pf_59_11 (A : tb_H) (x : Int) : tb_putf tb_kd A 59 11 10 (tb_i x) = some (tb_upI A 59 11 x) := by unfold tb_putf; rw [kd_59]; rfl
theorem gf_59_12 (A : tb_H) : tb_getf tb_kd A 59 12 10 = some (tb_r 60) := by unfold tb_getf; rw [kd_59]; rfl
theorem gf_59_13 (A : tb_H) : tb_getf tb_kd A 59 13 10 = some (tb_r 61) := by unfold tb_getf; rw [kd_59]; rfl
theorem gf_59_14 (A : tb_H) : tb_getf tb_kd A 59 14 10 = some (tb_r 62) := by unfold tb_getf; rw [kd_59]; rfl
theorem gf_59_15 (A : tb_H) : tb_getf tb_kd A 59 15 10 = some (tb_r 63) := by unfold tb_getf; rw [kd_59]; rfl
theorem gf_59_16 (A : tb_H) : tb_getf tb_kd A 59 16 10 = some (tb_r 64) := by unfold tb_getf; rw [kd_59]; rfl
theorem gf_65_0 (A : tb_H) : tb_getf tb_kd A 65 0 10 = some (tb_i (A.1 65 0)) := by unfold tb_getf; rw [kd_65]; rfl
theorem pf_65_0 (A : tb_H) (x : Int) : tb_putf tb_kd A 65 0 10 (tb_i x) = some (tb_upI A 65 0 x) := by unfold tb_putf; rw [kd_65]; rfl
theorem gf_65_1 (A : tb_H) : tb_getf tb_kd A 65 1 10 = some (tb_i (A.1 65 1)) := by unfold tb_getf; rw [kd_65]; rfl
theorem pf_65_1 (A : tb_H) (x : Int) : tb_putf tb_kd A 65 1 10 (tb_i x) = some (tb_upI A 65 1 x) := by unfold tb_putf; rw [kd_65]; rfl
theorem gf_65_2 (A : tb_H) : tb_getf tb_kd A 65 2 10 = some (tb_i (A.1 65 2)) := by unfold tb_getf; rw [kd_65]; rfl
theorem pf_65_2 (A : tb_H) (x : Int) : tb_putf tb_kd A 65 2 10 (tb_i x) = some (tb_upI A 65 2 x) := by unfold tb_putf; rw [kd_65]; rfl
theorem gf_65_3 (A : tb_H) : tb_getf tb_kd A 65 3 10 = some (tb_i (A.1 65 3)) := by unfold tb_getf; rw [kd_65]; rfl
theorem pf_65_3 (A : tb_H) (x : Int) : tb_putf tb_kd A 65 3 10 (tb_i x) = some (tb_upI A 65 3 x) := by unfold tb_putf; rw [kd_65]; rfl
theorem gf_65_4 (A : tb_H) : tb_getf tb_kd A 65 4 10 = some (tb_i (A.1 65 4)) := by unfold tb_getf; rw [kd_65]; rfl
theorem pf_65_4 (A : tb_H) (x : Int) : tb_putf tb_kd A 65 4 10 (tb_i x) = some (tb_upI A 65 4 x) := by unfold tb_putf; rw [kd_65]; rfl
theorem gf_65_5 (A : tb_H) : tb_getf tb_kd A 65 5 10 = some (tb_i (A.1 65 5)) := by unfold tb_getf; rw [kd_65]; rfl
theorem pf_65_5 (A : tb_H) (x : Int) : tb_putf tb_kd A 65 5 10 (tb_i x) = some (tb_upI A 65 5 x) := by unfold tb_putf; rw [kd_65]; rfl
theorem gf_65_6 (A : tb_H) : tb_getf tb_kd A 65 6 10 = some (tb_i (A.1 65 6)) := by unfold tb_getf; rw [kd_65]; rfl
theorem pf_65_6 (A : tb_H) (x : Int) : tb_putf tb_kd A 65 6 10 (tb_i x) = some (tb_upI A 65 6 x) := by unfold tb_putf; rw [kd_65]; rfl
theorem gf_65_7 (A : tb_H) : tb_getf tb_kd A 65 7 10 = some (tb_i (A.1 65 7)) := by unfold tb_getf; rw [kd_65]; rfl
theorem pf_65_7 (A : tb_H) (x : Int) : tb_putf tb_kd A 65 7 10 (tb_i x) = some (tb_upI A 65 7 x) := by unfold tb_putf; rw [kd_65]; rfl
theorem gf_65_8 (A : tb_H) : tb_getf tb_kd A 65 8 10 = some (tb_i (A.1 65 8)) := by unfold tb_getf; rw [kd_65]; rfl
theorem pf_65_8 (A : tb_H) (x : Int) : tb_putf tb_kd A 65 8 10 (tb_i x) = some (tb_upI A 65 8 x) := by unfold tb_putf; rw [kd_65]; rfl
theorem gf_65_9 (A : tb_H) : tb_getf tb_kd A 65 9 10 = some (tb_i (A.1 65 9)) := by unfold tb_getf; rw [kd_65]; rfl
theorem pf_65_9 (A : tb_H) (x : Int) : tb_putf tb_kd A 65 9 10 (tb_i x) = some (tb_upI A 65 9 x) := by unfold tb_putf; rw [kd_65]; rfl
theorem gf_65_10 (A : tb_H) : tb_getf tb_kd A 65 10 10 = some (tb_i (A.1 65 10)) := by unfold tb_getf; rw [kd_65]; rfl
theorem pf_65_10 (A : tb_H) (x : Int) : tb_putf tb_kd A 65 10 10 (tb_i x) = some (tb_upI A 65 10 x) := by unfold tb_putf; rw [kd_65]; rfl
theorem gf_65_11 (A : tb_H) : tb_getf tb_kd A 65 11 10 = some (tb_i (A.1 65 11)) := by unfold tb_getf; rw [kd_65]; rfl
theorem pf_65_11 (A : tb_H) (x : Int) : tb_putf tb_kd A 65 11 10 (tb_i x) = some (tb_upI A 65 11 x) := by unfold tb_putf; rw [kd_65]; rfl
theorem gf_65_12 (A : tb_H) : tb_getf tb_kd A 65 12 10 = some (tb_r 66) := by unfold tb_getf; rw [kd_65]; rfl
theorem gf_65_13 (A : tb_H) : tb_getf tb_kd A 65 13 10 = some (tb_r 67) := by unfold tb_getf; rw [kd_65]; rfl
theorem gf_65_14 (A : tb_H) : tb_getf tb_kd A 65 14 10 = some (tb_r 68) := by unfold tb_getf; rw [kd_65]; rfl
theorem gf_65_15 (A : tb_H) : tb_getf tb_kd A 65 15 10 = some (tb_r 69) := by unfold tb_getf; rw [kd_65]; rfl
theorem gf_65_16 (A : tb_H) : tb_getf tb_kd A 65 16 10 = some (tb_r 70) := by unfold tb_getf; rw [kd_65]; rfl
theorem gf_71_0 (A : tb_H) : tb_getf tb_kd A 71 0 10 = some (tb_i (A.1 71 0)) := by unfold tb_getf; rw [kd_71]; rfl
theorem pf_71_0 (A : tb_H) (x : Int) : tb_putf tb_kd A 71 0 10 (tb_i x) = some (tb_upI A 71 0 x) := by unfold tb_putf; rw [kd_71]; rfl
theorem gf_71_1 (A : tb_H) : tb_getf tb_kd A 71 1 10 = some (tb_i (A.1 71 1)) := by unfold tb_getf; rw [kd_71]; rfl
theorem pf_71_1 (A : tb_H) (x : Int) : tb_putf tb_kd A 71 1 10 (tb_i x) = some (tb_upI A 71 1 x) := by unfold tb_putf; rw [kd_71]; rfl
theorem gf_71_2 (A : tb_H) : tb_getf tb_kd A 71 2 10 = some (tb_i (A.1 71 2)) := by unfold tb_getf; rw [kd_71]; rfl
theorem pf_71_2 (A : tb_H) (x : Int) : tb_putf tb_kd A 71 2 10 (tb_i x) = some (tb_upI A 71 2 x) := by unfold tb_putf; rw [kd_71]; rfl
theorem gf_71_3 (A : tb_H) : tb_getf tb_kd A 71 3 10 = some (tb_i (A.1 71 3)) := by unfold tb_getf; rw [kd_71]; rfl
theorem pf_71_3 (A : tb_H) (x : Int) : tb_putf tb_kd A 71 3 10 (tb_i x) = some (tb_upI A 71 3 x) := by unfold tb_putf; rw [kd_71]; rfl
theorem gf_71_4 (A : tb_H) : tb_getf tb_kd A 71 4 10 = some (tb_i (A.1 71 4)) := by unfold tb_getf; rw [kd_71]; rfl
theorem pf_71_4 (A : tb_H) (x : Int) : tb_putf tb_kd A 71 4 10 (tb_i x) = some (tb_upI A 71 4 x) := by unfold tb_putf; rw [kd_71]; rfl
theorem gf_71_5 (A : tb_H) : tb_getf tb_kd A 71 5 10 = some (tb_i (A.1 71 5)) := by unfold tb_getf; rw [kd_71]; rfl
theorem pf_71_5 (A : tb_H) (x : Int) : tb_putf tb_kd A 71 5 10 (tb_i x) = some (tb_upI A 71 5 x) := by unfold tb_putf; rw [kd_71]; rfl
theorem gf_71_6 (A : tb_H) : tb_getf tb_kd A 71 6 10 = some (tb_i (A.1 71 6)) := by unfold tb_getf; rw [kd_71]; rfl
theorem pf_71_6 (A : tb_H) (x : Int) : tb_putf tb_kd A 71 6 10 (tb_i x) = some (tb_upI A 71 6 x) := by unfold tb_putf; rw [kd_71]; rfl
theorem gf_71_7 (A : tb_H) : tb_getf tb_kd A 71 7 10 = some (tb_i (A.1 71 7)) := by unfold tb_getf; rw [kd_71]; rfl
theorem pf_71_7 (A : tb_H) (x : Int) : tb_putf tb_kd A 71 7 10 (tb_i x) = some (tb_upI A 71 7 x) := by unfold tb_putf; rw [kd_71]; rfl
theorem gf_71_8 (A : tb_H) : tb_getf tb_kd A 71 8 10 = some (tb_i (A.1 71 8)) := by unfold tb_getf; rw [kd_71]; rfl
theorem pf_71_8 (A : tb_H) (x : Int) : tb_putf tb_kd A 71 8 10 (tb_i x) = some (tb_upI A 71 8 x) := by unfold tb_putf; rw [kd_71]; rfl
theorem gf_71_9 (A : tb_H) : tb_getf tb_kd A 71 9 10 = some (tb_i (A.1 71 9)) := by unfold tb_getf; rw [kd_71]; rfl
theorem pf_71_9 (A : tb_H) (x : Int) : tb_putf tb_kd A 71 9 10 (tb_i x) = some (tb_upI A 71 9 x) := by unfold tb_putf; rw [kd_71]; rfl
theorem gf_71_10 (A : tb_H) : tb_getf tb_kd A 71 10 10 = some (tb_i (A.1 71 10)) := by unfold tb_getf; rw [kd_71]; rfl
theorem pf_71_10 (A : tb_H) (x : Int) : tb_putf tb_kd A 71 10 10 (tb_i x) = some (tb_upI A 71 10 x) := by unfold tb_putf; rw [kd_71]; rfl
theorem gf_71_11 (A : tb_H) : tb_getf tb_kd A 71 11 10 = some (tb_i (A.1 71 11)) := by unfold tb_getf; rw [kd_71]; rfl
theorem pf_71_11 (A : tb_H) (x : Int) : tb_putf tb_kd A 71 11 10 (tb_i x) = some (tb_upI A 71 11 x) := by unfold tb_putf; rw [kd_71]; rfl
theorem gf_71_12 (A : tb_H) : tb_getf tb_kd A 71 12 10 = some (tb_r 72) := by unfold tb_getf; rw [kd_71]; rfl
theorem gf_71_13 (A : tb_H) : tb_getf tb_kd A 71 13 10 = some (tb_r 73) := by unfold tb_getf; rw [kd_71]; rfl
theorem gf_71_14 (A : tb_H) : tb_getf tb_kd A 71 14 10 = some (tb_r 74) := by unfold tb_getf; rw [kd_71]; rfl
theorem gf_71_15 (A : tb_H) : tb_getf tb_kd A 71 15 10 = some (tb_r 75) := by unfold tb_getf; rw [kd_71]; rfl
theorem gf_71_16 (A : tb_H) : tb_getf tb_kd A 71 16 10 = some (tb_r 76) := by unfold tb_getf; rw [kd_71]; rfl
theorem gf_77_0 (A : tb_H) : tb_getf tb_kd A 77 0 12 = some (tb_i (A.1 77 0)) := by unfold tb_getf; rw [kd_77]; rfl
theorem pf_77_0 (A : tb_H) (x : Int) : tb_putf tb_kd A 77 0 12 (tb_i x) = some (tb_upI A 77 0 x) := by unfold tb_putf; rw [kd_77]; rfl
theorem gf_77_1 (A : tb_H) : tb_getf tb_kd A 77 1 12 = some (tb_r 78) := by unfold tb_getf; rw [kd_77]; rfl
theorem gf_77_2 (A : tb_H) : tb_getf tb_kd A 77 2 12 = some (tb_i (A.1 77 2)) := by unfold tb_getf; rw [kd_77]; rfl
theorem pf_77_2 (A : tb_H) (x : Int) : tb_putf tb_kd A 77 2 12 (tb_i x) = some (tb_upI A 77 2 x) := by unfold tb_putf; rw [kd_77]; rfl
theorem gf_77_3 (A : tb_H) : tb_getf tb_kd A 77 3 12 = some (tb_i (A.1 77 3)) := by unfold tb_getf; rw [kd_77]; rfl
theorem pf_77_3 (A : tb_H) (x : Int) : tb_putf tb_kd A 77 3 12 (tb_i x) = some (tb_upI A 77 3 x) := by unfold tb_putf; rw [kd_77]; rfl
theorem gf_77_4 (A : tb_H) : tb_getf tb_kd A 77 4 12 = some (tb_i (A.1 77 4)) := by unfold tb_getf; rw [kd_77]; rfl
theorem pf_77_4 (A : tb_H) (x : Int) : tb_putf tb_kd A 77 4 12 (tb_i x) = some (tb_upI A 77 4 x) := by unfold tb_putf; rw [kd_77]; rfl
theorem gf_77_5 (A : tb_H) : tb_getf tb_kd A 77 5 12 = some (tb_i (A.1 77 5)) := by unfold tb_getf; rw [kd_77]; rfl
theorem pf_77_5 (A : tb_H) (x : Int) : tb_putf tb_kd A 77 5 12 (tb_i x) = some (tb_upI A 77 5 x) := by unfold tb_putf; rw [kd_77]; rfl
theorem gf_77_6 (A : tb_H) : tb_getf tb_kd A 77 6 12 = some (tb_i (A.1 77 6)) := by unfold tb_getf; rw [kd_77]; rfl
theorem pf_77_6 (A : tb_H) (x : Int) : tb_putf tb_kd A 77 6 12 (tb_i x) = some (tb_upI A 77 6 x) := by unfold tb_putf; rw [kd_77]; rfl
theorem gf_77_7 (A : tb_H) : tb_getf tb_kd A 77 7 12 = some (tb_i (A.1 77 7)) := by unfold tb_getf; rw [kd_77]; rfl
theorem pf_77_7 (A : tb_H) (x : Int) : tb_putf tb_kd A 77 7 12 (tb_i x) = some (tb_upI A 77 7 x) := by unfold tb_putf; rw [kd_77]; rfl
theorem gf_77_8 (A : tb_H) : tb_getf tb_kd A 77 8 12 = some (tb_i (A.1 77 8)) := by unfold tb_getf; rw [kd_77]; rfl
theorem pf_77_8 (A : tb_H) (x : Int) : tb_putf tb_kd A 77 8 12 (tb_i x) = some (tb_upI A 77 8 x) := by unfold tb_putf; rw [kd_77]; rfl
theorem gf_77_9 (A : tb_H) : tb_getf tb_kd A 77 9 12 = some (tb_i (A.1 77 9)) := by unfold tb_getf; rw [kd_77]; rfl
theorem pf_77_9 (A : tb_H) (x : Int) : tb_putf tb_kd A 77 9 12 (tb_i x) = some (tb_upI A 77 9 x) := by unfold tb_putf; rw [kd_77]; rfl
theorem gf_77_10 (A : tb_H) : tb_getf tb_kd A 77 10 12 = some (tb_i (A.1 77 10)) := by unfold tb_getf; rw [kd_77]; rfl
theorem pf_77_10 (A : tb_H) (x : Int) : tb_putf tb_kd A 77 10 12 (tb_i x) = some (tb_upI A 77 10 x) := by unfold tb_putf; rw [kd_77]; rfl
theorem gf_77_11 (A : tb_H) : tb_getf tb_kd A 77 11 12 = some (tb_i (A.1 77 11)) := by unfold tb_getf; rw [kd_77]; rfl
theorem pf_77_11 (A : tb_H) (x : Int) : tb_putf tb_kd A 77 11 12 (tb_i x) = some (tb_upI A 77 11 x) := by unfold tb_putf; rw [kd_77]; rfl
theorem gf_77_12 (A : tb_H) : tb_getf tb_kd A 77 12 12 = some (tb_r 79) := by unfold tb_getf; rw [kd_77]; rfl
theorem gf_77_13 (A : tb_H) : tb_getf tb_kd A 77 13 12 = some (tb_i (A.1 77 13)) := by unfold tb_getf; rw [kd_77]; rfl
theorem pf_77_13 (A : tb_H) (x : Int) (h : x = 0 ∨ x = 1) : tb_putf tb_kd A 77 13 12 (tb_i x) = some (tb_upI A 77 13 x) := by unfold tb_putf; rw [kd_77]; exact if_pos h
theorem gf_77_14 (A : tb_H) : tb_getf tb_kd A 77 14 12 = some (tb_i (A.1 77 14)) := by unfold tb_getf; rw [kd_77]; rfl
theorem pf_77_14 (A : tb_H) (x : Int) (h : x = 0 ∨ x = 1) : tb_putf tb_kd A 77 14 12 (tb_i x) = some (tb_upI A 77 14 x) := by unfold tb_putf; rw [kd_77]; exact if_pos h
theorem gf_77_15 (A : tb_H) : tb_getf tb_kd A 77 15 12 = some (tb_r 80) := by unfold tb_getf; rw [kd_77]; rfl
theorem gf_77_16 (A : tb_H) : tb_getf tb_kd A 77 16 12 = some (tb_r 81) := by unfold tb_getf; rw [kd_77]; rfl
theorem gf_77_17 (A : tb_H) : tb_getf tb_kd A 77 17 12 = some (tb_r 82) := by unfold tb_getf; rw [kd_77]; rfl
theorem gf_77_18 (A : tb_H) : tb_getf tb_kd A 77 18 12 = some (tb_r 83) := by unfold tb_getf; rw [kd_77]; rfl
theorem gf_77_19 (A : tb_H) : tb_getf tb_kd A 77 19 12 = some (tb_i (A.1 77 19)) := by unfold tb_getf; rw [kd_77]; rfl
theorem pf_77_19 (A : tb_H) (x : Int) : tb_putf tb_kd A 77 19 12 (tb_i x) = some (tb_upI A 77 19 x) := by unfold tb_putf; rw [kd_77]; rfl
theorem gf_77_20 (A : tb_H) : tb_getf tb_kd A 77 20 12 = some (tb_r 84) := by unfold tb_getf; rw [kd_77]; rfl
theorem gf_77_21 (A : tb_H) : tb_getf tb_kd A 77 21 12 = some (tb_r 85) := by unfold tb_getf; rw [kd_77]; rfl
theorem gf_77_22 (A : tb_H) : tb_getf tb_kd A 77 22 12 = some (tb_r 86) := by unfold tb_getf; rw [kd_77]; rfl
theorem gf_77_23 (A : tb_H) : tb_getf tb_kd A 77 23 12 = some (tb_i (A.1 77 23)) := by unfold tb_getf; rw [kd_77]; rfl
theorem pf_77_23 (A : tb_H) (x : Int) : tb_putf tb_kd A 77 23 12 (tb_i x) = some (tb_upI A 77 23 x) := by unfold tb_putf; rw [kd_77]; rfl
theorem gf_77_24 (A : tb_H) : tb_getf tb_kd A 77 24 12 = some (tb_r 87) := by unfold tb_getf; rw [kd_77]; rfl
theorem gf_77_25 (A : tb_H) : tb_getf tb_kd A 77 25 12 = some (tb_r 88) := by unfold tb_getf; rw [kd_77]; rfl
theorem gf_77_26 (A : tb_H) : tb_getf tb_kd A 77 26 12 = some (tb_r 89) := by unfold tb_getf; rw [kd_77]; rfl
theorem gf_77_27 (A : tb_H) : tb_getf tb_kd A 77 27 12 = some (tb_i (A.1 77 27)) := by unfold tb_getf; rw [kd_77]; rfl
theorem pf_77_27 (A : tb_H) (x : Int) : tb_putf tb_kd A 77 27 12 (tb_i x) = some (tb_upI A 77 27 x) := by unfold tb_putf; rw [kd_77]; rfl
theorem gf_77_28 (A : tb_H) : tb_getf tb_kd A 77 28 12 = some (tb_i (A.1 77 28)) := by unfold tb_getf; rw [kd_77]; rfl
theorem pf_77_28 (A : tb_H) (x : Int) : tb_putf tb_kd A 77 28 12 (tb_i x) = some (tb_upI A 77 28 x) := by unfold tb_putf; rw [kd_77]; rfl
theorem gf_77_29 (A : tb_H) : tb_getf tb_kd A 77 29 12 = some (tb_i (A.1 77 29)) := by unfold tb_getf; rw [kd_77]; rfl
theorem pf_77_29 (A : tb_H) (x : Int) : tb_putf tb_kd A 77 29 12 (tb_i x) = some (tb_upI A 77 29 x) := by unfold tb_putf; rw [kd_77]; rfl
theorem gf_77_30 (A : tb_H) : tb_getf tb_kd A 77 30 12 = some (tb_i (A.1 77 30)) := by unfold tb_getf; rw [kd_77]; rfl
theorem pf_77_30 (A : tb_H) (x : Int) : tb_putf tb_kd A 77 30 12 (tb_i x) = some (tb_upI A 77 30 x) := by unfold tb_putf; rw [kd_77]; rfl
theorem gf_77_31 (A : tb_H) : tb_getf tb_kd A 77 31 12 = some (tb_r 90) := by unfold tb_getf; rw [kd_77]; rfl
theorem gf_77_32 (A : tb_H) : tb_getf tb_kd A 77 32 12 = some (tb_r 91) := by unfold tb_getf; rw [kd_77]; rfl
theorem gf_77_33 (A : tb_H) : tb_getf tb_kd A 77 33 12 = some (tb_r 92) := by unfold tb_getf; rw [kd_77]; rfl
theorem gf_77_34 (A : tb_H) : tb_getf tb_kd A 77 34 12 = some (tb_r 93) := by unfold tb_getf; rw [kd_77]; rfl
theorem gf_77_35 (A : tb_H) : tb_getf tb_kd A 77 35 12 = some (tb_r 94) := by unfold tb_getf; rw [kd_77]; rfl
theorem gf_77_36 (A : tb_H) : tb_getf tb_kd A 77 36 12 = some (tb_r 95) := by unfold tb_getf; rw [kd_77]; rfl
theorem gf_77_37 (A : tb_H) : tb_getf tb_kd A 77 37 12 = some (tb_r 96) := by unfold tb_getf; rw [kd_77]; rfl
theorem gf_77_38 (A : tb_H) : tb_getf tb_kd A 77 38 12 = some (tb_r 97) := by unfold tb_getf; rw [kd_77]; rfl
theorem gf_77_39 (A : tb_H) : tb_getf tb_kd A 77 39 12 = some (tb_r 98) := by unfold tb_getf; rw [kd_77]; rfl
theorem gf_77_40 (A : tb_H) : tb_getf tb_kd A 77 40 12 = some (tb_r 99) := by unfold tb_getf; rw [kd_77]; rfl
theorem gf_77_41 (A : tb_H) : tb_getf tb_kd A 77 41 12 = some (tb_r 100) := by unfold tb_getf; rw [kd_77]; rfl
/-- a beast and its rows, a state and its rows -/
def tb_isB (b : Nat) : Prop := tb_kd b = (0, 1, [1001, 1002, 1003, 1004, 0]) ∧ tb_kd (b + 1) = (1, 9, [0]) ∧ tb_kd (b + 2) = (1, 432, [0]) ∧ tb_kd (b + 3) = (1, 22, [3]) ∧ tb_kd (b + 4) = (1, 22, [0])
def tb_isS (s : Nat) : Prop := tb_kd s = (0, 10, [0, 0, 0, 0, 0, 0, 0, 0, 0, 0, 0, 0, 1001, 1002, 1003, 1004, 1005]) ∧ tb_kd (s + 1) = (1, 6, [0]) ∧ tb_kd (s + 2) = (1, 4, [0]) ∧ tb_kd (s + 3) = (1, 4, [0]) ∧ tb_kd (s + 4) = (1, 8, [0]) ∧ tb_kd (s + 5) = (1, 201, [0])
theorem tb_isB11 : tb_isB 11 := ⟨kd_11, kd_12, kd_13, kd_14, kd_15⟩
theorem tb_isB48 : tb_isB 48 := ⟨kd_48, kd_49, kd_50, kd_51, kd_52⟩
theorem tb_isS5 : tb_isS 5 := ⟨kd_5, kd_6, kd_7, kd_8, kd_9, kd_10⟩
theorem tb_isIm {i : Int} (h : 0 ≤ i ∧ i < 4) : tb_isS (53 + 6 * i.toNat) := by
  obtain ⟨h0, h1⟩ := h
  have : i = 0 ∨ i = 1 ∨ i = 2 ∨ i = 3 := by omega
  rcases this with rfl | rfl | rfl | rfl
  · exact ⟨kd_53, kd_54, kd_55, kd_56, kd_57, kd_58⟩
  · exact ⟨kd_59, kd_60, kd_61, kd_62, kd_63, kd_64⟩
  · exact ⟨kd_65, kd_66, kd_67, kd_68, kd_69, kd_70⟩
  · exact ⟨kd_71, kd_72, kd_73, kd_74, kd_75, kd_76⟩
section TBFLD
variable {X : tb_X} {A : tb_H}
theorem tb_gB0 {b : Nat} (h : tb_isB b) : tb_getf tb_kd A b 0 1 = some (tb_r (b + 1)) := by unfold tb_getf; rw [h.1]; rfl
theorem tb_gB1 {b : Nat} (h : tb_isB b) : tb_getf tb_kd A b 1 1 = some (tb_r (b + 2)) := by unfold tb_getf; rw [h.1]; rfl
theorem tb_gB2 {b : Nat} (h : tb_isB b) : tb_getf tb_kd A b 2 1 = some (tb_r (b + 3)) := by unfold tb_getf; rw [h.1]; rfl
theorem tb_gB3 {b : Nat} (h : tb_isB b) : tb_getf tb_kd A b 3 1 = some (tb_r (b + 4)) := by unfold tb_getf; rw [h.1]; rfl
theorem tb_gB4 {b : Nat} (h : tb_isB b) : tb_getf tb_kd A b 4 1 = some (tb_i (A.1 b 4)) := by unfold tb_getf; rw [h.1]; rfl
theorem tb_pB4 {b : Nat} {x : Int} (h : tb_isB b) : tb_putf tb_kd A b 4 1 (tb_i x) = some (tb_upI A b 4 x) := by unfold tb_putf; rw [h.1]; rfl
theorem tb_gS12 {s : Nat} (h : tb_isS s) : tb_getf tb_kd A s 12 10 = some (tb_r (s + 1)) := by unfold tb_getf; rw [h.1]; rfl
theorem tb_gS13 {s : Nat} (h : tb_isS s) : tb_getf tb_kd A s 13 10 = some (tb_r (s + 2)) := by unfold tb_getf; rw [h.1]; rfl
theorem tb_gS14 {s : Nat} (h : tb_isS s) : tb_getf tb_kd A s 14 10 = some (tb_r (s + 3)) := by unfold tb_getf; rw [h.1]; rfl
theorem tb_gS15 {s : Nat} (h : tb_isS s) : tb_getf tb_kd A s 15 10 = some (tb_r (s + 4)) := by unfold tb_getf; rw [h.1]; rfl
theorem tb_gS16 {s : Nat} (h : tb_isS s) : tb_getf tb_kd A s 16 10 = some (tb_r (s + 5)) := by unfold tb_getf; rw [h.1]; rfl
theorem tb_gS {s k : Nat} (h : tb_isS s) (hk : k < 12) : tb_getf tb_kd A s k 10 = some (tb_i (A.1 s k)) := by
  unfold tb_getf; rw [h.1]
  match k, hk with
  | 0, _ | 1, _ | 2, _ | 3, _ | 4, _ | 5, _ | 6, _ | 7, _ | 8, _ | 9, _ | 10, _ | 11, _ => rfl
theorem tb_pS {s k : Nat} {x : Int} (h : tb_isS s) (hk : k < 12) : tb_putf tb_kd A s k 10 (tb_i x) = some (tb_upI A s k x) := by
  unfold tb_putf; rw [h.1]
  match k, hk with
  | 0, _ | 1, _ | 2, _ | 3, _ | 4, _ | 5, _ | 6, _ | 7, _ | 8, _ | 9, _ | 10, _ | 11, _ => rfl
theorem tb_gs0 {w kb : Nat} (h : tb_kd w = (4, 0, [100 + kb, 0])) : tb_getf tb_kd A w 0 99 = some (tb_r kb) := by
  unfold tb_getf; rw [h]
  show (if 99 = 99 then some (if 100 ≤ 100 + kb then tb_r (100 + kb - 100) else tb_i ((100 + kb : Nat) : Int)) else none) = _
  rw [if_pos rfl, if_pos (by omega), Nat.add_sub_cancel_left]
theorem tb_gs1 {w kb : Nat} (h : tb_kd w = (4, 0, [100 + kb, 0])) : tb_getf tb_kd A w 1 99 = some (tb_i 0) := by unfold tb_getf; rw [h]; rfl
theorem tb_ln {q n : Nat} {t : List Nat} (h : tb_kd q = (1, n, t)) : tb_len tb_kd X q = some n := by unfold tb_len; rw [h]; rfl
theorem tb_lnr {q n : Nat} {t : List Nat} (h : tb_kd q = (2, n, t)) : tb_len tb_kd X q = some n := by unfold tb_len; rw [h]; rfl
theorem tb_lnc {q n : Nat} {t : List Nat} (h : tb_kd q = (3, n, t)) : tb_len tb_kd X q = some n := by unfold tb_len; rw [h]; rfl
theorem tb_lnS {q n : Nat} {t : List Nat} (h : tb_kd q = (5, n, t)) : tb_len tb_kd X q = some X.2 := by unfold tb_len; rw [h]; rfl
theorem tb_cpk {o q k0 k1 : Nat} {sp dp n : Int} (h0 : tb_kd o = (1, k0, [0])) (h1 : tb_kd q = (1, k1, [0])) (h : 0 ≤ sp ∧ 0 ≤ dp ∧ 0 ≤ n ∧ sp + n ≤ k0 ∧ dp + n ≤ k1) : tb_acpy tb_kd A o sp q dp n = some (tb_cpy A o sp q dp n) := by unfold tb_acpy; rw [h0, h1]; exact if_pos h
theorem tb_01 {x : Int} (h : x = 0 ∨ x = 1) : x = 0 ∨ x = 1 := h
/-- what each kind of method hands back -/
def tb_Ri (y : Nat) (K : Int → tb_H → Prop) : tb_Q := tb_R tb_P y (fun r A1 => ∃ v, r = [tb_i v] ∧ K v A1)
def tb_Rj (y : Nat) (K : Int → tb_H → Prop) : tb_Q := tb_R tb_P y (fun r A1 => ∃ v, r = [tb_j v] ∧ K v A1)
def tb_Rr (y : Nat) (K : tb_V → tb_H → Prop) : tb_Q := tb_R tb_P y (fun r A1 => ∃ v, r = [v] ∧ K v A1)
def tb_Rv (y : Nat) (K : tb_H → Prop) : tb_Q := tb_R tb_P y (fun r A1 => r = [] ∧ K A1)
theorem tb_ip {y pc : Nat} {lv st : List tb_V} {Q : tb_Q} {c : Prop} [Decidable c] {a b : Int} (h : c) (K : tb_E X y pc lv (tb_i (if c then a else b) :: st) A Q) : tb_E X y pc lv (tb_i a :: st) A Q := by rw [if_pos h] at K; exact K
theorem tb_ine {y pc : Nat} {lv st : List tb_V} {Q : tb_Q} {c : Prop} [Decidable c] {a b : Int} (h : ¬ c) (K : tb_E X y pc lv (tb_i (if c then a else b) :: st) A Q) : tb_E X y pc lv (tb_i b :: st) A Q := by rw [if_neg h] at K; exact K
theorem tb_eqv {y pc : Nat} {lv st : List tb_V} {Q : tb_Q} {u v : tb_V} (h : u = v) (K : tb_E X y pc lv (v :: st) A Q) : tb_E X y pc lv (u :: st) A Q := by rw [h]; exact K
end TBFLD

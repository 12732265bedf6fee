/-! the heap behind both constructors, as a state -/
def S0 : ST := (fun q => if q = 211 then upd (fun _ => 0) 0 4 else fun _ => 0, fun q k => if (q = 3 ∨ q = 9 ∨ q = 188 ∨ q = 198) ∧ k = 0 then 4 else 0, fun _ => 0, fun q => if q = 21 then rw3 15 else if q = 79 then rw3 73 else if q = 136 then rw3 130 else if q = 72 then rw4 else fun _ => none)
theorem ce_0 : cellOf S0 0 = (.inr (.inr (8, [.ref 1, .ref 3, .ref 9, .ref 15, .ref 72, .int 0, .ref 187, .ref 196, .ref 205, .long 0])) : SC) := rfl
theorem ce_1 : cellOf S0 1 = (.inr (.inr (5, [.ref 2, .int 0, .int 0])) : SC) := rfl
theorem ce_2 : cellOf S0 2 = (.inl (0, 120, fun _ => 0) : SC) := rfl
theorem ce_3 : cellOf S0 3 = (.inr (.inr (6, [.int 4, .int 0, .int 0, .ref 4, .ref 5, .ref 6, .ref 7, .ref 8])) : SC) := rfl
theorem ce_4 : cellOf S0 4 = (.inl (0, 9, fun _ => 0) : SC) := rfl
theorem ce_5 : cellOf S0 5 = (.inl (0, 9, fun _ => 0) : SC) := rfl
theorem ce_6 : cellOf S0 6 = (.inl (0, 9, fun _ => 0) : SC) := rfl
theorem ce_7 : cellOf S0 7 = (.inl (0, 6, fun _ => 0) : SC) := rfl
theorem ce_8 : cellOf S0 8 = (.inl (0, 6, fun _ => 0) : SC) := rfl
theorem ce_9 : cellOf S0 9 = (.inr (.inr (6, [.int 4, .int 0, .int 0, .ref 10, .ref 11, .ref 12, .ref 13, .ref 14])) : SC) := rfl
theorem ce_10 : cellOf S0 10 = (.inl (0, 9, fun _ => 0) : SC) := rfl
theorem ce_11 : cellOf S0 11 = (.inl (0, 9, fun _ => 0) : SC) := rfl
theorem ce_12 : cellOf S0 12 = (.inl (0, 9, fun _ => 0) : SC) := rfl
theorem ce_13 : cellOf S0 13 = (.inl (0, 6, fun _ => 0) : SC) := rfl
theorem ce_14 : cellOf S0 14 = (.inl (0, 6, fun _ => 0) : SC) := rfl
theorem ce_15 : cellOf S0 15 = (.inr (.inr (3, [.ref 16, .ref 21, .int 0])) : SC) := rfl
theorem ce_16 : cellOf S0 16 = (.inr (.inr (2, [.ref 17, .ref 18, .ref 19, .ref 20, .int 0])) : SC) := rfl
theorem ce_17 : cellOf S0 17 = (.inl (0, 9, fun _ => 0) : SC) := rfl
theorem ce_18 : cellOf S0 18 = (.inl (0, 9, fun _ => 0) : SC) := rfl
theorem ce_19 : cellOf S0 19 = (.inl (0, 9, fun _ => 0) : SC) := rfl
theorem ce_20 : cellOf S0 20 = (.inl (0, 6, fun _ => 0) : SC) := rfl
theorem ce_21 : cellOf S0 21 = (.inr (.inl (3, 10, rw3 15)) : SC) := rfl
theorem ce_22 : cellOf S0 22 = (.inr (.inr (2, [.ref 23, .ref 24, .ref 25, .ref 26, .int 0])) : SC) := rfl
theorem ce_23 : cellOf S0 23 = (.inl (0, 9, fun _ => 0) : SC) := rfl
theorem ce_24 : cellOf S0 24 = (.inl (0, 9, fun _ => 0) : SC) := rfl
theorem ce_25 : cellOf S0 25 = (.inl (0, 9, fun _ => 0) : SC) := rfl
theorem ce_26 : cellOf S0 26 = (.inl (0, 6, fun _ => 0) : SC) := rfl
theorem ce_27 : cellOf S0 27 = (.inr (.inr (2, [.ref 28, .ref 29, .ref 30, .ref 31, .int 0])) : SC) := rfl
theorem ce_28 : cellOf S0 28 = (.inl (0, 9, fun _ => 0) : SC) := rfl
theorem ce_29 : cellOf S0 29 = (.inl (0, 9, fun _ => 0) : SC) := rfl
theorem ce_30 : cellOf S0 30 = (.inl (0, 9, fun _ => 0) : SC) := rfl
theorem ce_31 : cellOf S0 31 = (.inl (0, 6, fun _ => 0) : SC) := rfl
theorem ce_32 : cellOf S0 32 = (.inr (.inr (2, [.ref 33, .ref 34, .ref 35, .ref 36, .int 0])) : SC) := rfl
theorem ce_33 : cellOf S0 33 = (.inl (0, 9, fun _ => 0) : SC) := rfl
theorem ce_34 : cellOf S0 34 = (.inl (0, 9, fun _ => 0) : SC) := rfl
theorem ce_35 : cellOf S0 35 = (.inl (0, 9, fun _ => 0) : SC) := rfl
theorem ce_36 : cellOf S0 36 = (.inl (0, 6, fun _ => 0) : SC) := rfl
theorem ce_37 : cellOf S0 37 = (.inr (.inr (2, [.ref 38, .ref 39, .ref 40, .ref 41, .int 0])) : SC) := rfl
theorem ce_38 : cellOf S0 38 = (.inl (0, 9, fun _ => 0) : SC) := rfl
theorem ce_39 : cellOf S0 39 = (.inl (0, 9, fun _ => 0) : SC) := rfl
theorem ce_40 : cellOf S0 40 = (.inl (0, 9, fun _ => 0) : SC) := rfl
theorem ce_41 : cellOf S0 41 = (.inl (0, 6, fun _ => 0) : SC) := rfl
theorem ce_42 : cellOf S0 42 = (.inr (.inr (2, [.ref 43, .ref 44, .ref 45, .ref 46, .int 0])) : SC) := rfl
theorem ce_43 : cellOf S0 43 = (.inl (0, 9, fun _ => 0) : SC) := rfl
theorem ce_44 : cellOf S0 44 = (.inl (0, 9, fun _ => 0) : SC) := rfl
theorem ce_45 : cellOf S0 45 = (.inl (0, 9, fun _ => 0) : SC) := rfl
theorem ce_46 : cellOf S0 46 = (.inl (0, 6, fun _ => 0) : SC) := rfl
theorem ce_47 : cellOf S0 47 = (.inr (.inr (2, [.ref 48, .ref 49, .ref 50, .ref 51, .int 0])) : SC) := rfl
theorem ce_48 : cellOf S0 48 = (.inl (0, 9, fun _ => 0) : SC) := rfl
theorem ce_49 : cellOf S0 49 = (.inl (0, 9, fun _ => 0) : SC) := rfl
theorem ce_50 : cellOf S0 50 = (.inl (0, 9, fun _ => 0) : SC) := rfl
theorem ce_51 : cellOf S0 51 = (.inl (0, 6, fun _ => 0) : SC) := rfl
theorem ce_52 : cellOf S0 52 = (.inr (.inr (2, [.ref 53, .ref 54, .ref 55, .ref 56, .int 0])) : SC) := rfl
theorem ce_53 : cellOf S0 53 = (.inl (0, 9, fun _ => 0) : SC) := rfl
theorem ce_54 : cellOf S0 54 = (.inl (0, 9, fun _ => 0) : SC) := rfl
theorem ce_55 : cellOf S0 55 = (.inl (0, 9, fun _ => 0) : SC) := rfl
theorem ce_56 : cellOf S0 56 = (.inl (0, 6, fun _ => 0) : SC) := rfl
theorem ce_57 : cellOf S0 57 = (.inr (.inr (2, [.ref 58, .ref 59, .ref 60, .ref 61, .int 0])) : SC) := rfl
theorem ce_58 : cellOf S0 58 = (.inl (0, 9, fun _ => 0) : SC) := rfl
theorem ce_59 : cellOf S0 59 = (.inl (0, 9, fun _ => 0) : SC) := rfl
theorem ce_60 : cellOf S0 60 = (.inl (0, 9, fun _ => 0) : SC) := rfl
theorem ce_61 : cellOf S0 61 = (.inl (0, 6, fun _ => 0) : SC) := rfl
theorem ce_62 : cellOf S0 62 = (.inr (.inr (2, [.ref 63, .ref 64, .ref 65, .ref 66, .int 0])) : SC) := rfl
theorem ce_63 : cellOf S0 63 = (.inl (0, 9, fun _ => 0) : SC) := rfl
theorem ce_64 : cellOf S0 64 = (.inl (0, 9, fun _ => 0) : SC) := rfl
theorem ce_65 : cellOf S0 65 = (.inl (0, 9, fun _ => 0) : SC) := rfl
theorem ce_66 : cellOf S0 66 = (.inl (0, 6, fun _ => 0) : SC) := rfl
theorem ce_67 : cellOf S0 67 = (.inr (.inr (2, [.ref 68, .ref 69, .ref 70, .ref 71, .int 0])) : SC) := rfl
theorem ce_68 : cellOf S0 68 = (.inl (0, 9, fun _ => 0) : SC) := rfl
theorem ce_69 : cellOf S0 69 = (.inl (0, 9, fun _ => 0) : SC) := rfl
theorem ce_70 : cellOf S0 70 = (.inl (0, 9, fun _ => 0) : SC) := rfl
theorem ce_71 : cellOf S0 71 = (.inl (0, 6, fun _ => 0) : SC) := rfl
theorem ce_72 : cellOf S0 72 = (.inr (.inl (4, 2, rw4)) : SC) := rfl
theorem ce_73 : cellOf S0 73 = (.inr (.inr (3, [.ref 74, .ref 79, .int 0])) : SC) := rfl
theorem ce_74 : cellOf S0 74 = (.inr (.inr (2, [.ref 75, .ref 76, .ref 77, .ref 78, .int 0])) : SC) := rfl
theorem ce_75 : cellOf S0 75 = (.inl (0, 9, fun _ => 0) : SC) := rfl
theorem ce_76 : cellOf S0 76 = (.inl (0, 9, fun _ => 0) : SC) := rfl
theorem ce_77 : cellOf S0 77 = (.inl (0, 9, fun _ => 0) : SC) := rfl
theorem ce_78 : cellOf S0 78 = (.inl (0, 6, fun _ => 0) : SC) := rfl
theorem ce_79 : cellOf S0 79 = (.inr (.inl (3, 10, rw3 73)) : SC) := rfl
theorem ce_80 : cellOf S0 80 = (.inr (.inr (2, [.ref 81, .ref 82, .ref 83, .ref 84, .int 0])) : SC) := rfl
theorem ce_81 : cellOf S0 81 = (.inl (0, 9, fun _ => 0) : SC) := rfl
theorem ce_82 : cellOf S0 82 = (.inl (0, 9, fun _ => 0) : SC) := rfl
theorem ce_83 : cellOf S0 83 = (.inl (0, 9, fun _ => 0) : SC) := rfl
theorem ce_84 : cellOf S0 84 = (.inl (0, 6, fun _ => 0) : SC) := rfl
theorem ce_85 : cellOf S0 85 = (.inr (.inr (2, [.ref 86, .ref 87, .ref 88, .ref 89, .int 0])) : SC) := rfl
theorem ce_86 : cellOf S0 86 = (.inl (0, 9, fun _ => 0) : SC) := rfl
theorem ce_87 : cellOf S0 87 = (.inl (0, 9, fun _ => 0) : SC) := rfl
theorem ce_88 : cellOf S0 88 = (.inl (0, 9, fun _ => 0) : SC) := rfl
theorem ce_89 : cellOf S0 89 = (.inl (0, 6, fun _ => 0) : SC) := rfl
theorem ce_90 : cellOf S0 90 = (.inr (.inr (2, [.ref 91, .ref 92, .ref 93, .ref 94, .int 0])) : SC) := rfl
theorem ce_91 : cellOf S0 91 = (.inl (0, 9, fun _ => 0) : SC) := rfl
theorem ce_92 : cellOf S0 92 = (.inl (0, 9, fun _ => 0) : SC) := rfl
theorem ce_93 : cellOf S0 93 = (.inl (0, 9, fun _ => 0) : SC) := rfl
theorem ce_94 : cellOf S0 94 = (.inl (0, 6, fun _ => 0) : SC) := rfl
theorem ce_95 : cellOf S0 95 = (.inr (.inr (2, [.ref 96, .ref 97, .ref 98, .ref 99, .int 0])) : SC) := rfl
theorem ce_96 : cellOf S0 96 = (.inl (0, 9, fun _ => 0) : SC) := rfl
theorem ce_97 : cellOf S0 97 = (.inl (0, 9, fun _ => 0) : SC) := rfl
theorem ce_98 : cellOf S0 98 = (.inl (0, 9, fun _ => 0) : SC) := rfl
theorem ce_99 : cellOf S0 99 = (.inl (0, 6, fun _ => 0) : SC) := rfl
theorem ce_100 : cellOf S0 100 = (.inr (.inr (2, [.ref 101, .ref 102, .ref 103, .ref 104, .int 0])) : SC) := rfl
theorem ce_101 : cellOf S0 101 = (.inl (0, 9, fun _ => 0) : SC) := rfl
theorem ce_102 : cellOf S0 102 = (.inl (0, 9, fun _ => 0) : SC) := rfl
theorem ce_103 : cellOf S0 103 = (.inl (0, 9, fun _ => 0) : SC) := rfl
theorem ce_104 : cellOf S0 104 = (.inl (0, 6, fun _ => 0) : SC) := rfl
theorem ce_105 : cellOf S0 105 = (.inr (.inr (2, [.ref 106, .ref 107, .ref 108, .ref 109, .int 0])) : SC) := rfl
theorem ce_106 : cellOf S0 106 = (.inl (0, 9, fun _ => 0) : SC) := rfl
theorem ce_107 : cellOf S0 107 = (.inl (0, 9, fun _ => 0) : SC) := rfl
theorem ce_108 : cellOf S0 108 = (.inl (0, 9, fun _ => 0) : SC) := rfl
theorem ce_109 : cellOf S0 109 = (.inl (0, 6, fun _ => 0) : SC) := rfl
theorem ce_110 : cellOf S0 110 = (.inr (.inr (2, [.ref 111, .ref 112, .ref 113, .ref 114, .int 0])) : SC) := rfl
theorem ce_111 : cellOf S0 111 = (.inl (0, 9, fun _ => 0) : SC) := rfl
theorem ce_112 : cellOf S0 112 = (.inl (0, 9, fun _ => 0) : SC) := rfl
theorem ce_113 : cellOf S0 113 = (.inl (0, 9, fun _ => 0) : SC) := rfl
theorem ce_114 : cellOf S0 114 = (.inl (0, 6, fun _ => 0) : SC) := rfl
theorem ce_115 : cellOf S0 115 = (.inr (.inr (2, [.ref 116, .ref 117, .ref 118, .ref 119, .int 0])) : SC) := rfl
theorem ce_116 : cellOf S0 116 = (.inl (0, 9, fun _ => 0) : SC) := rfl
theorem ce_117 : cellOf S0 117 = (.inl (0, 9, fun _ => 0) : SC) := rfl
theorem ce_118 : cellOf S0 118 = (.inl (0, 9, fun _ => 0) : SC) := rfl
theorem ce_119 : cellOf S0 119 = (.inl (0, 6, fun _ => 0) : SC) := rfl
theorem ce_120 : cellOf S0 120 = (.inr (.inr (2, [.ref 121, .ref 122, .ref 123, .ref 124, .int 0])) : SC) := rfl
theorem ce_121 : cellOf S0 121 = (.inl (0, 9, fun _ => 0) : SC) := rfl
theorem ce_122 : cellOf S0 122 = (.inl (0, 9, fun _ => 0) : SC) := rfl
theorem ce_123 : cellOf S0 123 = (.inl (0, 9, fun _ => 0) : SC) := rfl
theorem ce_124 : cellOf S0 124 = (.inl (0, 6, fun _ => 0) : SC) := rfl
theorem ce_125 : cellOf S0 125 = (.inr (.inr (2, [.ref 126, .ref 127, .ref 128, .ref 129, .int 0])) : SC) := rfl
theorem ce_126 : cellOf S0 126 = (.inl (0, 9, fun _ => 0) : SC) := rfl
theorem ce_127 : cellOf S0 127 = (.inl (0, 9, fun _ => 0) : SC) := rfl
theorem ce_128 : cellOf S0 128 = (.inl (0, 9, fun _ => 0) : SC) := rfl
theorem ce_129 : cellOf S0 129 = (.inl (0, 6, fun _ => 0) : SC) := rfl
theorem ce_130 : cellOf S0 130 = (.inr (.inr (3, [.ref 131, .ref 136, .int 0])) : SC) := rfl
theorem ce_131 : cellOf S0 131 = (.inr (.inr (2, [.ref 132, .ref 133, .ref 134, .ref 135, .int 0])) : SC) := rfl
theorem ce_132 : cellOf S0 132 = (.inl (0, 9, fun _ => 0) : SC) := rfl
theorem ce_133 : cellOf S0 133 = (.inl (0, 9, fun _ => 0) : SC) := rfl
theorem ce_134 : cellOf S0 134 = (.inl (0, 9, fun _ => 0) : SC) := rfl
theorem ce_135 : cellOf S0 135 = (.inl (0, 6, fun _ => 0) : SC) := rfl
theorem ce_136 : cellOf S0 136 = (.inr (.inl (3, 10, rw3 130)) : SC) := rfl
theorem ce_137 : cellOf S0 137 = (.inr (.inr (2, [.ref 138, .ref 139, .ref 140, .ref 141, .int 0])) : SC) := rfl
theorem ce_138 : cellOf S0 138 = (.inl (0, 9, fun _ => 0) : SC) := rfl
theorem ce_139 : cellOf S0 139 = (.inl (0, 9, fun _ => 0) : SC) := rfl
theorem ce_140 : cellOf S0 140 = (.inl (0, 9, fun _ => 0) : SC) := rfl
theorem ce_141 : cellOf S0 141 = (.inl (0, 6, fun _ => 0) : SC) := rfl
theorem ce_142 : cellOf S0 142 = (.inr (.inr (2, [.ref 143, .ref 144, .ref 145, .ref 146, .int 0])) : SC) := rfl
theorem ce_143 : cellOf S0 143 = (.inl (0, 9, fun _ => 0) : SC) := rfl
theorem ce_144 : cellOf S0 144 = (.inl (0, 9, fun _ => 0) : SC) := rfl
theorem ce_145 : cellOf S0 145 = (.inl (0, 9, fun _ => 0) : SC) := rfl
theorem ce_146 : cellOf S0 146 = (.inl (0, 6, fun _ => 0) : SC) := rfl
theorem ce_147 : cellOf S0 147 = (.inr (.inr (2, [.ref 148, .ref 149, .ref 150, .ref 151, .int 0])) : SC) := rfl
theorem ce_148 : cellOf S0 148 = (.inl (0, 9, fun _ => 0) : SC) := rfl
theorem ce_149 : cellOf S0 149 = (.inl (0, 9, fun _ => 0) : SC) := rfl
theorem ce_150 : cellOf S0 150 = (.inl (0, 9, fun _ => 0) : SC) := rfl
theorem ce_151 : cellOf S0 151 = (.inl (0, 6, fun _ => 0) : SC) := rfl
theorem ce_152 : cellOf S0 152 = (.inr (.inr (2, [.ref 153, .ref 154, .ref 155, .ref 156, .int 0])) : SC) := rfl
theorem ce_153 : cellOf S0 153 = (.inl (0, 9, fun _ => 0) : SC) := rfl
theorem ce_154 : cellOf S0 154 = (.inl (0, 9, fun _ => 0) : SC) := rfl
theorem ce_155 : cellOf S0 155 = (.inl (0, 9, fun _ => 0) : SC) := rfl
theorem ce_156 : cellOf S0 156 = (.inl (0, 6, fun _ => 0) : SC) := rfl
theorem ce_157 : cellOf S0 157 = (.inr (.inr (2, [.ref 158, .ref 159, .ref 160, .ref 161, .int 0])) : SC) := rfl
theorem ce_158 : cellOf S0 158 = (.inl (0, 9, fun _ => 0) : SC) := rfl
theorem ce_159 : cellOf S0 159 = (.inl (0, 9, fun _ => 0) : SC) := rfl
theorem ce_160 : cellOf S0 160 = (.inl (0, 9, fun _ => 0) : SC) := rfl
theorem ce_161 : cellOf S0 161 = (.inl (0, 6, fun _ => 0) : SC) := rfl
theorem ce_162 : cellOf S0 162 = (.inr (.inr (2, [.ref 163, .ref 164, .ref 165, .ref 166, .int 0])) : SC) := rfl
theorem ce_163 : cellOf S0 163 = (.inl (0, 9, fun _ => 0) : SC) := rfl
theorem ce_164 : cellOf S0 164 = (.inl (0, 9, fun _ => 0) : SC) := rfl
theorem ce_165 : cellOf S0 165 = (.inl (0, 9, fun _ => 0) : SC) := rfl
theorem ce_166 : cellOf S0 166 = (.inl (0, 6, fun _ => 0) : SC) := rfl
theorem ce_167 : cellOf S0 167 = (.inr (.inr (2, [.ref 168, .ref 169, .ref 170, .ref 171, .int 0])) : SC) := rfl
theorem ce_168 : cellOf S0 168 = (.inl (0, 9, fun _ => 0) : SC) := rfl
theorem ce_169 : cellOf S0 169 = (.inl (0, 9, fun _ => 0) : SC) := rfl
theorem ce_170 : cellOf S0 170 = (.inl (0, 9, fun _ => 0) : SC) := rfl
theorem ce_171 : cellOf S0 171 = (.inl (0, 6, fun _ => 0) : SC) := rfl
theorem ce_172 : cellOf S0 172 = (.inr (.inr (2, [.ref 173, .ref 174, .ref 175, .ref 176, .int 0])) : SC) := rfl
theorem ce_173 : cellOf S0 173 = (.inl (0, 9, fun _ => 0) : SC) := rfl
theorem ce_174 : cellOf S0 174 = (.inl (0, 9, fun _ => 0) : SC) := rfl
theorem ce_175 : cellOf S0 175 = (.inl (0, 9, fun _ => 0) : SC) := rfl
theorem ce_176 : cellOf S0 176 = (.inl (0, 6, fun _ => 0) : SC) := rfl
theorem ce_177 : cellOf S0 177 = (.inr (.inr (2, [.ref 178, .ref 179, .ref 180, .ref 181, .int 0])) : SC) := rfl
theorem ce_178 : cellOf S0 178 = (.inl (0, 9, fun _ => 0) : SC) := rfl
theorem ce_179 : cellOf S0 179 = (.inl (0, 9, fun _ => 0) : SC) := rfl
theorem ce_180 : cellOf S0 180 = (.inl (0, 9, fun _ => 0) : SC) := rfl
theorem ce_181 : cellOf S0 181 = (.inl (0, 6, fun _ => 0) : SC) := rfl
theorem ce_182 : cellOf S0 182 = (.inr (.inr (2, [.ref 183, .ref 184, .ref 185, .ref 186, .int 0])) : SC) := rfl
theorem ce_183 : cellOf S0 183 = (.inl (0, 9, fun _ => 0) : SC) := rfl
theorem ce_184 : cellOf S0 184 = (.inl (0, 9, fun _ => 0) : SC) := rfl
theorem ce_185 : cellOf S0 185 = (.inl (0, 9, fun _ => 0) : SC) := rfl
theorem ce_186 : cellOf S0 186 = (.inl (0, 6, fun _ => 0) : SC) := rfl
theorem ce_187 : cellOf S0 187 = (.inr (.inr (7, [.ref 188, .ref 195])) : SC) := rfl
theorem ce_188 : cellOf S0 188 = (.inr (.inr (4, [.int 4, .int 0, .int 0, .ref 189, .ref 190, .ref 191, .ref 192, .ref 193, .ref 194])) : SC) := rfl
theorem ce_189 : cellOf S0 189 = (.inl (0, 9, fun _ => 0) : SC) := rfl
theorem ce_190 : cellOf S0 190 = (.inl (0, 9, fun _ => 0) : SC) := rfl
theorem ce_191 : cellOf S0 191 = (.inl (0, 9, fun _ => 0) : SC) := rfl
theorem ce_192 : cellOf S0 192 = (.inl (0, 6, fun _ => 0) : SC) := rfl
theorem ce_193 : cellOf S0 193 = (.inl (0, 6, fun _ => 0) : SC) := rfl
theorem ce_194 : cellOf S0 194 = (.inl (0, 9, fun _ => 0) : SC) := rfl
theorem ce_195 : cellOf S0 195 = (.inl (0, 8, fun _ => 0) : SC) := rfl
theorem ce_196 : cellOf S0 196 = (.inr (.inr (0, [.ref 197, .ref 198])) : SC) := rfl
theorem ce_197 : cellOf S0 197 = (.inl (0, 6, fun _ => 0) : SC) := rfl
theorem ce_198 : cellOf S0 198 = (.inr (.inr (4, [.int 4, .int 0, .int 0, .ref 199, .ref 200, .ref 201, .ref 202, .ref 203, .ref 204])) : SC) := rfl
theorem ce_199 : cellOf S0 199 = (.inl (0, 9, fun _ => 0) : SC) := rfl
theorem ce_200 : cellOf S0 200 = (.inl (0, 9, fun _ => 0) : SC) := rfl
theorem ce_201 : cellOf S0 201 = (.inl (0, 9, fun _ => 0) : SC) := rfl
theorem ce_202 : cellOf S0 202 = (.inl (0, 6, fun _ => 0) : SC) := rfl
theorem ce_203 : cellOf S0 203 = (.inl (0, 6, fun _ => 0) : SC) := rfl
theorem ce_204 : cellOf S0 204 = (.inl (0, 9, fun _ => 0) : SC) := rfl
theorem ce_205 : cellOf S0 205 = (.inr (.inr (1, [.ref 206, .ref 207, .int 0, .ref 208])) : SC) := rfl
theorem ce_206 : cellOf S0 206 = (.inl (0, 4, fun _ => 0) : SC) := rfl
theorem ce_207 : cellOf S0 207 = (.inl (0, 4, fun _ => 0) : SC) := rfl
theorem ce_208 : cellOf S0 208 = (.inl (0, 11, fun _ => 0) : SC) := rfl
theorem ce_209 : cellOf S0 209 = (.inr (.inr (9, [.ref 210, .int 0, .ref 211, .ref 212, .ref 213, .ref 214, .ref 215, .ref 216, .ref 217, .ref 218, .int 0, .int 0, .int 0, .int 0, .int 0, .int 0, .ref 219, .ref 220, .ref 221, .ref 222, .ref 223, .ref 224, .ref 225, .ref 226, .int 0, .long 0])) : SC) := rfl
theorem ce_210 : cellOf S0 210 = (.inl (1, 120, fun _ => 0) : SC) := rfl
theorem ce_211 : cellOf S0 211 = (.inl (0, 2, upd (fun _ => 0) 0 4) : SC) := rfl
theorem ce_212 : cellOf S0 212 = (.inl (0, 2, fun _ => 0) : SC) := rfl
theorem ce_213 : cellOf S0 213 = (.inl (0, 18, fun _ => 0) : SC) := rfl
theorem ce_214 : cellOf S0 214 = (.inl (0, 18, fun _ => 0) : SC) := rfl
theorem ce_215 : cellOf S0 215 = (.inl (0, 18, fun _ => 0) : SC) := rfl
theorem ce_216 : cellOf S0 216 = (.inl (0, 2, fun _ => 0) : SC) := rfl
theorem ce_217 : cellOf S0 217 = (.inl (0, 12, fun _ => 0) : SC) := rfl
theorem ce_218 : cellOf S0 218 = (.inl (0, 12, fun _ => 0) : SC) := rfl
theorem ce_219 : cellOf S0 219 = (.inl (0, 34, fun _ => 0) : SC) := rfl
theorem ce_220 : cellOf S0 220 = (.inl (0, 3, fun _ => 0) : SC) := rfl
theorem ce_221 : cellOf S0 221 = (.inl (0, 1020, fun _ => 0) : SC) := rfl
theorem ce_222 : cellOf S0 222 = (.inl (0, 68, fun _ => 0) : SC) := rfl
theorem ce_223 : cellOf S0 223 = (.inl (2, 2, fun _ => 0) : SC) := rfl
theorem ce_224 : cellOf S0 224 = (.inl (0, 3584, fun _ => 0) : SC) := rfl
theorem ce_225 : cellOf S0 225 = (.inl (0, 4, fun _ => 0) : SC) := rfl
theorem ce_226 : cellOf S0 226 = (.inl (0, 4, fun _ => 0) : SC) := rfl
def X0 : HL := [(.inr (.inr (8, [.ref 1, .ref 3, .ref 9, .ref 15, .ref 72, .int 0, .ref 187, .ref 196, .ref 205, .long 0])) : SC), (.inr (.inr (5, [.ref 2, .int 0, .int 0])) : SC), (.inl (0, 120, fun _ => 0) : SC), (.inr (.inr (6, [.int 4, .int 0, .int 0, .ref 4, .ref 5, .ref 6, .ref 7, .ref 8])) : SC), (.inl (0, 9, fun _ => 0) : SC), (.inl (0, 9, fun _ => 0) : SC), (.inl (0, 9, fun _ => 0) : SC), (.inl (0, 6, fun _ => 0) : SC), (.inl (0, 6, fun _ => 0) : SC), (.inr (.inr (6, [.int 4, .int 0, .int 0, .ref 10, .ref 11, .ref 12, .ref 13, .ref 14])) : SC), (.inl (0, 9, fun _ => 0) : SC), (.inl (0, 9, fun _ => 0) : SC), (.inl (0, 9, fun _ => 0) : SC), (.inl (0, 6, fun _ => 0) : SC), (.inl (0, 6, fun _ => 0) : SC), (.inr (.inr (3, [.ref 16, .ref 21, .int 0])) : SC), (.inr (.inr (2, [.ref 17, .ref 18, .ref 19, .ref 20, .int 0])) : SC), (.inl (0, 9, fun _ => 0) : SC), (.inl (0, 9, fun _ => 0) : SC), (.inl (0, 9, fun _ => 0) : SC), (.inl (0, 6, fun _ => 0) : SC), (.inr (.inl (3, 10, rw3 15)) : SC), (.inr (.inr (2, [.ref 23, .ref 24, .ref 25, .ref 26, .int 0])) : SC), (.inl (0, 9, fun _ => 0) : SC), (.inl (0, 9, fun _ => 0) : SC), (.inl (0, 9, fun _ => 0) : SC), (.inl (0, 6, fun _ => 0) : SC), (.inr (.inr (2, [.ref 28, .ref 29, .ref 30, .ref 31, .int 0])) : SC), (.inl (0, 9, fun _ => 0) : SC), (.inl (0, 9, fun _ => 0) : SC), (.inl (0, 9, fun _ => 0) : SC), (.inl (0, 6, fun _ => 0) : SC), (.inr (.inr (2, [.ref 33, .ref 34, .ref 35, .ref 36, .int 0])) : SC), (.inl (0, 9, fun _ => 0) : SC), (.inl (0, 9, fun _ => 0) : SC), (.inl (0, 9, fun _ => 0) : SC), (.inl (0, 6, fun _ => 0) : SC), (.inr (.inr (2, [.ref 38, .ref 39, .ref 40, .ref 41, .int 0])) : SC), (.inl (0, 9, fun _ => 0) : SC), (.inl (0, 9, fun _ => 0) : SC), (.inl (0, 9, fun _ => 0) : SC), (.inl (0, 6, fun _ => 0) : SC), (.inr (.inr (2, [.ref 43, .ref 44, .ref 45, .ref 46, .int 0])) : SC), (.inl (0, 9, fun _ => 0) : SC), (.inl (0, 9, fun _ => 0) : SC), (.inl (0, 9, fun _ => 0) : SC), (.inl (0, 6, fun _ => 0) : SC), (.inr (.inr (2, [.ref 48, .ref 49, .ref 50, .ref 51, .int 0])) : SC), (.inl (0, 9, fun _ => 0) : SC), (.inl (0, 9, fun _ => 0) : SC), (.inl (0, 9, fun _ => 0) : SC), (.inl (0, 6, fun _ => 0) : SC), (.inr (.inr (2, [.ref 53, .ref 54, .ref 55, .ref 56, .int 0])) : SC), (.inl (0, 9, fun _ => 0) : SC), (.inl (0, 9, fun _ => 0) : SC), (.inl (0, 9, fun _ => 0) : SC), (.inl (0, 6, fun _ => 0) : SC), (.inr (.inr (2, [.ref 58, .ref 59, .ref 60, .ref 61, .int 0])) : SC), (.inl (0, 9, fun _ => 0) : SC), (.inl (0, 9, fun _ => 0) : SC), (.inl (0, 9, fun _ => 0) : SC), (.inl (0, 6, fun _ => 0) : SC), (.inr (.inr (2, [.ref 63, .ref 64, .ref 65, .ref 66, .int 0])) : SC), (.inl (0, 9, fun _ => 0) : SC), (.inl (0, 9, fun _ => 0) : SC), (.inl (0, 9, fun _ => 0) : SC), (.inl (0, 6, fun _ => 0) : SC), (.inr (.inr (2, [.ref 68, .ref 69, .ref 70, .ref 71, .int 0])) : SC), (.inl (0, 9, fun _ => 0) : SC), (.inl (0, 9, fun _ => 0) : SC), (.inl (0, 9, fun _ => 0) : SC), (.inl (0, 6, fun _ => 0) : SC), (.inr (.inl (4, 2, rw4)) : SC), (.inr (.inr (3, [.ref 74, .ref 79, .int 0])) : SC), (.inr (.inr (2, [.ref 75, .ref 76, .ref 77, .ref 78, .int 0])) : SC), (.inl (0, 9, fun _ => 0) : SC), (.inl (0, 9, fun _ => 0) : SC), (.inl (0, 9, fun _ => 0) : SC), (.inl (0, 6, fun _ => 0) : SC), (.inr (.inl (3, 10, rw3 73)) : SC), (.inr (.inr (2, [.ref 81, .ref 82, .ref 83, .ref 84, .int 0])) : SC), (.inl (0, 9, fun _ => 0) : SC), (.inl (0, 9, fun _ => 0) : SC), (.inl (0, 9, fun _ => 0) : SC), (.inl (0, 6, fun _ => 0) : SC), (.inr (.inr (2, [.ref 86, .ref 87, .ref 88, .ref 89, .int 0])) : SC), (.inl (0, 9, fun _ => 0) : SC), (.inl (0, 9, fun _ => 0) : SC), (.inl (0, 9, fun _ => 0) : SC), (.inl (0, 6, fun _ => 0) : SC), (.inr (.inr (2, [.ref 91, .ref 92, .ref 93, .ref 94, .int 0])) : SC), (.inl (0, 9, fun _ => 0) : SC), (.inl (0, 9, fun _ => 0) : SC), (.inl (0, 9, fun _ => 0) : SC), (.inl (0, 6, fun _ => 0) : SC), (.inr (.inr (2, [.ref 96, .ref 97, .ref 98, .ref 99, .int 0])) : SC), (.inl (0, 9, fun _ => 0) : SC), (.inl (0, 9, fun _ => 0) : SC), (.inl (0, 9, fun _ => 0) : SC), (.inl (0, 6, fun _ => 0) : SC), (.inr (.inr (2, [.ref 101, .ref 102, .ref 103, .ref 104, .int 0])) : SC), (.inl (0, 9, fun _ => 0) : SC), (.inl (0, 9, fun _ => 0) : SC), (.inl (0, 9, fun _ => 0) : SC), (.inl (0, 6, fun _ => 0) : SC), (.inr (.inr (2, [.ref 106, .ref 107, .ref 108, .ref 109, .int 0])) : SC), (.inl (0, 9, fun _ => 0) : SC), (.inl (0, 9, fun _ => 0) : SC), (.inl (0, 9, fun _ => 0) : SC), (.inl (0, 6, fun _ => 0) : SC), (.inr (.inr (2, [.ref 111, .ref 112, .ref 113, .ref 114, .int 0])) : SC), (.inl (0, 9, fun _ => 0) : SC), (.inl (0, 9, fun _ => 0) : SC), (.inl (0, 9, fun _ => 0) : SC), (.inl (0, 6, fun _ => 0) : SC), (.inr (.inr (2, [.ref 116, .ref 117, .ref 118, .ref 119, .int 0])) : SC), (.inl (0, 9, fun _ => 0) : SC), (.inl (0, 9, fun _ => 0) : SC), (.inl (0, 9, fun _ => 0) : SC), (.inl (0, 6, fun _ => 0) : SC), (.inr (.inr (2, [.ref 121, .ref 122, .ref 123, .ref 124, .int 0])) : SC), (.inl (0, 9, fun _ => 0) : SC), (.inl (0, 9, fun _ => 0) : SC), (.inl (0, 9, fun _ => 0) : SC), (.inl (0, 6, fun _ => 0) : SC), (.inr (.inr (2, [.ref 126, .ref 127, .ref 128, .ref 129, .int 0])) : SC), (.inl (0, 9, fun _ => 0) : SC), (.inl (0, 9, fun _ => 0) : SC), (.inl (0, 9, fun _ => 0) : SC), (.inl (0, 6, fun _ => 0) : SC), (.inr (.inr (3, [.ref 131, .ref 136, .int 0])) : SC), (.inr (.inr (2, [.ref 132, .ref 133, .ref 134, .ref 135, .int 0])) : SC), (.inl (0, 9, fun _ => 0) : SC), (.inl (0, 9, fun _ => 0) : SC), (.inl (0, 9, fun _ => 0) : SC), (.inl (0, 6, fun _ => 0) : SC), (.inr (.inl (3, 10, rw3 130)) : SC), (.inr (.inr (2, [.ref 138, .ref 139, .ref 140, .ref 141, .int 0])) : SC), (.inl (0, 9, fun _ => 0) : SC), (.inl (0, 9, fun _ => 0) : SC), (.inl (0, 9, fun _ => 0) : SC), (.inl (0, 6, fun _ => 0) : SC), (.inr (.inr (2, [.ref 143, .ref 144, .ref 145, .ref 146, .int 0])) : SC), (.inl (0, 9, fun _ => 0) : SC), (.inl (0, 9, fun _ => 0) : SC), (.inl (0, 9, fun _ => 0) : SC), (.inl (0, 6, fun _ => 0) : SC), (.inr (.inr (2, [.ref 148, .ref 149, .ref 150, .ref 151, .int 0])) : SC), (.inl (0, 9, fun _ => 0) : SC), (.inl (0, 9, fun _ => 0) : SC), (.inl (0, 9, fun _ => 0) : SC), (.inl (0, 6, fun _ => 0) : SC), (.inr (.inr (2, [.ref 153, .ref 154, .ref 155, .ref 156, .int 0])) : SC), (.inl (0, 9, fun _ => 0) : SC), (.inl (0, 9, fun _ => 0) : SC), (.inl (0, 9, fun _ => 0) : SC), (.inl (0, 6, fun _ => 0) : SC), (.inr (.inr (2, [.ref 158, .ref 159, .ref 160, .ref 161, .int 0])) : SC), (.inl (0, 9, fun _ => 0) : SC), (.inl (0, 9, fun _ => 0) : SC), (.inl (0, 9, fun _ => 0) : SC), (.inl (0, 6, fun _ => 0) : SC), (.inr (.inr (2, [.ref 163, .ref 164, .ref 165, .ref 166, .int 0])) : SC), (.inl (0, 9, fun _ => 0) : SC), (.inl (0, 9, fun _ => 0) : SC), (.inl (0, 9, fun _ => 0) : SC), (.inl (0, 6, fun _ => 0) : SC), (.inr (.inr (2, [.ref 168, .ref 169, .ref 170, .ref 171, .int 0])) : SC), (.inl (0, 9, fun _ => 0) : SC), (.inl (0, 9, fun _ => 0) : SC), (.inl (0, 9, fun _ => 0) : SC), (.inl (0, 6, fun _ => 0) : SC), (.inr (.inr (2, [.ref 173, .ref 174, .ref 175, .ref 176, .int 0])) : SC), (.inl (0, 9, fun _ => 0) : SC), (.inl (0, 9, fun _ => 0) : SC), (.inl (0, 9, fun _ => 0) : SC), (.inl (0, 6, fun _ => 0) : SC), (.inr (.inr (2, [.ref 178, .ref 179, .ref 180, .ref 181, .int 0])) : SC), (.inl (0, 9, fun _ => 0) : SC), (.inl (0, 9, fun _ => 0) : SC), (.inl (0, 9, fun _ => 0) : SC), (.inl (0, 6, fun _ => 0) : SC), (.inr (.inr (2, [.ref 183, .ref 184, .ref 185, .ref 186, .int 0])) : SC), (.inl (0, 9, fun _ => 0) : SC), (.inl (0, 9, fun _ => 0) : SC), (.inl (0, 9, fun _ => 0) : SC), (.inl (0, 6, fun _ => 0) : SC), (.inr (.inr (7, [.ref 188, .ref 195])) : SC), (.inr (.inr (4, [.int 4, .int 0, .int 0, .ref 189, .ref 190, .ref 191, .ref 192, .ref 193, .ref 194])) : SC), (.inl (0, 9, fun _ => 0) : SC), (.inl (0, 9, fun _ => 0) : SC), (.inl (0, 9, fun _ => 0) : SC), (.inl (0, 6, fun _ => 0) : SC), (.inl (0, 6, fun _ => 0) : SC), (.inl (0, 9, fun _ => 0) : SC), (.inl (0, 8, fun _ => 0) : SC), (.inr (.inr (0, [.ref 197, .ref 198])) : SC), (.inl (0, 6, fun _ => 0) : SC), (.inr (.inr (4, [.int 4, .int 0, .int 0, .ref 199, .ref 200, .ref 201, .ref 202, .ref 203, .ref 204])) : SC), (.inl (0, 9, fun _ => 0) : SC), (.inl (0, 9, fun _ => 0) : SC), (.inl (0, 9, fun _ => 0) : SC), (.inl (0, 6, fun _ => 0) : SC), (.inl (0, 6, fun _ => 0) : SC), (.inl (0, 9, fun _ => 0) : SC), (.inr (.inr (1, [.ref 206, .ref 207, .int 0, .ref 208])) : SC), (.inl (0, 4, fun _ => 0) : SC), (.inl (0, 4, fun _ => 0) : SC), (.inl (0, 11, fun _ => 0) : SC), (.inr (.inr (9, [.ref 210, .int 0, .ref 211, .ref 212, .ref 213, .ref 214, .ref 215, .ref 216, .ref 217, .ref 218, .int 0, .int 0, .int 0, .int 0, .int 0, .int 0, .ref 219, .ref 220, .ref 221, .ref 222, .ref 223, .ref 224, .ref 225, .ref 226, .int 0, .long 0])) : SC), (.inl (1, 120, fun _ => 0) : SC), (.inl (0, 2, upd (fun _ => 0) 0 4) : SC), (.inl (0, 2, fun _ => 0) : SC), (.inl (0, 18, fun _ => 0) : SC), (.inl (0, 18, fun _ => 0) : SC), (.inl (0, 18, fun _ => 0) : SC), (.inl (0, 2, fun _ => 0) : SC), (.inl (0, 12, fun _ => 0) : SC), (.inl (0, 12, fun _ => 0) : SC), (.inl (0, 34, fun _ => 0) : SC), (.inl (0, 3, fun _ => 0) : SC), (.inl (0, 1020, fun _ => 0) : SC), (.inl (0, 68, fun _ => 0) : SC), (.inl (2, 2, fun _ => 0) : SC), (.inl (0, 3584, fun _ => 0) : SC), (.inl (0, 4, fun _ => 0) : SC), (.inl (0, 4, fun _ => 0) : SC)]
set_option maxHeartbeats 4000000 in
set_option maxRecDepth 100000 in
theorem X0_eq : M9 ++ M10 = X0 := rfl
set_option maxHeartbeats 4000000 in
set_option maxRecDepth 100000 in
theorem hp0_list : hp S0 = [cellOf S0 0, cellOf S0 1, cellOf S0 2, cellOf S0 3, cellOf S0 4, cellOf S0 5, cellOf S0 6, cellOf S0 7, cellOf S0 8, cellOf S0 9, cellOf S0 10, cellOf S0 11, cellOf S0 12, cellOf S0 13, cellOf S0 14, cellOf S0 15, cellOf S0 16, cellOf S0 17, cellOf S0 18, cellOf S0 19, cellOf S0 20, cellOf S0 21, cellOf S0 22, cellOf S0 23, cellOf S0 24, cellOf S0 25, cellOf S0 26, cellOf S0 27, cellOf S0 28, cellOf S0 29, cellOf S0 30, cellOf S0 31, cellOf S0 32, cellOf S0 33, cellOf S0 34, cellOf S0 35, cellOf S0 36, cellOf S0 37, cellOf S0 38, cellOf S0 39, cellOf S0 40, cellOf S0 41, cellOf S0 42, cellOf S0 43, cellOf S0 44, cellOf S0 45, cellOf S0 46, cellOf S0 47, cellOf S0 48, cellOf S0 49, cellOf S0 50, cellOf S0 51, cellOf S0 52, cellOf S0 53, cellOf S0 54, cellOf S0 55, cellOf S0 56, cellOf S0 57, cellOf S0 58, cellOf S0 59, cellOf S0 60, cellOf S0 61, cellOf S0 62, cellOf S0 63, cellOf S0 64, cellOf S0 65, cellOf S0 66, cellOf S0 67, cellOf S0 68, cellOf S0 69, cellOf S0 70, cellOf S0 71, cellOf S0 72, cellOf S0 73, cellOf S0 74, cellOf S0 75, cellOf S0 76, cellOf S0 77, cellOf S0 78, cellOf S0 79, cellOf S0 80, cellOf S0 81, cellOf S0 82, cellOf S0 83, cellOf S0 84, cellOf S0 85, cellOf S0 86, cellOf S0 87, cellOf S0 88, cellOf S0 89, cellOf S0 90, cellOf S0 91, cellOf S0 92, cellOf S0 93, cellOf S0 94, cellOf S0 95, cellOf S0 96, cellOf S0 97, cellOf S0 98, cellOf S0 99, cellOf S0 100, cellOf S0 101, cellOf S0 102, cellOf S0 103, cellOf S0 104, cellOf S0 105, cellOf S0 106, cellOf S0 107, cellOf S0 108, cellOf S0 109, cellOf S0 110, cellOf S0 111, cellOf S0 112, cellOf S0 113, cellOf S0 114, cellOf S0 115, cellOf S0 116, cellOf S0 117, cellOf S0 118, cellOf S0 119, cellOf S0 120, cellOf S0 121, cellOf S0 122, cellOf S0 123, cellOf S0 124, cellOf S0 125, cellOf S0 126, cellOf S0 127, cellOf S0 128, cellOf S0 129, cellOf S0 130, cellOf S0 131, cellOf S0 132, cellOf S0 133, cellOf S0 134, cellOf S0 135, cellOf S0 136, cellOf S0 137, cellOf S0 138, cellOf S0 139, cellOf S0 140, cellOf S0 141, cellOf S0 142, cellOf S0 143, cellOf S0 144, cellOf S0 145, cellOf S0 146, cellOf S0 147, cellOf S0 148, cellOf S0 149, cellOf S0 150, cellOf S0 151, cellOf S0 152, cellOf S0 153, cellOf S0 154, cellOf S0 155, cellOf S0 156, cellOf S0 157, cellOf S0 158, cellOf S0 159, cellOf S0 160, cellOf S0 161, cellOf S0 162, cellOf S0 163, cellOf S0 164, cellOf S0 165, cellOf S0 166, cellOf S0 167, cellOf S0 168, cellOf S0 169, cellOf S0 170, cellOf S0 171, cellOf S0 172, cellOf S0 173, cellOf S0 174, cellOf S0 175, cellOf S0 176, cellOf S0 177, cellOf S0 178, cellOf S0 179, cellOf S0 180, cellOf S0 181, cellOf S0 182, cellOf S0 183, cellOf S0 184, cellOf S0 185, cellOf S0 186, cellOf S0 187, cellOf S0 188, cellOf S0 189, cellOf S0 190, cellOf S0 191, cellOf S0 192, cellOf S0 193, cellOf S0 194, cellOf S0 195, cellOf S0 196, cellOf S0 197, cellOf S0 198, cellOf S0 199, cellOf S0 200, cellOf S0 201, cellOf S0 202, cellOf S0 203, cellOf S0 204, cellOf S0 205, cellOf S0 206, cellOf S0 207, cellOf S0 208, cellOf S0 209, cellOf S0 210, cellOf S0 211, cellOf S0 212, cellOf S0 213, cellOf S0 214, cellOf S0 215, cellOf S0 216, cellOf S0 217, cellOf S0 218, cellOf S0 219, cellOf S0 220, cellOf S0 221, cellOf S0 222, cellOf S0 223, cellOf S0 224, cellOf S0 225, cellOf S0 226] := rfl
set_option maxHeartbeats 4000000 in
set_option maxRecDepth 100000 in
theorem hp0 : hp S0 = M9 ++ M10 := by
  rw [X0_eq, hp0_list]
  simp only [ce_0, ce_1, ce_2, ce_3, ce_4, ce_5, ce_6, ce_7, ce_8, ce_9, ce_10, ce_11, ce_12, ce_13, ce_14, ce_15, ce_16, ce_17, ce_18, ce_19, ce_20, ce_21, ce_22, ce_23, ce_24, ce_25, ce_26, ce_27, ce_28, ce_29, ce_30, ce_31, ce_32, ce_33, ce_34, ce_35, ce_36, ce_37, ce_38, ce_39, ce_40, ce_41, ce_42, ce_43, ce_44, ce_45, ce_46, ce_47, ce_48, ce_49, ce_50, ce_51, ce_52, ce_53, ce_54, ce_55, ce_56, ce_57, ce_58, ce_59, ce_60, ce_61, ce_62, ce_63, ce_64, ce_65, ce_66, ce_67, ce_68, ce_69, ce_70, ce_71, ce_72, ce_73, ce_74, ce_75, ce_76, ce_77, ce_78, ce_79, ce_80, ce_81, ce_82, ce_83, ce_84, ce_85, ce_86, ce_87, ce_88, ce_89, ce_90, ce_91, ce_92, ce_93, ce_94, ce_95, ce_96, ce_97, ce_98, ce_99, ce_100, ce_101, ce_102, ce_103, ce_104, ce_105, ce_106, ce_107, ce_108, ce_109, ce_110, ce_111, ce_112, ce_113, ce_114, ce_115, ce_116, ce_117, ce_118, ce_119, ce_120, ce_121, ce_122, ce_123, ce_124, ce_125, ce_126, ce_127, ce_128, ce_129, ce_130, ce_131, ce_132, ce_133, ce_134, ce_135, ce_136, ce_137, ce_138, ce_139, ce_140, ce_141, ce_142, ce_143, ce_144, ce_145, ce_146, ce_147, ce_148, ce_149, ce_150, ce_151, ce_152, ce_153, ce_154, ce_155, ce_156, ce_157, ce_158, ce_159, ce_160, ce_161, ce_162, ce_163, ce_164, ce_165, ce_166, ce_167, ce_168, ce_169, ce_170, ce_171, ce_172, ce_173, ce_174, ce_175, ce_176, ce_177, ce_178, ce_179, ce_180, ce_181, ce_182, ce_183, ce_184, ce_185, ce_186, ce_187, ce_188, ce_189, ce_190, ce_191, ce_192, ce_193, ce_194, ce_195, ce_196, ce_197, ce_198, ce_199, ce_200, ce_201, ce_202, ce_203, ce_204, ce_205, ce_206, ce_207, ce_208, ce_209, ce_210, ce_211, ce_212, ce_213, ce_214, ce_215, ce_216, ce_217, ce_218, ce_219, ce_220, ce_221, ce_222, ce_223, ce_224, ce_225, ce_226]
  rfl

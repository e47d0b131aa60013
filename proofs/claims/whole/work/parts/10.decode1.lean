theorem d_Mo_keyOf_0 : decode b_Mo_keyOf 0 = .ok (.iconst 0, 1) := by decide +kernel
theorem d_Mo_keyOf_1 : decode b_Mo_keyOf 1 = .ok (.istore 4, 2) := by decide +kernel
theorem d_Mo_keyOf_3 : decode b_Mo_keyOf 3 = .ok (.iload_n 1, 1) := by decide +kernel
theorem d_Mo_keyOf_4 : decode b_Mo_keyOf 4 = .ok (.ifCond .ne 47, 3) := by decide +kernel
theorem d_Mo_keyOf_7 : decode b_Mo_keyOf 7 = .ok (.aload_n 0, 1) := by decide +kernel
theorem d_Mo_keyOf_8 : decode b_Mo_keyOf 8 = .ok (.getfield 7, 3) := by decide +kernel
theorem d_Mo_keyOf_11 : decode b_Mo_keyOf 11 = .ok (.iconst 1, 1) := by decide +kernel
theorem d_Mo_keyOf_12 : decode b_Mo_keyOf 12 = .ok (.isub, 1) := by decide +kernel
theorem d_Mo_keyOf_13 : decode b_Mo_keyOf 13 = .ok (.istore 5, 2) := by decide +kernel
theorem d_Mo_keyOf_15 : decode b_Mo_keyOf 15 = .ok (.iload 5, 2) := by decide +kernel
theorem d_Mo_keyOf_17 : decode b_Mo_keyOf 17 = .ok (.ifCond .lt 31, 3) := by decide +kernel
theorem d_Mo_keyOf_20 : decode b_Mo_keyOf 20 = .ok (.iconst 4, 1) := by decide +kernel
theorem d_Mo_keyOf_21 : decode b_Mo_keyOf 21 = .ok (.iload 4, 2) := by decide +kernel
theorem d_Mo_keyOf_23 : decode b_Mo_keyOf 23 = .ok (.imul, 1) := by decide +kernel
theorem d_Mo_keyOf_24 : decode b_Mo_keyOf 24 = .ok (.iload_n 2, 1) := by decide +kernel
theorem d_Mo_keyOf_25 : decode b_Mo_keyOf 25 = .ok (.iload 5, 2) := by decide +kernel
theorem d_Mo_keyOf_27 : decode b_Mo_keyOf 27 = .ok (.ishr, 1) := by decide +kernel
theorem d_Mo_keyOf_28 : decode b_Mo_keyOf 28 = .ok (.iconst 1, 1) := by decide +kernel
theorem d_Mo_keyOf_29 : decode b_Mo_keyOf 29 = .ok (.iand, 1) := by decide +kernel
theorem d_Mo_keyOf_30 : decode b_Mo_keyOf 30 = .ok (.iadd, 1) := by decide +kernel
theorem d_Mo_keyOf_31 : decode b_Mo_keyOf 31 = .ok (.iconst 2, 1) := by decide +kernel
theorem d_Mo_keyOf_32 : decode b_Mo_keyOf 32 = .ok (.iload_n 3, 1) := by decide +kernel
theorem d_Mo_keyOf_33 : decode b_Mo_keyOf 33 = .ok (.iload 5, 2) := by decide +kernel
theorem d_Mo_keyOf_35 : decode b_Mo_keyOf 35 = .ok (.ishr, 1) := by decide +kernel
theorem d_Mo_keyOf_36 : decode b_Mo_keyOf 36 = .ok (.iconst 1, 1) := by decide +kernel
theorem d_Mo_keyOf_37 : decode b_Mo_keyOf 37 = .ok (.iand, 1) := by decide +kernel
theorem d_Mo_keyOf_38 : decode b_Mo_keyOf 38 = .ok (.imul, 1) := by decide +kernel
theorem d_Mo_keyOf_39 : decode b_Mo_keyOf 39 = .ok (.iadd, 1) := by decide +kernel
theorem d_Mo_keyOf_40 : decode b_Mo_keyOf 40 = .ok (.istore 4, 2) := by decide +kernel
theorem d_Mo_keyOf_42 : decode b_Mo_keyOf 42 = .ok (.iinc 5 (-1), 3) := by decide +kernel
theorem d_Mo_keyOf_45 : decode b_Mo_keyOf 45 = .ok (.goto (-30), 3) := by decide +kernel
theorem d_Mo_keyOf_48 : decode b_Mo_keyOf 48 = .ok (.iload 4, 2) := by decide +kernel
theorem d_Mo_keyOf_50 : decode b_Mo_keyOf 50 = .ok (.ireturn, 1) := by decide +kernel
theorem d_Mo_keyOf_51 : decode b_Mo_keyOf 51 = .ok (.iload_n 2, 1) := by decide +kernel
theorem d_Mo_keyOf_52 : decode b_Mo_keyOf 52 = .ok (.istore 5, 2) := by decide +kernel
theorem d_Mo_keyOf_54 : decode b_Mo_keyOf 54 = .ok (.iload_n 3, 1) := by decide +kernel
theorem d_Mo_keyOf_55 : decode b_Mo_keyOf 55 = .ok (.istore 6, 2) := by decide +kernel
theorem d_Mo_keyOf_57 : decode b_Mo_keyOf 57 = .ok (.aload_n 0, 1) := by decide +kernel
theorem d_Mo_keyOf_58 : decode b_Mo_keyOf 58 = .ok (.invokevirtual 26, 3) := by decide +kernel
theorem d_Mo_keyOf_61 : decode b_Mo_keyOf 61 = .ok (.iconst 2, 1) := by decide +kernel
theorem d_Mo_keyOf_62 : decode b_Mo_keyOf 62 = .ok (.idiv, 1) := by decide +kernel
theorem d_Mo_keyOf_63 : decode b_Mo_keyOf 63 = .ok (.istore 7, 2) := by decide +kernel
theorem d_Mo_keyOf_65 : decode b_Mo_keyOf 65 = .ok (.iload 7, 2) := by decide +kernel
theorem d_Mo_keyOf_67 : decode b_Mo_keyOf 67 = .ok (.ifCond .le 136, 3) := by decide +kernel
theorem d_Mo_keyOf_70 : decode b_Mo_keyOf 70 = .ok (.iload 5, 2) := by decide +kernel
theorem d_Mo_keyOf_72 : decode b_Mo_keyOf 72 = .ok (.istore 8, 2) := by decide +kernel
theorem d_Mo_keyOf_74 : decode b_Mo_keyOf 74 = .ok (.iload 5, 2) := by decide +kernel
theorem d_Mo_keyOf_76 : decode b_Mo_keyOf 76 = .ok (.iload 7, 2) := by decide +kernel
theorem d_Mo_keyOf_78 : decode b_Mo_keyOf 78 = .ok (.if_icmp .ge 21, 3) := by decide +kernel
theorem d_Mo_keyOf_81 : decode b_Mo_keyOf 81 = .ok (.iload 6, 2) := by decide +kernel
theorem d_Mo_keyOf_83 : decode b_Mo_keyOf 83 = .ok (.iload 7, 2) := by decide +kernel
theorem d_Mo_keyOf_85 : decode b_Mo_keyOf 85 = .ok (.if_icmp .ge 14, 3) := by decide +kernel
theorem d_Mo_keyOf_88 : decode b_Mo_keyOf 88 = .ok (.iload 6, 2) := by decide +kernel
theorem d_Mo_keyOf_90 : decode b_Mo_keyOf 90 = .ok (.istore 5, 2) := by decide +kernel
theorem d_Mo_keyOf_92 : decode b_Mo_keyOf 92 = .ok (.iload 8, 2) := by decide +kernel
theorem d_Mo_keyOf_94 : decode b_Mo_keyOf 94 = .ok (.istore 6, 2) := by decide +kernel
theorem d_Mo_keyOf_96 : decode b_Mo_keyOf 96 = .ok (.goto 98, 3) := by decide +kernel
theorem d_Mo_keyOf_99 : decode b_Mo_keyOf 99 = .ok (.iload 5, 2) := by decide +kernel
theorem d_Mo_keyOf_101 : decode b_Mo_keyOf 101 = .ok (.iload 7, 2) := by decide +kernel
theorem d_Mo_keyOf_103 : decode b_Mo_keyOf 103 = .ok (.if_icmp .ge 23, 3) := by decide +kernel
theorem d_Mo_keyOf_106 : decode b_Mo_keyOf 106 = .ok (.iload 4, 2) := by decide +kernel
theorem d_Mo_keyOf_108 : decode b_Mo_keyOf 108 = .ok (.iload 7, 2) := by decide +kernel
theorem d_Mo_keyOf_110 : decode b_Mo_keyOf 110 = .ok (.iload 7, 2) := by decide +kernel
theorem d_Mo_keyOf_112 : decode b_Mo_keyOf 112 = .ok (.imul, 1) := by decide +kernel
theorem d_Mo_keyOf_113 : decode b_Mo_keyOf 113 = .ok (.iadd, 1) := by decide +kernel
theorem d_Mo_keyOf_114 : decode b_Mo_keyOf 114 = .ok (.istore 4, 2) := by decide +kernel
theorem d_Mo_keyOf_116 : decode b_Mo_keyOf 116 = .ok (.iload 6, 2) := by decide +kernel
theorem d_Mo_keyOf_118 : decode b_Mo_keyOf 118 = .ok (.iload 7, 2) := by decide +kernel
theorem d_Mo_keyOf_120 : decode b_Mo_keyOf 120 = .ok (.isub, 1) := by decide +kernel
theorem d_Mo_keyOf_121 : decode b_Mo_keyOf 121 = .ok (.istore 6, 2) := by decide +kernel
theorem d_Mo_keyOf_123 : decode b_Mo_keyOf 123 = .ok (.goto 71, 3) := by decide +kernel
theorem d_Mo_keyOf_126 : decode b_Mo_keyOf 126 = .ok (.iload 6, 2) := by decide +kernel
theorem d_Mo_keyOf_128 : decode b_Mo_keyOf 128 = .ok (.iload 7, 2) := by decide +kernel
theorem d_Mo_keyOf_130 : decode b_Mo_keyOf 130 = .ok (.if_icmp .lt 32, 3) := by decide +kernel
theorem d_Mo_keyOf_133 : decode b_Mo_keyOf 133 = .ok (.iload 4, 2) := by decide +kernel
theorem d_Mo_keyOf_135 : decode b_Mo_keyOf 135 = .ok (.iconst 2, 1) := by decide +kernel
theorem d_Mo_keyOf_136 : decode b_Mo_keyOf 136 = .ok (.iload 7, 2) := by decide +kernel
theorem d_Mo_keyOf_138 : decode b_Mo_keyOf 138 = .ok (.imul, 1) := by decide +kernel
theorem d_Mo_keyOf_139 : decode b_Mo_keyOf 139 = .ok (.iload 7, 2) := by decide +kernel
theorem d_Mo_keyOf_141 : decode b_Mo_keyOf 141 = .ok (.imul, 1) := by decide +kernel
theorem d_Mo_keyOf_142 : decode b_Mo_keyOf 142 = .ok (.iadd, 1) := by decide +kernel
theorem d_Mo_keyOf_143 : decode b_Mo_keyOf 143 = .ok (.istore 4, 2) := by decide +kernel
theorem d_Mo_keyOf_145 : decode b_Mo_keyOf 145 = .ok (.iload 5, 2) := by decide +kernel
theorem d_Mo_keyOf_147 : decode b_Mo_keyOf 147 = .ok (.iload 7, 2) := by decide +kernel
theorem d_Mo_keyOf_149 : decode b_Mo_keyOf 149 = .ok (.isub, 1) := by decide +kernel
theorem d_Mo_keyOf_150 : decode b_Mo_keyOf 150 = .ok (.istore 5, 2) := by decide +kernel
theorem d_Mo_keyOf_152 : decode b_Mo_keyOf 152 = .ok (.iload 6, 2) := by decide +kernel
theorem d_Mo_keyOf_154 : decode b_Mo_keyOf 154 = .ok (.iload 7, 2) := by decide +kernel
theorem d_Mo_keyOf_156 : decode b_Mo_keyOf 156 = .ok (.isub, 1) := by decide +kernel
theorem d_Mo_keyOf_157 : decode b_Mo_keyOf 157 = .ok (.istore 6, 2) := by decide +kernel
theorem d_Mo_keyOf_159 : decode b_Mo_keyOf 159 = .ok (.goto 35, 3) := by decide +kernel
theorem d_Mo_keyOf_162 : decode b_Mo_keyOf 162 = .ok (.iload 4, 2) := by decide +kernel
theorem d_Mo_keyOf_164 : decode b_Mo_keyOf 164 = .ok (.iconst 3, 1) := by decide +kernel
theorem d_Mo_keyOf_165 : decode b_Mo_keyOf 165 = .ok (.iload 7, 2) := by decide +kernel
theorem d_Mo_keyOf_167 : decode b_Mo_keyOf 167 = .ok (.imul, 1) := by decide +kernel
theorem d_Mo_keyOf_168 : decode b_Mo_keyOf 168 = .ok (.iload 7, 2) := by decide +kernel
theorem d_Mo_keyOf_170 : decode b_Mo_keyOf 170 = .ok (.imul, 1) := by decide +kernel
theorem d_Mo_keyOf_171 : decode b_Mo_keyOf 171 = .ok (.iadd, 1) := by decide +kernel
theorem d_Mo_keyOf_172 : decode b_Mo_keyOf 172 = .ok (.istore 4, 2) := by decide +kernel
theorem d_Mo_keyOf_174 : decode b_Mo_keyOf 174 = .ok (.iload 7, 2) := by decide +kernel
theorem d_Mo_keyOf_176 : decode b_Mo_keyOf 176 = .ok (.iconst 1, 1) := by decide +kernel
theorem d_Mo_keyOf_177 : decode b_Mo_keyOf 177 = .ok (.isub, 1) := by decide +kernel
theorem d_Mo_keyOf_178 : decode b_Mo_keyOf 178 = .ok (.iload 6, 2) := by decide +kernel
theorem d_Mo_keyOf_180 : decode b_Mo_keyOf 180 = .ok (.isub, 1) := by decide +kernel
theorem d_Mo_keyOf_181 : decode b_Mo_keyOf 181 = .ok (.istore 5, 2) := by decide +kernel
theorem d_Mo_keyOf_183 : decode b_Mo_keyOf 183 = .ok (.iconst 2, 1) := by decide +kernel
theorem d_Mo_keyOf_184 : decode b_Mo_keyOf 184 = .ok (.iload 7, 2) := by decide +kernel
theorem d_Mo_keyOf_186 : decode b_Mo_keyOf 186 = .ok (.imul, 1) := by decide +kernel
theorem d_Mo_keyOf_187 : decode b_Mo_keyOf 187 = .ok (.iconst 1, 1) := by decide +kernel
theorem d_Mo_keyOf_188 : decode b_Mo_keyOf 188 = .ok (.isub, 1) := by decide +kernel
theorem d_Mo_keyOf_189 : decode b_Mo_keyOf 189 = .ok (.iload 8, 2) := by decide +kernel
theorem d_Mo_keyOf_191 : decode b_Mo_keyOf 191 = .ok (.isub, 1) := by decide +kernel
theorem d_Mo_keyOf_192 : decode b_Mo_keyOf 192 = .ok (.istore 6, 2) := by decide +kernel
theorem d_Mo_keyOf_194 : decode b_Mo_keyOf 194 = .ok (.iload 7, 2) := by decide +kernel
theorem d_Mo_keyOf_196 : decode b_Mo_keyOf 196 = .ok (.iconst 2, 1) := by decide +kernel
theorem d_Mo_keyOf_197 : decode b_Mo_keyOf 197 = .ok (.idiv, 1) := by decide +kernel
theorem d_Mo_keyOf_198 : decode b_Mo_keyOf 198 = .ok (.istore 7, 2) := by decide +kernel
theorem d_Mo_keyOf_200 : decode b_Mo_keyOf 200 = .ok (.goto (-135), 3) := by decide +kernel
theorem d_Mo_keyOf_203 : decode b_Mo_keyOf 203 = .ok (.iload 4, 2) := by decide +kernel
theorem d_Mo_keyOf_205 : decode b_Mo_keyOf 205 = .ok (.ireturn, 1) := by decide +kernel
theorem d_Mo_cellOf_0 : decode b_Mo_cellOf 0 = .ok (.iconst 0, 1) := by decide +kernel
theorem d_Mo_cellOf_1 : decode b_Mo_cellOf 1 = .ok (.istore_n 3, 1) := by decide +kernel
theorem d_Mo_cellOf_2 : decode b_Mo_cellOf 2 = .ok (.iconst 0, 1) := by decide +kernel
theorem d_Mo_cellOf_3 : decode b_Mo_cellOf 3 = .ok (.istore 4, 2) := by decide +kernel
theorem d_Mo_cellOf_5 : decode b_Mo_cellOf 5 = .ok (.iconst 0, 1) := by decide +kernel
theorem d_Mo_cellOf_6 : decode b_Mo_cellOf 6 = .ok (.istore 5, 2) := by decide +kernel
theorem d_Mo_cellOf_8 : decode b_Mo_cellOf 8 = .ok (.iload 5, 2) := by decide +kernel
theorem d_Mo_cellOf_10 : decode b_Mo_cellOf 10 = .ok (.aload_n 0, 1) := by decide +kernel
theorem d_Mo_cellOf_11 : decode b_Mo_cellOf 11 = .ok (.getfield 7, 3) := by decide +kernel
theorem d_Mo_cellOf_14 : decode b_Mo_cellOf 14 = .ok (.if_icmp .ge 128, 3) := by decide +kernel
theorem d_Mo_cellOf_17 : decode b_Mo_cellOf 17 = .ok (.iconst 1, 1) := by decide +kernel
theorem d_Mo_cellOf_18 : decode b_Mo_cellOf 18 = .ok (.iload 5, 2) := by decide +kernel
theorem d_Mo_cellOf_20 : decode b_Mo_cellOf 20 = .ok (.ishl, 1) := by decide +kernel
theorem d_Mo_cellOf_21 : decode b_Mo_cellOf 21 = .ok (.istore 6, 2) := by decide +kernel
theorem d_Mo_cellOf_23 : decode b_Mo_cellOf 23 = .ok (.iload_n 2, 1) := by decide +kernel
theorem d_Mo_cellOf_24 : decode b_Mo_cellOf 24 = .ok (.iconst 2, 1) := by decide +kernel
theorem d_Mo_cellOf_25 : decode b_Mo_cellOf 25 = .ok (.iload 5, 2) := by decide +kernel
theorem d_Mo_cellOf_27 : decode b_Mo_cellOf 27 = .ok (.imul, 1) := by decide +kernel
theorem d_Mo_cellOf_28 : decode b_Mo_cellOf 28 = .ok (.ishr, 1) := by decide +kernel
theorem d_Mo_cellOf_29 : decode b_Mo_cellOf 29 = .ok (.iconst 3, 1) := by decide +kernel
theorem d_Mo_cellOf_30 : decode b_Mo_cellOf 30 = .ok (.iand, 1) := by decide +kernel
theorem d_Mo_cellOf_31 : decode b_Mo_cellOf 31 = .ok (.istore 7, 2) := by decide +kernel
theorem d_Mo_cellOf_33 : decode b_Mo_cellOf 33 = .ok (.iload_n 1, 1) := by decide +kernel
theorem d_Mo_cellOf_34 : decode b_Mo_cellOf 34 = .ok (.ifCond .ne 28, 3) := by decide +kernel
theorem d_Mo_cellOf_37 : decode b_Mo_cellOf 37 = .ok (.iload_n 3, 1) := by decide +kernel
theorem d_Mo_cellOf_38 : decode b_Mo_cellOf 38 = .ok (.iload 6, 2) := by decide +kernel
theorem d_Mo_cellOf_40 : decode b_Mo_cellOf 40 = .ok (.iload 7, 2) := by decide +kernel
theorem d_Mo_cellOf_42 : decode b_Mo_cellOf 42 = .ok (.iconst 1, 1) := by decide +kernel
theorem d_Mo_cellOf_43 : decode b_Mo_cellOf 43 = .ok (.iand, 1) := by decide +kernel
theorem d_Mo_cellOf_44 : decode b_Mo_cellOf 44 = .ok (.imul, 1) := by decide +kernel
theorem d_Mo_cellOf_45 : decode b_Mo_cellOf 45 = .ok (.iadd, 1) := by decide +kernel
theorem d_Mo_cellOf_46 : decode b_Mo_cellOf 46 = .ok (.istore_n 3, 1) := by decide +kernel
theorem d_Mo_cellOf_47 : decode b_Mo_cellOf 47 = .ok (.iload 4, 2) := by decide +kernel
theorem d_Mo_cellOf_49 : decode b_Mo_cellOf 49 = .ok (.iload 6, 2) := by decide +kernel
theorem d_Mo_cellOf_51 : decode b_Mo_cellOf 51 = .ok (.iload 7, 2) := by decide +kernel
theorem d_Mo_cellOf_53 : decode b_Mo_cellOf 53 = .ok (.iconst 1, 1) := by decide +kernel
theorem d_Mo_cellOf_54 : decode b_Mo_cellOf 54 = .ok (.ishr, 1) := by decide +kernel
theorem d_Mo_cellOf_55 : decode b_Mo_cellOf 55 = .ok (.imul, 1) := by decide +kernel
theorem d_Mo_cellOf_56 : decode b_Mo_cellOf 56 = .ok (.iadd, 1) := by decide +kernel
theorem d_Mo_cellOf_57 : decode b_Mo_cellOf 57 = .ok (.istore 4, 2) := by decide +kernel
theorem d_Mo_cellOf_59 : decode b_Mo_cellOf 59 = .ok (.goto 77, 3) := by decide +kernel
theorem d_Mo_cellOf_62 : decode b_Mo_cellOf 62 = .ok (.iload_n 3, 1) := by decide +kernel
theorem d_Mo_cellOf_63 : decode b_Mo_cellOf 63 = .ok (.istore 8, 2) := by decide +kernel
theorem d_Mo_cellOf_65 : decode b_Mo_cellOf 65 = .ok (.iload 7, 2) := by decide +kernel
theorem d_Mo_cellOf_67 : decode b_Mo_cellOf 67 = .ok (.ifCond .ne 13, 3) := by decide +kernel
theorem d_Mo_cellOf_70 : decode b_Mo_cellOf 70 = .ok (.iload 4, 2) := by decide +kernel
theorem d_Mo_cellOf_72 : decode b_Mo_cellOf 72 = .ok (.istore_n 3, 1) := by decide +kernel
theorem d_Mo_cellOf_73 : decode b_Mo_cellOf 73 = .ok (.iload 8, 2) := by decide +kernel
theorem d_Mo_cellOf_75 : decode b_Mo_cellOf 75 = .ok (.istore 4, 2) := by decide +kernel
theorem d_Mo_cellOf_77 : decode b_Mo_cellOf 77 = .ok (.goto 59, 3) := by decide +kernel
theorem d_Mo_cellOf_80 : decode b_Mo_cellOf 80 = .ok (.iload 7, 2) := by decide +kernel
theorem d_Mo_cellOf_82 : decode b_Mo_cellOf 82 = .ok (.iconst 1, 1) := by decide +kernel
theorem d_Mo_cellOf_83 : decode b_Mo_cellOf 83 = .ok (.if_icmp .ne 13, 3) := by decide +kernel
theorem d_Mo_cellOf_86 : decode b_Mo_cellOf 86 = .ok (.iload 4, 2) := by decide +kernel
theorem d_Mo_cellOf_88 : decode b_Mo_cellOf 88 = .ok (.iload 6, 2) := by decide +kernel
theorem d_Mo_cellOf_90 : decode b_Mo_cellOf 90 = .ok (.iadd, 1) := by decide +kernel
theorem d_Mo_cellOf_91 : decode b_Mo_cellOf 91 = .ok (.istore 4, 2) := by decide +kernel
theorem d_Mo_cellOf_93 : decode b_Mo_cellOf 93 = .ok (.goto 43, 3) := by decide +kernel
theorem d_Mo_cellOf_96 : decode b_Mo_cellOf 96 = .ok (.iload 7, 2) := by decide +kernel
theorem d_Mo_cellOf_98 : decode b_Mo_cellOf 98 = .ok (.iconst 2, 1) := by decide +kernel
theorem d_Mo_cellOf_99 : decode b_Mo_cellOf 99 = .ok (.if_icmp .ne 18, 3) := by decide +kernel
theorem d_Mo_cellOf_102 : decode b_Mo_cellOf 102 = .ok (.iload_n 3, 1) := by decide +kernel
theorem d_Mo_cellOf_103 : decode b_Mo_cellOf 103 = .ok (.iload 6, 2) := by decide +kernel
theorem d_Mo_cellOf_105 : decode b_Mo_cellOf 105 = .ok (.iadd, 1) := by decide +kernel
theorem d_Mo_cellOf_106 : decode b_Mo_cellOf 106 = .ok (.istore_n 3, 1) := by decide +kernel
theorem d_Mo_cellOf_107 : decode b_Mo_cellOf 107 = .ok (.iload 4, 2) := by decide +kernel
theorem d_Mo_cellOf_109 : decode b_Mo_cellOf 109 = .ok (.iload 6, 2) := by decide +kernel
theorem d_Mo_cellOf_111 : decode b_Mo_cellOf 111 = .ok (.iadd, 1) := by decide +kernel
theorem d_Mo_cellOf_112 : decode b_Mo_cellOf 112 = .ok (.istore 4, 2) := by decide +kernel
theorem d_Mo_cellOf_114 : decode b_Mo_cellOf 114 = .ok (.goto 22, 3) := by decide +kernel
theorem d_Mo_cellOf_117 : decode b_Mo_cellOf 117 = .ok (.iconst 2, 1) := by decide +kernel
theorem d_Mo_cellOf_118 : decode b_Mo_cellOf 118 = .ok (.iload 6, 2) := by decide +kernel
theorem d_Mo_cellOf_120 : decode b_Mo_cellOf 120 = .ok (.imul, 1) := by decide +kernel
theorem d_Mo_cellOf_121 : decode b_Mo_cellOf 121 = .ok (.iconst 1, 1) := by decide +kernel
theorem d_Mo_cellOf_122 : decode b_Mo_cellOf 122 = .ok (.isub, 1) := by decide +kernel
theorem d_Mo_cellOf_123 : decode b_Mo_cellOf 123 = .ok (.iload 4, 2) := by decide +kernel
theorem d_Mo_cellOf_125 : decode b_Mo_cellOf 125 = .ok (.isub, 1) := by decide +kernel
theorem d_Mo_cellOf_126 : decode b_Mo_cellOf 126 = .ok (.istore_n 3, 1) := by decide +kernel
theorem d_Mo_cellOf_127 : decode b_Mo_cellOf 127 = .ok (.iload 6, 2) := by decide +kernel
theorem d_Mo_cellOf_129 : decode b_Mo_cellOf 129 = .ok (.iconst 1, 1) := by decide +kernel
theorem d_Mo_cellOf_130 : decode b_Mo_cellOf 130 = .ok (.isub, 1) := by decide +kernel
theorem d_Mo_cellOf_131 : decode b_Mo_cellOf 131 = .ok (.iload 8, 2) := by decide +kernel
theorem d_Mo_cellOf_133 : decode b_Mo_cellOf 133 = .ok (.isub, 1) := by decide +kernel
theorem d_Mo_cellOf_134 : decode b_Mo_cellOf 134 = .ok (.istore 4, 2) := by decide +kernel
theorem d_Mo_cellOf_136 : decode b_Mo_cellOf 136 = .ok (.iinc 5 1, 3) := by decide +kernel
theorem d_Mo_cellOf_139 : decode b_Mo_cellOf 139 = .ok (.goto (-131), 3) := by decide +kernel
theorem d_Mo_cellOf_142 : decode b_Mo_cellOf 142 = .ok (.iload_n 3, 1) := by decide +kernel
theorem d_Mo_cellOf_143 : decode b_Mo_cellOf 143 = .ok (.aload_n 0, 1) := by decide +kernel
theorem d_Mo_cellOf_144 : decode b_Mo_cellOf 144 = .ok (.invokevirtual 26, 3) := by decide +kernel
theorem d_Mo_cellOf_147 : decode b_Mo_cellOf 147 = .ok (.imul, 1) := by decide +kernel
theorem d_Mo_cellOf_148 : decode b_Mo_cellOf 148 = .ok (.iload 4, 2) := by decide +kernel
theorem d_Mo_cellOf_150 : decode b_Mo_cellOf 150 = .ok (.iadd, 1) := by decide +kernel
theorem d_Mo_cellOf_151 : decode b_Mo_cellOf 151 = .ok (.ireturn, 1) := by decide +kernel
theorem d_Mo_isCurve_0 : decode b_Mo_isCurve 0 = .ok (.iload_n 0, 1) := by decide +kernel
theorem d_Mo_isCurve_1 : decode b_Mo_isCurve 1 = .ok (.ifCond .eq 8, 3) := by decide +kernel
theorem d_Mo_isCurve_4 : decode b_Mo_isCurve 4 = .ok (.iload_n 0, 1) := by decide +kernel
theorem d_Mo_isCurve_5 : decode b_Mo_isCurve 5 = .ok (.iconst 1, 1) := by decide +kernel
theorem d_Mo_isCurve_6 : decode b_Mo_isCurve 6 = .ok (.if_icmp .ne 7, 3) := by decide +kernel
theorem d_Mo_isCurve_9 : decode b_Mo_isCurve 9 = .ok (.iconst 1, 1) := by decide +kernel
theorem d_Mo_isCurve_10 : decode b_Mo_isCurve 10 = .ok (.goto 4, 3) := by decide +kernel
theorem d_Mo_isCurve_13 : decode b_Mo_isCurve 13 = .ok (.iconst 0, 1) := by decide +kernel
theorem d_Mo_isCurve_14 : decode b_Mo_isCurve 14 = .ok (.ireturn, 1) := by decide +kernel
theorem d_Mo_key_0 : decode b_Mo_key 0 = .ok (.iload_n 1, 1) := by decide +kernel
theorem d_Mo_key_1 : decode b_Mo_key 1 = .ok (.invokestatic 45, 3) := by decide +kernel
theorem d_Mo_key_4 : decode b_Mo_key 4 = .ok (.ifCond .eq 22, 3) := by decide +kernel
theorem d_Mo_key_7 : decode b_Mo_key 7 = .ok (.aload_n 0, 1) := by decide +kernel
theorem d_Mo_key_8 : decode b_Mo_key 8 = .ok (.iload_n 2, 1) := by decide +kernel
theorem d_Mo_key_9 : decode b_Mo_key 9 = .ok (.iload_n 3, 1) := by decide +kernel
theorem d_Mo_key_10 : decode b_Mo_key 10 = .ok (.invokevirtual 49, 3) := by decide +kernel
theorem d_Mo_key_13 : decode b_Mo_key 13 = .ok (.ifCond .eq 13, 3) := by decide +kernel
theorem d_Mo_key_16 : decode b_Mo_key 16 = .ok (.aload_n 0, 1) := by decide +kernel
theorem d_Mo_key_17 : decode b_Mo_key 17 = .ok (.iload_n 1, 1) := by decide +kernel
theorem d_Mo_key_18 : decode b_Mo_key 18 = .ok (.iload_n 2, 1) := by decide +kernel
theorem d_Mo_key_19 : decode b_Mo_key 19 = .ok (.iload_n 3, 1) := by decide +kernel
theorem d_Mo_key_20 : decode b_Mo_key 20 = .ok (.invokevirtual 53, 3) := by decide +kernel
theorem d_Mo_key_23 : decode b_Mo_key 23 = .ok (.goto 4, 3) := by decide +kernel
theorem d_Mo_key_26 : decode b_Mo_key 26 = .ok (.iconst (-1), 1) := by decide +kernel
theorem d_Mo_key_27 : decode b_Mo_key 27 = .ok (.ireturn, 1) := by decide +kernel
theorem d_Mo_cell_0 : decode b_Mo_cell 0 = .ok (.iload_n 1, 1) := by decide +kernel
theorem d_Mo_cell_1 : decode b_Mo_cell 1 = .ok (.invokestatic 45, 3) := by decide +kernel
theorem d_Mo_cell_4 : decode b_Mo_cell 4 = .ok (.ifCond .eq 29, 3) := by decide +kernel
theorem d_Mo_cell_7 : decode b_Mo_cell 7 = .ok (.iload_n 2, 1) := by decide +kernel
theorem d_Mo_cell_8 : decode b_Mo_cell 8 = .ok (.ifCond .lt 25, 3) := by decide +kernel
theorem d_Mo_cell_11 : decode b_Mo_cell 11 = .ok (.iload_n 2, 1) := by decide +kernel
theorem d_Mo_cell_12 : decode b_Mo_cell 12 = .ok (.aload_n 0, 1) := by decide +kernel
theorem d_Mo_cell_13 : decode b_Mo_cell 13 = .ok (.invokevirtual 26, 3) := by decide +kernel
theorem d_Mo_cell_16 : decode b_Mo_cell 16 = .ok (.aload_n 0, 1) := by decide +kernel
theorem d_Mo_cell_17 : decode b_Mo_cell 17 = .ok (.invokevirtual 26, 3) := by decide +kernel
theorem d_Mo_cell_20 : decode b_Mo_cell 20 = .ok (.imul, 1) := by decide +kernel
theorem d_Mo_cell_21 : decode b_Mo_cell 21 = .ok (.if_icmp .ge 12, 3) := by decide +kernel
theorem d_Mo_cell_24 : decode b_Mo_cell 24 = .ok (.aload_n 0, 1) := by decide +kernel
theorem d_Mo_cell_25 : decode b_Mo_cell 25 = .ok (.iload_n 1, 1) := by decide +kernel
theorem d_Mo_cell_26 : decode b_Mo_cell 26 = .ok (.iload_n 2, 1) := by decide +kernel
theorem d_Mo_cell_27 : decode b_Mo_cell 27 = .ok (.invokevirtual 57, 3) := by decide +kernel
theorem d_Mo_cell_30 : decode b_Mo_cell 30 = .ok (.goto 4, 3) := by decide +kernel
theorem d_Mo_cell_33 : decode b_Mo_cell 33 = .ok (.iconst (-1), 1) := by decide +kernel
theorem d_Mo_cell_34 : decode b_Mo_cell 34 = .ok (.ireturn, 1) := by decide +kernel
theorem d_Mo_find_0 : decode b_Mo_find 0 = .ok (.iconst 0, 1) := by decide +kernel
theorem d_Mo_find_1 : decode b_Mo_find 1 = .ok (.istore_n 2, 1) := by decide +kernel
theorem d_Mo_find_2 : decode b_Mo_find 2 = .ok (.iload_n 2, 1) := by decide +kernel
theorem d_Mo_find_3 : decode b_Mo_find 3 = .ok (.aload_n 0, 1) := by decide +kernel
theorem d_Mo_find_4 : decode b_Mo_find 4 = .ok (.getfield 30, 3) := by decide +kernel
theorem d_Mo_find_7 : decode b_Mo_find 7 = .ok (.if_icmp .ge 19, 3) := by decide +kernel
theorem d_Mo_find_10 : decode b_Mo_find 10 = .ok (.aload_n 0, 1) := by decide +kernel
theorem d_Mo_find_11 : decode b_Mo_find 11 = .ok (.getfield 13, 3) := by decide +kernel
theorem d_Mo_find_14 : decode b_Mo_find 14 = .ok (.iload_n 2, 1) := by decide +kernel
theorem d_Mo_find_15 : decode b_Mo_find 15 = .ok (.iaload, 1) := by decide +kernel
theorem d_Mo_find_16 : decode b_Mo_find 16 = .ok (.iload_n 1, 1) := by decide +kernel
theorem d_Mo_find_17 : decode b_Mo_find 17 = .ok (.if_icmp .eq 9, 3) := by decide +kernel
theorem d_Mo_find_20 : decode b_Mo_find 20 = .ok (.iinc 2 1, 3) := by decide +kernel
theorem d_Mo_find_23 : decode b_Mo_find 23 = .ok (.goto (-21), 3) := by decide +kernel
theorem d_Mo_find_26 : decode b_Mo_find 26 = .ok (.iload_n 2, 1) := by decide +kernel
theorem d_Mo_find_27 : decode b_Mo_find 27 = .ok (.ireturn, 1) := by decide +kernel
theorem d_Mo_put_0 : decode b_Mo_put 0 = .ok (.aload_n 0, 1) := by decide +kernel
theorem d_Mo_put_1 : decode b_Mo_put 1 = .ok (.iload_n 1, 1) := by decide +kernel
theorem d_Mo_put_2 : decode b_Mo_put 2 = .ok (.iload_n 2, 1) := by decide +kernel
theorem d_Mo_put_3 : decode b_Mo_put 3 = .ok (.invokevirtual 49, 3) := by decide +kernel
theorem d_Mo_put_6 : decode b_Mo_put 6 = .ok (.ifCond .eq 15, 3) := by decide +kernel
theorem d_Mo_put_9 : decode b_Mo_put 9 = .ok (.iload_n 3, 1) := by decide +kernel
theorem d_Mo_put_10 : decode b_Mo_put 10 = .ok (.iconst 1, 1) := by decide +kernel
theorem d_Mo_put_11 : decode b_Mo_put 11 = .ok (.if_icmp .lt 10, 3) := by decide +kernel
theorem d_Mo_put_14 : decode b_Mo_put 14 = .ok (.iload_n 3, 1) := by decide +kernel
theorem d_Mo_put_15 : decode b_Mo_put 15 = .ok (.sipush 999, 3) := by decide +kernel
theorem d_Mo_put_18 : decode b_Mo_put 18 = .ok (.if_icmp .le 5, 3) := by decide +kernel
theorem d_Mo_put_21 : decode b_Mo_put 21 = .ok (.iconst (-1), 1) := by decide +kernel
theorem d_Mo_put_22 : decode b_Mo_put 22 = .ok (.ireturn, 1) := by decide +kernel
theorem d_Mo_put_23 : decode b_Mo_put 23 = .ok (.aload_n 0, 1) := by decide +kernel
theorem d_Mo_put_24 : decode b_Mo_put 24 = .ok (.iload_n 1, 1) := by decide +kernel
theorem d_Mo_put_25 : decode b_Mo_put 25 = .ok (.aload_n 0, 1) := by decide +kernel
theorem d_Mo_put_26 : decode b_Mo_put 26 = .ok (.invokevirtual 26, 3) := by decide +kernel
theorem d_Mo_put_29 : decode b_Mo_put 29 = .ok (.imul, 1) := by decide +kernel
theorem d_Mo_put_30 : decode b_Mo_put 30 = .ok (.iload_n 2, 1) := by decide +kernel
theorem d_Mo_put_31 : decode b_Mo_put 31 = .ok (.iadd, 1) := by decide +kernel
theorem d_Mo_put_32 : decode b_Mo_put 32 = .ok (.invokevirtual 61, 3) := by decide +kernel
theorem d_Mo_put_35 : decode b_Mo_put 35 = .ok (.istore 4, 2) := by decide +kernel
theorem d_Mo_put_37 : decode b_Mo_put 37 = .ok (.iload 4, 2) := by decide +kernel
theorem d_Mo_put_39 : decode b_Mo_put 39 = .ok (.sipush 500, 3) := by decide +kernel
theorem d_Mo_put_42 : decode b_Mo_put 42 = .ok (.if_icmp .ne 5, 3) := by decide +kernel
theorem d_Mo_put_45 : decode b_Mo_put 45 = .ok (.iconst (-1), 1) := by decide +kernel
theorem d_Mo_put_46 : decode b_Mo_put 46 = .ok (.ireturn, 1) := by decide +kernel
theorem d_Mo_put_47 : decode b_Mo_put 47 = .ok (.iload 4, 2) := by decide +kernel
theorem d_Mo_put_49 : decode b_Mo_put 49 = .ok (.aload_n 0, 1) := by decide +kernel
theorem d_Mo_put_50 : decode b_Mo_put 50 = .ok (.getfield 30, 3) := by decide +kernel
theorem d_Mo_put_53 : decode b_Mo_put 53 = .ok (.if_icmp .ge 13, 3) := by decide +kernel
theorem d_Mo_put_56 : decode b_Mo_put 56 = .ok (.aload_n 0, 1) := by decide +kernel
theorem d_Mo_put_57 : decode b_Mo_put 57 = .ok (.getfield 17, 3) := by decide +kernel
theorem d_Mo_put_60 : decode b_Mo_put 60 = .ok (.iload 4, 2) := by decide +kernel
theorem d_Mo_put_62 : decode b_Mo_put 62 = .ok (.iaload, 1) := by decide +kernel
theorem d_Mo_put_63 : decode b_Mo_put 63 = .ok (.goto 4, 3) := by decide +kernel
theorem d_Mo_put_66 : decode b_Mo_put 66 = .ok (.iconst 0, 1) := by decide +kernel
theorem d_Mo_put_67 : decode b_Mo_put 67 = .ok (.istore 5, 2) := by decide +kernel
theorem d_Mo_put_69 : decode b_Mo_put 69 = .ok (.aload_n 0, 1) := by decide +kernel
theorem d_Mo_put_70 : decode b_Mo_put 70 = .ok (.getfield 13, 3) := by decide +kernel
theorem d_Mo_put_73 : decode b_Mo_put 73 = .ok (.iload 4, 2) := by decide +kernel
theorem d_Mo_put_75 : decode b_Mo_put 75 = .ok (.iload_n 1, 1) := by decide +kernel
theorem d_Mo_put_76 : decode b_Mo_put 76 = .ok (.aload_n 0, 1) := by decide +kernel
theorem d_Mo_put_77 : decode b_Mo_put 77 = .ok (.invokevirtual 26, 3) := by decide +kernel
theorem d_Mo_put_80 : decode b_Mo_put 80 = .ok (.imul, 1) := by decide +kernel
theorem d_Mo_put_81 : decode b_Mo_put 81 = .ok (.iload_n 2, 1) := by decide +kernel
theorem d_Mo_put_82 : decode b_Mo_put 82 = .ok (.iadd, 1) := by decide +kernel
theorem d_Mo_put_83 : decode b_Mo_put 83 = .ok (.iastore, 1) := by decide +kernel
theorem d_Mo_put_84 : decode b_Mo_put 84 = .ok (.aload_n 0, 1) := by decide +kernel
theorem d_Mo_put_85 : decode b_Mo_put 85 = .ok (.getfield 17, 3) := by decide +kernel
theorem d_Mo_put_88 : decode b_Mo_put 88 = .ok (.iload 4, 2) := by decide +kernel
theorem d_Mo_put_90 : decode b_Mo_put 90 = .ok (.iload_n 3, 1) := by decide +kernel
theorem d_Mo_put_91 : decode b_Mo_put 91 = .ok (.iastore, 1) := by decide +kernel
theorem d_Mo_put_92 : decode b_Mo_put 92 = .ok (.aload_n 0, 1) := by decide +kernel
theorem d_Mo_put_93 : decode b_Mo_put 93 = .ok (.iload 4, 2) := by decide +kernel
theorem d_Mo_put_95 : decode b_Mo_put 95 = .ok (.aload_n 0, 1) := by decide +kernel
theorem d_Mo_put_96 : decode b_Mo_put 96 = .ok (.getfield 30, 3) := by decide +kernel
theorem d_Mo_put_99 : decode b_Mo_put 99 = .ok (.if_icmp .ne 12, 3) := by decide +kernel
theorem d_Mo_put_102 : decode b_Mo_put 102 = .ok (.aload_n 0, 1) := by decide +kernel
theorem d_Mo_put_103 : decode b_Mo_put 103 = .ok (.getfield 30, 3) := by decide +kernel
theorem d_Mo_put_106 : decode b_Mo_put 106 = .ok (.iconst 1, 1) := by decide +kernel
theorem d_Mo_put_107 : decode b_Mo_put 107 = .ok (.iadd, 1) := by decide +kernel
theorem d_Mo_put_108 : decode b_Mo_put 108 = .ok (.goto 7, 3) := by decide +kernel
theorem d_Mo_put_111 : decode b_Mo_put 111 = .ok (.aload_n 0, 1) := by decide +kernel
theorem d_Mo_put_112 : decode b_Mo_put 112 = .ok (.getfield 30, 3) := by decide +kernel
theorem d_Mo_put_115 : decode b_Mo_put 115 = .ok (.putfield 30, 3) := by decide +kernel
theorem d_Mo_put_118 : decode b_Mo_put 118 = .ok (.iload 5, 2) := by decide +kernel
theorem d_Mo_put_120 : decode b_Mo_put 120 = .ok (.ireturn, 1) := by decide +kernel
theorem d_Mo_take_0 : decode b_Mo_take 0 = .ok (.aload_n 0, 1) := by decide +kernel
theorem d_Mo_take_1 : decode b_Mo_take 1 = .ok (.iload_n 1, 1) := by decide +kernel
theorem d_Mo_take_2 : decode b_Mo_take 2 = .ok (.iload_n 2, 1) := by decide +kernel
theorem d_Mo_take_3 : decode b_Mo_take 3 = .ok (.invokevirtual 49, 3) := by decide +kernel
theorem d_Mo_take_6 : decode b_Mo_take 6 = .ok (.ifCond .ne 5, 3) := by decide +kernel
theorem d_Mo_take_9 : decode b_Mo_take 9 = .ok (.iconst (-1), 1) := by decide +kernel
theorem d_Mo_take_10 : decode b_Mo_take 10 = .ok (.ireturn, 1) := by decide +kernel
theorem d_Mo_take_11 : decode b_Mo_take 11 = .ok (.aload_n 0, 1) := by decide +kernel
theorem d_Mo_take_12 : decode b_Mo_take 12 = .ok (.iload_n 1, 1) := by decide +kernel
theorem d_Mo_take_13 : decode b_Mo_take 13 = .ok (.aload_n 0, 1) := by decide +kernel
theorem d_Mo_take_14 : decode b_Mo_take 14 = .ok (.invokevirtual 26, 3) := by decide +kernel
theorem d_Mo_take_17 : decode b_Mo_take 17 = .ok (.imul, 1) := by decide +kernel
theorem d_Mo_take_18 : decode b_Mo_take 18 = .ok (.iload_n 2, 1) := by decide +kernel
theorem d_Mo_take_19 : decode b_Mo_take 19 = .ok (.iadd, 1) := by decide +kernel
theorem d_Mo_take_20 : decode b_Mo_take 20 = .ok (.invokevirtual 61, 3) := by decide +kernel
theorem d_Mo_take_23 : decode b_Mo_take 23 = .ok (.istore_n 3, 1) := by decide +kernel
theorem d_Mo_take_24 : decode b_Mo_take 24 = .ok (.iload_n 3, 1) := by decide +kernel
theorem d_Mo_take_25 : decode b_Mo_take 25 = .ok (.aload_n 0, 1) := by decide +kernel
theorem d_Mo_take_26 : decode b_Mo_take 26 = .ok (.getfield 30, 3) := by decide +kernel
theorem d_Mo_take_29 : decode b_Mo_take 29 = .ok (.if_icmp .ne 5, 3) := by decide +kernel
theorem d_Mo_take_32 : decode b_Mo_take 32 = .ok (.iconst 0, 1) := by decide +kernel
theorem d_Mo_take_33 : decode b_Mo_take 33 = .ok (.ireturn, 1) := by decide +kernel
theorem d_Mo_take_34 : decode b_Mo_take 34 = .ok (.aload_n 0, 1) := by decide +kernel
theorem d_Mo_take_35 : decode b_Mo_take 35 = .ok (.getfield 17, 3) := by decide +kernel
theorem d_Mo_take_38 : decode b_Mo_take 38 = .ok (.iload_n 3, 1) := by decide +kernel
theorem d_Mo_take_39 : decode b_Mo_take 39 = .ok (.iaload, 1) := by decide +kernel
theorem d_Mo_take_40 : decode b_Mo_take 40 = .ok (.istore 4, 2) := by decide +kernel
theorem d_Mo_take_42 : decode b_Mo_take 42 = .ok (.aload_n 0, 1) := by decide +kernel
theorem d_Mo_take_43 : decode b_Mo_take 43 = .ok (.dup, 1) := by decide +kernel
theorem d_Mo_take_44 : decode b_Mo_take 44 = .ok (.getfield 30, 3) := by decide +kernel
theorem d_Mo_take_47 : decode b_Mo_take 47 = .ok (.iconst 1, 1) := by decide +kernel
theorem d_Mo_take_48 : decode b_Mo_take 48 = .ok (.isub, 1) := by decide +kernel
theorem d_Mo_take_49 : decode b_Mo_take 49 = .ok (.putfield 30, 3) := by decide +kernel
theorem d_Mo_take_52 : decode b_Mo_take 52 = .ok (.aload_n 0, 1) := by decide +kernel
theorem d_Mo_take_53 : decode b_Mo_take 53 = .ok (.getfield 13, 3) := by decide +kernel
theorem d_Mo_take_56 : decode b_Mo_take 56 = .ok (.iload_n 3, 1) := by decide +kernel
theorem d_Mo_take_57 : decode b_Mo_take 57 = .ok (.aload_n 0, 1) := by decide +kernel
theorem d_Mo_take_58 : decode b_Mo_take 58 = .ok (.getfield 13, 3) := by decide +kernel
theorem d_Mo_take_61 : decode b_Mo_take 61 = .ok (.aload_n 0, 1) := by decide +kernel
theorem d_Mo_take_62 : decode b_Mo_take 62 = .ok (.getfield 30, 3) := by decide +kernel
theorem d_Mo_take_65 : decode b_Mo_take 65 = .ok (.iaload, 1) := by decide +kernel
theorem d_Mo_take_66 : decode b_Mo_take 66 = .ok (.iastore, 1) := by decide +kernel
theorem d_Mo_take_67 : decode b_Mo_take 67 = .ok (.aload_n 0, 1) := by decide +kernel
theorem d_Mo_take_68 : decode b_Mo_take 68 = .ok (.getfield 17, 3) := by decide +kernel
theorem d_Mo_take_71 : decode b_Mo_take 71 = .ok (.iload_n 3, 1) := by decide +kernel
theorem d_Mo_take_72 : decode b_Mo_take 72 = .ok (.aload_n 0, 1) := by decide +kernel
theorem d_Mo_take_73 : decode b_Mo_take 73 = .ok (.getfield 17, 3) := by decide +kernel
theorem d_Mo_take_76 : decode b_Mo_take 76 = .ok (.aload_n 0, 1) := by decide +kernel
theorem d_Mo_take_77 : decode b_Mo_take 77 = .ok (.getfield 30, 3) := by decide +kernel
theorem d_Mo_take_80 : decode b_Mo_take 80 = .ok (.iaload, 1) := by decide +kernel
theorem d_Mo_take_81 : decode b_Mo_take 81 = .ok (.iastore, 1) := by decide +kernel
theorem d_Mo_take_82 : decode b_Mo_take 82 = .ok (.iload 4, 2) := by decide +kernel
theorem d_Mo_take_84 : decode b_Mo_take 84 = .ok (.ireturn, 1) := by decide +kernel
theorem d_Mo_at_0 : decode b_Mo_at 0 = .ok (.aload_n 0, 1) := by decide +kernel
theorem d_Mo_at_1 : decode b_Mo_at 1 = .ok (.iload_n 1, 1) := by decide +kernel
theorem d_Mo_at_2 : decode b_Mo_at 2 = .ok (.iload_n 2, 1) := by decide +kernel
theorem d_Mo_at_3 : decode b_Mo_at 3 = .ok (.invokevirtual 49, 3) := by decide +kernel
theorem d_Mo_at_6 : decode b_Mo_at 6 = .ok (.ifCond .ne 5, 3) := by decide +kernel
theorem d_Mo_at_9 : decode b_Mo_at 9 = .ok (.iconst (-1), 1) := by decide +kernel
theorem d_Mo_at_10 : decode b_Mo_at 10 = .ok (.ireturn, 1) := by decide +kernel
theorem d_Mo_at_11 : decode b_Mo_at 11 = .ok (.aload_n 0, 1) := by decide +kernel
theorem d_Mo_at_12 : decode b_Mo_at 12 = .ok (.iload_n 1, 1) := by decide +kernel
theorem d_Mo_at_13 : decode b_Mo_at 13 = .ok (.aload_n 0, 1) := by decide +kernel
theorem d_Mo_at_14 : decode b_Mo_at 14 = .ok (.invokevirtual 26, 3) := by decide +kernel
theorem d_Mo_at_17 : decode b_Mo_at 17 = .ok (.imul, 1) := by decide +kernel
theorem d_Mo_at_18 : decode b_Mo_at 18 = .ok (.iload_n 2, 1) := by decide +kernel
theorem d_Mo_at_19 : decode b_Mo_at 19 = .ok (.iadd, 1) := by decide +kernel
theorem d_Mo_at_20 : decode b_Mo_at 20 = .ok (.invokevirtual 61, 3) := by decide +kernel
theorem d_Mo_at_23 : decode b_Mo_at 23 = .ok (.istore_n 3, 1) := by decide +kernel
theorem d_Mo_at_24 : decode b_Mo_at 24 = .ok (.iload_n 3, 1) := by decide +kernel
theorem d_Mo_at_25 : decode b_Mo_at 25 = .ok (.aload_n 0, 1) := by decide +kernel
theorem d_Mo_at_26 : decode b_Mo_at 26 = .ok (.getfield 30, 3) := by decide +kernel
theorem d_Mo_at_29 : decode b_Mo_at 29 = .ok (.if_icmp .ge 12, 3) := by decide +kernel
theorem d_Mo_at_32 : decode b_Mo_at 32 = .ok (.aload_n 0, 1) := by decide +kernel
theorem d_Mo_at_33 : decode b_Mo_at 33 = .ok (.getfield 17, 3) := by decide +kernel
theorem d_Mo_at_36 : decode b_Mo_at 36 = .ok (.iload_n 3, 1) := by decide +kernel
theorem d_Mo_at_37 : decode b_Mo_at 37 = .ok (.iaload, 1) := by decide +kernel
theorem d_Mo_at_38 : decode b_Mo_at 38 = .ok (.goto 4, 3) := by decide +kernel
theorem d_Mo_at_41 : decode b_Mo_at 41 = .ok (.iconst 0, 1) := by decide +kernel
theorem d_Mo_at_42 : decode b_Mo_at 42 = .ok (.ireturn, 1) := by decide +kernel
theorem d_Mo_many_0 : decode b_Mo_many 0 = .ok (.aload_n 0, 1) := by decide +kernel
theorem d_Mo_many_1 : decode b_Mo_many 1 = .ok (.getfield 30, 3) := by decide +kernel
theorem d_Mo_many_4 : decode b_Mo_many 4 = .ok (.ireturn, 1) := by decide +kernel
theorem d_Mo_window_0 : decode b_Mo_window 0 = .ok (.aload_n 0, 1) := by decide +kernel
theorem d_Mo_window_1 : decode b_Mo_window 1 = .ok (.iload_n 1, 1) := by decide +kernel
theorem d_Mo_window_2 : decode b_Mo_window 2 = .ok (.iload_n 2, 1) := by decide +kernel
theorem d_Mo_window_3 : decode b_Mo_window 3 = .ok (.invokevirtual 49, 3) := by decide +kernel
theorem d_Mo_window_6 : decode b_Mo_window 6 = .ok (.ifCond .eq 24, 3) := by decide +kernel
theorem d_Mo_window_9 : decode b_Mo_window 9 = .ok (.aload_n 0, 1) := by decide +kernel
theorem d_Mo_window_10 : decode b_Mo_window 10 = .ok (.iload_n 3, 1) := by decide +kernel
theorem d_Mo_window_11 : decode b_Mo_window 11 = .ok (.iload 4, 2) := by decide +kernel
theorem d_Mo_window_13 : decode b_Mo_window 13 = .ok (.invokevirtual 49, 3) := by decide +kernel
theorem d_Mo_window_16 : decode b_Mo_window 16 = .ok (.ifCond .eq 14, 3) := by decide +kernel
theorem d_Mo_window_19 : decode b_Mo_window 19 = .ok (.iload_n 3, 1) := by decide +kernel
theorem d_Mo_window_20 : decode b_Mo_window 20 = .ok (.iload_n 1, 1) := by decide +kernel
theorem d_Mo_window_21 : decode b_Mo_window 21 = .ok (.if_icmp .lt 9, 3) := by decide +kernel
theorem d_Mo_window_24 : decode b_Mo_window 24 = .ok (.iload 4, 2) := by decide +kernel
theorem d_Mo_window_26 : decode b_Mo_window 26 = .ok (.iload_n 2, 1) := by decide +kernel
theorem d_Mo_window_27 : decode b_Mo_window 27 = .ok (.if_icmp .ge 5, 3) := by decide +kernel
theorem d_Mo_window_30 : decode b_Mo_window 30 = .ok (.iconst 0, 1) := by decide +kernel
theorem d_Mo_window_31 : decode b_Mo_window 31 = .ok (.ireturn, 1) := by decide +kernel
theorem d_Mo_window_32 : decode b_Mo_window 32 = .ok (.aload_n 0, 1) := by decide +kernel
theorem d_Mo_window_33 : decode b_Mo_window 33 = .ok (.iload_n 1, 1) := by decide +kernel
theorem d_Mo_window_34 : decode b_Mo_window 34 = .ok (.putfield 33, 3) := by decide +kernel
theorem d_Mo_window_37 : decode b_Mo_window 37 = .ok (.aload_n 0, 1) := by decide +kernel
theorem d_Mo_window_38 : decode b_Mo_window 38 = .ok (.iload_n 2, 1) := by decide +kernel
theorem d_Mo_window_39 : decode b_Mo_window 39 = .ok (.putfield 36, 3) := by decide +kernel
theorem d_Mo_window_42 : decode b_Mo_window 42 = .ok (.aload_n 0, 1) := by decide +kernel
theorem d_Mo_window_43 : decode b_Mo_window 43 = .ok (.iload_n 3, 1) := by decide +kernel
theorem d_Mo_window_44 : decode b_Mo_window 44 = .ok (.putfield 39, 3) := by decide +kernel
theorem d_Mo_window_47 : decode b_Mo_window 47 = .ok (.aload_n 0, 1) := by decide +kernel
theorem d_Mo_window_48 : decode b_Mo_window 48 = .ok (.iload 4, 2) := by decide +kernel
theorem d_Mo_window_50 : decode b_Mo_window 50 = .ok (.putfield 42, 3) := by decide +kernel
theorem d_Mo_window_53 : decode b_Mo_window 53 = .ok (.iconst 1, 1) := by decide +kernel
theorem d_Mo_window_54 : decode b_Mo_window 54 = .ok (.ireturn, 1) := by decide +kernel
theorem d_Mo_isInside_0 : decode b_Mo_isInside 0 = .ok (.aload_n 0, 1) := by decide +kernel
theorem d_Mo_isInside_1 : decode b_Mo_isInside 1 = .ok (.getfield 13, 3) := by decide +kernel
theorem d_Mo_isInside_4 : decode b_Mo_isInside 4 = .ok (.iload_n 1, 1) := by decide +kernel
theorem d_Mo_isInside_5 : decode b_Mo_isInside 5 = .ok (.iaload, 1) := by decide +kernel
theorem d_Mo_isInside_6 : decode b_Mo_isInside 6 = .ok (.aload_n 0, 1) := by decide +kernel
theorem d_Mo_isInside_7 : decode b_Mo_isInside 7 = .ok (.invokevirtual 26, 3) := by decide +kernel
theorem d_Mo_isInside_10 : decode b_Mo_isInside 10 = .ok (.idiv, 1) := by decide +kernel
theorem d_Mo_isInside_11 : decode b_Mo_isInside 11 = .ok (.istore_n 2, 1) := by decide +kernel
theorem d_Mo_isInside_12 : decode b_Mo_isInside 12 = .ok (.aload_n 0, 1) := by decide +kernel
theorem d_Mo_isInside_13 : decode b_Mo_isInside 13 = .ok (.getfield 13, 3) := by decide +kernel
theorem d_Mo_isInside_16 : decode b_Mo_isInside 16 = .ok (.iload_n 1, 1) := by decide +kernel
theorem d_Mo_isInside_17 : decode b_Mo_isInside 17 = .ok (.iaload, 1) := by decide +kernel
theorem d_Mo_isInside_18 : decode b_Mo_isInside 18 = .ok (.aload_n 0, 1) := by decide +kernel
theorem d_Mo_isInside_19 : decode b_Mo_isInside 19 = .ok (.invokevirtual 26, 3) := by decide +kernel
theorem d_Mo_isInside_22 : decode b_Mo_isInside 22 = .ok (.irem, 1) := by decide +kernel
theorem d_Mo_isInside_23 : decode b_Mo_isInside 23 = .ok (.istore_n 3, 1) := by decide +kernel
theorem d_Mo_isInside_24 : decode b_Mo_isInside 24 = .ok (.iload_n 2, 1) := by decide +kernel
theorem d_Mo_isInside_25 : decode b_Mo_isInside 25 = .ok (.aload_n 0, 1) := by decide +kernel
theorem d_Mo_isInside_26 : decode b_Mo_isInside 26 = .ok (.getfield 33, 3) := by decide +kernel
theorem d_Mo_isInside_29 : decode b_Mo_isInside 29 = .ok (.if_icmp .lt 31, 3) := by decide +kernel
theorem d_Mo_isInside_32 : decode b_Mo_isInside 32 = .ok (.iload_n 2, 1) := by decide +kernel
theorem d_Mo_isInside_33 : decode b_Mo_isInside 33 = .ok (.aload_n 0, 1) := by decide +kernel
theorem d_Mo_isInside_34 : decode b_Mo_isInside 34 = .ok (.getfield 39, 3) := by decide +kernel
theorem d_Mo_isInside_37 : decode b_Mo_isInside 37 = .ok (.if_icmp .gt 23, 3) := by decide +kernel
theorem d_Mo_isInside_40 : decode b_Mo_isInside 40 = .ok (.iload_n 3, 1) := by decide +kernel
theorem d_Mo_isInside_41 : decode b_Mo_isInside 41 = .ok (.aload_n 0, 1) := by decide +kernel
theorem d_Mo_isInside_42 : decode b_Mo_isInside 42 = .ok (.getfield 36, 3) := by decide +kernel
theorem d_Mo_isInside_45 : decode b_Mo_isInside 45 = .ok (.if_icmp .lt 15, 3) := by decide +kernel
theorem d_Mo_isInside_48 : decode b_Mo_isInside 48 = .ok (.iload_n 3, 1) := by decide +kernel
theorem d_Mo_isInside_49 : decode b_Mo_isInside 49 = .ok (.aload_n 0, 1) := by decide +kernel
theorem d_Mo_isInside_50 : decode b_Mo_isInside 50 = .ok (.getfield 42, 3) := by decide +kernel
theorem d_Mo_isInside_53 : decode b_Mo_isInside 53 = .ok (.if_icmp .gt 7, 3) := by decide +kernel
theorem d_Mo_isInside_56 : decode b_Mo_isInside 56 = .ok (.iconst 1, 1) := by decide +kernel
theorem d_Mo_isInside_57 : decode b_Mo_isInside 57 = .ok (.goto 4, 3) := by decide +kernel
theorem d_Mo_isInside_60 : decode b_Mo_isInside 60 = .ok (.iconst 0, 1) := by decide +kernel
theorem d_Mo_isInside_61 : decode b_Mo_isInside 61 = .ok (.ireturn, 1) := by decide +kernel
theorem d_Mo_inside_0 : decode b_Mo_inside 0 = .ok (.iconst 0, 1) := by decide +kernel
theorem d_Mo_inside_1 : decode b_Mo_inside 1 = .ok (.istore_n 1, 1) := by decide +kernel
theorem d_Mo_inside_2 : decode b_Mo_inside 2 = .ok (.iconst 0, 1) := by decide +kernel
theorem d_Mo_inside_3 : decode b_Mo_inside 3 = .ok (.istore_n 2, 1) := by decide +kernel
theorem d_Mo_inside_4 : decode b_Mo_inside 4 = .ok (.iload_n 2, 1) := by decide +kernel
theorem d_Mo_inside_5 : decode b_Mo_inside 5 = .ok (.aload_n 0, 1) := by decide +kernel
theorem d_Mo_inside_6 : decode b_Mo_inside 6 = .ok (.getfield 30, 3) := by decide +kernel
theorem d_Mo_inside_9 : decode b_Mo_inside 9 = .ok (.if_icmp .ge 25, 3) := by decide +kernel
theorem d_Mo_inside_12 : decode b_Mo_inside 12 = .ok (.aload_n 0, 1) := by decide +kernel
theorem d_Mo_inside_13 : decode b_Mo_inside 13 = .ok (.iload_n 2, 1) := by decide +kernel
theorem d_Mo_inside_14 : decode b_Mo_inside 14 = .ok (.invokevirtual 65, 3) := by decide +kernel
theorem d_Mo_inside_17 : decode b_Mo_inside 17 = .ok (.ifCond .eq 9, 3) := by decide +kernel
theorem d_Mo_inside_20 : decode b_Mo_inside 20 = .ok (.iload_n 1, 1) := by decide +kernel
theorem d_Mo_inside_21 : decode b_Mo_inside 21 = .ok (.iconst 1, 1) := by decide +kernel
theorem d_Mo_inside_22 : decode b_Mo_inside 22 = .ok (.iadd, 1) := by decide +kernel
theorem d_Mo_inside_23 : decode b_Mo_inside 23 = .ok (.goto 4, 3) := by decide +kernel
theorem d_Mo_inside_26 : decode b_Mo_inside 26 = .ok (.iload_n 1, 1) := by decide +kernel
theorem d_Mo_inside_27 : decode b_Mo_inside 27 = .ok (.istore_n 1, 1) := by decide +kernel
theorem d_Mo_inside_28 : decode b_Mo_inside 28 = .ok (.iinc 2 1, 3) := by decide +kernel
theorem d_Mo_inside_31 : decode b_Mo_inside 31 = .ok (.goto (-27), 3) := by decide +kernel
theorem d_Mo_inside_34 : decode b_Mo_inside 34 = .ok (.iload_n 1, 1) := by decide +kernel
theorem d_Mo_inside_35 : decode b_Mo_inside 35 = .ok (.ireturn, 1) := by decide +kernel
theorem d_Mo_sum_0 : decode b_Mo_sum 0 = .ok (.iconst 0, 1) := by decide +kernel
theorem d_Mo_sum_1 : decode b_Mo_sum 1 = .ok (.istore_n 1, 1) := by decide +kernel
theorem d_Mo_sum_2 : decode b_Mo_sum 2 = .ok (.iconst 0, 1) := by decide +kernel
theorem d_Mo_sum_3 : decode b_Mo_sum 3 = .ok (.istore_n 2, 1) := by decide +kernel
theorem d_Mo_sum_4 : decode b_Mo_sum 4 = .ok (.iload_n 2, 1) := by decide +kernel
theorem d_Mo_sum_5 : decode b_Mo_sum 5 = .ok (.aload_n 0, 1) := by decide +kernel
theorem d_Mo_sum_6 : decode b_Mo_sum 6 = .ok (.getfield 30, 3) := by decide +kernel
theorem d_Mo_sum_9 : decode b_Mo_sum 9 = .ok (.if_icmp .ge 30, 3) := by decide +kernel
theorem d_Mo_sum_12 : decode b_Mo_sum 12 = .ok (.aload_n 0, 1) := by decide +kernel
theorem d_Mo_sum_13 : decode b_Mo_sum 13 = .ok (.iload_n 2, 1) := by decide +kernel
theorem d_Mo_sum_14 : decode b_Mo_sum 14 = .ok (.invokevirtual 65, 3) := by decide +kernel
theorem d_Mo_sum_17 : decode b_Mo_sum 17 = .ok (.ifCond .eq 14, 3) := by decide +kernel
theorem d_Mo_sum_20 : decode b_Mo_sum 20 = .ok (.iload_n 1, 1) := by decide +kernel
theorem d_Mo_sum_21 : decode b_Mo_sum 21 = .ok (.aload_n 0, 1) := by decide +kernel
theorem d_Mo_sum_22 : decode b_Mo_sum 22 = .ok (.getfield 17, 3) := by decide +kernel
theorem d_Mo_sum_25 : decode b_Mo_sum 25 = .ok (.iload_n 2, 1) := by decide +kernel
theorem d_Mo_sum_26 : decode b_Mo_sum 26 = .ok (.iaload, 1) := by decide +kernel
theorem d_Mo_sum_27 : decode b_Mo_sum 27 = .ok (.iadd, 1) := by decide +kernel
theorem d_Mo_sum_28 : decode b_Mo_sum 28 = .ok (.goto 4, 3) := by decide +kernel
theorem d_Mo_sum_31 : decode b_Mo_sum 31 = .ok (.iload_n 1, 1) := by decide +kernel
theorem d_Mo_sum_32 : decode b_Mo_sum 32 = .ok (.istore_n 1, 1) := by decide +kernel
theorem d_Mo_sum_33 : decode b_Mo_sum 33 = .ok (.iinc 2 1, 3) := by decide +kernel
theorem d_Mo_sum_36 : decode b_Mo_sum 36 = .ok (.goto (-32), 3) := by decide +kernel
theorem d_Mo_sum_39 : decode b_Mo_sum 39 = .ok (.iload_n 1, 1) := by decide +kernel
theorem d_Mo_sum_40 : decode b_Mo_sum 40 = .ok (.ireturn, 1) := by decide +kernel
theorem d_Mo_keyAt_0 : decode b_Mo_keyAt 0 = .ok (.aload_n 0, 1) := by decide +kernel
theorem d_Mo_keyAt_1 : decode b_Mo_keyAt 1 = .ok (.iload_n 1, 1) := by decide +kernel
theorem d_Mo_keyAt_2 : decode b_Mo_keyAt 2 = .ok (.aload_n 0, 1) := by decide +kernel
theorem d_Mo_keyAt_3 : decode b_Mo_keyAt 3 = .ok (.getfield 13, 3) := by decide +kernel
theorem d_Mo_keyAt_6 : decode b_Mo_keyAt 6 = .ok (.iload_n 2, 1) := by decide +kernel
theorem d_Mo_keyAt_7 : decode b_Mo_keyAt 7 = .ok (.iaload, 1) := by decide +kernel
theorem d_Mo_keyAt_8 : decode b_Mo_keyAt 8 = .ok (.aload_n 0, 1) := by decide +kernel
theorem d_Mo_keyAt_9 : decode b_Mo_keyAt 9 = .ok (.invokevirtual 26, 3) := by decide +kernel
theorem d_Mo_keyAt_12 : decode b_Mo_keyAt 12 = .ok (.idiv, 1) := by decide +kernel
theorem d_Mo_keyAt_13 : decode b_Mo_keyAt 13 = .ok (.aload_n 0, 1) := by decide +kernel
theorem d_Mo_keyAt_14 : decode b_Mo_keyAt 14 = .ok (.getfield 13, 3) := by decide +kernel
theorem d_Mo_keyAt_17 : decode b_Mo_keyAt 17 = .ok (.iload_n 2, 1) := by decide +kernel
theorem d_Mo_keyAt_18 : decode b_Mo_keyAt 18 = .ok (.iaload, 1) := by decide +kernel
theorem d_Mo_keyAt_19 : decode b_Mo_keyAt 19 = .ok (.aload_n 0, 1) := by decide +kernel
theorem d_Mo_keyAt_20 : decode b_Mo_keyAt 20 = .ok (.invokevirtual 26, 3) := by decide +kernel
theorem d_Mo_keyAt_23 : decode b_Mo_keyAt 23 = .ok (.irem, 1) := by decide +kernel
theorem d_Mo_keyAt_24 : decode b_Mo_keyAt 24 = .ok (.invokevirtual 53, 3) := by decide +kernel
theorem d_Mo_keyAt_27 : decode b_Mo_keyAt 27 = .ok (.ireturn, 1) := by decide +kernel
theorem d_Mo_nth_0 : decode b_Mo_nth 0 = .ok (.iload_n 1, 1) := by decide +kernel
theorem d_Mo_nth_1 : decode b_Mo_nth 1 = .ok (.invokestatic 45, 3) := by decide +kernel
theorem d_Mo_nth_4 : decode b_Mo_nth 4 = .ok (.ifCond .eq 7, 3) := by decide +kernel
theorem d_Mo_nth_7 : decode b_Mo_nth 7 = .ok (.iload_n 2, 1) := by decide +kernel
theorem d_Mo_nth_8 : decode b_Mo_nth 8 = .ok (.ifCond .ge 5, 3) := by decide +kernel
theorem d_Mo_nth_11 : decode b_Mo_nth 11 = .ok (.iconst (-1), 1) := by decide +kernel
theorem d_Mo_nth_12 : decode b_Mo_nth 12 = .ok (.ireturn, 1) := by decide +kernel
theorem d_Mo_nth_13 : decode b_Mo_nth 13 = .ok (.iconst 0, 1) := by decide +kernel
theorem d_Mo_nth_14 : decode b_Mo_nth 14 = .ok (.istore_n 3, 1) := by decide +kernel
theorem d_Mo_nth_15 : decode b_Mo_nth 15 = .ok (.iload_n 3, 1) := by decide +kernel
theorem d_Mo_nth_16 : decode b_Mo_nth 16 = .ok (.aload_n 0, 1) := by decide +kernel
theorem d_Mo_nth_17 : decode b_Mo_nth 17 = .ok (.getfield 30, 3) := by decide +kernel
theorem d_Mo_nth_20 : decode b_Mo_nth 20 = .ok (.if_icmp .ge 91, 3) := by decide +kernel
theorem d_Mo_nth_23 : decode b_Mo_nth 23 = .ok (.aload_n 0, 1) := by decide +kernel
theorem d_Mo_nth_24 : decode b_Mo_nth 24 = .ok (.iload_n 3, 1) := by decide +kernel
theorem d_Mo_nth_25 : decode b_Mo_nth 25 = .ok (.invokevirtual 65, 3) := by decide +kernel
theorem d_Mo_nth_28 : decode b_Mo_nth 28 = .ok (.ifCond .eq 77, 3) := by decide +kernel
theorem d_Mo_nth_31 : decode b_Mo_nth 31 = .ok (.iconst 0, 1) := by decide +kernel
theorem d_Mo_nth_32 : decode b_Mo_nth 32 = .ok (.istore 4, 2) := by decide +kernel
theorem d_Mo_nth_34 : decode b_Mo_nth 34 = .ok (.aload_n 0, 1) := by decide +kernel
theorem d_Mo_nth_35 : decode b_Mo_nth 35 = .ok (.iload_n 1, 1) := by decide +kernel
theorem d_Mo_nth_36 : decode b_Mo_nth 36 = .ok (.iload_n 3, 1) := by decide +kernel
theorem d_Mo_nth_37 : decode b_Mo_nth 37 = .ok (.invokevirtual 68, 3) := by decide +kernel
theorem d_Mo_nth_40 : decode b_Mo_nth 40 = .ok (.istore 5, 2) := by decide +kernel
theorem d_Mo_nth_42 : decode b_Mo_nth 42 = .ok (.iconst 0, 1) := by decide +kernel
theorem d_Mo_nth_43 : decode b_Mo_nth 43 = .ok (.istore 6, 2) := by decide +kernel
theorem d_Mo_nth_45 : decode b_Mo_nth 45 = .ok (.iload 6, 2) := by decide +kernel
theorem d_Mo_nth_47 : decode b_Mo_nth 47 = .ok (.aload_n 0, 1) := by decide +kernel
theorem d_Mo_nth_48 : decode b_Mo_nth 48 = .ok (.getfield 30, 3) := by decide +kernel
theorem d_Mo_nth_51 : decode b_Mo_nth 51 = .ok (.if_icmp .ge 41, 3) := by decide +kernel
theorem d_Mo_nth_54 : decode b_Mo_nth 54 = .ok (.aload_n 0, 1) := by decide +kernel
theorem d_Mo_nth_55 : decode b_Mo_nth 55 = .ok (.iload 6, 2) := by decide +kernel
theorem d_Mo_nth_57 : decode b_Mo_nth 57 = .ok (.invokevirtual 65, 3) := by decide +kernel
theorem d_Mo_nth_60 : decode b_Mo_nth 60 = .ok (.ifCond .eq 22, 3) := by decide +kernel
theorem d_Mo_nth_63 : decode b_Mo_nth 63 = .ok (.aload_n 0, 1) := by decide +kernel
theorem d_Mo_nth_64 : decode b_Mo_nth 64 = .ok (.iload_n 1, 1) := by decide +kernel
theorem d_Mo_nth_65 : decode b_Mo_nth 65 = .ok (.iload 6, 2) := by decide +kernel
theorem d_Mo_nth_67 : decode b_Mo_nth 67 = .ok (.invokevirtual 68, 3) := by decide +kernel
theorem d_Mo_nth_70 : decode b_Mo_nth 70 = .ok (.iload 5, 2) := by decide +kernel
theorem d_Mo_nth_72 : decode b_Mo_nth 72 = .ok (.if_icmp .ge 10, 3) := by decide +kernel
theorem d_Mo_nth_75 : decode b_Mo_nth 75 = .ok (.iload 4, 2) := by decide +kernel
theorem d_Mo_nth_77 : decode b_Mo_nth 77 = .ok (.iconst 1, 1) := by decide +kernel
theorem d_Mo_nth_78 : decode b_Mo_nth 78 = .ok (.iadd, 1) := by decide +kernel
theorem d_Mo_nth_79 : decode b_Mo_nth 79 = .ok (.goto 5, 3) := by decide +kernel
theorem d_Mo_nth_82 : decode b_Mo_nth 82 = .ok (.iload 4, 2) := by decide +kernel
theorem d_Mo_nth_84 : decode b_Mo_nth 84 = .ok (.istore 4, 2) := by decide +kernel
theorem d_Mo_nth_86 : decode b_Mo_nth 86 = .ok (.iinc 6 1, 3) := by decide +kernel
theorem d_Mo_nth_89 : decode b_Mo_nth 89 = .ok (.goto (-44), 3) := by decide +kernel
theorem d_Mo_nth_92 : decode b_Mo_nth 92 = .ok (.iload 4, 2) := by decide +kernel
theorem d_Mo_nth_94 : decode b_Mo_nth 94 = .ok (.iload_n 2, 1) := by decide +kernel
theorem d_Mo_nth_95 : decode b_Mo_nth 95 = .ok (.if_icmp .ne 10, 3) := by decide +kernel
theorem d_Mo_nth_98 : decode b_Mo_nth 98 = .ok (.aload_n 0, 1) := by decide +kernel
theorem d_Mo_nth_99 : decode b_Mo_nth 99 = .ok (.getfield 13, 3) := by decide +kernel
theorem d_Mo_nth_102 : decode b_Mo_nth 102 = .ok (.iload_n 3, 1) := by decide +kernel
theorem d_Mo_nth_103 : decode b_Mo_nth 103 = .ok (.iaload, 1) := by decide +kernel
theorem d_Mo_nth_104 : decode b_Mo_nth 104 = .ok (.ireturn, 1) := by decide +kernel
theorem d_Mo_nth_105 : decode b_Mo_nth 105 = .ok (.iinc 3 1, 3) := by decide +kernel
theorem d_Mo_nth_108 : decode b_Mo_nth 108 = .ok (.goto (-93), 3) := by decide +kernel
theorem d_Mo_nth_111 : decode b_Mo_nth 111 = .ok (.iconst (-1), 1) := by decide +kernel
theorem d_Mo_nth_112 : decode b_Mo_nth 112 = .ok (.ireturn, 1) := by decide +kernel
theorem d_Mo_sort_0 : decode b_Mo_sort 0 = .ok (.aload_n 0, 1) := by decide +kernel
theorem d_Mo_sort_1 : decode b_Mo_sort 1 = .ok (.getfield 39, 3) := by decide +kernel
theorem d_Mo_sort_4 : decode b_Mo_sort 4 = .ok (.aload_n 0, 1) := by decide +kernel
theorem d_Mo_sort_5 : decode b_Mo_sort 5 = .ok (.getfield 33, 3) := by decide +kernel
theorem d_Mo_sort_8 : decode b_Mo_sort 8 = .ok (.isub, 1) := by decide +kernel
theorem d_Mo_sort_9 : decode b_Mo_sort 9 = .ok (.iconst 1, 1) := by decide +kernel
theorem d_Mo_sort_10 : decode b_Mo_sort 10 = .ok (.iadd, 1) := by decide +kernel
theorem d_Mo_sort_11 : decode b_Mo_sort 11 = .ok (.i2l, 1) := by decide +kernel
theorem d_Mo_sort_12 : decode b_Mo_sort 12 = .ok (.aload_n 0, 1) := by decide +kernel
theorem d_Mo_sort_13 : decode b_Mo_sort 13 = .ok (.getfield 42, 3) := by decide +kernel
theorem d_Mo_sort_16 : decode b_Mo_sort 16 = .ok (.aload_n 0, 1) := by decide +kernel
theorem d_Mo_sort_17 : decode b_Mo_sort 17 = .ok (.getfield 36, 3) := by decide +kernel
theorem d_Mo_sort_20 : decode b_Mo_sort 20 = .ok (.isub, 1) := by decide +kernel
theorem d_Mo_sort_21 : decode b_Mo_sort 21 = .ok (.iconst 1, 1) := by decide +kernel
theorem d_Mo_sort_22 : decode b_Mo_sort 22 = .ok (.iadd, 1) := by decide +kernel
theorem d_Mo_sort_23 : decode b_Mo_sort 23 = .ok (.i2l, 1) := by decide +kernel
theorem d_Mo_sort_24 : decode b_Mo_sort 24 = .ok (.lmul, 1) := by decide +kernel
theorem d_Mo_sort_25 : decode b_Mo_sort 25 = .ok (.lstore_n 2, 1) := by decide +kernel
theorem d_Mo_sort_26 : decode b_Mo_sort 26 = .ok (.iload_n 1, 1) := by decide +kernel
theorem d_Mo_sort_27 : decode b_Mo_sort 27 = .ok (.invokestatic 45, 3) := by decide +kernel
theorem d_Mo_sort_30 : decode b_Mo_sort 30 = .ok (.ifCond .eq 11, 3) := by decide +kernel
theorem d_Mo_sort_33 : decode b_Mo_sort 33 = .ok (.lload_n 2, 1) := by decide +kernel
theorem d_Mo_sort_34 : decode b_Mo_sort 34 = .ok (.ldc2_w 71, 3) := by decide +kernel
theorem d_Mo_sort_37 : decode b_Mo_sort 37 = .ok (.lcmp, 1) := by decide +kernel
theorem d_Mo_sort_38 : decode b_Mo_sort 38 = .ok (.ifCond .le 5, 3) := by decide +kernel
theorem d_Mo_sort_41 : decode b_Mo_sort 41 = .ok (.iconst (-1), 1) := by decide +kernel
theorem d_Mo_sort_42 : decode b_Mo_sort 42 = .ok (.ireturn, 1) := by decide +kernel
theorem d_Mo_sort_43 : decode b_Mo_sort 43 = .ok (.iconst 0, 1) := by decide +kernel
theorem d_Mo_sort_44 : decode b_Mo_sort 44 = .ok (.istore 4, 2) := by decide +kernel
theorem d_Mo_sort_46 : decode b_Mo_sort 46 = .ok (.aload_n 0, 1) := by decide +kernel
theorem d_Mo_sort_47 : decode b_Mo_sort 47 = .ok (.getfield 33, 3) := by decide +kernel
theorem d_Mo_sort_50 : decode b_Mo_sort 50 = .ok (.istore 5, 2) := by decide +kernel
theorem d_Mo_sort_52 : decode b_Mo_sort 52 = .ok (.iload 5, 2) := by decide +kernel
theorem d_Mo_sort_54 : decode b_Mo_sort 54 = .ok (.aload_n 0, 1) := by decide +kernel
theorem d_Mo_sort_55 : decode b_Mo_sort 55 = .ok (.getfield 39, 3) := by decide +kernel
theorem d_Mo_sort_58 : decode b_Mo_sort 58 = .ok (.if_icmp .gt 49, 3) := by decide +kernel
theorem d_Mo_sort_61 : decode b_Mo_sort 61 = .ok (.aload_n 0, 1) := by decide +kernel
theorem d_Mo_sort_62 : decode b_Mo_sort 62 = .ok (.getfield 36, 3) := by decide +kernel
theorem d_Mo_sort_65 : decode b_Mo_sort 65 = .ok (.istore 6, 2) := by decide +kernel
theorem d_Mo_sort_67 : decode b_Mo_sort 67 = .ok (.iload 6, 2) := by decide +kernel
theorem d_Mo_sort_69 : decode b_Mo_sort 69 = .ok (.aload_n 0, 1) := by decide +kernel
theorem d_Mo_sort_70 : decode b_Mo_sort 70 = .ok (.getfield 42, 3) := by decide +kernel
theorem d_Mo_sort_73 : decode b_Mo_sort 73 = .ok (.if_icmp .gt 28, 3) := by decide +kernel
theorem d_Mo_sort_76 : decode b_Mo_sort 76 = .ok (.aload_n 0, 1) := by decide +kernel
theorem d_Mo_sort_77 : decode b_Mo_sort 77 = .ok (.getfield 20, 3) := by decide +kernel
theorem d_Mo_sort_80 : decode b_Mo_sort 80 = .ok (.iload 4, 2) := by decide +kernel
theorem d_Mo_sort_82 : decode b_Mo_sort 82 = .ok (.aload_n 0, 1) := by decide +kernel
theorem d_Mo_sort_83 : decode b_Mo_sort 83 = .ok (.iload_n 1, 1) := by decide +kernel
theorem d_Mo_sort_84 : decode b_Mo_sort 84 = .ok (.iload 5, 2) := by decide +kernel
theorem d_Mo_sort_86 : decode b_Mo_sort 86 = .ok (.iload 6, 2) := by decide +kernel
theorem d_Mo_sort_88 : decode b_Mo_sort 88 = .ok (.invokevirtual 53, 3) := by decide +kernel
theorem d_Mo_sort_91 : decode b_Mo_sort 91 = .ok (.iastore, 1) := by decide +kernel
theorem d_Mo_sort_92 : decode b_Mo_sort 92 = .ok (.iinc 4 1, 3) := by decide +kernel
theorem d_Mo_sort_95 : decode b_Mo_sort 95 = .ok (.iinc 6 1, 3) := by decide +kernel
theorem d_Mo_sort_98 : decode b_Mo_sort 98 = .ok (.goto (-31), 3) := by decide +kernel
theorem d_Mo_sort_101 : decode b_Mo_sort 101 = .ok (.iinc 5 1, 3) := by decide +kernel
theorem d_Mo_sort_104 : decode b_Mo_sort 104 = .ok (.goto (-52), 3) := by decide +kernel
theorem d_Mo_sort_107 : decode b_Mo_sort 107 = .ok (.iconst 1, 1) := by decide +kernel
theorem d_Mo_sort_108 : decode b_Mo_sort 108 = .ok (.istore 5, 2) := by decide +kernel
theorem d_Mo_sort_110 : decode b_Mo_sort 110 = .ok (.iload 5, 2) := by decide +kernel
theorem d_Mo_sort_112 : decode b_Mo_sort 112 = .ok (.iload 4, 2) := by decide +kernel
theorem d_Mo_sort_114 : decode b_Mo_sort 114 = .ok (.if_icmp .ge 236, 3) := by decide +kernel
theorem d_Mo_sort_117 : decode b_Mo_sort 117 = .ok (.iconst 0, 1) := by decide +kernel
theorem d_Mo_sort_118 : decode b_Mo_sort 118 = .ok (.istore 6, 2) := by decide +kernel
theorem d_Mo_sort_120 : decode b_Mo_sort 120 = .ok (.iload 6, 2) := by decide +kernel
theorem d_Mo_sort_122 : decode b_Mo_sort 122 = .ok (.iload 4, 2) := by decide +kernel
theorem d_Mo_sort_124 : decode b_Mo_sort 124 = .ok (.if_icmp .ge 187, 3) := by decide +kernel
theorem d_Mo_sort_127 : decode b_Mo_sort 127 = .ok (.iload 6, 2) := by decide +kernel
theorem d_Mo_sort_129 : decode b_Mo_sort 129 = .ok (.istore 7, 2) := by decide +kernel
theorem d_Mo_sort_131 : decode b_Mo_sort 131 = .ok (.iload 6, 2) := by decide +kernel
theorem d_Mo_sort_133 : decode b_Mo_sort 133 = .ok (.iload 5, 2) := by decide +kernel
theorem d_Mo_sort_135 : decode b_Mo_sort 135 = .ok (.iadd, 1) := by decide +kernel
theorem d_Mo_sort_136 : decode b_Mo_sort 136 = .ok (.iload 4, 2) := by decide +kernel
theorem d_Mo_sort_138 : decode b_Mo_sort 138 = .ok (.if_icmp .ge 11, 3) := by decide +kernel
theorem d_Mo_sort_141 : decode b_Mo_sort 141 = .ok (.iload 6, 2) := by decide +kernel
theorem d_Mo_sort_143 : decode b_Mo_sort 143 = .ok (.iload 5, 2) := by decide +kernel
theorem d_Mo_sort_145 : decode b_Mo_sort 145 = .ok (.iadd, 1) := by decide +kernel
theorem d_Mo_sort_146 : decode b_Mo_sort 146 = .ok (.goto 5, 3) := by decide +kernel
theorem d_Mo_sort_149 : decode b_Mo_sort 149 = .ok (.iload 4, 2) := by decide +kernel
theorem d_Mo_sort_151 : decode b_Mo_sort 151 = .ok (.istore 8, 2) := by decide +kernel
theorem d_Mo_sort_153 : decode b_Mo_sort 153 = .ok (.iload 8, 2) := by decide +kernel
theorem d_Mo_sort_155 : decode b_Mo_sort 155 = .ok (.istore 9, 2) := by decide +kernel
theorem d_Mo_sort_157 : decode b_Mo_sort 157 = .ok (.iload 6, 2) := by decide +kernel
theorem d_Mo_sort_159 : decode b_Mo_sort 159 = .ok (.iconst 2, 1) := by decide +kernel
theorem d_Mo_sort_160 : decode b_Mo_sort 160 = .ok (.iload 5, 2) := by decide +kernel
theorem d_Mo_sort_162 : decode b_Mo_sort 162 = .ok (.imul, 1) := by decide +kernel
theorem d_Mo_sort_163 : decode b_Mo_sort 163 = .ok (.iadd, 1) := by decide +kernel
theorem d_Mo_sort_164 : decode b_Mo_sort 164 = .ok (.iload 4, 2) := by decide +kernel
theorem d_Mo_sort_166 : decode b_Mo_sort 166 = .ok (.if_icmp .ge 13, 3) := by decide +kernel
theorem d_Mo_sort_169 : decode b_Mo_sort 169 = .ok (.iload 6, 2) := by decide +kernel
theorem d_Mo_sort_171 : decode b_Mo_sort 171 = .ok (.iconst 2, 1) := by decide +kernel

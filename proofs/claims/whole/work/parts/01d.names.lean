theorem dX4_build_12 : decode cX4_build 12 = .ok (.if_icmp .ge 56, 3) := by decide +kernel
theorem dX4_build_15 : decode cX4_build 15 = .ok (.iload_n 3, 1) := by decide +kernel
theorem dX4_build_16 : decode cX4_build 16 = .ok (.invokestatic 162, 3) := by decide +kernel
theorem dX4_build_19 : decode cX4_build 19 = .ok (.iload_n 2, 1) := by decide +kernel
theorem dX4_build_20 : decode cX4_build 20 = .ok (.if_icmp .le 10, 3) := by decide +kernel
theorem dX4_build_23 : decode cX4_build 23 = .ok (.aload_n 0, 1) := by decide +kernel
theorem dX4_build_24 : decode cX4_build 24 = .ok (.getfield 62, 3) := by decide +kernel
theorem dX4_build_27 : decode cX4_build 27 = .ok (.iload_n 3, 1) := by decide +kernel
theorem dX4_build_28 : decode cX4_build 28 = .ok (.iconst 0, 1) := by decide +kernel
theorem dX4_build_29 : decode cX4_build 29 = .ok (.iastore, 1) := by decide +kernel
theorem dX4_build_30 : decode cX4_build 30 = .ok (.iload_n 3, 1) := by decide +kernel
theorem dX4_build_31 : decode cX4_build 31 = .ok (.bipush 32, 2) := by decide +kernel
theorem dX4_build_33 : decode cX4_build 33 = .ok (.if_icmp .ge 22, 3) := by decide +kernel
theorem dX4_build_36 : decode cX4_build 36 = .ok (.iload_n 3, 1) := by decide +kernel
theorem dX4_build_37 : decode cX4_build 37 = .ok (.invokestatic 162, 3) := by decide +kernel
theorem dX4_build_40 : decode cX4_build 40 = .ok (.iload_n 2, 1) := by decide +kernel
theorem dX4_build_41 : decode cX4_build 41 = .ok (.if_icmp .gt 14, 3) := by decide +kernel
theorem dX4_build_44 : decode cX4_build 44 = .ok (.aload_n 0, 1) := by decide +kernel
theorem dX4_build_45 : decode cX4_build 45 = .ok (.iload_n 3, 1) := by decide +kernel
theorem dX4_build_46 : decode cX4_build 46 = .ok (.iload_n 2, 1) := by decide +kernel
theorem dX4_build_47 : decode cX4_build 47 = .ok (.iload_n 3, 1) := by decide +kernel
theorem dX4_build_48 : decode cX4_build 48 = .ok (.invokestatic 162, 3) := by decide +kernel
theorem dX4_build_51 : decode cX4_build 51 = .ok (.isub, 1) := by decide +kernel
theorem dX4_build_52 : decode cX4_build 52 = .ok (.invokevirtual 165, 3) := by decide +kernel
theorem dX4_build_55 : decode cX4_build 55 = .ok (.aload_n 0, 1) := by decide +kernel
theorem dX4_build_56 : decode cX4_build 56 = .ok (.getfield 71, 3) := by decide +kernel
theorem dX4_build_59 : decode cX4_build 59 = .ok (.iload_n 3, 1) := by decide +kernel
theorem dX4_build_60 : decode cX4_build 60 = .ok (.iconst (-1), 1) := by decide +kernel
theorem dX4_build_61 : decode cX4_build 61 = .ok (.iastore, 1) := by decide +kernel
theorem dX4_build_62 : decode cX4_build 62 = .ok (.iinc 3 1, 3) := by decide +kernel
theorem dX4_build_65 : decode cX4_build 65 = .ok (.goto (-56), 3) := by decide +kernel
theorem dX4_build_68 : decode cX4_build 68 = .ok (.bipush 31, 2) := by decide +kernel
theorem dX4_build_70 : decode cX4_build 70 = .ok (.istore_n 3, 1) := by decide +kernel
theorem dX4_build_71 : decode cX4_build 71 = .ok (.iload_n 3, 1) := by decide +kernel
theorem dX4_build_72 : decode cX4_build 72 = .ok (.ifCond .le 81, 3) := by decide +kernel
theorem dX4_build_75 : decode cX4_build 75 = .ok (.aload_n 0, 1) := by decide +kernel
theorem dX4_build_76 : decode cX4_build 76 = .ok (.getfield 68, 3) := by decide +kernel
theorem dX4_build_79 : decode cX4_build 79 = .ok (.iload_n 3, 1) := by decide +kernel
theorem dX4_build_80 : decode cX4_build 80 = .ok (.iload_n 3, 1) := by decide +kernel
theorem dX4_build_81 : decode cX4_build 81 = .ok (.iastore, 1) := by decide +kernel
theorem dX4_build_82 : decode cX4_build 82 = .ok (.bipush 31, 2) := by decide +kernel
theorem dX4_build_84 : decode cX4_build 84 = .ok (.istore 4, 2) := by decide +kernel
theorem dX4_build_86 : decode cX4_build 86 = .ok (.iload 4, 2) := by decide +kernel
theorem dX4_build_88 : decode cX4_build 88 = .ok (.iload_n 3, 1) := by decide +kernel
theorem dX4_build_89 : decode cX4_build 89 = .ok (.if_icmp .le 58, 3) := by decide +kernel
theorem dX4_build_92 : decode cX4_build 92 = .ok (.aload_n 0, 1) := by decide +kernel
theorem dX4_build_93 : decode cX4_build 93 = .ok (.getfield 62, 3) := by decide +kernel
theorem dX4_build_96 : decode cX4_build 96 = .ok (.iload_n 3, 1) := by decide +kernel
theorem dX4_build_97 : decode cX4_build 97 = .ok (.iaload, 1) := by decide +kernel
theorem dX4_build_98 : decode cX4_build 98 = .ok (.ifCond .le 43, 3) := by decide +kernel
theorem dX4_build_101 : decode cX4_build 101 = .ok (.aload_n 0, 1) := by decide +kernel
theorem dX4_build_102 : decode cX4_build 102 = .ok (.getfield 62, 3) := by decide +kernel
theorem dX4_build_105 : decode cX4_build 105 = .ok (.iload 4, 2) := by decide +kernel
theorem dX4_build_107 : decode cX4_build 107 = .ok (.iaload, 1) := by decide +kernel
theorem dX4_build_108 : decode cX4_build 108 = .ok (.ifCond .le 33, 3) := by decide +kernel
theorem dX4_build_111 : decode cX4_build 111 = .ok (.aload_n 0, 1) := by decide +kernel
theorem dX4_build_112 : decode cX4_build 112 = .ok (.getfield 68, 3) := by decide +kernel
theorem dX4_build_115 : decode cX4_build 115 = .ok (.iload 4, 2) := by decide +kernel
theorem dX4_build_117 : decode cX4_build 117 = .ok (.iaload, 1) := by decide +kernel
theorem dX4_build_118 : decode cX4_build 118 = .ok (.iload 4, 2) := by decide +kernel
theorem dX4_build_120 : decode cX4_build 120 = .ok (.if_icmp .ne 21, 3) := by decide +kernel
theorem dX4_build_123 : decode cX4_build 123 = .ok (.aload_n 0, 1) := by decide +kernel
theorem dX4_build_124 : decode cX4_build 124 = .ok (.iload_n 3, 1) := by decide +kernel
theorem dX4_build_125 : decode cX4_build 125 = .ok (.iload 4, 2) := by decide +kernel
theorem dX4_build_127 : decode cX4_build 127 = .ok (.invokevirtual 169, 3) := by decide +kernel
theorem dX4_build_130 : decode cX4_build 130 = .ok (.ifCond .eq 11, 3) := by decide +kernel
theorem dX4_build_133 : decode cX4_build 133 = .ok (.aload_n 0, 1) := by decide +kernel
theorem dX4_build_134 : decode cX4_build 134 = .ok (.getfield 68, 3) := by decide +kernel
theorem dX4_build_137 : decode cX4_build 137 = .ok (.iload_n 3, 1) := by decide +kernel
theorem dX4_build_138 : decode cX4_build 138 = .ok (.iload 4, 2) := by decide +kernel
theorem dX4_build_140 : decode cX4_build 140 = .ok (.iastore, 1) := by decide +kernel
theorem dX4_build_141 : decode cX4_build 141 = .ok (.iinc 4 (-1), 3) := by decide +kernel
theorem dX4_build_144 : decode cX4_build 144 = .ok (.goto (-58), 3) := by decide +kernel
theorem dX4_build_147 : decode cX4_build 147 = .ok (.iinc 3 (-1), 3) := by decide +kernel
theorem dX4_build_150 : decode cX4_build 150 = .ok (.goto (-79), 3) := by decide +kernel
theorem dX4_build_153 : decode cX4_build 153 = .ok (.aload_n 0, 1) := by decide +kernel
theorem dX4_build_154 : decode cX4_build 154 = .ok (.invokevirtual 172, 3) := by decide +kernel
theorem dX4_build_157 : decode cX4_build 157 = .ok (.return_, 1) := by decide +kernel
theorem dX4_number_0 : decode cX4_number 0 = .ok (.aload_n 0, 1) := by decide +kernel
theorem dX4_number_1 : decode cX4_number 1 = .ok (.iconst 0, 1) := by decide +kernel
theorem dX4_number_2 : decode cX4_number 2 = .ok (.putfield 109, 3) := by decide +kernel
theorem dX4_number_5 : decode cX4_number 5 = .ok (.iconst 1, 1) := by decide +kernel
theorem dX4_number_6 : decode cX4_number 6 = .ok (.istore_n 1, 1) := by decide +kernel
theorem dX4_number_7 : decode cX4_number 7 = .ok (.aload_n 0, 1) := by decide +kernel
theorem dX4_number_8 : decode cX4_number 8 = .ok (.getfield 74, 3) := by decide +kernel
theorem dX4_number_11 : decode cX4_number 11 = .ok (.iconst 0, 1) := by decide +kernel
theorem dX4_number_12 : decode cX4_number 12 = .ok (.iconst 1, 1) := by decide +kernel
theorem dX4_number_13 : decode cX4_number 13 = .ok (.iastore, 1) := by decide +kernel
theorem dX4_number_14 : decode cX4_number 14 = .ok (.iload_n 1, 1) := by decide +kernel
theorem dX4_number_15 : decode cX4_number 15 = .ok (.ifCond .le 120, 3) := by decide +kernel
theorem dX4_number_18 : decode cX4_number 18 = .ok (.iinc 1 (-1), 3) := by decide +kernel
theorem dX4_number_21 : decode cX4_number 21 = .ok (.aload_n 0, 1) := by decide +kernel
theorem dX4_number_22 : decode cX4_number 22 = .ok (.getfield 74, 3) := by decide +kernel
theorem dX4_number_25 : decode cX4_number 25 = .ok (.iload_n 1, 1) := by decide +kernel
theorem dX4_number_26 : decode cX4_number 26 = .ok (.iaload, 1) := by decide +kernel
theorem dX4_number_27 : decode cX4_number 27 = .ok (.istore_n 2, 1) := by decide +kernel
theorem dX4_number_28 : decode cX4_number 28 = .ok (.aload_n 0, 1) := by decide +kernel
theorem dX4_number_29 : decode cX4_number 29 = .ok (.getfield 68, 3) := by decide +kernel
theorem dX4_number_32 : decode cX4_number 32 = .ok (.iload_n 2, 1) := by decide +kernel
theorem dX4_number_33 : decode cX4_number 33 = .ok (.iaload, 1) := by decide +kernel
theorem dX4_number_34 : decode cX4_number 34 = .ok (.istore_n 3, 1) := by decide +kernel
theorem dX4_number_35 : decode cX4_number 35 = .ok (.aload_n 0, 1) := by decide +kernel
theorem dX4_number_36 : decode cX4_number 36 = .ok (.getfield 62, 3) := by decide +kernel
theorem dX4_number_39 : decode cX4_number 39 = .ok (.iload_n 2, 1) := by decide +kernel
theorem dX4_number_40 : decode cX4_number 40 = .ok (.iaload, 1) := by decide +kernel
theorem dX4_number_41 : decode cX4_number 41 = .ok (.ifCond .le 91, 3) := by decide +kernel
theorem dX4_number_44 : decode cX4_number 44 = .ok (.aload_n 0, 1) := by decide +kernel
theorem dX4_number_45 : decode cX4_number 45 = .ok (.getfield 71, 3) := by decide +kernel
theorem dX4_number_48 : decode cX4_number 48 = .ok (.iload_n 3, 1) := by decide +kernel
theorem dX4_number_49 : decode cX4_number 49 = .ok (.iaload, 1) := by decide +kernel
theorem dX4_number_50 : decode cX4_number 50 = .ok (.ifCond .ge 82, 3) := by decide +kernel
theorem dX4_number_53 : decode cX4_number 53 = .ok (.aload_n 0, 1) := by decide +kernel
theorem dX4_number_54 : decode cX4_number 54 = .ok (.getfield 71, 3) := by decide +kernel
theorem dX4_number_57 : decode cX4_number 57 = .ok (.iload_n 3, 1) := by decide +kernel
theorem dX4_number_58 : decode cX4_number 58 = .ok (.aload_n 0, 1) := by decide +kernel
theorem dX4_number_59 : decode cX4_number 59 = .ok (.getfield 109, 3) := by decide +kernel
theorem dX4_number_62 : decode cX4_number 62 = .ok (.iastore, 1) := by decide +kernel
theorem dX4_number_63 : decode cX4_number 63 = .ok (.aload_n 0, 1) := by decide +kernel
theorem dX4_number_64 : decode cX4_number 64 = .ok (.getfield 44, 3) := by decide +kernel
theorem dX4_number_67 : decode cX4_number 67 = .ok (.aload_n 0, 1) := by decide +kernel
theorem dX4_number_68 : decode cX4_number 68 = .ok (.getfield 109, 3) := by decide +kernel
theorem dX4_number_71 : decode cX4_number 71 = .ok (.aload_n 0, 1) := by decide +kernel
theorem dX4_number_72 : decode cX4_number 72 = .ok (.getfield 65, 3) := by decide +kernel
theorem dX4_number_75 : decode cX4_number 75 = .ok (.iload_n 2, 1) := by decide +kernel
theorem dX4_number_76 : decode cX4_number 76 = .ok (.iaload, 1) := by decide +kernel
theorem dX4_number_77 : decode cX4_number 77 = .ok (.iastore, 1) := by decide +kernel
theorem dX4_number_78 : decode cX4_number 78 = .ok (.aload_n 0, 1) := by decide +kernel
theorem dX4_number_79 : decode cX4_number 79 = .ok (.getfield 47, 3) := by decide +kernel
theorem dX4_number_82 : decode cX4_number 82 = .ok (.aload_n 0, 1) := by decide +kernel
theorem dX4_number_83 : decode cX4_number 83 = .ok (.getfield 109, 3) := by decide +kernel
theorem dX4_number_86 : decode cX4_number 86 = .ok (.iload_n 2, 1) := by decide +kernel
theorem dX4_number_87 : decode cX4_number 87 = .ok (.iastore, 1) := by decide +kernel
theorem dX4_number_88 : decode cX4_number 88 = .ok (.aload_n 0, 1) := by decide +kernel
theorem dX4_number_89 : decode cX4_number 89 = .ok (.dup, 1) := by decide +kernel
theorem dX4_number_90 : decode cX4_number 90 = .ok (.getfield 109, 3) := by decide +kernel
theorem dX4_number_93 : decode cX4_number 93 = .ok (.iconst 1, 1) := by decide +kernel
theorem dX4_number_94 : decode cX4_number 94 = .ok (.iadd, 1) := by decide +kernel
theorem dX4_number_95 : decode cX4_number 95 = .ok (.putfield 109, 3) := by decide +kernel
theorem dX4_number_98 : decode cX4_number 98 = .ok (.aload_n 0, 1) := by decide +kernel
theorem dX4_number_99 : decode cX4_number 99 = .ok (.getfield 65, 3) := by decide +kernel
theorem dX4_number_102 : decode cX4_number 102 = .ok (.iload_n 2, 1) := by decide +kernel
theorem dX4_number_103 : decode cX4_number 103 = .ok (.iaload, 1) := by decide +kernel
theorem dX4_number_104 : decode cX4_number 104 = .ok (.ifCond .lt 28, 3) := by decide +kernel
theorem dX4_number_107 : decode cX4_number 107 = .ok (.aload_n 0, 1) := by decide +kernel
theorem dX4_number_108 : decode cX4_number 108 = .ok (.getfield 74, 3) := by decide +kernel
theorem dX4_number_111 : decode cX4_number 111 = .ok (.iload_n 1, 1) := by decide +kernel
theorem dX4_number_112 : decode cX4_number 112 = .ok (.iconst 2, 1) := by decide +kernel
theorem dX4_number_113 : decode cX4_number 113 = .ok (.iload_n 2, 1) := by decide +kernel
theorem dX4_number_114 : decode cX4_number 114 = .ok (.imul, 1) := by decide +kernel
theorem dX4_number_115 : decode cX4_number 115 = .ok (.iconst 1, 1) := by decide +kernel
theorem dX4_number_116 : decode cX4_number 116 = .ok (.iadd, 1) := by decide +kernel
theorem dX4_number_117 : decode cX4_number 117 = .ok (.iastore, 1) := by decide +kernel
theorem dX4_number_118 : decode cX4_number 118 = .ok (.aload_n 0, 1) := by decide +kernel
theorem dX4_number_119 : decode cX4_number 119 = .ok (.getfield 74, 3) := by decide +kernel
theorem dX4_number_122 : decode cX4_number 122 = .ok (.iload_n 1, 1) := by decide +kernel
theorem dX4_number_123 : decode cX4_number 123 = .ok (.iconst 1, 1) := by decide +kernel
theorem dX4_number_124 : decode cX4_number 124 = .ok (.iadd, 1) := by decide +kernel
theorem dX4_number_125 : decode cX4_number 125 = .ok (.iconst 2, 1) := by decide +kernel
theorem dX4_number_126 : decode cX4_number 126 = .ok (.iload_n 2, 1) := by decide +kernel
theorem dX4_number_127 : decode cX4_number 127 = .ok (.imul, 1) := by decide +kernel
theorem dX4_number_128 : decode cX4_number 128 = .ok (.iastore, 1) := by decide +kernel
theorem dX4_number_129 : decode cX4_number 129 = .ok (.iinc 1 2, 3) := by decide +kernel
theorem dX4_number_132 : decode cX4_number 132 = .ok (.goto (-118), 3) := by decide +kernel
theorem dX4_number_135 : decode cX4_number 135 = .ok (.iconst 0, 1) := by decide +kernel
theorem dX4_number_136 : decode cX4_number 136 = .ok (.istore_n 2, 1) := by decide +kernel
theorem dX4_number_137 : decode cX4_number 137 = .ok (.iload_n 2, 1) := by decide +kernel
theorem dX4_number_138 : decode cX4_number 138 = .ok (.aload_n 0, 1) := by decide +kernel
theorem dX4_number_139 : decode cX4_number 139 = .ok (.getfield 109, 3) := by decide +kernel
theorem dX4_number_142 : decode cX4_number 142 = .ok (.if_icmp .ge 114, 3) := by decide +kernel
theorem dX4_number_145 : decode cX4_number 145 = .ok (.aload_n 0, 1) := by decide +kernel
theorem dX4_number_146 : decode cX4_number 146 = .ok (.getfield 47, 3) := by decide +kernel
theorem dX4_number_149 : decode cX4_number 149 = .ok (.iload_n 2, 1) := by decide +kernel
theorem dX4_number_150 : decode cX4_number 150 = .ok (.iaload, 1) := by decide +kernel
theorem dX4_number_151 : decode cX4_number 151 = .ok (.istore_n 3, 1) := by decide +kernel
theorem dX4_number_152 : decode cX4_number 152 = .ok (.aload_n 0, 1) := by decide +kernel
theorem dX4_number_153 : decode cX4_number 153 = .ok (.getfield 44, 3) := by decide +kernel
theorem dX4_number_156 : decode cX4_number 156 = .ok (.iload_n 2, 1) := by decide +kernel
theorem dX4_number_157 : decode cX4_number 157 = .ok (.iaload, 1) := by decide +kernel
theorem dX4_number_158 : decode cX4_number 158 = .ok (.ifCond .ge 7, 3) := by decide +kernel
theorem dX4_number_161 : decode cX4_number 161 = .ok (.iconst 1, 1) := by decide +kernel
theorem dX4_number_162 : decode cX4_number 162 = .ok (.goto 4, 3) := by decide +kernel
theorem dX4_number_165 : decode cX4_number 165 = .ok (.iconst 0, 1) := by decide +kernel
theorem dX4_number_166 : decode cX4_number 166 = .ok (.istore 4, 2) := by decide +kernel
theorem dX4_number_168 : decode cX4_number 168 = .ok (.aload_n 0, 1) := by decide +kernel
theorem dX4_number_169 : decode cX4_number 169 = .ok (.getfield 47, 3) := by decide +kernel
theorem dX4_number_172 : decode cX4_number 172 = .ok (.iload_n 2, 1) := by decide +kernel
theorem dX4_number_173 : decode cX4_number 173 = .ok (.iload 4, 2) := by decide +kernel
theorem dX4_number_175 : decode cX4_number 175 = .ok (.ifCond .ne 14, 3) := by decide +kernel
theorem dX4_number_178 : decode cX4_number 178 = .ok (.aload_n 0, 1) := by decide +kernel
theorem dX4_number_179 : decode cX4_number 179 = .ok (.getfield 62, 3) := by decide +kernel
theorem dX4_number_182 : decode cX4_number 182 = .ok (.iconst 2, 1) := by decide +kernel
theorem dX4_number_183 : decode cX4_number 183 = .ok (.iload_n 3, 1) := by decide +kernel
theorem dX4_number_184 : decode cX4_number 184 = .ok (.imul, 1) := by decide +kernel
theorem dX4_number_185 : decode cX4_number 185 = .ok (.iaload, 1) := by decide +kernel
theorem dX4_number_186 : decode cX4_number 186 = .ok (.ifCond .ne 7, 3) := by decide +kernel
theorem dX4_number_189 : decode cX4_number 189 = .ok (.iconst (-1), 1) := by decide +kernel
theorem dX4_number_190 : decode cX4_number 190 = .ok (.goto 16, 3) := by decide +kernel
theorem dX4_number_193 : decode cX4_number 193 = .ok (.aload_n 0, 1) := by decide +kernel
theorem dX4_number_194 : decode cX4_number 194 = .ok (.getfield 71, 3) := by decide +kernel
theorem dX4_number_197 : decode cX4_number 197 = .ok (.aload_n 0, 1) := by decide +kernel
theorem dX4_number_198 : decode cX4_number 198 = .ok (.getfield 68, 3) := by decide +kernel
theorem dX4_number_201 : decode cX4_number 201 = .ok (.iconst 2, 1) := by decide +kernel
theorem dX4_number_202 : decode cX4_number 202 = .ok (.iload_n 3, 1) := by decide +kernel
theorem dX4_number_203 : decode cX4_number 203 = .ok (.imul, 1) := by decide +kernel
theorem dX4_number_204 : decode cX4_number 204 = .ok (.iaload, 1) := by decide +kernel
theorem dX4_number_205 : decode cX4_number 205 = .ok (.iaload, 1) := by decide +kernel
theorem dX4_number_206 : decode cX4_number 206 = .ok (.iastore, 1) := by decide +kernel
theorem dX4_number_207 : decode cX4_number 207 = .ok (.aload_n 0, 1) := by decide +kernel
theorem dX4_number_208 : decode cX4_number 208 = .ok (.getfield 50, 3) := by decide +kernel
theorem dX4_number_211 : decode cX4_number 211 = .ok (.iload_n 2, 1) := by decide +kernel
theorem dX4_number_212 : decode cX4_number 212 = .ok (.iload 4, 2) := by decide +kernel
theorem dX4_number_214 : decode cX4_number 214 = .ok (.ifCond .ne 16, 3) := by decide +kernel
theorem dX4_number_217 : decode cX4_number 217 = .ok (.aload_n 0, 1) := by decide +kernel
theorem dX4_number_218 : decode cX4_number 218 = .ok (.getfield 62, 3) := by decide +kernel
theorem dX4_number_221 : decode cX4_number 221 = .ok (.iconst 2, 1) := by decide +kernel
theorem dX4_number_222 : decode cX4_number 222 = .ok (.iload_n 3, 1) := by decide +kernel
theorem dX4_number_223 : decode cX4_number 223 = .ok (.imul, 1) := by decide +kernel
theorem dX4_number_224 : decode cX4_number 224 = .ok (.iconst 1, 1) := by decide +kernel
theorem dX4_number_225 : decode cX4_number 225 = .ok (.iadd, 1) := by decide +kernel
theorem dX4_number_226 : decode cX4_number 226 = .ok (.iaload, 1) := by decide +kernel
theorem dX4_number_227 : decode cX4_number 227 = .ok (.ifCond .ne 7, 3) := by decide +kernel
theorem dX4_number_230 : decode cX4_number 230 = .ok (.iconst (-1), 1) := by decide +kernel
theorem dX4_number_231 : decode cX4_number 231 = .ok (.goto 18, 3) := by decide +kernel
theorem dX4_number_234 : decode cX4_number 234 = .ok (.aload_n 0, 1) := by decide +kernel
theorem dX4_number_235 : decode cX4_number 235 = .ok (.getfield 71, 3) := by decide +kernel
theorem dX4_number_238 : decode cX4_number 238 = .ok (.aload_n 0, 1) := by decide +kernel
theorem dX4_number_239 : decode cX4_number 239 = .ok (.getfield 68, 3) := by decide +kernel
theorem dX4_number_242 : decode cX4_number 242 = .ok (.iconst 2, 1) := by decide +kernel
theorem dX4_number_243 : decode cX4_number 243 = .ok (.iload_n 3, 1) := by decide +kernel
theorem dX4_number_244 : decode cX4_number 244 = .ok (.imul, 1) := by decide +kernel
theorem dX4_number_245 : decode cX4_number 245 = .ok (.iconst 1, 1) := by decide +kernel
theorem dX4_number_246 : decode cX4_number 246 = .ok (.iadd, 1) := by decide +kernel
theorem dX4_number_247 : decode cX4_number 247 = .ok (.iaload, 1) := by decide +kernel
theorem dX4_number_248 : decode cX4_number 248 = .ok (.iaload, 1) := by decide +kernel
theorem dX4_number_249 : decode cX4_number 249 = .ok (.iastore, 1) := by decide +kernel
theorem dX4_number_250 : decode cX4_number 250 = .ok (.iinc 2 1, 3) := by decide +kernel
theorem dX4_number_253 : decode cX4_number 253 = .ok (.goto (-116), 3) := by decide +kernel
theorem dX4_number_256 : decode cX4_number 256 = .ok (.return_, 1) := by decide +kernel
set_option maxRecDepth 20000 in
theorem ggX4_plan_X4_within : GoodIn wsX4_plan wsX4_within := goodIn_r _ [5] (by decide +kernel) (by decide +kernel)
set_option maxRecDepth 20000 in
theorem gX4_plan_X4_within : GoodIn wsX4_plan (va_wsS RX4 96 yX4_within wsX4_within) := goodIn_app (goodIn_of _ (by decide +kernel)) ggX4_plan_X4_within
set_option maxRecDepth 20000 in
theorem ggX4_plan_X4_fail : GoodIn wsX4_plan wsX4_fail := goodIn_r _ [9, 1, 98, 99, 100, 101, 102, 103, 104, 105, 106, 107, 108, 109, 110, 111, 112, 113, 114, 115, 116, 117, 118, 119, 120, 121, 122, 123, 124, 125, 126, 127, 128, 129, 130] (by decide +kernel) (by decide +kernel)
set_option maxRecDepth 20000 in
theorem gX4_plan_X4_fail : GoodIn wsX4_plan (wsV RX4 115 RX4 yX4_fail wsX4_fail) := goodIn_app (goodIn_of _ (by decide +kernel)) ggX4_plan_X4_fail
set_option maxRecDepth 20000 in
theorem ggX4_plan_X4_startBelief : GoodIn wsX4_plan wsX4_startBelief := goodIn_r _ [13, 14, 15, 16, 98, 99, 100, 101, 102, 103, 104, 105, 106, 107, 108, 109, 110, 111, 112, 113, 114, 115, 116, 117, 118, 119, 120, 121, 122, 123, 124, 125, 126, 127, 128, 129, 130] (by decide +kernel) (by decide +kernel)
set_option maxRecDepth 20000 in
theorem gX4_plan_X4_startBelief : GoodIn wsX4_plan (wsV RX4 126 RX4 yX4_startBelief wsX4_startBelief) := goodIn_app (goodIn_of _ (by decide +kernel)) ggX4_plan_X4_startBelief
set_option maxRecDepth 20000 in
theorem ggX4_plan_X4_leastFor : GoodIn wsX4_plan wsX4_leastFor := goodIn_r _ [20, 21, 22, 23, 4, 24, 25, 26, 27, 28, 29, 30, 31, 32, 33, 34, 35, 36, 37, 38, 39, 40, 41, 42, 43, 44, 45, 46, 47, 48, 49, 50, 51, 52, 53, 54, 55, 56, 57, 58, 59, 60, 61, 98, 99, 100, 101, 102, 103, 104, 105, 106, 107, 108, 109, 110, 111, 112, 113, 114, 115, 116, 117, 118, 119, 120, 121, 122, 123, 124, 125, 126, 127, 128, 129, 130] (by decide +kernel) (by decide +kernel)
set_option maxRecDepth 20000 in
theorem gX4_plan_X4_leastFor : GoodIn wsX4_plan (wsV RX4 152 RX4 yX4_leastFor wsX4_leastFor) := goodIn_app (goodIn_of _ (by decide +kernel)) ggX4_plan_X4_leastFor
set_option maxRecDepth 20000 in
theorem ggX4_plan_X4_build : GoodIn wsX4_plan wsX4_build := goodIn_r _ [65, 66, 67, 68, 69, 70, 4, 71, 72, 73, 74, 75, 76, 28, 29, 30, 31, 32, 33, 34, 35, 36, 37, 38, 39, 40, 41, 42, 43, 77, 78, 79, 80, 44, 45, 46, 47, 48, 49, 50, 51, 52, 53, 54, 55, 56, 57, 58, 59, 60, 61, 21, 22, 23, 24, 25, 26, 27, 81, 82, 83, 84, 85, 86, 87, 88, 89, 90, 91, 92, 93, 94, 95, 96, 97, 98, 99, 100, 101, 102, 103, 104, 105, 106, 107, 108, 109, 110, 111, 112, 113, 114, 115, 116, 117, 118, 119, 120, 121, 122, 123, 124, 125, 126, 127, 128, 129, 130] (by decide +kernel) (by decide +kernel)
set_option maxRecDepth 20000 in
theorem gX4_plan_X4_build : GoodIn wsX4_plan (wsV RX4 175 RX4 yX4_build wsX4_build) := goodIn_app (goodIn_of _ (by decide +kernel)) ggX4_plan_X4_build
theorem dX4_plan_0 : decode cX4_plan 0 = .ok (.aload_n 0, 1) := by decide +kernel
theorem dX4_plan_1 : decode cX4_plan 1 = .ok (.iconst 0, 1) := by decide +kernel
theorem dX4_plan_2 : decode cX4_plan 2 = .ok (.putfield 93, 3) := by decide +kernel
theorem dX4_plan_5 : decode cX4_plan 5 = .ok (.iload_n 1, 1) := by decide +kernel
theorem dX4_plan_6 : decode cX4_plan 6 = .ok (.iconst 0, 1) := by decide +kernel
theorem dX4_plan_7 : decode cX4_plan 7 = .ok (.iconst 4, 1) := by decide +kernel
theorem dX4_plan_8 : decode cX4_plan 8 = .ok (.invokestatic 96, 3) := by decide +kernel
theorem dX4_plan_11 : decode cX4_plan 11 = .ok (.ifCond .ne 9, 3) := by decide +kernel
theorem dX4_plan_14 : decode cX4_plan 14 = .ok (.aload_n 0, 1) := by decide +kernel
theorem dX4_plan_15 : decode cX4_plan 15 = .ok (.iconst 1, 1) := by decide +kernel
theorem dX4_plan_16 : decode cX4_plan 16 = .ok (.invokevirtual 115, 3) := by decide +kernel
theorem dX4_plan_19 : decode cX4_plan 19 = .ok (.ireturn, 1) := by decide +kernel
theorem dX4_plan_20 : decode cX4_plan 20 = .ok (.aload_n 0, 1) := by decide +kernel
theorem dX4_plan_21 : decode cX4_plan 21 = .ok (.invokevirtual 126, 3) := by decide +kernel
theorem dX4_plan_24 : decode cX4_plan 24 = .ok (.istore_n 2, 1) := by decide +kernel
theorem dX4_plan_25 : decode cX4_plan 25 = .ok (.iload_n 2, 1) := by decide +kernel
theorem dX4_plan_26 : decode cX4_plan 26 = .ok (.ifCond .ne 9, 3) := by decide +kernel
theorem dX4_plan_29 : decode cX4_plan 29 = .ok (.aload_n 0, 1) := by decide +kernel
theorem dX4_plan_30 : decode cX4_plan 30 = .ok (.iconst 2, 1) := by decide +kernel
theorem dX4_plan_31 : decode cX4_plan 31 = .ok (.invokevirtual 115, 3) := by decide +kernel
theorem dX4_plan_34 : decode cX4_plan 34 = .ok (.ireturn, 1) := by decide +kernel
theorem dX4_plan_35 : decode cX4_plan 35 = .ok (.aload_n 0, 1) := by decide +kernel
theorem dX4_plan_36 : decode cX4_plan 36 = .ok (.iload_n 2, 1) := by decide +kernel
theorem dX4_plan_37 : decode cX4_plan 37 = .ok (.iload_n 1, 1) := by decide +kernel
theorem dX4_plan_38 : decode cX4_plan 38 = .ok (.invokevirtual 152, 3) := by decide +kernel
theorem dX4_plan_41 : decode cX4_plan 41 = .ok (.istore_n 3, 1) := by decide +kernel
theorem dX4_plan_42 : decode cX4_plan 42 = .ok (.iload_n 3, 1) := by decide +kernel
theorem dX4_plan_43 : decode cX4_plan 43 = .ok (.ifCond .ge 9, 3) := by decide +kernel
theorem dX4_plan_46 : decode cX4_plan 46 = .ok (.aload_n 0, 1) := by decide +kernel
theorem dX4_plan_47 : decode cX4_plan 47 = .ok (.iconst 3, 1) := by decide +kernel
theorem dX4_plan_48 : decode cX4_plan 48 = .ok (.invokevirtual 115, 3) := by decide +kernel
theorem dX4_plan_51 : decode cX4_plan 51 = .ok (.ireturn, 1) := by decide +kernel
theorem dX4_plan_52 : decode cX4_plan 52 = .ok (.aload_n 0, 1) := by decide +kernel
theorem dX4_plan_53 : decode cX4_plan 53 = .ok (.iload_n 2, 1) := by decide +kernel
theorem dX4_plan_54 : decode cX4_plan 54 = .ok (.iload_n 3, 1) := by decide +kernel
theorem dX4_plan_55 : decode cX4_plan 55 = .ok (.invokevirtual 175, 3) := by decide +kernel
theorem dX4_plan_58 : decode cX4_plan 58 = .ok (.iload_n 3, 1) := by decide +kernel
theorem dX4_plan_59 : decode cX4_plan 59 = .ok (.ireturn, 1) := by decide +kernel
theorem dX4_nodes_0 : decode cX4_nodes 0 = .ok (.aload_n 0, 1) := by decide +kernel
theorem dX4_nodes_1 : decode cX4_nodes 1 = .ok (.iconst 0, 1) := by decide +kernel
theorem dX4_nodes_2 : decode cX4_nodes 2 = .ok (.putfield 93, 3) := by decide +kernel
theorem dX4_nodes_5 : decode cX4_nodes 5 = .ok (.aload_n 0, 1) := by decide +kernel
theorem dX4_nodes_6 : decode cX4_nodes 6 = .ok (.getfield 109, 3) := by decide +kernel
theorem dX4_nodes_9 : decode cX4_nodes 9 = .ok (.ireturn, 1) := by decide +kernel
set_option maxRecDepth 20000 in
theorem ggX4_node_X4_within : GoodIn wsX4_node wsX4_within := goodIn_r _ [9] (by decide +kernel) (by decide +kernel)
set_option maxRecDepth 20000 in
theorem gX4_node_X4_within : GoodIn wsX4_node (va_wsS RX4 96 yX4_within wsX4_within) := goodIn_app (goodIn_of _ (by decide +kernel)) ggX4_node_X4_within
set_option maxRecDepth 20000 in
theorem ggX4_node_X4_fail : GoodIn wsX4_node wsX4_fail := goodIn_r _ [13, 1, 14, 15, 16, 17, 18, 19, 20, 21, 22, 23, 24, 25, 26, 27, 28, 29, 30, 31, 32, 33, 34, 35, 36, 37, 38, 39, 40, 41, 42, 43, 44, 45, 46] (by decide +kernel) (by decide +kernel)
set_option maxRecDepth 20000 in
theorem gX4_node_X4_fail : GoodIn wsX4_node (wsV RX4 115 RX4 yX4_fail wsX4_fail) := goodIn_app (goodIn_of _ (by decide +kernel)) ggX4_node_X4_fail
theorem dX4_node_0 : decode cX4_node 0 = .ok (.aload_n 0, 1) := by decide +kernel
theorem dX4_node_1 : decode cX4_node 1 = .ok (.iconst 0, 1) := by decide +kernel
theorem dX4_node_2 : decode cX4_node 2 = .ok (.putfield 93, 3) := by decide +kernel
theorem dX4_node_5 : decode cX4_node 5 = .ok (.iload_n 1, 1) := by decide +kernel
theorem dX4_node_6 : decode cX4_node 6 = .ok (.iconst 0, 1) := by decide +kernel
theorem dX4_node_7 : decode cX4_node 7 = .ok (.aload_n 0, 1) := by decide +kernel
theorem dX4_node_8 : decode cX4_node 8 = .ok (.getfield 109, 3) := by decide +kernel
theorem dX4_node_11 : decode cX4_node 11 = .ok (.iconst 1, 1) := by decide +kernel
theorem dX4_node_12 : decode cX4_node 12 = .ok (.isub, 1) := by decide +kernel
theorem dX4_node_13 : decode cX4_node 13 = .ok (.invokestatic 96, 3) := by decide +kernel
theorem dX4_node_16 : decode cX4_node 16 = .ok (.ifCond .eq 12, 3) := by decide +kernel
theorem dX4_node_19 : decode cX4_node 19 = .ok (.iload_n 2, 1) := by decide +kernel
theorem dX4_node_20 : decode cX4_node 20 = .ok (.iconst 0, 1) := by decide +kernel
theorem dX4_node_21 : decode cX4_node 21 = .ok (.iconst 2, 1) := by decide +kernel
theorem dX4_node_22 : decode cX4_node 22 = .ok (.invokestatic 96, 3) := by decide +kernel
theorem dX4_node_25 : decode cX4_node 25 = .ok (.ifCond .ne 9, 3) := by decide +kernel
theorem dX4_node_28 : decode cX4_node 28 = .ok (.aload_n 0, 1) := by decide +kernel
theorem dX4_node_29 : decode cX4_node 29 = .ok (.iconst 1, 1) := by decide +kernel
theorem dX4_node_30 : decode cX4_node 30 = .ok (.invokevirtual 115, 3) := by decide +kernel
theorem dX4_node_33 : decode cX4_node 33 = .ok (.ireturn, 1) := by decide +kernel
theorem dX4_node_34 : decode cX4_node 34 = .ok (.iload_n 2, 1) := by decide +kernel
theorem dX4_node_35 : decode cX4_node 35 = .ok (.ifCond .ne 12, 3) := by decide +kernel
theorem dX4_node_38 : decode cX4_node 38 = .ok (.aload_n 0, 1) := by decide +kernel
theorem dX4_node_39 : decode cX4_node 39 = .ok (.getfield 44, 3) := by decide +kernel
theorem dX4_node_42 : decode cX4_node 42 = .ok (.iload_n 1, 1) := by decide +kernel
theorem dX4_node_43 : decode cX4_node 43 = .ok (.iaload, 1) := by decide +kernel
theorem dX4_node_44 : decode cX4_node 44 = .ok (.goto 23, 3) := by decide +kernel
theorem dX4_node_47 : decode cX4_node 47 = .ok (.iload_n 2, 1) := by decide +kernel
theorem dX4_node_48 : decode cX4_node 48 = .ok (.iconst 1, 1) := by decide +kernel
theorem dX4_node_49 : decode cX4_node 49 = .ok (.if_icmp .ne 12, 3) := by decide +kernel
theorem dX4_node_52 : decode cX4_node 52 = .ok (.aload_n 0, 1) := by decide +kernel
theorem dX4_node_53 : decode cX4_node 53 = .ok (.getfield 47, 3) := by decide +kernel
theorem dX4_node_56 : decode cX4_node 56 = .ok (.iload_n 1, 1) := by decide +kernel
theorem dX4_node_57 : decode cX4_node 57 = .ok (.iaload, 1) := by decide +kernel
theorem dX4_node_58 : decode cX4_node 58 = .ok (.goto 9, 3) := by decide +kernel
theorem dX4_node_61 : decode cX4_node 61 = .ok (.aload_n 0, 1) := by decide +kernel
theorem dX4_node_62 : decode cX4_node 62 = .ok (.getfield 50, 3) := by decide +kernel
theorem dX4_node_65 : decode cX4_node 65 = .ok (.iload_n 1, 1) := by decide +kernel
theorem dX4_node_66 : decode cX4_node 66 = .ok (.iaload, 1) := by decide +kernel
theorem dX4_node_67 : decode cX4_node 67 = .ok (.ireturn, 1) := by decide +kernel
set_option maxRecDepth 20000 in
theorem ggX4_edit_X4_within : GoodIn wsX4_edit wsX4_within := goodIn_r _ [8] (by decide +kernel) (by decide +kernel)
set_option maxRecDepth 20000 in
theorem gX4_edit_X4_within : GoodIn wsX4_edit (va_wsS RX4 96 yX4_within wsX4_within) := goodIn_app (goodIn_of _ (by decide +kernel)) ggX4_edit_X4_within
set_option maxRecDepth 20000 in
theorem ggX4_edit_X4_fail : GoodIn wsX4_edit wsX4_fail := goodIn_r _ [12, 1, 13, 14, 15, 16, 17, 18, 19, 20, 21, 22, 23, 24, 25, 26, 27, 28, 29, 30, 31, 32, 33, 34, 35, 36, 37, 38, 39, 40, 41, 42, 43, 44, 45] (by decide +kernel) (by decide +kernel)
set_option maxRecDepth 20000 in
theorem gX4_edit_X4_fail : GoodIn wsX4_edit (wsV RX4 115 RX4 yX4_fail wsX4_fail) := goodIn_app (goodIn_of _ (by decide +kernel)) ggX4_edit_X4_fail
theorem dX4_edit_0 : decode cX4_edit 0 = .ok (.aload_n 0, 1) := by decide +kernel
theorem dX4_edit_1 : decode cX4_edit 1 = .ok (.iconst 0, 1) := by decide +kernel
theorem dX4_edit_2 : decode cX4_edit 2 = .ok (.putfield 93, 3) := by decide +kernel
theorem dX4_edit_5 : decode cX4_edit 5 = .ok (.iload_n 1, 1) := by decide +kernel
theorem dX4_edit_6 : decode cX4_edit 6 = .ok (.iconst 0, 1) := by decide +kernel
theorem dX4_edit_7 : decode cX4_edit 7 = .ok (.aload_n 0, 1) := by decide +kernel
theorem dX4_edit_8 : decode cX4_edit 8 = .ok (.getfield 109, 3) := by decide +kernel
theorem dX4_edit_11 : decode cX4_edit 11 = .ok (.iconst 1, 1) := by decide +kernel
theorem dX4_edit_12 : decode cX4_edit 12 = .ok (.isub, 1) := by decide +kernel
theorem dX4_edit_13 : decode cX4_edit 13 = .ok (.invokestatic 96, 3) := by decide +kernel
theorem dX4_edit_16 : decode cX4_edit 16 = .ok (.ifCond .eq 13, 3) := by decide +kernel
theorem dX4_edit_19 : decode cX4_edit 19 = .ok (.iload_n 2, 1) := by decide +kernel
theorem dX4_edit_20 : decode cX4_edit 20 = .ok (.iconst 0, 1) := by decide +kernel
theorem dX4_edit_21 : decode cX4_edit 21 = .ok (.bipush 7, 2) := by decide +kernel
theorem dX4_edit_23 : decode cX4_edit 23 = .ok (.invokestatic 96, 3) := by decide +kernel
theorem dX4_edit_26 : decode cX4_edit 26 = .ok (.ifCond .ne 9, 3) := by decide +kernel
theorem dX4_edit_29 : decode cX4_edit 29 = .ok (.aload_n 0, 1) := by decide +kernel
theorem dX4_edit_30 : decode cX4_edit 30 = .ok (.iconst 1, 1) := by decide +kernel
theorem dX4_edit_31 : decode cX4_edit 31 = .ok (.invokevirtual 115, 3) := by decide +kernel
theorem dX4_edit_34 : decode cX4_edit 34 = .ok (.ireturn, 1) := by decide +kernel
theorem dX4_edit_35 : decode cX4_edit 35 = .ok (.aload_n 0, 1) := by decide +kernel
theorem dX4_edit_36 : decode cX4_edit 36 = .ok (.getfield 7, 3) := by decide +kernel
theorem dX4_edit_39 : decode cX4_edit 39 = .ok (.iload_n 2, 1) := by decide +kernel
theorem dX4_edit_40 : decode cX4_edit 40 = .ok (.baload, 1) := by decide +kernel
theorem dX4_edit_41 : decode cX4_edit 41 = .ok (.ifCond .ne 9, 3) := by decide +kernel
theorem dX4_edit_44 : decode cX4_edit 44 = .ok (.aload_n 0, 1) := by decide +kernel
theorem dX4_edit_45 : decode cX4_edit 45 = .ok (.iconst 2, 1) := by decide +kernel
theorem dX4_edit_46 : decode cX4_edit 46 = .ok (.invokevirtual 115, 3) := by decide +kernel
theorem dX4_edit_49 : decode cX4_edit 49 = .ok (.ireturn, 1) := by decide +kernel
theorem dX4_edit_50 : decode cX4_edit 50 = .ok (.aload_n 0, 1) := by decide +kernel
theorem dX4_edit_51 : decode cX4_edit 51 = .ok (.getfield 44, 3) := by decide +kernel
theorem dX4_edit_54 : decode cX4_edit 54 = .ok (.iload_n 1, 1) := by decide +kernel
theorem dX4_edit_55 : decode cX4_edit 55 = .ok (.iaload, 1) := by decide +kernel
theorem dX4_edit_56 : decode cX4_edit 56 = .ok (.ifCond .ge 9, 3) := by decide +kernel
theorem dX4_edit_59 : decode cX4_edit 59 = .ok (.aload_n 0, 1) := by decide +kernel
theorem dX4_edit_60 : decode cX4_edit 60 = .ok (.iconst 3, 1) := by decide +kernel
theorem dX4_edit_61 : decode cX4_edit 61 = .ok (.invokevirtual 115, 3) := by decide +kernel
theorem dX4_edit_64 : decode cX4_edit 64 = .ok (.ireturn, 1) := by decide +kernel
theorem dX4_edit_65 : decode cX4_edit 65 = .ok (.aload_n 0, 1) := by decide +kernel
theorem dX4_edit_66 : decode cX4_edit 66 = .ok (.getfield 44, 3) := by decide +kernel
theorem dX4_edit_69 : decode cX4_edit 69 = .ok (.iload_n 1, 1) := by decide +kernel
theorem dX4_edit_70 : decode cX4_edit 70 = .ok (.iaload, 1) := by decide +kernel
theorem dX4_edit_71 : decode cX4_edit 71 = .ok (.istore_n 3, 1) := by decide +kernel
theorem dX4_edit_72 : decode cX4_edit 72 = .ok (.aload_n 0, 1) := by decide +kernel
theorem dX4_edit_73 : decode cX4_edit 73 = .ok (.getfield 44, 3) := by decide +kernel
theorem dX4_edit_76 : decode cX4_edit 76 = .ok (.iload_n 1, 1) := by decide +kernel
theorem dX4_edit_77 : decode cX4_edit 77 = .ok (.iload_n 2, 1) := by decide +kernel
theorem dX4_edit_78 : decode cX4_edit 78 = .ok (.iastore, 1) := by decide +kernel
theorem dX4_edit_79 : decode cX4_edit 79 = .ok (.iload_n 3, 1) := by decide +kernel
theorem dX4_edit_80 : decode cX4_edit 80 = .ok (.ireturn, 1) := by decide +kernel
set_option maxRecDepth 20000 in
theorem ggX4_right_X4_fail : GoodIn wsX4_right wsX4_fail := goodIn_r _ [12, 1, 54, 55, 56, 57, 58, 59, 60, 61, 62, 63, 64, 65, 66, 67, 68, 69, 70, 71, 72, 73, 74, 75, 76, 77, 78, 79, 80, 81, 82, 83, 84, 85, 86] (by decide +kernel) (by decide +kernel)
set_option maxRecDepth 20000 in
theorem gX4_right_X4_fail : GoodIn wsX4_right (wsV RX4 115 RX4 yX4_fail wsX4_fail) := goodIn_app (goodIn_of _ (by decide +kernel)) ggX4_right_X4_fail
set_option maxRecDepth 20000 in
theorem ggX4_right_X4_startBelief : GoodIn wsX4_right wsX4_startBelief := goodIn_r _ [16, 17, 18, 19, 54, 55, 56, 57, 58, 59, 60, 61, 62, 63, 64, 65, 66, 67, 68, 69, 70, 71, 72, 73, 74, 75, 76, 77, 78, 79, 80, 81, 82, 83, 84, 85, 86] (by decide +kernel) (by decide +kernel)
set_option maxRecDepth 20000 in
theorem gX4_right_X4_startBelief : GoodIn wsX4_right (wsV RX4 126 RX4 yX4_startBelief wsX4_startBelief) := goodIn_app (goodIn_of _ (by decide +kernel)) ggX4_right_X4_startBelief
set_option maxRecDepth 20000 in
theorem ggX4_right_X4_reached : GoodIn wsX4_right wsX4_reached := goodIn_r _ [23, 24, 25, 26, 27, 11, 28, 54, 55, 56, 57, 58, 59, 60, 61, 62, 63, 64, 65, 66, 67, 68, 69, 70, 71, 72, 73, 74, 75, 76, 77, 78, 79, 80, 81, 82, 83, 84, 85, 86] (by decide +kernel) (by decide +kernel)
set_option maxRecDepth 20000 in
theorem gX4_right_X4_reached : GoodIn wsX4_right (wsV RX4 141 RX4 yX4_reached wsX4_reached) := goodIn_app (goodIn_of _ (by decide +kernel)) ggX4_right_X4_reached
set_option maxRecDepth 20000 in
theorem ggX4_right_X4_usable : GoodIn wsX4_right wsX4_usable := goodIn_r _ [32, 33, 34, 35, 26, 27, 11, 28, 54, 55, 56, 57, 58, 59, 60, 61, 62, 63, 64, 65, 66, 67, 68, 69, 70, 71, 72, 73, 74, 75, 76, 77, 78, 79, 80, 81, 82, 83, 84, 85, 86] (by decide +kernel) (by decide +kernel)
set_option maxRecDepth 20000 in
theorem gX4_right_X4_usable : GoodIn wsX4_right (wsV RX4 138 RX4 yX4_usable wsX4_usable) := goodIn_app (goodIn_of _ (by decide +kernel)) ggX4_right_X4_usable
set_option maxRecDepth 20000 in
theorem ggX4_right_X4_part : GoodIn wsX4_right wsX4_part := goodIn_r _ [39, 40, 41, 42, 43, 11, 44, 45, 46, 47, 48, 49, 50, 51, 52, 53, 26, 27, 28, 54, 55, 56, 57, 58, 59, 60, 61, 62, 63, 64, 65, 66, 67, 68, 69, 70, 71, 72, 73, 74, 75, 76, 77, 78, 79, 80, 81, 82, 83, 84, 85, 86] (by decide +kernel) (by decide +kernel)
set_option maxRecDepth 20000 in
theorem gX4_right_X4_part : GoodIn wsX4_right (wsV RX4 145 RX4 yX4_part wsX4_part) := goodIn_app (goodIn_of _ (by decide +kernel)) ggX4_right_X4_part
theorem dX4_right_0 : decode cX4_right 0 = .ok (.aload_n 0, 1) := by decide +kernel
theorem dX4_right_1 : decode cX4_right 1 = .ok (.iconst 0, 1) := by decide +kernel
theorem dX4_right_2 : decode cX4_right 2 = .ok (.putfield 93, 3) := by decide +kernel
theorem dX4_right_5 : decode cX4_right 5 = .ok (.aload_n 0, 1) := by decide +kernel
theorem dX4_right_6 : decode cX4_right 6 = .ok (.getfield 109, 3) := by decide +kernel
theorem dX4_right_9 : decode cX4_right 9 = .ok (.ifCond .ne 17, 3) := by decide +kernel
theorem dX4_right_12 : decode cX4_right 12 = .ok (.aload_n 0, 1) := by decide +kernel
theorem dX4_right_13 : decode cX4_right 13 = .ok (.iconst 1, 1) := by decide +kernel
theorem dX4_right_14 : decode cX4_right 14 = .ok (.invokevirtual 115, 3) := by decide +kernel
theorem dX4_right_17 : decode cX4_right 17 = .ok (.ifCond .le 7, 3) := by decide +kernel
theorem dX4_right_20 : decode cX4_right 20 = .ok (.iconst 1, 1) := by decide +kernel
theorem dX4_right_21 : decode cX4_right 21 = .ok (.goto 4, 3) := by decide +kernel
theorem dX4_right_24 : decode cX4_right 24 = .ok (.iconst 0, 1) := by decide +kernel
theorem dX4_right_25 : decode cX4_right 25 = .ok (.ireturn, 1) := by decide +kernel
theorem dX4_right_26 : decode cX4_right 26 = .ok (.aload_n 0, 1) := by decide +kernel
theorem dX4_right_27 : decode cX4_right 27 = .ok (.invokevirtual 126, 3) := by decide +kernel
theorem dX4_right_30 : decode cX4_right 30 = .ok (.ifCond .ne 7, 3) := by decide +kernel
theorem dX4_right_33 : decode cX4_right 33 = .ok (.iconst 0, 1) := by decide +kernel
theorem dX4_right_34 : decode cX4_right 34 = .ok (.goto 4, 3) := by decide +kernel
theorem dX4_right_37 : decode cX4_right 37 = .ok (.iconst 1, 1) := by decide +kernel
theorem dX4_right_38 : decode cX4_right 38 = .ok (.istore_n 1, 1) := by decide +kernel
theorem dX4_right_39 : decode cX4_right 39 = .ok (.aload_n 0, 1) := by decide +kernel
theorem dX4_right_40 : decode cX4_right 40 = .ok (.getfield 74, 3) := by decide +kernel
theorem dX4_right_43 : decode cX4_right 43 = .ok (.iconst 0, 1) := by decide +kernel
theorem dX4_right_44 : decode cX4_right 44 = .ok (.iconst 0, 1) := by decide +kernel
theorem dX4_right_45 : decode cX4_right 45 = .ok (.iastore, 1) := by decide +kernel
theorem dX4_right_46 : decode cX4_right 46 = .ok (.aload_n 0, 1) := by decide +kernel
theorem dX4_right_47 : decode cX4_right 47 = .ok (.getfield 77, 3) := by decide +kernel
theorem dX4_right_50 : decode cX4_right 50 = .ok (.iconst 0, 1) := by decide +kernel
theorem dX4_right_51 : decode cX4_right 51 = .ok (.aload_n 0, 1) := by decide +kernel
theorem dX4_right_52 : decode cX4_right 52 = .ok (.invokevirtual 126, 3) := by decide +kernel
theorem dX4_right_55 : decode cX4_right 55 = .ok (.iastore, 1) := by decide +kernel
theorem dX4_right_56 : decode cX4_right 56 = .ok (.iconst 1, 1) := by decide +kernel
theorem dX4_right_57 : decode cX4_right 57 = .ok (.istore_n 2, 1) := by decide +kernel
theorem dX4_right_58 : decode cX4_right 58 = .ok (.iload_n 1, 1) := by decide +kernel
theorem dX4_right_59 : decode cX4_right 59 = .ok (.ifCond .le 161, 3) := by decide +kernel
theorem dX4_right_62 : decode cX4_right 62 = .ok (.iload_n 2, 1) := by decide +kernel
theorem dX4_right_63 : decode cX4_right 63 = .ok (.ifCond .eq 157, 3) := by decide +kernel
theorem dX4_right_66 : decode cX4_right 66 = .ok (.iinc 1 (-1), 3) := by decide +kernel
theorem dX4_right_69 : decode cX4_right 69 = .ok (.aload_n 0, 1) := by decide +kernel
theorem dX4_right_70 : decode cX4_right 70 = .ok (.getfield 74, 3) := by decide +kernel
theorem dX4_right_73 : decode cX4_right 73 = .ok (.iload_n 1, 1) := by decide +kernel
theorem dX4_right_74 : decode cX4_right 74 = .ok (.iaload, 1) := by decide +kernel
theorem dX4_right_75 : decode cX4_right 75 = .ok (.istore_n 3, 1) := by decide +kernel
theorem dX4_right_76 : decode cX4_right 76 = .ok (.aload_n 0, 1) := by decide +kernel
theorem dX4_right_77 : decode cX4_right 77 = .ok (.getfield 77, 3) := by decide +kernel
theorem dX4_right_80 : decode cX4_right 80 = .ok (.iload_n 1, 1) := by decide +kernel
theorem dX4_right_81 : decode cX4_right 81 = .ok (.iaload, 1) := by decide +kernel
theorem dX4_right_82 : decode cX4_right 82 = .ok (.istore 4, 2) := by decide +kernel
theorem dX4_right_84 : decode cX4_right 84 = .ok (.aload_n 0, 1) := by decide +kernel
theorem dX4_right_85 : decode cX4_right 85 = .ok (.getfield 44, 3) := by decide +kernel
theorem dX4_right_88 : decode cX4_right 88 = .ok (.iload_n 3, 1) := by decide +kernel
theorem dX4_right_89 : decode cX4_right 89 = .ok (.iaload, 1) := by decide +kernel
theorem dX4_right_90 : decode cX4_right 90 = .ok (.istore 5, 2) := by decide +kernel
theorem dX4_right_92 : decode cX4_right 92 = .ok (.iload 5, 2) := by decide +kernel
theorem dX4_right_94 : decode cX4_right 94 = .ok (.ifCond .ge 12, 3) := by decide +kernel
theorem dX4_right_97 : decode cX4_right 97 = .ok (.aload_n 0, 1) := by decide +kernel
theorem dX4_right_98 : decode cX4_right 98 = .ok (.iload 4, 2) := by decide +kernel
theorem dX4_right_100 : decode cX4_right 100 = .ok (.invokevirtual 141, 3) := by decide +kernel
theorem dX4_right_103 : decode cX4_right 103 = .ok (.goto 11, 3) := by decide +kernel
theorem dX4_right_106 : decode cX4_right 106 = .ok (.aload_n 0, 1) := by decide +kernel
theorem dX4_right_107 : decode cX4_right 107 = .ok (.iload 5, 2) := by decide +kernel
theorem dX4_right_109 : decode cX4_right 109 = .ok (.iload 4, 2) := by decide +kernel
theorem dX4_right_111 : decode cX4_right 111 = .ok (.invokevirtual 138, 3) := by decide +kernel
theorem dX4_right_114 : decode cX4_right 114 = .ok (.istore_n 2, 1) := by decide +kernel
theorem dX4_right_115 : decode cX4_right 115 = .ok (.iconst 0, 1) := by decide +kernel
theorem dX4_right_116 : decode cX4_right 116 = .ok (.istore 6, 2) := by decide +kernel
theorem dX4_right_118 : decode cX4_right 118 = .ok (.iload 6, 2) := by decide +kernel
theorem dX4_right_120 : decode cX4_right 120 = .ok (.iconst 2, 1) := by decide +kernel
theorem dX4_right_121 : decode cX4_right 121 = .ok (.if_icmp .ge 96, 3) := by decide +kernel
theorem dX4_right_124 : decode cX4_right 124 = .ok (.iload_n 2, 1) := by decide +kernel
theorem dX4_right_125 : decode cX4_right 125 = .ok (.ifCond .eq 92, 3) := by decide +kernel
theorem dX4_right_128 : decode cX4_right 128 = .ok (.iload 5, 2) := by decide +kernel
theorem dX4_right_130 : decode cX4_right 130 = .ok (.ifCond .lt 87, 3) := by decide +kernel
theorem dX4_right_133 : decode cX4_right 133 = .ok (.aload_n 0, 1) := by decide +kernel
theorem dX4_right_134 : decode cX4_right 134 = .ok (.iload 5, 2) := by decide +kernel
theorem dX4_right_136 : decode cX4_right 136 = .ok (.iload 4, 2) := by decide +kernel
theorem dX4_right_138 : decode cX4_right 138 = .ok (.iload 6, 2) := by decide +kernel
theorem dX4_right_140 : decode cX4_right 140 = .ok (.invokevirtual 145, 3) := by decide +kernel
theorem dX4_right_143 : decode cX4_right 143 = .ok (.istore 7, 2) := by decide +kernel
theorem dX4_right_145 : decode cX4_right 145 = .ok (.iload 6, 2) := by decide +kernel
theorem dX4_right_147 : decode cX4_right 147 = .ok (.ifCond .ne 12, 3) := by decide +kernel
theorem dX4_right_150 : decode cX4_right 150 = .ok (.aload_n 0, 1) := by decide +kernel
theorem dX4_right_151 : decode cX4_right 151 = .ok (.getfield 47, 3) := by decide +kernel
theorem dX4_right_154 : decode cX4_right 154 = .ok (.iload_n 3, 1) := by decide +kernel
theorem dX4_right_155 : decode cX4_right 155 = .ok (.iaload, 1) := by decide +kernel
theorem dX4_right_156 : decode cX4_right 156 = .ok (.goto 9, 3) := by decide +kernel
theorem dX4_right_159 : decode cX4_right 159 = .ok (.aload_n 0, 1) := by decide +kernel
theorem dX4_right_160 : decode cX4_right 160 = .ok (.getfield 50, 3) := by decide +kernel
theorem dX4_right_163 : decode cX4_right 163 = .ok (.iload_n 3, 1) := by decide +kernel
theorem dX4_right_164 : decode cX4_right 164 = .ok (.iaload, 1) := by decide +kernel
theorem dX4_right_165 : decode cX4_right 165 = .ok (.istore 8, 2) := by decide +kernel
theorem dX4_right_167 : decode cX4_right 167 = .ok (.iload 7, 2) := by decide +kernel
theorem dX4_right_169 : decode cX4_right 169 = .ok (.ifCond .eq 8, 3) := by decide +kernel
theorem dX4_right_172 : decode cX4_right 172 = .ok (.iload 8, 2) := by decide +kernel
theorem dX4_right_174 : decode cX4_right 174 = .ok (.ifCond .lt 7, 3) := by decide +kernel
theorem dX4_right_177 : decode cX4_right 177 = .ok (.iconst 1, 1) := by decide +kernel
theorem dX4_right_178 : decode cX4_right 178 = .ok (.goto 4, 3) := by decide +kernel
theorem dX4_right_181 : decode cX4_right 181 = .ok (.iconst 0, 1) := by decide +kernel
theorem dX4_right_182 : decode cX4_right 182 = .ok (.istore_n 2, 1) := by decide +kernel
theorem dX4_right_183 : decode cX4_right 183 = .ok (.iload 7, 2) := by decide +kernel
theorem dX4_right_185 : decode cX4_right 185 = .ok (.ifCond .le 26, 3) := by decide +kernel
theorem dX4_right_188 : decode cX4_right 188 = .ok (.iload_n 2, 1) := by decide +kernel
theorem dX4_right_189 : decode cX4_right 189 = .ok (.ifCond .eq 22, 3) := by decide +kernel
theorem dX4_right_192 : decode cX4_right 192 = .ok (.aload_n 0, 1) := by decide +kernel
theorem dX4_right_193 : decode cX4_right 193 = .ok (.getfield 74, 3) := by decide +kernel
theorem dX4_right_196 : decode cX4_right 196 = .ok (.iload_n 1, 1) := by decide +kernel
theorem dX4_right_197 : decode cX4_right 197 = .ok (.iload 8, 2) := by decide +kernel
theorem dX4_right_199 : decode cX4_right 199 = .ok (.iastore, 1) := by decide +kernel
theorem dX4_right_200 : decode cX4_right 200 = .ok (.aload_n 0, 1) := by decide +kernel
theorem dX4_right_201 : decode cX4_right 201 = .ok (.getfield 77, 3) := by decide +kernel
theorem dX4_right_204 : decode cX4_right 204 = .ok (.iload_n 1, 1) := by decide +kernel
theorem dX4_right_205 : decode cX4_right 205 = .ok (.iload 7, 2) := by decide +kernel
theorem dX4_right_207 : decode cX4_right 207 = .ok (.iastore, 1) := by decide +kernel
theorem dX4_right_208 : decode cX4_right 208 = .ok (.iinc 1 1, 3) := by decide +kernel
theorem dX4_right_211 : decode cX4_right 211 = .ok (.iinc 6 1, 3) := by decide +kernel
theorem dX4_right_214 : decode cX4_right 214 = .ok (.goto (-96), 3) := by decide +kernel
theorem dX4_right_217 : decode cX4_right 217 = .ok (.goto (-159), 3) := by decide +kernel
theorem dX4_right_220 : decode cX4_right 220 = .ok (.iload_n 2, 1) := by decide +kernel
theorem dX4_right_221 : decode cX4_right 221 = .ok (.ireturn, 1) := by decide +kernel
set_option maxRecDepth 20000 in
theorem ggX4_hide_X4_within : GoodIn wsX4_hide wsX4_within := goodIn_r _ [6] (by decide +kernel) (by decide +kernel)
set_option maxRecDepth 20000 in
theorem gX4_hide_X4_within : GoodIn wsX4_hide (va_wsS RX4 96 yX4_within wsX4_within) := goodIn_app (goodIn_of _ (by decide +kernel)) ggX4_hide_X4_within
set_option maxRecDepth 20000 in
theorem ggX4_hide_X4_fail : GoodIn wsX4_hide wsX4_fail := goodIn_r _ [10, 1, 18, 19, 20, 21, 22, 23, 24, 25, 26, 27, 28, 29, 30, 31, 32, 33, 34, 35, 36, 37, 38, 39, 40, 41, 42, 43, 44, 45, 46, 47, 48, 49, 50] (by decide +kernel) (by decide +kernel)
set_option maxRecDepth 20000 in
theorem gX4_hide_X4_fail : GoodIn wsX4_hide (wsV RX4 115 RX4 yX4_fail wsX4_fail) := goodIn_app (goodIn_of _ (by decide +kernel)) ggX4_hide_X4_fail
set_option maxRecDepth 20000 in
theorem ggX4_hide_X4_startBelief : GoodIn wsX4_hide wsX4_startBelief := goodIn_r _ [14, 15, 16, 17, 18, 19, 20, 21, 22, 23, 24, 25, 26, 27, 28, 29, 30, 31, 32, 33, 34, 35, 36, 37, 38, 39, 40, 41, 42, 43, 44, 45, 46, 47, 48, 49, 50] (by decide +kernel) (by decide +kernel)
set_option maxRecDepth 20000 in
theorem gX4_hide_X4_startBelief : GoodIn wsX4_hide (wsV RX4 126 RX4 yX4_startBelief wsX4_startBelief) := goodIn_app (goodIn_of _ (by decide +kernel)) ggX4_hide_X4_startBelief
theorem dX4_hide_0 : decode cX4_hide 0 = .ok (.aload_n 0, 1) := by decide +kernel
theorem dX4_hide_1 : decode cX4_hide 1 = .ok (.iconst 0, 1) := by decide +kernel
theorem dX4_hide_2 : decode cX4_hide 2 = .ok (.putfield 93, 3) := by decide +kernel
theorem dX4_hide_5 : decode cX4_hide 5 = .ok (.iload_n 1, 1) := by decide +kernel
theorem dX4_hide_6 : decode cX4_hide 6 = .ok (.iconst 0, 1) := by decide +kernel
theorem dX4_hide_7 : decode cX4_hide 7 = .ok (.bipush 15, 2) := by decide +kernel
theorem dX4_hide_9 : decode cX4_hide 9 = .ok (.invokestatic 96, 3) := by decide +kernel
theorem dX4_hide_12 : decode cX4_hide 12 = .ok (.ifCond .ne 17, 3) := by decide +kernel
theorem dX4_hide_15 : decode cX4_hide 15 = .ok (.aload_n 0, 1) := by decide +kernel
theorem dX4_hide_16 : decode cX4_hide 16 = .ok (.iconst 1, 1) := by decide +kernel
theorem dX4_hide_17 : decode cX4_hide 17 = .ok (.invokevirtual 115, 3) := by decide +kernel
theorem dX4_hide_20 : decode cX4_hide 20 = .ok (.ifCond .le 7, 3) := by decide +kernel
theorem dX4_hide_23 : decode cX4_hide 23 = .ok (.iconst 1, 1) := by decide +kernel
theorem dX4_hide_24 : decode cX4_hide 24 = .ok (.goto 4, 3) := by decide +kernel
theorem dX4_hide_27 : decode cX4_hide 27 = .ok (.iconst 0, 1) := by decide +kernel
theorem dX4_hide_28 : decode cX4_hide 28 = .ok (.ireturn, 1) := by decide +kernel
theorem dX4_hide_29 : decode cX4_hide 29 = .ok (.aload_n 0, 1) := by decide +kernel
theorem dX4_hide_30 : decode cX4_hide 30 = .ok (.iload_n 1, 1) := by decide +kernel
theorem dX4_hide_31 : decode cX4_hide 31 = .ok (.putfield 80, 3) := by decide +kernel
theorem dX4_hide_34 : decode cX4_hide 34 = .ok (.aload_n 0, 1) := by decide +kernel
theorem dX4_hide_35 : decode cX4_hide 35 = .ok (.invokevirtual 126, 3) := by decide +kernel
theorem dX4_hide_38 : decode cX4_hide 38 = .ok (.iload_n 1, 1) := by decide +kernel
theorem dX4_hide_39 : decode cX4_hide 39 = .ok (.ishr, 1) := by decide +kernel
theorem dX4_hide_40 : decode cX4_hide 40 = .ok (.iconst 1, 1) := by decide +kernel
theorem dX4_hide_41 : decode cX4_hide 41 = .ok (.iand, 1) := by decide +kernel
theorem dX4_hide_42 : decode cX4_hide 42 = .ok (.iconst 1, 1) := by decide +kernel
theorem dX4_hide_43 : decode cX4_hide 43 = .ok (.if_icmp .ne 7, 3) := by decide +kernel
theorem dX4_hide_46 : decode cX4_hide 46 = .ok (.iconst 1, 1) := by decide +kernel
theorem dX4_hide_47 : decode cX4_hide 47 = .ok (.goto 4, 3) := by decide +kernel
theorem dX4_hide_50 : decode cX4_hide 50 = .ok (.iconst 0, 1) := by decide +kernel
theorem dX4_hide_51 : decode cX4_hide 51 = .ok (.ireturn, 1) := by decide +kernel
set_option maxRecDepth 20000 in
theorem ggX4_execute_X4_fail : GoodIn wsX4_execute wsX4_fail := goodIn_r _ [19, 1, 32, 33, 34, 35, 36, 37, 38, 39, 40, 41, 42, 43, 44, 45, 46, 47, 48, 49, 50, 51, 52, 53, 54, 55, 56, 57, 58, 59, 60, 61, 62, 63, 64] (by decide +kernel) (by decide +kernel)
set_option maxRecDepth 20000 in
theorem gX4_execute_X4_fail : GoodIn wsX4_execute (wsV RX4 115 RX4 yX4_fail wsX4_fail) := goodIn_app (goodIn_of _ (by decide +kernel)) ggX4_execute_X4_fail
set_option maxRecDepth 20000 in
theorem ggX4_execute_X4_holds : GoodIn wsX4_execute wsX4_holds := goodIn_r _ [22] (by decide +kernel) (by decide +kernel)
set_option maxRecDepth 20000 in
theorem gX4_execute_X4_holds : GoodIn wsX4_execute (va_wsS RX4 123 yX4_holds wsX4_holds) := goodIn_app (goodIn_of _ (by decide +kernel)) ggX4_execute_X4_holds
set_option maxRecDepth 20000 in
theorem ggX4_execute_X4_next : GoodIn wsX4_execute wsX4_next := goodIn_r _ [26, 27, 28, 29, 30, 31, 20, 21, 18, 22, 32, 33, 34, 35, 36, 37, 38, 39, 40, 41, 42, 43, 44, 45, 46, 47, 48, 49, 50, 51, 52, 53, 54, 55, 56, 57, 58, 59, 60, 61, 62, 63, 64] (by decide +kernel) (by decide +kernel)
set_option maxRecDepth 20000 in
theorem gX4_execute_X4_next : GoodIn wsX4_execute (wsV RX4 130 RX4 yX4_next wsX4_next) := goodIn_app (goodIn_of _ (by decide +kernel)) ggX4_execute_X4_next
theorem dX4_execute_0 : decode cX4_execute 0 = .ok (.aload_n 0, 1) := by decide +kernel
theorem dX4_execute_1 : decode cX4_execute 1 = .ok (.iconst 0, 1) := by decide +kernel
theorem dX4_execute_2 : decode cX4_execute 2 = .ok (.putfield 93, 3) := by decide +kernel
theorem dX4_execute_5 : decode cX4_execute 5 = .ok (.aload_n 0, 1) := by decide +kernel
theorem dX4_execute_6 : decode cX4_execute 6 = .ok (.getfield 109, 3) := by decide +kernel
theorem dX4_execute_9 : decode cX4_execute 9 = .ok (.ifCond .eq 10, 3) := by decide +kernel
theorem dX4_execute_12 : decode cX4_execute 12 = .ok (.aload_n 0, 1) := by decide +kernel
theorem dX4_execute_13 : decode cX4_execute 13 = .ok (.getfield 80, 3) := by decide +kernel
theorem dX4_execute_16 : decode cX4_execute 16 = .ok (.ifCond .ge 17, 3) := by decide +kernel
theorem dX4_execute_19 : decode cX4_execute 19 = .ok (.aload_n 0, 1) := by decide +kernel
theorem dX4_execute_20 : decode cX4_execute 20 = .ok (.iconst 1, 1) := by decide +kernel
theorem dX4_execute_21 : decode cX4_execute 21 = .ok (.invokevirtual 115, 3) := by decide +kernel
theorem dX4_execute_24 : decode cX4_execute 24 = .ok (.ifCond .le 7, 3) := by decide +kernel
theorem dX4_execute_27 : decode cX4_execute 27 = .ok (.iconst 1, 1) := by decide +kernel
theorem dX4_execute_28 : decode cX4_execute 28 = .ok (.goto 4, 3) := by decide +kernel
theorem dX4_execute_31 : decode cX4_execute 31 = .ok (.iconst 0, 1) := by decide +kernel
theorem dX4_execute_32 : decode cX4_execute 32 = .ok (.ireturn, 1) := by decide +kernel
theorem dX4_execute_33 : decode cX4_execute 33 = .ok (.aload_n 0, 1) := by decide +kernel
theorem dX4_execute_34 : decode cX4_execute 34 = .ok (.iconst 0, 1) := by decide +kernel
theorem dX4_execute_35 : decode cX4_execute 35 = .ok (.putfield 112, 3) := by decide +kernel
theorem dX4_execute_38 : decode cX4_execute 38 = .ok (.aload_n 0, 1) := by decide +kernel
theorem dX4_execute_39 : decode cX4_execute 39 = .ok (.getfield 80, 3) := by decide +kernel
theorem dX4_execute_42 : decode cX4_execute 42 = .ok (.istore_n 1, 1) := by decide +kernel
theorem dX4_execute_43 : decode cX4_execute 43 = .ok (.iconst 0, 1) := by decide +kernel
theorem dX4_execute_44 : decode cX4_execute 44 = .ok (.istore_n 2, 1) := by decide +kernel
theorem dX4_execute_45 : decode cX4_execute 45 = .ok (.iload_n 2, 1) := by decide +kernel
theorem dX4_execute_46 : decode cX4_execute 46 = .ok (.ifCond .lt 130, 3) := by decide +kernel
theorem dX4_execute_49 : decode cX4_execute 49 = .ok (.aload_n 0, 1) := by decide +kernel
theorem dX4_execute_50 : decode cX4_execute 50 = .ok (.getfield 44, 3) := by decide +kernel
theorem dX4_execute_53 : decode cX4_execute 53 = .ok (.iload_n 2, 1) := by decide +kernel
theorem dX4_execute_54 : decode cX4_execute 54 = .ok (.iaload, 1) := by decide +kernel
theorem dX4_execute_55 : decode cX4_execute 55 = .ok (.ifCond .lt 121, 3) := by decide +kernel
theorem dX4_execute_58 : decode cX4_execute 58 = .ok (.aload_n 0, 1) := by decide +kernel
theorem dX4_execute_59 : decode cX4_execute 59 = .ok (.getfield 44, 3) := by decide +kernel
theorem dX4_execute_62 : decode cX4_execute 62 = .ok (.iload_n 2, 1) := by decide +kernel
theorem dX4_execute_63 : decode cX4_execute 63 = .ok (.iaload, 1) := by decide +kernel
theorem dX4_execute_64 : decode cX4_execute 64 = .ok (.istore_n 3, 1) := by decide +kernel
theorem dX4_execute_65 : decode cX4_execute 65 = .ok (.aload_n 0, 1) := by decide +kernel
theorem dX4_execute_66 : decode cX4_execute 66 = .ok (.getfield 7, 3) := by decide +kernel
theorem dX4_execute_69 : decode cX4_execute 69 = .ok (.iload_n 3, 1) := by decide +kernel
theorem dX4_execute_70 : decode cX4_execute 70 = .ok (.baload, 1) := by decide +kernel
theorem dX4_execute_71 : decode cX4_execute 71 = .ok (.ifCond .eq 22, 3) := by decide +kernel
theorem dX4_execute_74 : decode cX4_execute 74 = .ok (.aload_n 0, 1) := by decide +kernel
theorem dX4_execute_75 : decode cX4_execute 75 = .ok (.getfield 13, 3) := by decide +kernel
theorem dX4_execute_78 : decode cX4_execute 78 = .ok (.iload_n 3, 1) := by decide +kernel
theorem dX4_execute_79 : decode cX4_execute 79 = .ok (.iaload, 1) := by decide +kernel
theorem dX4_execute_80 : decode cX4_execute 80 = .ok (.aload_n 0, 1) := by decide +kernel
theorem dX4_execute_81 : decode cX4_execute 81 = .ok (.getfield 17, 3) := by decide +kernel
theorem dX4_execute_84 : decode cX4_execute 84 = .ok (.iload_n 3, 1) := by decide +kernel
theorem dX4_execute_85 : decode cX4_execute 85 = .ok (.iaload, 1) := by decide +kernel
theorem dX4_execute_86 : decode cX4_execute 86 = .ok (.iload_n 1, 1) := by decide +kernel
theorem dX4_execute_87 : decode cX4_execute 87 = .ok (.invokestatic 123, 3) := by decide +kernel
theorem dX4_execute_90 : decode cX4_execute 90 = .ok (.ifCond .ne 5, 3) := by decide +kernel
theorem dX4_execute_93 : decode cX4_execute 93 = .ok (.iconst 0, 1) := by decide +kernel
theorem dX4_execute_94 : decode cX4_execute 94 = .ok (.ireturn, 1) := by decide +kernel
theorem dX4_execute_95 : decode cX4_execute 95 = .ok (.aload_n 0, 1) := by decide +kernel
theorem dX4_execute_96 : decode cX4_execute 96 = .ok (.iload_n 3, 1) := by decide +kernel
theorem dX4_execute_97 : decode cX4_execute 97 = .ok (.iload_n 1, 1) := by decide +kernel
theorem dX4_execute_98 : decode cX4_execute 98 = .ok (.invokevirtual 130, 3) := by decide +kernel
theorem dX4_execute_101 : decode cX4_execute 101 = .ok (.istore_n 1, 1) := by decide +kernel
theorem dX4_execute_102 : decode cX4_execute 102 = .ok (.aload_n 0, 1) := by decide +kernel
theorem dX4_execute_103 : decode cX4_execute 103 = .ok (.getfield 84, 3) := by decide +kernel
theorem dX4_execute_106 : decode cX4_execute 106 = .ok (.aload_n 0, 1) := by decide +kernel
theorem dX4_execute_107 : decode cX4_execute 107 = .ok (.getfield 112, 3) := by decide +kernel
theorem dX4_execute_110 : decode cX4_execute 110 = .ok (.iload_n 1, 1) := by decide +kernel
theorem dX4_execute_111 : decode cX4_execute 111 = .ok (.iastore, 1) := by decide +kernel
theorem dX4_execute_112 : decode cX4_execute 112 = .ok (.aload_n 0, 1) := by decide +kernel
theorem dX4_execute_113 : decode cX4_execute 113 = .ok (.dup, 1) := by decide +kernel
theorem dX4_execute_114 : decode cX4_execute 114 = .ok (.getfield 112, 3) := by decide +kernel
theorem dX4_execute_117 : decode cX4_execute 117 = .ok (.iconst 1, 1) := by decide +kernel
theorem dX4_execute_118 : decode cX4_execute 118 = .ok (.iadd, 1) := by decide +kernel
theorem dX4_execute_119 : decode cX4_execute 119 = .ok (.putfield 112, 3) := by decide +kernel
theorem dX4_execute_122 : decode cX4_execute 122 = .ok (.aload_n 0, 1) := by decide +kernel
theorem dX4_execute_123 : decode cX4_execute 123 = .ok (.getfield 20, 3) := by decide +kernel
theorem dX4_execute_126 : decode cX4_execute 126 = .ok (.iload_n 3, 1) := by decide +kernel
theorem dX4_execute_127 : decode cX4_execute 127 = .ok (.iaload, 1) := by decide +kernel
theorem dX4_execute_128 : decode cX4_execute 128 = .ok (.ifCond .lt 21, 3) := by decide +kernel
theorem dX4_execute_131 : decode cX4_execute 131 = .ok (.iload_n 1, 1) := by decide +kernel
theorem dX4_execute_132 : decode cX4_execute 132 = .ok (.aload_n 0, 1) := by decide +kernel
theorem dX4_execute_133 : decode cX4_execute 133 = .ok (.getfield 20, 3) := by decide +kernel
theorem dX4_execute_136 : decode cX4_execute 136 = .ok (.iload_n 3, 1) := by decide +kernel
theorem dX4_execute_137 : decode cX4_execute 137 = .ok (.iaload, 1) := by decide +kernel
theorem dX4_execute_138 : decode cX4_execute 138 = .ok (.ishr, 1) := by decide +kernel
theorem dX4_execute_139 : decode cX4_execute 139 = .ok (.iconst 1, 1) := by decide +kernel
theorem dX4_execute_140 : decode cX4_execute 140 = .ok (.iand, 1) := by decide +kernel
theorem dX4_execute_141 : decode cX4_execute 141 = .ok (.iconst 1, 1) := by decide +kernel
theorem dX4_execute_142 : decode cX4_execute 142 = .ok (.if_icmp .ne 7, 3) := by decide +kernel
theorem dX4_execute_145 : decode cX4_execute 145 = .ok (.iconst 1, 1) := by decide +kernel
theorem dX4_execute_146 : decode cX4_execute 146 = .ok (.goto 4, 3) := by decide +kernel
theorem dX4_execute_149 : decode cX4_execute 149 = .ok (.iconst 0, 1) := by decide +kernel
theorem dX4_execute_150 : decode cX4_execute 150 = .ok (.istore 4, 2) := by decide +kernel
theorem dX4_execute_152 : decode cX4_execute 152 = .ok (.iload 4, 2) := by decide +kernel
theorem dX4_execute_154 : decode cX4_execute 154 = .ok (.ifCond .eq 12, 3) := by decide +kernel
theorem dX4_execute_157 : decode cX4_execute 157 = .ok (.aload_n 0, 1) := by decide +kernel
theorem dX4_execute_158 : decode cX4_execute 158 = .ok (.getfield 50, 3) := by decide +kernel
theorem dX4_execute_161 : decode cX4_execute 161 = .ok (.iload_n 2, 1) := by decide +kernel
theorem dX4_execute_162 : decode cX4_execute 162 = .ok (.iaload, 1) := by decide +kernel
theorem dX4_execute_163 : decode cX4_execute 163 = .ok (.goto 9, 3) := by decide +kernel
theorem dX4_execute_166 : decode cX4_execute 166 = .ok (.aload_n 0, 1) := by decide +kernel
theorem dX4_execute_167 : decode cX4_execute 167 = .ok (.getfield 47, 3) := by decide +kernel
theorem dX4_execute_170 : decode cX4_execute 170 = .ok (.iload_n 2, 1) := by decide +kernel
theorem dX4_execute_171 : decode cX4_execute 171 = .ok (.iaload, 1) := by decide +kernel
theorem dX4_execute_172 : decode cX4_execute 172 = .ok (.istore_n 2, 1) := by decide +kernel
theorem dX4_execute_173 : decode cX4_execute 173 = .ok (.goto (-128), 3) := by decide +kernel
theorem dX4_execute_176 : decode cX4_execute 176 = .ok (.iload_n 2, 1) := by decide +kernel
theorem dX4_execute_177 : decode cX4_execute 177 = .ok (.ifCond .lt 22, 3) := by decide +kernel
theorem dX4_execute_180 : decode cX4_execute 180 = .ok (.aload_n 0, 1) := by decide +kernel
theorem dX4_execute_181 : decode cX4_execute 181 = .ok (.getfield 103, 3) := by decide +kernel
theorem dX4_execute_184 : decode cX4_execute 184 = .ok (.aload_n 0, 1) := by decide +kernel
theorem dX4_execute_185 : decode cX4_execute 185 = .ok (.getfield 106, 3) := by decide +kernel
theorem dX4_execute_188 : decode cX4_execute 188 = .ok (.iload_n 1, 1) := by decide +kernel
theorem dX4_execute_189 : decode cX4_execute 189 = .ok (.invokestatic 123, 3) := by decide +kernel
theorem dX4_execute_192 : decode cX4_execute 192 = .ok (.ifCond .eq 7, 3) := by decide +kernel
theorem dX4_execute_195 : decode cX4_execute 195 = .ok (.iconst 1, 1) := by decide +kernel
theorem dX4_execute_196 : decode cX4_execute 196 = .ok (.goto 4, 3) := by decide +kernel
theorem dX4_execute_199 : decode cX4_execute 199 = .ok (.iconst 0, 1) := by decide +kernel
theorem dX4_execute_200 : decode cX4_execute 200 = .ok (.ireturn, 1) := by decide +kernel
theorem dX4_made_0 : decode cX4_made 0 = .ok (.aload_n 0, 1) := by decide +kernel
theorem dX4_made_1 : decode cX4_made 1 = .ok (.iconst 0, 1) := by decide +kernel
theorem dX4_made_2 : decode cX4_made 2 = .ok (.putfield 93, 3) := by decide +kernel
theorem dX4_made_5 : decode cX4_made 5 = .ok (.aload_n 0, 1) := by decide +kernel
theorem dX4_made_6 : decode cX4_made 6 = .ok (.getfield 112, 3) := by decide +kernel
theorem dX4_made_9 : decode cX4_made 9 = .ok (.ireturn, 1) := by decide +kernel
set_option maxRecDepth 20000 in
theorem ggX4_trace_X4_within : GoodIn wsX4_trace wsX4_within := goodIn_r _ [7] (by decide +kernel) (by decide +kernel)
set_option maxRecDepth 20000 in
theorem gX4_trace_X4_within : GoodIn wsX4_trace (va_wsS RX4 96 yX4_within wsX4_within) := goodIn_app (goodIn_of _ (by decide +kernel)) ggX4_trace_X4_within
set_option maxRecDepth 20000 in
theorem ggX4_trace_X4_fail : GoodIn wsX4_trace wsX4_fail := goodIn_r _ [11, 1, 12, 13, 14, 15, 16, 17, 18, 19, 20, 21, 22, 23, 24, 25, 26, 27, 28, 29, 30, 31, 32, 33, 34, 35, 36, 37, 38, 39, 40, 41, 42, 43, 44] (by decide +kernel) (by decide +kernel)
set_option maxRecDepth 20000 in
theorem gX4_trace_X4_fail : GoodIn wsX4_trace (wsV RX4 115 RX4 yX4_fail wsX4_fail) := goodIn_app (goodIn_of _ (by decide +kernel)) ggX4_trace_X4_fail
theorem dX4_trace_0 : decode cX4_trace 0 = .ok (.aload_n 0, 1) := by decide +kernel
theorem dX4_trace_1 : decode cX4_trace 1 = .ok (.iconst 0, 1) := by decide +kernel
theorem dX4_trace_2 : decode cX4_trace 2 = .ok (.putfield 93, 3) := by decide +kernel
theorem dX4_trace_5 : decode cX4_trace 5 = .ok (.iload_n 1, 1) := by decide +kernel
theorem dX4_trace_6 : decode cX4_trace 6 = .ok (.iconst 0, 1) := by decide +kernel
theorem dX4_trace_7 : decode cX4_trace 7 = .ok (.aload_n 0, 1) := by decide +kernel
theorem dX4_trace_8 : decode cX4_trace 8 = .ok (.getfield 112, 3) := by decide +kernel
theorem dX4_trace_11 : decode cX4_trace 11 = .ok (.iconst 1, 1) := by decide +kernel
theorem dX4_trace_12 : decode cX4_trace 12 = .ok (.isub, 1) := by decide +kernel
theorem dX4_trace_13 : decode cX4_trace 13 = .ok (.invokestatic 96, 3) := by decide +kernel
theorem dX4_trace_16 : decode cX4_trace 16 = .ok (.ifCond .eq 12, 3) := by decide +kernel
theorem dX4_trace_19 : decode cX4_trace 19 = .ok (.aload_n 0, 1) := by decide +kernel
theorem dX4_trace_20 : decode cX4_trace 20 = .ok (.getfield 84, 3) := by decide +kernel
theorem dX4_trace_23 : decode cX4_trace 23 = .ok (.iload_n 1, 1) := by decide +kernel
theorem dX4_trace_24 : decode cX4_trace 24 = .ok (.iaload, 1) := by decide +kernel
theorem dX4_trace_25 : decode cX4_trace 25 = .ok (.goto 8, 3) := by decide +kernel
theorem dX4_trace_28 : decode cX4_trace 28 = .ok (.aload_n 0, 1) := by decide +kernel
theorem dX4_trace_29 : decode cX4_trace 29 = .ok (.iconst 1, 1) := by decide +kernel
theorem dX4_trace_30 : decode cX4_trace 30 = .ok (.invokevirtual 115, 3) := by decide +kernel
theorem dX4_trace_33 : decode cX4_trace 33 = .ok (.ireturn, 1) := by decide +kernel
set_option maxRecDepth 20000 in
theorem ggX4_make_X4_next : GoodIn wsX4_make wsX4_next := goodIn_r _ [8, 9, 10, 11, 12, 13, 14, 15, 7, 16, 17, 18, 19, 20, 21, 22, 23, 24, 25, 26, 27, 28, 29, 30, 31, 32, 33, 34, 35, 36, 37, 38, 39, 40, 41, 42, 43, 44, 45, 46, 47, 48, 49] (by decide +kernel) (by decide +kernel)
set_option maxRecDepth 20000 in
theorem gX4_make_X4_next : GoodIn wsX4_make (wsV RX4 130 RX4 yX4_next wsX4_next) := goodIn_app (goodIn_of _ (by decide +kernel)) ggX4_make_X4_next
theorem dX4_make_0 : decode cX4_make 0 = .ok (.iconst 0, 1) := by decide +kernel
theorem dX4_make_1 : decode cX4_make 1 = .ok (.istore_n 3, 1) := by decide +kernel
theorem dX4_make_2 : decode cX4_make 2 = .ok (.iload_n 3, 1) := by decide +kernel
theorem dX4_make_3 : decode cX4_make 3 = .ok (.bipush 16, 2) := by decide +kernel
theorem dX4_make_5 : decode cX4_make 5 = .ok (.if_icmp .ge 38, 3) := by decide +kernel
theorem dX4_make_8 : decode cX4_make 8 = .ok (.aload_n 0, 1) := by decide +kernel
theorem dX4_make_9 : decode cX4_make 9 = .ok (.getfield 87, 3) := by decide +kernel
theorem dX4_make_12 : decode cX4_make 12 = .ok (.bipush 16, 2) := by decide +kernel
theorem dX4_make_14 : decode cX4_make 14 = .ok (.iload_n 2, 1) := by decide +kernel
theorem dX4_make_15 : decode cX4_make 15 = .ok (.iconst 1, 1) := by decide +kernel
theorem dX4_make_16 : decode cX4_make 16 = .ok (.iadd, 1) := by decide +kernel
theorem dX4_make_17 : decode cX4_make 17 = .ok (.imul, 1) := by decide +kernel
theorem dX4_make_18 : decode cX4_make 18 = .ok (.iload_n 3, 1) := by decide +kernel
theorem dX4_make_19 : decode cX4_make 19 = .ok (.iadd, 1) := by decide +kernel
theorem dX4_make_20 : decode cX4_make 20 = .ok (.aload_n 0, 1) := by decide +kernel
theorem dX4_make_21 : decode cX4_make 21 = .ok (.iload_n 1, 1) := by decide +kernel
theorem dX4_make_22 : decode cX4_make 22 = .ok (.aload_n 0, 1) := by decide +kernel
theorem dX4_make_23 : decode cX4_make 23 = .ok (.getfield 87, 3) := by decide +kernel
theorem dX4_make_26 : decode cX4_make 26 = .ok (.bipush 16, 2) := by decide +kernel
theorem dX4_make_28 : decode cX4_make 28 = .ok (.iload_n 2, 1) := by decide +kernel
theorem dX4_make_29 : decode cX4_make 29 = .ok (.imul, 1) := by decide +kernel
theorem dX4_make_30 : decode cX4_make 30 = .ok (.iload_n 3, 1) := by decide +kernel
theorem dX4_make_31 : decode cX4_make 31 = .ok (.iadd, 1) := by decide +kernel
theorem dX4_make_32 : decode cX4_make 32 = .ok (.iaload, 1) := by decide +kernel
theorem dX4_make_33 : decode cX4_make 33 = .ok (.invokevirtual 130, 3) := by decide +kernel
theorem dX4_make_36 : decode cX4_make 36 = .ok (.iastore, 1) := by decide +kernel
theorem dX4_make_37 : decode cX4_make 37 = .ok (.iinc 3 1, 3) := by decide +kernel
theorem dX4_make_40 : decode cX4_make 40 = .ok (.goto (-38), 3) := by decide +kernel
theorem dX4_make_43 : decode cX4_make 43 = .ok (.iconst 0, 1) := by decide +kernel
theorem dX4_make_44 : decode cX4_make 44 = .ok (.istore_n 3, 1) := by decide +kernel
theorem dX4_make_45 : decode cX4_make 45 = .ok (.iload_n 3, 1) := by decide +kernel
theorem dX4_make_46 : decode cX4_make 46 = .ok (.bipush 16, 2) := by decide +kernel
theorem dX4_make_48 : decode cX4_make 48 = .ok (.if_icmp .ge 103, 3) := by decide +kernel
theorem dX4_make_51 : decode cX4_make 51 = .ok (.aload_n 0, 1) := by decide +kernel
theorem dX4_make_52 : decode cX4_make 52 = .ok (.getfield 20, 3) := by decide +kernel
theorem dX4_make_55 : decode cX4_make 55 = .ok (.iload_n 1, 1) := by decide +kernel
theorem dX4_make_56 : decode cX4_make 56 = .ok (.iaload, 1) := by decide +kernel
theorem dX4_make_57 : decode cX4_make 57 = .ok (.ifCond .lt 94, 3) := by decide +kernel
theorem dX4_make_60 : decode cX4_make 60 = .ok (.iconst 0, 1) := by decide +kernel
theorem dX4_make_61 : decode cX4_make 61 = .ok (.istore 4, 2) := by decide +kernel
theorem dX4_make_63 : decode cX4_make 63 = .ok (.iload 4, 2) := by decide +kernel
theorem dX4_make_65 : decode cX4_make 65 = .ok (.bipush 16, 2) := by decide +kernel
theorem dX4_make_67 : decode cX4_make 67 = .ok (.if_icmp .ge 78, 3) := by decide +kernel
theorem dX4_make_70 : decode cX4_make 70 = .ok (.aload_n 0, 1) := by decide +kernel
theorem dX4_make_71 : decode cX4_make 71 = .ok (.getfield 87, 3) := by decide +kernel
theorem dX4_make_74 : decode cX4_make 74 = .ok (.bipush 16, 2) := by decide +kernel
theorem dX4_make_76 : decode cX4_make 76 = .ok (.iload_n 2, 1) := by decide +kernel
theorem dX4_make_77 : decode cX4_make 77 = .ok (.iconst 1, 1) := by decide +kernel
theorem dX4_make_78 : decode cX4_make 78 = .ok (.iadd, 1) := by decide +kernel
theorem dX4_make_79 : decode cX4_make 79 = .ok (.imul, 1) := by decide +kernel
theorem dX4_make_80 : decode cX4_make 80 = .ok (.iload_n 3, 1) := by decide +kernel
theorem dX4_make_81 : decode cX4_make 81 = .ok (.iadd, 1) := by decide +kernel
theorem dX4_make_82 : decode cX4_make 82 = .ok (.iaload, 1) := by decide +kernel
theorem dX4_make_83 : decode cX4_make 83 = .ok (.aload_n 0, 1) := by decide +kernel
theorem dX4_make_84 : decode cX4_make 84 = .ok (.getfield 20, 3) := by decide +kernel
theorem dX4_make_87 : decode cX4_make 87 = .ok (.iload_n 1, 1) := by decide +kernel
theorem dX4_make_88 : decode cX4_make 88 = .ok (.iaload, 1) := by decide +kernel
theorem dX4_make_89 : decode cX4_make 89 = .ok (.ishr, 1) := by decide +kernel
theorem dX4_make_90 : decode cX4_make 90 = .ok (.iconst 1, 1) := by decide +kernel
theorem dX4_make_91 : decode cX4_make 91 = .ok (.iand, 1) := by decide +kernel
theorem dX4_make_92 : decode cX4_make 92 = .ok (.istore 5, 2) := by decide +kernel
theorem dX4_make_94 : decode cX4_make 94 = .ok (.aload_n 0, 1) := by decide +kernel
theorem dX4_make_95 : decode cX4_make 95 = .ok (.getfield 87, 3) := by decide +kernel
theorem dX4_make_98 : decode cX4_make 98 = .ok (.bipush 16, 2) := by decide +kernel
theorem dX4_make_100 : decode cX4_make 100 = .ok (.iload_n 2, 1) := by decide +kernel
theorem dX4_make_101 : decode cX4_make 101 = .ok (.iconst 1, 1) := by decide +kernel
theorem dX4_make_102 : decode cX4_make 102 = .ok (.iadd, 1) := by decide +kernel
theorem dX4_make_103 : decode cX4_make 103 = .ok (.imul, 1) := by decide +kernel
theorem dX4_make_104 : decode cX4_make 104 = .ok (.iload 4, 2) := by decide +kernel
theorem dX4_make_106 : decode cX4_make 106 = .ok (.iadd, 1) := by decide +kernel
theorem dX4_make_107 : decode cX4_make 107 = .ok (.iaload, 1) := by decide +kernel
theorem dX4_make_108 : decode cX4_make 108 = .ok (.aload_n 0, 1) := by decide +kernel
theorem dX4_make_109 : decode cX4_make 109 = .ok (.getfield 20, 3) := by decide +kernel
theorem dX4_make_112 : decode cX4_make 112 = .ok (.iload_n 1, 1) := by decide +kernel
theorem dX4_make_113 : decode cX4_make 113 = .ok (.iaload, 1) := by decide +kernel
theorem dX4_make_114 : decode cX4_make 114 = .ok (.ishr, 1) := by decide +kernel
theorem dX4_make_115 : decode cX4_make 115 = .ok (.iconst 1, 1) := by decide +kernel
theorem dX4_make_116 : decode cX4_make 116 = .ok (.iand, 1) := by decide +kernel
theorem dX4_make_117 : decode cX4_make 117 = .ok (.istore 6, 2) := by decide +kernel
theorem dX4_make_119 : decode cX4_make 119 = .ok (.iload 5, 2) := by decide +kernel
theorem dX4_make_121 : decode cX4_make 121 = .ok (.iload 6, 2) := by decide +kernel
theorem dX4_make_123 : decode cX4_make 123 = .ok (.if_icmp .eq 16, 3) := by decide +kernel
theorem dX4_make_126 : decode cX4_make 126 = .ok (.aload_n 0, 1) := by decide +kernel
theorem dX4_make_127 : decode cX4_make 127 = .ok (.getfield 90, 3) := by decide +kernel
theorem dX4_make_130 : decode cX4_make 130 = .ok (.iload_n 3, 1) := by decide +kernel
theorem dX4_make_131 : decode cX4_make 131 = .ok (.dup2, 1) := by decide +kernel
theorem dX4_make_132 : decode cX4_make 132 = .ok (.iaload, 1) := by decide +kernel
theorem dX4_make_133 : decode cX4_make 133 = .ok (.iconst 1, 1) := by decide +kernel
theorem dX4_make_134 : decode cX4_make 134 = .ok (.iload 4, 2) := by decide +kernel
theorem dX4_make_136 : decode cX4_make 136 = .ok (.ishl, 1) := by decide +kernel
theorem dX4_make_137 : decode cX4_make 137 = .ok (.ior, 1) := by decide +kernel
theorem dX4_make_138 : decode cX4_make 138 = .ok (.iastore, 1) := by decide +kernel
theorem dX4_make_139 : decode cX4_make 139 = .ok (.iinc 4 1, 3) := by decide +kernel
theorem dX4_make_142 : decode cX4_make 142 = .ok (.goto (-79), 3) := by decide +kernel
theorem dX4_make_145 : decode cX4_make 145 = .ok (.iinc 3 1, 3) := by decide +kernel
theorem dX4_make_148 : decode cX4_make 148 = .ok (.goto (-103), 3) := by decide +kernel
theorem dX4_make_151 : decode cX4_make 151 = .ok (.return_, 1) := by decide +kernel
theorem dX4_beliefAt_0 : decode cX4_beliefAt 0 = .ok (.iconst 0, 1) := by decide +kernel
theorem dX4_beliefAt_1 : decode cX4_beliefAt 1 = .ok (.istore_n 3, 1) := by decide +kernel
theorem dX4_beliefAt_2 : decode cX4_beliefAt 2 = .ok (.iconst 0, 1) := by decide +kernel
theorem dX4_beliefAt_3 : decode cX4_beliefAt 3 = .ok (.istore 4, 2) := by decide +kernel
theorem dX4_beliefAt_5 : decode cX4_beliefAt 5 = .ok (.iload 4, 2) := by decide +kernel
theorem dX4_beliefAt_7 : decode cX4_beliefAt 7 = .ok (.bipush 16, 2) := by decide +kernel
theorem dX4_beliefAt_9 : decode cX4_beliefAt 9 = .ok (.if_icmp .ge 40, 3) := by decide +kernel
theorem dX4_beliefAt_12 : decode cX4_beliefAt 12 = .ok (.iload_n 3, 1) := by decide +kernel
theorem dX4_beliefAt_13 : decode cX4_beliefAt 13 = .ok (.iload_n 1, 1) := by decide +kernel
theorem dX4_beliefAt_14 : decode cX4_beliefAt 14 = .ok (.iload 4, 2) := by decide +kernel
theorem dX4_beliefAt_16 : decode cX4_beliefAt 16 = .ok (.ishr, 1) := by decide +kernel
theorem dX4_beliefAt_17 : decode cX4_beliefAt 17 = .ok (.iconst 1, 1) := by decide +kernel
theorem dX4_beliefAt_18 : decode cX4_beliefAt 18 = .ok (.iand, 1) := by decide +kernel
theorem dX4_beliefAt_19 : decode cX4_beliefAt 19 = .ok (.iconst 1, 1) := by decide +kernel
theorem dX4_beliefAt_20 : decode cX4_beliefAt 20 = .ok (.if_icmp .ne 20, 3) := by decide +kernel
theorem dX4_beliefAt_23 : decode cX4_beliefAt 23 = .ok (.iconst 1, 1) := by decide +kernel
theorem dX4_beliefAt_24 : decode cX4_beliefAt 24 = .ok (.aload_n 0, 1) := by decide +kernel
theorem dX4_beliefAt_25 : decode cX4_beliefAt 25 = .ok (.getfield 87, 3) := by decide +kernel
theorem dX4_beliefAt_28 : decode cX4_beliefAt 28 = .ok (.bipush 16, 2) := by decide +kernel
theorem dX4_beliefAt_30 : decode cX4_beliefAt 30 = .ok (.iload_n 2, 1) := by decide +kernel
theorem dX4_beliefAt_31 : decode cX4_beliefAt 31 = .ok (.imul, 1) := by decide +kernel
theorem dX4_beliefAt_32 : decode cX4_beliefAt 32 = .ok (.iload 4, 2) := by decide +kernel
theorem dX4_beliefAt_34 : decode cX4_beliefAt 34 = .ok (.iadd, 1) := by decide +kernel
theorem dX4_beliefAt_35 : decode cX4_beliefAt 35 = .ok (.iaload, 1) := by decide +kernel
theorem dX4_beliefAt_36 : decode cX4_beliefAt 36 = .ok (.ishl, 1) := by decide +kernel
theorem dX4_beliefAt_37 : decode cX4_beliefAt 37 = .ok (.goto 4, 3) := by decide +kernel
theorem dX4_beliefAt_40 : decode cX4_beliefAt 40 = .ok (.iconst 0, 1) := by decide +kernel
theorem dX4_beliefAt_41 : decode cX4_beliefAt 41 = .ok (.ior, 1) := by decide +kernel
theorem dX4_beliefAt_42 : decode cX4_beliefAt 42 = .ok (.istore_n 3, 1) := by decide +kernel
theorem dX4_beliefAt_43 : decode cX4_beliefAt 43 = .ok (.iinc 4 1, 3) := by decide +kernel
theorem dX4_beliefAt_46 : decode cX4_beliefAt 46 = .ok (.goto (-41), 3) := by decide +kernel
theorem dX4_beliefAt_49 : decode cX4_beliefAt 49 = .ok (.iload_n 3, 1) := by decide +kernel
theorem dX4_beliefAt_50 : decode cX4_beliefAt 50 = .ok (.ireturn, 1) := by decide +kernel
set_option maxRecDepth 20000 in
theorem ggX4_twins_X4_startBelief : GoodIn wsX4_twins wsX4_startBelief := goodIn_r _ [8, 9, 10, 11, 44, 45, 46, 47, 48, 49, 50, 51, 52, 53, 54, 55, 56, 57, 58, 59, 60, 61, 62, 63, 64, 65, 66, 67, 68, 69, 70, 71, 72, 73, 74, 75, 76] (by decide +kernel) (by decide +kernel)
set_option maxRecDepth 20000 in
theorem gX4_twins_X4_startBelief : GoodIn wsX4_twins (wsV RX4 126 RX4 yX4_startBelief wsX4_startBelief) := goodIn_app (goodIn_of _ (by decide +kernel)) ggX4_twins_X4_startBelief
set_option maxRecDepth 20000 in
theorem ggX4_twins_X4_beliefAt : GoodIn wsX4_twins wsX4_beliefAt := goodIn_r _ [15, 3, 44, 45, 46, 47, 48, 49, 50, 51, 52, 53, 54, 55, 56, 57, 58, 59, 60, 61, 62, 63, 64, 65, 66, 67, 68, 69, 70, 71, 72, 73, 74, 75, 76] (by decide +kernel) (by decide +kernel)
set_option maxRecDepth 20000 in
theorem gX4_twins_X4_beliefAt : GoodIn wsX4_twins (wsV RX4 178 RX4 yX4_beliefAt wsX4_beliefAt) := goodIn_app (goodIn_of _ (by decide +kernel)) ggX4_twins_X4_beliefAt
set_option maxRecDepth 20000 in
theorem ggX4_twins_X4_usable : GoodIn wsX4_twins wsX4_usable := goodIn_r _ [19, 20, 21, 22, 23, 24, 7, 25, 44, 45, 46, 47, 48, 49, 50, 51, 52, 53, 54, 55, 56, 57, 58, 59, 60, 61, 62, 63, 64, 65, 66, 67, 68, 69, 70, 71, 72, 73, 74, 75, 76] (by decide +kernel) (by decide +kernel)
set_option maxRecDepth 20000 in
theorem gX4_twins_X4_usable : GoodIn wsX4_twins (wsV RX4 138 RX4 yX4_usable wsX4_usable) := goodIn_app (goodIn_of _ (by decide +kernel)) ggX4_twins_X4_usable
set_option maxRecDepth 20000 in
theorem ggX4_twins_X4_make : GoodIn wsX4_twins wsX4_make := goodIn_r _ [29, 3, 30, 2, 31, 32, 33, 7, 34, 35, 36, 37, 38, 39, 23, 24, 25, 44, 45, 46, 47, 48, 49, 50, 51, 52, 53, 54, 55, 56, 57, 58, 59, 60, 61, 62, 63, 64, 65, 66, 67, 68, 69, 70, 71, 72, 73, 74, 75, 76] (by decide +kernel) (by decide +kernel)
set_option maxRecDepth 20000 in
theorem gX4_twins_X4_make : GoodIn wsX4_twins (wsV RX4 181 RX4 yX4_make wsX4_make) := goodIn_app (goodIn_of _ (by decide +kernel)) ggX4_twins_X4_make
set_option maxRecDepth 20000 in
theorem ggX4_twins_X4_fail : GoodIn wsX4_twins wsX4_fail := goodIn_r _ [43, 1, 44, 45, 46, 47, 48, 49, 50, 51, 52, 53, 54, 55, 56, 57, 58, 59, 60, 61, 62, 63, 64, 65, 66, 67, 68, 69, 70, 71, 72, 73, 74, 75, 76] (by decide +kernel) (by decide +kernel)
set_option maxRecDepth 20000 in
theorem gX4_twins_X4_fail : GoodIn wsX4_twins (wsV RX4 115 RX4 yX4_fail wsX4_fail) := goodIn_app (goodIn_of _ (by decide +kernel)) ggX4_twins_X4_fail
theorem dX4_twins_0 : decode cX4_twins 0 = .ok (.aload_n 0, 1) := by decide +kernel
theorem dX4_twins_1 : decode cX4_twins 1 = .ok (.iconst 0, 1) := by decide +kernel
theorem dX4_twins_2 : decode cX4_twins 2 = .ok (.putfield 93, 3) := by decide +kernel
theorem dX4_twins_5 : decode cX4_twins 5 = .ok (.aload_n 0, 1) := by decide +kernel
theorem dX4_twins_6 : decode cX4_twins 6 = .ok (.invokevirtual 126, 3) := by decide +kernel
theorem dX4_twins_9 : decode cX4_twins 9 = .ok (.istore_n 1, 1) := by decide +kernel
theorem dX4_twins_10 : decode cX4_twins 10 = .ok (.iconst 0, 1) := by decide +kernel
theorem dX4_twins_11 : decode cX4_twins 11 = .ok (.istore_n 2, 1) := by decide +kernel
theorem dX4_twins_12 : decode cX4_twins 12 = .ok (.iload_n 2, 1) := by decide +kernel
theorem dX4_twins_13 : decode cX4_twins 13 = .ok (.bipush 16, 2) := by decide +kernel
theorem dX4_twins_15 : decode cX4_twins 15 = .ok (.if_icmp .ge 23, 3) := by decide +kernel
theorem dX4_twins_18 : decode cX4_twins 18 = .ok (.aload_n 0, 1) := by decide +kernel
theorem dX4_twins_19 : decode cX4_twins 19 = .ok (.getfield 90, 3) := by decide +kernel
theorem dX4_twins_22 : decode cX4_twins 22 = .ok (.iload_n 2, 1) := by decide +kernel
theorem dX4_twins_23 : decode cX4_twins 23 = .ok (.iconst 0, 1) := by decide +kernel
theorem dX4_twins_24 : decode cX4_twins 24 = .ok (.iastore, 1) := by decide +kernel
theorem dX4_twins_25 : decode cX4_twins 25 = .ok (.aload_n 0, 1) := by decide +kernel
theorem dX4_twins_26 : decode cX4_twins 26 = .ok (.getfield 87, 3) := by decide +kernel
theorem dX4_twins_29 : decode cX4_twins 29 = .ok (.iload_n 2, 1) := by decide +kernel
theorem dX4_twins_30 : decode cX4_twins 30 = .ok (.iload_n 2, 1) := by decide +kernel
theorem dX4_twins_31 : decode cX4_twins 31 = .ok (.iastore, 1) := by decide +kernel
theorem dX4_twins_32 : decode cX4_twins 32 = .ok (.iinc 2 1, 3) := by decide +kernel
theorem dX4_twins_35 : decode cX4_twins 35 = .ok (.goto (-23), 3) := by decide +kernel
theorem dX4_twins_38 : decode cX4_twins 38 = .ok (.iconst 0, 1) := by decide +kernel
theorem dX4_twins_39 : decode cX4_twins 39 = .ok (.istore_n 2, 1) := by decide +kernel
theorem dX4_twins_40 : decode cX4_twins 40 = .ok (.iload_n 2, 1) := by decide +kernel
theorem dX4_twins_41 : decode cX4_twins 41 = .ok (.sipush 729, 3) := by decide +kernel
theorem dX4_twins_44 : decode cX4_twins 44 = .ok (.if_icmp .ge 105, 3) := by decide +kernel
theorem dX4_twins_47 : decode cX4_twins 47 = .ok (.iconst 1, 1) := by decide +kernel
theorem dX4_twins_48 : decode cX4_twins 48 = .ok (.istore_n 3, 1) := by decide +kernel
theorem dX4_twins_49 : decode cX4_twins 49 = .ok (.iconst 0, 1) := by decide +kernel
theorem dX4_twins_50 : decode cX4_twins 50 = .ok (.istore 4, 2) := by decide +kernel
theorem dX4_twins_52 : decode cX4_twins 52 = .ok (.iload 4, 2) := by decide +kernel
theorem dX4_twins_54 : decode cX4_twins 54 = .ok (.iconst 3, 1) := by decide +kernel
theorem dX4_twins_55 : decode cX4_twins 55 = .ok (.if_icmp .ge 88, 3) := by decide +kernel
theorem dX4_twins_58 : decode cX4_twins 58 = .ok (.iload_n 3, 1) := by decide +kernel
theorem dX4_twins_59 : decode cX4_twins 59 = .ok (.ifCond .eq 84, 3) := by decide +kernel
theorem dX4_twins_62 : decode cX4_twins 62 = .ok (.iload 4, 2) := by decide +kernel
theorem dX4_twins_64 : decode cX4_twins 64 = .ok (.ifCond .ne 10, 3) := by decide +kernel
theorem dX4_twins_67 : decode cX4_twins 67 = .ok (.iload_n 2, 1) := by decide +kernel
theorem dX4_twins_68 : decode cX4_twins 68 = .ok (.bipush 81, 2) := by decide +kernel
theorem dX4_twins_70 : decode cX4_twins 70 = .ok (.idiv, 1) := by decide +kernel
theorem dX4_twins_71 : decode cX4_twins 71 = .ok (.goto 23, 3) := by decide +kernel
theorem dX4_twins_74 : decode cX4_twins 74 = .ok (.iload 4, 2) := by decide +kernel
theorem dX4_twins_76 : decode cX4_twins 76 = .ok (.iconst 1, 1) := by decide +kernel
theorem dX4_twins_77 : decode cX4_twins 77 = .ok (.if_icmp .ne 13, 3) := by decide +kernel
theorem dX4_twins_80 : decode cX4_twins 80 = .ok (.iload_n 2, 1) := by decide +kernel
theorem dX4_twins_81 : decode cX4_twins 81 = .ok (.bipush 9, 2) := by decide +kernel
theorem dX4_twins_83 : decode cX4_twins 83 = .ok (.idiv, 1) := by decide +kernel
theorem dX4_twins_84 : decode cX4_twins 84 = .ok (.bipush 9, 2) := by decide +kernel
theorem dX4_twins_86 : decode cX4_twins 86 = .ok (.irem, 1) := by decide +kernel
theorem dX4_twins_87 : decode cX4_twins 87 = .ok (.goto 7, 3) := by decide +kernel
theorem dX4_twins_90 : decode cX4_twins 90 = .ok (.iload_n 2, 1) := by decide +kernel
theorem dX4_twins_91 : decode cX4_twins 91 = .ok (.bipush 9, 2) := by decide +kernel
theorem dX4_twins_93 : decode cX4_twins 93 = .ok (.irem, 1) := by decide +kernel
theorem dX4_twins_94 : decode cX4_twins 94 = .ok (.istore 5, 2) := by decide +kernel
theorem dX4_twins_96 : decode cX4_twins 96 = .ok (.iload 5, 2) := by decide +kernel
theorem dX4_twins_98 : decode cX4_twins 98 = .ok (.bipush 8, 2) := by decide +kernel
theorem dX4_twins_100 : decode cX4_twins 100 = .ok (.if_icmp .ge 23, 3) := by decide +kernel
theorem dX4_twins_103 : decode cX4_twins 103 = .ok (.aload_n 0, 1) := by decide +kernel
theorem dX4_twins_104 : decode cX4_twins 104 = .ok (.iload 5, 2) := by decide +kernel
theorem dX4_twins_106 : decode cX4_twins 106 = .ok (.aload_n 0, 1) := by decide +kernel
theorem dX4_twins_107 : decode cX4_twins 107 = .ok (.iload_n 1, 1) := by decide +kernel
theorem dX4_twins_108 : decode cX4_twins 108 = .ok (.iload 4, 2) := by decide +kernel
theorem dX4_twins_110 : decode cX4_twins 110 = .ok (.invokevirtual 178, 3) := by decide +kernel
theorem dX4_twins_113 : decode cX4_twins 113 = .ok (.invokevirtual 138, 3) := by decide +kernel
theorem dX4_twins_116 : decode cX4_twins 116 = .ok (.ifCond .eq 7, 3) := by decide +kernel
theorem dX4_twins_119 : decode cX4_twins 119 = .ok (.iconst 1, 1) := by decide +kernel
theorem dX4_twins_120 : decode cX4_twins 120 = .ok (.goto 4, 3) := by decide +kernel
theorem dX4_twins_123 : decode cX4_twins 123 = .ok (.iconst 0, 1) := by decide +kernel
theorem dX4_twins_124 : decode cX4_twins 124 = .ok (.istore_n 3, 1) := by decide +kernel
theorem dX4_twins_125 : decode cX4_twins 125 = .ok (.iload_n 3, 1) := by decide +kernel
theorem dX4_twins_126 : decode cX4_twins 126 = .ok (.ifCond .eq 11, 3) := by decide +kernel
theorem dX4_twins_129 : decode cX4_twins 129 = .ok (.aload_n 0, 1) := by decide +kernel
theorem dX4_twins_130 : decode cX4_twins 130 = .ok (.iload 5, 2) := by decide +kernel
theorem dX4_twins_132 : decode cX4_twins 132 = .ok (.iload 4, 2) := by decide +kernel
theorem dX4_twins_134 : decode cX4_twins 134 = .ok (.invokevirtual 181, 3) := by decide +kernel
theorem dX4_twins_137 : decode cX4_twins 137 = .ok (.iinc 4 1, 3) := by decide +kernel
theorem dX4_twins_140 : decode cX4_twins 140 = .ok (.goto (-88), 3) := by decide +kernel
theorem dX4_twins_143 : decode cX4_twins 143 = .ok (.iinc 2 1, 3) := by decide +kernel
theorem dX4_twins_146 : decode cX4_twins 146 = .ok (.goto (-106), 3) := by decide +kernel
theorem dX4_twins_149 : decode cX4_twins 149 = .ok (.iconst 0, 1) := by decide +kernel
theorem dX4_twins_150 : decode cX4_twins 150 = .ok (.istore_n 2, 1) := by decide +kernel
theorem dX4_twins_151 : decode cX4_twins 151 = .ok (.iload_n 2, 1) := by decide +kernel
theorem dX4_twins_152 : decode cX4_twins 152 = .ok (.bipush 16, 2) := by decide +kernel
theorem dX4_twins_154 : decode cX4_twins 154 = .ok (.if_icmp .ge 63, 3) := by decide +kernel
theorem dX4_twins_157 : decode cX4_twins 157 = .ok (.iload_n 2, 1) := by decide +kernel
theorem dX4_twins_158 : decode cX4_twins 158 = .ok (.iconst 1, 1) := by decide +kernel
theorem dX4_twins_159 : decode cX4_twins 159 = .ok (.iadd, 1) := by decide +kernel
theorem dX4_twins_160 : decode cX4_twins 160 = .ok (.istore_n 3, 1) := by decide +kernel
theorem dX4_twins_161 : decode cX4_twins 161 = .ok (.iload_n 3, 1) := by decide +kernel
theorem dX4_twins_162 : decode cX4_twins 162 = .ok (.bipush 16, 2) := by decide +kernel
theorem dX4_twins_164 : decode cX4_twins 164 = .ok (.if_icmp .ge 47, 3) := by decide +kernel
theorem dX4_twins_167 : decode cX4_twins 167 = .ok (.iload_n 1, 1) := by decide +kernel
theorem dX4_twins_168 : decode cX4_twins 168 = .ok (.iload_n 2, 1) := by decide +kernel
theorem dX4_twins_169 : decode cX4_twins 169 = .ok (.ishr, 1) := by decide +kernel
theorem dX4_twins_170 : decode cX4_twins 170 = .ok (.iconst 1, 1) := by decide +kernel
theorem dX4_twins_171 : decode cX4_twins 171 = .ok (.iand, 1) := by decide +kernel
theorem dX4_twins_172 : decode cX4_twins 172 = .ok (.iconst 1, 1) := by decide +kernel
theorem dX4_twins_173 : decode cX4_twins 173 = .ok (.if_icmp .ne 32, 3) := by decide +kernel
theorem dX4_twins_176 : decode cX4_twins 176 = .ok (.iload_n 1, 1) := by decide +kernel
theorem dX4_twins_177 : decode cX4_twins 177 = .ok (.iload_n 3, 1) := by decide +kernel
theorem dX4_twins_178 : decode cX4_twins 178 = .ok (.ishr, 1) := by decide +kernel
theorem dX4_twins_179 : decode cX4_twins 179 = .ok (.iconst 1, 1) := by decide +kernel
theorem dX4_twins_180 : decode cX4_twins 180 = .ok (.iand, 1) := by decide +kernel
theorem dX4_twins_181 : decode cX4_twins 181 = .ok (.iconst 1, 1) := by decide +kernel
theorem dX4_twins_182 : decode cX4_twins 182 = .ok (.if_icmp .ne 23, 3) := by decide +kernel
theorem dX4_twins_185 : decode cX4_twins 185 = .ok (.aload_n 0, 1) := by decide +kernel
theorem dX4_twins_186 : decode cX4_twins 186 = .ok (.getfield 90, 3) := by decide +kernel
theorem dX4_twins_189 : decode cX4_twins 189 = .ok (.iload_n 2, 1) := by decide +kernel
theorem dX4_twins_190 : decode cX4_twins 190 = .ok (.iaload, 1) := by decide +kernel
theorem dX4_twins_191 : decode cX4_twins 191 = .ok (.iload_n 3, 1) := by decide +kernel
theorem dX4_twins_192 : decode cX4_twins 192 = .ok (.ishr, 1) := by decide +kernel
theorem dX4_twins_193 : decode cX4_twins 193 = .ok (.iconst 1, 1) := by decide +kernel
theorem dX4_twins_194 : decode cX4_twins 194 = .ok (.iand, 1) := by decide +kernel
theorem dX4_twins_195 : decode cX4_twins 195 = .ok (.ifCond .ne 10, 3) := by decide +kernel
theorem dX4_twins_198 : decode cX4_twins 198 = .ok (.bipush 16, 2) := by decide +kernel
theorem dX4_twins_200 : decode cX4_twins 200 = .ok (.iload_n 2, 1) := by decide +kernel
theorem dX4_twins_201 : decode cX4_twins 201 = .ok (.imul, 1) := by decide +kernel
theorem dX4_twins_202 : decode cX4_twins 202 = .ok (.iload_n 3, 1) := by decide +kernel
theorem dX4_twins_203 : decode cX4_twins 203 = .ok (.iadd, 1) := by decide +kernel
theorem dX4_twins_204 : decode cX4_twins 204 = .ok (.ireturn, 1) := by decide +kernel
theorem dX4_twins_205 : decode cX4_twins 205 = .ok (.iinc 3 1, 3) := by decide +kernel
theorem dX4_twins_208 : decode cX4_twins 208 = .ok (.goto (-47), 3) := by decide +kernel
theorem dX4_twins_211 : decode cX4_twins 211 = .ok (.iinc 2 1, 3) := by decide +kernel
theorem dX4_twins_214 : decode cX4_twins 214 = .ok (.goto (-63), 3) := by decide +kernel
theorem dX4_twins_217 : decode cX4_twins 217 = .ok (.aload_n 0, 1) := by decide +kernel
theorem dX4_twins_218 : decode cX4_twins 218 = .ok (.iconst 1, 1) := by decide +kernel
theorem dX4_twins_219 : decode cX4_twins 219 = .ok (.invokevirtual 115, 3) := by decide +kernel
theorem dX4_twins_222 : decode cX4_twins 222 = .ok (.ireturn, 1) := by decide +kernel
theorem dJ6_bitCount_0f7a4_0 : decode cJ6_bitCount_0f7a4 0 = .ok (.iload_n 0, 1) := by decide +kernel
theorem dJ6_bitCount_0f7a4_1 : decode cJ6_bitCount_0f7a4 1 = .ok (.iload_n 0, 1) := by decide +kernel
theorem dJ6_bitCount_0f7a4_2 : decode cJ6_bitCount_0f7a4 2 = .ok (.iconst 1, 1) := by decide +kernel
theorem dJ6_bitCount_0f7a4_3 : decode cJ6_bitCount_0f7a4 3 = .ok (.iushr, 1) := by decide +kernel
theorem dJ6_bitCount_0f7a4_4 : decode cJ6_bitCount_0f7a4 4 = .ok (.ldc_w 265, 3) := by decide +kernel
theorem dJ6_bitCount_0f7a4_7 : decode cJ6_bitCount_0f7a4 7 = .ok (.iand, 1) := by decide +kernel
theorem dJ6_bitCount_0f7a4_8 : decode cJ6_bitCount_0f7a4 8 = .ok (.isub, 1) := by decide +kernel
theorem dJ6_bitCount_0f7a4_9 : decode cJ6_bitCount_0f7a4 9 = .ok (.istore_n 0, 1) := by decide +kernel
theorem dJ6_bitCount_0f7a4_10 : decode cJ6_bitCount_0f7a4 10 = .ok (.iload_n 0, 1) := by decide +kernel
theorem dJ6_bitCount_0f7a4_11 : decode cJ6_bitCount_0f7a4 11 = .ok (.ldc_w 266, 3) := by decide +kernel
theorem dJ6_bitCount_0f7a4_14 : decode cJ6_bitCount_0f7a4 14 = .ok (.iand, 1) := by decide +kernel
theorem dJ6_bitCount_0f7a4_15 : decode cJ6_bitCount_0f7a4 15 = .ok (.iload_n 0, 1) := by decide +kernel
theorem dJ6_bitCount_0f7a4_16 : decode cJ6_bitCount_0f7a4 16 = .ok (.iconst 2, 1) := by decide +kernel
theorem dJ6_bitCount_0f7a4_17 : decode cJ6_bitCount_0f7a4 17 = .ok (.iushr, 1) := by decide +kernel
theorem dJ6_bitCount_0f7a4_18 : decode cJ6_bitCount_0f7a4 18 = .ok (.ldc_w 266, 3) := by decide +kernel
theorem dJ6_bitCount_0f7a4_21 : decode cJ6_bitCount_0f7a4 21 = .ok (.iand, 1) := by decide +kernel
theorem dJ6_bitCount_0f7a4_22 : decode cJ6_bitCount_0f7a4 22 = .ok (.iadd, 1) := by decide +kernel
theorem dJ6_bitCount_0f7a4_23 : decode cJ6_bitCount_0f7a4 23 = .ok (.istore_n 0, 1) := by decide +kernel
theorem dJ6_bitCount_0f7a4_24 : decode cJ6_bitCount_0f7a4 24 = .ok (.iload_n 0, 1) := by decide +kernel
theorem dJ6_bitCount_0f7a4_25 : decode cJ6_bitCount_0f7a4 25 = .ok (.iload_n 0, 1) := by decide +kernel
theorem dJ6_bitCount_0f7a4_26 : decode cJ6_bitCount_0f7a4 26 = .ok (.iconst 4, 1) := by decide +kernel
theorem dJ6_bitCount_0f7a4_27 : decode cJ6_bitCount_0f7a4 27 = .ok (.iushr, 1) := by decide +kernel
theorem dJ6_bitCount_0f7a4_28 : decode cJ6_bitCount_0f7a4 28 = .ok (.iadd, 1) := by decide +kernel
theorem dJ6_bitCount_0f7a4_29 : decode cJ6_bitCount_0f7a4 29 = .ok (.ldc_w 267, 3) := by decide +kernel
theorem dJ6_bitCount_0f7a4_32 : decode cJ6_bitCount_0f7a4 32 = .ok (.iand, 1) := by decide +kernel
theorem dJ6_bitCount_0f7a4_33 : decode cJ6_bitCount_0f7a4 33 = .ok (.istore_n 0, 1) := by decide +kernel
theorem dJ6_bitCount_0f7a4_34 : decode cJ6_bitCount_0f7a4 34 = .ok (.iload_n 0, 1) := by decide +kernel
theorem dJ6_bitCount_0f7a4_35 : decode cJ6_bitCount_0f7a4 35 = .ok (.iload_n 0, 1) := by decide +kernel
theorem dJ6_bitCount_0f7a4_36 : decode cJ6_bitCount_0f7a4 36 = .ok (.bipush 8, 2) := by decide +kernel
theorem dJ6_bitCount_0f7a4_38 : decode cJ6_bitCount_0f7a4 38 = .ok (.iushr, 1) := by decide +kernel
theorem dJ6_bitCount_0f7a4_39 : decode cJ6_bitCount_0f7a4 39 = .ok (.iadd, 1) := by decide +kernel
theorem dJ6_bitCount_0f7a4_40 : decode cJ6_bitCount_0f7a4 40 = .ok (.istore_n 0, 1) := by decide +kernel
theorem dJ6_bitCount_0f7a4_41 : decode cJ6_bitCount_0f7a4 41 = .ok (.iload_n 0, 1) := by decide +kernel
theorem dJ6_bitCount_0f7a4_42 : decode cJ6_bitCount_0f7a4 42 = .ok (.iload_n 0, 1) := by decide +kernel
theorem dJ6_bitCount_0f7a4_43 : decode cJ6_bitCount_0f7a4 43 = .ok (.bipush 16, 2) := by decide +kernel
theorem dJ6_bitCount_0f7a4_45 : decode cJ6_bitCount_0f7a4 45 = .ok (.iushr, 1) := by decide +kernel
theorem dJ6_bitCount_0f7a4_46 : decode cJ6_bitCount_0f7a4 46 = .ok (.iadd, 1) := by decide +kernel
theorem dJ6_bitCount_0f7a4_47 : decode cJ6_bitCount_0f7a4 47 = .ok (.istore_n 0, 1) := by decide +kernel
theorem dJ6_bitCount_0f7a4_48 : decode cJ6_bitCount_0f7a4 48 = .ok (.iload_n 0, 1) := by decide +kernel
theorem dJ6_bitCount_0f7a4_49 : decode cJ6_bitCount_0f7a4 49 = .ok (.bipush 63, 2) := by decide +kernel
theorem dJ6_bitCount_0f7a4_51 : decode cJ6_bitCount_0f7a4 51 = .ok (.iand, 1) := by decide +kernel
theorem dJ6_bitCount_0f7a4_52 : decode cJ6_bitCount_0f7a4 52 = .ok (.ireturn, 1) := by decide +kernel
set_option maxRecDepth 20000 in
theorem ggL_action_X3_action : GoodIn wsL_action wsX3_action := goodIn_ca (goodIn_ca (goodIn_r _ [7, 8, 9, 10, 11, 12, 13, 6, 14, 15, 16, 17, 18, 19, 20, 21, 22, 23, 24, 25, 26, 27, 28, 29, 30, 31, 32, 33, 34, 35, 36, 37, 38, 39, 40, 41, 42, 43, 44, 45, 46] (by decide +kernel) (by decide +kernel)) (goodIn_sub (fun _ h => List.mem_cons_of_mem _ (List.mem_append_left _ (List.mem_append_right _ h))) (by decide +kernel))) (goodIn_sub (fun _ h => List.mem_cons_of_mem _ (List.mem_append_right _ h)) (by decide +kernel))
set_option maxRecDepth 20000 in
theorem gL_action_X3_action : GoodIn wsL_action (wsV RL 7 RX3 yX3_action wsX3_action) := goodIn_app (goodIn_of _ (by decide +kernel)) ggL_action_X3_action
theorem dL_action_0 : decode cL_action 0 = .ok (.aload 5, 2) := by decide +kernel
theorem dL_action_2 : decode cL_action 2 = .ok (.iconst 0, 1) := by decide +kernel
theorem dL_action_3 : decode cL_action 3 = .ok (.aload_n 0, 1) := by decide +kernel
theorem dL_action_4 : decode cL_action 4 = .ok (.iload_n 1, 1) := by decide +kernel
theorem dL_action_5 : decode cL_action 5 = .ok (.iload_n 2, 1) := by decide +kernel
theorem dL_action_6 : decode cL_action 6 = .ok (.iload_n 3, 1) := by decide +kernel
theorem dL_action_7 : decode cL_action 7 = .ok (.iload 4, 2) := by decide +kernel
theorem dL_action_9 : decode cL_action 9 = .ok (.invokevirtual 7, 3) := by decide +kernel
theorem dL_action_12 : decode cL_action 12 = .ok (.ifCond .eq 7, 3) := by decide +kernel
theorem dL_action_15 : decode cL_action 15 = .ok (.lconst 1, 1) := by decide +kernel
theorem dL_action_16 : decode cL_action 16 = .ok (.goto 4, 3) := by decide +kernel
theorem dL_action_19 : decode cL_action 19 = .ok (.lconst 0, 1) := by decide +kernel
theorem dL_action_20 : decode cL_action 20 = .ok (.lastore, 1) := by decide +kernel
theorem dL_action_21 : decode cL_action 21 = .ok (.goto 11, 3) := by decide +kernel
theorem dL_action_24 : decode cL_action 24 = .ok (.astore 6, 2) := by decide +kernel
theorem dL_action_26 : decode cL_action 26 = .ok (.iconst 1, 1) := by decide +kernel
theorem dL_action_27 : decode cL_action 27 = .ok (.ireturn, 1) := by decide +kernel
theorem dL_action_28 : decode cL_action 28 = .ok (.astore 6, 2) := by decide +kernel
theorem dL_action_30 : decode cL_action 30 = .ok (.iconst 2, 1) := by decide +kernel
theorem dL_action_31 : decode cL_action 31 = .ok (.ireturn, 1) := by decide +kernel
theorem dL_action_32 : decode cL_action 32 = .ok (.iconst 0, 1) := by decide +kernel
theorem dL_action_33 : decode cL_action 33 = .ok (.ireturn, 1) := by decide +kernel
set_option maxRecDepth 20000 in
theorem ggL_effect_X3_effect : GoodIn wsL_effect wsX3_effect := goodIn_ca (goodIn_ca (goodIn_ca (goodIn_ca (goodIn_r _ [9, 10, 11, 12, 13, 14, 15, 16, 8, 17, 18, 19, 20, 21, 22, 23, 24, 25, 26, 27, 28, 29, 30, 31, 32, 33, 34, 35, 36, 37, 38, 39, 40, 41, 42, 43, 44, 45, 46, 47, 48, 49, 50, 51, 52, 53, 54] (by decide +kernel) (by decide +kernel)) (goodIn_sub (fun _ h => List.mem_cons_of_mem _ (List.mem_append_left _ (List.mem_append_left _ (List.mem_append_left _ (List.mem_append_right _ h))))) (by decide +kernel))) (goodIn_sub (fun _ h => List.mem_cons_of_mem _ (List.mem_append_left _ (List.mem_append_left _ (List.mem_append_right _ h)))) (by decide +kernel))) (goodIn_sub (fun _ h => List.mem_cons_of_mem _ (List.mem_append_left _ (List.mem_append_right _ h))) (by decide +kernel))) (goodIn_sub (fun _ h => List.mem_cons_of_mem _ (List.mem_append_right _ h)) (by decide +kernel))
set_option maxRecDepth 20000 in
theorem gL_effect_X3_effect : GoodIn wsL_effect (wsV RL 17 RX3 yX3_effect wsX3_effect) := goodIn_app (goodIn_of _ (by decide +kernel)) ggL_effect_X3_effect
theorem dL_effect_0 : decode cL_effect 0 = .ok (.aload 6, 2) := by decide +kernel
theorem dL_effect_2 : decode cL_effect 2 = .ok (.iconst 0, 1) := by decide +kernel
theorem dL_effect_3 : decode cL_effect 3 = .ok (.aload_n 0, 1) := by decide +kernel
theorem dL_effect_4 : decode cL_effect 4 = .ok (.iload_n 1, 1) := by decide +kernel
theorem dL_effect_5 : decode cL_effect 5 = .ok (.iload_n 2, 1) := by decide +kernel
theorem dL_effect_6 : decode cL_effect 6 = .ok (.iload_n 3, 1) := by decide +kernel
theorem dL_effect_7 : decode cL_effect 7 = .ok (.iload 4, 2) := by decide +kernel
theorem dL_effect_9 : decode cL_effect 9 = .ok (.iload 5, 2) := by decide +kernel
theorem dL_effect_11 : decode cL_effect 11 = .ok (.invokevirtual 17, 3) := by decide +kernel
theorem dL_effect_14 : decode cL_effect 14 = .ok (.i2l, 1) := by decide +kernel
theorem dL_effect_15 : decode cL_effect 15 = .ok (.lastore, 1) := by decide +kernel
theorem dL_effect_16 : decode cL_effect 16 = .ok (.goto 19, 3) := by decide +kernel
theorem dL_effect_19 : decode cL_effect 19 = .ok (.astore 7, 2) := by decide +kernel
theorem dL_effect_21 : decode cL_effect 21 = .ok (.iconst 1, 1) := by decide +kernel
theorem dL_effect_22 : decode cL_effect 22 = .ok (.ireturn, 1) := by decide +kernel
theorem dL_effect_23 : decode cL_effect 23 = .ok (.astore 7, 2) := by decide +kernel
theorem dL_effect_25 : decode cL_effect 25 = .ok (.iconst 2, 1) := by decide +kernel
theorem dL_effect_26 : decode cL_effect 26 = .ok (.ireturn, 1) := by decide +kernel
theorem dL_effect_27 : decode cL_effect 27 = .ok (.astore 7, 2) := by decide +kernel
theorem dL_effect_29 : decode cL_effect 29 = .ok (.iconst 3, 1) := by decide +kernel
theorem dL_effect_30 : decode cL_effect 30 = .ok (.ireturn, 1) := by decide +kernel
theorem dL_effect_31 : decode cL_effect 31 = .ok (.astore 7, 2) := by decide +kernel
theorem dL_effect_33 : decode cL_effect 33 = .ok (.iconst 4, 1) := by decide +kernel
theorem dL_effect_34 : decode cL_effect 34 = .ok (.ireturn, 1) := by decide +kernel
theorem dL_effect_35 : decode cL_effect 35 = .ok (.iconst 0, 1) := by decide +kernel
theorem dL_effect_36 : decode cL_effect 36 = .ok (.ireturn, 1) := by decide +kernel
set_option maxRecDepth 20000 in
theorem ggL_clause_X3_clause : GoodIn wsL_clause wsX3_clause := goodIn_ca (goodIn_ca (goodIn_r _ [7, 8, 9, 10, 11, 12, 13, 6, 14, 15, 16, 17, 18, 19, 20, 21, 22, 23, 24, 25, 26, 27, 28] (by decide +kernel) (by decide +kernel)) (goodIn_sub (fun _ h => List.mem_cons_of_mem _ (List.mem_append_left _ (List.mem_append_right _ h))) (by decide +kernel))) (goodIn_sub (fun _ h => List.mem_cons_of_mem _ (List.mem_append_right _ h)) (by decide +kernel))
set_option maxRecDepth 20000 in
theorem gL_clause_X3_clause : GoodIn wsL_clause (wsV RL 25 RX3 yX3_clause wsX3_clause) := goodIn_app (goodIn_of _ (by decide +kernel)) ggL_clause_X3_clause
theorem dL_clause_0 : decode cL_clause 0 = .ok (.aload_n 3, 1) := by decide +kernel
theorem dL_clause_1 : decode cL_clause 1 = .ok (.iconst 0, 1) := by decide +kernel
theorem dL_clause_2 : decode cL_clause 2 = .ok (.aload_n 0, 1) := by decide +kernel
theorem dL_clause_3 : decode cL_clause 3 = .ok (.iload_n 1, 1) := by decide +kernel
theorem dL_clause_4 : decode cL_clause 4 = .ok (.iload_n 2, 1) := by decide +kernel
theorem dL_clause_5 : decode cL_clause 5 = .ok (.invokevirtual 25, 3) := by decide +kernel
theorem dL_clause_8 : decode cL_clause 8 = .ok (.i2l, 1) := by decide +kernel
theorem dL_clause_9 : decode cL_clause 9 = .ok (.lastore, 1) := by decide +kernel
theorem dL_clause_10 : decode cL_clause 10 = .ok (.goto 11, 3) := by decide +kernel
theorem dL_clause_13 : decode cL_clause 13 = .ok (.astore 4, 2) := by decide +kernel
theorem dL_clause_15 : decode cL_clause 15 = .ok (.iconst 1, 1) := by decide +kernel
theorem dL_clause_16 : decode cL_clause 16 = .ok (.ireturn, 1) := by decide +kernel
theorem dL_clause_17 : decode cL_clause 17 = .ok (.astore 4, 2) := by decide +kernel
theorem dL_clause_19 : decode cL_clause 19 = .ok (.iconst 2, 1) := by decide +kernel
theorem dL_clause_20 : decode cL_clause 20 = .ok (.ireturn, 1) := by decide +kernel
theorem dL_clause_21 : decode cL_clause 21 = .ok (.iconst 0, 1) := by decide +kernel
theorem dL_clause_22 : decode cL_clause 22 = .ok (.ireturn, 1) := by decide +kernel
set_option maxRecDepth 20000 in
theorem ggL_goal_X3_goal : GoodIn wsL_goal wsX3_goal := goodIn_ca (goodIn_r _ [6, 7, 8, 9, 5, 10, 11, 12, 13, 14, 15, 16, 17, 18, 19, 20, 21, 22, 23, 24, 25, 26, 27, 28, 29, 30, 31] (by decide +kernel) (by decide +kernel)) (goodIn_sub (fun _ h => List.mem_cons_of_mem _ (List.mem_append_right _ h)) (by decide +kernel))
set_option maxRecDepth 20000 in
theorem gL_goal_X3_goal : GoodIn wsL_goal (wsV RL 29 RX3 yX3_goal wsX3_goal) := goodIn_app (goodIn_of _ (by decide +kernel)) ggL_goal_X3_goal
theorem dL_goal_0 : decode cL_goal 0 = .ok (.aload_n 3, 1) := by decide +kernel
theorem dL_goal_1 : decode cL_goal 1 = .ok (.iconst 0, 1) := by decide +kernel
theorem dL_goal_2 : decode cL_goal 2 = .ok (.aload_n 0, 1) := by decide +kernel
theorem dL_goal_3 : decode cL_goal 3 = .ok (.iload_n 1, 1) := by decide +kernel
theorem dL_goal_4 : decode cL_goal 4 = .ok (.iload_n 2, 1) := by decide +kernel
theorem dL_goal_5 : decode cL_goal 5 = .ok (.invokevirtual 29, 3) := by decide +kernel
theorem dL_goal_8 : decode cL_goal 8 = .ok (.i2l, 1) := by decide +kernel
theorem dL_goal_9 : decode cL_goal 9 = .ok (.lastore, 1) := by decide +kernel
theorem dL_goal_10 : decode cL_goal 10 = .ok (.goto 7, 3) := by decide +kernel
theorem dL_goal_13 : decode cL_goal 13 = .ok (.astore 4, 2) := by decide +kernel
theorem dL_goal_15 : decode cL_goal 15 = .ok (.iconst 1, 1) := by decide +kernel
theorem dL_goal_16 : decode cL_goal 16 = .ok (.ireturn, 1) := by decide +kernel
theorem dL_goal_17 : decode cL_goal 17 = .ok (.iconst 0, 1) := by decide +kernel
theorem dL_goal_18 : decode cL_goal 18 = .ok (.ireturn, 1) := by decide +kernel
set_option maxRecDepth 20000 in
theorem ggL_behind_X3_behind : GoodIn wsL_behind wsX3_behind := goodIn_ca (goodIn_ca (goodIn_ca (goodIn_ca (goodIn_r _ [9, 10, 11, 12, 13, 14, 15, 16, 17, 8, 18, 19, 20, 21, 22, 23, 24, 25, 26, 27, 28, 29, 30, 31, 32, 33, 34, 35, 36, 37, 38, 39, 40, 41, 42, 43, 44, 45, 46, 47, 48, 49, 50, 51, 52, 53, 54] (by decide +kernel) (by decide +kernel)) (goodIn_sub (fun _ h => List.mem_cons_of_mem _ (List.mem_append_left _ (List.mem_append_left _ (List.mem_append_left _ (List.mem_append_right _ h))))) (by decide +kernel))) (goodIn_sub (fun _ h => List.mem_cons_of_mem _ (List.mem_append_left _ (List.mem_append_left _ (List.mem_append_right _ h)))) (by decide +kernel))) (goodIn_sub (fun _ h => List.mem_cons_of_mem _ (List.mem_append_left _ (List.mem_append_right _ h))) (by decide +kernel))) (goodIn_sub (fun _ h => List.mem_cons_of_mem _ (List.mem_append_right _ h)) (by decide +kernel))
set_option maxRecDepth 20000 in
theorem gL_behind_X3_behind : GoodIn wsL_behind (wsV RL 32 RX3 yX3_behind wsX3_behind) := goodIn_app (goodIn_of _ (by decide +kernel)) ggL_behind_X3_behind
theorem dL_behind_0 : decode cL_behind 0 = .ok (.aload_n 3, 1) := by decide +kernel
theorem dL_behind_1 : decode cL_behind 1 = .ok (.iconst 0, 1) := by decide +kernel
theorem dL_behind_2 : decode cL_behind 2 = .ok (.aload_n 0, 1) := by decide +kernel
theorem dL_behind_3 : decode cL_behind 3 = .ok (.iload_n 1, 1) := by decide +kernel
theorem dL_behind_4 : decode cL_behind 4 = .ok (.iload_n 2, 1) := by decide +kernel
theorem dL_behind_5 : decode cL_behind 5 = .ok (.invokevirtual 32, 3) := by decide +kernel
theorem dL_behind_8 : decode cL_behind 8 = .ok (.i2l, 1) := by decide +kernel
theorem dL_behind_9 : decode cL_behind 9 = .ok (.lastore, 1) := by decide +kernel
theorem dL_behind_10 : decode cL_behind 10 = .ok (.goto 19, 3) := by decide +kernel
theorem dL_behind_13 : decode cL_behind 13 = .ok (.astore 4, 2) := by decide +kernel
theorem dL_behind_15 : decode cL_behind 15 = .ok (.iconst 1, 1) := by decide +kernel
theorem dL_behind_16 : decode cL_behind 16 = .ok (.ireturn, 1) := by decide +kernel
theorem dL_behind_17 : decode cL_behind 17 = .ok (.astore 4, 2) := by decide +kernel
theorem dL_behind_19 : decode cL_behind 19 = .ok (.iconst 2, 1) := by decide +kernel
theorem dL_behind_20 : decode cL_behind 20 = .ok (.ireturn, 1) := by decide +kernel
theorem dL_behind_21 : decode cL_behind 21 = .ok (.astore 4, 2) := by decide +kernel
theorem dL_behind_23 : decode cL_behind 23 = .ok (.iconst 3, 1) := by decide +kernel
theorem dL_behind_24 : decode cL_behind 24 = .ok (.ireturn, 1) := by decide +kernel
theorem dL_behind_25 : decode cL_behind 25 = .ok (.astore 4, 2) := by decide +kernel
theorem dL_behind_27 : decode cL_behind 27 = .ok (.iconst 4, 1) := by decide +kernel
theorem dL_behind_28 : decode cL_behind 28 = .ok (.ireturn, 1) := by decide +kernel
theorem dL_behind_29 : decode cL_behind 29 = .ok (.iconst 0, 1) := by decide +kernel
theorem dL_behind_30 : decode cL_behind 30 = .ok (.ireturn, 1) := by decide +kernel
set_option maxRecDepth 20000 in
theorem ggL_least_X3_least : GoodIn wsL_least wsX3_least := goodIn_ca (goodIn_ca (goodIn_r _ [7, 8, 9, 10, 11, 12, 6, 13, 14, 15, 16, 17, 18, 19, 20, 21, 22, 23, 24, 25, 26, 27, 28, 29, 30, 31, 32, 33, 34, 35, 36, 37, 38, 39, 40, 41, 42, 43, 44, 45, 46, 47, 48, 49, 50, 51, 52, 53, 54, 55, 56, 57, 58, 59, 60, 61, 62, 63, 64, 65, 66, 67, 68, 69, 70, 71, 72, 73] (by decide +kernel) (by decide +kernel)) (goodIn_sub (fun _ h => List.mem_cons_of_mem _ (List.mem_append_left _ (List.mem_append_right _ h))) (by decide +kernel))) (goodIn_sub (fun _ h => List.mem_cons_of_mem _ (List.mem_append_right _ h)) (by decide +kernel))
set_option maxRecDepth 20000 in
theorem gL_least_X3_least : GoodIn wsL_least (wsV RL 37 RX3 yX3_least wsX3_least) := goodIn_app (goodIn_of _ (by decide +kernel)) ggL_least_X3_least
theorem dL_least_0 : decode cL_least 0 = .ok (.aload_n 3, 1) := by decide +kernel
theorem dL_least_1 : decode cL_least 1 = .ok (.iconst 0, 1) := by decide +kernel
theorem dL_least_2 : decode cL_least 2 = .ok (.aload_n 0, 1) := by decide +kernel
theorem dL_least_3 : decode cL_least 3 = .ok (.iload_n 1, 1) := by decide +kernel
theorem dL_least_4 : decode cL_least 4 = .ok (.iload_n 2, 1) := by decide +kernel
theorem dL_least_5 : decode cL_least 5 = .ok (.invokevirtual 37, 3) := by decide +kernel
theorem dL_least_8 : decode cL_least 8 = .ok (.i2l, 1) := by decide +kernel
theorem dL_least_9 : decode cL_least 9 = .ok (.lastore, 1) := by decide +kernel
theorem dL_least_10 : decode cL_least 10 = .ok (.goto 11, 3) := by decide +kernel
theorem dL_least_13 : decode cL_least 13 = .ok (.astore 4, 2) := by decide +kernel
theorem dL_least_15 : decode cL_least 15 = .ok (.iconst 1, 1) := by decide +kernel
theorem dL_least_16 : decode cL_least 16 = .ok (.ireturn, 1) := by decide +kernel
theorem dL_least_17 : decode cL_least 17 = .ok (.astore 4, 2) := by decide +kernel
theorem dL_least_19 : decode cL_least 19 = .ok (.iconst 2, 1) := by decide +kernel
theorem dL_least_20 : decode cL_least 20 = .ok (.ireturn, 1) := by decide +kernel
theorem dL_least_21 : decode cL_least 21 = .ok (.iconst 0, 1) := by decide +kernel
theorem dL_least_22 : decode cL_least 22 = .ok (.ireturn, 1) := by decide +kernel
set_option maxRecDepth 20000 in
theorem ggL_plan_X3_plan : GoodIn wsL_plan wsX3_plan := goodIn_ca (goodIn_ca (goodIn_ca (goodIn_r _ [8, 9, 10, 11, 12, 13, 14, 7, 15, 16, 17, 18, 19, 20, 21, 22, 23, 24, 25, 26, 27, 28, 29, 30, 31, 32, 33, 34, 35, 36, 37, 38, 39, 40, 41, 42, 43, 44, 45, 46, 47, 48, 49, 50, 51, 52, 53, 54, 55, 56, 57, 58, 59, 60, 61, 62, 63, 64, 65, 66, 67, 68, 69, 70, 71, 72, 73, 74, 75, 76, 77, 78, 79, 80, 81, 82, 83, 84, 85, 86, 87, 88, 89, 90, 91, 92, 93, 94, 95, 96, 97, 98, 99, 100, 101, 102, 103, 104, 105, 106, 107, 108, 109, 110] (by decide +kernel) (by decide +kernel)) (goodIn_sub (fun _ h => List.mem_cons_of_mem _ (List.mem_append_left _ (List.mem_append_left _ (List.mem_append_right _ h)))) (by decide +kernel))) (goodIn_sub (fun _ h => List.mem_cons_of_mem _ (List.mem_append_left _ (List.mem_append_right _ h))) (by decide +kernel))) (goodIn_sub (fun _ h => List.mem_cons_of_mem _ (List.mem_append_right _ h)) (by decide +kernel))
set_option maxRecDepth 20000 in
theorem gL_plan_X3_plan : GoodIn wsL_plan (wsV RL 40 RX3 yX3_plan wsX3_plan) := goodIn_app (goodIn_of _ (by decide +kernel)) ggL_plan_X3_plan
theorem dL_plan_0 : decode cL_plan 0 = .ok (.aload_n 2, 1) := by decide +kernel
theorem dL_plan_1 : decode cL_plan 1 = .ok (.iconst 0, 1) := by decide +kernel
theorem dL_plan_2 : decode cL_plan 2 = .ok (.aload_n 0, 1) := by decide +kernel
theorem dL_plan_3 : decode cL_plan 3 = .ok (.iload_n 1, 1) := by decide +kernel
theorem dL_plan_4 : decode cL_plan 4 = .ok (.invokevirtual 40, 3) := by decide +kernel
theorem dL_plan_7 : decode cL_plan 7 = .ok (.i2l, 1) := by decide +kernel
theorem dL_plan_8 : decode cL_plan 8 = .ok (.lastore, 1) := by decide +kernel
theorem dL_plan_9 : decode cL_plan 9 = .ok (.goto 12, 3) := by decide +kernel
theorem dL_plan_12 : decode cL_plan 12 = .ok (.astore_n 3, 1) := by decide +kernel
theorem dL_plan_13 : decode cL_plan 13 = .ok (.iconst 1, 1) := by decide +kernel
theorem dL_plan_14 : decode cL_plan 14 = .ok (.ireturn, 1) := by decide +kernel
theorem dL_plan_15 : decode cL_plan 15 = .ok (.astore_n 3, 1) := by decide +kernel
theorem dL_plan_16 : decode cL_plan 16 = .ok (.iconst 2, 1) := by decide +kernel
theorem dL_plan_17 : decode cL_plan 17 = .ok (.ireturn, 1) := by decide +kernel
theorem dL_plan_18 : decode cL_plan 18 = .ok (.astore_n 3, 1) := by decide +kernel
theorem dL_plan_19 : decode cL_plan 19 = .ok (.iconst 3, 1) := by decide +kernel
theorem dL_plan_20 : decode cL_plan 20 = .ok (.ireturn, 1) := by decide +kernel
theorem dL_plan_21 : decode cL_plan 21 = .ok (.iconst 0, 1) := by decide +kernel
theorem dL_plan_22 : decode cL_plan 22 = .ok (.ireturn, 1) := by decide +kernel
set_option maxRecDepth 20000 in
theorem ggL_node_X3_node : GoodIn wsL_node wsX3_node := goodIn_ca (goodIn_r _ [6, 7, 8, 9, 10, 11, 12, 5, 13, 14, 15, 16, 17, 18, 19, 20, 21, 22, 23, 24, 25, 26, 27, 28, 29, 30] (by decide +kernel) (by decide +kernel)) (goodIn_sub (fun _ h => List.mem_cons_of_mem _ (List.mem_append_right _ h)) (by decide +kernel))
set_option maxRecDepth 20000 in
theorem gL_node_X3_node : GoodIn wsL_node (wsV RL 44 RX3 yX3_node wsX3_node) := goodIn_app (goodIn_of _ (by decide +kernel)) ggL_node_X3_node
theorem dL_node_0 : decode cL_node 0 = .ok (.aload_n 3, 1) := by decide +kernel
theorem dL_node_1 : decode cL_node 1 = .ok (.iconst 0, 1) := by decide +kernel
theorem dL_node_2 : decode cL_node 2 = .ok (.aload_n 0, 1) := by decide +kernel
theorem dL_node_3 : decode cL_node 3 = .ok (.iload_n 1, 1) := by decide +kernel
theorem dL_node_4 : decode cL_node 4 = .ok (.iload_n 2, 1) := by decide +kernel
theorem dL_node_5 : decode cL_node 5 = .ok (.invokevirtual 44, 3) := by decide +kernel
theorem dL_node_8 : decode cL_node 8 = .ok (.i2l, 1) := by decide +kernel
theorem dL_node_9 : decode cL_node 9 = .ok (.lastore, 1) := by decide +kernel
theorem dL_node_10 : decode cL_node 10 = .ok (.goto 7, 3) := by decide +kernel
theorem dL_node_13 : decode cL_node 13 = .ok (.astore 4, 2) := by decide +kernel
theorem dL_node_15 : decode cL_node 15 = .ok (.iconst 1, 1) := by decide +kernel
theorem dL_node_16 : decode cL_node 16 = .ok (.ireturn, 1) := by decide +kernel
theorem dL_node_17 : decode cL_node 17 = .ok (.iconst 0, 1) := by decide +kernel
theorem dL_node_18 : decode cL_node 18 = .ok (.ireturn, 1) := by decide +kernel
set_option maxRecDepth 20000 in
theorem ggL_edit_X3_edit : GoodIn wsL_edit wsX3_edit := goodIn_ca (goodIn_ca (goodIn_ca (goodIn_r _ [8, 9, 10, 11, 12, 13, 14, 7, 15, 16, 17, 18, 19, 20, 21, 22, 23, 24, 25, 26, 27, 28, 29, 30, 31, 32, 33, 34, 35, 36, 37, 38, 39, 40, 41, 42, 43, 44, 45, 46, 47, 48, 49, 50, 51, 52, 53] (by decide +kernel) (by decide +kernel)) (goodIn_sub (fun _ h => List.mem_cons_of_mem _ (List.mem_append_left _ (List.mem_append_left _ (List.mem_append_right _ h)))) (by decide +kernel))) (goodIn_sub (fun _ h => List.mem_cons_of_mem _ (List.mem_append_left _ (List.mem_append_right _ h))) (by decide +kernel))) (goodIn_sub (fun _ h => List.mem_cons_of_mem _ (List.mem_append_right _ h)) (by decide +kernel))
set_option maxRecDepth 20000 in
theorem gL_edit_X3_edit : GoodIn wsL_edit (wsV RL 47 RX3 yX3_edit wsX3_edit) := goodIn_app (goodIn_of _ (by decide +kernel)) ggL_edit_X3_edit
theorem dL_edit_0 : decode cL_edit 0 = .ok (.aload_n 3, 1) := by decide +kernel
theorem dL_edit_1 : decode cL_edit 1 = .ok (.iconst 0, 1) := by decide +kernel
theorem dL_edit_2 : decode cL_edit 2 = .ok (.aload_n 0, 1) := by decide +kernel
theorem dL_edit_3 : decode cL_edit 3 = .ok (.iload_n 1, 1) := by decide +kernel
theorem dL_edit_4 : decode cL_edit 4 = .ok (.iload_n 2, 1) := by decide +kernel
theorem dL_edit_5 : decode cL_edit 5 = .ok (.invokevirtual 47, 3) := by decide +kernel
theorem dL_edit_8 : decode cL_edit 8 = .ok (.i2l, 1) := by decide +kernel
theorem dL_edit_9 : decode cL_edit 9 = .ok (.lastore, 1) := by decide +kernel
theorem dL_edit_10 : decode cL_edit 10 = .ok (.goto 15, 3) := by decide +kernel
theorem dL_edit_13 : decode cL_edit 13 = .ok (.astore 4, 2) := by decide +kernel
theorem dL_edit_15 : decode cL_edit 15 = .ok (.iconst 1, 1) := by decide +kernel
theorem dL_edit_16 : decode cL_edit 16 = .ok (.ireturn, 1) := by decide +kernel
theorem dL_edit_17 : decode cL_edit 17 = .ok (.astore 4, 2) := by decide +kernel
theorem dL_edit_19 : decode cL_edit 19 = .ok (.iconst 2, 1) := by decide +kernel
theorem dL_edit_20 : decode cL_edit 20 = .ok (.ireturn, 1) := by decide +kernel
theorem dL_edit_21 : decode cL_edit 21 = .ok (.astore 4, 2) := by decide +kernel
theorem dL_edit_23 : decode cL_edit 23 = .ok (.iconst 3, 1) := by decide +kernel
theorem dL_edit_24 : decode cL_edit 24 = .ok (.ireturn, 1) := by decide +kernel
theorem dL_edit_25 : decode cL_edit 25 = .ok (.iconst 0, 1) := by decide +kernel
theorem dL_edit_26 : decode cL_edit 26 = .ok (.ireturn, 1) := by decide +kernel
set_option maxRecDepth 20000 in
theorem ggL_right_X3_right : GoodIn wsL_right wsX3_right := goodIn_ca (goodIn_r _ [6, 7, 8, 9, 10, 5, 11, 12, 13, 14, 15, 16, 17, 18, 19, 20, 21, 22, 23, 24, 25, 26, 27, 28, 29, 30, 31, 32, 33, 34, 35, 36, 37, 38, 39, 40, 41, 42, 43, 44, 45, 46, 47, 48, 49, 50, 51, 52, 53, 54, 55, 56, 57, 58, 59, 60, 61, 62, 63, 64, 65] (by decide +kernel) (by decide +kernel)) (goodIn_sub (fun _ h => List.mem_cons_of_mem _ (List.mem_append_right _ h)) (by decide +kernel))
set_option maxRecDepth 20000 in
theorem gL_right_X3_right : GoodIn wsL_right (wsV RL 50 RX3 yX3_right wsX3_right) := goodIn_app (goodIn_of _ (by decide +kernel)) ggL_right_X3_right
theorem dL_right_0 : decode cL_right 0 = .ok (.aload_n 1, 1) := by decide +kernel
theorem dL_right_1 : decode cL_right 1 = .ok (.iconst 0, 1) := by decide +kernel
theorem dL_right_2 : decode cL_right 2 = .ok (.aload_n 0, 1) := by decide +kernel
theorem dL_right_3 : decode cL_right 3 = .ok (.invokevirtual 50, 3) := by decide +kernel
theorem dL_right_6 : decode cL_right 6 = .ok (.ifCond .eq 7, 3) := by decide +kernel
theorem dL_right_9 : decode cL_right 9 = .ok (.lconst 1, 1) := by decide +kernel
theorem dL_right_10 : decode cL_right 10 = .ok (.goto 4, 3) := by decide +kernel
theorem dL_right_13 : decode cL_right 13 = .ok (.lconst 0, 1) := by decide +kernel
theorem dL_right_14 : decode cL_right 14 = .ok (.lastore, 1) := by decide +kernel
theorem dL_right_15 : decode cL_right 15 = .ok (.goto 6, 3) := by decide +kernel
theorem dL_right_18 : decode cL_right 18 = .ok (.astore_n 2, 1) := by decide +kernel
theorem dL_right_19 : decode cL_right 19 = .ok (.iconst 1, 1) := by decide +kernel
theorem dL_right_20 : decode cL_right 20 = .ok (.ireturn, 1) := by decide +kernel
theorem dL_right_21 : decode cL_right 21 = .ok (.iconst 0, 1) := by decide +kernel
theorem dL_right_22 : decode cL_right 22 = .ok (.ireturn, 1) := by decide +kernel
set_option maxRecDepth 20000 in
theorem ggL_hide_X3_hide : GoodIn wsL_hide wsX3_hide := goodIn_ca (goodIn_r _ [6, 7, 8, 9, 10, 11, 12, 5, 13, 14, 15, 16, 17, 18, 19, 20, 21, 22] (by decide +kernel) (by decide +kernel)) (goodIn_sub (fun _ h => List.mem_cons_of_mem _ (List.mem_append_right _ h)) (by decide +kernel))
set_option maxRecDepth 20000 in
theorem gL_hide_X3_hide : GoodIn wsL_hide (wsV RL 54 RX3 yX3_hide wsX3_hide) := goodIn_app (goodIn_of _ (by decide +kernel)) ggL_hide_X3_hide
theorem dL_hide_0 : decode cL_hide 0 = .ok (.aload_n 2, 1) := by decide +kernel
theorem dL_hide_1 : decode cL_hide 1 = .ok (.iconst 0, 1) := by decide +kernel
theorem dL_hide_2 : decode cL_hide 2 = .ok (.aload_n 0, 1) := by decide +kernel
theorem dL_hide_3 : decode cL_hide 3 = .ok (.iload_n 1, 1) := by decide +kernel
theorem dL_hide_4 : decode cL_hide 4 = .ok (.invokevirtual 54, 3) := by decide +kernel
theorem dL_hide_7 : decode cL_hide 7 = .ok (.ifCond .eq 7, 3) := by decide +kernel
theorem dL_hide_10 : decode cL_hide 10 = .ok (.lconst 1, 1) := by decide +kernel
theorem dL_hide_11 : decode cL_hide 11 = .ok (.goto 4, 3) := by decide +kernel
theorem dL_hide_14 : decode cL_hide 14 = .ok (.lconst 0, 1) := by decide +kernel
theorem dL_hide_15 : decode cL_hide 15 = .ok (.lastore, 1) := by decide +kernel
theorem dL_hide_16 : decode cL_hide 16 = .ok (.goto 6, 3) := by decide +kernel
theorem dL_hide_19 : decode cL_hide 19 = .ok (.astore_n 3, 1) := by decide +kernel
theorem dL_hide_20 : decode cL_hide 20 = .ok (.iconst 1, 1) := by decide +kernel
theorem dL_hide_21 : decode cL_hide 21 = .ok (.ireturn, 1) := by decide +kernel
theorem dL_hide_22 : decode cL_hide 22 = .ok (.iconst 0, 1) := by decide +kernel
theorem dL_hide_23 : decode cL_hide 23 = .ok (.ireturn, 1) := by decide +kernel
set_option maxRecDepth 20000 in
theorem ggL_execute_X3_execute : GoodIn wsL_execute wsX3_execute := goodIn_ca (goodIn_r _ [6, 7, 8, 9, 10, 11, 12, 5, 13, 14, 15, 16, 17, 18, 19, 20, 21, 22, 23, 24, 25, 26, 27, 28, 29, 30, 31, 32, 33, 34, 35, 36, 37, 38, 39, 40, 41, 42, 43, 44, 45, 46, 47, 48, 49, 50, 51, 52, 53, 54, 55, 56, 57, 58, 59] (by decide +kernel) (by decide +kernel)) (goodIn_sub (fun _ h => List.mem_cons_of_mem _ (List.mem_append_right _ h)) (by decide +kernel))
set_option maxRecDepth 20000 in
theorem gL_execute_X3_execute : GoodIn wsL_execute (wsV RL 58 RX3 yX3_execute wsX3_execute) := goodIn_app (goodIn_of _ (by decide +kernel)) ggL_execute_X3_execute
theorem dL_execute_0 : decode cL_execute 0 = .ok (.aload_n 1, 1) := by decide +kernel
theorem dL_execute_1 : decode cL_execute 1 = .ok (.iconst 0, 1) := by decide +kernel
theorem dL_execute_2 : decode cL_execute 2 = .ok (.aload_n 0, 1) := by decide +kernel
theorem dL_execute_3 : decode cL_execute 3 = .ok (.invokevirtual 58, 3) := by decide +kernel
theorem dL_execute_6 : decode cL_execute 6 = .ok (.ifCond .eq 7, 3) := by decide +kernel
theorem dL_execute_9 : decode cL_execute 9 = .ok (.lconst 1, 1) := by decide +kernel
theorem dL_execute_10 : decode cL_execute 10 = .ok (.goto 4, 3) := by decide +kernel
theorem dL_execute_13 : decode cL_execute 13 = .ok (.lconst 0, 1) := by decide +kernel
theorem dL_execute_14 : decode cL_execute 14 = .ok (.lastore, 1) := by decide +kernel
theorem dL_execute_15 : decode cL_execute 15 = .ok (.goto 6, 3) := by decide +kernel
theorem dL_execute_18 : decode cL_execute 18 = .ok (.astore_n 2, 1) := by decide +kernel
theorem dL_execute_19 : decode cL_execute 19 = .ok (.iconst 1, 1) := by decide +kernel
theorem dL_execute_20 : decode cL_execute 20 = .ok (.ireturn, 1) := by decide +kernel
theorem dL_execute_21 : decode cL_execute 21 = .ok (.iconst 0, 1) := by decide +kernel
theorem dL_execute_22 : decode cL_execute 22 = .ok (.ireturn, 1) := by decide +kernel
set_option maxRecDepth 20000 in
theorem ggL_trace_X3_trace : GoodIn wsL_trace wsX3_trace := goodIn_ca (goodIn_r _ [6, 7, 8, 9, 10, 11, 12, 13, 14, 15, 16, 17, 18, 19] (by decide +kernel) (by decide +kernel)) (goodIn_sub (fun _ h => List.mem_cons_of_mem _ (List.mem_append_right _ h)) (by decide +kernel))
set_option maxRecDepth 20000 in
theorem gL_trace_X3_trace : GoodIn wsL_trace (wsV RL 61 RX3 yX3_trace wsX3_trace) := goodIn_app (goodIn_of _ (by decide +kernel)) ggL_trace_X3_trace
theorem dL_trace_0 : decode cL_trace 0 = .ok (.aload_n 2, 1) := by decide +kernel
theorem dL_trace_1 : decode cL_trace 1 = .ok (.iconst 0, 1) := by decide +kernel
theorem dL_trace_2 : decode cL_trace 2 = .ok (.aload_n 0, 1) := by decide +kernel
theorem dL_trace_3 : decode cL_trace 3 = .ok (.iload_n 1, 1) := by decide +kernel
theorem dL_trace_4 : decode cL_trace 4 = .ok (.invokevirtual 61, 3) := by decide +kernel
theorem dL_trace_7 : decode cL_trace 7 = .ok (.i2l, 1) := by decide +kernel
theorem dL_trace_8 : decode cL_trace 8 = .ok (.lastore, 1) := by decide +kernel
theorem dL_trace_9 : decode cL_trace 9 = .ok (.goto 6, 3) := by decide +kernel
theorem dL_trace_12 : decode cL_trace 12 = .ok (.astore_n 3, 1) := by decide +kernel
theorem dL_trace_13 : decode cL_trace 13 = .ok (.iconst 1, 1) := by decide +kernel
theorem dL_trace_14 : decode cL_trace 14 = .ok (.ireturn, 1) := by decide +kernel
theorem dL_trace_15 : decode cL_trace 15 = .ok (.iconst 0, 1) := by decide +kernel
theorem dL_trace_16 : decode cL_trace 16 = .ok (.ireturn, 1) := by decide +kernel
set_option maxRecDepth 20000 in
theorem ggL_twins_X3_twins : GoodIn wsL_twins wsX3_twins := goodIn_ca (goodIn_r _ [6, 7, 8, 9, 10, 11, 12, 13, 14, 15, 16, 17, 18, 19, 20, 21, 5, 22, 23, 24, 25, 26, 27, 28, 29, 30, 31, 32, 33, 34, 35, 36, 37, 38, 39, 40, 41, 42, 43, 44, 45, 46, 47, 48, 49, 50, 51, 52, 53, 54, 55, 56, 57, 58, 59, 60, 61, 62, 63, 64, 65, 66, 67] (by decide +kernel) (by decide +kernel)) (goodIn_sub (fun _ h => List.mem_cons_of_mem _ (List.mem_append_right _ h)) (by decide +kernel))
set_option maxRecDepth 20000 in
theorem gL_twins_X3_twins : GoodIn wsL_twins (wsV RL 64 RX3 yX3_twins wsX3_twins) := goodIn_app (goodIn_of _ (by decide +kernel)) ggL_twins_X3_twins
theorem dL_twins_0 : decode cL_twins 0 = .ok (.aload_n 1, 1) := by decide +kernel
theorem dL_twins_1 : decode cL_twins 1 = .ok (.iconst 0, 1) := by decide +kernel
theorem dL_twins_2 : decode cL_twins 2 = .ok (.aload_n 0, 1) := by decide +kernel
theorem dL_twins_3 : decode cL_twins 3 = .ok (.invokevirtual 64, 3) := by decide +kernel
theorem dL_twins_6 : decode cL_twins 6 = .ok (.i2l, 1) := by decide +kernel
theorem dL_twins_7 : decode cL_twins 7 = .ok (.lastore, 1) := by decide +kernel
theorem dL_twins_8 : decode cL_twins 8 = .ok (.goto 6, 3) := by decide +kernel
theorem dL_twins_11 : decode cL_twins 11 = .ok (.astore_n 2, 1) := by decide +kernel
theorem dL_twins_12 : decode cL_twins 12 = .ok (.iconst 1, 1) := by decide +kernel
theorem dL_twins_13 : decode cL_twins 13 = .ok (.ireturn, 1) := by decide +kernel
theorem dL_twins_14 : decode cL_twins 14 = .ok (.iconst 0, 1) := by decide +kernel
theorem dL_twins_15 : decode cL_twins 15 = .ok (.ireturn, 1) := by decide +kernel
set_option maxRecDepth 20000 in
theorem ggL_law_X3_init : GoodIn wsL_law wsX3_init := goodIn_r _ [9, 10, 11, 12, 13, 14, 15, 16, 17, 18, 19, 20, 21, 22, 23, 24, 25, 26, 27, 28, 29, 30, 31, 32, 33, 34, 35, 36, 37, 38, 39, 40, 41, 42, 2, 43, 44, 45, 46, 47, 48, 49, 50, 51, 52, 53, 54, 521, 522, 523, 524, 525, 526, 527, 528, 529, 563, 564, 565, 566, 567, 568, 569, 570, 571, 572] (by decide +kernel) (by decide +kernel)
set_option maxRecDepth 20000 in
theorem gL_law_X3_init : GoodIn wsL_law (wsX3_init) := ggL_law_X3_init
set_option maxRecDepth 20000 in
theorem ggL_law_X4_init : GoodIn wsL_law wsX4_init := goodIn_r _ [57, 58, 11, 12, 59, 60, 23, 61, 62, 63, 64, 65, 66, 67, 68, 69, 70, 71, 72, 73, 74, 75, 76, 77, 78, 79, 80, 81, 82, 83, 84, 85, 86, 530, 531, 532, 533, 534, 535, 536, 537, 538, 539, 540, 541, 542, 543, 544, 545, 546, 547, 548, 549, 550, 551, 552, 553, 554, 555, 556, 557, 558, 559, 560, 561, 562] (by decide +kernel) (by decide +kernel)
set_option maxRecDepth 20000 in
theorem gL_law_X4_init : GoodIn wsL_law (wsX4_init) := ggL_law_X4_init
set_option maxRecDepth 20000 in
theorem ggL_law_X3_clear : GoodIn wsL_law wsX3_clear := goodIn_r _ [90, 14, 40, 41, 42, 2, 43, 18, 44, 45, 46, 47, 48, 49, 50, 51, 52, 17, 53, 54, 521, 522, 523, 524, 525, 526, 527, 528, 529, 568, 569, 570, 571, 572, 563, 564] (by decide +kernel) (by decide +kernel)
set_option maxRecDepth 20000 in
theorem gL_law_X3_clear : GoodIn wsL_law (wsV RL 72 RX3 yX3_clear wsX3_clear) := goodIn_app (goodIn_of _ (by decide +kernel)) ggL_law_X3_clear
set_option maxRecDepth 20000 in
theorem ggL_law_X4_clear : GoodIn wsL_law wsX4_clear := goodIn_r _ [94, 95, 60, 96, 97, 98, 99, 83, 100, 530, 531, 532, 533, 534, 535, 536, 537, 538, 539, 540, 541, 542, 543, 544, 545, 546, 547, 548, 549, 550, 551, 552, 553, 554, 555, 556, 557, 558, 559, 560, 561, 562] (by decide +kernel) (by decide +kernel)
set_option maxRecDepth 20000 in
theorem gL_law_X4_clear : GoodIn wsL_law (wsV RL 75 RX4 yX4_clear wsX4_clear) := goodIn_app (goodIn_of _ (by decide +kernel)) ggL_law_X4_clear
set_option maxRecDepth 20000 in
theorem ggL_law_L_action : GoodIn wsL_law wsL_action := goodIn_ca (goodIn_ca (goodIn_r _ [104, 105, 106, 107, 108, 109, 2, 110, 111, 112, 14, 113, 114, 115, 116, 117, 118, 119, 120, 121, 122, 123, 124, 125, 126, 127, 26, 128, 129, 130, 131, 132, 39, 521, 522, 523, 524, 525, 526, 527, 528, 529, 568, 569, 570, 571, 572] (by decide +kernel) (by decide +kernel)) (goodIn_sub (fun _ h => List.mem_append_left _ (List.mem_append_left _ (List.mem_append_left _ (List.mem_append_left _ (List.mem_append_right _ h))))) (by decide +kernel))) (goodIn_sub (fun _ h => List.mem_append_left _ (List.mem_append_left _ (List.mem_append_left _ (List.mem_append_right _ h)))) (by decide +kernel))
set_option maxRecDepth 20000 in
theorem gL_law_L_action : GoodIn wsL_law (va_wsS RL 76 yL_action wsL_action) := goodIn_app (goodIn_of _ (by decide +kernel)) ggL_law_L_action
set_option maxRecDepth 20000 in
theorem ggL_law_X4_action : GoodIn wsL_law wsX4_action := goodIn_r _ [136, 95, 60, 61, 62, 63, 64, 137, 138, 5, 139, 140, 141, 142, 143, 144, 145, 146, 530, 531, 532, 533, 534, 535, 536, 537, 538, 539, 540, 541, 542, 543, 544, 545, 546, 547, 548, 549, 550, 551, 552, 553, 554, 555, 556, 557, 558, 559, 560, 561, 562] (by decide +kernel) (by decide +kernel)
set_option maxRecDepth 20000 in
theorem gL_law_X4_action : GoodIn wsL_law (wsV RL 81 RX4 yX4_action wsX4_action) := goodIn_app (goodIn_of _ (by decide +kernel)) ggL_law_X4_action
set_option maxRecDepth 20000 in
theorem ggL_law_X4_thrown : GoodIn wsL_law wsX4_thrown := goodIn_r _ [150, 95, 530, 531, 532, 533, 534, 535, 536, 537, 538, 539, 540, 541, 542, 543, 544, 545, 546, 547, 548, 549, 550, 551, 552, 553, 554, 555, 556, 557, 558, 559, 560, 561, 562] (by decide +kernel) (by decide +kernel)
set_option maxRecDepth 20000 in
theorem gL_law_X4_thrown : GoodIn wsL_law (wsV RL 82 RX4 yX4_thrown wsX4_thrown) := goodIn_app (goodIn_of _ (by decide +kernel)) ggL_law_X4_thrown
set_option maxRecDepth 20000 in
theorem ggL_law_L_effect : GoodIn wsL_law wsL_effect := goodIn_ca (goodIn_ca (goodIn_ca (goodIn_ca (goodIn_r _ [153, 105, 154, 106, 155, 156, 157, 158, 2, 159, 111, 112, 160, 161, 14, 114, 115, 116, 117, 118, 162, 163, 164, 165, 166, 167, 119, 120, 121, 122, 123, 124, 168, 169, 170, 26, 171, 39, 132, 172, 173, 521, 522, 523, 524, 525, 526, 527, 528, 529, 568, 569, 570, 571, 572] (by decide +kernel) (by decide +kernel)) (goodIn_sub (fun _ h => List.mem_append_left _ (List.mem_append_left _ (List.mem_append_left _ (List.mem_append_left _ (List.mem_append_right _ h))))) (by decide +kernel))) (goodIn_sub (fun _ h => List.mem_append_left _ (List.mem_append_left _ (List.mem_append_right _ h))) (by decide +kernel))) (goodIn_sub (fun _ h => List.mem_append_left _ (List.mem_append_left _ (List.mem_append_left _ (List.mem_append_right _ h)))) (by decide +kernel))) (goodIn_sub (fun _ h => List.mem_append_left _ (List.mem_append_right _ h)) (by decide +kernel))
set_option maxRecDepth 20000 in
theorem gL_law_L_effect : GoodIn wsL_law (va_wsS RL 85 yL_effect wsL_effect) := goodIn_app (goodIn_of _ (by decide +kernel)) ggL_law_L_effect
set_option maxRecDepth 20000 in
theorem ggL_law_X4_effect : GoodIn wsL_law wsX4_effect := goodIn_r _ [177, 95, 60, 64, 65, 66, 67, 68, 137, 138, 5, 139, 140, 141, 142, 143, 144, 145, 146, 530, 531, 532, 533, 534, 535, 536, 537, 538, 539, 540, 541, 542, 543, 544, 545, 546, 547, 548, 549, 550, 551, 552, 553, 554, 555, 556, 557, 558, 559, 560, 561, 562] (by decide +kernel) (by decide +kernel)
set_option maxRecDepth 20000 in
theorem gL_law_X4_effect : GoodIn wsL_law (wsV RL 88 RX4 yX4_effect wsX4_effect) := goodIn_app (goodIn_of _ (by decide +kernel)) ggL_law_X4_effect
set_option maxRecDepth 20000 in
theorem ggL_law_L_clause : GoodIn wsL_law wsL_clause := goodIn_ca (goodIn_ca (goodIn_r _ [180, 106, 155, 181, 182, 183, 2, 184, 160, 161, 44, 46, 119, 120, 121, 111, 112, 185, 186, 187, 521, 522, 523, 524, 525, 526, 527, 528, 529] (by decide +kernel) (by decide +kernel)) (goodIn_sub (fun _ h => List.mem_append_left _ (List.mem_append_left _ (List.mem_append_right _ h))) (by decide +kernel))) (goodIn_sub (fun _ h => List.mem_append_left _ (List.mem_append_left _ (List.mem_append_left _ (List.mem_append_left _ (List.mem_append_right _ h))))) (by decide +kernel))
set_option maxRecDepth 20000 in
theorem gL_law_L_clause : GoodIn wsL_law (va_wsS RL 89 yL_clause wsL_clause) := goodIn_app (goodIn_of _ (by decide +kernel)) ggL_law_L_clause
set_option maxRecDepth 20000 in
theorem ggL_law_X4_clause : GoodIn wsL_law wsX4_clause := goodIn_r _ [191, 95, 96, 69, 70, 144, 145, 5, 146, 137, 138, 139, 140, 141, 142, 143, 530, 531, 532, 533, 534, 535, 536, 537, 538, 539, 540, 541, 542, 543, 544, 545, 546, 547, 548, 549, 550, 551, 552, 553, 554, 555, 556, 557, 558, 559, 560, 561, 562] (by decide +kernel) (by decide +kernel)
set_option maxRecDepth 20000 in
theorem gL_law_X4_clause : GoodIn wsL_law (wsV RL 92 RX4 yX4_clause wsX4_clause) := goodIn_app (goodIn_of _ (by decide +kernel)) ggL_law_X4_clause
set_option maxRecDepth 20000 in
theorem ggL_law_L_goal : GoodIn wsL_law wsL_goal := goodIn_ca (goodIn_r _ [194, 106, 195, 196, 197, 2, 198, 47, 119, 120, 121, 111, 112, 122, 123, 124, 199, 200, 201, 202, 203, 204, 205, 521, 522, 523, 524, 525, 526, 527, 528, 529] (by decide +kernel) (by decide +kernel)) (goodIn_sub (fun _ h => List.mem_append_left _ (List.mem_append_left _ (List.mem_append_left _ (List.mem_append_left _ (List.mem_append_right _ h))))) (by decide +kernel))
set_option maxRecDepth 20000 in
theorem gL_law_L_goal : GoodIn wsL_law (va_wsS RL 93 yL_goal wsL_goal) := goodIn_app (goodIn_of _ (by decide +kernel)) ggL_law_L_goal
set_option maxRecDepth 20000 in
theorem ggL_law_X4_goal : GoodIn wsL_law wsX4_goal := goodIn_r _ [209, 95, 97, 98, 144, 145, 5, 146, 137, 138, 139, 140, 141, 142, 143, 210, 211, 212, 530, 531, 532, 533, 534, 535, 536, 537, 538, 539, 540, 541, 542, 543, 544, 545, 546, 547, 548, 549, 550, 551, 552, 553, 554, 555, 556, 557, 558, 559, 560, 561, 562] (by decide +kernel) (by decide +kernel)
set_option maxRecDepth 20000 in
theorem gL_law_X4_goal : GoodIn wsL_law (wsV RL 95 RX4 yX4_goal wsX4_goal) := goodIn_app (goodIn_of _ (by decide +kernel)) ggL_law_X4_goal
set_option maxRecDepth 20000 in
theorem ggL_law_X3_start : GoodIn wsL_law wsX3_start := goodIn_r _ [216, 46, 521, 522, 523, 524, 525, 526, 527, 528, 529] (by decide +kernel) (by decide +kernel)
set_option maxRecDepth 20000 in
theorem gL_law_X3_start : GoodIn wsL_law (wsV RL 96 RX3 yX3_start wsX3_start) := goodIn_app (goodIn_of _ (by decide +kernel)) ggL_law_X3_start
set_option maxRecDepth 20000 in
theorem ggL_law_X4_start : GoodIn wsL_law wsX4_start := goodIn_r _ [220, 95, 221, 222, 223, 5, 224, 96, 69, 70, 530, 531, 532, 533, 534, 535, 536, 537, 538, 539, 540, 541, 542, 543, 544, 545, 546, 547, 548, 549, 550, 551, 552, 553, 554, 555, 556, 557, 558, 559, 560, 561, 562] (by decide +kernel) (by decide +kernel)
set_option maxRecDepth 20000 in
theorem gL_law_X4_start : GoodIn wsL_law (wsV RL 99 RX4 yX4_start wsX4_start) := goodIn_app (goodIn_of _ (by decide +kernel)) ggL_law_X4_start
set_option maxRecDepth 20000 in
theorem ggL_law_L_behind : GoodIn wsL_law wsL_behind := goodIn_ca (goodIn_ca (goodIn_ca (goodIn_ca (goodIn_r _ [227, 105, 154, 106, 228, 229, 230, 231, 2, 232, 111, 112, 233, 234, 45, 14, 114, 115, 116, 117, 118, 162, 163, 164, 165, 166, 167, 235, 236, 237, 26, 238, 129, 130, 239, 240, 241, 242, 39, 172, 173, 521, 522, 523, 524, 525, 526, 527, 528, 529, 568, 569, 570, 571, 572] (by decide +kernel) (by decide +kernel)) (goodIn_sub (fun _ h => List.mem_append_left _ (List.mem_append_left _ (List.mem_append_left _ (List.mem_append_left _ (List.mem_append_right _ h))))) (by decide +kernel))) (goodIn_sub (fun _ h => List.mem_append_right _ h) (by decide +kernel))) (goodIn_sub (fun _ h => List.mem_append_left _ (List.mem_append_left _ (List.mem_append_left _ (List.mem_append_right _ h)))) (by decide +kernel))) (goodIn_sub (fun _ h => List.mem_append_left _ (List.mem_append_right _ h)) (by decide +kernel))
set_option maxRecDepth 20000 in
theorem gL_law_L_behind : GoodIn wsL_law (va_wsS RL 100 yL_behind wsL_behind) := goodIn_app (goodIn_of _ (by decide +kernel)) ggL_law_L_behind
set_option maxRecDepth 20000 in
theorem ggL_law_X4_behind : GoodIn wsL_law wsX4_behind := goodIn_r _ [246, 95, 60, 247, 137, 138, 5, 139, 140, 141, 142, 143, 248, 249, 250, 251, 61, 62, 210, 211, 212, 252, 253, 254, 255, 256, 257, 258, 259, 64, 67, 68, 66, 65, 530, 531, 532, 533, 534, 535, 536, 537, 538, 539, 540, 541, 542, 543, 544, 545, 546, 547, 548, 549, 550, 551, 552, 553, 554, 555, 556, 557, 558, 559, 560, 561, 562] (by decide +kernel) (by decide +kernel)
set_option maxRecDepth 20000 in
theorem gL_law_X4_behind : GoodIn wsL_law (wsV RL 102 RX4 yX4_behind wsX4_behind) := goodIn_app (goodIn_of _ (by decide +kernel)) ggL_law_X4_behind
set_option maxRecDepth 20000 in
theorem ggL_law_L_least : GoodIn wsL_law wsL_least := goodIn_ca (goodIn_ca (goodIn_r _ [262, 106, 154, 263, 264, 265, 2, 266, 111, 112, 45, 267, 268, 269, 270, 271, 272, 273, 274, 275, 276, 277, 278, 279, 280, 281, 47, 282, 283, 284, 285, 14, 235, 236, 237, 26, 238, 129, 130, 286, 287, 288, 289, 239, 240, 241, 242, 39, 172, 173, 290, 291, 292, 293, 131, 294, 295, 296, 166, 167, 521, 522, 523, 524, 525, 526, 527, 528, 529, 568, 569, 570, 571, 572] (by decide +kernel) (by decide +kernel)) (goodIn_sub (fun _ h => List.mem_append_left _ (List.mem_append_left _ (List.mem_append_left _ (List.mem_append_left _ (List.mem_append_right _ h))))) (by decide +kernel))) (goodIn_sub (fun _ h => List.mem_append_left _ (List.mem_append_right _ h)) (by decide +kernel))
set_option maxRecDepth 20000 in
theorem gL_law_L_least : GoodIn wsL_law (va_wsS RL 103 yL_least wsL_least) := goodIn_app (goodIn_of _ (by decide +kernel)) ggL_law_L_least
set_option maxRecDepth 20000 in
theorem ggL_law_X4_least : GoodIn wsL_law wsX4_least := goodIn_r _ [300, 95, 247, 137, 138, 5, 139, 140, 141, 142, 143, 301, 302, 303, 304, 305, 306, 307, 308, 74, 75, 76, 309, 310, 311, 312, 97, 98, 210, 211, 212, 248, 249, 250, 251, 60, 61, 62, 313, 314, 315, 316, 63, 252, 253, 254, 255, 256, 257, 258, 259, 64, 67, 68, 66, 65, 530, 531, 532, 533, 534, 535, 536, 537, 538, 539, 540, 541, 542, 543, 544, 545, 546, 547, 548, 549, 550, 551, 552, 553, 554, 555, 556, 557, 558, 559, 560, 561, 562] (by decide +kernel) (by decide +kernel)
set_option maxRecDepth 20000 in
theorem gL_law_X4_least : GoodIn wsL_law (wsV RL 105 RX4 yX4_least wsX4_least) := goodIn_app (goodIn_of _ (by decide +kernel)) ggL_law_X4_least
set_option maxRecDepth 20000 in
theorem ggL_law_L_plan : GoodIn wsL_law wsL_plan := goodIn_ca (goodIn_ca (goodIn_ca (goodIn_r _ [319, 106, 155, 154, 320, 321, 322, 2, 323, 160, 161, 46, 18, 267, 268, 269, 111, 112, 270, 271, 272, 273, 274, 275, 276, 277, 278, 279, 280, 281, 47, 282, 283, 284, 285, 14, 235, 236, 237, 26, 238, 129, 130, 286, 287, 288, 289, 239, 240, 241, 242, 39, 172, 173, 290, 291, 292, 293, 131, 294, 295, 296, 166, 167, 50, 51, 52, 17, 53, 54, 324, 325, 326, 327, 328, 329, 330, 331, 332, 333, 334, 335, 30, 336, 337, 338, 339, 340, 341, 342, 343, 344, 345, 346, 347, 521, 522, 523, 524, 525, 526, 527, 528, 529, 568, 569, 570, 571, 572, 563, 564] (by decide +kernel) (by decide +kernel)) (goodIn_sub (fun _ h => List.mem_append_left _ (List.mem_append_left _ (List.mem_append_right _ h))) (by decide +kernel))) (goodIn_sub (fun _ h => List.mem_append_left _ (List.mem_append_left _ (List.mem_append_left _ (List.mem_append_left _ (List.mem_append_right _ h))))) (by decide +kernel))) (goodIn_sub (fun _ h => List.mem_append_left _ (List.mem_append_right _ h)) (by decide +kernel))
set_option maxRecDepth 20000 in
theorem gL_law_L_plan : GoodIn wsL_law (va_wsS RL 106 yL_plan wsL_plan) := goodIn_app (goodIn_of _ (by decide +kernel)) ggL_law_L_plan
set_option maxRecDepth 20000 in
theorem ggL_law_X4_plan : GoodIn wsL_law wsX4_plan := goodIn_r _ [351, 95, 137, 138, 5, 139, 140, 141, 142, 143, 221, 222, 223, 224, 96, 69, 70, 301, 302, 303, 304, 305, 306, 307, 308, 74, 75, 76, 309, 310, 311, 312, 97, 98, 210, 211, 212, 248, 249, 250, 251, 60, 61, 62, 313, 314, 315, 316, 63, 252, 253, 254, 255, 256, 257, 258, 259, 64, 67, 68, 66, 65, 352, 353, 354, 355, 77, 80, 79, 356, 357, 358, 359, 360, 361, 362, 78, 363, 364, 365, 366, 367, 368, 369, 370, 371, 372, 373, 374, 375, 376, 377, 378, 99, 81, 71, 72, 73, 530, 531, 532, 533, 534, 535, 536, 537, 538, 539, 540, 541, 542, 543, 544, 545, 546, 547, 548, 549, 550, 551, 552, 553, 554, 555, 556, 557, 558, 559, 560, 561, 562] (by decide +kernel) (by decide +kernel)
set_option maxRecDepth 20000 in
theorem gL_law_X4_plan : GoodIn wsL_law (wsV RL 109 RX4 yX4_plan wsX4_plan) := goodIn_app (goodIn_of _ (by decide +kernel)) ggL_law_X4_plan
set_option maxRecDepth 20000 in
theorem ggL_law_X3_nodes : GoodIn wsL_law wsX3_nodes := goodIn_r _ [382, 18, 521, 522, 523, 524, 525, 526, 527, 528, 529, 563, 564] (by decide +kernel) (by decide +kernel)
set_option maxRecDepth 20000 in
theorem gL_law_X3_nodes : GoodIn wsL_law (wsV RL 110 RX3 yX3_nodes wsX3_nodes) := goodIn_app (goodIn_of _ (by decide +kernel)) ggL_law_X3_nodes
set_option maxRecDepth 20000 in
theorem ggL_law_X4_nodes : GoodIn wsL_law wsX4_nodes := goodIn_r _ [386, 95, 99, 530, 531, 532, 533, 534, 535, 536, 537, 538, 539, 540, 541, 542, 543, 544, 545, 546, 547, 548, 549, 550, 551, 552, 553, 554, 555, 556, 557, 558, 559, 560, 561, 562] (by decide +kernel) (by decide +kernel)
set_option maxRecDepth 20000 in
theorem gL_law_X4_nodes : GoodIn wsL_law (wsV RL 113 RX4 yX4_nodes wsX4_nodes) := goodIn_app (goodIn_of _ (by decide +kernel)) ggL_law_X4_nodes
set_option maxRecDepth 20000 in
theorem ggL_law_L_node : GoodIn wsL_law wsL_node := goodIn_ca (goodIn_r _ [389, 105, 390, 391, 392, 2, 393, 117, 118, 18, 394, 395, 396, 397, 398, 341, 342, 17, 343, 30, 521, 522, 523, 524, 525, 526, 527, 528, 529, 563, 564] (by decide +kernel) (by decide +kernel)) (goodIn_sub (fun _ h => List.mem_append_left _ (List.mem_append_left _ (List.mem_append_left _ (List.mem_append_right _ h)))) (by decide +kernel))
set_option maxRecDepth 20000 in
theorem gL_law_L_node : GoodIn wsL_law (va_wsS RL 114 yL_node wsL_node) := goodIn_app (goodIn_of _ (by decide +kernel)) ggL_law_L_node
set_option maxRecDepth 20000 in
theorem ggL_law_X4_node : GoodIn wsL_law wsX4_node := goodIn_r _ [402, 95, 99, 71, 72, 73, 137, 138, 5, 139, 140, 141, 142, 143, 530, 531, 532, 533, 534, 535, 536, 537, 538, 539, 540, 541, 542, 543, 544, 545, 546, 547, 548, 549, 550, 551, 552, 553, 554, 555, 556, 557, 558, 559, 560, 561, 562] (by decide +kernel) (by decide +kernel)
set_option maxRecDepth 20000 in
theorem gL_law_X4_node : GoodIn wsL_law (wsV RL 116 RX4 yX4_node wsX4_node) := goodIn_app (goodIn_of _ (by decide +kernel)) ggL_law_X4_node
set_option maxRecDepth 20000 in
theorem ggL_law_L_edit : GoodIn wsL_law wsL_edit := goodIn_ca (goodIn_ca (goodIn_ca (goodIn_r _ [405, 105, 154, 228, 406, 407, 408, 2, 409, 233, 234, 18, 394, 395, 396, 397, 117, 118, 114, 115, 116, 162, 163, 164, 165, 166, 167, 14, 398, 341, 342, 17, 343, 30, 410, 333, 334, 335, 521, 522, 523, 524, 525, 526, 527, 528, 529, 563, 564, 568, 569, 570, 571, 572] (by decide +kernel) (by decide +kernel)) (goodIn_sub (fun _ h => List.mem_append_right _ h) (by decide +kernel))) (goodIn_sub (fun _ h => List.mem_append_left _ (List.mem_append_left _ (List.mem_append_left _ (List.mem_append_right _ h)))) (by decide +kernel))) (goodIn_sub (fun _ h => List.mem_append_left _ (List.mem_append_right _ h)) (by decide +kernel))
set_option maxRecDepth 20000 in
theorem gL_law_L_edit : GoodIn wsL_law (va_wsS RL 117 yL_edit wsL_edit) := goodIn_app (goodIn_of _ (by decide +kernel)) ggL_law_L_edit
set_option maxRecDepth 20000 in
theorem ggL_law_X4_edit : GoodIn wsL_law wsX4_edit := goodIn_r _ [414, 95, 99, 60, 71, 137, 138, 5, 139, 140, 141, 142, 143, 530, 531, 532, 533, 534, 535, 536, 537, 538, 539, 540, 541, 542, 543, 544, 545, 546, 547, 548, 549, 550, 551, 552, 553, 554, 555, 556, 557, 558, 559, 560, 561, 562] (by decide +kernel) (by decide +kernel)
set_option maxRecDepth 20000 in
theorem gL_law_X4_edit : GoodIn wsL_law (wsV RL 119 RX4 yX4_edit wsX4_edit) := goodIn_app (goodIn_of _ (by decide +kernel)) ggL_law_X4_edit
set_option maxRecDepth 20000 in
theorem ggL_law_L_right : GoodIn wsL_law wsL_right := goodIn_ca (goodIn_r _ [417, 155, 418, 419, 420, 2, 421, 46, 422, 423, 424, 425, 160, 161, 18, 426, 427, 428, 429, 14, 398, 341, 342, 17, 343, 30, 278, 279, 280, 281, 47, 235, 236, 237, 26, 238, 129, 130, 239, 240, 241, 242, 39, 172, 173, 290, 291, 292, 293, 131, 521, 522, 523, 524, 525, 526, 527, 528, 529, 563, 564, 568, 569, 570, 571, 572] (by decide +kernel) (by decide +kernel)) (goodIn_sub (fun _ h => List.mem_append_left _ (List.mem_append_left _ (List.mem_append_right _ h))) (by decide +kernel))
set_option maxRecDepth 20000 in
theorem gL_law_L_right : GoodIn wsL_law (va_wsS RL 120 yL_right wsL_right) := goodIn_app (goodIn_of _ (by decide +kernel)) ggL_law_L_right
set_option maxRecDepth 20000 in
theorem ggL_law_X4_right : GoodIn wsL_law wsX4_right := goodIn_r _ [433, 95, 99, 81, 82, 71, 72, 73, 140, 141, 142, 5, 143, 221, 222, 223, 224, 96, 69, 70, 309, 310, 311, 312, 97, 98, 210, 211, 212, 248, 249, 250, 251, 60, 61, 62, 313, 314, 315, 316, 63, 252, 253, 254, 255, 256, 257, 258, 259, 64, 67, 68, 66, 65, 530, 531, 532, 533, 534, 535, 536, 537, 538, 539, 540, 541, 542, 543, 544, 545, 546, 547, 548, 549, 550, 551, 552, 553, 554, 555, 556, 557, 558, 559, 560, 561, 562] (by decide +kernel) (by decide +kernel)
set_option maxRecDepth 20000 in
theorem gL_law_X4_right : GoodIn wsL_law (wsV RL 123 RX4 yX4_right wsX4_right) := goodIn_app (goodIn_of _ (by decide +kernel)) ggL_law_X4_right
set_option maxRecDepth 20000 in
theorem ggL_law_L_hide : GoodIn wsL_law wsL_hide := goodIn_ca (goodIn_r _ [436, 106, 437, 438, 439, 2, 440, 111, 112, 48, 46, 441, 172, 173, 521, 522, 523, 524, 525, 526, 527, 528, 529] (by decide +kernel) (by decide +kernel)) (goodIn_sub (fun _ h => List.mem_append_left _ (List.mem_append_left _ (List.mem_append_left _ (List.mem_append_left _ (List.mem_append_right _ h))))) (by decide +kernel))
set_option maxRecDepth 20000 in
theorem gL_law_L_hide : GoodIn wsL_law (va_wsS RL 124 yL_hide wsL_hide) := goodIn_app (goodIn_of _ (by decide +kernel)) ggL_law_L_hide
set_option maxRecDepth 20000 in
theorem ggL_law_X4_hide : GoodIn wsL_law wsX4_hide := goodIn_r _ [445, 95, 83, 137, 138, 5, 139, 140, 141, 142, 143, 221, 222, 223, 224, 96, 69, 70, 530, 531, 532, 533, 534, 535, 536, 537, 538, 539, 540, 541, 542, 543, 544, 545, 546, 547, 548, 549, 550, 551, 552, 553, 554, 555, 556, 557, 558, 559, 560, 561, 562] (by decide +kernel) (by decide +kernel)

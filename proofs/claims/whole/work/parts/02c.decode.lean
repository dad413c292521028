theorem d_M_seals_64 : decode c_M_seals 64 = .ok (.iload_n 3, 1) := by decide +kernel
theorem d_M_seals_65 : decode c_M_seals 65 = .ok (.iaload, 1) := by decide +kernel
theorem d_M_seals_66 : decode c_M_seals 66 = .ok (.if_icmp .ge 203, 3) := by decide +kernel
theorem d_M_seals_69 : decode c_M_seals 69 = .ok (.bipush 12, 2) := by decide +kernel
theorem d_M_seals_71 : decode c_M_seals 71 = .ok (.iload_n 3, 1) := by decide +kernel
theorem d_M_seals_72 : decode c_M_seals 72 = .ok (.imul, 1) := by decide +kernel
theorem d_M_seals_73 : decode c_M_seals 73 = .ok (.iload 4, 2) := by decide +kernel
theorem d_M_seals_75 : decode c_M_seals 75 = .ok (.iadd, 1) := by decide +kernel
theorem d_M_seals_76 : decode c_M_seals 76 = .ok (.istore 5, 2) := by decide +kernel
theorem d_M_seals_78 : decode c_M_seals 78 = .ok (.aload_n 0, 1) := by decide +kernel
theorem d_M_seals_79 : decode c_M_seals 79 = .ok (.getfield 32, 3) := by decide +kernel
theorem d_M_seals_82 : decode c_M_seals 82 = .ok (.iload_n 3, 1) := by decide +kernel
theorem d_M_seals_83 : decode c_M_seals 83 = .ok (.iload 4, 2) := by decide +kernel
theorem d_M_seals_85 : decode c_M_seals 85 = .ok (.ifCond .eq 19, 3) := by decide +kernel
theorem d_M_seals_88 : decode c_M_seals 88 = .ok (.aload_n 0, 1) := by decide +kernel
theorem d_M_seals_89 : decode c_M_seals 89 = .ok (.getfield 19, 3) := by decide +kernel
theorem d_M_seals_92 : decode c_M_seals 92 = .ok (.iload 5, 2) := by decide +kernel
theorem d_M_seals_94 : decode c_M_seals 94 = .ok (.iaload, 1) := by decide +kernel
theorem d_M_seals_95 : decode c_M_seals 95 = .ok (.aload_n 0, 1) := by decide +kernel
theorem d_M_seals_96 : decode c_M_seals 96 = .ok (.getfield 32, 3) := by decide +kernel
theorem d_M_seals_99 : decode c_M_seals 99 = .ok (.iload_n 3, 1) := by decide +kernel
theorem d_M_seals_100 : decode c_M_seals 100 = .ok (.iaload, 1) := by decide +kernel
theorem d_M_seals_101 : decode c_M_seals 101 = .ok (.if_icmp .ge 13, 3) := by decide +kernel
theorem d_M_seals_104 : decode c_M_seals 104 = .ok (.aload_n 0, 1) := by decide +kernel
theorem d_M_seals_105 : decode c_M_seals 105 = .ok (.getfield 19, 3) := by decide +kernel
theorem d_M_seals_108 : decode c_M_seals 108 = .ok (.iload 5, 2) := by decide +kernel
theorem d_M_seals_110 : decode c_M_seals 110 = .ok (.iaload, 1) := by decide +kernel
theorem d_M_seals_111 : decode c_M_seals 111 = .ok (.goto 9, 3) := by decide +kernel
theorem d_M_seals_114 : decode c_M_seals 114 = .ok (.aload_n 0, 1) := by decide +kernel
theorem d_M_seals_115 : decode c_M_seals 115 = .ok (.getfield 32, 3) := by decide +kernel
theorem d_M_seals_118 : decode c_M_seals 118 = .ok (.iload_n 3, 1) := by decide +kernel
theorem d_M_seals_119 : decode c_M_seals 119 = .ok (.iaload, 1) := by decide +kernel
theorem d_M_seals_120 : decode c_M_seals 120 = .ok (.iastore, 1) := by decide +kernel
theorem d_M_seals_121 : decode c_M_seals 121 = .ok (.aload_n 0, 1) := by decide +kernel
theorem d_M_seals_122 : decode c_M_seals 122 = .ok (.getfield 35, 3) := by decide +kernel
theorem d_M_seals_125 : decode c_M_seals 125 = .ok (.iload_n 3, 1) := by decide +kernel
theorem d_M_seals_126 : decode c_M_seals 126 = .ok (.iload 4, 2) := by decide +kernel
theorem d_M_seals_128 : decode c_M_seals 128 = .ok (.ifCond .eq 19, 3) := by decide +kernel
theorem d_M_seals_131 : decode c_M_seals 131 = .ok (.aload_n 0, 1) := by decide +kernel
theorem d_M_seals_132 : decode c_M_seals 132 = .ok (.getfield 19, 3) := by decide +kernel
theorem d_M_seals_135 : decode c_M_seals 135 = .ok (.iload 5, 2) := by decide +kernel
theorem d_M_seals_137 : decode c_M_seals 137 = .ok (.iaload, 1) := by decide +kernel
theorem d_M_seals_138 : decode c_M_seals 138 = .ok (.aload_n 0, 1) := by decide +kernel
theorem d_M_seals_139 : decode c_M_seals 139 = .ok (.getfield 35, 3) := by decide +kernel
theorem d_M_seals_142 : decode c_M_seals 142 = .ok (.iload_n 3, 1) := by decide +kernel
theorem d_M_seals_143 : decode c_M_seals 143 = .ok (.iaload, 1) := by decide +kernel
theorem d_M_seals_144 : decode c_M_seals 144 = .ok (.if_icmp .le 13, 3) := by decide +kernel
theorem d_M_seals_147 : decode c_M_seals 147 = .ok (.aload_n 0, 1) := by decide +kernel
theorem d_M_seals_148 : decode c_M_seals 148 = .ok (.getfield 19, 3) := by decide +kernel
theorem d_M_seals_151 : decode c_M_seals 151 = .ok (.iload 5, 2) := by decide +kernel
theorem d_M_seals_153 : decode c_M_seals 153 = .ok (.iaload, 1) := by decide +kernel
theorem d_M_seals_154 : decode c_M_seals 154 = .ok (.goto 9, 3) := by decide +kernel
theorem d_M_seals_157 : decode c_M_seals 157 = .ok (.aload_n 0, 1) := by decide +kernel
theorem d_M_seals_158 : decode c_M_seals 158 = .ok (.getfield 35, 3) := by decide +kernel
theorem d_M_seals_161 : decode c_M_seals 161 = .ok (.iload_n 3, 1) := by decide +kernel
theorem d_M_seals_162 : decode c_M_seals 162 = .ok (.iaload, 1) := by decide +kernel
theorem d_M_seals_163 : decode c_M_seals 163 = .ok (.iastore, 1) := by decide +kernel
theorem d_M_seals_164 : decode c_M_seals 164 = .ok (.aload_n 0, 1) := by decide +kernel
theorem d_M_seals_165 : decode c_M_seals 165 = .ok (.getfield 38, 3) := by decide +kernel
theorem d_M_seals_168 : decode c_M_seals 168 = .ok (.iconst 4, 1) := by decide +kernel
theorem d_M_seals_169 : decode c_M_seals 169 = .ok (.iload_n 3, 1) := by decide +kernel
theorem d_M_seals_170 : decode c_M_seals 170 = .ok (.imul, 1) := by decide +kernel
theorem d_M_seals_171 : decode c_M_seals 171 = .ok (.aload_n 0, 1) := by decide +kernel
theorem d_M_seals_172 : decode c_M_seals 172 = .ok (.getfield 16, 3) := by decide +kernel
theorem d_M_seals_175 : decode c_M_seals 175 = .ok (.iload 5, 2) := by decide +kernel
theorem d_M_seals_177 : decode c_M_seals 177 = .ok (.iaload, 1) := by decide +kernel
theorem d_M_seals_178 : decode c_M_seals 178 = .ok (.iadd, 1) := by decide +kernel
theorem d_M_seals_179 : decode c_M_seals 179 = .ok (.dup2, 1) := by decide +kernel
theorem d_M_seals_180 : decode c_M_seals 180 = .ok (.iaload, 1) := by decide +kernel
theorem d_M_seals_181 : decode c_M_seals 181 = .ok (.iconst 1, 1) := by decide +kernel
theorem d_M_seals_182 : decode c_M_seals 182 = .ok (.iadd, 1) := by decide +kernel
theorem d_M_seals_183 : decode c_M_seals 183 = .ok (.iastore, 1) := by decide +kernel
theorem d_M_seals_184 : decode c_M_seals 184 = .ok (.aload_n 0, 1) := by decide +kernel
theorem d_M_seals_185 : decode c_M_seals 185 = .ok (.getfield 22, 3) := by decide +kernel
theorem d_M_seals_188 : decode c_M_seals 188 = .ok (.iload 5, 2) := by decide +kernel
theorem d_M_seals_190 : decode c_M_seals 190 = .ok (.iconst 0, 1) := by decide +kernel
theorem d_M_seals_191 : decode c_M_seals 191 = .ok (.bastore, 1) := by decide +kernel
theorem d_M_seals_192 : decode c_M_seals 192 = .ok (.iconst 0, 1) := by decide +kernel
theorem d_M_seals_193 : decode c_M_seals 193 = .ok (.istore 6, 2) := by decide +kernel
theorem d_M_seals_195 : decode c_M_seals 195 = .ok (.iload 6, 2) := by decide +kernel
theorem d_M_seals_197 : decode c_M_seals 197 = .ok (.aload_n 0, 1) := by decide +kernel
theorem d_M_seals_198 : decode c_M_seals 198 = .ok (.getfield 47, 3) := by decide +kernel
theorem d_M_seals_201 : decode c_M_seals 201 = .ok (.iload_n 1, 1) := by decide +kernel
theorem d_M_seals_202 : decode c_M_seals 202 = .ok (.iaload, 1) := by decide +kernel
theorem d_M_seals_203 : decode c_M_seals 203 = .ok (.if_icmp .ge 32, 3) := by decide +kernel
theorem d_M_seals_206 : decode c_M_seals 206 = .ok (.aload_n 0, 1) := by decide +kernel
theorem d_M_seals_207 : decode c_M_seals 207 = .ok (.getfield 22, 3) := by decide +kernel
theorem d_M_seals_210 : decode c_M_seals 210 = .ok (.iload 5, 2) := by decide +kernel
theorem d_M_seals_212 : decode c_M_seals 212 = .ok (.dup2, 1) := by decide +kernel
theorem d_M_seals_213 : decode c_M_seals 213 = .ok (.baload, 1) := by decide +kernel
theorem d_M_seals_214 : decode c_M_seals 214 = .ok (.aload_n 0, 1) := by decide +kernel
theorem d_M_seals_215 : decode c_M_seals 215 = .ok (.iconst 4, 1) := by decide +kernel
theorem d_M_seals_216 : decode c_M_seals 216 = .ok (.iload_n 1, 1) := by decide +kernel
theorem d_M_seals_217 : decode c_M_seals 217 = .ok (.imul, 1) := by decide +kernel
theorem d_M_seals_218 : decode c_M_seals 218 = .ok (.iload 6, 2) := by decide +kernel
theorem d_M_seals_220 : decode c_M_seals 220 = .ok (.iadd, 1) := by decide +kernel
theorem d_M_seals_221 : decode c_M_seals 221 = .ok (.iload_n 3, 1) := by decide +kernel
theorem d_M_seals_222 : decode c_M_seals 222 = .ok (.iload 4, 2) := by decide +kernel
theorem d_M_seals_224 : decode c_M_seals 224 = .ok (.invokevirtual 103, 3) := by decide +kernel
theorem d_M_seals_227 : decode c_M_seals 227 = .ok (.ior, 1) := by decide +kernel
theorem d_M_seals_228 : decode c_M_seals 228 = .ok (.bastore, 1) := by decide +kernel
theorem d_M_seals_229 : decode c_M_seals 229 = .ok (.iinc 6 1, 3) := by decide +kernel
theorem d_M_seals_232 : decode c_M_seals 232 = .ok (.goto (-37), 3) := by decide +kernel
theorem d_M_seals_235 : decode c_M_seals 235 = .ok (.aload_n 0, 1) := by decide +kernel
theorem d_M_seals_236 : decode c_M_seals 236 = .ok (.getfield 26, 3) := by decide +kernel
theorem d_M_seals_239 : decode c_M_seals 239 = .ok (.iload 5, 2) := by decide +kernel
theorem d_M_seals_241 : decode c_M_seals 241 = .ok (.aload_n 0, 1) := by decide +kernel
theorem d_M_seals_242 : decode c_M_seals 242 = .ok (.getfield 22, 3) := by decide +kernel
theorem d_M_seals_245 : decode c_M_seals 245 = .ok (.iload 5, 2) := by decide +kernel
theorem d_M_seals_247 : decode c_M_seals 247 = .ok (.baload, 1) := by decide +kernel
theorem d_M_seals_248 : decode c_M_seals 248 = .ok (.bastore, 1) := by decide +kernel
theorem d_M_seals_249 : decode c_M_seals 249 = .ok (.aload_n 0, 1) := by decide +kernel
theorem d_M_seals_250 : decode c_M_seals 250 = .ok (.getfield 29, 3) := by decide +kernel
theorem d_M_seals_253 : decode c_M_seals 253 = .ok (.iload 5, 2) := by decide +kernel
theorem d_M_seals_255 : decode c_M_seals 255 = .ok (.aload_n 0, 1) := by decide +kernel
theorem d_M_seals_256 : decode c_M_seals 256 = .ok (.getfield 19, 3) := by decide +kernel
theorem d_M_seals_259 : decode c_M_seals 259 = .ok (.iload 5, 2) := by decide +kernel
theorem d_M_seals_261 : decode c_M_seals 261 = .ok (.iaload, 1) := by decide +kernel
theorem d_M_seals_262 : decode c_M_seals 262 = .ok (.iastore, 1) := by decide +kernel
theorem d_M_seals_263 : decode c_M_seals 263 = .ok (.iinc 4 1, 3) := by decide +kernel
theorem d_M_seals_266 : decode c_M_seals 266 = .ok (.goto (-208), 3) := by decide +kernel
theorem d_M_seals_269 : decode c_M_seals 269 = .ok (.return_, 1) := by decide +kernel
theorem d_M_seal_0 : decode c_M_seal 0 = .ok (.iload_n 1, 1) := by decide +kernel
theorem d_M_seal_1 : decode c_M_seal 1 = .ok (.invokestatic 78, 3) := by decide +kernel
theorem d_M_seal_4 : decode c_M_seal 4 = .ok (.ifCond .ne 6, 3) := by decide +kernel
theorem d_M_seal_7 : decode c_M_seal 7 = .ok (.bipush (-2), 2) := by decide +kernel
theorem d_M_seal_9 : decode c_M_seal 9 = .ok (.ireturn, 1) := by decide +kernel
theorem d_M_seal_10 : decode c_M_seal 10 = .ok (.aload_n 0, 1) := by decide +kernel
theorem d_M_seal_11 : decode c_M_seal 11 = .ok (.getfield 44, 3) := by decide +kernel
theorem d_M_seal_14 : decode c_M_seal 14 = .ok (.iload_n 1, 1) := by decide +kernel
theorem d_M_seal_15 : decode c_M_seal 15 = .ok (.baload, 1) := by decide +kernel
theorem d_M_seal_16 : decode c_M_seal 16 = .ok (.ifCond .eq 6, 3) := by decide +kernel
theorem d_M_seal_19 : decode c_M_seal 19 = .ok (.bipush (-3), 2) := by decide +kernel
theorem d_M_seal_21 : decode c_M_seal 21 = .ok (.ireturn, 1) := by decide +kernel
theorem d_M_seal_22 : decode c_M_seal 22 = .ok (.aload_n 0, 1) := by decide +kernel
theorem d_M_seal_23 : decode c_M_seal 23 = .ok (.getfield 44, 3) := by decide +kernel
theorem d_M_seal_26 : decode c_M_seal 26 = .ok (.iload_n 1, 1) := by decide +kernel
theorem d_M_seal_27 : decode c_M_seal 27 = .ok (.iconst 1, 1) := by decide +kernel
theorem d_M_seal_28 : decode c_M_seal 28 = .ok (.bastore, 1) := by decide +kernel
theorem d_M_seal_29 : decode c_M_seal 29 = .ok (.iconst 0, 1) := by decide +kernel
theorem d_M_seal_30 : decode c_M_seal 30 = .ok (.istore_n 2, 1) := by decide +kernel
theorem d_M_seal_31 : decode c_M_seal 31 = .ok (.iload_n 2, 1) := by decide +kernel
theorem d_M_seal_32 : decode c_M_seal 32 = .ok (.bipush 8, 2) := by decide +kernel
theorem d_M_seal_34 : decode c_M_seal 34 = .ok (.if_icmp .ge 15, 3) := by decide +kernel
theorem d_M_seal_37 : decode c_M_seal 37 = .ok (.aload_n 0, 1) := by decide +kernel
theorem d_M_seal_38 : decode c_M_seal 38 = .ok (.iload_n 1, 1) := by decide +kernel
theorem d_M_seal_39 : decode c_M_seal 39 = .ok (.iload_n 2, 1) := by decide +kernel
theorem d_M_seal_40 : decode c_M_seal 40 = .ok (.invokevirtual 106, 3) := by decide +kernel
theorem d_M_seal_43 : decode c_M_seal 43 = .ok (.iinc 2 1, 3) := by decide +kernel
theorem d_M_seal_46 : decode c_M_seal 46 = .ok (.goto (-15), 3) := by decide +kernel
theorem d_M_seal_49 : decode c_M_seal 49 = .ok (.aload_n 0, 1) := by decide +kernel
theorem d_M_seal_50 : decode c_M_seal 50 = .ok (.iload_n 1, 1) := by decide +kernel
theorem d_M_seal_51 : decode c_M_seal 51 = .ok (.invokevirtual 110, 3) := by decide +kernel
theorem d_M_seal_54 : decode c_M_seal 54 = .ok (.ireturn, 1) := by decide +kernel
theorem d_M_unknownOf_0 : decode c_M_unknownOf 0 = .ok (.iconst 0, 1) := by decide +kernel
theorem d_M_unknownOf_1 : decode c_M_unknownOf 1 = .ok (.istore_n 2, 1) := by decide +kernel
theorem d_M_unknownOf_2 : decode c_M_unknownOf 2 = .ok (.iconst 0, 1) := by decide +kernel
theorem d_M_unknownOf_3 : decode c_M_unknownOf 3 = .ok (.istore_n 3, 1) := by decide +kernel
theorem d_M_unknownOf_4 : decode c_M_unknownOf 4 = .ok (.iload_n 3, 1) := by decide +kernel
theorem d_M_unknownOf_5 : decode c_M_unknownOf 5 = .ok (.aload_n 0, 1) := by decide +kernel
theorem d_M_unknownOf_6 : decode c_M_unknownOf 6 = .ok (.getfield 7, 3) := by decide +kernel
theorem d_M_unknownOf_9 : decode c_M_unknownOf 9 = .ok (.iload_n 1, 1) := by decide +kernel
theorem d_M_unknownOf_10 : decode c_M_unknownOf 10 = .ok (.iaload, 1) := by decide +kernel
theorem d_M_unknownOf_11 : decode c_M_unknownOf 11 = .ok (.if_icmp .ge 31, 3) := by decide +kernel
theorem d_M_unknownOf_14 : decode c_M_unknownOf 14 = .ok (.iload_n 2, 1) := by decide +kernel
theorem d_M_unknownOf_15 : decode c_M_unknownOf 15 = .ok (.aload_n 0, 1) := by decide +kernel
theorem d_M_unknownOf_16 : decode c_M_unknownOf 16 = .ok (.getfield 22, 3) := by decide +kernel
theorem d_M_unknownOf_19 : decode c_M_unknownOf 19 = .ok (.bipush 12, 2) := by decide +kernel
theorem d_M_unknownOf_21 : decode c_M_unknownOf 21 = .ok (.iload_n 1, 1) := by decide +kernel
theorem d_M_unknownOf_22 : decode c_M_unknownOf 22 = .ok (.imul, 1) := by decide +kernel
theorem d_M_unknownOf_23 : decode c_M_unknownOf 23 = .ok (.iload_n 3, 1) := by decide +kernel
theorem d_M_unknownOf_24 : decode c_M_unknownOf 24 = .ok (.iadd, 1) := by decide +kernel
theorem d_M_unknownOf_25 : decode c_M_unknownOf 25 = .ok (.baload, 1) := by decide +kernel
theorem d_M_unknownOf_26 : decode c_M_unknownOf 26 = .ok (.ifCond .eq 7, 3) := by decide +kernel
theorem d_M_unknownOf_29 : decode c_M_unknownOf 29 = .ok (.iconst 0, 1) := by decide +kernel
theorem d_M_unknownOf_30 : decode c_M_unknownOf 30 = .ok (.goto 4, 3) := by decide +kernel
theorem d_M_unknownOf_33 : decode c_M_unknownOf 33 = .ok (.iconst 1, 1) := by decide +kernel
theorem d_M_unknownOf_34 : decode c_M_unknownOf 34 = .ok (.iadd, 1) := by decide +kernel
theorem d_M_unknownOf_35 : decode c_M_unknownOf 35 = .ok (.istore_n 2, 1) := by decide +kernel
theorem d_M_unknownOf_36 : decode c_M_unknownOf 36 = .ok (.iinc 3 1, 3) := by decide +kernel
theorem d_M_unknownOf_39 : decode c_M_unknownOf 39 = .ok (.goto (-35), 3) := by decide +kernel
theorem d_M_unknownOf_42 : decode c_M_unknownOf 42 = .ok (.iload_n 2, 1) := by decide +kernel
theorem d_M_unknownOf_43 : decode c_M_unknownOf 43 = .ok (.ireturn, 1) := by decide +kernel
theorem d_M_rowsOf_0 : decode c_M_rowsOf 0 = .ok (.iconst 0, 1) := by decide +kernel
theorem d_M_rowsOf_1 : decode c_M_rowsOf 1 = .ok (.istore_n 2, 1) := by decide +kernel
theorem d_M_rowsOf_2 : decode c_M_rowsOf 2 = .ok (.iconst 0, 1) := by decide +kernel
theorem d_M_rowsOf_3 : decode c_M_rowsOf 3 = .ok (.istore_n 3, 1) := by decide +kernel
theorem d_M_rowsOf_4 : decode c_M_rowsOf 4 = .ok (.iload_n 3, 1) := by decide +kernel
theorem d_M_rowsOf_5 : decode c_M_rowsOf 5 = .ok (.bipush 8, 2) := by decide +kernel
theorem d_M_rowsOf_7 : decode c_M_rowsOf 7 = .ok (.if_icmp .ge 23, 3) := by decide +kernel
theorem d_M_rowsOf_10 : decode c_M_rowsOf 10 = .ok (.iload_n 2, 1) := by decide +kernel
theorem d_M_rowsOf_11 : decode c_M_rowsOf 11 = .ok (.aload_n 0, 1) := by decide +kernel
theorem d_M_rowsOf_12 : decode c_M_rowsOf 12 = .ok (.getfield 7, 3) := by decide +kernel
theorem d_M_rowsOf_15 : decode c_M_rowsOf 15 = .ok (.bipush 8, 2) := by decide +kernel
theorem d_M_rowsOf_17 : decode c_M_rowsOf 17 = .ok (.iload_n 1, 1) := by decide +kernel
theorem d_M_rowsOf_18 : decode c_M_rowsOf 18 = .ok (.imul, 1) := by decide +kernel
theorem d_M_rowsOf_19 : decode c_M_rowsOf 19 = .ok (.iload_n 3, 1) := by decide +kernel
theorem d_M_rowsOf_20 : decode c_M_rowsOf 20 = .ok (.iadd, 1) := by decide +kernel
theorem d_M_rowsOf_21 : decode c_M_rowsOf 21 = .ok (.iaload, 1) := by decide +kernel
theorem d_M_rowsOf_22 : decode c_M_rowsOf 22 = .ok (.iadd, 1) := by decide +kernel
theorem d_M_rowsOf_23 : decode c_M_rowsOf 23 = .ok (.istore_n 2, 1) := by decide +kernel
theorem d_M_rowsOf_24 : decode c_M_rowsOf 24 = .ok (.iinc 3 1, 3) := by decide +kernel
theorem d_M_rowsOf_27 : decode c_M_rowsOf 27 = .ok (.goto (-23), 3) := by decide +kernel
theorem d_M_rowsOf_30 : decode c_M_rowsOf 30 = .ok (.iload_n 2, 1) := by decide +kernel
theorem d_M_rowsOf_31 : decode c_M_rowsOf 31 = .ok (.ireturn, 1) := by decide +kernel
theorem d_M_knownOf_0 : decode c_M_knownOf 0 = .ok (.aload_n 0, 1) := by decide +kernel
theorem d_M_knownOf_1 : decode c_M_knownOf 1 = .ok (.iload_n 1, 1) := by decide +kernel
theorem d_M_knownOf_2 : decode c_M_knownOf 2 = .ok (.invokevirtual 113, 3) := by decide +kernel
theorem d_M_knownOf_5 : decode c_M_knownOf 5 = .ok (.istore_n 2, 1) := by decide +kernel
theorem d_M_knownOf_6 : decode c_M_knownOf 6 = .ok (.iconst 0, 1) := by decide +kernel
theorem d_M_knownOf_7 : decode c_M_knownOf 7 = .ok (.istore_n 3, 1) := by decide +kernel
theorem d_M_knownOf_8 : decode c_M_knownOf 8 = .ok (.iload_n 3, 1) := by decide +kernel
theorem d_M_knownOf_9 : decode c_M_knownOf 9 = .ok (.bipush 8, 2) := by decide +kernel
theorem d_M_knownOf_11 : decode c_M_knownOf 11 = .ok (.if_icmp .ge 22, 3) := by decide +kernel
theorem d_M_knownOf_14 : decode c_M_knownOf 14 = .ok (.iload_n 2, 1) := by decide +kernel
theorem d_M_knownOf_15 : decode c_M_knownOf 15 = .ok (.aload_n 0, 1) := by decide +kernel
theorem d_M_knownOf_16 : decode c_M_knownOf 16 = .ok (.bipush 8, 2) := by decide +kernel
theorem d_M_knownOf_18 : decode c_M_knownOf 18 = .ok (.iload_n 1, 1) := by decide +kernel
theorem d_M_knownOf_19 : decode c_M_knownOf 19 = .ok (.imul, 1) := by decide +kernel
theorem d_M_knownOf_20 : decode c_M_knownOf 20 = .ok (.iload_n 3, 1) := by decide +kernel
theorem d_M_knownOf_21 : decode c_M_knownOf 21 = .ok (.iadd, 1) := by decide +kernel
theorem d_M_knownOf_22 : decode c_M_knownOf 22 = .ok (.invokevirtual 116, 3) := by decide +kernel
theorem d_M_knownOf_25 : decode c_M_knownOf 25 = .ok (.isub, 1) := by decide +kernel
theorem d_M_knownOf_26 : decode c_M_knownOf 26 = .ok (.istore_n 2, 1) := by decide +kernel
theorem d_M_knownOf_27 : decode c_M_knownOf 27 = .ok (.iinc 3 1, 3) := by decide +kernel
theorem d_M_knownOf_30 : decode c_M_knownOf 30 = .ok (.goto (-22), 3) := by decide +kernel
theorem d_M_knownOf_33 : decode c_M_knownOf 33 = .ok (.iload_n 2, 1) := by decide +kernel
theorem d_M_knownOf_34 : decode c_M_knownOf 34 = .ok (.ireturn, 1) := by decide +kernel
theorem d_M_clear_0 : decode c_M_clear 0 = .ok (.iload_n 1, 1) := by decide +kernel
theorem d_M_clear_1 : decode c_M_clear 1 = .ok (.invokestatic 78, 3) := by decide +kernel
theorem d_M_clear_4 : decode c_M_clear 4 = .ok (.ifCond .ne 6, 3) := by decide +kernel
theorem d_M_clear_7 : decode c_M_clear 7 = .ok (.bipush (-2), 2) := by decide +kernel
theorem d_M_clear_9 : decode c_M_clear 9 = .ok (.ireturn, 1) := by decide +kernel
theorem d_M_clear_10 : decode c_M_clear 10 = .ok (.aload_n 0, 1) := by decide +kernel
theorem d_M_clear_11 : decode c_M_clear 11 = .ok (.iload_n 1, 1) := by decide +kernel
theorem d_M_clear_12 : decode c_M_clear 12 = .ok (.invokevirtual 113, 3) := by decide +kernel
theorem d_M_clear_15 : decode c_M_clear 15 = .ok (.istore_n 2, 1) := by decide +kernel
theorem d_M_clear_16 : decode c_M_clear 16 = .ok (.iconst 0, 1) := by decide +kernel
theorem d_M_clear_17 : decode c_M_clear 17 = .ok (.istore_n 3, 1) := by decide +kernel
theorem d_M_clear_18 : decode c_M_clear 18 = .ok (.iload_n 3, 1) := by decide +kernel
theorem d_M_clear_19 : decode c_M_clear 19 = .ok (.bipush 8, 2) := by decide +kernel
theorem d_M_clear_21 : decode c_M_clear 21 = .ok (.if_icmp .ge 21, 3) := by decide +kernel
theorem d_M_clear_24 : decode c_M_clear 24 = .ok (.aload_n 0, 1) := by decide +kernel
theorem d_M_clear_25 : decode c_M_clear 25 = .ok (.getfield 7, 3) := by decide +kernel
theorem d_M_clear_28 : decode c_M_clear 28 = .ok (.bipush 8, 2) := by decide +kernel
theorem d_M_clear_30 : decode c_M_clear 30 = .ok (.iload_n 1, 1) := by decide +kernel
theorem d_M_clear_31 : decode c_M_clear 31 = .ok (.imul, 1) := by decide +kernel
theorem d_M_clear_32 : decode c_M_clear 32 = .ok (.iload_n 3, 1) := by decide +kernel
theorem d_M_clear_33 : decode c_M_clear 33 = .ok (.iadd, 1) := by decide +kernel
theorem d_M_clear_34 : decode c_M_clear 34 = .ok (.iconst 0, 1) := by decide +kernel
theorem d_M_clear_35 : decode c_M_clear 35 = .ok (.iastore, 1) := by decide +kernel
theorem d_M_clear_36 : decode c_M_clear 36 = .ok (.iinc 3 1, 3) := by decide +kernel
theorem d_M_clear_39 : decode c_M_clear 39 = .ok (.goto (-21), 3) := by decide +kernel
theorem d_M_clear_42 : decode c_M_clear 42 = .ok (.aload_n 0, 1) := by decide +kernel
theorem d_M_clear_43 : decode c_M_clear 43 = .ok (.getfield 47, 3) := by decide +kernel
theorem d_M_clear_46 : decode c_M_clear 46 = .ok (.iload_n 1, 1) := by decide +kernel
theorem d_M_clear_47 : decode c_M_clear 47 = .ok (.iconst 0, 1) := by decide +kernel
theorem d_M_clear_48 : decode c_M_clear 48 = .ok (.iastore, 1) := by decide +kernel
theorem d_M_clear_49 : decode c_M_clear 49 = .ok (.aload_n 0, 1) := by decide +kernel
theorem d_M_clear_50 : decode c_M_clear 50 = .ok (.getfield 44, 3) := by decide +kernel
theorem d_M_clear_53 : decode c_M_clear 53 = .ok (.iload_n 1, 1) := by decide +kernel
theorem d_M_clear_54 : decode c_M_clear 54 = .ok (.iconst 0, 1) := by decide +kernel
theorem d_M_clear_55 : decode c_M_clear 55 = .ok (.bastore, 1) := by decide +kernel
theorem d_M_clear_56 : decode c_M_clear 56 = .ok (.iload_n 2, 1) := by decide +kernel
theorem d_M_clear_57 : decode c_M_clear 57 = .ok (.ireturn, 1) := by decide +kernel
theorem d_M_readsAll_0 : decode c_M_readsAll 0 = .ok (.aload_n 0, 1) := by decide +kernel
theorem d_M_readsAll_1 : decode c_M_readsAll 1 = .ok (.iload_n 1, 1) := by decide +kernel
theorem d_M_readsAll_2 : decode c_M_readsAll 2 = .ok (.invokevirtual 116, 3) := by decide +kernel
theorem d_M_readsAll_5 : decode c_M_readsAll 5 = .ok (.istore_n 2, 1) := by decide +kernel
theorem d_M_readsAll_6 : decode c_M_readsAll 6 = .ok (.iconst 0, 1) := by decide +kernel
theorem d_M_readsAll_7 : decode c_M_readsAll 7 = .ok (.istore_n 3, 1) := by decide +kernel
theorem d_M_readsAll_8 : decode c_M_readsAll 8 = .ok (.iload_n 3, 1) := by decide +kernel
theorem d_M_readsAll_9 : decode c_M_readsAll 9 = .ok (.aload_n 0, 1) := by decide +kernel
theorem d_M_readsAll_10 : decode c_M_readsAll 10 = .ok (.getfield 7, 3) := by decide +kernel
theorem d_M_readsAll_13 : decode c_M_readsAll 13 = .ok (.iload_n 1, 1) := by decide +kernel
theorem d_M_readsAll_14 : decode c_M_readsAll 14 = .ok (.iaload, 1) := by decide +kernel
theorem d_M_readsAll_15 : decode c_M_readsAll 15 = .ok (.if_icmp .ge 21, 3) := by decide +kernel
theorem d_M_readsAll_18 : decode c_M_readsAll 18 = .ok (.aload_n 0, 1) := by decide +kernel
theorem d_M_readsAll_19 : decode c_M_readsAll 19 = .ok (.getfield 22, 3) := by decide +kernel
theorem d_M_readsAll_22 : decode c_M_readsAll 22 = .ok (.bipush 12, 2) := by decide +kernel
theorem d_M_readsAll_24 : decode c_M_readsAll 24 = .ok (.iload_n 1, 1) := by decide +kernel
theorem d_M_readsAll_25 : decode c_M_readsAll 25 = .ok (.imul, 1) := by decide +kernel
theorem d_M_readsAll_26 : decode c_M_readsAll 26 = .ok (.iload_n 3, 1) := by decide +kernel
theorem d_M_readsAll_27 : decode c_M_readsAll 27 = .ok (.iadd, 1) := by decide +kernel
theorem d_M_readsAll_28 : decode c_M_readsAll 28 = .ok (.iconst 1, 1) := by decide +kernel
theorem d_M_readsAll_29 : decode c_M_readsAll 29 = .ok (.bastore, 1) := by decide +kernel
theorem d_M_readsAll_30 : decode c_M_readsAll 30 = .ok (.iinc 3 1, 3) := by decide +kernel
theorem d_M_readsAll_33 : decode c_M_readsAll 33 = .ok (.goto (-25), 3) := by decide +kernel
theorem d_M_readsAll_36 : decode c_M_readsAll 36 = .ok (.aload_n 0, 1) := by decide +kernel
theorem d_M_readsAll_37 : decode c_M_readsAll 37 = .ok (.dup, 1) := by decide +kernel
theorem d_M_readsAll_38 : decode c_M_readsAll 38 = .ok (.getfield 119, 3) := by decide +kernel
theorem d_M_readsAll_41 : decode c_M_readsAll 41 = .ok (.iload_n 2, 1) := by decide +kernel
theorem d_M_readsAll_42 : decode c_M_readsAll 42 = .ok (.ifCond .le 7, 3) := by decide +kernel
theorem d_M_readsAll_45 : decode c_M_readsAll 45 = .ok (.iconst 1, 1) := by decide +kernel
theorem d_M_readsAll_46 : decode c_M_readsAll 46 = .ok (.goto 4, 3) := by decide +kernel
theorem d_M_readsAll_49 : decode c_M_readsAll 49 = .ok (.iconst 0, 1) := by decide +kernel
theorem d_M_readsAll_50 : decode c_M_readsAll 50 = .ok (.iadd, 1) := by decide +kernel
theorem d_M_readsAll_51 : decode c_M_readsAll 51 = .ok (.putfield 119, 3) := by decide +kernel
theorem d_M_readsAll_54 : decode c_M_readsAll 54 = .ok (.iload_n 2, 1) := by decide +kernel
theorem d_M_readsAll_55 : decode c_M_readsAll 55 = .ok (.ireturn, 1) := by decide +kernel
theorem d_M_read_0 : decode c_M_read 0 = .ok (.iload_n 1, 1) := by decide +kernel
theorem d_M_read_1 : decode c_M_read 1 = .ok (.iload_n 2, 1) := by decide +kernel
theorem d_M_read_2 : decode c_M_read 2 = .ok (.invokestatic 82, 3) := by decide +kernel
theorem d_M_read_5 : decode c_M_read 5 = .ok (.ifCond .ne 6, 3) := by decide +kernel
theorem d_M_read_8 : decode c_M_read 8 = .ok (.bipush (-2), 2) := by decide +kernel
theorem d_M_read_10 : decode c_M_read 10 = .ok (.ireturn, 1) := by decide +kernel
theorem d_M_read_11 : decode c_M_read 11 = .ok (.aload_n 0, 1) := by decide +kernel
theorem d_M_read_12 : decode c_M_read 12 = .ok (.getfield 44, 3) := by decide +kernel
theorem d_M_read_15 : decode c_M_read 15 = .ok (.iload_n 1, 1) := by decide +kernel
theorem d_M_read_16 : decode c_M_read 16 = .ok (.baload, 1) := by decide +kernel
theorem d_M_read_17 : decode c_M_read 17 = .ok (.ifCond .eq 16, 3) := by decide +kernel
theorem d_M_read_20 : decode c_M_read 20 = .ok (.aload_n 0, 1) := by decide +kernel
theorem d_M_read_21 : decode c_M_read 21 = .ok (.bipush 8, 2) := by decide +kernel
theorem d_M_read_23 : decode c_M_read 23 = .ok (.iload_n 1, 1) := by decide +kernel
theorem d_M_read_24 : decode c_M_read 24 = .ok (.imul, 1) := by decide +kernel
theorem d_M_read_25 : decode c_M_read 25 = .ok (.iload_n 2, 1) := by decide +kernel
theorem d_M_read_26 : decode c_M_read 26 = .ok (.iadd, 1) := by decide +kernel
theorem d_M_read_27 : decode c_M_read 27 = .ok (.invokevirtual 123, 3) := by decide +kernel
theorem d_M_read_30 : decode c_M_read 30 = .ok (.goto 5, 3) := by decide +kernel
theorem d_M_read_33 : decode c_M_read 33 = .ok (.bipush (-3), 2) := by decide +kernel
theorem d_M_read_35 : decode c_M_read 35 = .ok (.ireturn, 1) := by decide +kernel
theorem d_M_isRowAt_0 : decode c_M_isRowAt 0 = .ok (.iload_n 1, 1) := by decide +kernel
theorem d_M_isRowAt_1 : decode c_M_isRowAt 1 = .ok (.iload_n 2, 1) := by decide +kernel
theorem d_M_isRowAt_2 : decode c_M_isRowAt 2 = .ok (.invokestatic 82, 3) := by decide +kernel
theorem d_M_isRowAt_5 : decode c_M_isRowAt 5 = .ok (.ifCond .eq 28, 3) := by decide +kernel
theorem d_M_isRowAt_8 : decode c_M_isRowAt 8 = .ok (.iload_n 3, 1) := by decide +kernel
theorem d_M_isRowAt_9 : decode c_M_isRowAt 9 = .ok (.iconst 0, 1) := by decide +kernel
theorem d_M_isRowAt_10 : decode c_M_isRowAt 10 = .ok (.aload_n 0, 1) := by decide +kernel
theorem d_M_isRowAt_11 : decode c_M_isRowAt 11 = .ok (.getfield 7, 3) := by decide +kernel
theorem d_M_isRowAt_14 : decode c_M_isRowAt 14 = .ok (.bipush 8, 2) := by decide +kernel
theorem d_M_isRowAt_16 : decode c_M_isRowAt 16 = .ok (.iload_n 1, 1) := by decide +kernel
theorem d_M_isRowAt_17 : decode c_M_isRowAt 17 = .ok (.imul, 1) := by decide +kernel
theorem d_M_isRowAt_18 : decode c_M_isRowAt 18 = .ok (.iload_n 2, 1) := by decide +kernel
theorem d_M_isRowAt_19 : decode c_M_isRowAt 19 = .ok (.iadd, 1) := by decide +kernel
theorem d_M_isRowAt_20 : decode c_M_isRowAt 20 = .ok (.iaload, 1) := by decide +kernel
theorem d_M_isRowAt_21 : decode c_M_isRowAt 21 = .ok (.iconst 1, 1) := by decide +kernel
theorem d_M_isRowAt_22 : decode c_M_isRowAt 22 = .ok (.isub, 1) := by decide +kernel
theorem d_M_isRowAt_23 : decode c_M_isRowAt 23 = .ok (.invokestatic 74, 3) := by decide +kernel
theorem d_M_isRowAt_26 : decode c_M_isRowAt 26 = .ok (.ifCond .eq 7, 3) := by decide +kernel
theorem d_M_isRowAt_29 : decode c_M_isRowAt 29 = .ok (.iconst 1, 1) := by decide +kernel
theorem d_M_isRowAt_30 : decode c_M_isRowAt 30 = .ok (.goto 4, 3) := by decide +kernel
theorem d_M_isRowAt_33 : decode c_M_isRowAt 33 = .ok (.iconst 0, 1) := by decide +kernel
theorem d_M_isRowAt_34 : decode c_M_isRowAt 34 = .ok (.ireturn, 1) := by decide +kernel
theorem d_M_change_0 : decode c_M_change 0 = .ok (.aload_n 0, 1) := by decide +kernel
theorem d_M_change_1 : decode c_M_change 1 = .ok (.iload_n 1, 1) := by decide +kernel
theorem d_M_change_2 : decode c_M_change 2 = .ok (.iload_n 2, 1) := by decide +kernel
theorem d_M_change_3 : decode c_M_change 3 = .ok (.iload_n 3, 1) := by decide +kernel
theorem d_M_change_4 : decode c_M_change 4 = .ok (.invokevirtual 126, 3) := by decide +kernel
theorem d_M_change_7 : decode c_M_change 7 = .ok (.ifCond .eq 17, 3) := by decide +kernel
theorem d_M_change_10 : decode c_M_change 10 = .ok (.iload 4, 2) := by decide +kernel
theorem d_M_change_12 : decode c_M_change 12 = .ok (.sipush (-1000), 3) := by decide +kernel
theorem d_M_change_15 : decode c_M_change 15 = .ok (.sipush 1000, 3) := by decide +kernel
theorem d_M_change_18 : decode c_M_change 18 = .ok (.invokestatic 74, 3) := by decide +kernel
theorem d_M_change_21 : decode c_M_change 21 = .ok (.ifCond .ne 6, 3) := by decide +kernel
theorem d_M_change_24 : decode c_M_change 24 = .ok (.bipush (-2), 2) := by decide +kernel
theorem d_M_change_26 : decode c_M_change 26 = .ok (.ireturn, 1) := by decide +kernel
theorem d_M_change_27 : decode c_M_change 27 = .ok (.aload_n 0, 1) := by decide +kernel
theorem d_M_change_28 : decode c_M_change 28 = .ok (.getfield 44, 3) := by decide +kernel
theorem d_M_change_31 : decode c_M_change 31 = .ok (.iload_n 1, 1) := by decide +kernel
theorem d_M_change_32 : decode c_M_change 32 = .ok (.baload, 1) := by decide +kernel
theorem d_M_change_33 : decode c_M_change 33 = .ok (.ifCond .ne 6, 3) := by decide +kernel
theorem d_M_change_36 : decode c_M_change 36 = .ok (.bipush (-3), 2) := by decide +kernel
theorem d_M_change_38 : decode c_M_change 38 = .ok (.ireturn, 1) := by decide +kernel
theorem d_M_change_39 : decode c_M_change 39 = .ok (.bipush 8, 2) := by decide +kernel
theorem d_M_change_41 : decode c_M_change 41 = .ok (.iload_n 1, 1) := by decide +kernel
theorem d_M_change_42 : decode c_M_change 42 = .ok (.imul, 1) := by decide +kernel
theorem d_M_change_43 : decode c_M_change 43 = .ok (.iload_n 2, 1) := by decide +kernel
theorem d_M_change_44 : decode c_M_change 44 = .ok (.iadd, 1) := by decide +kernel
theorem d_M_change_45 : decode c_M_change 45 = .ok (.istore 5, 2) := by decide +kernel
theorem d_M_change_47 : decode c_M_change 47 = .ok (.bipush 12, 2) := by decide +kernel
theorem d_M_change_49 : decode c_M_change 49 = .ok (.iload 5, 2) := by decide +kernel
theorem d_M_change_51 : decode c_M_change 51 = .ok (.imul, 1) := by decide +kernel
theorem d_M_change_52 : decode c_M_change 52 = .ok (.iload_n 3, 1) := by decide +kernel
theorem d_M_change_53 : decode c_M_change 53 = .ok (.iadd, 1) := by decide +kernel
theorem d_M_change_54 : decode c_M_change 54 = .ok (.istore 6, 2) := by decide +kernel
theorem d_M_change_56 : decode c_M_change 56 = .ok (.aload_n 0, 1) := by decide +kernel
theorem d_M_change_57 : decode c_M_change 57 = .ok (.getfield 41, 3) := by decide +kernel
theorem d_M_change_60 : decode c_M_change 60 = .ok (.iload 5, 2) := by decide +kernel
theorem d_M_change_62 : decode c_M_change 62 = .ok (.dup2, 1) := by decide +kernel
theorem d_M_change_63 : decode c_M_change 63 = .ok (.baload, 1) := by decide +kernel
theorem d_M_change_64 : decode c_M_change 64 = .ok (.aload_n 0, 1) := by decide +kernel
theorem d_M_change_65 : decode c_M_change 65 = .ok (.getfield 22, 3) := by decide +kernel
theorem d_M_change_68 : decode c_M_change 68 = .ok (.iload 6, 2) := by decide +kernel
theorem d_M_change_70 : decode c_M_change 70 = .ok (.baload, 1) := by decide +kernel
theorem d_M_change_71 : decode c_M_change 71 = .ok (.ifCond .ne 7, 3) := by decide +kernel
theorem d_M_change_74 : decode c_M_change 74 = .ok (.iconst 1, 1) := by decide +kernel
theorem d_M_change_75 : decode c_M_change 75 = .ok (.goto 4, 3) := by decide +kernel
theorem d_M_change_78 : decode c_M_change 78 = .ok (.iconst 0, 1) := by decide +kernel
theorem d_M_change_79 : decode c_M_change 79 = .ok (.ior, 1) := by decide +kernel
theorem d_M_change_80 : decode c_M_change 80 = .ok (.bastore, 1) := by decide +kernel
theorem d_M_change_81 : decode c_M_change 81 = .ok (.aload_n 0, 1) := by decide +kernel
theorem d_M_change_82 : decode c_M_change 82 = .ok (.getfield 22, 3) := by decide +kernel
theorem d_M_change_85 : decode c_M_change 85 = .ok (.iload 6, 2) := by decide +kernel
theorem d_M_change_87 : decode c_M_change 87 = .ok (.iconst 1, 1) := by decide +kernel
theorem d_M_change_88 : decode c_M_change 88 = .ok (.bastore, 1) := by decide +kernel
theorem d_M_change_89 : decode c_M_change 89 = .ok (.aload_n 0, 1) := by decide +kernel
theorem d_M_change_90 : decode c_M_change 90 = .ok (.getfield 19, 3) := by decide +kernel
theorem d_M_change_93 : decode c_M_change 93 = .ok (.iload 6, 2) := by decide +kernel
theorem d_M_change_95 : decode c_M_change 95 = .ok (.iload 4, 2) := by decide +kernel
theorem d_M_change_97 : decode c_M_change 97 = .ok (.iastore, 1) := by decide +kernel
theorem d_M_change_98 : decode c_M_change 98 = .ok (.iconst 1, 1) := by decide +kernel
theorem d_M_change_99 : decode c_M_change 99 = .ok (.ireturn, 1) := by decide +kernel
theorem d_M_value_0 : decode c_M_value 0 = .ok (.aload_n 0, 1) := by decide +kernel
theorem d_M_value_1 : decode c_M_value 1 = .ok (.iload_n 1, 1) := by decide +kernel
theorem d_M_value_2 : decode c_M_value 2 = .ok (.iload_n 2, 1) := by decide +kernel
theorem d_M_value_3 : decode c_M_value 3 = .ok (.iload_n 3, 1) := by decide +kernel
theorem d_M_value_4 : decode c_M_value 4 = .ok (.invokevirtual 126, 3) := by decide +kernel
theorem d_M_value_7 : decode c_M_value 7 = .ok (.ifCond .eq 12, 3) := by decide +kernel
theorem d_M_value_10 : decode c_M_value 10 = .ok (.aload_n 0, 1) := by decide +kernel
theorem d_M_value_11 : decode c_M_value 11 = .ok (.getfield 44, 3) := by decide +kernel
theorem d_M_value_14 : decode c_M_value 14 = .ok (.iload_n 1, 1) := by decide +kernel
theorem d_M_value_15 : decode c_M_value 15 = .ok (.baload, 1) := by decide +kernel
theorem d_M_value_16 : decode c_M_value 16 = .ok (.ifCond .ne 6, 3) := by decide +kernel
theorem d_M_value_19 : decode c_M_value 19 = .ok (.ldc 129, 2) := by decide +kernel
theorem d_M_value_21 : decode c_M_value 21 = .ok (.ireturn, 1) := by decide +kernel
theorem d_M_value_22 : decode c_M_value 22 = .ok (.bipush 12, 2) := by decide +kernel
theorem d_M_value_24 : decode c_M_value 24 = .ok (.bipush 8, 2) := by decide +kernel
theorem d_M_value_26 : decode c_M_value 26 = .ok (.iload_n 1, 1) := by decide +kernel
theorem d_M_value_27 : decode c_M_value 27 = .ok (.imul, 1) := by decide +kernel
theorem d_M_value_28 : decode c_M_value 28 = .ok (.iload_n 2, 1) := by decide +kernel
theorem d_M_value_29 : decode c_M_value 29 = .ok (.iadd, 1) := by decide +kernel
theorem d_M_value_30 : decode c_M_value 30 = .ok (.imul, 1) := by decide +kernel
theorem d_M_value_31 : decode c_M_value 31 = .ok (.iload_n 3, 1) := by decide +kernel
theorem d_M_value_32 : decode c_M_value 32 = .ok (.iadd, 1) := by decide +kernel
theorem d_M_value_33 : decode c_M_value 33 = .ok (.istore 4, 2) := by decide +kernel
theorem d_M_value_35 : decode c_M_value 35 = .ok (.aload_n 0, 1) := by decide +kernel
theorem d_M_value_36 : decode c_M_value 36 = .ok (.getfield 22, 3) := by decide +kernel
theorem d_M_value_39 : decode c_M_value 39 = .ok (.iload 4, 2) := by decide +kernel
theorem d_M_value_41 : decode c_M_value 41 = .ok (.baload, 1) := by decide +kernel
theorem d_M_value_42 : decode c_M_value 42 = .ok (.ifCond .eq 13, 3) := by decide +kernel
theorem d_M_value_45 : decode c_M_value 45 = .ok (.aload_n 0, 1) := by decide +kernel
theorem d_M_value_46 : decode c_M_value 46 = .ok (.getfield 19, 3) := by decide +kernel
theorem d_M_value_49 : decode c_M_value 49 = .ok (.iload 4, 2) := by decide +kernel
theorem d_M_value_51 : decode c_M_value 51 = .ok (.iaload, 1) := by decide +kernel
theorem d_M_value_52 : decode c_M_value 52 = .ok (.goto 5, 3) := by decide +kernel
theorem d_M_value_55 : decode c_M_value 55 = .ok (.ldc 129, 2) := by decide +kernel
theorem d_M_value_57 : decode c_M_value 57 = .ok (.ireturn, 1) := by decide +kernel
theorem d_M_heavyOf_0 : decode c_M_heavyOf 0 = .ok (.sipush 1001, 3) := by decide +kernel
theorem d_M_heavyOf_3 : decode c_M_heavyOf 3 = .ok (.istore_n 2, 1) := by decide +kernel
theorem d_M_heavyOf_4 : decode c_M_heavyOf 4 = .ok (.iconst 4, 1) := by decide +kernel
theorem d_M_heavyOf_5 : decode c_M_heavyOf 5 = .ok (.iload_n 1, 1) := by decide +kernel
theorem d_M_heavyOf_6 : decode c_M_heavyOf 6 = .ok (.imul, 1) := by decide +kernel
theorem d_M_heavyOf_7 : decode c_M_heavyOf 7 = .ok (.istore_n 3, 1) := by decide +kernel
theorem d_M_heavyOf_8 : decode c_M_heavyOf 8 = .ok (.iload_n 3, 1) := by decide +kernel
theorem d_M_heavyOf_9 : decode c_M_heavyOf 9 = .ok (.iconst 4, 1) := by decide +kernel
theorem d_M_heavyOf_10 : decode c_M_heavyOf 10 = .ok (.iload_n 1, 1) := by decide +kernel
theorem d_M_heavyOf_11 : decode c_M_heavyOf 11 = .ok (.imul, 1) := by decide +kernel
theorem d_M_heavyOf_12 : decode c_M_heavyOf 12 = .ok (.aload_n 0, 1) := by decide +kernel
theorem d_M_heavyOf_13 : decode c_M_heavyOf 13 = .ok (.getfield 47, 3) := by decide +kernel
theorem d_M_heavyOf_16 : decode c_M_heavyOf 16 = .ok (.iload_n 1, 1) := by decide +kernel
theorem d_M_heavyOf_17 : decode c_M_heavyOf 17 = .ok (.iaload, 1) := by decide +kernel
theorem d_M_heavyOf_18 : decode c_M_heavyOf 18 = .ok (.iadd, 1) := by decide +kernel
theorem d_M_heavyOf_19 : decode c_M_heavyOf 19 = .ok (.if_icmp .ge 40, 3) := by decide +kernel
theorem d_M_heavyOf_22 : decode c_M_heavyOf 22 = .ok (.aload_n 0, 1) := by decide +kernel
theorem d_M_heavyOf_23 : decode c_M_heavyOf 23 = .ok (.getfield 50, 3) := by decide +kernel
theorem d_M_heavyOf_26 : decode c_M_heavyOf 26 = .ok (.iload_n 3, 1) := by decide +kernel
theorem d_M_heavyOf_27 : decode c_M_heavyOf 27 = .ok (.iaload, 1) := by decide +kernel
theorem d_M_heavyOf_28 : decode c_M_heavyOf 28 = .ok (.iconst 3, 1) := by decide +kernel
theorem d_M_heavyOf_29 : decode c_M_heavyOf 29 = .ok (.if_icmp .ne 22, 3) := by decide +kernel
theorem d_M_heavyOf_32 : decode c_M_heavyOf 32 = .ok (.aload_n 0, 1) := by decide +kernel
theorem d_M_heavyOf_33 : decode c_M_heavyOf 33 = .ok (.getfield 53, 3) := by decide +kernel
theorem d_M_heavyOf_36 : decode c_M_heavyOf 36 = .ok (.iload_n 3, 1) := by decide +kernel
theorem d_M_heavyOf_37 : decode c_M_heavyOf 37 = .ok (.iaload, 1) := by decide +kernel
theorem d_M_heavyOf_38 : decode c_M_heavyOf 38 = .ok (.iload_n 2, 1) := by decide +kernel
theorem d_M_heavyOf_39 : decode c_M_heavyOf 39 = .ok (.if_icmp .ge 12, 3) := by decide +kernel
theorem d_M_heavyOf_42 : decode c_M_heavyOf 42 = .ok (.aload_n 0, 1) := by decide +kernel
theorem d_M_heavyOf_43 : decode c_M_heavyOf 43 = .ok (.getfield 53, 3) := by decide +kernel
theorem d_M_heavyOf_46 : decode c_M_heavyOf 46 = .ok (.iload_n 3, 1) := by decide +kernel
theorem d_M_heavyOf_47 : decode c_M_heavyOf 47 = .ok (.iaload, 1) := by decide +kernel
theorem d_M_heavyOf_48 : decode c_M_heavyOf 48 = .ok (.goto 4, 3) := by decide +kernel
theorem d_M_heavyOf_51 : decode c_M_heavyOf 51 = .ok (.iload_n 2, 1) := by decide +kernel
theorem d_M_heavyOf_52 : decode c_M_heavyOf 52 = .ok (.istore_n 2, 1) := by decide +kernel
theorem d_M_heavyOf_53 : decode c_M_heavyOf 53 = .ok (.iinc 3 1, 3) := by decide +kernel
theorem d_M_heavyOf_56 : decode c_M_heavyOf 56 = .ok (.goto (-48), 3) := by decide +kernel
theorem d_M_heavyOf_59 : decode c_M_heavyOf 59 = .ok (.iload_n 2, 1) := by decide +kernel
theorem d_M_heavyOf_60 : decode c_M_heavyOf 60 = .ok (.ireturn, 1) := by decide +kernel
theorem d_M_lowOf_0 : decode c_M_lowOf 0 = .ok (.iconst 1, 1) := by decide +kernel
theorem d_M_lowOf_1 : decode c_M_lowOf 1 = .ok (.aload_n 0, 1) := by decide +kernel
theorem d_M_lowOf_2 : decode c_M_lowOf 2 = .ok (.iload_n 1, 1) := by decide +kernel
theorem d_M_lowOf_3 : decode c_M_lowOf 3 = .ok (.invokevirtual 130, 3) := by decide +kernel
theorem d_M_lowOf_6 : decode c_M_lowOf 6 = .ok (.isub, 1) := by decide +kernel
theorem d_M_lowOf_7 : decode c_M_lowOf 7 = .ok (.istore_n 3, 1) := by decide +kernel
theorem d_M_lowOf_8 : decode c_M_lowOf 8 = .ok (.aload_n 0, 1) := by decide +kernel
theorem d_M_lowOf_9 : decode c_M_lowOf 9 = .ok (.getfield 32, 3) := by decide +kernel
theorem d_M_lowOf_12 : decode c_M_lowOf 12 = .ok (.iload_n 2, 1) := by decide +kernel
theorem d_M_lowOf_13 : decode c_M_lowOf 13 = .ok (.iaload, 1) := by decide +kernel
theorem d_M_lowOf_14 : decode c_M_lowOf 14 = .ok (.iload_n 3, 1) := by decide +kernel
theorem d_M_lowOf_15 : decode c_M_lowOf 15 = .ok (.if_icmp .ge 7, 3) := by decide +kernel
theorem d_M_lowOf_18 : decode c_M_lowOf 18 = .ok (.iload_n 3, 1) := by decide +kernel
theorem d_M_lowOf_19 : decode c_M_lowOf 19 = .ok (.goto 9, 3) := by decide +kernel
theorem d_M_lowOf_22 : decode c_M_lowOf 22 = .ok (.aload_n 0, 1) := by decide +kernel
theorem d_M_lowOf_23 : decode c_M_lowOf 23 = .ok (.getfield 32, 3) := by decide +kernel
theorem d_M_lowOf_26 : decode c_M_lowOf 26 = .ok (.iload_n 2, 1) := by decide +kernel
theorem d_M_lowOf_27 : decode c_M_lowOf 27 = .ok (.iaload, 1) := by decide +kernel
theorem d_M_lowOf_28 : decode c_M_lowOf 28 = .ok (.ireturn, 1) := by decide +kernel
theorem d_M_highOf_0 : decode c_M_highOf 0 = .ok (.aload_n 0, 1) := by decide +kernel
theorem d_M_highOf_1 : decode c_M_highOf 1 = .ok (.iload_n 1, 1) := by decide +kernel
theorem d_M_highOf_2 : decode c_M_highOf 2 = .ok (.invokevirtual 130, 3) := by decide +kernel
theorem d_M_highOf_5 : decode c_M_highOf 5 = .ok (.iconst 1, 1) := by decide +kernel
theorem d_M_highOf_6 : decode c_M_highOf 6 = .ok (.isub, 1) := by decide +kernel
theorem d_M_highOf_7 : decode c_M_highOf 7 = .ok (.istore_n 3, 1) := by decide +kernel
theorem d_M_highOf_8 : decode c_M_highOf 8 = .ok (.aload_n 0, 1) := by decide +kernel
theorem d_M_highOf_9 : decode c_M_highOf 9 = .ok (.getfield 35, 3) := by decide +kernel
theorem d_M_highOf_12 : decode c_M_highOf 12 = .ok (.iload_n 2, 1) := by decide +kernel
theorem d_M_highOf_13 : decode c_M_highOf 13 = .ok (.iaload, 1) := by decide +kernel
theorem d_M_highOf_14 : decode c_M_highOf 14 = .ok (.iload_n 3, 1) := by decide +kernel
theorem d_M_highOf_15 : decode c_M_highOf 15 = .ok (.if_icmp .le 7, 3) := by decide +kernel
theorem d_M_highOf_18 : decode c_M_highOf 18 = .ok (.iload_n 3, 1) := by decide +kernel
theorem d_M_highOf_19 : decode c_M_highOf 19 = .ok (.goto 9, 3) := by decide +kernel
theorem d_M_highOf_22 : decode c_M_highOf 22 = .ok (.aload_n 0, 1) := by decide +kernel
theorem d_M_highOf_23 : decode c_M_highOf 23 = .ok (.getfield 35, 3) := by decide +kernel
theorem d_M_highOf_26 : decode c_M_highOf 26 = .ok (.iload_n 2, 1) := by decide +kernel
theorem d_M_highOf_27 : decode c_M_highOf 27 = .ok (.iaload, 1) := by decide +kernel
theorem d_M_highOf_28 : decode c_M_highOf 28 = .ok (.ireturn, 1) := by decide +kernel
theorem d_M_isUnseen_0 : decode c_M_isUnseen 0 = .ok (.aload_n 0, 1) := by decide +kernel
theorem d_M_isUnseen_1 : decode c_M_isUnseen 1 = .ok (.getfield 41, 3) := by decide +kernel
theorem d_M_isUnseen_4 : decode c_M_isUnseen 4 = .ok (.iload_n 1, 1) := by decide +kernel
theorem d_M_isUnseen_5 : decode c_M_isUnseen 5 = .ok (.baload, 1) := by decide +kernel
theorem d_M_isUnseen_6 : decode c_M_isUnseen 6 = .ok (.ifCond .ne 7, 3) := by decide +kernel
theorem d_M_isUnseen_9 : decode c_M_isUnseen 9 = .ok (.iconst 1, 1) := by decide +kernel
theorem d_M_isUnseen_10 : decode c_M_isUnseen 10 = .ok (.goto 4, 3) := by decide +kernel
theorem d_M_isUnseen_13 : decode c_M_isUnseen 13 = .ok (.iconst 0, 1) := by decide +kernel
theorem d_M_isUnseen_14 : decode c_M_isUnseen 14 = .ok (.istore_n 3, 1) := by decide +kernel
theorem d_M_isUnseen_15 : decode c_M_isUnseen 15 = .ok (.iconst 0, 1) := by decide +kernel
theorem d_M_isUnseen_16 : decode c_M_isUnseen 16 = .ok (.istore 4, 2) := by decide +kernel
theorem d_M_isUnseen_18 : decode c_M_isUnseen 18 = .ok (.iload 4, 2) := by decide +kernel
theorem d_M_isUnseen_20 : decode c_M_isUnseen 20 = .ok (.aload_n 0, 1) := by decide +kernel
theorem d_M_isUnseen_21 : decode c_M_isUnseen 21 = .ok (.getfield 7, 3) := by decide +kernel
theorem d_M_isUnseen_24 : decode c_M_isUnseen 24 = .ok (.iload_n 1, 1) := by decide +kernel
theorem d_M_isUnseen_25 : decode c_M_isUnseen 25 = .ok (.iaload, 1) := by decide +kernel
theorem d_M_isUnseen_26 : decode c_M_isUnseen 26 = .ok (.if_icmp .ge 48, 3) := by decide +kernel
theorem d_M_isUnseen_29 : decode c_M_isUnseen 29 = .ok (.iload_n 3, 1) := by decide +kernel
theorem d_M_isUnseen_30 : decode c_M_isUnseen 30 = .ok (.aload_n 0, 1) := by decide +kernel
theorem d_M_isUnseen_31 : decode c_M_isUnseen 31 = .ok (.getfield 26, 3) := by decide +kernel
theorem d_M_isUnseen_34 : decode c_M_isUnseen 34 = .ok (.bipush 12, 2) := by decide +kernel
theorem d_M_isUnseen_36 : decode c_M_isUnseen 36 = .ok (.iload_n 1, 1) := by decide +kernel
theorem d_M_isUnseen_37 : decode c_M_isUnseen 37 = .ok (.imul, 1) := by decide +kernel
theorem d_M_isUnseen_38 : decode c_M_isUnseen 38 = .ok (.iload 4, 2) := by decide +kernel
theorem d_M_isUnseen_40 : decode c_M_isUnseen 40 = .ok (.iadd, 1) := by decide +kernel
theorem d_M_isUnseen_41 : decode c_M_isUnseen 41 = .ok (.baload, 1) := by decide +kernel
theorem d_M_isUnseen_42 : decode c_M_isUnseen 42 = .ok (.ifCond .eq 19, 3) := by decide +kernel
theorem d_M_isUnseen_45 : decode c_M_isUnseen 45 = .ok (.aload_n 0, 1) := by decide +kernel
theorem d_M_isUnseen_46 : decode c_M_isUnseen 46 = .ok (.getfield 29, 3) := by decide +kernel
theorem d_M_isUnseen_49 : decode c_M_isUnseen 49 = .ok (.bipush 12, 2) := by decide +kernel
theorem d_M_isUnseen_51 : decode c_M_isUnseen 51 = .ok (.iload_n 1, 1) := by decide +kernel
theorem d_M_isUnseen_52 : decode c_M_isUnseen 52 = .ok (.imul, 1) := by decide +kernel
theorem d_M_isUnseen_53 : decode c_M_isUnseen 53 = .ok (.iload 4, 2) := by decide +kernel
theorem d_M_isUnseen_55 : decode c_M_isUnseen 55 = .ok (.iadd, 1) := by decide +kernel
theorem d_M_isUnseen_56 : decode c_M_isUnseen 56 = .ok (.iaload, 1) := by decide +kernel
theorem d_M_isUnseen_57 : decode c_M_isUnseen 57 = .ok (.iload_n 2, 1) := by decide +kernel
theorem d_M_isUnseen_58 : decode c_M_isUnseen 58 = .ok (.if_icmp .eq 7, 3) := by decide +kernel
theorem d_M_isUnseen_61 : decode c_M_isUnseen 61 = .ok (.iconst 1, 1) := by decide +kernel
theorem d_M_isUnseen_62 : decode c_M_isUnseen 62 = .ok (.goto 4, 3) := by decide +kernel
theorem d_M_isUnseen_65 : decode c_M_isUnseen 65 = .ok (.iconst 0, 1) := by decide +kernel
theorem d_M_isUnseen_66 : decode c_M_isUnseen 66 = .ok (.iand, 1) := by decide +kernel
theorem d_M_isUnseen_67 : decode c_M_isUnseen 67 = .ok (.istore_n 3, 1) := by decide +kernel
theorem d_M_isUnseen_68 : decode c_M_isUnseen 68 = .ok (.iinc 4 1, 3) := by decide +kernel
theorem d_M_isUnseen_71 : decode c_M_isUnseen 71 = .ok (.goto (-53), 3) := by decide +kernel
theorem d_M_isUnseen_74 : decode c_M_isUnseen 74 = .ok (.iload_n 3, 1) := by decide +kernel
theorem d_M_isUnseen_75 : decode c_M_isUnseen 75 = .ok (.ireturn, 1) := by decide +kernel
theorem d_M_owesLeast_0 : decode c_M_owesLeast 0 = .ok (.aload_n 0, 1) := by decide +kernel
theorem d_M_owesLeast_1 : decode c_M_owesLeast 1 = .ok (.iload_n 1, 1) := by decide +kernel
theorem d_M_owesLeast_2 : decode c_M_owesLeast 2 = .ok (.iload_n 2, 1) := by decide +kernel
theorem d_M_owesLeast_3 : decode c_M_owesLeast 3 = .ok (.invokevirtual 133, 3) := by decide +kernel
theorem d_M_owesLeast_6 : decode c_M_owesLeast 6 = .ok (.aload_n 0, 1) := by decide +kernel
theorem d_M_owesLeast_7 : decode c_M_owesLeast 7 = .ok (.getfield 32, 3) := by decide +kernel
theorem d_M_owesLeast_10 : decode c_M_owesLeast 10 = .ok (.iload_n 2, 1) := by decide +kernel
theorem d_M_owesLeast_11 : decode c_M_owesLeast 11 = .ok (.iaload, 1) := by decide +kernel
theorem d_M_owesLeast_12 : decode c_M_owesLeast 12 = .ok (.if_icmp .ne 21, 3) := by decide +kernel
theorem d_M_owesLeast_15 : decode c_M_owesLeast 15 = .ok (.aload_n 0, 1) := by decide +kernel
theorem d_M_owesLeast_16 : decode c_M_owesLeast 16 = .ok (.iload_n 2, 1) := by decide +kernel
theorem d_M_owesLeast_17 : decode c_M_owesLeast 17 = .ok (.aload_n 0, 1) := by decide +kernel
theorem d_M_owesLeast_18 : decode c_M_owesLeast 18 = .ok (.getfield 32, 3) := by decide +kernel
theorem d_M_owesLeast_21 : decode c_M_owesLeast 21 = .ok (.iload_n 2, 1) := by decide +kernel
theorem d_M_owesLeast_22 : decode c_M_owesLeast 22 = .ok (.iaload, 1) := by decide +kernel
theorem d_M_owesLeast_23 : decode c_M_owesLeast 23 = .ok (.invokevirtual 137, 3) := by decide +kernel
theorem d_M_owesLeast_26 : decode c_M_owesLeast 26 = .ok (.ifCond .eq 7, 3) := by decide +kernel
theorem d_M_owesLeast_29 : decode c_M_owesLeast 29 = .ok (.iconst 1, 1) := by decide +kernel
theorem d_M_owesLeast_30 : decode c_M_owesLeast 30 = .ok (.goto 4, 3) := by decide +kernel
theorem d_M_owesLeast_33 : decode c_M_owesLeast 33 = .ok (.iconst 0, 1) := by decide +kernel
theorem d_M_owesLeast_34 : decode c_M_owesLeast 34 = .ok (.ireturn, 1) := by decide +kernel
theorem d_M_owesGreatest_0 : decode c_M_owesGreatest 0 = .ok (.aload_n 0, 1) := by decide +kernel
theorem d_M_owesGreatest_1 : decode c_M_owesGreatest 1 = .ok (.iload_n 1, 1) := by decide +kernel
theorem d_M_owesGreatest_2 : decode c_M_owesGreatest 2 = .ok (.iload_n 2, 1) := by decide +kernel
theorem d_M_owesGreatest_3 : decode c_M_owesGreatest 3 = .ok (.invokevirtual 140, 3) := by decide +kernel
theorem d_M_owesGreatest_6 : decode c_M_owesGreatest 6 = .ok (.aload_n 0, 1) := by decide +kernel
theorem d_M_owesGreatest_7 : decode c_M_owesGreatest 7 = .ok (.getfield 35, 3) := by decide +kernel
theorem d_M_owesGreatest_10 : decode c_M_owesGreatest 10 = .ok (.iload_n 2, 1) := by decide +kernel
theorem d_M_owesGreatest_11 : decode c_M_owesGreatest 11 = .ok (.iaload, 1) := by decide +kernel
theorem d_M_owesGreatest_12 : decode c_M_owesGreatest 12 = .ok (.if_icmp .ne 21, 3) := by decide +kernel
theorem d_M_owesGreatest_15 : decode c_M_owesGreatest 15 = .ok (.aload_n 0, 1) := by decide +kernel
theorem d_M_owesGreatest_16 : decode c_M_owesGreatest 16 = .ok (.iload_n 2, 1) := by decide +kernel
theorem d_M_owesGreatest_17 : decode c_M_owesGreatest 17 = .ok (.aload_n 0, 1) := by decide +kernel
theorem d_M_owesGreatest_18 : decode c_M_owesGreatest 18 = .ok (.getfield 35, 3) := by decide +kernel
theorem d_M_owesGreatest_21 : decode c_M_owesGreatest 21 = .ok (.iload_n 2, 1) := by decide +kernel
theorem d_M_owesGreatest_22 : decode c_M_owesGreatest 22 = .ok (.iaload, 1) := by decide +kernel
theorem d_M_owesGreatest_23 : decode c_M_owesGreatest 23 = .ok (.invokevirtual 137, 3) := by decide +kernel
theorem d_M_owesGreatest_26 : decode c_M_owesGreatest 26 = .ok (.ifCond .eq 7, 3) := by decide +kernel
theorem d_M_owesGreatest_29 : decode c_M_owesGreatest 29 = .ok (.iconst 1, 1) := by decide +kernel
theorem d_M_owesGreatest_30 : decode c_M_owesGreatest 30 = .ok (.goto 4, 3) := by decide +kernel
theorem d_M_owesGreatest_33 : decode c_M_owesGreatest 33 = .ok (.iconst 0, 1) := by decide +kernel
theorem d_M_owesGreatest_34 : decode c_M_owesGreatest 34 = .ok (.ireturn, 1) := by decide +kernel
theorem d_M_about_0 : decode c_M_about 0 = .ok (.iload_n 1, 1) := by decide +kernel
theorem d_M_about_1 : decode c_M_about 1 = .ok (.iload_n 2, 1) := by decide +kernel
theorem d_M_about_2 : decode c_M_about 2 = .ok (.invokestatic 82, 3) := by decide +kernel
theorem d_M_about_5 : decode c_M_about 5 = .ok (.ifCond .eq 12, 3) := by decide +kernel
theorem d_M_about_8 : decode c_M_about 8 = .ok (.aload_n 0, 1) := by decide +kernel
theorem d_M_about_9 : decode c_M_about 9 = .ok (.getfield 44, 3) := by decide +kernel
theorem d_M_about_12 : decode c_M_about 12 = .ok (.iload_n 1, 1) := by decide +kernel
theorem d_M_about_13 : decode c_M_about 13 = .ok (.baload, 1) := by decide +kernel
theorem d_M_about_14 : decode c_M_about 14 = .ok (.ifCond .ne 6, 3) := by decide +kernel
theorem d_M_about_17 : decode c_M_about 17 = .ok (.ldc 129, 2) := by decide +kernel
theorem d_M_about_19 : decode c_M_about 19 = .ok (.ireturn, 1) := by decide +kernel
theorem d_M_about_20 : decode c_M_about 20 = .ok (.bipush 8, 2) := by decide +kernel
theorem d_M_about_22 : decode c_M_about 22 = .ok (.iload_n 1, 1) := by decide +kernel
theorem d_M_about_23 : decode c_M_about 23 = .ok (.imul, 1) := by decide +kernel
theorem d_M_about_24 : decode c_M_about 24 = .ok (.iload_n 2, 1) := by decide +kernel
theorem d_M_about_25 : decode c_M_about 25 = .ok (.iadd, 1) := by decide +kernel
theorem d_M_about_26 : decode c_M_about 26 = .ok (.istore 4, 2) := by decide +kernel
theorem d_M_about_28 : decode c_M_about 28 = .ok (.aload_n 0, 1) := by decide +kernel
theorem d_M_about_29 : decode c_M_about 29 = .ok (.iload 4, 2) := by decide +kernel
theorem d_M_about_31 : decode c_M_about 31 = .ok (.invokevirtual 116, 3) := by decide +kernel
theorem d_M_about_34 : decode c_M_about 34 = .ok (.ifCond .le 7, 3) := by decide +kernel
theorem d_M_about_37 : decode c_M_about 37 = .ok (.iconst 1, 1) := by decide +kernel
theorem d_M_about_38 : decode c_M_about 38 = .ok (.goto 4, 3) := by decide +kernel
theorem d_M_about_41 : decode c_M_about 41 = .ok (.iconst 0, 1) := by decide +kernel
theorem d_M_about_42 : decode c_M_about 42 = .ok (.istore 5, 2) := by decide +kernel
theorem d_M_about_44 : decode c_M_about 44 = .ok (.iload_n 3, 1) := by decide +kernel
theorem d_M_about_45 : decode c_M_about 45 = .ok (.tableswitch 154 0 7 #[47, 55, 63, 71, 78, 95, 112, 133], 47) := by decide +kernel
theorem d_M_about_92 : decode c_M_about 92 = .ok (.aload_n 0, 1) := by decide +kernel
theorem d_M_about_93 : decode c_M_about 93 = .ok (.getfield 7, 3) := by decide +kernel
theorem d_M_about_96 : decode c_M_about 96 = .ok (.iload 4, 2) := by decide +kernel
theorem d_M_about_98 : decode c_M_about 98 = .ok (.iaload, 1) := by decide +kernel
theorem d_M_about_99 : decode c_M_about 99 = .ok (.ireturn, 1) := by decide +kernel
theorem d_M_about_100 : decode c_M_about 100 = .ok (.aload_n 0, 1) := by decide +kernel
theorem d_M_about_101 : decode c_M_about 101 = .ok (.getfield 32, 3) := by decide +kernel
theorem d_M_about_104 : decode c_M_about 104 = .ok (.iload 4, 2) := by decide +kernel
theorem d_M_about_106 : decode c_M_about 106 = .ok (.iaload, 1) := by decide +kernel
theorem d_M_about_107 : decode c_M_about 107 = .ok (.ireturn, 1) := by decide +kernel
theorem d_M_about_108 : decode c_M_about 108 = .ok (.aload_n 0, 1) := by decide +kernel
theorem d_M_about_109 : decode c_M_about 109 = .ok (.getfield 35, 3) := by decide +kernel
theorem d_M_about_112 : decode c_M_about 112 = .ok (.iload 4, 2) := by decide +kernel
theorem d_M_about_114 : decode c_M_about 114 = .ok (.iaload, 1) := by decide +kernel
theorem d_M_about_115 : decode c_M_about 115 = .ok (.ireturn, 1) := by decide +kernel
theorem d_M_about_116 : decode c_M_about 116 = .ok (.aload_n 0, 1) := by decide +kernel
theorem d_M_about_117 : decode c_M_about 117 = .ok (.iload 4, 2) := by decide +kernel
theorem d_M_about_119 : decode c_M_about 119 = .ok (.invokevirtual 116, 3) := by decide +kernel
theorem d_M_about_122 : decode c_M_about 122 = .ok (.ireturn, 1) := by decide +kernel
theorem d_M_about_123 : decode c_M_about 123 = .ok (.iload 5, 2) := by decide +kernel
theorem d_M_about_125 : decode c_M_about 125 = .ok (.ifCond .eq 13, 3) := by decide +kernel
theorem d_M_about_128 : decode c_M_about 128 = .ok (.aload_n 0, 1) := by decide +kernel
theorem d_M_about_129 : decode c_M_about 129 = .ok (.iload_n 1, 1) := by decide +kernel
theorem d_M_about_130 : decode c_M_about 130 = .ok (.iload 4, 2) := by decide +kernel
theorem d_M_about_132 : decode c_M_about 132 = .ok (.invokevirtual 133, 3) := by decide +kernel
theorem d_M_about_135 : decode c_M_about 135 = .ok (.goto 4, 3) := by decide +kernel
theorem d_M_about_138 : decode c_M_about 138 = .ok (.iconst 0, 1) := by decide +kernel
theorem d_M_about_139 : decode c_M_about 139 = .ok (.ireturn, 1) := by decide +kernel
theorem d_M_about_140 : decode c_M_about 140 = .ok (.iload 5, 2) := by decide +kernel
theorem d_M_about_142 : decode c_M_about 142 = .ok (.ifCond .eq 13, 3) := by decide +kernel
theorem d_M_about_145 : decode c_M_about 145 = .ok (.aload_n 0, 1) := by decide +kernel
theorem d_M_about_146 : decode c_M_about 146 = .ok (.iload_n 1, 1) := by decide +kernel
theorem d_M_about_147 : decode c_M_about 147 = .ok (.iload 4, 2) := by decide +kernel
theorem d_M_about_149 : decode c_M_about 149 = .ok (.invokevirtual 140, 3) := by decide +kernel
theorem d_M_about_152 : decode c_M_about 152 = .ok (.goto 4, 3) := by decide +kernel
theorem d_M_about_155 : decode c_M_about 155 = .ok (.iconst 0, 1) := by decide +kernel
theorem d_M_about_156 : decode c_M_about 156 = .ok (.ireturn, 1) := by decide +kernel
theorem d_M_about_157 : decode c_M_about 157 = .ok (.iload 5, 2) := by decide +kernel
theorem d_M_about_159 : decode c_M_about 159 = .ok (.ifCond .eq 17, 3) := by decide +kernel
theorem d_M_about_162 : decode c_M_about 162 = .ok (.aload_n 0, 1) := by decide +kernel
theorem d_M_about_163 : decode c_M_about 163 = .ok (.iload_n 1, 1) := by decide +kernel
theorem d_M_about_164 : decode c_M_about 164 = .ok (.iload 4, 2) := by decide +kernel
theorem d_M_about_166 : decode c_M_about 166 = .ok (.invokevirtual 143, 3) := by decide +kernel
theorem d_M_about_169 : decode c_M_about 169 = .ok (.ifCond .eq 7, 3) := by decide +kernel
theorem d_M_about_172 : decode c_M_about 172 = .ok (.iconst 1, 1) := by decide +kernel
theorem d_M_about_173 : decode c_M_about 173 = .ok (.goto 4, 3) := by decide +kernel
theorem d_M_about_176 : decode c_M_about 176 = .ok (.iconst 0, 1) := by decide +kernel
theorem d_M_about_177 : decode c_M_about 177 = .ok (.ireturn, 1) := by decide +kernel
theorem d_M_about_178 : decode c_M_about 178 = .ok (.iload 5, 2) := by decide +kernel
theorem d_M_about_180 : decode c_M_about 180 = .ok (.ifCond .eq 17, 3) := by decide +kernel
theorem d_M_about_183 : decode c_M_about 183 = .ok (.aload_n 0, 1) := by decide +kernel
theorem d_M_about_184 : decode c_M_about 184 = .ok (.iload_n 1, 1) := by decide +kernel
theorem d_M_about_185 : decode c_M_about 185 = .ok (.iload 4, 2) := by decide +kernel
theorem d_M_about_187 : decode c_M_about 187 = .ok (.invokevirtual 146, 3) := by decide +kernel
theorem d_M_about_190 : decode c_M_about 190 = .ok (.ifCond .eq 7, 3) := by decide +kernel
theorem d_M_about_193 : decode c_M_about 193 = .ok (.iconst 1, 1) := by decide +kernel
theorem d_M_about_194 : decode c_M_about 194 = .ok (.goto 4, 3) := by decide +kernel
theorem d_M_about_197 : decode c_M_about 197 = .ok (.iconst 0, 1) := by decide +kernel
theorem d_M_about_198 : decode c_M_about 198 = .ok (.ireturn, 1) := by decide +kernel
theorem d_M_about_199 : decode c_M_about 199 = .ok (.iload_n 3, 1) := by decide +kernel
theorem d_M_about_200 : decode c_M_about 200 = .ok (.bipush 10, 2) := by decide +kernel
theorem d_M_about_202 : decode c_M_about 202 = .ok (.bipush 13, 2) := by decide +kernel
theorem d_M_about_204 : decode c_M_about 204 = .ok (.invokestatic 74, 3) := by decide +kernel
theorem d_M_about_207 : decode c_M_about 207 = .ok (.ifCond .eq 20, 3) := by decide +kernel
theorem d_M_about_210 : decode c_M_about 210 = .ok (.aload_n 0, 1) := by decide +kernel
theorem d_M_about_211 : decode c_M_about 211 = .ok (.getfield 38, 3) := by decide +kernel
theorem d_M_about_214 : decode c_M_about 214 = .ok (.iconst 4, 1) := by decide +kernel
theorem d_M_about_215 : decode c_M_about 215 = .ok (.iload 4, 2) := by decide +kernel
theorem d_M_about_217 : decode c_M_about 217 = .ok (.imul, 1) := by decide +kernel
theorem d_M_about_218 : decode c_M_about 218 = .ok (.iload_n 3, 1) := by decide +kernel
theorem d_M_about_219 : decode c_M_about 219 = .ok (.iadd, 1) := by decide +kernel
theorem d_M_about_220 : decode c_M_about 220 = .ok (.bipush 10, 2) := by decide +kernel
theorem d_M_about_222 : decode c_M_about 222 = .ok (.isub, 1) := by decide +kernel
theorem d_M_about_223 : decode c_M_about 223 = .ok (.iaload, 1) := by decide +kernel
theorem d_M_about_224 : decode c_M_about 224 = .ok (.goto 5, 3) := by decide +kernel
theorem d_M_about_227 : decode c_M_about 227 = .ok (.ldc 129, 2) := by decide +kernel
theorem d_M_about_229 : decode c_M_about 229 = .ok (.ireturn, 1) := by decide +kernel
theorem d_M_isGroup_0 : decode c_M_isGroup 0 = .ok (.iload_n 0, 1) := by decide +kernel
theorem d_M_isGroup_1 : decode c_M_isGroup 1 = .ok (.iconst (-1), 1) := by decide +kernel
theorem d_M_isGroup_2 : decode c_M_isGroup 2 = .ok (.iconst 3, 1) := by decide +kernel
theorem d_M_isGroup_3 : decode c_M_isGroup 3 = .ok (.invokestatic 74, 3) := by decide +kernel
theorem d_M_isGroup_6 : decode c_M_isGroup 6 = .ok (.ireturn, 1) := by decide +kernel
theorem d_M_sumOf_0 : decode c_M_sumOf 0 = .ok (.lconst 0, 1) := by decide +kernel
theorem d_M_sumOf_1 : decode c_M_sumOf 1 = .ok (.lstore 5, 2) := by decide +kernel
theorem d_M_sumOf_3 : decode c_M_sumOf 3 = .ok (.iload_n 3, 1) := by decide +kernel
theorem d_M_sumOf_4 : decode c_M_sumOf 4 = .ok (.ifCond .ge 12, 3) := by decide +kernel
theorem d_M_sumOf_7 : decode c_M_sumOf 7 = .ok (.aload_n 0, 1) := by decide +kernel
theorem d_M_sumOf_8 : decode c_M_sumOf 8 = .ok (.getfield 7, 3) := by decide +kernel
theorem d_M_sumOf_11 : decode c_M_sumOf 11 = .ok (.iload_n 2, 1) := by decide +kernel
theorem d_M_sumOf_12 : decode c_M_sumOf 12 = .ok (.iaload, 1) := by decide +kernel
theorem d_M_sumOf_13 : decode c_M_sumOf 13 = .ok (.goto 13, 3) := by decide +kernel
theorem d_M_sumOf_16 : decode c_M_sumOf 16 = .ok (.aload_n 0, 1) := by decide +kernel
theorem d_M_sumOf_17 : decode c_M_sumOf 17 = .ok (.getfield 38, 3) := by decide +kernel
theorem d_M_sumOf_20 : decode c_M_sumOf 20 = .ok (.iconst 4, 1) := by decide +kernel
theorem d_M_sumOf_21 : decode c_M_sumOf 21 = .ok (.iload_n 2, 1) := by decide +kernel
theorem d_M_sumOf_22 : decode c_M_sumOf 22 = .ok (.imul, 1) := by decide +kernel
theorem d_M_sumOf_23 : decode c_M_sumOf 23 = .ok (.iload_n 3, 1) := by decide +kernel
theorem d_M_sumOf_24 : decode c_M_sumOf 24 = .ok (.iadd, 1) := by decide +kernel
theorem d_M_sumOf_25 : decode c_M_sumOf 25 = .ok (.iaload, 1) := by decide +kernel
theorem d_M_sumOf_26 : decode c_M_sumOf 26 = .ok (.istore 7, 2) := by decide +kernel
theorem d_M_sumOf_28 : decode c_M_sumOf 28 = .ok (.iconst 0, 1) := by decide +kernel
theorem d_M_sumOf_29 : decode c_M_sumOf 29 = .ok (.istore 8, 2) := by decide +kernel
theorem d_M_sumOf_31 : decode c_M_sumOf 31 = .ok (.iload 8, 2) := by decide +kernel
theorem d_M_sumOf_33 : decode c_M_sumOf 33 = .ok (.aload_n 0, 1) := by decide +kernel
theorem d_M_sumOf_34 : decode c_M_sumOf 34 = .ok (.getfield 7, 3) := by decide +kernel
theorem d_M_sumOf_37 : decode c_M_sumOf 37 = .ok (.iload_n 2, 1) := by decide +kernel
theorem d_M_sumOf_38 : decode c_M_sumOf 38 = .ok (.iaload, 1) := by decide +kernel
theorem d_M_sumOf_39 : decode c_M_sumOf 39 = .ok (.if_icmp .ge 59, 3) := by decide +kernel
theorem d_M_sumOf_42 : decode c_M_sumOf 42 = .ok (.bipush 12, 2) := by decide +kernel
theorem d_M_sumOf_44 : decode c_M_sumOf 44 = .ok (.iload_n 2, 1) := by decide +kernel
theorem d_M_sumOf_45 : decode c_M_sumOf 45 = .ok (.imul, 1) := by decide +kernel
theorem d_M_sumOf_46 : decode c_M_sumOf 46 = .ok (.iload 8, 2) := by decide +kernel
theorem d_M_sumOf_48 : decode c_M_sumOf 48 = .ok (.iadd, 1) := by decide +kernel
theorem d_M_sumOf_49 : decode c_M_sumOf 49 = .ok (.istore 9, 2) := by decide +kernel
theorem d_M_sumOf_51 : decode c_M_sumOf 51 = .ok (.aload_n 0, 1) := by decide +kernel
theorem d_M_sumOf_52 : decode c_M_sumOf 52 = .ok (.getfield 22, 3) := by decide +kernel
theorem d_M_sumOf_55 : decode c_M_sumOf 55 = .ok (.iload 9, 2) := by decide +kernel
theorem d_M_sumOf_57 : decode c_M_sumOf 57 = .ok (.baload, 1) := by decide +kernel
theorem d_M_sumOf_58 : decode c_M_sumOf 58 = .ok (.ifCond .eq 34, 3) := by decide +kernel
theorem d_M_sumOf_61 : decode c_M_sumOf 61 = .ok (.iload_n 3, 1) := by decide +kernel
theorem d_M_sumOf_62 : decode c_M_sumOf 62 = .ok (.ifCond .lt 14, 3) := by decide +kernel
theorem d_M_sumOf_65 : decode c_M_sumOf 65 = .ok (.aload_n 0, 1) := by decide +kernel
theorem d_M_sumOf_66 : decode c_M_sumOf 66 = .ok (.getfield 16, 3) := by decide +kernel
theorem d_M_sumOf_69 : decode c_M_sumOf 69 = .ok (.iload 9, 2) := by decide +kernel
theorem d_M_sumOf_71 : decode c_M_sumOf 71 = .ok (.iaload, 1) := by decide +kernel
theorem d_M_sumOf_72 : decode c_M_sumOf 72 = .ok (.iload_n 3, 1) := by decide +kernel
theorem d_M_sumOf_73 : decode c_M_sumOf 73 = .ok (.if_icmp .ne 19, 3) := by decide +kernel
theorem d_M_sumOf_76 : decode c_M_sumOf 76 = .ok (.lload 5, 2) := by decide +kernel
theorem d_M_sumOf_78 : decode c_M_sumOf 78 = .ok (.aload_n 0, 1) := by decide +kernel
theorem d_M_sumOf_79 : decode c_M_sumOf 79 = .ok (.getfield 19, 3) := by decide +kernel
theorem d_M_sumOf_82 : decode c_M_sumOf 82 = .ok (.iload 9, 2) := by decide +kernel
theorem d_M_sumOf_84 : decode c_M_sumOf 84 = .ok (.iaload, 1) := by decide +kernel
theorem d_M_sumOf_85 : decode c_M_sumOf 85 = .ok (.i2l, 1) := by decide +kernel
theorem d_M_sumOf_86 : decode c_M_sumOf 86 = .ok (.ladd, 1) := by decide +kernel
theorem d_M_sumOf_87 : decode c_M_sumOf 87 = .ok (.lstore 5, 2) := by decide +kernel
theorem d_M_sumOf_89 : decode c_M_sumOf 89 = .ok (.iinc 7 (-1), 3) := by decide +kernel
theorem d_M_sumOf_92 : decode c_M_sumOf 92 = .ok (.iinc 8 1, 3) := by decide +kernel
theorem d_M_sumOf_95 : decode c_M_sumOf 95 = .ok (.goto (-64), 3) := by decide +kernel
theorem d_M_sumOf_98 : decode c_M_sumOf 98 = .ok (.iload 7, 2) := by decide +kernel
theorem d_M_sumOf_100 : decode c_M_sumOf 100 = .ok (.ifCond .ne 6, 3) := by decide +kernel
theorem d_M_sumOf_103 : decode c_M_sumOf 103 = .ok (.lload 5, 2) := by decide +kernel
theorem d_M_sumOf_105 : decode c_M_sumOf 105 = .ok (.lreturn, 1) := by decide +kernel
theorem d_M_sumOf_106 : decode c_M_sumOf 106 = .ok (.aload_n 0, 1) := by decide +kernel
theorem d_M_sumOf_107 : decode c_M_sumOf 107 = .ok (.iload_n 2, 1) := by decide +kernel
theorem d_M_sumOf_108 : decode c_M_sumOf 108 = .ok (.invokevirtual 116, 3) := by decide +kernel
theorem d_M_sumOf_111 : decode c_M_sumOf 111 = .ok (.istore 8, 2) := by decide +kernel
theorem d_M_sumOf_113 : decode c_M_sumOf 113 = .ok (.aload_n 0, 1) := by decide +kernel
theorem d_M_sumOf_114 : decode c_M_sumOf 114 = .ok (.iload_n 1, 1) := by decide +kernel
theorem d_M_sumOf_115 : decode c_M_sumOf 115 = .ok (.iload_n 2, 1) := by decide +kernel
theorem d_M_sumOf_116 : decode c_M_sumOf 116 = .ok (.invokevirtual 133, 3) := by decide +kernel
theorem d_M_sumOf_119 : decode c_M_sumOf 119 = .ok (.i2l, 1) := by decide +kernel
theorem d_M_sumOf_120 : decode c_M_sumOf 120 = .ok (.lstore 9, 2) := by decide +kernel
theorem d_M_sumOf_122 : decode c_M_sumOf 122 = .ok (.aload_n 0, 1) := by decide +kernel
theorem d_M_sumOf_123 : decode c_M_sumOf 123 = .ok (.iload_n 1, 1) := by decide +kernel
theorem d_M_sumOf_124 : decode c_M_sumOf 124 = .ok (.iload_n 2, 1) := by decide +kernel
theorem d_M_sumOf_125 : decode c_M_sumOf 125 = .ok (.invokevirtual 140, 3) := by decide +kernel
theorem d_M_sumOf_128 : decode c_M_sumOf 128 = .ok (.i2l, 1) := by decide +kernel
theorem d_M_sumOf_129 : decode c_M_sumOf 129 = .ok (.lstore 11, 2) := by decide +kernel
theorem d_M_sumOf_131 : decode c_M_sumOf 131 = .ok (.iload 4, 2) := by decide +kernel
theorem d_M_sumOf_133 : decode c_M_sumOf 133 = .ok (.ifCond .ne 39, 3) := by decide +kernel
theorem d_M_sumOf_136 : decode c_M_sumOf 136 = .ok (.lload 5, 2) := by decide +kernel
theorem d_M_sumOf_138 : decode c_M_sumOf 138 = .ok (.iload 7, 2) := by decide +kernel
theorem d_M_sumOf_140 : decode c_M_sumOf 140 = .ok (.i2l, 1) := by decide +kernel
theorem d_M_sumOf_141 : decode c_M_sumOf 141 = .ok (.lload 9, 2) := by decide +kernel
theorem d_M_sumOf_143 : decode c_M_sumOf 143 = .ok (.lmul, 1) := by decide +kernel
theorem d_M_sumOf_144 : decode c_M_sumOf 144 = .ok (.ladd, 1) := by decide +kernel
theorem d_M_sumOf_145 : decode c_M_sumOf 145 = .ok (.iload 7, 2) := by decide +kernel
theorem d_M_sumOf_147 : decode c_M_sumOf 147 = .ok (.iload 8, 2) := by decide +kernel
theorem d_M_sumOf_149 : decode c_M_sumOf 149 = .ok (.if_icmp .ne 20, 3) := by decide +kernel
theorem d_M_sumOf_152 : decode c_M_sumOf 152 = .ok (.aload_n 0, 1) := by decide +kernel
theorem d_M_sumOf_153 : decode c_M_sumOf 153 = .ok (.iload_n 1, 1) := by decide +kernel
theorem d_M_sumOf_154 : decode c_M_sumOf 154 = .ok (.iload_n 2, 1) := by decide +kernel
theorem d_M_sumOf_155 : decode c_M_sumOf 155 = .ok (.invokevirtual 146, 3) := by decide +kernel
theorem d_M_sumOf_158 : decode c_M_sumOf 158 = .ok (.ifCond .eq 11, 3) := by decide +kernel
theorem d_M_sumOf_161 : decode c_M_sumOf 161 = .ok (.lload 11, 2) := by decide +kernel
theorem d_M_sumOf_163 : decode c_M_sumOf 163 = .ok (.lload 9, 2) := by decide +kernel
theorem d_M_sumOf_165 : decode c_M_sumOf 165 = .ok (.lsub, 1) := by decide +kernel
theorem d_M_sumOf_166 : decode c_M_sumOf 166 = .ok (.goto 4, 3) := by decide +kernel
theorem d_M_sumOf_169 : decode c_M_sumOf 169 = .ok (.lconst 0, 1) := by decide +kernel
theorem d_M_sumOf_170 : decode c_M_sumOf 170 = .ok (.ladd, 1) := by decide +kernel
theorem d_M_sumOf_171 : decode c_M_sumOf 171 = .ok (.lreturn, 1) := by decide +kernel
theorem d_M_sumOf_172 : decode c_M_sumOf 172 = .ok (.lload 5, 2) := by decide +kernel
theorem d_M_sumOf_174 : decode c_M_sumOf 174 = .ok (.iload 7, 2) := by decide +kernel
theorem d_M_sumOf_176 : decode c_M_sumOf 176 = .ok (.i2l, 1) := by decide +kernel
theorem d_M_sumOf_177 : decode c_M_sumOf 177 = .ok (.lload 11, 2) := by decide +kernel
theorem d_M_sumOf_179 : decode c_M_sumOf 179 = .ok (.lmul, 1) := by decide +kernel
theorem d_M_sumOf_180 : decode c_M_sumOf 180 = .ok (.ladd, 1) := by decide +kernel
theorem d_M_sumOf_181 : decode c_M_sumOf 181 = .ok (.iload 7, 2) := by decide +kernel
theorem d_M_sumOf_183 : decode c_M_sumOf 183 = .ok (.iload 8, 2) := by decide +kernel
theorem d_M_sumOf_185 : decode c_M_sumOf 185 = .ok (.if_icmp .ne 20, 3) := by decide +kernel
theorem d_M_sumOf_188 : decode c_M_sumOf 188 = .ok (.aload_n 0, 1) := by decide +kernel
theorem d_M_sumOf_189 : decode c_M_sumOf 189 = .ok (.iload_n 1, 1) := by decide +kernel
theorem d_M_sumOf_190 : decode c_M_sumOf 190 = .ok (.iload_n 2, 1) := by decide +kernel
theorem d_M_sumOf_191 : decode c_M_sumOf 191 = .ok (.invokevirtual 143, 3) := by decide +kernel
theorem d_M_sumOf_194 : decode c_M_sumOf 194 = .ok (.ifCond .eq 11, 3) := by decide +kernel
theorem d_M_sumOf_197 : decode c_M_sumOf 197 = .ok (.lload 11, 2) := by decide +kernel
theorem d_M_sumOf_199 : decode c_M_sumOf 199 = .ok (.lload 9, 2) := by decide +kernel
theorem d_M_sumOf_201 : decode c_M_sumOf 201 = .ok (.lsub, 1) := by decide +kernel
theorem d_M_sumOf_202 : decode c_M_sumOf 202 = .ok (.goto 4, 3) := by decide +kernel
theorem d_M_sumOf_205 : decode c_M_sumOf 205 = .ok (.lconst 0, 1) := by decide +kernel
theorem d_M_sumOf_206 : decode c_M_sumOf 206 = .ok (.lsub, 1) := by decide +kernel
theorem d_M_sumOf_207 : decode c_M_sumOf 207 = .ok (.lreturn, 1) := by decide +kernel
theorem d_M_sumNow_0 : decode c_M_sumNow 0 = .ok (.lconst 0, 1) := by decide +kernel
theorem d_M_sumNow_1 : decode c_M_sumNow 1 = .ok (.lstore 4, 2) := by decide +kernel
theorem d_M_sumNow_3 : decode c_M_sumNow 3 = .ok (.iconst 0, 1) := by decide +kernel
theorem d_M_sumNow_4 : decode c_M_sumNow 4 = .ok (.istore 6, 2) := by decide +kernel
theorem d_M_sumNow_6 : decode c_M_sumNow 6 = .ok (.iload 6, 2) := by decide +kernel
theorem d_M_sumNow_8 : decode c_M_sumNow 8 = .ok (.bipush 8, 2) := by decide +kernel
theorem d_M_sumNow_10 : decode c_M_sumNow 10 = .ok (.if_icmp .ge 28, 3) := by decide +kernel
theorem d_M_sumNow_13 : decode c_M_sumNow 13 = .ok (.lload 4, 2) := by decide +kernel
theorem d_M_sumNow_15 : decode c_M_sumNow 15 = .ok (.aload_n 0, 1) := by decide +kernel
theorem d_M_sumNow_16 : decode c_M_sumNow 16 = .ok (.iload_n 1, 1) := by decide +kernel
theorem d_M_sumNow_17 : decode c_M_sumNow 17 = .ok (.bipush 8, 2) := by decide +kernel
theorem d_M_sumNow_19 : decode c_M_sumNow 19 = .ok (.iload_n 1, 1) := by decide +kernel
theorem d_M_sumNow_20 : decode c_M_sumNow 20 = .ok (.imul, 1) := by decide +kernel
theorem d_M_sumNow_21 : decode c_M_sumNow 21 = .ok (.iload 6, 2) := by decide +kernel
theorem d_M_sumNow_23 : decode c_M_sumNow 23 = .ok (.iadd, 1) := by decide +kernel
theorem d_M_sumNow_24 : decode c_M_sumNow 24 = .ok (.iload_n 2, 1) := by decide +kernel
theorem d_M_sumNow_25 : decode c_M_sumNow 25 = .ok (.iload_n 3, 1) := by decide +kernel
theorem d_M_sumNow_26 : decode c_M_sumNow 26 = .ok (.invokevirtual 149, 3) := by decide +kernel
theorem d_M_sumNow_29 : decode c_M_sumNow 29 = .ok (.ladd, 1) := by decide +kernel
theorem d_M_sumNow_30 : decode c_M_sumNow 30 = .ok (.lstore 4, 2) := by decide +kernel
theorem d_M_sumNow_32 : decode c_M_sumNow 32 = .ok (.iinc 6 1, 3) := by decide +kernel
theorem d_M_sumNow_35 : decode c_M_sumNow 35 = .ok (.goto (-29), 3) := by decide +kernel
theorem d_M_sumNow_38 : decode c_M_sumNow 38 = .ok (.lload 4, 2) := by decide +kernel
theorem d_M_sumNow_40 : decode c_M_sumNow 40 = .ok (.lreturn, 1) := by decide +kernel
theorem d_M_sum_0 : decode c_M_sum 0 = .ok (.iload_n 1, 1) := by decide +kernel
theorem d_M_sum_1 : decode c_M_sum 1 = .ok (.invokestatic 78, 3) := by decide +kernel
theorem d_M_sum_4 : decode c_M_sum 4 = .ok (.ifCond .eq 28, 3) := by decide +kernel
theorem d_M_sum_7 : decode c_M_sum 7 = .ok (.iload_n 2, 1) := by decide +kernel
theorem d_M_sum_8 : decode c_M_sum 8 = .ok (.invokestatic 153, 3) := by decide +kernel
theorem d_M_sum_11 : decode c_M_sum 11 = .ok (.ifCond .eq 21, 3) := by decide +kernel
theorem d_M_sum_14 : decode c_M_sum 14 = .ok (.iload_n 3, 1) := by decide +kernel
theorem d_M_sum_15 : decode c_M_sum 15 = .ok (.iconst 0, 1) := by decide +kernel
theorem d_M_sum_16 : decode c_M_sum 16 = .ok (.iconst 1, 1) := by decide +kernel
theorem d_M_sum_17 : decode c_M_sum 17 = .ok (.invokestatic 74, 3) := by decide +kernel
theorem d_M_sum_20 : decode c_M_sum 20 = .ok (.ifCond .eq 12, 3) := by decide +kernel
theorem d_M_sum_23 : decode c_M_sum 23 = .ok (.aload_n 0, 1) := by decide +kernel
theorem d_M_sum_24 : decode c_M_sum 24 = .ok (.getfield 44, 3) := by decide +kernel
theorem d_M_sum_27 : decode c_M_sum 27 = .ok (.iload_n 1, 1) := by decide +kernel
theorem d_M_sum_28 : decode c_M_sum 28 = .ok (.baload, 1) := by decide +kernel
theorem d_M_sum_29 : decode c_M_sum 29 = .ok (.ifCond .ne 7, 3) := by decide +kernel
theorem d_M_sum_32 : decode c_M_sum 32 = .ok (.ldc2_w 156, 3) := by decide +kernel
theorem d_M_sum_35 : decode c_M_sum 35 = .ok (.lreturn, 1) := by decide +kernel
theorem d_M_sum_36 : decode c_M_sum 36 = .ok (.aload_n 0, 1) := by decide +kernel
theorem d_M_sum_37 : decode c_M_sum 37 = .ok (.iload_n 1, 1) := by decide +kernel
theorem d_M_sum_38 : decode c_M_sum 38 = .ok (.iload_n 2, 1) := by decide +kernel
theorem d_M_sum_39 : decode c_M_sum 39 = .ok (.iload_n 3, 1) := by decide +kernel
theorem d_M_sum_40 : decode c_M_sum 40 = .ok (.invokevirtual 158, 3) := by decide +kernel
theorem d_M_sum_43 : decode c_M_sum 43 = .ok (.lreturn, 1) := by decide +kernel
theorem d_M_countOf_0 : decode c_M_countOf 0 = .ok (.iconst 0, 1) := by decide +kernel
theorem d_M_countOf_1 : decode c_M_countOf 1 = .ok (.istore 5, 2) := by decide +kernel
theorem d_M_countOf_3 : decode c_M_countOf 3 = .ok (.iconst 0, 1) := by decide +kernel
theorem d_M_countOf_4 : decode c_M_countOf 4 = .ok (.istore 6, 2) := by decide +kernel
theorem d_M_countOf_6 : decode c_M_countOf 6 = .ok (.iload 6, 2) := by decide +kernel
theorem d_M_countOf_8 : decode c_M_countOf 8 = .ok (.aload_n 0, 1) := by decide +kernel
theorem d_M_countOf_9 : decode c_M_countOf 9 = .ok (.getfield 7, 3) := by decide +kernel
theorem d_M_countOf_12 : decode c_M_countOf 12 = .ok (.iload_n 2, 1) := by decide +kernel
theorem d_M_countOf_13 : decode c_M_countOf 13 = .ok (.iaload, 1) := by decide +kernel
theorem d_M_countOf_14 : decode c_M_countOf 14 = .ok (.if_icmp .ge 50, 3) := by decide +kernel
theorem d_M_countOf_17 : decode c_M_countOf 17 = .ok (.iload 5, 2) := by decide +kernel
theorem d_M_countOf_19 : decode c_M_countOf 19 = .ok (.aload_n 0, 1) := by decide +kernel
theorem d_M_countOf_20 : decode c_M_countOf 20 = .ok (.getfield 22, 3) := by decide +kernel
theorem d_M_countOf_23 : decode c_M_countOf 23 = .ok (.bipush 12, 2) := by decide +kernel
theorem d_M_countOf_25 : decode c_M_countOf 25 = .ok (.iload_n 2, 1) := by decide +kernel
theorem d_M_countOf_26 : decode c_M_countOf 26 = .ok (.imul, 1) := by decide +kernel
theorem d_M_countOf_27 : decode c_M_countOf 27 = .ok (.iload 6, 2) := by decide +kernel
theorem d_M_countOf_29 : decode c_M_countOf 29 = .ok (.iadd, 1) := by decide +kernel
theorem d_M_countOf_30 : decode c_M_countOf 30 = .ok (.baload, 1) := by decide +kernel
theorem d_M_countOf_31 : decode c_M_countOf 31 = .ok (.ifCond .eq 23, 3) := by decide +kernel
theorem d_M_countOf_34 : decode c_M_countOf 34 = .ok (.aload_n 0, 1) := by decide +kernel
theorem d_M_countOf_35 : decode c_M_countOf 35 = .ok (.getfield 19, 3) := by decide +kernel
theorem d_M_countOf_38 : decode c_M_countOf 38 = .ok (.bipush 12, 2) := by decide +kernel
theorem d_M_countOf_40 : decode c_M_countOf 40 = .ok (.iload_n 2, 1) := by decide +kernel
theorem d_M_countOf_41 : decode c_M_countOf 41 = .ok (.imul, 1) := by decide +kernel
theorem d_M_countOf_42 : decode c_M_countOf 42 = .ok (.iload 6, 2) := by decide +kernel
theorem d_M_countOf_44 : decode c_M_countOf 44 = .ok (.iadd, 1) := by decide +kernel
theorem d_M_countOf_45 : decode c_M_countOf 45 = .ok (.iaload, 1) := by decide +kernel
theorem d_M_countOf_46 : decode c_M_countOf 46 = .ok (.iload_n 3, 1) := by decide +kernel
theorem d_M_countOf_47 : decode c_M_countOf 47 = .ok (.if_icmp .lt 7, 3) := by decide +kernel
theorem d_M_countOf_50 : decode c_M_countOf 50 = .ok (.iconst 1, 1) := by decide +kernel
theorem d_M_countOf_51 : decode c_M_countOf 51 = .ok (.goto 4, 3) := by decide +kernel
theorem d_M_countOf_54 : decode c_M_countOf 54 = .ok (.iconst 0, 1) := by decide +kernel
theorem d_M_countOf_55 : decode c_M_countOf 55 = .ok (.iadd, 1) := by decide +kernel
theorem d_M_countOf_56 : decode c_M_countOf 56 = .ok (.istore 5, 2) := by decide +kernel
theorem d_M_countOf_58 : decode c_M_countOf 58 = .ok (.iinc 6 1, 3) := by decide +kernel
theorem d_M_countOf_61 : decode c_M_countOf 61 = .ok (.goto (-55), 3) := by decide +kernel
theorem d_M_countOf_64 : decode c_M_countOf 64 = .ok (.aload_n 0, 1) := by decide +kernel
theorem d_M_countOf_65 : decode c_M_countOf 65 = .ok (.iload_n 2, 1) := by decide +kernel
theorem d_M_countOf_66 : decode c_M_countOf 66 = .ok (.invokevirtual 116, 3) := by decide +kernel
theorem d_M_countOf_69 : decode c_M_countOf 69 = .ok (.istore 6, 2) := by decide +kernel
theorem d_M_countOf_71 : decode c_M_countOf 71 = .ok (.iload 6, 2) := by decide +kernel
theorem d_M_countOf_73 : decode c_M_countOf 73 = .ok (.ifCond .eq 13, 3) := by decide +kernel
theorem d_M_countOf_76 : decode c_M_countOf 76 = .ok (.aload_n 0, 1) := by decide +kernel
theorem d_M_countOf_77 : decode c_M_countOf 77 = .ok (.iload_n 1, 1) := by decide +kernel
theorem d_M_countOf_78 : decode c_M_countOf 78 = .ok (.iload_n 2, 1) := by decide +kernel
theorem d_M_countOf_79 : decode c_M_countOf 79 = .ok (.invokevirtual 140, 3) := by decide +kernel
theorem d_M_countOf_82 : decode c_M_countOf 82 = .ok (.iload_n 3, 1) := by decide +kernel
theorem d_M_countOf_83 : decode c_M_countOf 83 = .ok (.if_icmp .ge 6, 3) := by decide +kernel
theorem d_M_countOf_86 : decode c_M_countOf 86 = .ok (.iload 5, 2) := by decide +kernel
theorem d_M_countOf_88 : decode c_M_countOf 88 = .ok (.ireturn, 1) := by decide +kernel
theorem d_M_countOf_89 : decode c_M_countOf 89 = .ok (.aload_n 0, 1) := by decide +kernel
theorem d_M_countOf_90 : decode c_M_countOf 90 = .ok (.iload_n 1, 1) := by decide +kernel
theorem d_M_countOf_91 : decode c_M_countOf 91 = .ok (.iload_n 2, 1) := by decide +kernel
theorem d_M_countOf_92 : decode c_M_countOf 92 = .ok (.invokevirtual 133, 3) := by decide +kernel
theorem d_M_countOf_95 : decode c_M_countOf 95 = .ok (.iload_n 3, 1) := by decide +kernel
theorem d_M_countOf_96 : decode c_M_countOf 96 = .ok (.if_icmp .lt 9, 3) := by decide +kernel
theorem d_M_countOf_99 : decode c_M_countOf 99 = .ok (.iload 5, 2) := by decide +kernel
theorem d_M_countOf_101 : decode c_M_countOf 101 = .ok (.iload 6, 2) := by decide +kernel
theorem d_M_countOf_103 : decode c_M_countOf 103 = .ok (.iadd, 1) := by decide +kernel
theorem d_M_countOf_104 : decode c_M_countOf 104 = .ok (.ireturn, 1) := by decide +kernel
theorem d_M_countOf_105 : decode c_M_countOf 105 = .ok (.iload 4, 2) := by decide +kernel
theorem d_M_countOf_107 : decode c_M_countOf 107 = .ok (.ifCond .ne 23, 3) := by decide +kernel
theorem d_M_countOf_110 : decode c_M_countOf 110 = .ok (.iload 5, 2) := by decide +kernel
theorem d_M_countOf_112 : decode c_M_countOf 112 = .ok (.aload_n 0, 1) := by decide +kernel
theorem d_M_countOf_113 : decode c_M_countOf 113 = .ok (.iload_n 1, 1) := by decide +kernel
theorem d_M_countOf_114 : decode c_M_countOf 114 = .ok (.iload_n 2, 1) := by decide +kernel
theorem d_M_countOf_115 : decode c_M_countOf 115 = .ok (.invokevirtual 146, 3) := by decide +kernel
theorem d_M_countOf_118 : decode c_M_countOf 118 = .ok (.ifCond .eq 7, 3) := by decide +kernel
theorem d_M_countOf_121 : decode c_M_countOf 121 = .ok (.iconst 1, 1) := by decide +kernel
theorem d_M_countOf_122 : decode c_M_countOf 122 = .ok (.goto 4, 3) := by decide +kernel
theorem d_M_countOf_125 : decode c_M_countOf 125 = .ok (.iconst 0, 1) := by decide +kernel
theorem d_M_countOf_126 : decode c_M_countOf 126 = .ok (.iadd, 1) := by decide +kernel
theorem d_M_countOf_127 : decode c_M_countOf 127 = .ok (.goto 23, 3) := by decide +kernel
theorem d_M_countOf_130 : decode c_M_countOf 130 = .ok (.iload 5, 2) := by decide +kernel
theorem d_M_countOf_132 : decode c_M_countOf 132 = .ok (.iload 6, 2) := by decide +kernel
theorem d_M_countOf_134 : decode c_M_countOf 134 = .ok (.iadd, 1) := by decide +kernel
theorem d_M_countOf_135 : decode c_M_countOf 135 = .ok (.aload_n 0, 1) := by decide +kernel
theorem d_M_countOf_136 : decode c_M_countOf 136 = .ok (.iload_n 1, 1) := by decide +kernel
theorem d_M_countOf_137 : decode c_M_countOf 137 = .ok (.iload_n 2, 1) := by decide +kernel
theorem d_M_countOf_138 : decode c_M_countOf 138 = .ok (.invokevirtual 143, 3) := by decide +kernel
theorem d_M_countOf_141 : decode c_M_countOf 141 = .ok (.ifCond .eq 7, 3) := by decide +kernel
theorem d_M_countOf_144 : decode c_M_countOf 144 = .ok (.iconst 1, 1) := by decide +kernel
theorem d_M_countOf_145 : decode c_M_countOf 145 = .ok (.goto 4, 3) := by decide +kernel
theorem d_M_countOf_148 : decode c_M_countOf 148 = .ok (.iconst 0, 1) := by decide +kernel
theorem d_M_countOf_149 : decode c_M_countOf 149 = .ok (.isub, 1) := by decide +kernel
theorem d_M_countOf_150 : decode c_M_countOf 150 = .ok (.ireturn, 1) := by decide +kernel
theorem d_M_count_0 : decode c_M_count 0 = .ok (.iload_n 1, 1) := by decide +kernel
theorem d_M_count_1 : decode c_M_count 1 = .ok (.invokestatic 78, 3) := by decide +kernel
theorem d_M_count_4 : decode c_M_count 4 = .ok (.ifCond .eq 12, 3) := by decide +kernel
theorem d_M_count_7 : decode c_M_count 7 = .ok (.iload_n 3, 1) := by decide +kernel
theorem d_M_count_8 : decode c_M_count 8 = .ok (.iconst 0, 1) := by decide +kernel
theorem d_M_count_9 : decode c_M_count 9 = .ok (.iconst 1, 1) := by decide +kernel
theorem d_M_count_10 : decode c_M_count 10 = .ok (.invokestatic 74, 3) := by decide +kernel
theorem d_M_count_13 : decode c_M_count 13 = .ok (.ifCond .ne 6, 3) := by decide +kernel
theorem d_M_count_16 : decode c_M_count 16 = .ok (.bipush (-2), 2) := by decide +kernel
theorem d_M_count_18 : decode c_M_count 18 = .ok (.ireturn, 1) := by decide +kernel
theorem d_M_count_19 : decode c_M_count 19 = .ok (.aload_n 0, 1) := by decide +kernel
theorem d_M_count_20 : decode c_M_count 20 = .ok (.getfield 44, 3) := by decide +kernel
theorem d_M_count_23 : decode c_M_count 23 = .ok (.iload_n 1, 1) := by decide +kernel
theorem d_M_count_24 : decode c_M_count 24 = .ok (.baload, 1) := by decide +kernel
theorem d_M_count_25 : decode c_M_count 25 = .ok (.ifCond .ne 6, 3) := by decide +kernel
theorem d_M_count_28 : decode c_M_count 28 = .ok (.bipush (-3), 2) := by decide +kernel
theorem d_M_count_30 : decode c_M_count 30 = .ok (.ireturn, 1) := by decide +kernel
theorem d_M_count_31 : decode c_M_count 31 = .ok (.iconst 0, 1) := by decide +kernel
theorem d_M_count_32 : decode c_M_count 32 = .ok (.istore 4, 2) := by decide +kernel
theorem d_M_count_34 : decode c_M_count 34 = .ok (.iconst 0, 1) := by decide +kernel
theorem d_M_count_35 : decode c_M_count 35 = .ok (.istore 5, 2) := by decide +kernel
theorem d_M_count_37 : decode c_M_count 37 = .ok (.iload 5, 2) := by decide +kernel
theorem d_M_count_39 : decode c_M_count 39 = .ok (.bipush 8, 2) := by decide +kernel
theorem d_M_count_41 : decode c_M_count 41 = .ok (.if_icmp .ge 28, 3) := by decide +kernel
theorem d_M_count_44 : decode c_M_count 44 = .ok (.iload 4, 2) := by decide +kernel
theorem d_M_count_46 : decode c_M_count 46 = .ok (.aload_n 0, 1) := by decide +kernel
theorem d_M_count_47 : decode c_M_count 47 = .ok (.iload_n 1, 1) := by decide +kernel
theorem d_M_count_48 : decode c_M_count 48 = .ok (.bipush 8, 2) := by decide +kernel
theorem d_M_count_50 : decode c_M_count 50 = .ok (.iload_n 1, 1) := by decide +kernel
theorem d_M_count_51 : decode c_M_count 51 = .ok (.imul, 1) := by decide +kernel
theorem d_M_count_52 : decode c_M_count 52 = .ok (.iload 5, 2) := by decide +kernel
theorem d_M_count_54 : decode c_M_count 54 = .ok (.iadd, 1) := by decide +kernel
theorem d_M_count_55 : decode c_M_count 55 = .ok (.iload_n 2, 1) := by decide +kernel
theorem d_M_count_56 : decode c_M_count 56 = .ok (.iload_n 3, 1) := by decide +kernel
theorem d_M_count_57 : decode c_M_count 57 = .ok (.invokevirtual 162, 3) := by decide +kernel
theorem d_M_count_60 : decode c_M_count 60 = .ok (.iadd, 1) := by decide +kernel
theorem d_M_count_61 : decode c_M_count 61 = .ok (.istore 4, 2) := by decide +kernel
theorem d_M_count_63 : decode c_M_count 63 = .ok (.iinc 5 1, 3) := by decide +kernel
theorem d_M_count_66 : decode c_M_count 66 = .ok (.goto (-29), 3) := by decide +kernel
theorem d_M_count_69 : decode c_M_count 69 = .ok (.iload 4, 2) := by decide +kernel
theorem d_M_count_71 : decode c_M_count 71 = .ok (.ireturn, 1) := by decide +kernel
theorem d_M_pairs_0 : decode c_M_pairs 0 = .ok (.iconst 0, 1) := by decide +kernel
theorem d_M_pairs_1 : decode c_M_pairs 1 = .ok (.istore_n 3, 1) := by decide +kernel
theorem d_M_pairs_2 : decode c_M_pairs 2 = .ok (.iconst 0, 1) := by decide +kernel
theorem d_M_pairs_3 : decode c_M_pairs 3 = .ok (.istore 4, 2) := by decide +kernel
theorem d_M_pairs_5 : decode c_M_pairs 5 = .ok (.iload 4, 2) := by decide +kernel
theorem d_M_pairs_7 : decode c_M_pairs 7 = .ok (.bipush 96, 2) := by decide +kernel
theorem d_M_pairs_9 : decode c_M_pairs 9 = .ok (.if_icmp .ge 83, 3) := by decide +kernel
theorem d_M_pairs_12 : decode c_M_pairs 12 = .ok (.aload_n 0, 1) := by decide +kernel
theorem d_M_pairs_13 : decode c_M_pairs 13 = .ok (.iload 4, 2) := by decide +kernel
theorem d_M_pairs_15 : decode c_M_pairs 15 = .ok (.invokevirtual 166, 3) := by decide +kernel
theorem d_M_pairs_18 : decode c_M_pairs 18 = .ok (.ifCond .eq 68, 3) := by decide +kernel
theorem d_M_pairs_21 : decode c_M_pairs 21 = .ok (.aload_n 0, 1) := by decide +kernel
theorem d_M_pairs_22 : decode c_M_pairs 22 = .ok (.getfield 13, 3) := by decide +kernel
theorem d_M_pairs_25 : decode c_M_pairs 25 = .ok (.iload 4, 2) := by decide +kernel
theorem d_M_pairs_27 : decode c_M_pairs 27 = .ok (.iaload, 1) := by decide +kernel
theorem d_M_pairs_28 : decode c_M_pairs 28 = .ok (.iload_n 1, 1) := by decide +kernel
theorem d_M_pairs_29 : decode c_M_pairs 29 = .ok (.irem, 1) := by decide +kernel
theorem d_M_pairs_30 : decode c_M_pairs 30 = .ok (.iload_n 2, 1) := by decide +kernel
theorem d_M_pairs_31 : decode c_M_pairs 31 = .ok (.if_icmp .ne 55, 3) := by decide +kernel
theorem d_M_pairs_34 : decode c_M_pairs 34 = .ok (.bipush 96, 2) := by decide +kernel
theorem d_M_pairs_36 : decode c_M_pairs 36 = .ok (.istore 5, 2) := by decide +kernel
theorem d_M_pairs_38 : decode c_M_pairs 38 = .ok (.iload 5, 2) := by decide +kernel
theorem d_M_pairs_40 : decode c_M_pairs 40 = .ok (.sipush 192, 3) := by decide +kernel
theorem d_M_pairs_43 : decode c_M_pairs 43 = .ok (.if_icmp .ge 43, 3) := by decide +kernel
theorem d_M_pairs_46 : decode c_M_pairs 46 = .ok (.iload_n 3, 1) := by decide +kernel
theorem d_M_pairs_47 : decode c_M_pairs 47 = .ok (.aload_n 0, 1) := by decide +kernel
theorem d_M_pairs_48 : decode c_M_pairs 48 = .ok (.iload 5, 2) := by decide +kernel
theorem d_M_pairs_50 : decode c_M_pairs 50 = .ok (.invokevirtual 166, 3) := by decide +kernel
theorem d_M_pairs_53 : decode c_M_pairs 53 = .ok (.ifCond .eq 24, 3) := by decide +kernel
theorem d_M_pairs_56 : decode c_M_pairs 56 = .ok (.aload_n 0, 1) := by decide +kernel
theorem d_M_pairs_57 : decode c_M_pairs 57 = .ok (.getfield 13, 3) := by decide +kernel
theorem d_M_pairs_60 : decode c_M_pairs 60 = .ok (.iload 5, 2) := by decide +kernel
theorem d_M_pairs_62 : decode c_M_pairs 62 = .ok (.iaload, 1) := by decide +kernel
theorem d_M_pairs_63 : decode c_M_pairs 63 = .ok (.aload_n 0, 1) := by decide +kernel
theorem d_M_pairs_64 : decode c_M_pairs 64 = .ok (.getfield 13, 3) := by decide +kernel
theorem d_M_pairs_67 : decode c_M_pairs 67 = .ok (.iload 4, 2) := by decide +kernel
theorem d_M_pairs_69 : decode c_M_pairs 69 = .ok (.iaload, 1) := by decide +kernel
theorem d_M_pairs_70 : decode c_M_pairs 70 = .ok (.if_icmp .ne 7, 3) := by decide +kernel
theorem d_M_pairs_73 : decode c_M_pairs 73 = .ok (.iconst 1, 1) := by decide +kernel
theorem d_M_pairs_74 : decode c_M_pairs 74 = .ok (.goto 4, 3) := by decide +kernel
theorem d_M_pairs_77 : decode c_M_pairs 77 = .ok (.iconst 0, 1) := by decide +kernel
theorem d_M_pairs_78 : decode c_M_pairs 78 = .ok (.iadd, 1) := by decide +kernel
theorem d_M_pairs_79 : decode c_M_pairs 79 = .ok (.istore_n 3, 1) := by decide +kernel
theorem d_M_pairs_80 : decode c_M_pairs 80 = .ok (.iinc 5 1, 3) := by decide +kernel
theorem d_M_pairs_83 : decode c_M_pairs 83 = .ok (.goto (-45), 3) := by decide +kernel
theorem d_M_pairs_86 : decode c_M_pairs 86 = .ok (.iinc 4 1, 3) := by decide +kernel
theorem d_M_pairs_89 : decode c_M_pairs 89 = .ok (.goto (-84), 3) := by decide +kernel
theorem d_M_pairs_92 : decode c_M_pairs 92 = .ok (.iload_n 3, 1) := by decide +kernel
theorem d_M_pairs_93 : decode c_M_pairs 93 = .ok (.ireturn, 1) := by decide +kernel
theorem d_M_isKnownAt_0 : decode c_M_isKnownAt 0 = .ok (.iload_n 1, 1) := by decide +kernel
theorem d_M_isKnownAt_1 : decode c_M_isKnownAt 1 = .ok (.bipush 12, 2) := by decide +kernel
theorem d_M_isKnownAt_3 : decode c_M_isKnownAt 3 = .ok (.irem, 1) := by decide +kernel
theorem d_M_isKnownAt_4 : decode c_M_isKnownAt 4 = .ok (.aload_n 0, 1) := by decide +kernel
theorem d_M_isKnownAt_5 : decode c_M_isKnownAt 5 = .ok (.getfield 7, 3) := by decide +kernel
theorem d_M_isKnownAt_8 : decode c_M_isKnownAt 8 = .ok (.iload_n 1, 1) := by decide +kernel
theorem d_M_isKnownAt_9 : decode c_M_isKnownAt 9 = .ok (.bipush 12, 2) := by decide +kernel
theorem d_M_isKnownAt_11 : decode c_M_isKnownAt 11 = .ok (.idiv, 1) := by decide +kernel
theorem d_M_isKnownAt_12 : decode c_M_isKnownAt 12 = .ok (.iaload, 1) := by decide +kernel
theorem d_M_isKnownAt_13 : decode c_M_isKnownAt 13 = .ok (.if_icmp .ge 16, 3) := by decide +kernel
theorem d_M_isKnownAt_16 : decode c_M_isKnownAt 16 = .ok (.aload_n 0, 1) := by decide +kernel
theorem d_M_isKnownAt_17 : decode c_M_isKnownAt 17 = .ok (.getfield 22, 3) := by decide +kernel
theorem d_M_isKnownAt_20 : decode c_M_isKnownAt 20 = .ok (.iload_n 1, 1) := by decide +kernel
theorem d_M_isKnownAt_21 : decode c_M_isKnownAt 21 = .ok (.baload, 1) := by decide +kernel
theorem d_M_isKnownAt_22 : decode c_M_isKnownAt 22 = .ok (.ifCond .eq 7, 3) := by decide +kernel
theorem d_M_isKnownAt_25 : decode c_M_isKnownAt 25 = .ok (.iconst 1, 1) := by decide +kernel
theorem d_M_isKnownAt_26 : decode c_M_isKnownAt 26 = .ok (.goto 4, 3) := by decide +kernel
theorem d_M_isKnownAt_29 : decode c_M_isKnownAt 29 = .ok (.iconst 0, 1) := by decide +kernel
theorem d_M_isKnownAt_30 : decode c_M_isKnownAt 30 = .ok (.ireturn, 1) := by decide +kernel
theorem d_M_join_0 : decode c_M_join 0 = .ok (.iload_n 1, 1) := by decide +kernel
theorem d_M_join_1 : decode c_M_join 1 = .ok (.iconst 0, 1) := by decide +kernel
theorem d_M_join_2 : decode c_M_join 2 = .ok (.iconst 1, 1) := by decide +kernel
theorem d_M_join_3 : decode c_M_join 3 = .ok (.invokestatic 74, 3) := by decide +kernel
theorem d_M_join_6 : decode c_M_join 6 = .ok (.ifCond .ne 6, 3) := by decide +kernel
theorem d_M_join_9 : decode c_M_join 9 = .ok (.bipush (-2), 2) := by decide +kernel
theorem d_M_join_11 : decode c_M_join 11 = .ok (.ireturn, 1) := by decide +kernel
theorem d_M_join_12 : decode c_M_join 12 = .ok (.aload_n 0, 1) := by decide +kernel
theorem d_M_join_13 : decode c_M_join 13 = .ok (.getfield 44, 3) := by decide +kernel
theorem d_M_join_16 : decode c_M_join 16 = .ok (.iconst 0, 1) := by decide +kernel
theorem d_M_join_17 : decode c_M_join 17 = .ok (.baload, 1) := by decide +kernel
theorem d_M_join_18 : decode c_M_join 18 = .ok (.ifCond .eq 12, 3) := by decide +kernel
theorem d_M_join_21 : decode c_M_join 21 = .ok (.aload_n 0, 1) := by decide +kernel
theorem d_M_join_22 : decode c_M_join 22 = .ok (.getfield 44, 3) := by decide +kernel
theorem d_M_join_25 : decode c_M_join 25 = .ok (.iconst 1, 1) := by decide +kernel
theorem d_M_join_26 : decode c_M_join 26 = .ok (.baload, 1) := by decide +kernel
theorem d_M_join_27 : decode c_M_join 27 = .ok (.ifCond .ne 6, 3) := by decide +kernel
theorem d_M_join_30 : decode c_M_join 30 = .ok (.bipush (-3), 2) := by decide +kernel
theorem d_M_join_32 : decode c_M_join 32 = .ok (.ireturn, 1) := by decide +kernel
theorem d_M_join_33 : decode c_M_join 33 = .ok (.aload_n 0, 1) := by decide +kernel
theorem d_M_join_34 : decode c_M_join 34 = .ok (.iconst 0, 1) := by decide +kernel
theorem d_M_join_35 : decode c_M_join 35 = .ok (.invokevirtual 110, 3) := by decide +kernel
theorem d_M_join_38 : decode c_M_join 38 = .ok (.istore_n 2, 1) := by decide +kernel
theorem d_M_join_39 : decode c_M_join 39 = .ok (.aload_n 0, 1) := by decide +kernel
theorem d_M_join_40 : decode c_M_join 40 = .ok (.iconst 1, 1) := by decide +kernel
theorem d_M_join_41 : decode c_M_join 41 = .ok (.invokevirtual 110, 3) := by decide +kernel
theorem d_M_join_44 : decode c_M_join 44 = .ok (.istore_n 3, 1) := by decide +kernel
theorem d_M_join_45 : decode c_M_join 45 = .ok (.aload_n 0, 1) := by decide +kernel
theorem d_M_join_46 : decode c_M_join 46 = .ok (.iconst 0, 1) := by decide +kernel
theorem d_M_join_47 : decode c_M_join 47 = .ok (.invokevirtual 113, 3) := by decide +kernel
theorem d_M_join_50 : decode c_M_join 50 = .ok (.iload_n 2, 1) := by decide +kernel
theorem d_M_join_51 : decode c_M_join 51 = .ok (.isub, 1) := by decide +kernel
theorem d_M_join_52 : decode c_M_join 52 = .ok (.aload_n 0, 1) := by decide +kernel
theorem d_M_join_53 : decode c_M_join 53 = .ok (.iconst 1, 1) := by decide +kernel
theorem d_M_join_54 : decode c_M_join 54 = .ok (.invokevirtual 113, 3) := by decide +kernel
theorem d_M_join_57 : decode c_M_join 57 = .ok (.imul, 1) := by decide +kernel
theorem d_M_join_58 : decode c_M_join 58 = .ok (.iload_n 2, 1) := by decide +kernel
theorem d_M_join_59 : decode c_M_join 59 = .ok (.aload_n 0, 1) := by decide +kernel
theorem d_M_join_60 : decode c_M_join 60 = .ok (.iconst 1, 1) := by decide +kernel
theorem d_M_join_61 : decode c_M_join 61 = .ok (.invokevirtual 113, 3) := by decide +kernel
theorem d_M_join_64 : decode c_M_join 64 = .ok (.iload_n 3, 1) := by decide +kernel
theorem d_M_join_65 : decode c_M_join 65 = .ok (.isub, 1) := by decide +kernel
theorem d_M_join_66 : decode c_M_join 66 = .ok (.imul, 1) := by decide +kernel
theorem d_M_join_67 : decode c_M_join 67 = .ok (.iadd, 1) := by decide +kernel
theorem d_M_join_68 : decode c_M_join 68 = .ok (.istore 4, 2) := by decide +kernel
theorem d_M_join_70 : decode c_M_join 70 = .ok (.aload_n 0, 1) := by decide +kernel
theorem d_M_join_71 : decode c_M_join 71 = .ok (.iconst 1, 1) := by decide +kernel
theorem d_M_join_72 : decode c_M_join 72 = .ok (.iconst 0, 1) := by decide +kernel
theorem d_M_join_73 : decode c_M_join 73 = .ok (.invokevirtual 169, 3) := by decide +kernel
theorem d_M_join_76 : decode c_M_join 76 = .ok (.iload_n 1, 1) := by decide +kernel
theorem d_M_join_77 : decode c_M_join 77 = .ok (.ifCond .ne 7, 3) := by decide +kernel
theorem d_M_join_80 : decode c_M_join 80 = .ok (.iconst 0, 1) := by decide +kernel
theorem d_M_join_81 : decode c_M_join 81 = .ok (.goto 5, 3) := by decide +kernel
theorem d_M_join_84 : decode c_M_join 84 = .ok (.iload 4, 2) := by decide +kernel
theorem d_M_join_86 : decode c_M_join 86 = .ok (.iadd, 1) := by decide +kernel
theorem d_M_join_87 : decode c_M_join 87 = .ok (.ireturn, 1) := by decide +kernel
theorem d_M_hasKeyed_0 : decode c_M_hasKeyed 0 = .ok (.iconst 4, 1) := by decide +kernel
theorem d_M_hasKeyed_1 : decode c_M_hasKeyed 1 = .ok (.iload_n 1, 1) := by decide +kernel
theorem d_M_hasKeyed_2 : decode c_M_hasKeyed 2 = .ok (.imul, 1) := by decide +kernel
theorem d_M_hasKeyed_3 : decode c_M_hasKeyed 3 = .ok (.istore 4, 2) := by decide +kernel
theorem d_M_hasKeyed_5 : decode c_M_hasKeyed 5 = .ok (.iload 4, 2) := by decide +kernel
theorem d_M_hasKeyed_7 : decode c_M_hasKeyed 7 = .ok (.iconst 4, 1) := by decide +kernel
theorem d_M_hasKeyed_8 : decode c_M_hasKeyed 8 = .ok (.iload_n 1, 1) := by decide +kernel
theorem d_M_hasKeyed_9 : decode c_M_hasKeyed 9 = .ok (.imul, 1) := by decide +kernel
theorem d_M_hasKeyed_10 : decode c_M_hasKeyed 10 = .ok (.aload_n 0, 1) := by decide +kernel
theorem d_M_hasKeyed_11 : decode c_M_hasKeyed 11 = .ok (.getfield 47, 3) := by decide +kernel
theorem d_M_hasKeyed_14 : decode c_M_hasKeyed 14 = .ok (.iload_n 1, 1) := by decide +kernel
theorem d_M_hasKeyed_15 : decode c_M_hasKeyed 15 = .ok (.iaload, 1) := by decide +kernel
theorem d_M_hasKeyed_16 : decode c_M_hasKeyed 16 = .ok (.iadd, 1) := by decide +kernel
theorem d_M_hasKeyed_17 : decode c_M_hasKeyed 17 = .ok (.if_icmp .ge 44, 3) := by decide +kernel
theorem d_M_hasKeyed_20 : decode c_M_hasKeyed 20 = .ok (.aload_n 0, 1) := by decide +kernel
theorem d_M_hasKeyed_21 : decode c_M_hasKeyed 21 = .ok (.getfield 50, 3) := by decide +kernel
theorem d_M_hasKeyed_24 : decode c_M_hasKeyed 24 = .ok (.iload 4, 2) := by decide +kernel
theorem d_M_hasKeyed_26 : decode c_M_hasKeyed 26 = .ok (.iaload, 1) := by decide +kernel
theorem d_M_hasKeyed_27 : decode c_M_hasKeyed 27 = .ok (.iconst 2, 1) := by decide +kernel
theorem d_M_hasKeyed_28 : decode c_M_hasKeyed 28 = .ok (.if_icmp .ne 27, 3) := by decide +kernel
theorem d_M_hasKeyed_31 : decode c_M_hasKeyed 31 = .ok (.aload_n 0, 1) := by decide +kernel
theorem d_M_hasKeyed_32 : decode c_M_hasKeyed 32 = .ok (.getfield 53, 3) := by decide +kernel
theorem d_M_hasKeyed_35 : decode c_M_hasKeyed 35 = .ok (.iload 4, 2) := by decide +kernel
theorem d_M_hasKeyed_37 : decode c_M_hasKeyed 37 = .ok (.iaload, 1) := by decide +kernel
theorem d_M_hasKeyed_38 : decode c_M_hasKeyed 38 = .ok (.iload_n 2, 1) := by decide +kernel
theorem d_M_hasKeyed_39 : decode c_M_hasKeyed 39 = .ok (.if_icmp .ne 16, 3) := by decide +kernel
theorem d_M_hasKeyed_42 : decode c_M_hasKeyed 42 = .ok (.aload_n 0, 1) := by decide +kernel
theorem d_M_hasKeyed_43 : decode c_M_hasKeyed 43 = .ok (.getfield 56, 3) := by decide +kernel
theorem d_M_hasKeyed_46 : decode c_M_hasKeyed 46 = .ok (.iload 4, 2) := by decide +kernel
theorem d_M_hasKeyed_48 : decode c_M_hasKeyed 48 = .ok (.iaload, 1) := by decide +kernel
theorem d_M_hasKeyed_49 : decode c_M_hasKeyed 49 = .ok (.iload_n 3, 1) := by decide +kernel
theorem d_M_hasKeyed_50 : decode c_M_hasKeyed 50 = .ok (.if_icmp .ne 5, 3) := by decide +kernel
theorem d_M_hasKeyed_53 : decode c_M_hasKeyed 53 = .ok (.iconst 1, 1) := by decide +kernel
theorem d_M_hasKeyed_54 : decode c_M_hasKeyed 54 = .ok (.ireturn, 1) := by decide +kernel
theorem d_M_hasKeyed_55 : decode c_M_hasKeyed 55 = .ok (.iinc 4 1, 3) := by decide +kernel
theorem d_M_hasKeyed_58 : decode c_M_hasKeyed 58 = .ok (.goto (-53), 3) := by decide +kernel
theorem d_M_hasKeyed_61 : decode c_M_hasKeyed 61 = .ok (.iconst 0, 1) := by decide +kernel
theorem d_M_hasKeyed_62 : decode c_M_hasKeyed 62 = .ok (.ireturn, 1) := by decide +kernel
theorem d_M_part_0 : decode c_M_part 0 = .ok (.iload_n 1, 1) := by decide +kernel
theorem d_M_part_1 : decode c_M_part 1 = .ok (.iconst 1, 1) := by decide +kernel
theorem d_M_part_2 : decode c_M_part 2 = .ok (.bipush 100, 2) := by decide +kernel
theorem d_M_part_4 : decode c_M_part 4 = .ok (.invokestatic 74, 3) := by decide +kernel
theorem d_M_part_7 : decode c_M_part 7 = .ok (.ifCond .eq 14, 3) := by decide +kernel
theorem d_M_part_10 : decode c_M_part 10 = .ok (.iload_n 2, 1) := by decide +kernel
theorem d_M_part_11 : decode c_M_part 11 = .ok (.iconst 0, 1) := by decide +kernel
theorem d_M_part_12 : decode c_M_part 12 = .ok (.iload_n 1, 1) := by decide +kernel
theorem d_M_part_13 : decode c_M_part 13 = .ok (.iconst 1, 1) := by decide +kernel
theorem d_M_part_14 : decode c_M_part 14 = .ok (.isub, 1) := by decide +kernel
theorem d_M_part_15 : decode c_M_part 15 = .ok (.invokestatic 74, 3) := by decide +kernel
theorem d_M_part_18 : decode c_M_part 18 = .ok (.ifCond .ne 6, 3) := by decide +kernel
theorem d_M_part_21 : decode c_M_part 21 = .ok (.bipush (-2), 2) := by decide +kernel
theorem d_M_part_23 : decode c_M_part 23 = .ok (.ireturn, 1) := by decide +kernel
theorem d_M_part_24 : decode c_M_part 24 = .ok (.aload_n 0, 1) := by decide +kernel
theorem d_M_part_25 : decode c_M_part 25 = .ok (.getfield 44, 3) := by decide +kernel
theorem d_M_part_28 : decode c_M_part 28 = .ok (.iconst 0, 1) := by decide +kernel
theorem d_M_part_29 : decode c_M_part 29 = .ok (.baload, 1) := by decide +kernel
theorem d_M_part_30 : decode c_M_part 30 = .ok (.ifCond .eq 12, 3) := by decide +kernel
theorem d_M_part_33 : decode c_M_part 33 = .ok (.aload_n 0, 1) := by decide +kernel
theorem d_M_part_34 : decode c_M_part 34 = .ok (.getfield 44, 3) := by decide +kernel
theorem d_M_part_37 : decode c_M_part 37 = .ok (.iconst 1, 1) := by decide +kernel
theorem d_M_part_38 : decode c_M_part 38 = .ok (.baload, 1) := by decide +kernel
theorem d_M_part_39 : decode c_M_part 39 = .ok (.ifCond .ne 6, 3) := by decide +kernel
theorem d_M_part_42 : decode c_M_part 42 = .ok (.bipush (-3), 2) := by decide +kernel
theorem d_M_part_44 : decode c_M_part 44 = .ok (.ireturn, 1) := by decide +kernel
theorem d_M_part_45 : decode c_M_part 45 = .ok (.aload_n 0, 1) := by decide +kernel
theorem d_M_part_46 : decode c_M_part 46 = .ok (.iconst 0, 1) := by decide +kernel
theorem d_M_part_47 : decode c_M_part 47 = .ok (.iload_n 1, 1) := by decide +kernel
theorem d_M_part_48 : decode c_M_part 48 = .ok (.iload_n 2, 1) := by decide +kernel
theorem d_M_part_49 : decode c_M_part 49 = .ok (.invokevirtual 172, 3) := by decide +kernel
theorem d_M_part_52 : decode c_M_part 52 = .ok (.ifCond .eq 22, 3) := by decide +kernel
theorem d_M_part_55 : decode c_M_part 55 = .ok (.aload_n 0, 1) := by decide +kernel
theorem d_M_part_56 : decode c_M_part 56 = .ok (.iconst 1, 1) := by decide +kernel
theorem d_M_part_57 : decode c_M_part 57 = .ok (.iload_n 1, 1) := by decide +kernel
theorem d_M_part_58 : decode c_M_part 58 = .ok (.iload_n 2, 1) := by decide +kernel
theorem d_M_part_59 : decode c_M_part 59 = .ok (.invokevirtual 172, 3) := by decide +kernel
theorem d_M_part_62 : decode c_M_part 62 = .ok (.ifCond .eq 12, 3) := by decide +kernel
theorem d_M_part_65 : decode c_M_part 65 = .ok (.aload_n 0, 1) := by decide +kernel
theorem d_M_part_66 : decode c_M_part 66 = .ok (.iload_n 1, 1) := by decide +kernel
theorem d_M_part_67 : decode c_M_part 67 = .ok (.iload_n 2, 1) := by decide +kernel
theorem d_M_part_68 : decode c_M_part 68 = .ok (.invokevirtual 169, 3) := by decide +kernel
theorem d_M_part_71 : decode c_M_part 71 = .ok (.goto 5, 3) := by decide +kernel
theorem d_M_part_74 : decode c_M_part 74 = .ok (.bipush (-5), 2) := by decide +kernel
theorem d_M_part_76 : decode c_M_part 76 = .ok (.ireturn, 1) := by decide +kernel
theorem d_M_nextOf_0 : decode c_M_nextOf 0 = .ok (.iconst (-1), 1) := by decide +kernel
theorem d_M_nextOf_1 : decode c_M_nextOf 1 = .ok (.istore_n 3, 1) := by decide +kernel
theorem d_M_nextOf_2 : decode c_M_nextOf 2 = .ok (.lconst 0, 1) := by decide +kernel
theorem d_M_nextOf_3 : decode c_M_nextOf 3 = .ok (.lstore 4, 2) := by decide +kernel
theorem d_M_nextOf_5 : decode c_M_nextOf 5 = .ok (.iconst 0, 1) := by decide +kernel
theorem d_M_nextOf_6 : decode c_M_nextOf 6 = .ok (.istore 6, 2) := by decide +kernel
theorem d_M_nextOf_8 : decode c_M_nextOf 8 = .ok (.iload 6, 2) := by decide +kernel
theorem d_M_nextOf_10 : decode c_M_nextOf 10 = .ok (.bipush 8, 2) := by decide +kernel
theorem d_M_nextOf_12 : decode c_M_nextOf 12 = .ok (.if_icmp .ge 54, 3) := by decide +kernel
theorem d_M_nextOf_15 : decode c_M_nextOf 15 = .ok (.bipush 8, 2) := by decide +kernel
theorem d_M_nextOf_17 : decode c_M_nextOf 17 = .ok (.iload_n 1, 1) := by decide +kernel
theorem d_M_nextOf_18 : decode c_M_nextOf 18 = .ok (.imul, 1) := by decide +kernel
theorem d_M_nextOf_19 : decode c_M_nextOf 19 = .ok (.iload 6, 2) := by decide +kernel
theorem d_M_nextOf_21 : decode c_M_nextOf 21 = .ok (.iadd, 1) := by decide +kernel
theorem d_M_nextOf_22 : decode c_M_nextOf 22 = .ok (.istore 7, 2) := by decide +kernel
theorem d_M_nextOf_24 : decode c_M_nextOf 24 = .ok (.aload_n 0, 1) := by decide +kernel
theorem d_M_nextOf_25 : decode c_M_nextOf 25 = .ok (.iload_n 1, 1) := by decide +kernel
theorem d_M_nextOf_26 : decode c_M_nextOf 26 = .ok (.iload 7, 2) := by decide +kernel
theorem d_M_nextOf_28 : decode c_M_nextOf 28 = .ok (.iload_n 2, 1) := by decide +kernel
theorem d_M_nextOf_29 : decode c_M_nextOf 29 = .ok (.iconst 1, 1) := by decide +kernel
theorem d_M_nextOf_30 : decode c_M_nextOf 30 = .ok (.invokevirtual 149, 3) := by decide +kernel
theorem d_M_nextOf_33 : decode c_M_nextOf 33 = .ok (.aload_n 0, 1) := by decide +kernel
theorem d_M_nextOf_34 : decode c_M_nextOf 34 = .ok (.iload_n 1, 1) := by decide +kernel
theorem d_M_nextOf_35 : decode c_M_nextOf 35 = .ok (.iload 7, 2) := by decide +kernel
theorem d_M_nextOf_37 : decode c_M_nextOf 37 = .ok (.iload_n 2, 1) := by decide +kernel
theorem d_M_nextOf_38 : decode c_M_nextOf 38 = .ok (.iconst 0, 1) := by decide +kernel
theorem d_M_nextOf_39 : decode c_M_nextOf 39 = .ok (.invokevirtual 149, 3) := by decide +kernel
theorem d_M_nextOf_42 : decode c_M_nextOf 42 = .ok (.lsub, 1) := by decide +kernel
theorem d_M_nextOf_43 : decode c_M_nextOf 43 = .ok (.lstore 8, 2) := by decide +kernel
theorem d_M_nextOf_45 : decode c_M_nextOf 45 = .ok (.lload 8, 2) := by decide +kernel
theorem d_M_nextOf_47 : decode c_M_nextOf 47 = .ok (.lload 4, 2) := by decide +kernel
theorem d_M_nextOf_49 : decode c_M_nextOf 49 = .ok (.lcmp, 1) := by decide +kernel
theorem d_M_nextOf_50 : decode c_M_nextOf 50 = .ok (.ifCond .le 10, 3) := by decide +kernel
theorem d_M_nextOf_53 : decode c_M_nextOf 53 = .ok (.iload 6, 2) := by decide +kernel
theorem d_M_nextOf_55 : decode c_M_nextOf 55 = .ok (.istore_n 3, 1) := by decide +kernel
theorem d_M_nextOf_56 : decode c_M_nextOf 56 = .ok (.lload 8, 2) := by decide +kernel
theorem d_M_nextOf_58 : decode c_M_nextOf 58 = .ok (.lstore 4, 2) := by decide +kernel
theorem d_M_nextOf_60 : decode c_M_nextOf 60 = .ok (.iinc 6 1, 3) := by decide +kernel
theorem d_M_nextOf_63 : decode c_M_nextOf 63 = .ok (.goto (-55), 3) := by decide +kernel
theorem d_M_nextOf_66 : decode c_M_nextOf 66 = .ok (.iload_n 3, 1) := by decide +kernel
theorem d_M_nextOf_67 : decode c_M_nextOf 67 = .ok (.ireturn, 1) := by decide +kernel
theorem d_M_next_0 : decode c_M_next 0 = .ok (.iload_n 1, 1) := by decide +kernel
theorem d_M_next_1 : decode c_M_next 1 = .ok (.invokestatic 78, 3) := by decide +kernel
theorem d_M_next_4 : decode c_M_next 4 = .ok (.ifCond .eq 10, 3) := by decide +kernel
theorem d_M_next_7 : decode c_M_next 7 = .ok (.iload_n 2, 1) := by decide +kernel
theorem d_M_next_8 : decode c_M_next 8 = .ok (.invokestatic 153, 3) := by decide +kernel
theorem d_M_next_11 : decode c_M_next 11 = .ok (.ifCond .ne 6, 3) := by decide +kernel
theorem d_M_next_14 : decode c_M_next 14 = .ok (.bipush (-2), 2) := by decide +kernel
theorem d_M_next_16 : decode c_M_next 16 = .ok (.ireturn, 1) := by decide +kernel
theorem d_M_next_17 : decode c_M_next 17 = .ok (.aload_n 0, 1) := by decide +kernel
theorem d_M_next_18 : decode c_M_next 18 = .ok (.getfield 44, 3) := by decide +kernel
theorem d_M_next_21 : decode c_M_next 21 = .ok (.iload_n 1, 1) := by decide +kernel
theorem d_M_next_22 : decode c_M_next 22 = .ok (.baload, 1) := by decide +kernel
theorem d_M_next_23 : decode c_M_next 23 = .ok (.ifCond .eq 12, 3) := by decide +kernel
theorem d_M_next_26 : decode c_M_next 26 = .ok (.aload_n 0, 1) := by decide +kernel
theorem d_M_next_27 : decode c_M_next 27 = .ok (.iload_n 1, 1) := by decide +kernel
theorem d_M_next_28 : decode c_M_next 28 = .ok (.iload_n 2, 1) := by decide +kernel
theorem d_M_next_29 : decode c_M_next 29 = .ok (.invokevirtual 175, 3) := by decide +kernel
theorem d_M_next_32 : decode c_M_next 32 = .ok (.goto 5, 3) := by decide +kernel
theorem d_M_next_35 : decode c_M_next 35 = .ok (.bipush (-3), 2) := by decide +kernel
theorem d_M_next_37 : decode c_M_next 37 = .ok (.ireturn, 1) := by decide +kernel
theorem d_M_refine_0 : decode c_M_refine 0 = .ok (.iload_n 1, 1) := by decide +kernel
theorem d_M_refine_1 : decode c_M_refine 1 = .ok (.invokestatic 78, 3) := by decide +kernel
theorem d_M_refine_4 : decode c_M_refine 4 = .ok (.ifCond .eq 20, 3) := by decide +kernel
theorem d_M_refine_7 : decode c_M_refine 7 = .ok (.iload_n 2, 1) := by decide +kernel
theorem d_M_refine_8 : decode c_M_refine 8 = .ok (.invokestatic 153, 3) := by decide +kernel
theorem d_M_refine_11 : decode c_M_refine 11 = .ok (.ifCond .eq 13, 3) := by decide +kernel
theorem d_M_refine_14 : decode c_M_refine 14 = .ok (.iload_n 3, 1) := by decide +kernel
theorem d_M_refine_15 : decode c_M_refine 15 = .ok (.iconst 0, 1) := by decide +kernel
theorem d_M_refine_16 : decode c_M_refine 16 = .ok (.ldc 178, 2) := by decide +kernel
theorem d_M_refine_18 : decode c_M_refine 18 = .ok (.invokestatic 74, 3) := by decide +kernel
theorem d_M_refine_21 : decode c_M_refine 21 = .ok (.ifCond .ne 6, 3) := by decide +kernel
theorem d_M_refine_24 : decode c_M_refine 24 = .ok (.bipush (-2), 2) := by decide +kernel
theorem d_M_refine_26 : decode c_M_refine 26 = .ok (.ireturn, 1) := by decide +kernel
theorem d_M_refine_27 : decode c_M_refine 27 = .ok (.aload_n 0, 1) := by decide +kernel
theorem d_M_refine_28 : decode c_M_refine 28 = .ok (.getfield 44, 3) := by decide +kernel
theorem d_M_refine_31 : decode c_M_refine 31 = .ok (.iload_n 1, 1) := by decide +kernel
theorem d_M_refine_32 : decode c_M_refine 32 = .ok (.baload, 1) := by decide +kernel
theorem d_M_refine_33 : decode c_M_refine 33 = .ok (.ifCond .ne 6, 3) := by decide +kernel
theorem d_M_refine_36 : decode c_M_refine 36 = .ok (.bipush (-3), 2) := by decide +kernel
theorem d_M_refine_38 : decode c_M_refine 38 = .ok (.ireturn, 1) := by decide +kernel
theorem d_M_refine_39 : decode c_M_refine 39 = .ok (.iconst 0, 1) := by decide +kernel
theorem d_M_refine_40 : decode c_M_refine 40 = .ok (.istore 4, 2) := by decide +kernel
theorem d_M_refine_42 : decode c_M_refine 42 = .ok (.aload_n 0, 1) := by decide +kernel
theorem d_M_refine_43 : decode c_M_refine 43 = .ok (.iload_n 1, 1) := by decide +kernel
theorem d_M_refine_44 : decode c_M_refine 44 = .ok (.iload_n 2, 1) := by decide +kernel
theorem d_M_refine_45 : decode c_M_refine 45 = .ok (.iconst 1, 1) := by decide +kernel
theorem d_M_refine_46 : decode c_M_refine 46 = .ok (.invokevirtual 158, 3) := by decide +kernel
theorem d_M_refine_49 : decode c_M_refine 49 = .ok (.aload_n 0, 1) := by decide +kernel
theorem d_M_refine_50 : decode c_M_refine 50 = .ok (.iload_n 1, 1) := by decide +kernel
theorem d_M_refine_51 : decode c_M_refine 51 = .ok (.iload_n 2, 1) := by decide +kernel
theorem d_M_refine_52 : decode c_M_refine 52 = .ok (.iconst 0, 1) := by decide +kernel
theorem d_M_refine_53 : decode c_M_refine 53 = .ok (.invokevirtual 158, 3) := by decide +kernel
theorem d_M_refine_56 : decode c_M_refine 56 = .ok (.lsub, 1) := by decide +kernel
theorem d_M_refine_57 : decode c_M_refine 57 = .ok (.iload_n 3, 1) := by decide +kernel
theorem d_M_refine_58 : decode c_M_refine 58 = .ok (.i2l, 1) := by decide +kernel
theorem d_M_refine_59 : decode c_M_refine 59 = .ok (.lcmp, 1) := by decide +kernel
theorem d_M_refine_60 : decode c_M_refine 60 = .ok (.ifCond .le 26, 3) := by decide +kernel
theorem d_M_refine_63 : decode c_M_refine 63 = .ok (.aload_n 0, 1) := by decide +kernel
theorem d_M_refine_64 : decode c_M_refine 64 = .ok (.bipush 8, 2) := by decide +kernel
theorem d_M_refine_66 : decode c_M_refine 66 = .ok (.iload_n 1, 1) := by decide +kernel
theorem d_M_refine_67 : decode c_M_refine 67 = .ok (.imul, 1) := by decide +kernel
theorem d_M_refine_68 : decode c_M_refine 68 = .ok (.aload_n 0, 1) := by decide +kernel
theorem d_M_refine_69 : decode c_M_refine 69 = .ok (.iload_n 1, 1) := by decide +kernel
theorem d_M_refine_70 : decode c_M_refine 70 = .ok (.iload_n 2, 1) := by decide +kernel
theorem d_M_refine_71 : decode c_M_refine 71 = .ok (.invokevirtual 175, 3) := by decide +kernel
theorem d_M_refine_74 : decode c_M_refine 74 = .ok (.iadd, 1) := by decide +kernel
theorem d_M_refine_75 : decode c_M_refine 75 = .ok (.invokevirtual 123, 3) := by decide +kernel
theorem d_M_refine_78 : decode c_M_refine 78 = .ok (.istore 5, 2) := by decide +kernel
theorem d_M_refine_80 : decode c_M_refine 80 = .ok (.iinc 4 1, 3) := by decide +kernel
theorem d_M_refine_83 : decode c_M_refine 83 = .ok (.goto (-41), 3) := by decide +kernel
theorem d_M_refine_86 : decode c_M_refine 86 = .ok (.iload 4, 2) := by decide +kernel
theorem d_M_refine_88 : decode c_M_refine 88 = .ok (.ireturn, 1) := by decide +kernel
theorem d_M_meets_0 : decode c_M_meets 0 = .ok (.aload_n 0, 1) := by decide +kernel
theorem d_M_meets_1 : decode c_M_meets 1 = .ok (.iload_n 1, 1) := by decide +kernel
theorem d_M_meets_2 : decode c_M_meets 2 = .ok (.putfield 179, 3) := by decide +kernel
theorem d_M_meets_5 : decode c_M_meets 5 = .ok (.bipush (-10), 2) := by decide +kernel
theorem d_M_meets_7 : decode c_M_meets 7 = .ok (.iload_n 1, 1) := by decide +kernel
theorem d_M_meets_8 : decode c_M_meets 8 = .ok (.isub, 1) := by decide +kernel
theorem d_M_meets_9 : decode c_M_meets 9 = .ok (.ireturn, 1) := by decide +kernel
theorem d_M_isSheet_0 : decode c_M_isSheet 0 = .ok (.iload_n 0, 1) := by decide +kernel
theorem d_M_isSheet_1 : decode c_M_isSheet 1 = .ok (.iconst 0, 1) := by decide +kernel
theorem d_M_isSheet_2 : decode c_M_isSheet 2 = .ok (.iconst 3, 1) := by decide +kernel
theorem d_M_isSheet_3 : decode c_M_isSheet 3 = .ok (.invokestatic 74, 3) := by decide +kernel
theorem d_M_isSheet_6 : decode c_M_isSheet 6 = .ok (.ireturn, 1) := by decide +kernel
theorem d_M_sheet_0 : decode c_M_sheet 0 = .ok (.iload_n 1, 1) := by decide +kernel
theorem d_M_sheet_1 : decode c_M_sheet 1 = .ok (.invokestatic 93, 3) := by decide +kernel
theorem d_M_sheet_4 : decode c_M_sheet 4 = .ok (.ifCond .eq 18, 3) := by decide +kernel
theorem d_M_sheet_7 : decode c_M_sheet 7 = .ok (.iload_n 2, 1) := by decide +kernel
theorem d_M_sheet_8 : decode c_M_sheet 8 = .ok (.iconst 0, 1) := by decide +kernel
theorem d_M_sheet_9 : decode c_M_sheet 9 = .ok (.iconst 2, 1) := by decide +kernel
theorem d_M_sheet_10 : decode c_M_sheet 10 = .ok (.invokestatic 74, 3) := by decide +kernel
theorem d_M_sheet_13 : decode c_M_sheet 13 = .ok (.ifCond .eq 9, 3) := by decide +kernel
theorem d_M_sheet_16 : decode c_M_sheet 16 = .ok (.iload_n 3, 1) := by decide +kernel
theorem d_M_sheet_17 : decode c_M_sheet 17 = .ok (.bipush 40, 2) := by decide +kernel
theorem d_M_sheet_19 : decode c_M_sheet 19 = .ok (.if_icmp .le 6, 3) := by decide +kernel
theorem d_M_sheet_22 : decode c_M_sheet 22 = .ok (.bipush (-2), 2) := by decide +kernel
theorem d_M_sheet_24 : decode c_M_sheet 24 = .ok (.ireturn, 1) := by decide +kernel
theorem d_M_sheet_25 : decode c_M_sheet 25 = .ok (.iload_n 3, 1) := by decide +kernel
theorem d_M_sheet_26 : decode c_M_sheet 26 = .ok (.ifCond .ge 9, 3) := by decide +kernel
theorem d_M_sheet_29 : decode c_M_sheet 29 = .ok (.aload_n 0, 1) := by decide +kernel
theorem d_M_sheet_30 : decode c_M_sheet 30 = .ok (.iconst 5, 1) := by decide +kernel
theorem d_M_sheet_31 : decode c_M_sheet 31 = .ok (.invokevirtual 96, 3) := by decide +kernel
theorem d_M_sheet_34 : decode c_M_sheet 34 = .ok (.ireturn, 1) := by decide +kernel
theorem d_M_sheet_35 : decode c_M_sheet 35 = .ok (.aload_n 0, 1) := by decide +kernel
theorem d_M_sheet_36 : decode c_M_sheet 36 = .ok (.getfield 59, 3) := by decide +kernel
theorem d_M_sheet_39 : decode c_M_sheet 39 = .ok (.iload_n 1, 1) := by decide +kernel
theorem d_M_sheet_40 : decode c_M_sheet 40 = .ok (.iconst 1, 1) := by decide +kernel
theorem d_M_sheet_41 : decode c_M_sheet 41 = .ok (.bastore, 1) := by decide +kernel
theorem d_M_sheet_42 : decode c_M_sheet 42 = .ok (.aload_n 0, 1) := by decide +kernel
theorem d_M_sheet_43 : decode c_M_sheet 43 = .ok (.getfield 62, 3) := by decide +kernel
theorem d_M_sheet_46 : decode c_M_sheet 46 = .ok (.iload_n 1, 1) := by decide +kernel
theorem d_M_sheet_47 : decode c_M_sheet 47 = .ok (.iload_n 2, 1) := by decide +kernel
theorem d_M_sheet_48 : decode c_M_sheet 48 = .ok (.iastore, 1) := by decide +kernel
theorem d_M_sheet_49 : decode c_M_sheet 49 = .ok (.aload_n 0, 1) := by decide +kernel
theorem d_M_sheet_50 : decode c_M_sheet 50 = .ok (.getfield 65, 3) := by decide +kernel
theorem d_M_sheet_53 : decode c_M_sheet 53 = .ok (.iload_n 1, 1) := by decide +kernel
theorem d_M_sheet_54 : decode c_M_sheet 54 = .ok (.iload_n 3, 1) := by decide +kernel
theorem d_M_sheet_55 : decode c_M_sheet 55 = .ok (.iastore, 1) := by decide +kernel
theorem d_M_sheet_56 : decode c_M_sheet 56 = .ok (.iconst 0, 1) := by decide +kernel
theorem d_M_sheet_57 : decode c_M_sheet 57 = .ok (.istore 4, 2) := by decide +kernel
theorem d_M_sheet_59 : decode c_M_sheet 59 = .ok (.iload 4, 2) := by decide +kernel
theorem d_M_sheet_61 : decode c_M_sheet 61 = .ok (.bipush 40, 2) := by decide +kernel
theorem d_M_sheet_63 : decode c_M_sheet 63 = .ok (.if_icmp .ge 22, 3) := by decide +kernel
theorem d_M_sheet_66 : decode c_M_sheet 66 = .ok (.aload_n 0, 1) := by decide +kernel
theorem d_M_sheet_67 : decode c_M_sheet 67 = .ok (.getfield 68, 3) := by decide +kernel
theorem d_M_sheet_70 : decode c_M_sheet 70 = .ok (.bipush 40, 2) := by decide +kernel
theorem d_M_sheet_72 : decode c_M_sheet 72 = .ok (.iload_n 1, 1) := by decide +kernel
theorem d_M_sheet_73 : decode c_M_sheet 73 = .ok (.imul, 1) := by decide +kernel
theorem d_M_sheet_74 : decode c_M_sheet 74 = .ok (.iload 4, 2) := by decide +kernel
theorem d_M_sheet_76 : decode c_M_sheet 76 = .ok (.iadd, 1) := by decide +kernel
theorem d_M_sheet_77 : decode c_M_sheet 77 = .ok (.iconst 0, 1) := by decide +kernel
theorem d_M_sheet_78 : decode c_M_sheet 78 = .ok (.iastore, 1) := by decide +kernel
theorem d_M_sheet_79 : decode c_M_sheet 79 = .ok (.iinc 4 1, 3) := by decide +kernel
theorem d_M_sheet_82 : decode c_M_sheet 82 = .ok (.goto (-23), 3) := by decide +kernel
theorem d_M_sheet_85 : decode c_M_sheet 85 = .ok (.iload_n 3, 1) := by decide +kernel
theorem d_M_sheet_86 : decode c_M_sheet 86 = .ok (.ireturn, 1) := by decide +kernel
theorem d_M_lose_0 : decode c_M_lose 0 = .ok (.iload_n 1, 1) := by decide +kernel
theorem d_M_lose_1 : decode c_M_lose 1 = .ok (.invokestatic 93, 3) := by decide +kernel
theorem d_M_lose_4 : decode c_M_lose 4 = .ok (.ifCond .ne 6, 3) := by decide +kernel
theorem d_M_lose_7 : decode c_M_lose 7 = .ok (.bipush (-2), 2) := by decide +kernel
theorem d_M_lose_9 : decode c_M_lose 9 = .ok (.ireturn, 1) := by decide +kernel
theorem d_M_lose_10 : decode c_M_lose 10 = .ok (.aload_n 0, 1) := by decide +kernel
theorem d_M_lose_11 : decode c_M_lose 11 = .ok (.getfield 59, 3) := by decide +kernel
theorem d_M_lose_14 : decode c_M_lose 14 = .ok (.iload_n 1, 1) := by decide +kernel
theorem d_M_lose_15 : decode c_M_lose 15 = .ok (.baload, 1) := by decide +kernel
theorem d_M_lose_16 : decode c_M_lose 16 = .ok (.ifCond .ne 9, 3) := by decide +kernel
theorem d_M_lose_19 : decode c_M_lose 19 = .ok (.aload_n 0, 1) := by decide +kernel
theorem d_M_lose_20 : decode c_M_lose 20 = .ok (.iconst 1, 1) := by decide +kernel
theorem d_M_lose_21 : decode c_M_lose 21 = .ok (.invokevirtual 96, 3) := by decide +kernel
theorem d_M_lose_24 : decode c_M_lose 24 = .ok (.ireturn, 1) := by decide +kernel
theorem d_M_lose_25 : decode c_M_lose 25 = .ok (.aload_n 0, 1) := by decide +kernel
theorem d_M_lose_26 : decode c_M_lose 26 = .ok (.getfield 59, 3) := by decide +kernel
theorem d_M_lose_29 : decode c_M_lose 29 = .ok (.iload_n 1, 1) := by decide +kernel
theorem d_M_lose_30 : decode c_M_lose 30 = .ok (.iconst 0, 1) := by decide +kernel
theorem d_M_lose_31 : decode c_M_lose 31 = .ok (.bastore, 1) := by decide +kernel
theorem d_M_lose_32 : decode c_M_lose 32 = .ok (.aload_n 0, 1) := by decide +kernel
theorem d_M_lose_33 : decode c_M_lose 33 = .ok (.getfield 65, 3) := by decide +kernel
theorem d_M_lose_36 : decode c_M_lose 36 = .ok (.iload_n 1, 1) := by decide +kernel
theorem d_M_lose_37 : decode c_M_lose 37 = .ok (.iaload, 1) := by decide +kernel
theorem d_M_lose_38 : decode c_M_lose 38 = .ok (.ireturn, 1) := by decide +kernel
theorem d_M_lacks_0 : decode c_M_lacks 0 = .ok (.aload_n 0, 1) := by decide +kernel
theorem d_M_lacks_1 : decode c_M_lacks 1 = .ok (.getfield 59, 3) := by decide +kernel
theorem d_M_lacks_4 : decode c_M_lacks 4 = .ok (.iload_n 1, 1) := by decide +kernel
theorem d_M_lacks_5 : decode c_M_lacks 5 = .ok (.baload, 1) := by decide +kernel
theorem d_M_lacks_6 : decode c_M_lacks 6 = .ok (.ifCond .ne 7, 3) := by decide +kernel
theorem d_M_lacks_9 : decode c_M_lacks 9 = .ok (.iconst 1, 1) := by decide +kernel
theorem d_M_lacks_10 : decode c_M_lacks 10 = .ok (.goto 38, 3) := by decide +kernel
theorem d_M_lacks_13 : decode c_M_lacks 13 = .ok (.aload_n 0, 1) := by decide +kernel
theorem d_M_lacks_14 : decode c_M_lacks 14 = .ok (.getfield 62, 3) := by decide +kernel
theorem d_M_lacks_17 : decode c_M_lacks 17 = .ok (.iload_n 1, 1) := by decide +kernel
theorem d_M_lacks_18 : decode c_M_lacks 18 = .ok (.iaload, 1) := by decide +kernel
theorem d_M_lacks_19 : decode c_M_lacks 19 = .ok (.iload_n 2, 1) := by decide +kernel
theorem d_M_lacks_20 : decode c_M_lacks 20 = .ok (.if_icmp .eq 7, 3) := by decide +kernel
theorem d_M_lacks_23 : decode c_M_lacks 23 = .ok (.iconst 3, 1) := by decide +kernel
theorem d_M_lacks_24 : decode c_M_lacks 24 = .ok (.goto 24, 3) := by decide +kernel
theorem d_M_lacks_27 : decode c_M_lacks 27 = .ok (.iload_n 3, 1) := by decide +kernel
theorem d_M_lacks_28 : decode c_M_lacks 28 = .ok (.iconst 0, 1) := by decide +kernel
theorem d_M_lacks_29 : decode c_M_lacks 29 = .ok (.aload_n 0, 1) := by decide +kernel
theorem d_M_lacks_30 : decode c_M_lacks 30 = .ok (.getfield 65, 3) := by decide +kernel
theorem d_M_lacks_33 : decode c_M_lacks 33 = .ok (.iload_n 1, 1) := by decide +kernel
theorem d_M_lacks_34 : decode c_M_lacks 34 = .ok (.iaload, 1) := by decide +kernel
theorem d_M_lacks_35 : decode c_M_lacks 35 = .ok (.iconst 1, 1) := by decide +kernel
theorem d_M_lacks_36 : decode c_M_lacks 36 = .ok (.isub, 1) := by decide +kernel
theorem d_M_lacks_37 : decode c_M_lacks 37 = .ok (.invokestatic 74, 3) := by decide +kernel
theorem d_M_lacks_40 : decode c_M_lacks 40 = .ok (.ifCond .eq 7, 3) := by decide +kernel
theorem d_M_lacks_43 : decode c_M_lacks 43 = .ok (.iconst 0, 1) := by decide +kernel
theorem d_M_lacks_44 : decode c_M_lacks 44 = .ok (.goto 4, 3) := by decide +kernel
theorem d_M_lacks_47 : decode c_M_lacks 47 = .ok (.iconst 2, 1) := by decide +kernel
theorem d_M_lacks_48 : decode c_M_lacks 48 = .ok (.ireturn, 1) := by decide +kernel
theorem d_M_lay_0 : decode c_M_lay 0 = .ok (.aload_n 0, 1) := by decide +kernel
theorem d_M_lay_1 : decode c_M_lay 1 = .ok (.getfield 68, 3) := by decide +kernel
theorem d_M_lay_4 : decode c_M_lay 4 = .ok (.bipush 40, 2) := by decide +kernel
theorem d_M_lay_6 : decode c_M_lay 6 = .ok (.iload_n 1, 1) := by decide +kernel
theorem d_M_lay_7 : decode c_M_lay 7 = .ok (.imul, 1) := by decide +kernel
theorem d_M_lay_8 : decode c_M_lay 8 = .ok (.iload_n 2, 1) := by decide +kernel
theorem d_M_lay_9 : decode c_M_lay 9 = .ok (.iadd, 1) := by decide +kernel
theorem d_M_lay_10 : decode c_M_lay 10 = .ok (.aload_n 0, 1) := by decide +kernel
theorem d_M_lay_11 : decode c_M_lay 11 = .ok (.getfield 62, 3) := by decide +kernel
theorem d_M_lay_14 : decode c_M_lay 14 = .ok (.iload_n 1, 1) := by decide +kernel
theorem d_M_lay_15 : decode c_M_lay 15 = .ok (.iaload, 1) := by decide +kernel
theorem d_M_lay_16 : decode c_M_lay 16 = .ok (.ifCond .ne 8, 3) := by decide +kernel
theorem d_M_lay_19 : decode c_M_lay 19 = .ok (.iload_n 3, 1) := by decide +kernel
theorem d_M_lay_20 : decode c_M_lay 20 = .ok (.i2b, 1) := by decide +kernel
theorem d_M_lay_21 : decode c_M_lay 21 = .ok (.goto 19, 3) := by decide +kernel
theorem d_M_lay_24 : decode c_M_lay 24 = .ok (.aload_n 0, 1) := by decide +kernel
theorem d_M_lay_25 : decode c_M_lay 25 = .ok (.getfield 62, 3) := by decide +kernel
theorem d_M_lay_28 : decode c_M_lay 28 = .ok (.iload_n 1, 1) := by decide +kernel
theorem d_M_lay_29 : decode c_M_lay 29 = .ok (.iaload, 1) := by decide +kernel
theorem d_M_lay_30 : decode c_M_lay 30 = .ok (.iconst 1, 1) := by decide +kernel
theorem d_M_lay_31 : decode c_M_lay 31 = .ok (.if_icmp .ne 8, 3) := by decide +kernel
theorem d_M_lay_34 : decode c_M_lay 34 = .ok (.iload_n 3, 1) := by decide +kernel
theorem d_M_lay_35 : decode c_M_lay 35 = .ok (.i2s, 1) := by decide +kernel
theorem d_M_lay_36 : decode c_M_lay 36 = .ok (.goto 4, 3) := by decide +kernel
theorem d_M_lay_39 : decode c_M_lay 39 = .ok (.iload_n 3, 1) := by decide +kernel
theorem d_M_lay_40 : decode c_M_lay 40 = .ok (.iastore, 1) := by decide +kernel
theorem d_M_lay_41 : decode c_M_lay 41 = .ok (.return_, 1) := by decide +kernel
theorem d_M_put_0 : decode c_M_put 0 = .ok (.iload_n 1, 1) := by decide +kernel
theorem d_M_put_1 : decode c_M_put 1 = .ok (.invokestatic 93, 3) := by decide +kernel
theorem d_M_put_4 : decode c_M_put 4 = .ok (.ifCond .eq 12, 3) := by decide +kernel
theorem d_M_put_7 : decode c_M_put 7 = .ok (.iload_n 2, 1) := by decide +kernel
theorem d_M_put_8 : decode c_M_put 8 = .ok (.iconst 0, 1) := by decide +kernel
theorem d_M_put_9 : decode c_M_put 9 = .ok (.iconst 2, 1) := by decide +kernel
theorem d_M_put_10 : decode c_M_put 10 = .ok (.invokestatic 74, 3) := by decide +kernel
theorem d_M_put_13 : decode c_M_put 13 = .ok (.ifCond .ne 6, 3) := by decide +kernel
theorem d_M_put_16 : decode c_M_put 16 = .ok (.bipush (-2), 2) := by decide +kernel
theorem d_M_put_18 : decode c_M_put 18 = .ok (.ireturn, 1) := by decide +kernel
theorem d_M_put_19 : decode c_M_put 19 = .ok (.aload_n 0, 1) := by decide +kernel
theorem d_M_put_20 : decode c_M_put 20 = .ok (.iload_n 1, 1) := by decide +kernel
theorem d_M_put_21 : decode c_M_put 21 = .ok (.iload_n 2, 1) := by decide +kernel
theorem d_M_put_22 : decode c_M_put 22 = .ok (.iload_n 3, 1) := by decide +kernel
theorem d_M_put_23 : decode c_M_put 23 = .ok (.invokevirtual 182, 3) := by decide +kernel
theorem d_M_put_26 : decode c_M_put 26 = .ok (.istore 5, 2) := by decide +kernel
theorem d_M_put_28 : decode c_M_put 28 = .ok (.iload 5, 2) := by decide +kernel
theorem d_M_put_30 : decode c_M_put 30 = .ok (.ifCond .le 10, 3) := by decide +kernel
theorem d_M_put_33 : decode c_M_put 33 = .ok (.aload_n 0, 1) := by decide +kernel
theorem d_M_put_34 : decode c_M_put 34 = .ok (.iload 5, 2) := by decide +kernel
theorem d_M_put_36 : decode c_M_put 36 = .ok (.invokevirtual 96, 3) := by decide +kernel
theorem d_M_put_39 : decode c_M_put 39 = .ok (.ireturn, 1) := by decide +kernel
theorem d_M_put_40 : decode c_M_put 40 = .ok (.aload_n 0, 1) := by decide +kernel
theorem d_M_put_41 : decode c_M_put 41 = .ok (.iload_n 1, 1) := by decide +kernel
theorem d_M_put_42 : decode c_M_put 42 = .ok (.iload_n 3, 1) := by decide +kernel
theorem d_M_put_43 : decode c_M_put 43 = .ok (.iload 4, 2) := by decide +kernel
theorem d_M_put_45 : decode c_M_put 45 = .ok (.invokevirtual 186, 3) := by decide +kernel
theorem d_M_put_48 : decode c_M_put 48 = .ok (.iconst 1, 1) := by decide +kernel
theorem d_M_put_49 : decode c_M_put 49 = .ok (.ireturn, 1) := by decide +kernel

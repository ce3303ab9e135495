theorem dd_X12_qGoesOn_0 : decode m_X12_qGoesOn.2.1 0 = .ok (.aload_n 0, 1) := by decide +kernel
theorem dd_X12_qGoesOn_1 : decode m_X12_qGoesOn.2.1 1 = .ok (.getfield 252, 3) := by decide +kernel
theorem dd_X12_qGoesOn_4 : decode m_X12_qGoesOn.2.1 4 = .ok (.ifCond .ne 118, 3) := by decide +kernel
theorem dd_X12_qGoesOn_7 : decode m_X12_qGoesOn.2.1 7 = .ok (.aload_n 0, 1) := by decide +kernel
theorem dd_X12_qGoesOn_8 : decode m_X12_qGoesOn.2.1 8 = .ok (.invokevirtual 264, 3) := by decide +kernel
theorem dd_X12_qGoesOn_11 : decode m_X12_qGoesOn.2.1 11 = .ok (.bipush 41, 2) := by decide +kernel
theorem dd_X12_qGoesOn_13 : decode m_X12_qGoesOn.2.1 13 = .ok (.if_icmp .ne 109, 3) := by decide +kernel
theorem dd_X12_qGoesOn_16 : decode m_X12_qGoesOn.2.1 16 = .ok (.aload_n 0, 1) := by decide +kernel
theorem dd_X12_qGoesOn_17 : decode m_X12_qGoesOn.2.1 17 = .ok (.invokevirtual 635, 3) := by decide +kernel
theorem dd_X12_qGoesOn_20 : decode m_X12_qGoesOn.2.1 20 = .ok (.bipush 20, 2) := by decide +kernel
theorem dd_X12_qGoesOn_22 : decode m_X12_qGoesOn.2.1 22 = .ok (.if_icmp .eq 21, 3) := by decide +kernel
theorem dd_X12_qGoesOn_25 : decode m_X12_qGoesOn.2.1 25 = .ok (.aload_n 0, 1) := by decide +kernel
theorem dd_X12_qGoesOn_26 : decode m_X12_qGoesOn.2.1 26 = .ok (.invokevirtual 635, 3) := by decide +kernel
theorem dd_X12_qGoesOn_29 : decode m_X12_qGoesOn.2.1 29 = .ok (.bipush 23, 2) := by decide +kernel
theorem dd_X12_qGoesOn_31 : decode m_X12_qGoesOn.2.1 31 = .ok (.if_icmp .eq 12, 3) := by decide +kernel
theorem dd_X12_qGoesOn_34 : decode m_X12_qGoesOn.2.1 34 = .ok (.aload_n 0, 1) := by decide +kernel
theorem dd_X12_qGoesOn_35 : decode m_X12_qGoesOn.2.1 35 = .ok (.invokevirtual 635, 3) := by decide +kernel
theorem dd_X12_qGoesOn_38 : decode m_X12_qGoesOn.2.1 38 = .ok (.bipush 24, 2) := by decide +kernel
theorem dd_X12_qGoesOn_40 : decode m_X12_qGoesOn.2.1 40 = .ok (.if_icmp .ne 82, 3) := by decide +kernel
theorem dd_X12_qGoesOn_43 : decode m_X12_qGoesOn.2.1 43 = .ok (.aload_n 0, 1) := by decide +kernel
theorem dd_X12_qGoesOn_44 : decode m_X12_qGoesOn.2.1 44 = .ok (.dup, 1) := by decide +kernel
theorem dd_X12_qGoesOn_45 : decode m_X12_qGoesOn.2.1 45 = .ok (.getfield 258, 3) := by decide +kernel
theorem dd_X12_qGoesOn_48 : decode m_X12_qGoesOn.2.1 48 = .ok (.iconst 1, 1) := by decide +kernel
theorem dd_X12_qGoesOn_49 : decode m_X12_qGoesOn.2.1 49 = .ok (.iadd, 1) := by decide +kernel
theorem dd_X12_qGoesOn_50 : decode m_X12_qGoesOn.2.1 50 = .ok (.putfield 258, 3) := by decide +kernel
theorem dd_X12_qGoesOn_53 : decode m_X12_qGoesOn.2.1 53 = .ok (.aload_n 0, 1) := by decide +kernel
theorem dd_X12_qGoesOn_54 : decode m_X12_qGoesOn.2.1 54 = .ok (.invokevirtual 638, 3) := by decide +kernel
theorem dd_X12_qGoesOn_57 : decode m_X12_qGoesOn.2.1 57 = .ok (.aload_n 0, 1) := by decide +kernel
theorem dd_X12_qGoesOn_58 : decode m_X12_qGoesOn.2.1 58 = .ok (.dup, 1) := by decide +kernel
theorem dd_X12_qGoesOn_59 : decode m_X12_qGoesOn.2.1 59 = .ok (.getfield 341, 3) := by decide +kernel
theorem dd_X12_qGoesOn_62 : decode m_X12_qGoesOn.2.1 62 = .ok (.iconst 1, 1) := by decide +kernel
theorem dd_X12_qGoesOn_63 : decode m_X12_qGoesOn.2.1 63 = .ok (.isub, 1) := by decide +kernel
theorem dd_X12_qGoesOn_64 : decode m_X12_qGoesOn.2.1 64 = .ok (.putfield 341, 3) := by decide +kernel
theorem dd_X12_qGoesOn_67 : decode m_X12_qGoesOn.2.1 67 = .ok (.aload_n 0, 1) := by decide +kernel
theorem dd_X12_qGoesOn_68 : decode m_X12_qGoesOn.2.1 68 = .ok (.dup, 1) := by decide +kernel
theorem dd_X12_qGoesOn_69 : decode m_X12_qGoesOn.2.1 69 = .ok (.getfield 344, 3) := by decide +kernel
theorem dd_X12_qGoesOn_72 : decode m_X12_qGoesOn.2.1 72 = .ok (.iconst 1, 1) := by decide +kernel
theorem dd_X12_qGoesOn_73 : decode m_X12_qGoesOn.2.1 73 = .ok (.isub, 1) := by decide +kernel
theorem dd_X12_qGoesOn_74 : decode m_X12_qGoesOn.2.1 74 = .ok (.putfield 344, 3) := by decide +kernel
theorem dd_X12_qGoesOn_77 : decode m_X12_qGoesOn.2.1 77 = .ok (.aload_n 0, 1) := by decide +kernel
theorem dd_X12_qGoesOn_78 : decode m_X12_qGoesOn.2.1 78 = .ok (.getfield 240, 3) := by decide +kernel
theorem dd_X12_qGoesOn_81 : decode m_X12_qGoesOn.2.1 81 = .ok (.aload_n 0, 1) := by decide +kernel
theorem dd_X12_qGoesOn_82 : decode m_X12_qGoesOn.2.1 82 = .ok (.getfield 341, 3) := by decide +kernel
theorem dd_X12_qGoesOn_85 : decode m_X12_qGoesOn.2.1 85 = .ok (.iaload, 1) := by decide +kernel
theorem dd_X12_qGoesOn_86 : decode m_X12_qGoesOn.2.1 86 = .ok (.bipush 20, 2) := by decide +kernel
theorem dd_X12_qGoesOn_88 : decode m_X12_qGoesOn.2.1 88 = .ok (.if_icmp .eq 27, 3) := by decide +kernel
theorem dd_X12_qGoesOn_91 : decode m_X12_qGoesOn.2.1 91 = .ok (.aload_n 0, 1) := by decide +kernel
theorem dd_X12_qGoesOn_92 : decode m_X12_qGoesOn.2.1 92 = .ok (.aload_n 0, 1) := by decide +kernel
theorem dd_X12_qGoesOn_93 : decode m_X12_qGoesOn.2.1 93 = .ok (.getfield 240, 3) := by decide +kernel
theorem dd_X12_qGoesOn_96 : decode m_X12_qGoesOn.2.1 96 = .ok (.aload_n 0, 1) := by decide +kernel
theorem dd_X12_qGoesOn_97 : decode m_X12_qGoesOn.2.1 97 = .ok (.getfield 341, 3) := by decide +kernel
theorem dd_X12_qGoesOn_100 : decode m_X12_qGoesOn.2.1 100 = .ok (.iaload, 1) := by decide +kernel
theorem dd_X12_qGoesOn_101 : decode m_X12_qGoesOn.2.1 101 = .ok (.bipush 23, 2) := by decide +kernel
theorem dd_X12_qGoesOn_103 : decode m_X12_qGoesOn.2.1 103 = .ok (.if_icmp .ne 7, 3) := by decide +kernel
theorem dd_X12_qGoesOn_106 : decode m_X12_qGoesOn.2.1 106 = .ok (.iconst 5, 1) := by decide +kernel
theorem dd_X12_qGoesOn_107 : decode m_X12_qGoesOn.2.1 107 = .ok (.goto 5, 3) := by decide +kernel
theorem dd_X12_qGoesOn_110 : decode m_X12_qGoesOn.2.1 110 = .ok (.bipush 6, 2) := by decide +kernel
theorem dd_X12_qGoesOn_112 : decode m_X12_qGoesOn.2.1 112 = .ok (.invokevirtual 608, 3) := by decide +kernel
theorem dd_X12_qGoesOn_115 : decode m_X12_qGoesOn.2.1 115 = .ok (.aload_n 0, 1) := by decide +kernel
theorem dd_X12_qGoesOn_116 : decode m_X12_qGoesOn.2.1 116 = .ok (.invokevirtual 632, 3) := by decide +kernel
theorem dd_X12_qGoesOn_119 : decode m_X12_qGoesOn.2.1 119 = .ok (.goto (-119), 3) := by decide +kernel
theorem dd_X12_qGoesOn_122 : decode m_X12_qGoesOn.2.1 122 = .ok (.aload_n 0, 1) := by decide +kernel
theorem dd_X12_qGoesOn_123 : decode m_X12_qGoesOn.2.1 123 = .ok (.bipush 42, 2) := by decide +kernel
theorem dd_X12_qGoesOn_125 : decode m_X12_qGoesOn.2.1 125 = .ok (.invokevirtual 286, 3) := by decide +kernel
theorem dd_X12_qGoesOn_128 : decode m_X12_qGoesOn.2.1 128 = .ok (.ifCond .ne 12, 3) := by decide +kernel
theorem dd_X12_qGoesOn_131 : decode m_X12_qGoesOn.2.1 131 = .ok (.aload_n 0, 1) := by decide +kernel
theorem dd_X12_qGoesOn_132 : decode m_X12_qGoesOn.2.1 132 = .ok (.bipush 47, 2) := by decide +kernel
theorem dd_X12_qGoesOn_134 : decode m_X12_qGoesOn.2.1 134 = .ok (.invokevirtual 286, 3) := by decide +kernel
theorem dd_X12_qGoesOn_137 : decode m_X12_qGoesOn.2.1 137 = .ok (.ifCond .eq 70, 3) := by decide +kernel
theorem dd_X12_qGoesOn_140 : decode m_X12_qGoesOn.2.1 140 = .ok (.aload_n 0, 1) := by decide +kernel
theorem dd_X12_qGoesOn_141 : decode m_X12_qGoesOn.2.1 141 = .ok (.getfield 7, 3) := by decide +kernel
theorem dd_X12_qGoesOn_144 : decode m_X12_qGoesOn.2.1 144 = .ok (.aload_n 0, 1) := by decide +kernel
theorem dd_X12_qGoesOn_145 : decode m_X12_qGoesOn.2.1 145 = .ok (.getfield 258, 3) := by decide +kernel
theorem dd_X12_qGoesOn_148 : decode m_X12_qGoesOn.2.1 148 = .ok (.iconst 1, 1) := by decide +kernel
theorem dd_X12_qGoesOn_149 : decode m_X12_qGoesOn.2.1 149 = .ok (.isub, 1) := by decide +kernel
theorem dd_X12_qGoesOn_150 : decode m_X12_qGoesOn.2.1 150 = .ok (.iaload, 1) := by decide +kernel
theorem dd_X12_qGoesOn_151 : decode m_X12_qGoesOn.2.1 151 = .ok (.bipush 42, 2) := by decide +kernel
theorem dd_X12_qGoesOn_153 : decode m_X12_qGoesOn.2.1 153 = .ok (.if_icmp .ne 7, 3) := by decide +kernel
theorem dd_X12_qGoesOn_156 : decode m_X12_qGoesOn.2.1 156 = .ok (.iconst 3, 1) := by decide +kernel
theorem dd_X12_qGoesOn_157 : decode m_X12_qGoesOn.2.1 157 = .ok (.goto 4, 3) := by decide +kernel
theorem dd_X12_qGoesOn_160 : decode m_X12_qGoesOn.2.1 160 = .ok (.iconst 4, 1) := by decide +kernel
theorem dd_X12_qGoesOn_161 : decode m_X12_qGoesOn.2.1 161 = .ok (.istore_n 1, 1) := by decide +kernel
theorem dd_X12_qGoesOn_162 : decode m_X12_qGoesOn.2.1 162 = .ok (.aload_n 0, 1) := by decide +kernel
theorem dd_X12_qGoesOn_163 : decode m_X12_qGoesOn.2.1 163 = .ok (.iconst 3, 1) := by decide +kernel
theorem dd_X12_qGoesOn_164 : decode m_X12_qGoesOn.2.1 164 = .ok (.invokevirtual 641, 3) := by decide +kernel
theorem dd_X12_qGoesOn_167 : decode m_X12_qGoesOn.2.1 167 = .ok (.ifCond .ne 11, 3) := by decide +kernel
theorem dd_X12_qGoesOn_170 : decode m_X12_qGoesOn.2.1 170 = .ok (.aload_n 0, 1) := by decide +kernel
theorem dd_X12_qGoesOn_171 : decode m_X12_qGoesOn.2.1 171 = .ok (.iconst 4, 1) := by decide +kernel
theorem dd_X12_qGoesOn_172 : decode m_X12_qGoesOn.2.1 172 = .ok (.invokevirtual 641, 3) := by decide +kernel
theorem dd_X12_qGoesOn_175 : decode m_X12_qGoesOn.2.1 175 = .ok (.ifCond .eq 10, 3) := by decide +kernel
theorem dd_X12_qGoesOn_178 : decode m_X12_qGoesOn.2.1 178 = .ok (.aload_n 0, 1) := by decide +kernel
theorem dd_X12_qGoesOn_179 : decode m_X12_qGoesOn.2.1 179 = .ok (.invokevirtual 614, 3) := by decide +kernel
theorem dd_X12_qGoesOn_182 : decode m_X12_qGoesOn.2.1 182 = .ok (.goto (-20), 3) := by decide +kernel
theorem dd_X12_qGoesOn_185 : decode m_X12_qGoesOn.2.1 185 = .ok (.aload_n 0, 1) := by decide +kernel
theorem dd_X12_qGoesOn_186 : decode m_X12_qGoesOn.2.1 186 = .ok (.getfield 240, 3) := by decide +kernel
theorem dd_X12_qGoesOn_189 : decode m_X12_qGoesOn.2.1 189 = .ok (.aload_n 0, 1) := by decide +kernel
theorem dd_X12_qGoesOn_190 : decode m_X12_qGoesOn.2.1 190 = .ok (.getfield 341, 3) := by decide +kernel
theorem dd_X12_qGoesOn_193 : decode m_X12_qGoesOn.2.1 193 = .ok (.iload_n 1, 1) := by decide +kernel
theorem dd_X12_qGoesOn_194 : decode m_X12_qGoesOn.2.1 194 = .ok (.iastore, 1) := by decide +kernel
theorem dd_X12_qGoesOn_195 : decode m_X12_qGoesOn.2.1 195 = .ok (.aload_n 0, 1) := by decide +kernel
theorem dd_X12_qGoesOn_196 : decode m_X12_qGoesOn.2.1 196 = .ok (.dup, 1) := by decide +kernel
theorem dd_X12_qGoesOn_197 : decode m_X12_qGoesOn.2.1 197 = .ok (.getfield 341, 3) := by decide +kernel
theorem dd_X12_qGoesOn_200 : decode m_X12_qGoesOn.2.1 200 = .ok (.iconst 1, 1) := by decide +kernel
theorem dd_X12_qGoesOn_201 : decode m_X12_qGoesOn.2.1 201 = .ok (.iadd, 1) := by decide +kernel
theorem dd_X12_qGoesOn_202 : decode m_X12_qGoesOn.2.1 202 = .ok (.putfield 341, 3) := by decide +kernel
theorem dd_X12_qGoesOn_205 : decode m_X12_qGoesOn.2.1 205 = .ok (.iconst 1, 1) := by decide +kernel
theorem dd_X12_qGoesOn_206 : decode m_X12_qGoesOn.2.1 206 = .ok (.ireturn, 1) := by decide +kernel
theorem dd_X12_qGoesOn_207 : decode m_X12_qGoesOn.2.1 207 = .ok (.aload_n 0, 1) := by decide +kernel
theorem dd_X12_qGoesOn_208 : decode m_X12_qGoesOn.2.1 208 = .ok (.bipush 43, 2) := by decide +kernel
theorem dd_X12_qGoesOn_210 : decode m_X12_qGoesOn.2.1 210 = .ok (.invokevirtual 286, 3) := by decide +kernel
theorem dd_X12_qGoesOn_213 : decode m_X12_qGoesOn.2.1 213 = .ok (.ifCond .ne 12, 3) := by decide +kernel
theorem dd_X12_qGoesOn_216 : decode m_X12_qGoesOn.2.1 216 = .ok (.aload_n 0, 1) := by decide +kernel
theorem dd_X12_qGoesOn_217 : decode m_X12_qGoesOn.2.1 217 = .ok (.bipush 45, 2) := by decide +kernel
theorem dd_X12_qGoesOn_219 : decode m_X12_qGoesOn.2.1 219 = .ok (.invokevirtual 286, 3) := by decide +kernel
theorem dd_X12_qGoesOn_222 : decode m_X12_qGoesOn.2.1 222 = .ok (.ifCond .eq 86, 3) := by decide +kernel
theorem dd_X12_qGoesOn_225 : decode m_X12_qGoesOn.2.1 225 = .ok (.aload_n 0, 1) := by decide +kernel
theorem dd_X12_qGoesOn_226 : decode m_X12_qGoesOn.2.1 226 = .ok (.getfield 7, 3) := by decide +kernel
theorem dd_X12_qGoesOn_229 : decode m_X12_qGoesOn.2.1 229 = .ok (.aload_n 0, 1) := by decide +kernel
theorem dd_X12_qGoesOn_230 : decode m_X12_qGoesOn.2.1 230 = .ok (.getfield 258, 3) := by decide +kernel
theorem dd_X12_qGoesOn_233 : decode m_X12_qGoesOn.2.1 233 = .ok (.iconst 1, 1) := by decide +kernel
theorem dd_X12_qGoesOn_234 : decode m_X12_qGoesOn.2.1 234 = .ok (.isub, 1) := by decide +kernel
theorem dd_X12_qGoesOn_235 : decode m_X12_qGoesOn.2.1 235 = .ok (.iaload, 1) := by decide +kernel
theorem dd_X12_qGoesOn_236 : decode m_X12_qGoesOn.2.1 236 = .ok (.bipush 43, 2) := by decide +kernel
theorem dd_X12_qGoesOn_238 : decode m_X12_qGoesOn.2.1 238 = .ok (.if_icmp .ne 7, 3) := by decide +kernel
theorem dd_X12_qGoesOn_241 : decode m_X12_qGoesOn.2.1 241 = .ok (.iconst 1, 1) := by decide +kernel
theorem dd_X12_qGoesOn_242 : decode m_X12_qGoesOn.2.1 242 = .ok (.goto 4, 3) := by decide +kernel
theorem dd_X12_qGoesOn_245 : decode m_X12_qGoesOn.2.1 245 = .ok (.iconst 2, 1) := by decide +kernel
theorem dd_X12_qGoesOn_246 : decode m_X12_qGoesOn.2.1 246 = .ok (.istore_n 1, 1) := by decide +kernel
theorem dd_X12_qGoesOn_247 : decode m_X12_qGoesOn.2.1 247 = .ok (.aload_n 0, 1) := by decide +kernel
theorem dd_X12_qGoesOn_248 : decode m_X12_qGoesOn.2.1 248 = .ok (.iconst 3, 1) := by decide +kernel
theorem dd_X12_qGoesOn_249 : decode m_X12_qGoesOn.2.1 249 = .ok (.invokevirtual 641, 3) := by decide +kernel
theorem dd_X12_qGoesOn_252 : decode m_X12_qGoesOn.2.1 252 = .ok (.ifCond .ne 27, 3) := by decide +kernel
theorem dd_X12_qGoesOn_255 : decode m_X12_qGoesOn.2.1 255 = .ok (.aload_n 0, 1) := by decide +kernel
theorem dd_X12_qGoesOn_256 : decode m_X12_qGoesOn.2.1 256 = .ok (.iconst 4, 1) := by decide +kernel
theorem dd_X12_qGoesOn_257 : decode m_X12_qGoesOn.2.1 257 = .ok (.invokevirtual 641, 3) := by decide +kernel
theorem dd_X12_qGoesOn_260 : decode m_X12_qGoesOn.2.1 260 = .ok (.ifCond .ne 19, 3) := by decide +kernel
theorem dd_X12_qGoesOn_263 : decode m_X12_qGoesOn.2.1 263 = .ok (.aload_n 0, 1) := by decide +kernel
theorem dd_X12_qGoesOn_264 : decode m_X12_qGoesOn.2.1 264 = .ok (.iconst 1, 1) := by decide +kernel
theorem dd_X12_qGoesOn_265 : decode m_X12_qGoesOn.2.1 265 = .ok (.invokevirtual 641, 3) := by decide +kernel
theorem dd_X12_qGoesOn_268 : decode m_X12_qGoesOn.2.1 268 = .ok (.ifCond .ne 11, 3) := by decide +kernel
theorem dd_X12_qGoesOn_271 : decode m_X12_qGoesOn.2.1 271 = .ok (.aload_n 0, 1) := by decide +kernel
theorem dd_X12_qGoesOn_272 : decode m_X12_qGoesOn.2.1 272 = .ok (.iconst 2, 1) := by decide +kernel
theorem dd_X12_qGoesOn_273 : decode m_X12_qGoesOn.2.1 273 = .ok (.invokevirtual 641, 3) := by decide +kernel
theorem dd_X12_qGoesOn_276 : decode m_X12_qGoesOn.2.1 276 = .ok (.ifCond .eq 10, 3) := by decide +kernel
theorem dd_X12_qGoesOn_279 : decode m_X12_qGoesOn.2.1 279 = .ok (.aload_n 0, 1) := by decide +kernel
theorem dd_X12_qGoesOn_280 : decode m_X12_qGoesOn.2.1 280 = .ok (.invokevirtual 614, 3) := by decide +kernel
theorem dd_X12_qGoesOn_283 : decode m_X12_qGoesOn.2.1 283 = .ok (.goto (-36), 3) := by decide +kernel
theorem dd_X12_qGoesOn_286 : decode m_X12_qGoesOn.2.1 286 = .ok (.aload_n 0, 1) := by decide +kernel
theorem dd_X12_qGoesOn_287 : decode m_X12_qGoesOn.2.1 287 = .ok (.getfield 240, 3) := by decide +kernel
theorem dd_X12_qGoesOn_290 : decode m_X12_qGoesOn.2.1 290 = .ok (.aload_n 0, 1) := by decide +kernel
theorem dd_X12_qGoesOn_291 : decode m_X12_qGoesOn.2.1 291 = .ok (.getfield 341, 3) := by decide +kernel
theorem dd_X12_qGoesOn_294 : decode m_X12_qGoesOn.2.1 294 = .ok (.iload_n 1, 1) := by decide +kernel
theorem dd_X12_qGoesOn_295 : decode m_X12_qGoesOn.2.1 295 = .ok (.iastore, 1) := by decide +kernel
theorem dd_X12_qGoesOn_296 : decode m_X12_qGoesOn.2.1 296 = .ok (.aload_n 0, 1) := by decide +kernel
theorem dd_X12_qGoesOn_297 : decode m_X12_qGoesOn.2.1 297 = .ok (.dup, 1) := by decide +kernel
theorem dd_X12_qGoesOn_298 : decode m_X12_qGoesOn.2.1 298 = .ok (.getfield 341, 3) := by decide +kernel
theorem dd_X12_qGoesOn_301 : decode m_X12_qGoesOn.2.1 301 = .ok (.iconst 1, 1) := by decide +kernel
theorem dd_X12_qGoesOn_302 : decode m_X12_qGoesOn.2.1 302 = .ok (.iadd, 1) := by decide +kernel
theorem dd_X12_qGoesOn_303 : decode m_X12_qGoesOn.2.1 303 = .ok (.putfield 341, 3) := by decide +kernel
theorem dd_X12_qGoesOn_306 : decode m_X12_qGoesOn.2.1 306 = .ok (.iconst 1, 1) := by decide +kernel
theorem dd_X12_qGoesOn_307 : decode m_X12_qGoesOn.2.1 307 = .ok (.ireturn, 1) := by decide +kernel
theorem dd_X12_qGoesOn_308 : decode m_X12_qGoesOn.2.1 308 = .ok (.aload_n 0, 1) := by decide +kernel
theorem dd_X12_qGoesOn_309 : decode m_X12_qGoesOn.2.1 309 = .ok (.invokevirtual 635, 3) := by decide +kernel
theorem dd_X12_qGoesOn_312 : decode m_X12_qGoesOn.2.1 312 = .ok (.bipush 21, 2) := by decide +kernel
theorem dd_X12_qGoesOn_314 : decode m_X12_qGoesOn.2.1 314 = .ok (.if_icmp .eq 12, 3) := by decide +kernel
theorem dd_X12_qGoesOn_317 : decode m_X12_qGoesOn.2.1 317 = .ok (.aload_n 0, 1) := by decide +kernel
theorem dd_X12_qGoesOn_318 : decode m_X12_qGoesOn.2.1 318 = .ok (.invokevirtual 635, 3) := by decide +kernel
theorem dd_X12_qGoesOn_321 : decode m_X12_qGoesOn.2.1 321 = .ok (.bipush 22, 2) := by decide +kernel
theorem dd_X12_qGoesOn_323 : decode m_X12_qGoesOn.2.1 323 = .ok (.if_icmp .ne 39, 3) := by decide +kernel
theorem dd_X12_qGoesOn_326 : decode m_X12_qGoesOn.2.1 326 = .ok (.aload_n 0, 1) := by decide +kernel
theorem dd_X12_qGoesOn_327 : decode m_X12_qGoesOn.2.1 327 = .ok (.bipush 44, 2) := by decide +kernel
theorem dd_X12_qGoesOn_329 : decode m_X12_qGoesOn.2.1 329 = .ok (.invokevirtual 334, 3) := by decide +kernel
theorem dd_X12_qGoesOn_332 : decode m_X12_qGoesOn.2.1 332 = .ok (.aload_n 0, 1) := by decide +kernel
theorem dd_X12_qGoesOn_333 : decode m_X12_qGoesOn.2.1 333 = .ok (.getfield 252, 3) := by decide +kernel
theorem dd_X12_qGoesOn_336 : decode m_X12_qGoesOn.2.1 336 = .ok (.ifCond .eq 5, 3) := by decide +kernel
theorem dd_X12_qGoesOn_339 : decode m_X12_qGoesOn.2.1 339 = .ok (.iconst 0, 1) := by decide +kernel
theorem dd_X12_qGoesOn_340 : decode m_X12_qGoesOn.2.1 340 = .ok (.ireturn, 1) := by decide +kernel
theorem dd_X12_qGoesOn_341 : decode m_X12_qGoesOn.2.1 341 = .ok (.aload_n 0, 1) := by decide +kernel
theorem dd_X12_qGoesOn_342 : decode m_X12_qGoesOn.2.1 342 = .ok (.invokevirtual 638, 3) := by decide +kernel
theorem dd_X12_qGoesOn_345 : decode m_X12_qGoesOn.2.1 345 = .ok (.aload_n 0, 1) := by decide +kernel
theorem dd_X12_qGoesOn_346 : decode m_X12_qGoesOn.2.1 346 = .ok (.getfield 240, 3) := by decide +kernel
theorem dd_X12_qGoesOn_349 : decode m_X12_qGoesOn.2.1 349 = .ok (.aload_n 0, 1) := by decide +kernel
theorem dd_X12_qGoesOn_350 : decode m_X12_qGoesOn.2.1 350 = .ok (.getfield 341, 3) := by decide +kernel
theorem dd_X12_qGoesOn_353 : decode m_X12_qGoesOn.2.1 353 = .ok (.iconst 1, 1) := by decide +kernel
theorem dd_X12_qGoesOn_354 : decode m_X12_qGoesOn.2.1 354 = .ok (.isub, 1) := by decide +kernel
theorem dd_X12_qGoesOn_355 : decode m_X12_qGoesOn.2.1 355 = .ok (.dup2, 1) := by decide +kernel
theorem dd_X12_qGoesOn_356 : decode m_X12_qGoesOn.2.1 356 = .ok (.iaload, 1) := by decide +kernel
theorem dd_X12_qGoesOn_357 : decode m_X12_qGoesOn.2.1 357 = .ok (.iconst 2, 1) := by decide +kernel
theorem dd_X12_qGoesOn_358 : decode m_X12_qGoesOn.2.1 358 = .ok (.iadd, 1) := by decide +kernel
theorem dd_X12_qGoesOn_359 : decode m_X12_qGoesOn.2.1 359 = .ok (.iastore, 1) := by decide +kernel
theorem dd_X12_qGoesOn_360 : decode m_X12_qGoesOn.2.1 360 = .ok (.iconst 1, 1) := by decide +kernel
theorem dd_X12_qGoesOn_361 : decode m_X12_qGoesOn.2.1 361 = .ok (.ireturn, 1) := by decide +kernel
theorem dd_X12_qGoesOn_362 : decode m_X12_qGoesOn.2.1 362 = .ok (.aload_n 0, 1) := by decide +kernel
theorem dd_X12_qGoesOn_363 : decode m_X12_qGoesOn.2.1 363 = .ok (.invokevirtual 635, 3) := by decide +kernel
theorem dd_X12_qGoesOn_366 : decode m_X12_qGoesOn.2.1 366 = .ok (.iconst (-1), 1) := by decide +kernel
theorem dd_X12_qGoesOn_367 : decode m_X12_qGoesOn.2.1 367 = .ok (.if_icmp .eq 19, 3) := by decide +kernel
theorem dd_X12_qGoesOn_370 : decode m_X12_qGoesOn.2.1 370 = .ok (.aload_n 0, 1) := by decide +kernel
theorem dd_X12_qGoesOn_371 : decode m_X12_qGoesOn.2.1 371 = .ok (.getfield 252, 3) := by decide +kernel
theorem dd_X12_qGoesOn_374 : decode m_X12_qGoesOn.2.1 374 = .ok (.ifCond .ne 12, 3) := by decide +kernel
theorem dd_X12_qGoesOn_377 : decode m_X12_qGoesOn.2.1 377 = .ok (.aload_n 0, 1) := by decide +kernel
theorem dd_X12_qGoesOn_378 : decode m_X12_qGoesOn.2.1 378 = .ok (.iconst 1, 1) := by decide +kernel
theorem dd_X12_qGoesOn_379 : decode m_X12_qGoesOn.2.1 379 = .ok (.aload_n 0, 1) := by decide +kernel
theorem dd_X12_qGoesOn_380 : decode m_X12_qGoesOn.2.1 380 = .ok (.getfield 258, 3) := by decide +kernel
theorem dd_X12_qGoesOn_383 : decode m_X12_qGoesOn.2.1 383 = .ok (.invokevirtual 282, 3) := by decide +kernel
theorem dd_X12_qGoesOn_386 : decode m_X12_qGoesOn.2.1 386 = .ok (.iconst 0, 1) := by decide +kernel
theorem dd_X12_qGoesOn_387 : decode m_X12_qGoesOn.2.1 387 = .ok (.ireturn, 1) := by decide +kernel
def nd_X12_qGoesOn_326   (Q : Bool → fz_s → Prop)  (s : fz_s) : Prop :=
  wp_X12_asksSign 44 s (fun s2 => (((s2.1 196 5) = 0 → wp_X12_qDropsToBracket  s2 (fun s4 => vp_in ((s4.1 196 103) - 1) 1700 ∧ vp_in ((s4.1 196 103) - 1) 1700 ∧ ∀ s5 : fz_s, s5 = si s4 270 ((s4.1 196 103) - 1).toNatClampNeg ((s4.1 270 ((s4.1 196 103) - 1).toNatClampNeg) + 2) → Q true s5)) ∧ (¬ (s2.1 196 5) = 0 → Q false s2)))
def nd_X12_qGoesOn_279  (K247 : Int32 → fz_s → Prop) (Q : Bool → fz_s → Prop) (v1 : Int32) (s : fz_s) : Prop :=
  wp_X12_qDrops  s (fun s2 => K247 v1 s2)
def nd_X12_qGoesOn_247  (K247 : Int32 → fz_s → Prop) (Q : Bool → fz_s → Prop) (v1 : Int32) (s : fz_s) : Prop :=
  wp_X12_qIsOn 3 s (fun r1 s2 => ((r1 = true → nd_X12_qGoesOn_279  K247 Q v1 s2) ∧ (r1 = false → wp_X12_qIsOn 4 s2 (fun r3 s4 => ((r3 = true → nd_X12_qGoesOn_279  K247 Q v1 s4) ∧ (r3 = false → wp_X12_qIsOn 1 s4 (fun r5 s6 => ((r5 = true → nd_X12_qGoesOn_279  K247 Q v1 s6) ∧ (r5 = false → wp_X12_qIsOn 2 s6 (fun r7 s8 => ((r7 = false → vp_in (s8.1 196 103) 1700 ∧ ∀ s9 : fz_s, s9 = si s8 270 (s8.1 196 103).toNatClampNeg v1 → ∀ s10 : fz_s, s10 = si s9 196 103 ((s9.1 196 103) + 1) → Q true s10) ∧ (r7 = true → nd_X12_qGoesOn_279  K247 Q v1 s8))))))))))))
def lp_X12_qGoesOn_247   (Q : Bool → fz_s → Prop) : Nat → Int32 → fz_s → Prop
  | 0 => fun _ _ => False
  | n + 1 => nd_X12_qGoesOn_247  (lp_X12_qGoesOn_247   Q n) Q
def nd_X12_qGoesOn_225   (Q : Bool → fz_s → Prop)  (s : fz_s) : Prop :=
  vp_in ((s.1 196 2) - 1) 1600 ∧ ((¬ (s.1 197 ((s.1 196 2) - 1).toNatClampNeg) = 43 → lp_X12_qGoesOn_247   Q 2048 2 s) ∧ ((s.1 197 ((s.1 196 2) - 1).toNatClampNeg) = 43 → lp_X12_qGoesOn_247   Q 2048 1 s))
def nd_X12_qGoesOn_178  (K162 : Int32 → fz_s → Prop) (Q : Bool → fz_s → Prop) (v1 : Int32) (s : fz_s) : Prop :=
  wp_X12_qDrops  s (fun s2 => K162 v1 s2)
def nd_X12_qGoesOn_162  (K162 : Int32 → fz_s → Prop) (Q : Bool → fz_s → Prop) (v1 : Int32) (s : fz_s) : Prop :=
  wp_X12_qIsOn 3 s (fun r1 s2 => ((r1 = true → nd_X12_qGoesOn_178  K162 Q v1 s2) ∧ (r1 = false → wp_X12_qIsOn 4 s2 (fun r3 s4 => ((r3 = false → vp_in (s4.1 196 103) 1700 ∧ ∀ s5 : fz_s, s5 = si s4 270 (s4.1 196 103).toNatClampNeg v1 → ∀ s6 : fz_s, s6 = si s5 196 103 ((s5.1 196 103) + 1) → Q true s6) ∧ (r3 = true → nd_X12_qGoesOn_178  K162 Q v1 s4))))))
def lp_X12_qGoesOn_162   (Q : Bool → fz_s → Prop) : Nat → Int32 → fz_s → Prop
  | 0 => fun _ _ => False
  | n + 1 => nd_X12_qGoesOn_162  (lp_X12_qGoesOn_162   Q n) Q
def nd_X12_qGoesOn_140   (Q : Bool → fz_s → Prop)  (s : fz_s) : Prop :=
  vp_in ((s.1 196 2) - 1) 1600 ∧ ((¬ (s.1 197 ((s.1 196 2) - 1).toNatClampNeg) = 42 → lp_X12_qGoesOn_162   Q 2048 4 s) ∧ ((s.1 197 ((s.1 196 2) - 1).toNatClampNeg) = 42 → lp_X12_qGoesOn_162   Q 2048 3 s))
def nd_X12_qGoesOn_122   (Q : Bool → fz_s → Prop)  (s : fz_s) : Prop :=
  wp_X12_takesSign 42 s (fun r1 s2 => ((r1 = true → nd_X12_qGoesOn_140   Q  s2) ∧ (r1 = false → wp_X12_takesSign 47 s2 (fun r3 s4 => ((r3 = false → wp_X12_takesSign 43 s4 (fun r5 s6 => ((r5 = true → nd_X12_qGoesOn_225   Q  s6) ∧ (r5 = false → wp_X12_takesSign 45 s6 (fun r7 s8 => ((r7 = false → wp_X12_qBracket  s8 (fun r9 s10 => ((r9 = 21 → nd_X12_qGoesOn_326   Q  s10) ∧ (¬ r9 = 21 → wp_X12_qBracket  s10 (fun r11 s12 => ((¬ r11 = 22 → wp_X12_qBracket  s12 (fun r13 s14 => ((r13 = (-1) → Q false s14) ∧ (¬ r13 = (-1) → ((¬ (s14.1 196 5) = 0 → Q false s14) ∧ ((s14.1 196 5) = 0 → wp_X12_fail 1 (s14.1 196 2) s14 (fun s16 => Q false s16))))))) ∧ (r11 = 22 → nd_X12_qGoesOn_326   Q  s12))))))) ∧ (r7 = true → nd_X12_qGoesOn_225   Q  s8))))))) ∧ (r3 = true → nd_X12_qGoesOn_140   Q  s4))))))
def nd_X12_qGoesOn_115  (K0 : fz_s → Prop) (Q : Bool → fz_s → Prop)  (s : fz_s) : Prop :=
  wp_X12_qEndsPart  s (fun s2 => K0  s2)
def nd_X12_qGoesOn_112  (K0 : fz_s → Prop) (Q : Bool → fz_s → Prop) (u0 : Int32) (s : fz_s) : Prop :=
  wp_X12_qCode u0 s (fun s2 => nd_X12_qGoesOn_115  K0 Q  s2)
def nd_X12_qGoesOn_43  (K0 : fz_s → Prop) (Q : Bool → fz_s → Prop)  (s : fz_s) : Prop :=
  ∀ s1 : fz_s, s1 = si s 196 2 ((s.1 196 2) + 1) → wp_X12_qDropsToBracket  s1 (fun s3 => ∀ s4 : fz_s, s4 = si s3 196 103 ((s3.1 196 103) - 1) → ∀ s5 : fz_s, s5 = si s4 196 104 ((s4.1 196 104) - 1) → vp_in (s5.1 196 103) 1700 ∧ (((s5.1 270 (s5.1 196 103).toNatClampNeg) = 20 → nd_X12_qGoesOn_115  K0 Q  s5) ∧ (¬ (s5.1 270 (s5.1 196 103).toNatClampNeg) = 20 → vp_in (s5.1 196 103) 1700 ∧ ((¬ (s5.1 270 (s5.1 196 103).toNatClampNeg) = 23 → nd_X12_qGoesOn_112  K0 Q 6 s5) ∧ ((s5.1 270 (s5.1 196 103).toNatClampNeg) = 23 → nd_X12_qGoesOn_112  K0 Q 5 s5)))))
def nd_X12_qGoesOn_0  (K0 : fz_s → Prop) (Q : Bool → fz_s → Prop)  (s : fz_s) : Prop :=
  ((¬ (s.1 196 5) = 0 → nd_X12_qGoesOn_122   Q  s) ∧ ((s.1 196 5) = 0 → wp_X12_look  s (fun r1 s2 => ((¬ r1 = 41 → nd_X12_qGoesOn_122   Q  s2) ∧ (r1 = 41 → wp_X12_qBracket  s2 (fun r3 s4 => ((r3 = 20 → nd_X12_qGoesOn_43  K0 Q  s4) ∧ (¬ r3 = 20 → wp_X12_qBracket  s4 (fun r5 s6 => ((r5 = 23 → nd_X12_qGoesOn_43  K0 Q  s6) ∧ (¬ r5 = 23 → wp_X12_qBracket  s6 (fun r7 s8 => ((¬ r7 = 24 → nd_X12_qGoesOn_122   Q  s8) ∧ (r7 = 24 → nd_X12_qGoesOn_43  K0 Q  s8))))))))))))))
def lp_X12_qGoesOn_0   (Q : Bool → fz_s → Prop) : Nat → fz_s → Prop
  | 0 => fun  _ => False
  | n + 1 => nd_X12_qGoesOn_0  (lp_X12_qGoesOn_0   Q n) Q
def wp_X12_qGoesOn  (s : fz_s) (Q : Bool → fz_s → Prop) : Prop :=
  lp_X12_qGoesOn_0   Q 2048  s
set_option maxRecDepth 100000 in
set_option maxHeartbeats 4000000 in
theorem V_nd_X12_qGoesOn_326 {g : fz_G} {l : Launch} {d : Nat} (hD : 3 ≤ d)    {Q : Bool → fz_s → Prop}  {s : fz_s}  (H : nd_X12_qGoesOn_326   Q  s) : fs_V g l m_X12_qGoesOn d false 326 [.ref 196, fz_J] [] s (rZ Q) := by
  obtain ⟨d, rfl⟩ : ∃ e, d = e + 1 := ⟨d - 1, by omega⟩
  unfold nd_X12_qGoesOn_326 at H
  refine fs_aload_n (k0 := 0) (i := 0) dd_X12_qGoesOn_326 rfl rfl ?_
  refine fs_bipush (n := 44) (v := 44) dd_X12_qGoesOn_327 (by decide) ?_
  refine fs_callV (y := m_X12_asksSign) (as := [.int 44]) dd_X12_qGoesOn_329 me_X12_asksSign lk_X12_334 in_X12_asksSign se_X12_asksSign ca_196 rfl rfl rfl (Nat.le_of_ble_eq_true rfl) (Nat.le_of_ble_eq_true rfl) rfl (V_X12_asksSign (by omega)  H) (k2_V fun s2 H => ?_)
  refine fs_aload_n (k0 := 0) (i := 0) dd_X12_qGoesOn_332 rfl rfl ?_
  refine fs_geti (ci := 12) (j := 5) dd_X12_qGoesOn_333 fl_X12_252 ca_196 rfl (Or.inl rfl) ?_
  refine fs_if_eq (tgt := 341) dd_X12_qGoesOn_336 (by decide) (fun hc => ?_) (fun hc => ?_)
  · replace H := H.1 hc
    refine fs_aload_n (k0 := 0) (i := 0) dd_X12_qGoesOn_341 rfl rfl ?_
    refine fs_callV (y := m_X12_qDropsToBracket) (as := []) dd_X12_qGoesOn_342 me_X12_qDropsToBracket lk_X12_638 in_X12_qDropsToBracket se_X12_qDropsToBracket ca_196 rfl rfl rfl (Nat.le_of_ble_eq_true rfl) (Nat.le_of_ble_eq_true rfl) rfl (V_X12_qDropsToBracket (by omega)  H) (k2_V fun s4 H => ?_)
    refine fs_aload_n (k0 := 0) (i := 0) dd_X12_qGoesOn_345 rfl rfl ?_
    refine fs_getr (ci := 12) (j := 102) (q := 270) dd_X12_qGoesOn_346 fl_X12_240 ca_196 rfl (Or.inr ⟨_, rfl⟩) rfl (by decide) ?_
    refine fs_aload_n (k0 := 0) (i := 0) dd_X12_qGoesOn_349 rfl rfl ?_
    refine fs_geti (ci := 12) (j := 103) dd_X12_qGoesOn_350 fl_X12_341 ca_196 rfl (Or.inl rfl) ?_
    refine fs_iconst (n := 1) (v := 1) dd_X12_qGoesOn_353 (by decide) ?_
    refine fs_isub dd_X12_qGoesOn_354 ?_
    refine fs_dup2 dd_X12_qGoesOn_355 rfl rfl ?_
    have hb := H.1
    replace H := H.2
    refine fs_iald dd_X12_qGoesOn_356 ca_270 hb ?_
    refine fs_iconst (n := 2) (v := 2) dd_X12_qGoesOn_357 (by decide) ?_
    refine fs_iadd dd_X12_qGoesOn_358 ?_
    have hb := H.1
    replace H := H.2
    refine fs_iast dd_X12_qGoesOn_359 ca_270 hb ?_
    refine fs_tops (fun s5 hs5 => ?_)
    replace H := H s5 hs5
    refine fs_iconst (n := 1) (v := 1) dd_X12_qGoesOn_360 (by decide) ?_
    exact fs_zret true dd_X12_qGoesOn_361 rfl rfl H
  · replace H := H.2 hc
    refine fs_iconst (n := 0) (v := 0) dd_X12_qGoesOn_339 (by decide) ?_
    exact fs_zret false dd_X12_qGoesOn_340 rfl rfl H
set_option maxRecDepth 100000 in
set_option maxHeartbeats 4000000 in
theorem V_nd_X12_qGoesOn_279 {g : fz_G} {l : Launch} {d : Nat} (hD : 3 ≤ d)   {K247 : Int32 → fz_s → Prop} {Q : Bool → fz_s → Prop} {v1 : Int32} {s : fz_s} (hK247 : ∀ {v1 : Int32} {s : fz_s}, K247 v1 s → fs_V g l m_X12_qGoesOn d false 247 [.ref 196, .int v1] [] s (rZ Q)) (H : nd_X12_qGoesOn_279  K247 Q v1 s) : fs_V g l m_X12_qGoesOn d false 279 [.ref 196, .int v1] [] s (rZ Q) := by
  obtain ⟨d, rfl⟩ : ∃ e, d = e + 1 := ⟨d - 1, by omega⟩
  unfold nd_X12_qGoesOn_279 at H
  refine fs_aload_n (k0 := 0) (i := 0) dd_X12_qGoesOn_279 rfl rfl ?_
  refine fs_callV (y := m_X12_qDrops) (as := []) dd_X12_qGoesOn_280 me_X12_qDrops lk_X12_614 in_X12_qDrops se_X12_qDrops ca_196 rfl rfl rfl (Nat.le_of_ble_eq_true rfl) (Nat.le_of_ble_eq_true rfl) rfl (V_X12_qDrops (by omega)  H) (k2_V fun s2 H => ?_)
  refine fs_goto (tgt := 247) dd_X12_qGoesOn_283 (by decide) ?_
  refine fs_weak (ls2 := [.ref 196, .int v1]) (fz_le_e (fz_le_e fz_le_n)) ?_
  exact hK247 H
set_option maxRecDepth 100000 in
set_option maxHeartbeats 4000000 in
theorem V_nd_X12_qGoesOn_247 {g : fz_G} {l : Launch} {d : Nat} (hD : 3 ≤ d)   {K247 : Int32 → fz_s → Prop} {Q : Bool → fz_s → Prop} {v1 : Int32} {s : fz_s} (hK247 : ∀ {v1 : Int32} {s : fz_s}, K247 v1 s → fs_V g l m_X12_qGoesOn d false 247 [.ref 196, .int v1] [] s (rZ Q)) (H : nd_X12_qGoesOn_247  K247 Q v1 s) : fs_V g l m_X12_qGoesOn d false 247 [.ref 196, .int v1] [] s (rZ Q) := by
  obtain ⟨d, rfl⟩ : ∃ e, d = e + 1 := ⟨d - 1, by omega⟩
  unfold nd_X12_qGoesOn_247 at H
  refine fs_aload_n (k0 := 0) (i := 0) dd_X12_qGoesOn_247 rfl rfl ?_
  refine fs_iconst (n := 3) (v := 3) dd_X12_qGoesOn_248 (by decide) ?_
  refine fs_callV (y := m_X12_qIsOn) (as := [.int 3]) dd_X12_qGoesOn_249 me_X12_qIsOn lk_X12_641 in_X12_qIsOn se_X12_qIsOn ca_196 rfl rfl rfl (Nat.le_of_ble_eq_true rfl) (Nat.le_of_ble_eq_true rfl) rfl (V_X12_qIsOn (by omega)  H) (k2_Z fun r1 s2 H => ?_)
  refine fs_if_ne (tgt := 279) dd_X12_qGoesOn_252 (by decide) (fun hc => ?_) (fun hc => ?_)
  · replace H := H.1 (bi_1 hc)
    refine fs_weak (ls2 := [.ref 196, .int v1]) (fz_le_e (fz_le_e fz_le_n)) ?_
    exact V_nd_X12_qGoesOn_279 hD   hK247 H
  · replace H := H.2 (bi_0 hc)
    refine fs_aload_n (k0 := 0) (i := 0) dd_X12_qGoesOn_255 rfl rfl ?_
    refine fs_iconst (n := 4) (v := 4) dd_X12_qGoesOn_256 (by decide) ?_
    refine fs_callV (y := m_X12_qIsOn) (as := [.int 4]) dd_X12_qGoesOn_257 me_X12_qIsOn lk_X12_641 in_X12_qIsOn se_X12_qIsOn ca_196 rfl rfl rfl (Nat.le_of_ble_eq_true rfl) (Nat.le_of_ble_eq_true rfl) rfl (V_X12_qIsOn (by omega)  H) (k2_Z fun r3 s4 H => ?_)
    refine fs_if_ne (tgt := 279) dd_X12_qGoesOn_260 (by decide) (fun hc => ?_) (fun hc => ?_)
    · replace H := H.1 (bi_1 hc)
      refine fs_weak (ls2 := [.ref 196, .int v1]) (fz_le_e (fz_le_e fz_le_n)) ?_
      exact V_nd_X12_qGoesOn_279 hD   hK247 H
    · replace H := H.2 (bi_0 hc)
      refine fs_aload_n (k0 := 0) (i := 0) dd_X12_qGoesOn_263 rfl rfl ?_
      refine fs_iconst (n := 1) (v := 1) dd_X12_qGoesOn_264 (by decide) ?_
      refine fs_callV (y := m_X12_qIsOn) (as := [.int 1]) dd_X12_qGoesOn_265 me_X12_qIsOn lk_X12_641 in_X12_qIsOn se_X12_qIsOn ca_196 rfl rfl rfl (Nat.le_of_ble_eq_true rfl) (Nat.le_of_ble_eq_true rfl) rfl (V_X12_qIsOn (by omega)  H) (k2_Z fun r5 s6 H => ?_)
      refine fs_if_ne (tgt := 279) dd_X12_qGoesOn_268 (by decide) (fun hc => ?_) (fun hc => ?_)
      · replace H := H.1 (bi_1 hc)
        refine fs_weak (ls2 := [.ref 196, .int v1]) (fz_le_e (fz_le_e fz_le_n)) ?_
        exact V_nd_X12_qGoesOn_279 hD   hK247 H
      · replace H := H.2 (bi_0 hc)
        refine fs_aload_n (k0 := 0) (i := 0) dd_X12_qGoesOn_271 rfl rfl ?_
        refine fs_iconst (n := 2) (v := 2) dd_X12_qGoesOn_272 (by decide) ?_
        refine fs_callV (y := m_X12_qIsOn) (as := [.int 2]) dd_X12_qGoesOn_273 me_X12_qIsOn lk_X12_641 in_X12_qIsOn se_X12_qIsOn ca_196 rfl rfl rfl (Nat.le_of_ble_eq_true rfl) (Nat.le_of_ble_eq_true rfl) rfl (V_X12_qIsOn (by omega)  H) (k2_Z fun r7 s8 H => ?_)
        refine fs_if_eq (tgt := 286) dd_X12_qGoesOn_276 (by decide) (fun hc => ?_) (fun hc => ?_)
        · replace H := H.1 (bi_0 hc)
          refine fs_aload_n (k0 := 0) (i := 0) dd_X12_qGoesOn_286 rfl rfl ?_
          refine fs_getr (ci := 12) (j := 102) (q := 270) dd_X12_qGoesOn_287 fl_X12_240 ca_196 rfl (Or.inr ⟨_, rfl⟩) rfl (by decide) ?_
          refine fs_aload_n (k0 := 0) (i := 0) dd_X12_qGoesOn_290 rfl rfl ?_
          refine fs_geti (ci := 12) (j := 103) dd_X12_qGoesOn_291 fl_X12_341 ca_196 rfl (Or.inl rfl) ?_
          refine fs_iload_n (k0 := 1) (i := 1) dd_X12_qGoesOn_294 rfl rfl ?_
          have hb := H.1
          replace H := H.2
          refine fs_iast dd_X12_qGoesOn_295 ca_270 hb ?_
          refine fs_tops (fun s9 hs9 => ?_)
          replace H := H s9 hs9
          refine fs_aload_n (k0 := 0) (i := 0) dd_X12_qGoesOn_296 rfl rfl ?_
          refine fs_dup dd_X12_qGoesOn_297 rfl ?_
          refine fs_geti (ci := 12) (j := 103) dd_X12_qGoesOn_298 fl_X12_341 ca_196 rfl (Or.inl rfl) ?_
          refine fs_iconst (n := 1) (v := 1) dd_X12_qGoesOn_301 (by decide) ?_
          refine fs_iadd dd_X12_qGoesOn_302 ?_
          refine fs_puti (ci := 12) (j := 103) dd_X12_qGoesOn_303 fl_X12_341 (fun _ _ _ h => by cases h; rfl) ca_196 rfl (Or.inl rfl) ?_
          refine fs_tops (fun s10 hs10 => ?_)
          replace H := H s10 hs10
          refine fs_iconst (n := 1) (v := 1) dd_X12_qGoesOn_306 (by decide) ?_
          exact fs_zret true dd_X12_qGoesOn_307 rfl rfl H
        · replace H := H.2 (bi_1 hc)
          refine fs_weak (ls2 := [.ref 196, .int v1]) (fz_le_e (fz_le_e fz_le_n)) ?_
          exact V_nd_X12_qGoesOn_279 hD   hK247 H
set_option maxRecDepth 100000 in
set_option maxHeartbeats 4000000 in
theorem V_lp_X12_qGoesOn_247 {g : fz_G} {l : Launch} {d : Nat} (hD : 3 ≤ d)    {Q : Bool → fz_s → Prop}  (n : Nat) : ∀ {v1 : Int32} {s : fz_s}, lp_X12_qGoesOn_247   Q n v1 s → fs_V g l m_X12_qGoesOn d false 247 [.ref 196, .int v1] [] s (rZ Q) := by
  induction n with
  | zero => intro v1 s H; exact H.elim
  | succ n ih => intro v1 s H; exact V_nd_X12_qGoesOn_247 hD  (fun H => ih H) H
set_option maxRecDepth 100000 in
set_option maxHeartbeats 4000000 in
theorem V_nd_X12_qGoesOn_225 {g : fz_G} {l : Launch} {d : Nat} (hD : 3 ≤ d)    {Q : Bool → fz_s → Prop}  {s : fz_s}  (H : nd_X12_qGoesOn_225   Q  s) : fs_V g l m_X12_qGoesOn d false 225 [.ref 196, fz_J] [] s (rZ Q) := by
  obtain ⟨d, rfl⟩ : ∃ e, d = e + 1 := ⟨d - 1, by omega⟩
  unfold nd_X12_qGoesOn_225 at H
  refine fs_aload_n (k0 := 0) (i := 0) dd_X12_qGoesOn_225 rfl rfl ?_
  refine fs_getr (ci := 12) (j := 0) (q := 197) dd_X12_qGoesOn_226 fl_X12_7 ca_196 rfl (Or.inr ⟨_, rfl⟩) rfl (by decide) ?_
  refine fs_aload_n (k0 := 0) (i := 0) dd_X12_qGoesOn_229 rfl rfl ?_
  refine fs_geti (ci := 12) (j := 2) dd_X12_qGoesOn_230 fl_X12_258 ca_196 rfl (Or.inl rfl) ?_
  refine fs_iconst (n := 1) (v := 1) dd_X12_qGoesOn_233 (by decide) ?_
  refine fs_isub dd_X12_qGoesOn_234 ?_
  have hb := H.1
  replace H := H.2
  refine fs_iald dd_X12_qGoesOn_235 ca_197 hb ?_
  refine fs_bipush (n := 43) (v := 43) dd_X12_qGoesOn_236 (by decide) ?_
  refine fs_icmp_ne (tgt := 245) dd_X12_qGoesOn_238 (by decide) (fun hc => ?_) (fun hc => ?_)
  · replace H := H.1 hc
    refine fs_iconst (n := 2) (v := 2) dd_X12_qGoesOn_245 (by decide) ?_
    refine fs_istore_n (k0 := 1) (i := 1) dd_X12_qGoesOn_246 rfl (by decide) ?_
    refine fs_weak (ls2 := [.ref 196, .int 2]) (fz_le_e (fz_le_e fz_le_n)) ?_
    exact V_lp_X12_qGoesOn_247 hD    2048 H
  · replace H := H.2 hc
    refine fs_iconst (n := 1) (v := 1) dd_X12_qGoesOn_241 (by decide) ?_
    refine fs_goto (tgt := 246) dd_X12_qGoesOn_242 (by decide) ?_
    refine fs_istore_n (k0 := 1) (i := 1) dd_X12_qGoesOn_246 rfl (by decide) ?_
    refine fs_weak (ls2 := [.ref 196, .int 1]) (fz_le_e (fz_le_e fz_le_n)) ?_
    exact V_lp_X12_qGoesOn_247 hD    2048 H
set_option maxRecDepth 100000 in
set_option maxHeartbeats 4000000 in
theorem V_nd_X12_qGoesOn_178 {g : fz_G} {l : Launch} {d : Nat} (hD : 3 ≤ d)   {K162 : Int32 → fz_s → Prop} {Q : Bool → fz_s → Prop} {v1 : Int32} {s : fz_s} (hK162 : ∀ {v1 : Int32} {s : fz_s}, K162 v1 s → fs_V g l m_X12_qGoesOn d false 162 [.ref 196, .int v1] [] s (rZ Q)) (H : nd_X12_qGoesOn_178  K162 Q v1 s) : fs_V g l m_X12_qGoesOn d false 178 [.ref 196, .int v1] [] s (rZ Q) := by
  obtain ⟨d, rfl⟩ : ∃ e, d = e + 1 := ⟨d - 1, by omega⟩
  unfold nd_X12_qGoesOn_178 at H
  refine fs_aload_n (k0 := 0) (i := 0) dd_X12_qGoesOn_178 rfl rfl ?_
  refine fs_callV (y := m_X12_qDrops) (as := []) dd_X12_qGoesOn_179 me_X12_qDrops lk_X12_614 in_X12_qDrops se_X12_qDrops ca_196 rfl rfl rfl (Nat.le_of_ble_eq_true rfl) (Nat.le_of_ble_eq_true rfl) rfl (V_X12_qDrops (by omega)  H) (k2_V fun s2 H => ?_)
  refine fs_goto (tgt := 162) dd_X12_qGoesOn_182 (by decide) ?_
  refine fs_weak (ls2 := [.ref 196, .int v1]) (fz_le_e (fz_le_e fz_le_n)) ?_
  exact hK162 H
set_option maxRecDepth 100000 in
set_option maxHeartbeats 4000000 in
theorem V_nd_X12_qGoesOn_162 {g : fz_G} {l : Launch} {d : Nat} (hD : 3 ≤ d)   {K162 : Int32 → fz_s → Prop} {Q : Bool → fz_s → Prop} {v1 : Int32} {s : fz_s} (hK162 : ∀ {v1 : Int32} {s : fz_s}, K162 v1 s → fs_V g l m_X12_qGoesOn d false 162 [.ref 196, .int v1] [] s (rZ Q)) (H : nd_X12_qGoesOn_162  K162 Q v1 s) : fs_V g l m_X12_qGoesOn d false 162 [.ref 196, .int v1] [] s (rZ Q) := by
  obtain ⟨d, rfl⟩ : ∃ e, d = e + 1 := ⟨d - 1, by omega⟩
  unfold nd_X12_qGoesOn_162 at H
  refine fs_aload_n (k0 := 0) (i := 0) dd_X12_qGoesOn_162 rfl rfl ?_
  refine fs_iconst (n := 3) (v := 3) dd_X12_qGoesOn_163 (by decide) ?_
  refine fs_callV (y := m_X12_qIsOn) (as := [.int 3]) dd_X12_qGoesOn_164 me_X12_qIsOn lk_X12_641 in_X12_qIsOn se_X12_qIsOn ca_196 rfl rfl rfl (Nat.le_of_ble_eq_true rfl) (Nat.le_of_ble_eq_true rfl) rfl (V_X12_qIsOn (by omega)  H) (k2_Z fun r1 s2 H => ?_)
  refine fs_if_ne (tgt := 178) dd_X12_qGoesOn_167 (by decide) (fun hc => ?_) (fun hc => ?_)
  · replace H := H.1 (bi_1 hc)
    refine fs_weak (ls2 := [.ref 196, .int v1]) (fz_le_e (fz_le_e fz_le_n)) ?_
    exact V_nd_X12_qGoesOn_178 hD   hK162 H
  · replace H := H.2 (bi_0 hc)
    refine fs_aload_n (k0 := 0) (i := 0) dd_X12_qGoesOn_170 rfl rfl ?_
    refine fs_iconst (n := 4) (v := 4) dd_X12_qGoesOn_171 (by decide) ?_
    refine fs_callV (y := m_X12_qIsOn) (as := [.int 4]) dd_X12_qGoesOn_172 me_X12_qIsOn lk_X12_641 in_X12_qIsOn se_X12_qIsOn ca_196 rfl rfl rfl (Nat.le_of_ble_eq_true rfl) (Nat.le_of_ble_eq_true rfl) rfl (V_X12_qIsOn (by omega)  H) (k2_Z fun r3 s4 H => ?_)
    refine fs_if_eq (tgt := 185) dd_X12_qGoesOn_175 (by decide) (fun hc => ?_) (fun hc => ?_)
    · replace H := H.1 (bi_0 hc)
      refine fs_aload_n (k0 := 0) (i := 0) dd_X12_qGoesOn_185 rfl rfl ?_
      refine fs_getr (ci := 12) (j := 102) (q := 270) dd_X12_qGoesOn_186 fl_X12_240 ca_196 rfl (Or.inr ⟨_, rfl⟩) rfl (by decide) ?_
      refine fs_aload_n (k0 := 0) (i := 0) dd_X12_qGoesOn_189 rfl rfl ?_
      refine fs_geti (ci := 12) (j := 103) dd_X12_qGoesOn_190 fl_X12_341 ca_196 rfl (Or.inl rfl) ?_
      refine fs_iload_n (k0 := 1) (i := 1) dd_X12_qGoesOn_193 rfl rfl ?_
      have hb := H.1
      replace H := H.2
      refine fs_iast dd_X12_qGoesOn_194 ca_270 hb ?_
      refine fs_tops (fun s5 hs5 => ?_)
      replace H := H s5 hs5
      refine fs_aload_n (k0 := 0) (i := 0) dd_X12_qGoesOn_195 rfl rfl ?_
      refine fs_dup dd_X12_qGoesOn_196 rfl ?_
      refine fs_geti (ci := 12) (j := 103) dd_X12_qGoesOn_197 fl_X12_341 ca_196 rfl (Or.inl rfl) ?_
      refine fs_iconst (n := 1) (v := 1) dd_X12_qGoesOn_200 (by decide) ?_
      refine fs_iadd dd_X12_qGoesOn_201 ?_
      refine fs_puti (ci := 12) (j := 103) dd_X12_qGoesOn_202 fl_X12_341 (fun _ _ _ h => by cases h; rfl) ca_196 rfl (Or.inl rfl) ?_
      refine fs_tops (fun s6 hs6 => ?_)
      replace H := H s6 hs6
      refine fs_iconst (n := 1) (v := 1) dd_X12_qGoesOn_205 (by decide) ?_
      exact fs_zret true dd_X12_qGoesOn_206 rfl rfl H
    · replace H := H.2 (bi_1 hc)
      refine fs_weak (ls2 := [.ref 196, .int v1]) (fz_le_e (fz_le_e fz_le_n)) ?_
      exact V_nd_X12_qGoesOn_178 hD   hK162 H
set_option maxRecDepth 100000 in
set_option maxHeartbeats 4000000 in
theorem V_lp_X12_qGoesOn_162 {g : fz_G} {l : Launch} {d : Nat} (hD : 3 ≤ d)    {Q : Bool → fz_s → Prop}  (n : Nat) : ∀ {v1 : Int32} {s : fz_s}, lp_X12_qGoesOn_162   Q n v1 s → fs_V g l m_X12_qGoesOn d false 162 [.ref 196, .int v1] [] s (rZ Q) := by
  induction n with
  | zero => intro v1 s H; exact H.elim
  | succ n ih => intro v1 s H; exact V_nd_X12_qGoesOn_162 hD  (fun H => ih H) H
set_option maxRecDepth 100000 in
set_option maxHeartbeats 4000000 in
theorem V_nd_X12_qGoesOn_140 {g : fz_G} {l : Launch} {d : Nat} (hD : 3 ≤ d)    {Q : Bool → fz_s → Prop}  {s : fz_s}  (H : nd_X12_qGoesOn_140   Q  s) : fs_V g l m_X12_qGoesOn d false 140 [.ref 196, fz_J] [] s (rZ Q) := by
  obtain ⟨d, rfl⟩ : ∃ e, d = e + 1 := ⟨d - 1, by omega⟩
  unfold nd_X12_qGoesOn_140 at H
  refine fs_aload_n (k0 := 0) (i := 0) dd_X12_qGoesOn_140 rfl rfl ?_
  refine fs_getr (ci := 12) (j := 0) (q := 197) dd_X12_qGoesOn_141 fl_X12_7 ca_196 rfl (Or.inr ⟨_, rfl⟩) rfl (by decide) ?_
  refine fs_aload_n (k0 := 0) (i := 0) dd_X12_qGoesOn_144 rfl rfl ?_
  refine fs_geti (ci := 12) (j := 2) dd_X12_qGoesOn_145 fl_X12_258 ca_196 rfl (Or.inl rfl) ?_
  refine fs_iconst (n := 1) (v := 1) dd_X12_qGoesOn_148 (by decide) ?_
  refine fs_isub dd_X12_qGoesOn_149 ?_
  have hb := H.1
  replace H := H.2
  refine fs_iald dd_X12_qGoesOn_150 ca_197 hb ?_
  refine fs_bipush (n := 42) (v := 42) dd_X12_qGoesOn_151 (by decide) ?_
  refine fs_icmp_ne (tgt := 160) dd_X12_qGoesOn_153 (by decide) (fun hc => ?_) (fun hc => ?_)
  · replace H := H.1 hc
    refine fs_iconst (n := 4) (v := 4) dd_X12_qGoesOn_160 (by decide) ?_
    refine fs_istore_n (k0 := 1) (i := 1) dd_X12_qGoesOn_161 rfl (by decide) ?_
    refine fs_weak (ls2 := [.ref 196, .int 4]) (fz_le_e (fz_le_e fz_le_n)) ?_
    exact V_lp_X12_qGoesOn_162 hD    2048 H
  · replace H := H.2 hc
    refine fs_iconst (n := 3) (v := 3) dd_X12_qGoesOn_156 (by decide) ?_
    refine fs_goto (tgt := 161) dd_X12_qGoesOn_157 (by decide) ?_
    refine fs_istore_n (k0 := 1) (i := 1) dd_X12_qGoesOn_161 rfl (by decide) ?_
    refine fs_weak (ls2 := [.ref 196, .int 3]) (fz_le_e (fz_le_e fz_le_n)) ?_
    exact V_lp_X12_qGoesOn_162 hD    2048 H
set_option maxRecDepth 100000 in
set_option maxHeartbeats 4000000 in
theorem V_nd_X12_qGoesOn_122 {g : fz_G} {l : Launch} {d : Nat} (hD : 3 ≤ d)    {Q : Bool → fz_s → Prop}  {s : fz_s}  (H : nd_X12_qGoesOn_122   Q  s) : fs_V g l m_X12_qGoesOn d false 122 [.ref 196, fz_J] [] s (rZ Q) := by
  obtain ⟨d, rfl⟩ : ∃ e, d = e + 1 := ⟨d - 1, by omega⟩
  unfold nd_X12_qGoesOn_122 at H
  refine fs_aload_n (k0 := 0) (i := 0) dd_X12_qGoesOn_122 rfl rfl ?_
  refine fs_bipush (n := 42) (v := 42) dd_X12_qGoesOn_123 (by decide) ?_
  refine fs_callV (y := m_X12_takesSign) (as := [.int 42]) dd_X12_qGoesOn_125 me_X12_takesSign lk_X12_286 in_X12_takesSign se_X12_takesSign ca_196 rfl rfl rfl (Nat.le_of_ble_eq_true rfl) (Nat.le_of_ble_eq_true rfl) rfl (V_X12_takesSign (by omega)  H) (k2_Z fun r1 s2 H => ?_)
  refine fs_if_ne (tgt := 140) dd_X12_qGoesOn_128 (by decide) (fun hc => ?_) (fun hc => ?_)
  · replace H := H.1 (bi_1 hc)
    refine fs_weak (ls2 := [.ref 196, fz_J]) (fz_le_e (fz_le_j fz_le_n)) ?_
    exact V_nd_X12_qGoesOn_140 hD    H
  · replace H := H.2 (bi_0 hc)
    refine fs_aload_n (k0 := 0) (i := 0) dd_X12_qGoesOn_131 rfl rfl ?_
    refine fs_bipush (n := 47) (v := 47) dd_X12_qGoesOn_132 (by decide) ?_
    refine fs_callV (y := m_X12_takesSign) (as := [.int 47]) dd_X12_qGoesOn_134 me_X12_takesSign lk_X12_286 in_X12_takesSign se_X12_takesSign ca_196 rfl rfl rfl (Nat.le_of_ble_eq_true rfl) (Nat.le_of_ble_eq_true rfl) rfl (V_X12_takesSign (by omega)  H) (k2_Z fun r3 s4 H => ?_)
    refine fs_if_eq (tgt := 207) dd_X12_qGoesOn_137 (by decide) (fun hc => ?_) (fun hc => ?_)
    · replace H := H.1 (bi_0 hc)
      refine fs_aload_n (k0 := 0) (i := 0) dd_X12_qGoesOn_207 rfl rfl ?_
      refine fs_bipush (n := 43) (v := 43) dd_X12_qGoesOn_208 (by decide) ?_
      refine fs_callV (y := m_X12_takesSign) (as := [.int 43]) dd_X12_qGoesOn_210 me_X12_takesSign lk_X12_286 in_X12_takesSign se_X12_takesSign ca_196 rfl rfl rfl (Nat.le_of_ble_eq_true rfl) (Nat.le_of_ble_eq_true rfl) rfl (V_X12_takesSign (by omega)  H) (k2_Z fun r5 s6 H => ?_)
      refine fs_if_ne (tgt := 225) dd_X12_qGoesOn_213 (by decide) (fun hc => ?_) (fun hc => ?_)
      · replace H := H.1 (bi_1 hc)
        refine fs_weak (ls2 := [.ref 196, fz_J]) (fz_le_e (fz_le_j fz_le_n)) ?_
        exact V_nd_X12_qGoesOn_225 hD    H
      · replace H := H.2 (bi_0 hc)
        refine fs_aload_n (k0 := 0) (i := 0) dd_X12_qGoesOn_216 rfl rfl ?_
        refine fs_bipush (n := 45) (v := 45) dd_X12_qGoesOn_217 (by decide) ?_
        refine fs_callV (y := m_X12_takesSign) (as := [.int 45]) dd_X12_qGoesOn_219 me_X12_takesSign lk_X12_286 in_X12_takesSign se_X12_takesSign ca_196 rfl rfl rfl (Nat.le_of_ble_eq_true rfl) (Nat.le_of_ble_eq_true rfl) rfl (V_X12_takesSign (by omega)  H) (k2_Z fun r7 s8 H => ?_)
        refine fs_if_eq (tgt := 308) dd_X12_qGoesOn_222 (by decide) (fun hc => ?_) (fun hc => ?_)
        · replace H := H.1 (bi_0 hc)
          refine fs_aload_n (k0 := 0) (i := 0) dd_X12_qGoesOn_308 rfl rfl ?_
          refine fs_callV (y := m_X12_qBracket) (as := []) dd_X12_qGoesOn_309 me_X12_qBracket lk_X12_635 in_X12_qBracket se_X12_qBracket ca_196 rfl rfl rfl (Nat.le_of_ble_eq_true rfl) (Nat.le_of_ble_eq_true rfl) rfl (V_X12_qBracket (by omega)  H) (k2_I fun r9 s10 H => ?_)
          refine fs_bipush (n := 21) (v := 21) dd_X12_qGoesOn_312 (by decide) ?_
          refine fs_icmp_eq (tgt := 326) dd_X12_qGoesOn_314 (by decide) (fun hc => ?_) (fun hc => ?_)
          · replace H := H.1 hc
            refine fs_weak (ls2 := [.ref 196, fz_J]) (fz_le_e (fz_le_j fz_le_n)) ?_
            exact V_nd_X12_qGoesOn_326 hD    H
          · replace H := H.2 hc
            refine fs_aload_n (k0 := 0) (i := 0) dd_X12_qGoesOn_317 rfl rfl ?_
            refine fs_callV (y := m_X12_qBracket) (as := []) dd_X12_qGoesOn_318 me_X12_qBracket lk_X12_635 in_X12_qBracket se_X12_qBracket ca_196 rfl rfl rfl (Nat.le_of_ble_eq_true rfl) (Nat.le_of_ble_eq_true rfl) rfl (V_X12_qBracket (by omega)  H) (k2_I fun r11 s12 H => ?_)
            refine fs_bipush (n := 22) (v := 22) dd_X12_qGoesOn_321 (by decide) ?_
            refine fs_icmp_ne (tgt := 362) dd_X12_qGoesOn_323 (by decide) (fun hc => ?_) (fun hc => ?_)
            · replace H := H.1 hc
              refine fs_aload_n (k0 := 0) (i := 0) dd_X12_qGoesOn_362 rfl rfl ?_
              refine fs_callV (y := m_X12_qBracket) (as := []) dd_X12_qGoesOn_363 me_X12_qBracket lk_X12_635 in_X12_qBracket se_X12_qBracket ca_196 rfl rfl rfl (Nat.le_of_ble_eq_true rfl) (Nat.le_of_ble_eq_true rfl) rfl (V_X12_qBracket (by omega)  H) (k2_I fun r13 s14 H => ?_)
              refine fs_iconst (n := -1) (v := -1) dd_X12_qGoesOn_366 (by decide) ?_
              refine fs_icmp_eq (tgt := 386) dd_X12_qGoesOn_367 (by decide) (fun hc => ?_) (fun hc => ?_)
              · replace H := H.1 hc
                refine fs_iconst (n := 0) (v := 0) dd_X12_qGoesOn_386 (by decide) ?_
                exact fs_zret false dd_X12_qGoesOn_387 rfl rfl H
              · replace H := H.2 hc
                refine fs_aload_n (k0 := 0) (i := 0) dd_X12_qGoesOn_370 rfl rfl ?_
                refine fs_geti (ci := 12) (j := 5) dd_X12_qGoesOn_371 fl_X12_252 ca_196 rfl (Or.inl rfl) ?_
                refine fs_if_ne (tgt := 386) dd_X12_qGoesOn_374 (by decide) (fun hc => ?_) (fun hc => ?_)
                · replace H := H.1 hc
                  refine fs_iconst (n := 0) (v := 0) dd_X12_qGoesOn_386 (by decide) ?_
                  exact fs_zret false dd_X12_qGoesOn_387 rfl rfl H
                · replace H := H.2 hc
                  refine fs_aload_n (k0 := 0) (i := 0) dd_X12_qGoesOn_377 rfl rfl ?_
                  refine fs_iconst (n := 1) (v := 1) dd_X12_qGoesOn_378 (by decide) ?_
                  refine fs_aload_n (k0 := 0) (i := 0) dd_X12_qGoesOn_379 rfl rfl ?_
                  refine fs_geti (ci := 12) (j := 2) dd_X12_qGoesOn_380 fl_X12_258 ca_196 rfl (Or.inl rfl) ?_
                  refine fs_callV (y := m_X12_fail) (as := [.int 1, .int (s14.1 196 2)]) dd_X12_qGoesOn_383 me_X12_fail lk_X12_282 in_X12_fail se_X12_fail ca_196 rfl rfl rfl (Nat.le_of_ble_eq_true rfl) (Nat.le_of_ble_eq_true rfl) rfl (V_X12_fail (by omega)  H) (k2_V fun s16 H => ?_)
                  refine fs_iconst (n := 0) (v := 0) dd_X12_qGoesOn_386 (by decide) ?_
                  exact fs_zret false dd_X12_qGoesOn_387 rfl rfl H
            · replace H := H.2 hc
              refine fs_weak (ls2 := [.ref 196, fz_J]) (fz_le_e (fz_le_j fz_le_n)) ?_
              exact V_nd_X12_qGoesOn_326 hD    H
        · replace H := H.2 (bi_1 hc)
          refine fs_weak (ls2 := [.ref 196, fz_J]) (fz_le_e (fz_le_j fz_le_n)) ?_
          exact V_nd_X12_qGoesOn_225 hD    H
    · replace H := H.2 (bi_1 hc)
      refine fs_weak (ls2 := [.ref 196, fz_J]) (fz_le_e (fz_le_j fz_le_n)) ?_
      exact V_nd_X12_qGoesOn_140 hD    H
set_option maxRecDepth 100000 in
set_option maxHeartbeats 4000000 in
theorem V_nd_X12_qGoesOn_115 {g : fz_G} {l : Launch} {d : Nat} (hD : 3 ≤ d)   {K0 : fz_s → Prop} {Q : Bool → fz_s → Prop}  {s : fz_s} (hK0 : ∀ {s : fz_s}, K0 s → fs_V g l m_X12_qGoesOn d false 0 [.ref 196, fz_J] [] s (rZ Q)) (H : nd_X12_qGoesOn_115  K0 Q  s) : fs_V g l m_X12_qGoesOn d false 115 [.ref 196, fz_J] [] s (rZ Q) := by
  obtain ⟨d, rfl⟩ : ∃ e, d = e + 1 := ⟨d - 1, by omega⟩
  unfold nd_X12_qGoesOn_115 at H
  refine fs_aload_n (k0 := 0) (i := 0) dd_X12_qGoesOn_115 rfl rfl ?_
  refine fs_callV (y := m_X12_qEndsPart) (as := []) dd_X12_qGoesOn_116 me_X12_qEndsPart lk_X12_632 in_X12_qEndsPart se_X12_qEndsPart ca_196 rfl rfl rfl (Nat.le_of_ble_eq_true rfl) (Nat.le_of_ble_eq_true rfl) rfl (V_X12_qEndsPart (by omega)  H) (k2_V fun s2 H => ?_)
  refine fs_goto (tgt := 0) dd_X12_qGoesOn_119 (by decide) ?_
  refine fs_weak (ls2 := [.ref 196, fz_J]) (fz_le_e (fz_le_j fz_le_n)) ?_
  exact hK0 H
set_option maxRecDepth 100000 in
set_option maxHeartbeats 4000000 in
theorem V_nd_X12_qGoesOn_112 {g : fz_G} {l : Launch} {d : Nat} (hD : 3 ≤ d)   {K0 : fz_s → Prop} {Q : Bool → fz_s → Prop} {u0 : Int32} {s : fz_s} (hK0 : ∀ {s : fz_s}, K0 s → fs_V g l m_X12_qGoesOn d false 0 [.ref 196, fz_J] [] s (rZ Q)) (H : nd_X12_qGoesOn_112  K0 Q u0 s) : fs_V g l m_X12_qGoesOn d false 112 [.ref 196, fz_J] [.int u0, .ref 196] s (rZ Q) := by
  obtain ⟨d, rfl⟩ : ∃ e, d = e + 1 := ⟨d - 1, by omega⟩
  unfold nd_X12_qGoesOn_112 at H
  refine fs_callV (y := m_X12_qCode) (as := [.int u0]) dd_X12_qGoesOn_112 me_X12_qCode lk_X12_608 in_X12_qCode se_X12_qCode ca_196 rfl rfl rfl (Nat.le_of_ble_eq_true rfl) (Nat.le_of_ble_eq_true rfl) rfl (V_X12_qCode (by omega)  H) (k2_V fun s2 H => ?_)
  refine fs_weak (ls2 := [.ref 196, fz_J]) (fz_le_e (fz_le_j fz_le_n)) ?_
  exact V_nd_X12_qGoesOn_115 hD   hK0 H
set_option maxRecDepth 100000 in
set_option maxHeartbeats 4000000 in
theorem V_nd_X12_qGoesOn_43 {g : fz_G} {l : Launch} {d : Nat} (hD : 3 ≤ d)   {K0 : fz_s → Prop} {Q : Bool → fz_s → Prop}  {s : fz_s} (hK0 : ∀ {s : fz_s}, K0 s → fs_V g l m_X12_qGoesOn d false 0 [.ref 196, fz_J] [] s (rZ Q)) (H : nd_X12_qGoesOn_43  K0 Q  s) : fs_V g l m_X12_qGoesOn d false 43 [.ref 196, fz_J] [] s (rZ Q) := by
  obtain ⟨d, rfl⟩ : ∃ e, d = e + 1 := ⟨d - 1, by omega⟩
  unfold nd_X12_qGoesOn_43 at H
  refine fs_aload_n (k0 := 0) (i := 0) dd_X12_qGoesOn_43 rfl rfl ?_
  refine fs_dup dd_X12_qGoesOn_44 rfl ?_
  refine fs_geti (ci := 12) (j := 2) dd_X12_qGoesOn_45 fl_X12_258 ca_196 rfl (Or.inl rfl) ?_
  refine fs_iconst (n := 1) (v := 1) dd_X12_qGoesOn_48 (by decide) ?_
  refine fs_iadd dd_X12_qGoesOn_49 ?_
  refine fs_puti (ci := 12) (j := 2) dd_X12_qGoesOn_50 fl_X12_258 (fun _ _ _ h => by cases h; rfl) ca_196 rfl (Or.inl rfl) ?_
  refine fs_tops (fun s1 hs1 => ?_)
  replace H := H s1 hs1
  refine fs_aload_n (k0 := 0) (i := 0) dd_X12_qGoesOn_53 rfl rfl ?_
  refine fs_callV (y := m_X12_qDropsToBracket) (as := []) dd_X12_qGoesOn_54 me_X12_qDropsToBracket lk_X12_638 in_X12_qDropsToBracket se_X12_qDropsToBracket ca_196 rfl rfl rfl (Nat.le_of_ble_eq_true rfl) (Nat.le_of_ble_eq_true rfl) rfl (V_X12_qDropsToBracket (by omega)  H) (k2_V fun s3 H => ?_)
  refine fs_aload_n (k0 := 0) (i := 0) dd_X12_qGoesOn_57 rfl rfl ?_
  refine fs_dup dd_X12_qGoesOn_58 rfl ?_
  refine fs_geti (ci := 12) (j := 103) dd_X12_qGoesOn_59 fl_X12_341 ca_196 rfl (Or.inl rfl) ?_
  refine fs_iconst (n := 1) (v := 1) dd_X12_qGoesOn_62 (by decide) ?_
  refine fs_isub dd_X12_qGoesOn_63 ?_
  refine fs_puti (ci := 12) (j := 103) dd_X12_qGoesOn_64 fl_X12_341 (fun _ _ _ h => by cases h; rfl) ca_196 rfl (Or.inl rfl) ?_
  refine fs_tops (fun s4 hs4 => ?_)
  replace H := H s4 hs4
  refine fs_aload_n (k0 := 0) (i := 0) dd_X12_qGoesOn_67 rfl rfl ?_
  refine fs_dup dd_X12_qGoesOn_68 rfl ?_
  refine fs_geti (ci := 12) (j := 104) dd_X12_qGoesOn_69 fl_X12_344 ca_196 rfl (Or.inl rfl) ?_
  refine fs_iconst (n := 1) (v := 1) dd_X12_qGoesOn_72 (by decide) ?_
  refine fs_isub dd_X12_qGoesOn_73 ?_
  refine fs_puti (ci := 12) (j := 104) dd_X12_qGoesOn_74 fl_X12_344 (fun _ _ _ h => by cases h; rfl) ca_196 rfl (Or.inl rfl) ?_
  refine fs_tops (fun s5 hs5 => ?_)
  replace H := H s5 hs5
  refine fs_aload_n (k0 := 0) (i := 0) dd_X12_qGoesOn_77 rfl rfl ?_
  refine fs_getr (ci := 12) (j := 102) (q := 270) dd_X12_qGoesOn_78 fl_X12_240 ca_196 rfl (Or.inr ⟨_, rfl⟩) rfl (by decide) ?_
  refine fs_aload_n (k0 := 0) (i := 0) dd_X12_qGoesOn_81 rfl rfl ?_
  refine fs_geti (ci := 12) (j := 103) dd_X12_qGoesOn_82 fl_X12_341 ca_196 rfl (Or.inl rfl) ?_
  have hb := H.1
  replace H := H.2
  refine fs_iald dd_X12_qGoesOn_85 ca_270 hb ?_
  refine fs_bipush (n := 20) (v := 20) dd_X12_qGoesOn_86 (by decide) ?_
  refine fs_icmp_eq (tgt := 115) dd_X12_qGoesOn_88 (by decide) (fun hc => ?_) (fun hc => ?_)
  · replace H := H.1 hc
    refine fs_weak (ls2 := [.ref 196, fz_J]) (fz_le_e (fz_le_j fz_le_n)) ?_
    exact V_nd_X12_qGoesOn_115 hD   hK0 H
  · replace H := H.2 hc
    refine fs_aload_n (k0 := 0) (i := 0) dd_X12_qGoesOn_91 rfl rfl ?_
    refine fs_aload_n (k0 := 0) (i := 0) dd_X12_qGoesOn_92 rfl rfl ?_
    refine fs_getr (ci := 12) (j := 102) (q := 270) dd_X12_qGoesOn_93 fl_X12_240 ca_196 rfl (Or.inr ⟨_, rfl⟩) rfl (by decide) ?_
    refine fs_aload_n (k0 := 0) (i := 0) dd_X12_qGoesOn_96 rfl rfl ?_
    refine fs_geti (ci := 12) (j := 103) dd_X12_qGoesOn_97 fl_X12_341 ca_196 rfl (Or.inl rfl) ?_
    have hb := H.1
    replace H := H.2
    refine fs_iald dd_X12_qGoesOn_100 ca_270 hb ?_
    refine fs_bipush (n := 23) (v := 23) dd_X12_qGoesOn_101 (by decide) ?_
    refine fs_icmp_ne (tgt := 110) dd_X12_qGoesOn_103 (by decide) (fun hc => ?_) (fun hc => ?_)
    · replace H := H.1 hc
      refine fs_bipush (n := 6) (v := 6) dd_X12_qGoesOn_110 (by decide) ?_
      refine fs_weak (ls2 := [.ref 196, fz_J]) (fz_le_e (fz_le_j fz_le_n)) ?_
      exact V_nd_X12_qGoesOn_112 hD   hK0 H
    · replace H := H.2 hc
      refine fs_iconst (n := 5) (v := 5) dd_X12_qGoesOn_106 (by decide) ?_
      refine fs_goto (tgt := 112) dd_X12_qGoesOn_107 (by decide) ?_
      refine fs_weak (ls2 := [.ref 196, fz_J]) (fz_le_e (fz_le_j fz_le_n)) ?_
      exact V_nd_X12_qGoesOn_112 hD   hK0 H
set_option maxRecDepth 100000 in
set_option maxHeartbeats 4000000 in
theorem V_nd_X12_qGoesOn_0 {g : fz_G} {l : Launch} {d : Nat} (hD : 3 ≤ d)   {K0 : fz_s → Prop} {Q : Bool → fz_s → Prop}  {s : fz_s} (hK0 : ∀ {s : fz_s}, K0 s → fs_V g l m_X12_qGoesOn d false 0 [.ref 196, fz_J] [] s (rZ Q)) (H : nd_X12_qGoesOn_0  K0 Q  s) : fs_V g l m_X12_qGoesOn d false 0 [.ref 196, fz_J] [] s (rZ Q) := by
  obtain ⟨d, rfl⟩ : ∃ e, d = e + 1 := ⟨d - 1, by omega⟩
  unfold nd_X12_qGoesOn_0 at H
  refine fs_aload_n (k0 := 0) (i := 0) dd_X12_qGoesOn_0 rfl rfl ?_
  refine fs_geti (ci := 12) (j := 5) dd_X12_qGoesOn_1 fl_X12_252 ca_196 rfl (Or.inl rfl) ?_
  refine fs_if_ne (tgt := 122) dd_X12_qGoesOn_4 (by decide) (fun hc => ?_) (fun hc => ?_)
  · replace H := H.1 hc
    refine fs_weak (ls2 := [.ref 196, fz_J]) (fz_le_e (fz_le_j fz_le_n)) ?_
    exact V_nd_X12_qGoesOn_122 hD    H
  · replace H := H.2 hc
    refine fs_aload_n (k0 := 0) (i := 0) dd_X12_qGoesOn_7 rfl rfl ?_
    refine fs_callV (y := m_X12_look) (as := []) dd_X12_qGoesOn_8 me_X12_look lk_X12_264 in_X12_look se_X12_look ca_196 rfl rfl rfl (Nat.le_of_ble_eq_true rfl) (Nat.le_of_ble_eq_true rfl) rfl (V_X12_look (by omega)  H) (k2_I fun r1 s2 H => ?_)
    refine fs_bipush (n := 41) (v := 41) dd_X12_qGoesOn_11 (by decide) ?_
    refine fs_icmp_ne (tgt := 122) dd_X12_qGoesOn_13 (by decide) (fun hc => ?_) (fun hc => ?_)
    · replace H := H.1 hc
      refine fs_weak (ls2 := [.ref 196, fz_J]) (fz_le_e (fz_le_j fz_le_n)) ?_
      exact V_nd_X12_qGoesOn_122 hD    H
    · replace H := H.2 hc
      refine fs_aload_n (k0 := 0) (i := 0) dd_X12_qGoesOn_16 rfl rfl ?_
      refine fs_callV (y := m_X12_qBracket) (as := []) dd_X12_qGoesOn_17 me_X12_qBracket lk_X12_635 in_X12_qBracket se_X12_qBracket ca_196 rfl rfl rfl (Nat.le_of_ble_eq_true rfl) (Nat.le_of_ble_eq_true rfl) rfl (V_X12_qBracket (by omega)  H) (k2_I fun r3 s4 H => ?_)
      refine fs_bipush (n := 20) (v := 20) dd_X12_qGoesOn_20 (by decide) ?_
      refine fs_icmp_eq (tgt := 43) dd_X12_qGoesOn_22 (by decide) (fun hc => ?_) (fun hc => ?_)
      · replace H := H.1 hc
        refine fs_weak (ls2 := [.ref 196, fz_J]) (fz_le_e (fz_le_j fz_le_n)) ?_
        exact V_nd_X12_qGoesOn_43 hD   hK0 H
      · replace H := H.2 hc
        refine fs_aload_n (k0 := 0) (i := 0) dd_X12_qGoesOn_25 rfl rfl ?_
        refine fs_callV (y := m_X12_qBracket) (as := []) dd_X12_qGoesOn_26 me_X12_qBracket lk_X12_635 in_X12_qBracket se_X12_qBracket ca_196 rfl rfl rfl (Nat.le_of_ble_eq_true rfl) (Nat.le_of_ble_eq_true rfl) rfl (V_X12_qBracket (by omega)  H) (k2_I fun r5 s6 H => ?_)
        refine fs_bipush (n := 23) (v := 23) dd_X12_qGoesOn_29 (by decide) ?_
        refine fs_icmp_eq (tgt := 43) dd_X12_qGoesOn_31 (by decide) (fun hc => ?_) (fun hc => ?_)
        · replace H := H.1 hc
          refine fs_weak (ls2 := [.ref 196, fz_J]) (fz_le_e (fz_le_j fz_le_n)) ?_
          exact V_nd_X12_qGoesOn_43 hD   hK0 H
        · replace H := H.2 hc
          refine fs_aload_n (k0 := 0) (i := 0) dd_X12_qGoesOn_34 rfl rfl ?_
          refine fs_callV (y := m_X12_qBracket) (as := []) dd_X12_qGoesOn_35 me_X12_qBracket lk_X12_635 in_X12_qBracket se_X12_qBracket ca_196 rfl rfl rfl (Nat.le_of_ble_eq_true rfl) (Nat.le_of_ble_eq_true rfl) rfl (V_X12_qBracket (by omega)  H) (k2_I fun r7 s8 H => ?_)
          refine fs_bipush (n := 24) (v := 24) dd_X12_qGoesOn_38 (by decide) ?_
          refine fs_icmp_ne (tgt := 122) dd_X12_qGoesOn_40 (by decide) (fun hc => ?_) (fun hc => ?_)
          · replace H := H.1 hc
            refine fs_weak (ls2 := [.ref 196, fz_J]) (fz_le_e (fz_le_j fz_le_n)) ?_
            exact V_nd_X12_qGoesOn_122 hD    H
          · replace H := H.2 hc
            refine fs_weak (ls2 := [.ref 196, fz_J]) (fz_le_e (fz_le_j fz_le_n)) ?_
            exact V_nd_X12_qGoesOn_43 hD   hK0 H
set_option maxRecDepth 100000 in
set_option maxHeartbeats 4000000 in
theorem V_lp_X12_qGoesOn_0 {g : fz_G} {l : Launch} {d : Nat} (hD : 3 ≤ d)    {Q : Bool → fz_s → Prop}  (n : Nat) : ∀ {s : fz_s}, lp_X12_qGoesOn_0   Q n  s → fs_V g l m_X12_qGoesOn d false 0 [.ref 196, fz_J] [] s (rZ Q) := by
  induction n with
  | zero => intro  s H; exact H.elim
  | succ n ih => intro  s H; exact V_nd_X12_qGoesOn_0 hD  (fun H => ih H) H
set_option maxRecDepth 100000 in
set_option maxHeartbeats 4000000 in
theorem V_X12_qGoesOn {g : fz_G} {l : Launch} {d : Nat} (hD : 3 ≤ d)   {s : fz_s} {Q : Bool → fz_s → Prop} (H : wp_X12_qGoesOn  s Q) : fs_V g l m_X12_qGoesOn d false 0 (fz_en [.ref 196] 2) [] s (rZ Q) := by
  obtain ⟨d, rfl⟩ : ∃ e, d = e + 1 := ⟨d - 1, by omega⟩
  unfold wp_X12_qGoesOn at H
  refine fs_weak (ls2 := [.ref 196, fz_J]) (fz_le_e (fz_le_j fz_le_n)) ?_
  exact V_lp_X12_qGoesOn_0 hD    2048 H
theorem dd_X12_qSums_0 : decode m_X12_qSums.2.1 0 = .ok (.aload_n 0, 1) := by decide +kernel
theorem dd_X12_qSums_1 : decode m_X12_qSums.2.1 1 = .ok (.getfield 347, 3) := by decide +kernel
theorem dd_X12_qSums_4 : decode m_X12_qSums.2.1 4 = .ok (.istore_n 1, 1) := by decide +kernel
theorem dd_X12_qSums_5 : decode m_X12_qSums.2.1 5 = .ok (.aload_n 0, 1) := by decide +kernel
theorem dd_X12_qSums_6 : decode m_X12_qSums.2.1 6 = .ok (.aload_n 0, 1) := by decide +kernel
theorem dd_X12_qSums_7 : decode m_X12_qSums.2.1 7 = .ok (.getfield 341, 3) := by decide +kernel
theorem dd_X12_qSums_10 : decode m_X12_qSums.2.1 10 = .ok (.putfield 347, 3) := by decide +kernel
theorem dd_X12_qSums_13 : decode m_X12_qSums.2.1 13 = .ok (.iconst 1, 1) := by decide +kernel
theorem dd_X12_qSums_14 : decode m_X12_qSums.2.1 14 = .ok (.istore_n 2, 1) := by decide +kernel
theorem dd_X12_qSums_15 : decode m_X12_qSums.2.1 15 = .ok (.iload_n 2, 1) := by decide +kernel
theorem dd_X12_qSums_16 : decode m_X12_qSums.2.1 16 = .ok (.ifCond .eq 37, 3) := by decide +kernel
theorem dd_X12_qSums_19 : decode m_X12_qSums.2.1 19 = .ok (.aload_n 0, 1) := by decide +kernel
theorem dd_X12_qSums_20 : decode m_X12_qSums.2.1 20 = .ok (.getfield 252, 3) := by decide +kernel
theorem dd_X12_qSums_23 : decode m_X12_qSums.2.1 23 = .ok (.ifCond .ne 30, 3) := by decide +kernel
theorem dd_X12_qSums_26 : decode m_X12_qSums.2.1 26 = .ok (.aload_n 0, 1) := by decide +kernel
theorem dd_X12_qSums_27 : decode m_X12_qSums.2.1 27 = .ok (.invokevirtual 644, 3) := by decide +kernel
theorem dd_X12_qSums_30 : decode m_X12_qSums.2.1 30 = .ok (.aload_n 0, 1) := by decide +kernel
theorem dd_X12_qSums_31 : decode m_X12_qSums.2.1 31 = .ok (.getfield 252, 3) := by decide +kernel
theorem dd_X12_qSums_34 : decode m_X12_qSums.2.1 34 = .ok (.ifCond .ne 14, 3) := by decide +kernel
theorem dd_X12_qSums_37 : decode m_X12_qSums.2.1 37 = .ok (.aload_n 0, 1) := by decide +kernel
theorem dd_X12_qSums_38 : decode m_X12_qSums.2.1 38 = .ok (.invokevirtual 647, 3) := by decide +kernel
theorem dd_X12_qSums_41 : decode m_X12_qSums.2.1 41 = .ok (.ifCond .eq 7, 3) := by decide +kernel
theorem dd_X12_qSums_44 : decode m_X12_qSums.2.1 44 = .ok (.iconst 1, 1) := by decide +kernel
theorem dd_X12_qSums_45 : decode m_X12_qSums.2.1 45 = .ok (.goto 4, 3) := by decide +kernel
theorem dd_X12_qSums_48 : decode m_X12_qSums.2.1 48 = .ok (.iconst 0, 1) := by decide +kernel
theorem dd_X12_qSums_49 : decode m_X12_qSums.2.1 49 = .ok (.istore_n 2, 1) := by decide +kernel
theorem dd_X12_qSums_50 : decode m_X12_qSums.2.1 50 = .ok (.goto (-35), 3) := by decide +kernel
theorem dd_X12_qSums_53 : decode m_X12_qSums.2.1 53 = .ok (.aload_n 0, 1) := by decide +kernel
theorem dd_X12_qSums_54 : decode m_X12_qSums.2.1 54 = .ok (.getfield 252, 3) := by decide +kernel
theorem dd_X12_qSums_57 : decode m_X12_qSums.2.1 57 = .ok (.ifCond .ne 21, 3) := by decide +kernel
theorem dd_X12_qSums_60 : decode m_X12_qSums.2.1 60 = .ok (.aload_n 0, 1) := by decide +kernel
theorem dd_X12_qSums_61 : decode m_X12_qSums.2.1 61 = .ok (.getfield 341, 3) := by decide +kernel
theorem dd_X12_qSums_64 : decode m_X12_qSums.2.1 64 = .ok (.aload_n 0, 1) := by decide +kernel
theorem dd_X12_qSums_65 : decode m_X12_qSums.2.1 65 = .ok (.getfield 347, 3) := by decide +kernel
theorem dd_X12_qSums_68 : decode m_X12_qSums.2.1 68 = .ok (.if_icmp .le 10, 3) := by decide +kernel
theorem dd_X12_qSums_71 : decode m_X12_qSums.2.1 71 = .ok (.aload_n 0, 1) := by decide +kernel
theorem dd_X12_qSums_72 : decode m_X12_qSums.2.1 72 = .ok (.invokevirtual 614, 3) := by decide +kernel
theorem dd_X12_qSums_75 : decode m_X12_qSums.2.1 75 = .ok (.goto (-22), 3) := by decide +kernel
theorem dd_X12_qSums_78 : decode m_X12_qSums.2.1 78 = .ok (.aload_n 0, 1) := by decide +kernel
theorem dd_X12_qSums_79 : decode m_X12_qSums.2.1 79 = .ok (.iload_n 1, 1) := by decide +kernel
theorem dd_X12_qSums_80 : decode m_X12_qSums.2.1 80 = .ok (.putfield 347, 3) := by decide +kernel
theorem dd_X12_qSums_83 : decode m_X12_qSums.2.1 83 = .ok (.return_, 1) := by decide +kernel
def nd_X12_qSums_53  (K53 : Int32 → fz_s → Prop) (Q : fz_s → Prop) (v1 : Int32) (s : fz_s) : Prop :=
  ((¬ (s.1 196 5) = 0 → ∀ s1 : fz_s, s1 = si s 196 105 v1 → Q s1) ∧ ((s.1 196 5) = 0 → (((s.1 196 103) ≤ (s.1 196 105) → ∀ s2 : fz_s, s2 = si s 196 105 v1 → Q s2) ∧ (¬ (s.1 196 103) ≤ (s.1 196 105) → wp_X12_qDrops  s (fun s4 => K53 v1 s4)))))
def lp_X12_qSums_53   (Q : fz_s → Prop) : Nat → Int32 → fz_s → Prop
  | 0 => fun _ _ => False
  | n + 1 => nd_X12_qSums_53  (lp_X12_qSums_53   Q n) Q
def nd_X12_qSums_15  (K15 : Int32 → Bool → fz_s → Prop) (Q : fz_s → Prop) (v1 : Int32) (v2 : Bool) (s : fz_s) : Prop :=
  ((v2 = false → lp_X12_qSums_53   Q 2048 v1 s) ∧ (v2 = true → ((¬ (s.1 196 5) = 0 → lp_X12_qSums_53   Q 2048 v1 s) ∧ ((s.1 196 5) = 0 → wp_X12_qPartTold  s (fun s2 => ((¬ (s2.1 196 5) = 0 → K15 v1 false s2) ∧ ((s2.1 196 5) = 0 → wp_X12_qGoesOn  s2 (fun r3 s4 => ((r3 = false → K15 v1 false s4) ∧ (r3 = true → K15 v1 true s4))))))))))
def lp_X12_qSums_15   (Q : fz_s → Prop) : Nat → Int32 → Bool → fz_s → Prop
  | 0 => fun _ _ _ => False
  | n + 1 => nd_X12_qSums_15  (lp_X12_qSums_15   Q n) Q
def wp_X12_qSums  (s : fz_s) (Q : fz_s → Prop) : Prop :=
  ∀ x1 : Int32, x1 = (s.1 196 105) → ∀ s2 : fz_s, s2 = si s 196 105 (s.1 196 103) → lp_X12_qSums_15   Q 2048 x1 true s2
set_option maxRecDepth 100000 in
set_option maxHeartbeats 4000000 in
theorem V_nd_X12_qSums_53 {g : fz_G} {l : Launch} {d : Nat} (hD : 6 ≤ d)   {K53 : Int32 → fz_s → Prop} {Q : fz_s → Prop} {v1 : Int32} {s : fz_s} (hK53 : ∀ {v1 : Int32} {s : fz_s}, K53 v1 s → fs_V g l m_X12_qSums d false 53 [.ref 196, .int v1, fz_J] [] s (rV Q)) (H : nd_X12_qSums_53  K53 Q v1 s) : fs_V g l m_X12_qSums d false 53 [.ref 196, .int v1, fz_J] [] s (rV Q) := by
  obtain ⟨d, rfl⟩ : ∃ e, d = e + 1 := ⟨d - 1, by omega⟩
  unfold nd_X12_qSums_53 at H
  refine fs_aload_n (k0 := 0) (i := 0) dd_X12_qSums_53 rfl rfl ?_
  refine fs_geti (ci := 12) (j := 5) dd_X12_qSums_54 fl_X12_252 ca_196 rfl (Or.inl rfl) ?_
  refine fs_if_ne (tgt := 78) dd_X12_qSums_57 (by decide) (fun hc => ?_) (fun hc => ?_)
  · replace H := H.1 hc
    refine fs_aload_n (k0 := 0) (i := 0) dd_X12_qSums_78 rfl rfl ?_
    refine fs_iload_n (k0 := 1) (i := 1) dd_X12_qSums_79 rfl rfl ?_
    refine fs_puti (ci := 12) (j := 105) dd_X12_qSums_80 fl_X12_347 (fun _ _ _ h => by cases h; rfl) ca_196 rfl (Or.inl rfl) ?_
    refine fs_tops (fun s1 hs1 => ?_)
    replace H := H s1 hs1
    exact fs_vret dd_X12_qSums_83 rfl H
  · replace H := H.2 hc
    refine fs_aload_n (k0 := 0) (i := 0) dd_X12_qSums_60 rfl rfl ?_
    refine fs_geti (ci := 12) (j := 103) dd_X12_qSums_61 fl_X12_341 ca_196 rfl (Or.inl rfl) ?_
    refine fs_aload_n (k0 := 0) (i := 0) dd_X12_qSums_64 rfl rfl ?_
    refine fs_geti (ci := 12) (j := 105) dd_X12_qSums_65 fl_X12_347 ca_196 rfl (Or.inl rfl) ?_
    refine fs_icmp_le (tgt := 78) dd_X12_qSums_68 (by decide) (fun hc => ?_) (fun hc => ?_)
    · replace H := H.1 hc
      refine fs_aload_n (k0 := 0) (i := 0) dd_X12_qSums_78 rfl rfl ?_
      refine fs_iload_n (k0 := 1) (i := 1) dd_X12_qSums_79 rfl rfl ?_
      refine fs_puti (ci := 12) (j := 105) dd_X12_qSums_80 fl_X12_347 (fun _ _ _ h => by cases h; rfl) ca_196 rfl (Or.inl rfl) ?_
      refine fs_tops (fun s2 hs2 => ?_)
      replace H := H s2 hs2
      exact fs_vret dd_X12_qSums_83 rfl H
    · replace H := H.2 hc
      refine fs_aload_n (k0 := 0) (i := 0) dd_X12_qSums_71 rfl rfl ?_
      refine fs_callV (y := m_X12_qDrops) (as := []) dd_X12_qSums_72 me_X12_qDrops lk_X12_614 in_X12_qDrops se_X12_qDrops ca_196 rfl rfl rfl (Nat.le_of_ble_eq_true rfl) (Nat.le_of_ble_eq_true rfl) rfl (V_X12_qDrops (by omega)  H) (k2_V fun s4 H => ?_)
      refine fs_goto (tgt := 53) dd_X12_qSums_75 (by decide) ?_
      refine fs_weak (ls2 := [.ref 196, .int v1, fz_J]) (fz_le_e (fz_le_e (fz_le_j fz_le_n))) ?_
      exact hK53 H
set_option maxRecDepth 100000 in
set_option maxHeartbeats 4000000 in
theorem V_lp_X12_qSums_53 {g : fz_G} {l : Launch} {d : Nat} (hD : 6 ≤ d)    {Q : fz_s → Prop}  (n : Nat) : ∀ {v1 : Int32} {s : fz_s}, lp_X12_qSums_53   Q n v1 s → fs_V g l m_X12_qSums d false 53 [.ref 196, .int v1, fz_J] [] s (rV Q) := by
  induction n with
  | zero => intro v1 s H; exact H.elim
  | succ n ih => intro v1 s H; exact V_nd_X12_qSums_53 hD  (fun H => ih H) H
set_option maxRecDepth 100000 in
set_option maxHeartbeats 4000000 in
theorem V_nd_X12_qSums_15 {g : fz_G} {l : Launch} {d : Nat} (hD : 6 ≤ d)   {K15 : Int32 → Bool → fz_s → Prop} {Q : fz_s → Prop} {v1 : Int32} {v2 : Bool} {s : fz_s} (hK15 : ∀ {v1 : Int32} {v2 : Bool} {s : fz_s}, K15 v1 v2 s → fs_V g l m_X12_qSums d false 15 [.ref 196, .int v1, .int (bi v2)] [] s (rV Q)) (H : nd_X12_qSums_15  K15 Q v1 v2 s) : fs_V g l m_X12_qSums d false 15 [.ref 196, .int v1, .int (bi v2)] [] s (rV Q) := by
  obtain ⟨d, rfl⟩ : ∃ e, d = e + 1 := ⟨d - 1, by omega⟩
  unfold nd_X12_qSums_15 at H
  refine fs_iload_n (k0 := 2) (i := 2) dd_X12_qSums_15 rfl rfl ?_
  refine fs_if_eq (tgt := 53) dd_X12_qSums_16 (by decide) (fun hc => ?_) (fun hc => ?_)
  · replace H := H.1 (bi_0 hc)
    refine fs_weak (ls2 := [.ref 196, .int v1, fz_J]) (fz_le_e (fz_le_e (fz_le_j fz_le_n))) ?_
    exact V_lp_X12_qSums_53 hD    2048 H
  · replace H := H.2 (bi_1 hc)
    refine fs_aload_n (k0 := 0) (i := 0) dd_X12_qSums_19 rfl rfl ?_
    refine fs_geti (ci := 12) (j := 5) dd_X12_qSums_20 fl_X12_252 ca_196 rfl (Or.inl rfl) ?_
    refine fs_if_ne (tgt := 53) dd_X12_qSums_23 (by decide) (fun hc => ?_) (fun hc => ?_)
    · replace H := H.1 hc
      refine fs_weak (ls2 := [.ref 196, .int v1, fz_J]) (fz_le_e (fz_le_e (fz_le_j fz_le_n))) ?_
      exact V_lp_X12_qSums_53 hD    2048 H
    · replace H := H.2 hc
      refine fs_aload_n (k0 := 0) (i := 0) dd_X12_qSums_26 rfl rfl ?_
      refine fs_callV (y := m_X12_qPartTold) (as := []) dd_X12_qSums_27 me_X12_qPartTold lk_X12_644 in_X12_qPartTold se_X12_qPartTold ca_196 rfl rfl rfl (Nat.le_of_ble_eq_true rfl) (Nat.le_of_ble_eq_true rfl) rfl (V_X12_qPartTold (by omega)  H) (k2_V fun s2 H => ?_)
      refine fs_aload_n (k0 := 0) (i := 0) dd_X12_qSums_30 rfl rfl ?_
      refine fs_geti (ci := 12) (j := 5) dd_X12_qSums_31 fl_X12_252 ca_196 rfl (Or.inl rfl) ?_
      refine fs_if_ne (tgt := 48) dd_X12_qSums_34 (by decide) (fun hc => ?_) (fun hc => ?_)
      · replace H := H.1 hc
        refine fs_iconst (n := 0) (v := 0) dd_X12_qSums_48 (by decide) ?_
        refine fs_istore_n (k0 := 2) (i := 2) dd_X12_qSums_49 rfl (by decide) ?_
        refine fs_goto (tgt := 15) dd_X12_qSums_50 (by decide) ?_
        refine fs_weak (ls2 := [.ref 196, .int v1, .int (bi false)]) (fz_le_e (fz_le_e (fz_le_e fz_le_n))) ?_
        exact hK15 H
      · replace H := H.2 hc
        refine fs_aload_n (k0 := 0) (i := 0) dd_X12_qSums_37 rfl rfl ?_
        refine fs_callV (y := m_X12_qGoesOn) (as := []) dd_X12_qSums_38 me_X12_qGoesOn lk_X12_647 in_X12_qGoesOn se_X12_qGoesOn ca_196 rfl rfl rfl (Nat.le_of_ble_eq_true rfl) (Nat.le_of_ble_eq_true rfl) rfl (V_X12_qGoesOn (by omega)  H) (k2_Z fun r3 s4 H => ?_)
        refine fs_if_eq (tgt := 48) dd_X12_qSums_41 (by decide) (fun hc => ?_) (fun hc => ?_)
        · replace H := H.1 (bi_0 hc)
          refine fs_iconst (n := 0) (v := 0) dd_X12_qSums_48 (by decide) ?_
          refine fs_istore_n (k0 := 2) (i := 2) dd_X12_qSums_49 rfl (by decide) ?_
          refine fs_goto (tgt := 15) dd_X12_qSums_50 (by decide) ?_
          refine fs_weak (ls2 := [.ref 196, .int v1, .int (bi false)]) (fz_le_e (fz_le_e (fz_le_e fz_le_n))) ?_
          exact hK15 H
        · replace H := H.2 (bi_1 hc)
          refine fs_iconst (n := 1) (v := 1) dd_X12_qSums_44 (by decide) ?_
          refine fs_goto (tgt := 49) dd_X12_qSums_45 (by decide) ?_
          refine fs_istore_n (k0 := 2) (i := 2) dd_X12_qSums_49 rfl (by decide) ?_
          refine fs_goto (tgt := 15) dd_X12_qSums_50 (by decide) ?_
          refine fs_weak (ls2 := [.ref 196, .int v1, .int (bi true)]) (fz_le_e (fz_le_e (fz_le_e fz_le_n))) ?_
          exact hK15 H
set_option maxRecDepth 100000 in
set_option maxHeartbeats 4000000 in
theorem V_lp_X12_qSums_15 {g : fz_G} {l : Launch} {d : Nat} (hD : 6 ≤ d)    {Q : fz_s → Prop}  (n : Nat) : ∀ {v1 : Int32} {v2 : Bool} {s : fz_s}, lp_X12_qSums_15   Q n v1 v2 s → fs_V g l m_X12_qSums d false 15 [.ref 196, .int v1, .int (bi v2)] [] s (rV Q) := by
  induction n with
  | zero => intro v1 v2 s H; exact H.elim
  | succ n ih => intro v1 v2 s H; exact V_nd_X12_qSums_15 hD  (fun H => ih H) H
set_option maxRecDepth 100000 in
set_option maxHeartbeats 4000000 in
theorem V_X12_qSums {g : fz_G} {l : Launch} {d : Nat} (hD : 6 ≤ d)   {s : fz_s} {Q : fz_s → Prop} (H : wp_X12_qSums  s Q) : fs_V g l m_X12_qSums d false 0 (fz_en [.ref 196] 3) [] s (rV Q) := by
  obtain ⟨d, rfl⟩ : ∃ e, d = e + 1 := ⟨d - 1, by omega⟩
  unfold wp_X12_qSums at H
  refine fs_aload_n (k0 := 0) (i := 0) dd_X12_qSums_0 rfl rfl ?_
  refine fs_geti (ci := 12) (j := 105) dd_X12_qSums_1 fl_X12_347 ca_196 rfl (Or.inl rfl) ?_
  refine fs_topi (fun x1 hx1 => ?_)
  replace H := H x1 hx1
  refine fs_istore_n (k0 := 1) (i := 1) dd_X12_qSums_4 rfl (by decide) ?_
  refine fs_aload_n (k0 := 0) (i := 0) dd_X12_qSums_5 rfl rfl ?_
  refine fs_aload_n (k0 := 0) (i := 0) dd_X12_qSums_6 rfl rfl ?_
  refine fs_geti (ci := 12) (j := 103) dd_X12_qSums_7 fl_X12_341 ca_196 rfl (Or.inl rfl) ?_
  refine fs_puti (ci := 12) (j := 105) dd_X12_qSums_10 fl_X12_347 (fun _ _ _ h => by cases h; rfl) ca_196 rfl (Or.inl rfl) ?_
  refine fs_tops (fun s2 hs2 => ?_)
  replace H := H s2 hs2
  refine fs_iconst (n := 1) (v := 1) dd_X12_qSums_13 (by decide) ?_
  refine fs_istore_n (k0 := 2) (i := 2) dd_X12_qSums_14 rfl (by decide) ?_
  refine fs_weak (ls2 := [.ref 196, .int x1, .int (bi true)]) (fz_le_e (fz_le_e (fz_le_e fz_le_n))) ?_
  exact V_lp_X12_qSums_15 hD    2048 H
theorem dd_X12_qFact_0 : decode m_X12_qFact.2.1 0 = .ok (.aload_n 0, 1) := by decide +kernel
theorem dd_X12_qFact_1 : decode m_X12_qFact.2.1 1 = .ok (.aload_n 0, 1) := by decide +kernel
theorem dd_X12_qFact_2 : decode m_X12_qFact.2.1 2 = .ok (.getfield 189, 3) := by decide +kernel
theorem dd_X12_qFact_5 : decode m_X12_qFact.2.1 5 = .ok (.invokevirtual 279, 3) := by decide +kernel
theorem dd_X12_qFact_8 : decode m_X12_qFact.2.1 8 = .ok (.ifCond .eq 10, 3) := by decide +kernel
theorem dd_X12_qFact_11 : decode m_X12_qFact.2.1 11 = .ok (.aload_n 0, 1) := by decide +kernel
theorem dd_X12_qFact_12 : decode m_X12_qFact.2.1 12 = .ok (.bipush 13, 2) := by decide +kernel
theorem dd_X12_qFact_14 : decode m_X12_qFact.2.1 14 = .ok (.invokevirtual 608, 3) := by decide +kernel
theorem dd_X12_qFact_17 : decode m_X12_qFact.2.1 17 = .ok (.return_, 1) := by decide +kernel
theorem dd_X12_qFact_18 : decode m_X12_qFact.2.1 18 = .ok (.aload_n 0, 1) := by decide +kernel
theorem dd_X12_qFact_19 : decode m_X12_qFact.2.1 19 = .ok (.invokevirtual 356, 3) := by decide +kernel
theorem dd_X12_qFact_22 : decode m_X12_qFact.2.1 22 = .ok (.aload_n 0, 1) := by decide +kernel
theorem dd_X12_qFact_23 : decode m_X12_qFact.2.1 23 = .ok (.getfield 252, 3) := by decide +kernel
theorem dd_X12_qFact_26 : decode m_X12_qFact.2.1 26 = .ok (.ifCond .eq 4, 3) := by decide +kernel
theorem dd_X12_qFact_29 : decode m_X12_qFact.2.1 29 = .ok (.return_, 1) := by decide +kernel
theorem dd_X12_qFact_30 : decode m_X12_qFact.2.1 30 = .ok (.aload_n 0, 1) := by decide +kernel
theorem dd_X12_qFact_31 : decode m_X12_qFact.2.1 31 = .ok (.invokevirtual 264, 3) := by decide +kernel
theorem dd_X12_qFact_34 : decode m_X12_qFact.2.1 34 = .ok (.istore_n 1, 1) := by decide +kernel
theorem dd_X12_qFact_35 : decode m_X12_qFact.2.1 35 = .ok (.iload_n 1, 1) := by decide +kernel
theorem dd_X12_qFact_36 : decode m_X12_qFact.2.1 36 = .ok (.bipush 60, 2) := by decide +kernel
theorem dd_X12_qFact_38 : decode m_X12_qFact.2.1 38 = .ok (.if_icmp .eq 25, 3) := by decide +kernel
theorem dd_X12_qFact_41 : decode m_X12_qFact.2.1 41 = .ok (.iload_n 1, 1) := by decide +kernel
theorem dd_X12_qFact_42 : decode m_X12_qFact.2.1 42 = .ok (.bipush 62, 2) := by decide +kernel
theorem dd_X12_qFact_44 : decode m_X12_qFact.2.1 44 = .ok (.if_icmp .eq 19, 3) := by decide +kernel
theorem dd_X12_qFact_47 : decode m_X12_qFact.2.1 47 = .ok (.iload_n 1, 1) := by decide +kernel
theorem dd_X12_qFact_48 : decode m_X12_qFact.2.1 48 = .ok (.bipush 61, 2) := by decide +kernel
theorem dd_X12_qFact_50 : decode m_X12_qFact.2.1 50 = .ok (.if_icmp .eq 13, 3) := by decide +kernel
theorem dd_X12_qFact_53 : decode m_X12_qFact.2.1 53 = .ok (.aload_n 0, 1) := by decide +kernel
theorem dd_X12_qFact_54 : decode m_X12_qFact.2.1 54 = .ok (.iconst 1, 1) := by decide +kernel
theorem dd_X12_qFact_55 : decode m_X12_qFact.2.1 55 = .ok (.aload_n 0, 1) := by decide +kernel
theorem dd_X12_qFact_56 : decode m_X12_qFact.2.1 56 = .ok (.getfield 258, 3) := by decide +kernel
theorem dd_X12_qFact_59 : decode m_X12_qFact.2.1 59 = .ok (.invokevirtual 282, 3) := by decide +kernel
theorem dd_X12_qFact_62 : decode m_X12_qFact.2.1 62 = .ok (.return_, 1) := by decide +kernel
theorem dd_X12_qFact_63 : decode m_X12_qFact.2.1 63 = .ok (.aload_n 0, 1) := by decide +kernel
theorem dd_X12_qFact_64 : decode m_X12_qFact.2.1 64 = .ok (.dup, 1) := by decide +kernel
theorem dd_X12_qFact_65 : decode m_X12_qFact.2.1 65 = .ok (.getfield 258, 3) := by decide +kernel
theorem dd_X12_qFact_68 : decode m_X12_qFact.2.1 68 = .ok (.iconst 1, 1) := by decide +kernel
theorem dd_X12_qFact_69 : decode m_X12_qFact.2.1 69 = .ok (.iadd, 1) := by decide +kernel
theorem dd_X12_qFact_70 : decode m_X12_qFact.2.1 70 = .ok (.putfield 258, 3) := by decide +kernel
theorem dd_X12_qFact_73 : decode m_X12_qFact.2.1 73 = .ok (.aload_n 0, 1) := by decide +kernel
theorem dd_X12_qFact_74 : decode m_X12_qFact.2.1 74 = .ok (.invokevirtual 356, 3) := by decide +kernel
theorem dd_X12_qFact_77 : decode m_X12_qFact.2.1 77 = .ok (.aload_n 0, 1) := by decide +kernel
theorem dd_X12_qFact_78 : decode m_X12_qFact.2.1 78 = .ok (.iload_n 1, 1) := by decide +kernel
theorem dd_X12_qFact_79 : decode m_X12_qFact.2.1 79 = .ok (.bipush 60, 2) := by decide +kernel
theorem dd_X12_qFact_81 : decode m_X12_qFact.2.1 81 = .ok (.if_icmp .ne 8, 3) := by decide +kernel
theorem dd_X12_qFact_84 : decode m_X12_qFact.2.1 84 = .ok (.bipush 7, 2) := by decide +kernel
theorem dd_X12_qFact_86 : decode m_X12_qFact.2.1 86 = .ok (.goto 16, 3) := by decide +kernel
theorem dd_X12_qFact_89 : decode m_X12_qFact.2.1 89 = .ok (.iload_n 1, 1) := by decide +kernel
theorem dd_X12_qFact_90 : decode m_X12_qFact.2.1 90 = .ok (.bipush 62, 2) := by decide +kernel
theorem dd_X12_qFact_92 : decode m_X12_qFact.2.1 92 = .ok (.if_icmp .ne 8, 3) := by decide +kernel
theorem dd_X12_qFact_95 : decode m_X12_qFact.2.1 95 = .ok (.bipush 8, 2) := by decide +kernel
theorem dd_X12_qFact_97 : decode m_X12_qFact.2.1 97 = .ok (.goto 5, 3) := by decide +kernel
theorem dd_X12_qFact_100 : decode m_X12_qFact.2.1 100 = .ok (.bipush 9, 2) := by decide +kernel
theorem dd_X12_qFact_102 : decode m_X12_qFact.2.1 102 = .ok (.invokevirtual 608, 3) := by decide +kernel
theorem dd_X12_qFact_105 : decode m_X12_qFact.2.1 105 = .ok (.return_, 1) := by decide +kernel
def nd_X12_qFact_102   (Q : fz_s → Prop) (u0 : Int32) (s : fz_s) : Prop :=
  wp_X12_qCode u0 s (fun s2 => Q s2)
def nd_X12_qFact_63   (Q : fz_s → Prop) (v1 : Int32) (s : fz_s) : Prop :=
  ∀ s1 : fz_s, s1 = si s 196 2 ((s.1 196 2) + 1) → wp_X12_qSums  s1 (fun s3 => ((¬ v1 = 60 → ((¬ v1 = 62 → nd_X12_qFact_102   Q 9 s3) ∧ (v1 = 62 → nd_X12_qFact_102   Q 8 s3))) ∧ (v1 = 60 → nd_X12_qFact_102   Q 7 s3)))
def wp_X12_qFact  (s : fz_s) (Q : fz_s → Prop) : Prop :=
  wp_X12_takes 253 3 s (fun r1 s2 => ((r1 = false → wp_X12_qSums  s2 (fun s4 => (((s4.1 196 5) = 0 → wp_X12_look  s4 (fun r5 s6 => ((r5 = 60 → nd_X12_qFact_63   Q r5 s6) ∧ (¬ r5 = 60 → ((r5 = 62 → nd_X12_qFact_63   Q r5 s6) ∧ (¬ r5 = 62 → ((r5 = 61 → nd_X12_qFact_63   Q r5 s6) ∧ (¬ r5 = 61 → wp_X12_fail 1 (s6.1 196 2) s6 (fun s8 => Q s8))))))))) ∧ (¬ (s4.1 196 5) = 0 → Q s4)))) ∧ (r1 = true → wp_X12_qCode 13 s2 (fun s10 => Q s10))))
set_option maxRecDepth 100000 in
set_option maxHeartbeats 4000000 in
theorem V_nd_X12_qFact_102 {g : fz_G} {l : Launch} {d : Nat} (hD : 7 ≤ d)    {Q : fz_s → Prop} {u0 : Int32} {s : fz_s}  (H : nd_X12_qFact_102   Q u0 s) : fs_V g l m_X12_qFact d false 102 [fz_J, fz_J] [.int u0, .ref 196] s (rV Q) := by
  obtain ⟨d, rfl⟩ : ∃ e, d = e + 1 := ⟨d - 1, by omega⟩
  unfold nd_X12_qFact_102 at H
  refine fs_callV (y := m_X12_qCode) (as := [.int u0]) dd_X12_qFact_102 me_X12_qCode lk_X12_608 in_X12_qCode se_X12_qCode ca_196 rfl rfl rfl (Nat.le_of_ble_eq_true rfl) (Nat.le_of_ble_eq_true rfl) rfl (V_X12_qCode (by omega)  H) (k2_V fun s2 H => ?_)
  exact fs_vret dd_X12_qFact_105 rfl H
set_option maxRecDepth 100000 in
set_option maxHeartbeats 4000000 in
theorem V_nd_X12_qFact_63 {g : fz_G} {l : Launch} {d : Nat} (hD : 7 ≤ d)    {Q : fz_s → Prop} {v1 : Int32} {s : fz_s}  (H : nd_X12_qFact_63   Q v1 s) : fs_V g l m_X12_qFact d false 63 [.ref 196, .int v1] [] s (rV Q) := by
  obtain ⟨d, rfl⟩ : ∃ e, d = e + 1 := ⟨d - 1, by omega⟩
  unfold nd_X12_qFact_63 at H
  refine fs_aload_n (k0 := 0) (i := 0) dd_X12_qFact_63 rfl rfl ?_
  refine fs_dup dd_X12_qFact_64 rfl ?_
  refine fs_geti (ci := 12) (j := 2) dd_X12_qFact_65 fl_X12_258 ca_196 rfl (Or.inl rfl) ?_
  refine fs_iconst (n := 1) (v := 1) dd_X12_qFact_68 (by decide) ?_
  refine fs_iadd dd_X12_qFact_69 ?_
  refine fs_puti (ci := 12) (j := 2) dd_X12_qFact_70 fl_X12_258 (fun _ _ _ h => by cases h; rfl) ca_196 rfl (Or.inl rfl) ?_
  refine fs_tops (fun s1 hs1 => ?_)
  replace H := H s1 hs1
  refine fs_aload_n (k0 := 0) (i := 0) dd_X12_qFact_73 rfl rfl ?_
  refine fs_callV (y := m_X12_qSums) (as := []) dd_X12_qFact_74 me_X12_qSums lk_X12_356 in_X12_qSums se_X12_qSums ca_196 rfl rfl rfl (Nat.le_of_ble_eq_true rfl) (Nat.le_of_ble_eq_true rfl) rfl (V_X12_qSums (by omega)  H) (k2_V fun s3 H => ?_)
  refine fs_aload_n (k0 := 0) (i := 0) dd_X12_qFact_77 rfl rfl ?_
  refine fs_iload_n (k0 := 1) (i := 1) dd_X12_qFact_78 rfl rfl ?_
  refine fs_bipush (n := 60) (v := 60) dd_X12_qFact_79 (by decide) ?_
  refine fs_icmp_ne (tgt := 89) dd_X12_qFact_81 (by decide) (fun hc => ?_) (fun hc => ?_)
  · replace H := H.1 hc
    refine fs_iload_n (k0 := 1) (i := 1) dd_X12_qFact_89 rfl rfl ?_
    refine fs_bipush (n := 62) (v := 62) dd_X12_qFact_90 (by decide) ?_
    refine fs_icmp_ne (tgt := 100) dd_X12_qFact_92 (by decide) (fun hc => ?_) (fun hc => ?_)
    · replace H := H.1 hc
      refine fs_bipush (n := 9) (v := 9) dd_X12_qFact_100 (by decide) ?_
      refine fs_weak (ls2 := [fz_J, fz_J]) (fz_le_j (fz_le_j fz_le_n)) ?_
      exact V_nd_X12_qFact_102 hD    H
    · replace H := H.2 hc
      refine fs_bipush (n := 8) (v := 8) dd_X12_qFact_95 (by decide) ?_
      refine fs_goto (tgt := 102) dd_X12_qFact_97 (by decide) ?_
      refine fs_weak (ls2 := [fz_J, fz_J]) (fz_le_j (fz_le_j fz_le_n)) ?_
      exact V_nd_X12_qFact_102 hD    H
  · replace H := H.2 hc
    refine fs_bipush (n := 7) (v := 7) dd_X12_qFact_84 (by decide) ?_
    refine fs_goto (tgt := 102) dd_X12_qFact_86 (by decide) ?_
    refine fs_weak (ls2 := [fz_J, fz_J]) (fz_le_j (fz_le_j fz_le_n)) ?_
    exact V_nd_X12_qFact_102 hD    H
set_option maxRecDepth 100000 in
set_option maxHeartbeats 4000000 in
theorem V_X12_qFact {g : fz_G} {l : Launch} {d : Nat} (hD : 7 ≤ d)   {s : fz_s} {Q : fz_s → Prop} (H : wp_X12_qFact  s Q) : fs_V g l m_X12_qFact d false 0 (fz_en [.ref 196] 2) [] s (rV Q) := by
  obtain ⟨d, rfl⟩ : ∃ e, d = e + 1 := ⟨d - 1, by omega⟩
  unfold wp_X12_qFact at H
  refine fs_aload_n (k0 := 0) (i := 0) dd_X12_qFact_0 rfl rfl ?_
  refine fs_aload_n (k0 := 0) (i := 0) dd_X12_qFact_1 rfl rfl ?_
  refine fs_getr (ci := 12) (j := 84) (q := 253) dd_X12_qFact_2 fl_X12_189 ca_196 rfl (Or.inr ⟨_, rfl⟩) rfl (by decide) ?_
  refine fs_callV (y := m_X12_takes) (as := [.ref 253]) dd_X12_qFact_5 me_X12_takes lk_X12_279 in_X12_takes se_X12_takes ca_196 rfl rfl rfl (Nat.le_of_ble_eq_true rfl) (Nat.le_of_ble_eq_true rfl) rfl (V_X12_takes (by omega) ca_253 H) (k2_Z fun r1 s2 H => ?_)
  refine fs_if_eq (tgt := 18) dd_X12_qFact_8 (by decide) (fun hc => ?_) (fun hc => ?_)
  · replace H := H.1 (bi_0 hc)
    refine fs_aload_n (k0 := 0) (i := 0) dd_X12_qFact_18 rfl rfl ?_
    refine fs_callV (y := m_X12_qSums) (as := []) dd_X12_qFact_19 me_X12_qSums lk_X12_356 in_X12_qSums se_X12_qSums ca_196 rfl rfl rfl (Nat.le_of_ble_eq_true rfl) (Nat.le_of_ble_eq_true rfl) rfl (V_X12_qSums (by omega)  H) (k2_V fun s4 H => ?_)
    refine fs_aload_n (k0 := 0) (i := 0) dd_X12_qFact_22 rfl rfl ?_
    refine fs_geti (ci := 12) (j := 5) dd_X12_qFact_23 fl_X12_252 ca_196 rfl (Or.inl rfl) ?_
    refine fs_if_eq (tgt := 30) dd_X12_qFact_26 (by decide) (fun hc => ?_) (fun hc => ?_)
    · replace H := H.1 hc
      refine fs_aload_n (k0 := 0) (i := 0) dd_X12_qFact_30 rfl rfl ?_
      refine fs_callV (y := m_X12_look) (as := []) dd_X12_qFact_31 me_X12_look lk_X12_264 in_X12_look se_X12_look ca_196 rfl rfl rfl (Nat.le_of_ble_eq_true rfl) (Nat.le_of_ble_eq_true rfl) rfl (V_X12_look (by omega)  H) (k2_I fun r5 s6 H => ?_)
      refine fs_istore_n (k0 := 1) (i := 1) dd_X12_qFact_34 rfl (by decide) ?_
      refine fs_iload_n (k0 := 1) (i := 1) dd_X12_qFact_35 rfl rfl ?_
      refine fs_bipush (n := 60) (v := 60) dd_X12_qFact_36 (by decide) ?_
      refine fs_icmp_eq (tgt := 63) dd_X12_qFact_38 (by decide) (fun hc => ?_) (fun hc => ?_)
      · replace H := H.1 hc
        refine fs_weak (ls2 := [.ref 196, .int r5]) (fz_le_e (fz_le_e fz_le_n)) ?_
        exact V_nd_X12_qFact_63 hD    H
      · replace H := H.2 hc
        refine fs_iload_n (k0 := 1) (i := 1) dd_X12_qFact_41 rfl rfl ?_
        refine fs_bipush (n := 62) (v := 62) dd_X12_qFact_42 (by decide) ?_
        refine fs_icmp_eq (tgt := 63) dd_X12_qFact_44 (by decide) (fun hc => ?_) (fun hc => ?_)
        · replace H := H.1 hc
          refine fs_weak (ls2 := [.ref 196, .int r5]) (fz_le_e (fz_le_e fz_le_n)) ?_
          exact V_nd_X12_qFact_63 hD    H
        · replace H := H.2 hc
          refine fs_iload_n (k0 := 1) (i := 1) dd_X12_qFact_47 rfl rfl ?_
          refine fs_bipush (n := 61) (v := 61) dd_X12_qFact_48 (by decide) ?_
          refine fs_icmp_eq (tgt := 63) dd_X12_qFact_50 (by decide) (fun hc => ?_) (fun hc => ?_)
          · replace H := H.1 hc
            refine fs_weak (ls2 := [.ref 196, .int r5]) (fz_le_e (fz_le_e fz_le_n)) ?_
            exact V_nd_X12_qFact_63 hD    H
          · replace H := H.2 hc
            refine fs_aload_n (k0 := 0) (i := 0) dd_X12_qFact_53 rfl rfl ?_
            refine fs_iconst (n := 1) (v := 1) dd_X12_qFact_54 (by decide) ?_
            refine fs_aload_n (k0 := 0) (i := 0) dd_X12_qFact_55 rfl rfl ?_
            refine fs_geti (ci := 12) (j := 2) dd_X12_qFact_56 fl_X12_258 ca_196 rfl (Or.inl rfl) ?_
            refine fs_callV (y := m_X12_fail) (as := [.int 1, .int (s6.1 196 2)]) dd_X12_qFact_59 me_X12_fail lk_X12_282 in_X12_fail se_X12_fail ca_196 rfl rfl rfl (Nat.le_of_ble_eq_true rfl) (Nat.le_of_ble_eq_true rfl) rfl (V_X12_fail (by omega)  H) (k2_V fun s8 H => ?_)
            exact fs_vret dd_X12_qFact_62 rfl H
    · replace H := H.2 hc
      exact fs_vret dd_X12_qFact_29 rfl H
  · replace H := H.2 (bi_1 hc)
    refine fs_aload_n (k0 := 0) (i := 0) dd_X12_qFact_11 rfl rfl ?_
    refine fs_bipush (n := 13) (v := 13) dd_X12_qFact_12 (by decide) ?_
    refine fs_callV (y := m_X12_qCode) (as := [.int 13]) dd_X12_qFact_14 me_X12_qCode lk_X12_608 in_X12_qCode se_X12_qCode ca_196 rfl rfl rfl (Nat.le_of_ble_eq_true rfl) (Nat.le_of_ble_eq_true rfl) rfl (V_X12_qCode (by omega)  H) (k2_V fun s10 H => ?_)
    exact fs_vret dd_X12_qFact_17 rfl H
theorem dd_X12_qDropsNots_0 : decode m_X12_qDropsNots.2.1 0 = .ok (.aload_n 0, 1) := by decide +kernel
theorem dd_X12_qDropsNots_1 : decode m_X12_qDropsNots.2.1 1 = .ok (.getfield 252, 3) := by decide +kernel
theorem dd_X12_qDropsNots_4 : decode m_X12_qDropsNots.2.1 4 = .ok (.ifCond .ne 29, 3) := by decide +kernel
theorem dd_X12_qDropsNots_7 : decode m_X12_qDropsNots.2.1 7 = .ok (.aload_n 0, 1) := by decide +kernel
theorem dd_X12_qDropsNots_8 : decode m_X12_qDropsNots.2.1 8 = .ok (.bipush 12, 2) := by decide +kernel
theorem dd_X12_qDropsNots_10 : decode m_X12_qDropsNots.2.1 10 = .ok (.invokevirtual 641, 3) := by decide +kernel
theorem dd_X12_qDropsNots_13 : decode m_X12_qDropsNots.2.1 13 = .ok (.ifCond .eq 20, 3) := by decide +kernel
theorem dd_X12_qDropsNots_16 : decode m_X12_qDropsNots.2.1 16 = .ok (.aload_n 0, 1) := by decide +kernel
theorem dd_X12_qDropsNots_17 : decode m_X12_qDropsNots.2.1 17 = .ok (.dup, 1) := by decide +kernel
theorem dd_X12_qDropsNots_18 : decode m_X12_qDropsNots.2.1 18 = .ok (.getfield 344, 3) := by decide +kernel
theorem dd_X12_qDropsNots_21 : decode m_X12_qDropsNots.2.1 21 = .ok (.iconst 1, 1) := by decide +kernel
theorem dd_X12_qDropsNots_22 : decode m_X12_qDropsNots.2.1 22 = .ok (.isub, 1) := by decide +kernel
theorem dd_X12_qDropsNots_23 : decode m_X12_qDropsNots.2.1 23 = .ok (.putfield 344, 3) := by decide +kernel
theorem dd_X12_qDropsNots_26 : decode m_X12_qDropsNots.2.1 26 = .ok (.aload_n 0, 1) := by decide +kernel
theorem dd_X12_qDropsNots_27 : decode m_X12_qDropsNots.2.1 27 = .ok (.invokevirtual 614, 3) := by decide +kernel
theorem dd_X12_qDropsNots_30 : decode m_X12_qDropsNots.2.1 30 = .ok (.goto (-30), 3) := by decide +kernel
theorem dd_X12_qDropsNots_33 : decode m_X12_qDropsNots.2.1 33 = .ok (.return_, 1) := by decide +kernel
def nd_X12_qDropsNots_0  (K0 : fz_s → Prop) (Q : fz_s → Prop)  (s : fz_s) : Prop :=
  ((¬ (s.1 196 5) = 0 → Q s) ∧ ((s.1 196 5) = 0 → wp_X12_qIsOn 12 s (fun r1 s2 => ((r1 = false → Q s2) ∧ (r1 = true → ∀ s3 : fz_s, s3 = si s2 196 104 ((s2.1 196 104) - 1) → wp_X12_qDrops  s3 (fun s5 => K0  s5))))))
def lp_X12_qDropsNots_0   (Q : fz_s → Prop) : Nat → fz_s → Prop
  | 0 => fun  _ => False
  | n + 1 => nd_X12_qDropsNots_0  (lp_X12_qDropsNots_0   Q n) Q
def wp_X12_qDropsNots  (s : fz_s) (Q : fz_s → Prop) : Prop :=
  lp_X12_qDropsNots_0   Q 2048  s
set_option maxRecDepth 100000 in
set_option maxHeartbeats 4000000 in
theorem V_nd_X12_qDropsNots_0 {g : fz_G} {l : Launch} {d : Nat} (hD : 2 ≤ d)   {K0 : fz_s → Prop} {Q : fz_s → Prop}  {s : fz_s} (hK0 : ∀ {s : fz_s}, K0 s → fs_V g l m_X12_qDropsNots d false 0 [.ref 196] [] s (rV Q)) (H : nd_X12_qDropsNots_0  K0 Q  s) : fs_V g l m_X12_qDropsNots d false 0 [.ref 196] [] s (rV Q) := by
  obtain ⟨d, rfl⟩ : ∃ e, d = e + 1 := ⟨d - 1, by omega⟩
  unfold nd_X12_qDropsNots_0 at H
  refine fs_aload_n (k0 := 0) (i := 0) dd_X12_qDropsNots_0 rfl rfl ?_
  refine fs_geti (ci := 12) (j := 5) dd_X12_qDropsNots_1 fl_X12_252 ca_196 rfl (Or.inl rfl) ?_
  refine fs_if_ne (tgt := 33) dd_X12_qDropsNots_4 (by decide) (fun hc => ?_) (fun hc => ?_)
  · replace H := H.1 hc
    exact fs_vret dd_X12_qDropsNots_33 rfl H
  · replace H := H.2 hc
    refine fs_aload_n (k0 := 0) (i := 0) dd_X12_qDropsNots_7 rfl rfl ?_
    refine fs_bipush (n := 12) (v := 12) dd_X12_qDropsNots_8 (by decide) ?_
    refine fs_callV (y := m_X12_qIsOn) (as := [.int 12]) dd_X12_qDropsNots_10 me_X12_qIsOn lk_X12_641 in_X12_qIsOn se_X12_qIsOn ca_196 rfl rfl rfl (Nat.le_of_ble_eq_true rfl) (Nat.le_of_ble_eq_true rfl) rfl (V_X12_qIsOn (by omega)  H) (k2_Z fun r1 s2 H => ?_)
    refine fs_if_eq (tgt := 33) dd_X12_qDropsNots_13 (by decide) (fun hc => ?_) (fun hc => ?_)
    · replace H := H.1 (bi_0 hc)
      exact fs_vret dd_X12_qDropsNots_33 rfl H
    · replace H := H.2 (bi_1 hc)
      refine fs_aload_n (k0 := 0) (i := 0) dd_X12_qDropsNots_16 rfl rfl ?_
      refine fs_dup dd_X12_qDropsNots_17 rfl ?_
      refine fs_geti (ci := 12) (j := 104) dd_X12_qDropsNots_18 fl_X12_344 ca_196 rfl (Or.inl rfl) ?_
      refine fs_iconst (n := 1) (v := 1) dd_X12_qDropsNots_21 (by decide) ?_
      refine fs_isub dd_X12_qDropsNots_22 ?_
      refine fs_puti (ci := 12) (j := 104) dd_X12_qDropsNots_23 fl_X12_344 (fun _ _ _ h => by cases h; rfl) ca_196 rfl (Or.inl rfl) ?_
      refine fs_tops (fun s3 hs3 => ?_)
      replace H := H s3 hs3
      refine fs_aload_n (k0 := 0) (i := 0) dd_X12_qDropsNots_26 rfl rfl ?_
      refine fs_callV (y := m_X12_qDrops) (as := []) dd_X12_qDropsNots_27 me_X12_qDrops lk_X12_614 in_X12_qDrops se_X12_qDrops ca_196 rfl rfl rfl (Nat.le_of_ble_eq_true rfl) (Nat.le_of_ble_eq_true rfl) rfl (V_X12_qDrops (by omega)  H) (k2_V fun s5 H => ?_)
      refine fs_goto (tgt := 0) dd_X12_qDropsNots_30 (by decide) ?_
      refine fs_weak (ls2 := [.ref 196]) (fz_le_e fz_le_n) ?_
      exact hK0 H
set_option maxRecDepth 100000 in
set_option maxHeartbeats 4000000 in
theorem V_lp_X12_qDropsNots_0 {g : fz_G} {l : Launch} {d : Nat} (hD : 2 ≤ d)    {Q : fz_s → Prop}  (n : Nat) : ∀ {s : fz_s}, lp_X12_qDropsNots_0   Q n  s → fs_V g l m_X12_qDropsNots d false 0 [.ref 196] [] s (rV Q) := by
  induction n with
  | zero => intro  s H; exact H.elim
  | succ n ih => intro  s H; exact V_nd_X12_qDropsNots_0 hD  (fun H => ih H) H
set_option maxRecDepth 100000 in
set_option maxHeartbeats 4000000 in
theorem V_X12_qDropsNots {g : fz_G} {l : Launch} {d : Nat} (hD : 2 ≤ d)   {s : fz_s} {Q : fz_s → Prop} (H : wp_X12_qDropsNots  s Q) : fs_V g l m_X12_qDropsNots d false 0 (fz_en [.ref 196] 1) [] s (rV Q) := by
  obtain ⟨d, rfl⟩ : ∃ e, d = e + 1 := ⟨d - 1, by omega⟩
  unfold wp_X12_qDropsNots at H
  refine fs_weak (ls2 := [.ref 196]) (fz_le_e fz_le_n) ?_
  exact V_lp_X12_qDropsNots_0 hD    2048 H
theorem dd_X12_qHasSquare_0 : decode m_X12_qHasSquare.2.1 0 = .ok (.iconst 0, 1) := by decide +kernel
theorem dd_X12_qHasSquare_1 : decode m_X12_qHasSquare.2.1 1 = .ok (.istore_n 1, 1) := by decide +kernel
theorem dd_X12_qHasSquare_2 : decode m_X12_qHasSquare.2.1 2 = .ok (.iload_n 1, 1) := by decide +kernel
theorem dd_X12_qHasSquare_3 : decode m_X12_qHasSquare.2.1 3 = .ok (.aload_n 0, 1) := by decide +kernel
theorem dd_X12_qHasSquare_4 : decode m_X12_qHasSquare.2.1 4 = .ok (.getfield 341, 3) := by decide +kernel
theorem dd_X12_qHasSquare_7 : decode m_X12_qHasSquare.2.1 7 = .ok (.if_icmp .ge 22, 3) := by decide +kernel
theorem dd_X12_qHasSquare_10 : decode m_X12_qHasSquare.2.1 10 = .ok (.aload_n 0, 1) := by decide +kernel
theorem dd_X12_qHasSquare_11 : decode m_X12_qHasSquare.2.1 11 = .ok (.getfield 240, 3) := by decide +kernel
theorem dd_X12_qHasSquare_14 : decode m_X12_qHasSquare.2.1 14 = .ok (.iload_n 1, 1) := by decide +kernel
theorem dd_X12_qHasSquare_15 : decode m_X12_qHasSquare.2.1 15 = .ok (.iaload, 1) := by decide +kernel
theorem dd_X12_qHasSquare_16 : decode m_X12_qHasSquare.2.1 16 = .ok (.bipush 25, 2) := by decide +kernel
theorem dd_X12_qHasSquare_18 : decode m_X12_qHasSquare.2.1 18 = .ok (.if_icmp .ne 5, 3) := by decide +kernel
theorem dd_X12_qHasSquare_21 : decode m_X12_qHasSquare.2.1 21 = .ok (.iconst 1, 1) := by decide +kernel
theorem dd_X12_qHasSquare_22 : decode m_X12_qHasSquare.2.1 22 = .ok (.ireturn, 1) := by decide +kernel
theorem dd_X12_qHasSquare_23 : decode m_X12_qHasSquare.2.1 23 = .ok (.iinc 1 1, 3) := by decide +kernel
theorem dd_X12_qHasSquare_26 : decode m_X12_qHasSquare.2.1 26 = .ok (.goto (-24), 3) := by decide +kernel
theorem dd_X12_qHasSquare_29 : decode m_X12_qHasSquare.2.1 29 = .ok (.iconst 0, 1) := by decide +kernel
theorem dd_X12_qHasSquare_30 : decode m_X12_qHasSquare.2.1 30 = .ok (.ireturn, 1) := by decide +kernel
def nd_X12_qHasSquare_2  (K2 : Int32 → fz_s → Prop) (Q : Bool → fz_s → Prop) (v1 : Int32) (s : fz_s) : Prop :=
  (((s.1 196 103) ≤ v1 → Q false s) ∧ (¬ (s.1 196 103) ≤ v1 → vp_in v1 1700 ∧ ((¬ (s.1 270 v1.toNatClampNeg) = 25 → ∀ x1 : Int32, x1 = v1 + 1 → K2 x1 s) ∧ ((s.1 270 v1.toNatClampNeg) = 25 → Q true s))))
def lp_X12_qHasSquare_2   (Q : Bool → fz_s → Prop) : Nat → Int32 → fz_s → Prop
  | 0 => fun _ _ => False
  | n + 1 => nd_X12_qHasSquare_2  (lp_X12_qHasSquare_2   Q n) Q
def wp_X12_qHasSquare  (s : fz_s) (Q : Bool → fz_s → Prop) : Prop :=
  lp_X12_qHasSquare_2   Q 2048 0 s
set_option maxRecDepth 100000 in
set_option maxHeartbeats 4000000 in
theorem V_nd_X12_qHasSquare_2 {g : fz_G} {l : Launch} {d : Nat} (hD : 0 ≤ d)   {K2 : Int32 → fz_s → Prop} {Q : Bool → fz_s → Prop} {v1 : Int32} {s : fz_s} (hK2 : ∀ {v1 : Int32} {s : fz_s}, K2 v1 s → fs_V g l m_X12_qHasSquare d false 2 [.ref 196, .int v1] [] s (rZ Q)) (H : nd_X12_qHasSquare_2  K2 Q v1 s) : fs_V g l m_X12_qHasSquare d false 2 [.ref 196, .int v1] [] s (rZ Q) := by
  unfold nd_X12_qHasSquare_2 at H
  refine fs_iload_n (k0 := 1) (i := 1) dd_X12_qHasSquare_2 rfl rfl ?_
  refine fs_aload_n (k0 := 0) (i := 0) dd_X12_qHasSquare_3 rfl rfl ?_
  refine fs_geti (ci := 12) (j := 103) dd_X12_qHasSquare_4 fl_X12_341 ca_196 rfl (Or.inl rfl) ?_
  refine fs_icmp_ge (tgt := 29) dd_X12_qHasSquare_7 (by decide) (fun hc => ?_) (fun hc => ?_)
  · replace H := H.1 hc
    refine fs_iconst (n := 0) (v := 0) dd_X12_qHasSquare_29 (by decide) ?_
    exact fs_zret false dd_X12_qHasSquare_30 rfl rfl H
  · replace H := H.2 hc
    refine fs_aload_n (k0 := 0) (i := 0) dd_X12_qHasSquare_10 rfl rfl ?_
    refine fs_getr (ci := 12) (j := 102) (q := 270) dd_X12_qHasSquare_11 fl_X12_240 ca_196 rfl (Or.inr ⟨_, rfl⟩) rfl (by decide) ?_
    refine fs_iload_n (k0 := 1) (i := 1) dd_X12_qHasSquare_14 rfl rfl ?_
    have hb := H.1
    replace H := H.2
    refine fs_iald dd_X12_qHasSquare_15 ca_270 hb ?_
    refine fs_bipush (n := 25) (v := 25) dd_X12_qHasSquare_16 (by decide) ?_
    refine fs_icmp_ne (tgt := 23) dd_X12_qHasSquare_18 (by decide) (fun hc => ?_) (fun hc => ?_)
    · replace H := H.1 hc
      refine fs_iincN (i := 1) (m := 1) (c := 1) dd_X12_qHasSquare_23 rfl (by decide) (by decide) (fun x1 hx1 => ?_)
      replace H := H x1 hx1
      refine fs_goto (tgt := 2) dd_X12_qHasSquare_26 (by decide) ?_
      refine fs_weak (ls2 := [.ref 196, .int x1]) (fz_le_e (fz_le_e fz_le_n)) ?_
      exact hK2 H
    · replace H := H.2 hc
      refine fs_iconst (n := 1) (v := 1) dd_X12_qHasSquare_21 (by decide) ?_
      exact fs_zret true dd_X12_qHasSquare_22 rfl rfl H
set_option maxRecDepth 100000 in
set_option maxHeartbeats 4000000 in
theorem V_lp_X12_qHasSquare_2 {g : fz_G} {l : Launch} {d : Nat} (hD : 0 ≤ d)    {Q : Bool → fz_s → Prop}  (n : Nat) : ∀ {v1 : Int32} {s : fz_s}, lp_X12_qHasSquare_2   Q n v1 s → fs_V g l m_X12_qHasSquare d false 2 [.ref 196, .int v1] [] s (rZ Q) := by
  induction n with
  | zero => intro v1 s H; exact H.elim
  | succ n ih => intro v1 s H; exact V_nd_X12_qHasSquare_2 hD  (fun H => ih H) H
set_option maxRecDepth 100000 in
set_option maxHeartbeats 4000000 in
theorem V_X12_qHasSquare {g : fz_G} {l : Launch} {d : Nat} (hD : 0 ≤ d)   {s : fz_s} {Q : Bool → fz_s → Prop} (H : wp_X12_qHasSquare  s Q) : fs_V g l m_X12_qHasSquare d false 0 (fz_en [.ref 196] 2) [] s (rZ Q) := by
  unfold wp_X12_qHasSquare at H
  refine fs_iconst (n := 0) (v := 0) dd_X12_qHasSquare_0 (by decide) ?_
  refine fs_istore_n (k0 := 1) (i := 1) dd_X12_qHasSquare_1 rfl (by decide) ?_
  refine fs_weak (ls2 := [.ref 196, .int 0]) (fz_le_e (fz_le_e fz_le_n)) ?_
  exact V_lp_X12_qHasSquare_2 hD    2048 H

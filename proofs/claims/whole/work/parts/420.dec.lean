theorem dd_X12_init_0 : decode m_X12_init.2.1 0 = .ok (.aload_n 0, 1) := by decide +kernel
theorem dd_X12_init_1 : decode m_X12_init.2.1 1 = .ok (.invokespecial 1, 3) := by decide +kernel
theorem dd_X12_init_4 : decode m_X12_init.2.1 4 = .ok (.aload_n 0, 1) := by decide +kernel
theorem dd_X12_init_5 : decode m_X12_init.2.1 5 = .ok (.sipush 1600, 3) := by decide +kernel
theorem dd_X12_init_8 : decode m_X12_init.2.1 8 = .ok (.newarray .int, 2) := by decide +kernel
theorem dd_X12_init_10 : decode m_X12_init.2.1 10 = .ok (.putfield 7, 3) := by decide +kernel
theorem dd_X12_init_13 : decode m_X12_init.2.1 13 = .ok (.aload_n 0, 1) := by decide +kernel
theorem dd_X12_init_14 : decode m_X12_init.2.1 14 = .ok (.iconst (-1), 1) := by decide +kernel
theorem dd_X12_init_15 : decode m_X12_init.2.1 15 = .ok (.putfield 13, 3) := by decide +kernel
theorem dd_X12_init_18 : decode m_X12_init.2.1 18 = .ok (.aload_n 0, 1) := by decide +kernel
theorem dd_X12_init_19 : decode m_X12_init.2.1 19 = .ok (.bipush 6, 2) := by decide +kernel
theorem dd_X12_init_21 : decode m_X12_init.2.1 21 = .ok (.newarray .int, 2) := by decide +kernel
theorem dd_X12_init_23 : decode m_X12_init.2.1 23 = .ok (.putfield 17, 3) := by decide +kernel
theorem dd_X12_init_26 : decode m_X12_init.2.1 26 = .ok (.aload_n 0, 1) := by decide +kernel
theorem dd_X12_init_27 : decode m_X12_init.2.1 27 = .ok (.bipush 7, 2) := by decide +kernel
theorem dd_X12_init_29 : decode m_X12_init.2.1 29 = .ok (.newarray .char, 2) := by decide +kernel
theorem dd_X12_init_31 : decode m_X12_init.2.1 31 = .ok (.dup, 1) := by decide +kernel
theorem dd_X12_init_32 : decode m_X12_init.2.1 32 = .ok (.iconst 0, 1) := by decide +kernel
theorem dd_X12_init_33 : decode m_X12_init.2.1 33 = .ok (.bipush 104, 2) := by decide +kernel
theorem dd_X12_init_35 : decode m_X12_init.2.1 35 = .ok (.castore, 1) := by decide +kernel
theorem dd_X12_init_36 : decode m_X12_init.2.1 36 = .ok (.dup, 1) := by decide +kernel
theorem dd_X12_init_37 : decode m_X12_init.2.1 37 = .ok (.iconst 1, 1) := by decide +kernel
theorem dd_X12_init_38 : decode m_X12_init.2.1 38 = .ok (.bipush 97, 2) := by decide +kernel
theorem dd_X12_init_40 : decode m_X12_init.2.1 40 = .ok (.castore, 1) := by decide +kernel
theorem dd_X12_init_41 : decode m_X12_init.2.1 41 = .ok (.dup, 1) := by decide +kernel
theorem dd_X12_init_42 : decode m_X12_init.2.1 42 = .ok (.iconst 2, 1) := by decide +kernel
theorem dd_X12_init_43 : decode m_X12_init.2.1 43 = .ok (.bipush 114, 2) := by decide +kernel
theorem dd_X12_init_45 : decode m_X12_init.2.1 45 = .ok (.castore, 1) := by decide +kernel
theorem dd_X12_init_46 : decode m_X12_init.2.1 46 = .ok (.dup, 1) := by decide +kernel
theorem dd_X12_init_47 : decode m_X12_init.2.1 47 = .ok (.iconst 3, 1) := by decide +kernel
theorem dd_X12_init_48 : decode m_X12_init.2.1 48 = .ok (.bipush 118, 2) := by decide +kernel
theorem dd_X12_init_50 : decode m_X12_init.2.1 50 = .ok (.castore, 1) := by decide +kernel
theorem dd_X12_init_51 : decode m_X12_init.2.1 51 = .ok (.dup, 1) := by decide +kernel
theorem dd_X12_init_52 : decode m_X12_init.2.1 52 = .ok (.iconst 4, 1) := by decide +kernel
theorem dd_X12_init_53 : decode m_X12_init.2.1 53 = .ok (.bipush 101, 2) := by decide +kernel
theorem dd_X12_init_55 : decode m_X12_init.2.1 55 = .ok (.castore, 1) := by decide +kernel
theorem dd_X12_init_56 : decode m_X12_init.2.1 56 = .ok (.dup, 1) := by decide +kernel
theorem dd_X12_init_57 : decode m_X12_init.2.1 57 = .ok (.iconst 5, 1) := by decide +kernel
theorem dd_X12_init_58 : decode m_X12_init.2.1 58 = .ok (.bipush 115, 2) := by decide +kernel
theorem dd_X12_init_60 : decode m_X12_init.2.1 60 = .ok (.castore, 1) := by decide +kernel
theorem dd_X12_init_61 : decode m_X12_init.2.1 61 = .ok (.dup, 1) := by decide +kernel
theorem dd_X12_init_62 : decode m_X12_init.2.1 62 = .ok (.bipush 6, 2) := by decide +kernel
theorem dd_X12_init_64 : decode m_X12_init.2.1 64 = .ok (.bipush 116, 2) := by decide +kernel
theorem dd_X12_init_66 : decode m_X12_init.2.1 66 = .ok (.castore, 1) := by decide +kernel
theorem dd_X12_init_67 : decode m_X12_init.2.1 67 = .ok (.putfield 20, 3) := by decide +kernel
theorem dd_X12_init_70 : decode m_X12_init.2.1 70 = .ok (.aload_n 0, 1) := by decide +kernel
theorem dd_X12_init_71 : decode m_X12_init.2.1 71 = .ok (.bipush 7, 2) := by decide +kernel
theorem dd_X12_init_73 : decode m_X12_init.2.1 73 = .ok (.newarray .char, 2) := by decide +kernel
theorem dd_X12_init_75 : decode m_X12_init.2.1 75 = .ok (.dup, 1) := by decide +kernel
theorem dd_X12_init_76 : decode m_X12_init.2.1 76 = .ok (.iconst 0, 1) := by decide +kernel
theorem dd_X12_init_77 : decode m_X12_init.2.1 77 = .ok (.bipush 113, 2) := by decide +kernel
theorem dd_X12_init_79 : decode m_X12_init.2.1 79 = .ok (.castore, 1) := by decide +kernel
theorem dd_X12_init_80 : decode m_X12_init.2.1 80 = .ok (.dup, 1) := by decide +kernel
theorem dd_X12_init_81 : decode m_X12_init.2.1 81 = .ok (.iconst 1, 1) := by decide +kernel
theorem dd_X12_init_82 : decode m_X12_init.2.1 82 = .ok (.bipush 117, 2) := by decide +kernel
theorem dd_X12_init_84 : decode m_X12_init.2.1 84 = .ok (.castore, 1) := by decide +kernel
theorem dd_X12_init_85 : decode m_X12_init.2.1 85 = .ok (.dup, 1) := by decide +kernel
theorem dd_X12_init_86 : decode m_X12_init.2.1 86 = .ok (.iconst 2, 1) := by decide +kernel
theorem dd_X12_init_87 : decode m_X12_init.2.1 87 = .ok (.bipush 97, 2) := by decide +kernel
theorem dd_X12_init_89 : decode m_X12_init.2.1 89 = .ok (.castore, 1) := by decide +kernel
theorem dd_X12_init_90 : decode m_X12_init.2.1 90 = .ok (.dup, 1) := by decide +kernel
theorem dd_X12_init_91 : decode m_X12_init.2.1 91 = .ok (.iconst 3, 1) := by decide +kernel
theorem dd_X12_init_92 : decode m_X12_init.2.1 92 = .ok (.bipush 114, 2) := by decide +kernel
theorem dd_X12_init_94 : decode m_X12_init.2.1 94 = .ok (.castore, 1) := by decide +kernel
theorem dd_X12_init_95 : decode m_X12_init.2.1 95 = .ok (.dup, 1) := by decide +kernel
theorem dd_X12_init_96 : decode m_X12_init.2.1 96 = .ok (.iconst 4, 1) := by decide +kernel
theorem dd_X12_init_97 : decode m_X12_init.2.1 97 = .ok (.bipush 114, 2) := by decide +kernel
theorem dd_X12_init_99 : decode m_X12_init.2.1 99 = .ok (.castore, 1) := by decide +kernel
theorem dd_X12_init_100 : decode m_X12_init.2.1 100 = .ok (.dup, 1) := by decide +kernel
theorem dd_X12_init_101 : decode m_X12_init.2.1 101 = .ok (.iconst 5, 1) := by decide +kernel
theorem dd_X12_init_102 : decode m_X12_init.2.1 102 = .ok (.bipush 101, 2) := by decide +kernel
theorem dd_X12_init_104 : decode m_X12_init.2.1 104 = .ok (.castore, 1) := by decide +kernel
theorem dd_X12_init_105 : decode m_X12_init.2.1 105 = .ok (.dup, 1) := by decide +kernel
theorem dd_X12_init_106 : decode m_X12_init.2.1 106 = .ok (.bipush 6, 2) := by decide +kernel
theorem dd_X12_init_108 : decode m_X12_init.2.1 108 = .ok (.bipush 108, 2) := by decide +kernel
theorem dd_X12_init_110 : decode m_X12_init.2.1 110 = .ok (.castore, 1) := by decide +kernel
theorem dd_X12_init_111 : decode m_X12_init.2.1 111 = .ok (.putfield 24, 3) := by decide +kernel
theorem dd_X12_init_114 : decode m_X12_init.2.1 114 = .ok (.aload_n 0, 1) := by decide +kernel
theorem dd_X12_init_115 : decode m_X12_init.2.1 115 = .ok (.bipush 7, 2) := by decide +kernel
theorem dd_X12_init_117 : decode m_X12_init.2.1 117 = .ok (.newarray .char, 2) := by decide +kernel
theorem dd_X12_init_119 : decode m_X12_init.2.1 119 = .ok (.dup, 1) := by decide +kernel
theorem dd_X12_init_120 : decode m_X12_init.2.1 120 = .ok (.iconst 0, 1) := by decide +kernel
theorem dd_X12_init_121 : decode m_X12_init.2.1 121 = .ok (.bipush 118, 2) := by decide +kernel
theorem dd_X12_init_123 : decode m_X12_init.2.1 123 = .ok (.castore, 1) := by decide +kernel
theorem dd_X12_init_124 : decode m_X12_init.2.1 124 = .ok (.dup, 1) := by decide +kernel
theorem dd_X12_init_125 : decode m_X12_init.2.1 125 = .ok (.iconst 1, 1) := by decide +kernel
theorem dd_X12_init_126 : decode m_X12_init.2.1 126 = .ok (.bipush 105, 2) := by decide +kernel
theorem dd_X12_init_128 : decode m_X12_init.2.1 128 = .ok (.castore, 1) := by decide +kernel
theorem dd_X12_init_129 : decode m_X12_init.2.1 129 = .ok (.dup, 1) := by decide +kernel
theorem dd_X12_init_130 : decode m_X12_init.2.1 130 = .ok (.iconst 2, 1) := by decide +kernel
theorem dd_X12_init_131 : decode m_X12_init.2.1 131 = .ok (.bipush 108, 2) := by decide +kernel
theorem dd_X12_init_133 : decode m_X12_init.2.1 133 = .ok (.castore, 1) := by decide +kernel
theorem dd_X12_init_134 : decode m_X12_init.2.1 134 = .ok (.dup, 1) := by decide +kernel
theorem dd_X12_init_135 : decode m_X12_init.2.1 135 = .ok (.iconst 3, 1) := by decide +kernel
theorem dd_X12_init_136 : decode m_X12_init.2.1 136 = .ok (.bipush 108, 2) := by decide +kernel
theorem dd_X12_init_138 : decode m_X12_init.2.1 138 = .ok (.castore, 1) := by decide +kernel
theorem dd_X12_init_139 : decode m_X12_init.2.1 139 = .ok (.dup, 1) := by decide +kernel
theorem dd_X12_init_140 : decode m_X12_init.2.1 140 = .ok (.iconst 4, 1) := by decide +kernel
theorem dd_X12_init_141 : decode m_X12_init.2.1 141 = .ok (.bipush 97, 2) := by decide +kernel
theorem dd_X12_init_143 : decode m_X12_init.2.1 143 = .ok (.castore, 1) := by decide +kernel
theorem dd_X12_init_144 : decode m_X12_init.2.1 144 = .ok (.dup, 1) := by decide +kernel
theorem dd_X12_init_145 : decode m_X12_init.2.1 145 = .ok (.iconst 5, 1) := by decide +kernel
theorem dd_X12_init_146 : decode m_X12_init.2.1 146 = .ok (.bipush 103, 2) := by decide +kernel
theorem dd_X12_init_148 : decode m_X12_init.2.1 148 = .ok (.castore, 1) := by decide +kernel
theorem dd_X12_init_149 : decode m_X12_init.2.1 149 = .ok (.dup, 1) := by decide +kernel
theorem dd_X12_init_150 : decode m_X12_init.2.1 150 = .ok (.bipush 6, 2) := by decide +kernel
theorem dd_X12_init_152 : decode m_X12_init.2.1 152 = .ok (.bipush 101, 2) := by decide +kernel
theorem dd_X12_init_154 : decode m_X12_init.2.1 154 = .ok (.castore, 1) := by decide +kernel
theorem dd_X12_init_155 : decode m_X12_init.2.1 155 = .ok (.putfield 27, 3) := by decide +kernel
theorem dd_X12_init_158 : decode m_X12_init.2.1 158 = .ok (.aload_n 0, 1) := by decide +kernel
theorem dd_X12_init_159 : decode m_X12_init.2.1 159 = .ok (.bipush 6, 2) := by decide +kernel
theorem dd_X12_init_161 : decode m_X12_init.2.1 161 = .ok (.newarray .char, 2) := by decide +kernel
theorem dd_X12_init_163 : decode m_X12_init.2.1 163 = .ok (.dup, 1) := by decide +kernel
theorem dd_X12_init_164 : decode m_X12_init.2.1 164 = .ok (.iconst 0, 1) := by decide +kernel
theorem dd_X12_init_165 : decode m_X12_init.2.1 165 = .ok (.bipush 112, 2) := by decide +kernel
theorem dd_X12_init_167 : decode m_X12_init.2.1 167 = .ok (.castore, 1) := by decide +kernel
theorem dd_X12_init_168 : decode m_X12_init.2.1 168 = .ok (.dup, 1) := by decide +kernel
theorem dd_X12_init_169 : decode m_X12_init.2.1 169 = .ok (.iconst 1, 1) := by decide +kernel
theorem dd_X12_init_170 : decode m_X12_init.2.1 170 = .ok (.bipush 101, 2) := by decide +kernel
theorem dd_X12_init_172 : decode m_X12_init.2.1 172 = .ok (.castore, 1) := by decide +kernel
theorem dd_X12_init_173 : decode m_X12_init.2.1 173 = .ok (.dup, 1) := by decide +kernel
theorem dd_X12_init_174 : decode m_X12_init.2.1 174 = .ok (.iconst 2, 1) := by decide +kernel
theorem dd_X12_init_175 : decode m_X12_init.2.1 175 = .ok (.bipush 114, 2) := by decide +kernel
theorem dd_X12_init_177 : decode m_X12_init.2.1 177 = .ok (.castore, 1) := by decide +kernel
theorem dd_X12_init_178 : decode m_X12_init.2.1 178 = .ok (.dup, 1) := by decide +kernel
theorem dd_X12_init_179 : decode m_X12_init.2.1 179 = .ok (.iconst 3, 1) := by decide +kernel
theorem dd_X12_init_180 : decode m_X12_init.2.1 180 = .ok (.bipush 115, 2) := by decide +kernel
theorem dd_X12_init_182 : decode m_X12_init.2.1 182 = .ok (.castore, 1) := by decide +kernel
theorem dd_X12_init_183 : decode m_X12_init.2.1 183 = .ok (.dup, 1) := by decide +kernel
theorem dd_X12_init_184 : decode m_X12_init.2.1 184 = .ok (.iconst 4, 1) := by decide +kernel
theorem dd_X12_init_185 : decode m_X12_init.2.1 185 = .ok (.bipush 111, 2) := by decide +kernel
theorem dd_X12_init_187 : decode m_X12_init.2.1 187 = .ok (.castore, 1) := by decide +kernel
theorem dd_X12_init_188 : decode m_X12_init.2.1 188 = .ok (.dup, 1) := by decide +kernel
theorem dd_X12_init_189 : decode m_X12_init.2.1 189 = .ok (.iconst 5, 1) := by decide +kernel
theorem dd_X12_init_190 : decode m_X12_init.2.1 190 = .ok (.bipush 110, 2) := by decide +kernel
theorem dd_X12_init_192 : decode m_X12_init.2.1 192 = .ok (.castore, 1) := by decide +kernel
theorem dd_X12_init_193 : decode m_X12_init.2.1 193 = .ok (.putfield 30, 3) := by decide +kernel
theorem dd_X12_init_196 : decode m_X12_init.2.1 196 = .ok (.aload_n 0, 1) := by decide +kernel
theorem dd_X12_init_197 : decode m_X12_init.2.1 197 = .ok (.iconst 2, 1) := by decide +kernel
theorem dd_X12_init_198 : decode m_X12_init.2.1 198 = .ok (.newarray .char, 2) := by decide +kernel
theorem dd_X12_init_200 : decode m_X12_init.2.1 200 = .ok (.dup, 1) := by decide +kernel
theorem dd_X12_init_201 : decode m_X12_init.2.1 201 = .ok (.iconst 0, 1) := by decide +kernel
theorem dd_X12_init_202 : decode m_X12_init.2.1 202 = .ok (.bipush 111, 2) := by decide +kernel
theorem dd_X12_init_204 : decode m_X12_init.2.1 204 = .ok (.castore, 1) := by decide +kernel
theorem dd_X12_init_205 : decode m_X12_init.2.1 205 = .ok (.dup, 1) := by decide +kernel
theorem dd_X12_init_206 : decode m_X12_init.2.1 206 = .ok (.iconst 1, 1) := by decide +kernel
theorem dd_X12_init_207 : decode m_X12_init.2.1 207 = .ok (.bipush 102, 2) := by decide +kernel
theorem dd_X12_init_209 : decode m_X12_init.2.1 209 = .ok (.castore, 1) := by decide +kernel
theorem dd_X12_init_210 : decode m_X12_init.2.1 210 = .ok (.putfield 33, 3) := by decide +kernel
theorem dd_X12_init_213 : decode m_X12_init.2.1 213 = .ok (.aload_n 0, 1) := by decide +kernel
theorem dd_X12_init_214 : decode m_X12_init.2.1 214 = .ok (.iconst 4, 1) := by decide +kernel
theorem dd_X12_init_215 : decode m_X12_init.2.1 215 = .ok (.newarray .char, 2) := by decide +kernel
theorem dd_X12_init_217 : decode m_X12_init.2.1 217 = .ok (.dup, 1) := by decide +kernel
theorem dd_X12_init_218 : decode m_X12_init.2.1 218 = .ok (.iconst 0, 1) := by decide +kernel
theorem dd_X12_init_219 : decode m_X12_init.2.1 219 = .ok (.bipush 119, 2) := by decide +kernel
theorem dd_X12_init_221 : decode m_X12_init.2.1 221 = .ok (.castore, 1) := by decide +kernel
theorem dd_X12_init_222 : decode m_X12_init.2.1 222 = .ok (.dup, 1) := by decide +kernel
theorem dd_X12_init_223 : decode m_X12_init.2.1 223 = .ok (.iconst 1, 1) := by decide +kernel
theorem dd_X12_init_224 : decode m_X12_init.2.1 224 = .ok (.bipush 105, 2) := by decide +kernel
theorem dd_X12_init_226 : decode m_X12_init.2.1 226 = .ok (.castore, 1) := by decide +kernel
theorem dd_X12_init_227 : decode m_X12_init.2.1 227 = .ok (.dup, 1) := by decide +kernel
theorem dd_X12_init_228 : decode m_X12_init.2.1 228 = .ok (.iconst 2, 1) := by decide +kernel
theorem dd_X12_init_229 : decode m_X12_init.2.1 229 = .ok (.bipush 116, 2) := by decide +kernel
theorem dd_X12_init_231 : decode m_X12_init.2.1 231 = .ok (.castore, 1) := by decide +kernel
theorem dd_X12_init_232 : decode m_X12_init.2.1 232 = .ok (.dup, 1) := by decide +kernel
theorem dd_X12_init_233 : decode m_X12_init.2.1 233 = .ok (.iconst 3, 1) := by decide +kernel
theorem dd_X12_init_234 : decode m_X12_init.2.1 234 = .ok (.bipush 115, 2) := by decide +kernel
theorem dd_X12_init_236 : decode m_X12_init.2.1 236 = .ok (.castore, 1) := by decide +kernel
theorem dd_X12_init_237 : decode m_X12_init.2.1 237 = .ok (.putfield 36, 3) := by decide +kernel
theorem dd_X12_init_240 : decode m_X12_init.2.1 240 = .ok (.aload_n 0, 1) := by decide +kernel
theorem dd_X12_init_241 : decode m_X12_init.2.1 241 = .ok (.iconst 4, 1) := by decide +kernel
theorem dd_X12_init_242 : decode m_X12_init.2.1 242 = .ok (.newarray .char, 2) := by decide +kernel
theorem dd_X12_init_244 : decode m_X12_init.2.1 244 = .ok (.dup, 1) := by decide +kernel
theorem dd_X12_init_245 : decode m_X12_init.2.1 245 = .ok (.iconst 0, 1) := by decide +kernel
theorem dd_X12_init_246 : decode m_X12_init.2.1 246 = .ok (.bipush 111, 2) := by decide +kernel
theorem dd_X12_init_248 : decode m_X12_init.2.1 248 = .ok (.castore, 1) := by decide +kernel
theorem dd_X12_init_249 : decode m_X12_init.2.1 249 = .ok (.dup, 1) := by decide +kernel
theorem dd_X12_init_250 : decode m_X12_init.2.1 250 = .ok (.iconst 1, 1) := by decide +kernel
theorem dd_X12_init_251 : decode m_X12_init.2.1 251 = .ok (.bipush 97, 2) := by decide +kernel
theorem dd_X12_init_253 : decode m_X12_init.2.1 253 = .ok (.castore, 1) := by decide +kernel
theorem dd_X12_init_254 : decode m_X12_init.2.1 254 = .ok (.dup, 1) := by decide +kernel
theorem dd_X12_init_255 : decode m_X12_init.2.1 255 = .ok (.iconst 2, 1) := by decide +kernel
theorem dd_X12_init_256 : decode m_X12_init.2.1 256 = .ok (.bipush 116, 2) := by decide +kernel
theorem dd_X12_init_258 : decode m_X12_init.2.1 258 = .ok (.castore, 1) := by decide +kernel
theorem dd_X12_init_259 : decode m_X12_init.2.1 259 = .ok (.dup, 1) := by decide +kernel
theorem dd_X12_init_260 : decode m_X12_init.2.1 260 = .ok (.iconst 3, 1) := by decide +kernel
theorem dd_X12_init_261 : decode m_X12_init.2.1 261 = .ok (.bipush 104, 2) := by decide +kernel
theorem dd_X12_init_263 : decode m_X12_init.2.1 263 = .ok (.castore, 1) := by decide +kernel
theorem dd_X12_init_264 : decode m_X12_init.2.1 264 = .ok (.putfield 39, 3) := by decide +kernel
theorem dd_X12_init_267 : decode m_X12_init.2.1 267 = .ok (.aload_n 0, 1) := by decide +kernel
theorem dd_X12_init_268 : decode m_X12_init.2.1 268 = .ok (.iconst 5, 1) := by decide +kernel
theorem dd_X12_init_269 : decode m_X12_init.2.1 269 = .ok (.newarray .char, 2) := by decide +kernel
theorem dd_X12_init_271 : decode m_X12_init.2.1 271 = .ok (.dup, 1) := by decide +kernel
theorem dd_X12_init_272 : decode m_X12_init.2.1 272 = .ok (.iconst 0, 1) := by decide +kernel
theorem dd_X12_init_273 : decode m_X12_init.2.1 273 = .ok (.bipush 99, 2) := by decide +kernel
theorem dd_X12_init_275 : decode m_X12_init.2.1 275 = .ok (.castore, 1) := by decide +kernel
theorem dd_X12_init_276 : decode m_X12_init.2.1 276 = .ok (.dup, 1) := by decide +kernel
theorem dd_X12_init_277 : decode m_X12_init.2.1 277 = .ok (.iconst 1, 1) := by decide +kernel
theorem dd_X12_init_278 : decode m_X12_init.2.1 278 = .ok (.bipush 104, 2) := by decide +kernel
theorem dd_X12_init_280 : decode m_X12_init.2.1 280 = .ok (.castore, 1) := by decide +kernel
theorem dd_X12_init_281 : decode m_X12_init.2.1 281 = .ok (.dup, 1) := by decide +kernel
theorem dd_X12_init_282 : decode m_X12_init.2.1 282 = .ok (.iconst 2, 1) := by decide +kernel
theorem dd_X12_init_283 : decode m_X12_init.2.1 283 = .ok (.bipush 101, 2) := by decide +kernel
theorem dd_X12_init_285 : decode m_X12_init.2.1 285 = .ok (.castore, 1) := by decide +kernel
theorem dd_X12_init_286 : decode m_X12_init.2.1 286 = .ok (.dup, 1) := by decide +kernel
theorem dd_X12_init_287 : decode m_X12_init.2.1 287 = .ok (.iconst 3, 1) := by decide +kernel
theorem dd_X12_init_288 : decode m_X12_init.2.1 288 = .ok (.bipush 101, 2) := by decide +kernel
theorem dd_X12_init_290 : decode m_X12_init.2.1 290 = .ok (.castore, 1) := by decide +kernel
theorem dd_X12_init_291 : decode m_X12_init.2.1 291 = .ok (.dup, 1) := by decide +kernel
theorem dd_X12_init_292 : decode m_X12_init.2.1 292 = .ok (.iconst 4, 1) := by decide +kernel
theorem dd_X12_init_293 : decode m_X12_init.2.1 293 = .ok (.bipush 114, 2) := by decide +kernel
theorem dd_X12_init_295 : decode m_X12_init.2.1 295 = .ok (.castore, 1) := by decide +kernel
theorem dd_X12_init_296 : decode m_X12_init.2.1 296 = .ok (.putfield 42, 3) := by decide +kernel
theorem dd_X12_init_299 : decode m_X12_init.2.1 299 = .ok (.aload_n 0, 1) := by decide +kernel
theorem dd_X12_init_300 : decode m_X12_init.2.1 300 = .ok (.iconst 5, 1) := by decide +kernel
theorem dd_X12_init_301 : decode m_X12_init.2.1 301 = .ok (.newarray .char, 2) := by decide +kernel
theorem dd_X12_init_303 : decode m_X12_init.2.1 303 = .ok (.dup, 1) := by decide +kernel
theorem dd_X12_init_304 : decode m_X12_init.2.1 304 = .ok (.iconst 0, 1) := by decide +kernel
theorem dd_X12_init_305 : decode m_X12_init.2.1 305 = .ok (.bipush 115, 2) := by decide +kernel
theorem dd_X12_init_307 : decode m_X12_init.2.1 307 = .ok (.castore, 1) := by decide +kernel
theorem dd_X12_init_308 : decode m_X12_init.2.1 308 = .ok (.dup, 1) := by decide +kernel
theorem dd_X12_init_309 : decode m_X12_init.2.1 309 = .ok (.iconst 1, 1) := by decide +kernel
theorem dd_X12_init_310 : decode m_X12_init.2.1 310 = .ok (.bipush 101, 2) := by decide +kernel
theorem dd_X12_init_312 : decode m_X12_init.2.1 312 = .ok (.castore, 1) := by decide +kernel
theorem dd_X12_init_313 : decode m_X12_init.2.1 313 = .ok (.dup, 1) := by decide +kernel
theorem dd_X12_init_314 : decode m_X12_init.2.1 314 = .ok (.iconst 2, 1) := by decide +kernel
theorem dd_X12_init_315 : decode m_X12_init.2.1 315 = .ok (.bipush 110, 2) := by decide +kernel
theorem dd_X12_init_317 : decode m_X12_init.2.1 317 = .ok (.castore, 1) := by decide +kernel
theorem dd_X12_init_318 : decode m_X12_init.2.1 318 = .ok (.dup, 1) := by decide +kernel
theorem dd_X12_init_319 : decode m_X12_init.2.1 319 = .ok (.iconst 3, 1) := by decide +kernel
theorem dd_X12_init_320 : decode m_X12_init.2.1 320 = .ok (.bipush 100, 2) := by decide +kernel
theorem dd_X12_init_322 : decode m_X12_init.2.1 322 = .ok (.castore, 1) := by decide +kernel
theorem dd_X12_init_323 : decode m_X12_init.2.1 323 = .ok (.dup, 1) := by decide +kernel
theorem dd_X12_init_324 : decode m_X12_init.2.1 324 = .ok (.iconst 4, 1) := by decide +kernel
theorem dd_X12_init_325 : decode m_X12_init.2.1 325 = .ok (.bipush 115, 2) := by decide +kernel
theorem dd_X12_init_327 : decode m_X12_init.2.1 327 = .ok (.castore, 1) := by decide +kernel
theorem dd_X12_init_328 : decode m_X12_init.2.1 328 = .ok (.putfield 45, 3) := by decide +kernel
theorem dd_X12_init_331 : decode m_X12_init.2.1 331 = .ok (.aload_n 0, 1) := by decide +kernel
theorem dd_X12_init_332 : decode m_X12_init.2.1 332 = .ok (.iconst 5, 1) := by decide +kernel
theorem dd_X12_init_333 : decode m_X12_init.2.1 333 = .ok (.newarray .char, 2) := by decide +kernel
theorem dd_X12_init_335 : decode m_X12_init.2.1 335 = .ok (.dup, 1) := by decide +kernel
theorem dd_X12_init_336 : decode m_X12_init.2.1 336 = .ok (.iconst 0, 1) := by decide +kernel
theorem dd_X12_init_337 : decode m_X12_init.2.1 337 = .ok (.bipush 103, 2) := by decide +kernel
theorem dd_X12_init_339 : decode m_X12_init.2.1 339 = .ok (.castore, 1) := by decide +kernel
theorem dd_X12_init_340 : decode m_X12_init.2.1 340 = .ok (.dup, 1) := by decide +kernel
theorem dd_X12_init_341 : decode m_X12_init.2.1 341 = .ok (.iconst 1, 1) := by decide +kernel
theorem dd_X12_init_342 : decode m_X12_init.2.1 342 = .ok (.bipush 111, 2) := by decide +kernel
theorem dd_X12_init_344 : decode m_X12_init.2.1 344 = .ok (.castore, 1) := by decide +kernel
theorem dd_X12_init_345 : decode m_X12_init.2.1 345 = .ok (.dup, 1) := by decide +kernel
theorem dd_X12_init_346 : decode m_X12_init.2.1 346 = .ok (.iconst 2, 1) := by decide +kernel
theorem dd_X12_init_347 : decode m_X12_init.2.1 347 = .ok (.bipush 111, 2) := by decide +kernel
theorem dd_X12_init_349 : decode m_X12_init.2.1 349 = .ok (.castore, 1) := by decide +kernel
theorem dd_X12_init_350 : decode m_X12_init.2.1 350 = .ok (.dup, 1) := by decide +kernel
theorem dd_X12_init_351 : decode m_X12_init.2.1 351 = .ok (.iconst 3, 1) := by decide +kernel
theorem dd_X12_init_352 : decode m_X12_init.2.1 352 = .ok (.bipush 115, 2) := by decide +kernel
theorem dd_X12_init_354 : decode m_X12_init.2.1 354 = .ok (.castore, 1) := by decide +kernel
theorem dd_X12_init_355 : decode m_X12_init.2.1 355 = .ok (.dup, 1) := by decide +kernel
theorem dd_X12_init_356 : decode m_X12_init.2.1 356 = .ok (.iconst 4, 1) := by decide +kernel
theorem dd_X12_init_357 : decode m_X12_init.2.1 357 = .ok (.bipush 101, 2) := by decide +kernel
theorem dd_X12_init_359 : decode m_X12_init.2.1 359 = .ok (.castore, 1) := by decide +kernel
theorem dd_X12_init_360 : decode m_X12_init.2.1 360 = .ok (.putfield 48, 3) := by decide +kernel
theorem dd_X12_init_363 : decode m_X12_init.2.1 363 = .ok (.aload_n 0, 1) := by decide +kernel
theorem dd_X12_init_364 : decode m_X12_init.2.1 364 = .ok (.iconst 4, 1) := by decide +kernel
theorem dd_X12_init_365 : decode m_X12_init.2.1 365 = .ok (.newarray .char, 2) := by decide +kernel
theorem dd_X12_init_367 : decode m_X12_init.2.1 367 = .ok (.dup, 1) := by decide +kernel
theorem dd_X12_init_368 : decode m_X12_init.2.1 368 = .ok (.iconst 0, 1) := by decide +kernel
theorem dd_X12_init_369 : decode m_X12_init.2.1 369 = .ok (.bipush 100, 2) := by decide +kernel
theorem dd_X12_init_371 : decode m_X12_init.2.1 371 = .ok (.castore, 1) := by decide +kernel
theorem dd_X12_init_372 : decode m_X12_init.2.1 372 = .ok (.dup, 1) := by decide +kernel
theorem dd_X12_init_373 : decode m_X12_init.2.1 373 = .ok (.iconst 1, 1) := by decide +kernel
theorem dd_X12_init_374 : decode m_X12_init.2.1 374 = .ok (.bipush 111, 2) := by decide +kernel
theorem dd_X12_init_376 : decode m_X12_init.2.1 376 = .ok (.castore, 1) := by decide +kernel
theorem dd_X12_init_377 : decode m_X12_init.2.1 377 = .ok (.dup, 1) := by decide +kernel
theorem dd_X12_init_378 : decode m_X12_init.2.1 378 = .ok (.iconst 2, 1) := by decide +kernel
theorem dd_X12_init_379 : decode m_X12_init.2.1 379 = .ok (.bipush 101, 2) := by decide +kernel
theorem dd_X12_init_381 : decode m_X12_init.2.1 381 = .ok (.castore, 1) := by decide +kernel
theorem dd_X12_init_382 : decode m_X12_init.2.1 382 = .ok (.dup, 1) := by decide +kernel
theorem dd_X12_init_383 : decode m_X12_init.2.1 383 = .ok (.iconst 3, 1) := by decide +kernel
theorem dd_X12_init_384 : decode m_X12_init.2.1 384 = .ok (.bipush 115, 2) := by decide +kernel
theorem dd_X12_init_386 : decode m_X12_init.2.1 386 = .ok (.castore, 1) := by decide +kernel
theorem dd_X12_init_387 : decode m_X12_init.2.1 387 = .ok (.putfield 51, 3) := by decide +kernel
theorem dd_X12_init_390 : decode m_X12_init.2.1 390 = .ok (.aload_n 0, 1) := by decide +kernel
theorem dd_X12_init_391 : decode m_X12_init.2.1 391 = .ok (.bipush 6, 2) := by decide +kernel
theorem dd_X12_init_393 : decode m_X12_init.2.1 393 = .ok (.newarray .char, 2) := by decide +kernel
theorem dd_X12_init_395 : decode m_X12_init.2.1 395 = .ok (.dup, 1) := by decide +kernel
theorem dd_X12_init_396 : decode m_X12_init.2.1 396 = .ok (.iconst 0, 1) := by decide +kernel
theorem dd_X12_init_397 : decode m_X12_init.2.1 397 = .ok (.bipush 102, 2) := by decide +kernel
theorem dd_X12_init_399 : decode m_X12_init.2.1 399 = .ok (.castore, 1) := by decide +kernel
theorem dd_X12_init_400 : decode m_X12_init.2.1 400 = .ok (.dup, 1) := by decide +kernel
theorem dd_X12_init_401 : decode m_X12_init.2.1 401 = .ok (.iconst 1, 1) := by decide +kernel
theorem dd_X12_init_402 : decode m_X12_init.2.1 402 = .ok (.bipush 105, 2) := by decide +kernel
theorem dd_X12_init_404 : decode m_X12_init.2.1 404 = .ok (.castore, 1) := by decide +kernel
theorem dd_X12_init_405 : decode m_X12_init.2.1 405 = .ok (.dup, 1) := by decide +kernel
theorem dd_X12_init_406 : decode m_X12_init.2.1 406 = .ok (.iconst 2, 1) := by decide +kernel
theorem dd_X12_init_407 : decode m_X12_init.2.1 407 = .ok (.bipush 103, 2) := by decide +kernel
theorem dd_X12_init_409 : decode m_X12_init.2.1 409 = .ok (.castore, 1) := by decide +kernel
theorem dd_X12_init_410 : decode m_X12_init.2.1 410 = .ok (.dup, 1) := by decide +kernel
theorem dd_X12_init_411 : decode m_X12_init.2.1 411 = .ok (.iconst 3, 1) := by decide +kernel
theorem dd_X12_init_412 : decode m_X12_init.2.1 412 = .ok (.bipush 104, 2) := by decide +kernel
theorem dd_X12_init_414 : decode m_X12_init.2.1 414 = .ok (.castore, 1) := by decide +kernel
theorem dd_X12_init_415 : decode m_X12_init.2.1 415 = .ok (.dup, 1) := by decide +kernel
theorem dd_X12_init_416 : decode m_X12_init.2.1 416 = .ok (.iconst 4, 1) := by decide +kernel
theorem dd_X12_init_417 : decode m_X12_init.2.1 417 = .ok (.bipush 116, 2) := by decide +kernel
theorem dd_X12_init_419 : decode m_X12_init.2.1 419 = .ok (.castore, 1) := by decide +kernel
theorem dd_X12_init_420 : decode m_X12_init.2.1 420 = .ok (.dup, 1) := by decide +kernel
theorem dd_X12_init_421 : decode m_X12_init.2.1 421 = .ok (.iconst 5, 1) := by decide +kernel
theorem dd_X12_init_422 : decode m_X12_init.2.1 422 = .ok (.bipush 115, 2) := by decide +kernel
theorem dd_X12_init_424 : decode m_X12_init.2.1 424 = .ok (.castore, 1) := by decide +kernel
theorem dd_X12_init_425 : decode m_X12_init.2.1 425 = .ok (.putfield 54, 3) := by decide +kernel
theorem dd_X12_init_428 : decode m_X12_init.2.1 428 = .ok (.aload_n 0, 1) := by decide +kernel
theorem dd_X12_init_429 : decode m_X12_init.2.1 429 = .ok (.iconst 5, 1) := by decide +kernel
theorem dd_X12_init_430 : decode m_X12_init.2.1 430 = .ok (.newarray .char, 2) := by decide +kernel
theorem dd_X12_init_432 : decode m_X12_init.2.1 432 = .ok (.dup, 1) := by decide +kernel
theorem dd_X12_init_433 : decode m_X12_init.2.1 433 = .ok (.iconst 0, 1) := by decide +kernel
theorem dd_X12_init_434 : decode m_X12_init.2.1 434 = .ok (.bipush 115, 2) := by decide +kernel
theorem dd_X12_init_436 : decode m_X12_init.2.1 436 = .ok (.castore, 1) := by decide +kernel
theorem dd_X12_init_437 : decode m_X12_init.2.1 437 = .ok (.dup, 1) := by decide +kernel
theorem dd_X12_init_438 : decode m_X12_init.2.1 438 = .ok (.iconst 1, 1) := by decide +kernel
theorem dd_X12_init_439 : decode m_X12_init.2.1 439 = .ok (.bipush 116, 2) := by decide +kernel
theorem dd_X12_init_441 : decode m_X12_init.2.1 441 = .ok (.castore, 1) := by decide +kernel

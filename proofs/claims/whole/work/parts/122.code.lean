theorem dd_X12_ask_0 : decode m_X12_ask.2.1 0 = .ok (.aload_n 0, 1) := by decide +kernel
theorem dd_X12_ask_1 : decode m_X12_ask.2.1 1 = .ok (.getfield 386, 3) := by decide +kernel
theorem dd_X12_ask_4 : decode m_X12_ask.2.1 4 = .ok (.ifCond .ne 12, 3) := by decide +kernel
theorem dd_X12_ask_7 : decode m_X12_ask.2.1 7 = .ok (.aload_n 0, 1) := by decide +kernel
theorem dd_X12_ask_8 : decode m_X12_ask.2.1 8 = .ok (.iconst 0, 1) := by decide +kernel
theorem dd_X12_ask_9 : decode m_X12_ask.2.1 9 = .ok (.putfield 249, 3) := by decide +kernel
theorem dd_X12_ask_12 : decode m_X12_ask.2.1 12 = .ok (.ldc2_w 521, 3) := by decide +kernel
theorem dd_X12_ask_15 : decode m_X12_ask.2.1 15 = .ok (.lreturn, 1) := by decide +kernel
theorem dd_X12_ask_16 : decode m_X12_ask.2.1 16 = .ok (.aload_n 0, 1) := by decide +kernel
theorem dd_X12_ask_17 : decode m_X12_ask.2.1 17 = .ok (.aload_n 0, 1) := by decide +kernel
theorem dd_X12_ask_18 : decode m_X12_ask.2.1 18 = .ok (.getfield 249, 3) := by decide +kernel
theorem dd_X12_ask_21 : decode m_X12_ask.2.1 21 = .ok (.putfield 261, 3) := by decide +kernel
theorem dd_X12_ask_24 : decode m_X12_ask.2.1 24 = .ok (.aload_n 0, 1) := by decide +kernel
theorem dd_X12_ask_25 : decode m_X12_ask.2.1 25 = .ok (.iconst 0, 1) := by decide +kernel
theorem dd_X12_ask_26 : decode m_X12_ask.2.1 26 = .ok (.putfield 249, 3) := by decide +kernel
theorem dd_X12_ask_29 : decode m_X12_ask.2.1 29 = .ok (.aload_n 0, 1) := by decide +kernel
theorem dd_X12_ask_30 : decode m_X12_ask.2.1 30 = .ok (.iconst 0, 1) := by decide +kernel
theorem dd_X12_ask_31 : decode m_X12_ask.2.1 31 = .ok (.putfield 258, 3) := by decide +kernel
theorem dd_X12_ask_34 : decode m_X12_ask.2.1 34 = .ok (.aload_n 0, 1) := by decide +kernel
theorem dd_X12_ask_35 : decode m_X12_ask.2.1 35 = .ok (.iconst (-1), 1) := by decide +kernel
theorem dd_X12_ask_36 : decode m_X12_ask.2.1 36 = .ok (.putfield 272, 3) := by decide +kernel
theorem dd_X12_ask_39 : decode m_X12_ask.2.1 39 = .ok (.aload_n 0, 1) := by decide +kernel
theorem dd_X12_ask_40 : decode m_X12_ask.2.1 40 = .ok (.iconst 0, 1) := by decide +kernel
theorem dd_X12_ask_41 : decode m_X12_ask.2.1 41 = .ok (.putfield 252, 3) := by decide +kernel
theorem dd_X12_ask_44 : decode m_X12_ask.2.1 44 = .ok (.aload_n 0, 1) := by decide +kernel
theorem dd_X12_ask_45 : decode m_X12_ask.2.1 45 = .ok (.iconst (-1), 1) := by decide +kernel
theorem dd_X12_ask_46 : decode m_X12_ask.2.1 46 = .ok (.putfield 255, 3) := by decide +kernel
theorem dd_X12_ask_49 : decode m_X12_ask.2.1 49 = .ok (.aload_n 0, 1) := by decide +kernel
theorem dd_X12_ask_50 : decode m_X12_ask.2.1 50 = .ok (.iconst 2, 1) := by decide +kernel
theorem dd_X12_ask_51 : decode m_X12_ask.2.1 51 = .ok (.putfield 310, 3) := by decide +kernel
theorem dd_X12_ask_54 : decode m_X12_ask.2.1 54 = .ok (.aload_n 0, 1) := by decide +kernel
theorem dd_X12_ask_55 : decode m_X12_ask.2.1 55 = .ok (.iconst 0, 1) := by decide +kernel
theorem dd_X12_ask_56 : decode m_X12_ask.2.1 56 = .ok (.putfield 338, 3) := by decide +kernel
theorem dd_X12_ask_59 : decode m_X12_ask.2.1 59 = .ok (.aload_n 0, 1) := by decide +kernel
theorem dd_X12_ask_60 : decode m_X12_ask.2.1 60 = .ok (.iconst 0, 1) := by decide +kernel
theorem dd_X12_ask_61 : decode m_X12_ask.2.1 61 = .ok (.putfield 341, 3) := by decide +kernel
theorem dd_X12_ask_64 : decode m_X12_ask.2.1 64 = .ok (.aload_n 0, 1) := by decide +kernel
theorem dd_X12_ask_65 : decode m_X12_ask.2.1 65 = .ok (.iconst 0, 1) := by decide +kernel
theorem dd_X12_ask_66 : decode m_X12_ask.2.1 66 = .ok (.putfield 344, 3) := by decide +kernel
theorem dd_X12_ask_69 : decode m_X12_ask.2.1 69 = .ok (.aload_n 0, 1) := by decide +kernel
theorem dd_X12_ask_70 : decode m_X12_ask.2.1 70 = .ok (.iconst 0, 1) := by decide +kernel
theorem dd_X12_ask_71 : decode m_X12_ask.2.1 71 = .ok (.putfield 347, 3) := by decide +kernel
theorem dd_X12_ask_74 : decode m_X12_ask.2.1 74 = .ok (.aload_n 0, 1) := by decide +kernel
theorem dd_X12_ask_75 : decode m_X12_ask.2.1 75 = .ok (.invokevirtual 684, 3) := by decide +kernel
theorem dd_X12_ask_78 : decode m_X12_ask.2.1 78 = .ok (.istore_n 1, 1) := by decide +kernel
theorem dd_X12_ask_79 : decode m_X12_ask.2.1 79 = .ok (.aload_n 0, 1) := by decide +kernel
theorem dd_X12_ask_80 : decode m_X12_ask.2.1 80 = .ok (.getfield 252, 3) := by decide +kernel
theorem dd_X12_ask_83 : decode m_X12_ask.2.1 83 = .ok (.ifCond .ne 15, 3) := by decide +kernel
theorem dd_X12_ask_86 : decode m_X12_ask.2.1 86 = .ok (.iload_n 1, 1) := by decide +kernel
theorem dd_X12_ask_87 : decode m_X12_ask.2.1 87 = .ok (.iconst 3, 1) := by decide +kernel
theorem dd_X12_ask_88 : decode m_X12_ask.2.1 88 = .ok (.if_icmp .ge 10, 3) := by decide +kernel
theorem dd_X12_ask_91 : decode m_X12_ask.2.1 91 = .ok (.aload_n 0, 1) := by decide +kernel
theorem dd_X12_ask_92 : decode m_X12_ask.2.1 92 = .ok (.invokevirtual 353, 3) := by decide +kernel
theorem dd_X12_ask_95 : decode m_X12_ask.2.1 95 = .ok (.goto 14, 3) := by decide +kernel
theorem dd_X12_ask_98 : decode m_X12_ask.2.1 98 = .ok (.aload_n 0, 1) := by decide +kernel
theorem dd_X12_ask_99 : decode m_X12_ask.2.1 99 = .ok (.getfield 252, 3) := by decide +kernel
theorem dd_X12_ask_102 : decode m_X12_ask.2.1 102 = .ok (.ifCond .ne 7, 3) := by decide +kernel
theorem dd_X12_ask_105 : decode m_X12_ask.2.1 105 = .ok (.aload_n 0, 1) := by decide +kernel
theorem dd_X12_ask_106 : decode m_X12_ask.2.1 106 = .ok (.invokevirtual 356, 3) := by decide +kernel
theorem dd_X12_ask_109 : decode m_X12_ask.2.1 109 = .ok (.aload_n 0, 1) := by decide +kernel
theorem dd_X12_ask_110 : decode m_X12_ask.2.1 110 = .ok (.getfield 252, 3) := by decide +kernel
theorem dd_X12_ask_113 : decode m_X12_ask.2.1 113 = .ok (.ifCond .ne 20, 3) := by decide +kernel
theorem dd_X12_ask_116 : decode m_X12_ask.2.1 116 = .ok (.aload_n 0, 1) := by decide +kernel
theorem dd_X12_ask_117 : decode m_X12_ask.2.1 117 = .ok (.invokevirtual 264, 3) := by decide +kernel
theorem dd_X12_ask_120 : decode m_X12_ask.2.1 120 = .ok (.iconst (-1), 1) := by decide +kernel
theorem dd_X12_ask_121 : decode m_X12_ask.2.1 121 = .ok (.if_icmp .eq 12, 3) := by decide +kernel
theorem dd_X12_ask_124 : decode m_X12_ask.2.1 124 = .ok (.aload_n 0, 1) := by decide +kernel
theorem dd_X12_ask_125 : decode m_X12_ask.2.1 125 = .ok (.iconst 1, 1) := by decide +kernel
theorem dd_X12_ask_126 : decode m_X12_ask.2.1 126 = .ok (.aload_n 0, 1) := by decide +kernel
theorem dd_X12_ask_127 : decode m_X12_ask.2.1 127 = .ok (.getfield 258, 3) := by decide +kernel
theorem dd_X12_ask_130 : decode m_X12_ask.2.1 130 = .ok (.invokevirtual 282, 3) := by decide +kernel
theorem dd_X12_ask_133 : decode m_X12_ask.2.1 133 = .ok (.aload_n 0, 1) := by decide +kernel
theorem dd_X12_ask_134 : decode m_X12_ask.2.1 134 = .ok (.aload_n 0, 1) := by decide +kernel
theorem dd_X12_ask_135 : decode m_X12_ask.2.1 135 = .ok (.getfield 252, 3) := by decide +kernel
theorem dd_X12_ask_138 : decode m_X12_ask.2.1 138 = .ok (.putfield 380, 3) := by decide +kernel
theorem dd_X12_ask_141 : decode m_X12_ask.2.1 141 = .ok (.aload_n 0, 1) := by decide +kernel
theorem dd_X12_ask_142 : decode m_X12_ask.2.1 142 = .ok (.aload_n 0, 1) := by decide +kernel
theorem dd_X12_ask_143 : decode m_X12_ask.2.1 143 = .ok (.getfield 255, 3) := by decide +kernel
theorem dd_X12_ask_146 : decode m_X12_ask.2.1 146 = .ok (.putfield 13, 3) := by decide +kernel
theorem dd_X12_ask_149 : decode m_X12_ask.2.1 149 = .ok (.aload_n 0, 1) := by decide +kernel
theorem dd_X12_ask_150 : decode m_X12_ask.2.1 150 = .ok (.getfield 252, 3) := by decide +kernel
theorem dd_X12_ask_153 : decode m_X12_ask.2.1 153 = .ok (.ifCond .eq 7, 3) := by decide +kernel
theorem dd_X12_ask_156 : decode m_X12_ask.2.1 156 = .ok (.ldc2_w 521, 3) := by decide +kernel
theorem dd_X12_ask_159 : decode m_X12_ask.2.1 159 = .ok (.lreturn, 1) := by decide +kernel
theorem dd_X12_ask_160 : decode m_X12_ask.2.1 160 = .ok (.aload_n 0, 1) := by decide +kernel
theorem dd_X12_ask_161 : decode m_X12_ask.2.1 161 = .ok (.iload_n 1, 1) := by decide +kernel
theorem dd_X12_ask_162 : decode m_X12_ask.2.1 162 = .ok (.iconst 2, 1) := by decide +kernel
theorem dd_X12_ask_163 : decode m_X12_ask.2.1 163 = .ok (.if_icmp .ge 9, 3) := by decide +kernel
theorem dd_X12_ask_166 : decode m_X12_ask.2.1 166 = .ok (.ldc2_w 557, 3) := by decide +kernel
theorem dd_X12_ask_169 : decode m_X12_ask.2.1 169 = .ok (.goto 4, 3) := by decide +kernel
theorem dd_X12_ask_172 : decode m_X12_ask.2.1 172 = .ok (.lconst 0, 1) := by decide +kernel
theorem dd_X12_ask_173 : decode m_X12_ask.2.1 173 = .ok (.putfield 678, 3) := by decide +kernel
theorem dd_X12_ask_176 : decode m_X12_ask.2.1 176 = .ok (.aload_n 0, 1) := by decide +kernel
theorem dd_X12_ask_177 : decode m_X12_ask.2.1 177 = .ok (.iconst 1, 1) := by decide +kernel
theorem dd_X12_ask_178 : decode m_X12_ask.2.1 178 = .ok (.putfield 681, 3) := by decide +kernel
theorem dd_X12_ask_181 : decode m_X12_ask.2.1 181 = .ok (.iconst 0, 1) := by decide +kernel
theorem dd_X12_ask_182 : decode m_X12_ask.2.1 182 = .ok (.istore_n 2, 1) := by decide +kernel
theorem dd_X12_ask_183 : decode m_X12_ask.2.1 183 = .ok (.iload_n 2, 1) := by decide +kernel
theorem dd_X12_ask_184 : decode m_X12_ask.2.1 184 = .ok (.aload_n 0, 1) := by decide +kernel
theorem dd_X12_ask_185 : decode m_X12_ask.2.1 185 = .ok (.invokevirtual 402, 3) := by decide +kernel
theorem dd_X12_ask_188 : decode m_X12_ask.2.1 188 = .ok (.if_icmp .ge 38, 3) := by decide +kernel
theorem dd_X12_ask_191 : decode m_X12_ask.2.1 191 = .ok (.iconst 0, 1) := by decide +kernel
theorem dd_X12_ask_192 : decode m_X12_ask.2.1 192 = .ok (.istore_n 3, 1) := by decide +kernel
theorem dd_X12_ask_193 : decode m_X12_ask.2.1 193 = .ok (.iload_n 3, 1) := by decide +kernel
theorem dd_X12_ask_194 : decode m_X12_ask.2.1 194 = .ok (.iconst 2, 1) := by decide +kernel
theorem dd_X12_ask_195 : decode m_X12_ask.2.1 195 = .ok (.if_icmp .ge 25, 3) := by decide +kernel
theorem dd_X12_ask_198 : decode m_X12_ask.2.1 198 = .ok (.aload_n 0, 1) := by decide +kernel
theorem dd_X12_ask_199 : decode m_X12_ask.2.1 199 = .ok (.getfield 127, 3) := by decide +kernel
theorem dd_X12_ask_202 : decode m_X12_ask.2.1 202 = .ok (.iconst 2, 1) := by decide +kernel
theorem dd_X12_ask_203 : decode m_X12_ask.2.1 203 = .ok (.iload_n 2, 1) := by decide +kernel
theorem dd_X12_ask_204 : decode m_X12_ask.2.1 204 = .ok (.imul, 1) := by decide +kernel
theorem dd_X12_ask_205 : decode m_X12_ask.2.1 205 = .ok (.iload_n 3, 1) := by decide +kernel
theorem dd_X12_ask_206 : decode m_X12_ask.2.1 206 = .ok (.iadd, 1) := by decide +kernel
theorem dd_X12_ask_207 : decode m_X12_ask.2.1 207 = .ok (.aload_n 0, 1) := by decide +kernel
theorem dd_X12_ask_208 : decode m_X12_ask.2.1 208 = .ok (.iload_n 2, 1) := by decide +kernel
theorem dd_X12_ask_209 : decode m_X12_ask.2.1 209 = .ok (.iload_n 3, 1) := by decide +kernel
theorem dd_X12_ask_210 : decode m_X12_ask.2.1 210 = .ok (.invokevirtual 456, 3) := by decide +kernel
theorem dd_X12_ask_213 : decode m_X12_ask.2.1 213 = .ok (.lastore, 1) := by decide +kernel
theorem dd_X12_ask_214 : decode m_X12_ask.2.1 214 = .ok (.iinc 3 1, 3) := by decide +kernel
theorem dd_X12_ask_217 : decode m_X12_ask.2.1 217 = .ok (.goto (-24), 3) := by decide +kernel
theorem dd_X12_ask_220 : decode m_X12_ask.2.1 220 = .ok (.iinc 2 1, 3) := by decide +kernel
theorem dd_X12_ask_223 : decode m_X12_ask.2.1 223 = .ok (.goto (-40), 3) := by decide +kernel
theorem dd_X12_ask_226 : decode m_X12_ask.2.1 226 = .ok (.aload_n 0, 1) := by decide +kernel
theorem dd_X12_ask_227 : decode m_X12_ask.2.1 227 = .ok (.iconst 2, 1) := by decide +kernel
theorem dd_X12_ask_228 : decode m_X12_ask.2.1 228 = .ok (.putfield 310, 3) := by decide +kernel
theorem dd_X12_ask_231 : decode m_X12_ask.2.1 231 = .ok (.iconst 0, 1) := by decide +kernel
theorem dd_X12_ask_232 : decode m_X12_ask.2.1 232 = .ok (.istore_n 2, 1) := by decide +kernel
theorem dd_X12_ask_233 : decode m_X12_ask.2.1 233 = .ok (.iload_n 2, 1) := by decide +kernel
theorem dd_X12_ask_234 : decode m_X12_ask.2.1 234 = .ok (.aload_n 0, 1) := by decide +kernel
theorem dd_X12_ask_235 : decode m_X12_ask.2.1 235 = .ok (.invokevirtual 402, 3) := by decide +kernel
theorem dd_X12_ask_238 : decode m_X12_ask.2.1 238 = .ok (.if_icmp .ge 20, 3) := by decide +kernel
theorem dd_X12_ask_241 : decode m_X12_ask.2.1 241 = .ok (.aload_n 0, 1) := by decide +kernel
theorem dd_X12_ask_242 : decode m_X12_ask.2.1 242 = .ok (.iload_n 1, 1) := by decide +kernel
theorem dd_X12_ask_243 : decode m_X12_ask.2.1 243 = .ok (.aload_n 0, 1) := by decide +kernel
theorem dd_X12_ask_244 : decode m_X12_ask.2.1 244 = .ok (.iload_n 2, 1) := by decide +kernel
theorem dd_X12_ask_245 : decode m_X12_ask.2.1 245 = .ok (.invokevirtual 687, 3) := by decide +kernel
theorem dd_X12_ask_248 : decode m_X12_ask.2.1 248 = .ok (.iload_n 2, 1) := by decide +kernel
theorem dd_X12_ask_249 : decode m_X12_ask.2.1 249 = .ok (.invokevirtual 690, 3) := by decide +kernel
theorem dd_X12_ask_252 : decode m_X12_ask.2.1 252 = .ok (.iinc 2 1, 3) := by decide +kernel
theorem dd_X12_ask_255 : decode m_X12_ask.2.1 255 = .ok (.goto (-22), 3) := by decide +kernel
theorem dd_X12_ask_258 : decode m_X12_ask.2.1 258 = .ok (.aload_n 0, 1) := by decide +kernel
theorem dd_X12_ask_259 : decode m_X12_ask.2.1 259 = .ok (.getfield 678, 3) := by decide +kernel
theorem dd_X12_ask_262 : decode m_X12_ask.2.1 262 = .ok (.lreturn, 1) := by decide +kernel
def nd_X12_ask_233  (K233 : Int32 → Int32 → fz_s → Prop) (Q : Int64 → fz_s → Prop) (v1 : Int32) (v2 : Int32) (s : fz_s) : Prop :=
  wp_X12_personMany  s (fun r1 s2 => ((r1 ≤ v2 → Q (s2.2.1 196 108) s2) ∧ (¬ r1 ≤ v2 → wp_X12_qTold v2 s2 (fun r3 s4 => wp_X12_qTakes v1 r3 v2 s4 (fun s6 => ∀ x7 : Int32, x7 = v2 + 1 → K233 v1 x7 s6)))))
def lp_X12_ask_233   (Q : Int64 → fz_s → Prop) : Nat → Int32 → Int32 → fz_s → Prop
  | 0 => fun _ _ _ => False
  | n + 1 => nd_X12_ask_233  (lp_X12_ask_233   Q n) Q
def nd_X12_ask_193  (K183 : Int32 → Int32 → fz_s → Prop) (K193 : Int32 → Int32 → Int32 → fz_s → Prop) (Q : Int64 → fz_s → Prop) (v1 : Int32) (v2 : Int32) (v3 : Int32) (s : fz_s) : Prop :=
  ((2 ≤ v3 → ∀ x1 : Int32, x1 = v2 + 1 → K183 v1 x1 s) ∧ (¬ 2 ≤ v3 → wp_X12_doesIn v2 v3 s (fun r2 s3 => vp_in ((2 * v2) + v3) 16 ∧ ∀ s4 : fz_s, s4 = sl s3 234 ((2 * v2) + v3).toNatClampNeg r2 → ∀ x5 : Int32, x5 = v3 + 1 → K193 v1 v2 x5 s4)))
def lp_X12_ask_193  (K183 : Int32 → Int32 → fz_s → Prop) (Q : Int64 → fz_s → Prop) : Nat → Int32 → Int32 → Int32 → fz_s → Prop
  | 0 => fun _ _ _ _ => False
  | n + 1 => nd_X12_ask_193  K183 (lp_X12_ask_193  K183 Q n) Q
def nd_X12_ask_183  (K183 : Int32 → Int32 → fz_s → Prop) (Q : Int64 → fz_s → Prop) (v1 : Int32) (v2 : Int32) (s : fz_s) : Prop :=
  wp_X12_personMany  s (fun r1 s2 => ((r1 ≤ v2 → ∀ s3 : fz_s, s3 = si s2 196 53 2 → lp_X12_ask_233   Q 2048 v1 0 s3) ∧ (¬ r1 ≤ v2 → lp_X12_ask_193  K183 Q 2048 v1 v2 0 s2)))
def lp_X12_ask_183   (Q : Int64 → fz_s → Prop) : Nat → Int32 → Int32 → fz_s → Prop
  | 0 => fun _ _ _ => False
  | n + 1 => nd_X12_ask_183  (lp_X12_ask_183   Q n) Q
def nd_X12_ask_133   (Q : Int64 → fz_s → Prop) (v1 : Int32) (s : fz_s) : Prop :=
  ∀ s1 : fz_s, s1 = si s 196 7 (s.1 196 5) → ∀ s2 : fz_s, s2 = si s1 196 8 (s1.1 196 6) → (((s2.1 196 5) = 0 → ((2 ≤ v1 → ∀ s3 : fz_s, s3 = sl s2 196 108 0 → ∀ s4 : fz_s, s4 = si s3 196 109 1 → lp_X12_ask_183   Q 2048 v1 0 s4) ∧ (¬ 2 ≤ v1 → ∀ s5 : fz_s, s5 = sl s2 196 108 (-1) → ∀ s6 : fz_s, s6 = si s5 196 109 1 → lp_X12_ask_183   Q 2048 v1 0 s6))) ∧ (¬ (s2.1 196 5) = 0 → Q (-1000000000000000) s2))
def nd_X12_ask_109   (Q : Int64 → fz_s → Prop) (v1 : Int32) (s : fz_s) : Prop :=
  ((¬ (s.1 196 5) = 0 → nd_X12_ask_133   Q v1 s) ∧ ((s.1 196 5) = 0 → wp_X12_look  s (fun r1 s2 => ((r1 = (-1) → nd_X12_ask_133   Q v1 s2) ∧ (¬ r1 = (-1) → wp_X12_fail 1 (s2.1 196 2) s2 (fun s4 => nd_X12_ask_133   Q v1 s4))))))
def nd_X12_ask_98   (Q : Int64 → fz_s → Prop) (v1 : Int32) (s : fz_s) : Prop :=
  ((¬ (s.1 196 5) = 0 → nd_X12_ask_109   Q v1 s) ∧ ((s.1 196 5) = 0 → wp_X12_qSums  s (fun s2 => nd_X12_ask_109   Q v1 s2)))
def wp_X12_ask  (s : fz_s) (Q : Int64 → fz_s → Prop) : Prop :=
  ((¬ (s.1 196 52) = 0 → ∀ s1 : fz_s, s1 = si s 196 3 (s.1 196 1) → ∀ s2 : fz_s, s2 = si s1 196 1 0 → ∀ s3 : fz_s, s3 = si s2 196 2 0 → ∀ s4 : fz_s, s4 = si s3 196 4 (-1) → ∀ s5 : fz_s, s5 = si s4 196 5 0 → ∀ s6 : fz_s, s6 = si s5 196 6 (-1) → ∀ s7 : fz_s, s7 = si s6 196 53 2 → ∀ s8 : fz_s, s8 = si s7 196 101 0 → ∀ s9 : fz_s, s9 = si s8 196 103 0 → ∀ s10 : fz_s, s10 = si s9 196 104 0 → ∀ s11 : fz_s, s11 = si s10 196 105 0 → wp_X12_qKind  s11 (fun r12 s13 => ((¬ (s13.1 196 5) = 0 → nd_X12_ask_98   Q r12 s13) ∧ ((s13.1 196 5) = 0 → ((3 ≤ r12 → nd_X12_ask_98   Q r12 s13) ∧ (¬ 3 ≤ r12 → wp_X12_qTest  s13 (fun s15 => nd_X12_ask_109   Q r12 s15))))))) ∧ ((s.1 196 52) = 0 → ∀ s16 : fz_s, s16 = si s 196 1 0 → Q (-1000000000000000) s16))
set_option maxRecDepth 100000 in
set_option maxHeartbeats 4000000 in
theorem V_nd_X12_ask_233 {g : fz_G} {l : Launch} {d : Nat} (hD : 9 ≤ d)   {K233 : Int32 → Int32 → fz_s → Prop} {Q : Int64 → fz_s → Prop} {v1 : Int32} {v2 : Int32} {s : fz_s} (hK233 : ∀ {v1 : Int32} {v2 : Int32} {s : fz_s}, K233 v1 v2 s → fs_V g l m_X12_ask d false 233 [.ref 196, .int v1, .int v2, fz_J] [] s (rL Q)) (H : nd_X12_ask_233  K233 Q v1 v2 s) : fs_V g l m_X12_ask d false 233 [.ref 196, .int v1, .int v2, fz_J] [] s (rL Q) := by
  obtain ⟨d, rfl⟩ : ∃ e, d = e + 1 := ⟨d - 1, by omega⟩
  unfold nd_X12_ask_233 at H
  refine fs_iload_n (k0 := 2) (i := 2) dd_X12_ask_233 rfl rfl ?_
  refine fs_aload_n (k0 := 0) (i := 0) dd_X12_ask_234 rfl rfl ?_
  refine fs_callV (y := m_X12_personMany) (as := []) dd_X12_ask_235 me_X12_personMany lk_X12_402 in_X12_personMany se_X12_personMany ca_196 rfl rfl rfl (Nat.le_of_ble_eq_true rfl) (Nat.le_of_ble_eq_true rfl) rfl (V_X12_personMany (by omega)  H) (k2_I fun r1 s2 H => ?_)
  refine fs_icmp_ge (tgt := 258) dd_X12_ask_238 (by decide) (fun hc => ?_) (fun hc => ?_)
  · replace H := H.1 hc
    refine fs_aload_n (k0 := 0) (i := 0) dd_X12_ask_258 rfl rfl ?_
    refine fs_getl (ci := 12) (j := 108) dd_X12_ask_259 fl_X12_678 ca_196 rfl rfl ?_
    exact fs_lret dd_X12_ask_262 rfl H
  · replace H := H.2 hc
    refine fs_aload_n (k0 := 0) (i := 0) dd_X12_ask_241 rfl rfl ?_
    refine fs_iload_n (k0 := 1) (i := 1) dd_X12_ask_242 rfl rfl ?_
    refine fs_aload_n (k0 := 0) (i := 0) dd_X12_ask_243 rfl rfl ?_
    refine fs_iload_n (k0 := 2) (i := 2) dd_X12_ask_244 rfl rfl ?_
    refine fs_callV (y := m_X12_qTold) (as := [.int v2]) dd_X12_ask_245 me_X12_qTold lk_X12_687 in_X12_qTold se_X12_qTold ca_196 rfl rfl rfl (Nat.le_of_ble_eq_true rfl) (Nat.le_of_ble_eq_true rfl) rfl (V_X12_qTold (by omega)  H) (k2_L fun r3 s4 H => ?_)
    refine fs_iload_n (k0 := 2) (i := 2) dd_X12_ask_248 rfl rfl ?_
    refine fs_callV (y := m_X12_qTakes) (as := [.int v1, .long r3, .int v2]) dd_X12_ask_249 me_X12_qTakes lk_X12_690 in_X12_qTakes se_X12_qTakes ca_196 rfl rfl rfl (Nat.le_of_ble_eq_true rfl) (Nat.le_of_ble_eq_true rfl) rfl (V_X12_qTakes (by omega)  H) (k2_V fun s6 H => ?_)
    refine fs_iincN (i := 2) (m := 1) (c := 1) dd_X12_ask_252 rfl (by decide) (by decide) (fun x7 hx7 => ?_)
    replace H := H x7 hx7
    refine fs_goto (tgt := 233) dd_X12_ask_255 (by decide) ?_
    refine fs_weak (ls2 := [.ref 196, .int v1, .int x7, fz_J]) (fz_le_e (fz_le_e (fz_le_e (fz_le_j fz_le_n)))) ?_
    exact hK233 H
set_option maxRecDepth 100000 in
set_option maxHeartbeats 4000000 in
theorem V_lp_X12_ask_233 {g : fz_G} {l : Launch} {d : Nat} (hD : 9 ≤ d)    {Q : Int64 → fz_s → Prop}  (n : Nat) : ∀ {v1 : Int32} {v2 : Int32} {s : fz_s}, lp_X12_ask_233   Q n v1 v2 s → fs_V g l m_X12_ask d false 233 [.ref 196, .int v1, .int v2, fz_J] [] s (rL Q) := by
  induction n with
  | zero => intro v1 v2 s H; exact H.elim
  | succ n ih => intro v1 v2 s H; exact V_nd_X12_ask_233 hD  (fun H => ih H) H
set_option maxRecDepth 100000 in
set_option maxHeartbeats 4000000 in
theorem V_nd_X12_ask_193 {g : fz_G} {l : Launch} {d : Nat} (hD : 9 ≤ d)   {K183 : Int32 → Int32 → fz_s → Prop} {K193 : Int32 → Int32 → Int32 → fz_s → Prop} {Q : Int64 → fz_s → Prop} {v1 : Int32} {v2 : Int32} {v3 : Int32} {s : fz_s} (hK183 : ∀ {v1 : Int32} {v2 : Int32} {s : fz_s}, K183 v1 v2 s → fs_V g l m_X12_ask d false 183 [.ref 196, .int v1, .int v2, fz_J] [] s (rL Q)) (hK193 : ∀ {v1 : Int32} {v2 : Int32} {v3 : Int32} {s : fz_s}, K193 v1 v2 v3 s → fs_V g l m_X12_ask d false 193 [.ref 196, .int v1, .int v2, .int v3] [] s (rL Q)) (H : nd_X12_ask_193  K183 K193 Q v1 v2 v3 s) : fs_V g l m_X12_ask d false 193 [.ref 196, .int v1, .int v2, .int v3] [] s (rL Q) := by
  obtain ⟨d, rfl⟩ : ∃ e, d = e + 1 := ⟨d - 1, by omega⟩
  unfold nd_X12_ask_193 at H
  refine fs_iload_n (k0 := 3) (i := 3) dd_X12_ask_193 rfl rfl ?_
  refine fs_iconst (n := 2) (v := 2) dd_X12_ask_194 (by decide) ?_
  refine fs_icmp_ge (tgt := 220) dd_X12_ask_195 (by decide) (fun hc => ?_) (fun hc => ?_)
  · replace H := H.1 hc
    refine fs_iincN (i := 2) (m := 1) (c := 1) dd_X12_ask_220 rfl (by decide) (by decide) (fun x1 hx1 => ?_)
    replace H := H x1 hx1
    refine fs_goto (tgt := 183) dd_X12_ask_223 (by decide) ?_
    refine fs_weak (ls2 := [.ref 196, .int v1, .int x1, fz_J]) (fz_le_e (fz_le_e (fz_le_e (fz_le_j fz_le_n)))) ?_
    exact hK183 H
  · replace H := H.2 hc
    refine fs_aload_n (k0 := 0) (i := 0) dd_X12_ask_198 rfl rfl ?_
    refine fs_getr (ci := 12) (j := 57) (q := 234) dd_X12_ask_199 fl_X12_127 ca_196 rfl (Or.inr ⟨_, rfl⟩) rfl (by decide) ?_
    refine fs_iconst (n := 2) (v := 2) dd_X12_ask_202 (by decide) ?_
    refine fs_iload_n (k0 := 2) (i := 2) dd_X12_ask_203 rfl rfl ?_
    refine fs_imul dd_X12_ask_204 ?_
    refine fs_iload_n (k0 := 3) (i := 3) dd_X12_ask_205 rfl rfl ?_
    refine fs_iadd dd_X12_ask_206 ?_
    refine fs_aload_n (k0 := 0) (i := 0) dd_X12_ask_207 rfl rfl ?_
    refine fs_iload_n (k0 := 2) (i := 2) dd_X12_ask_208 rfl rfl ?_
    refine fs_iload_n (k0 := 3) (i := 3) dd_X12_ask_209 rfl rfl ?_
    refine fs_callV (y := m_X12_doesIn) (as := [.int v2, .int v3]) dd_X12_ask_210 me_X12_doesIn lk_X12_456 in_X12_doesIn se_X12_doesIn ca_196 rfl rfl rfl (Nat.le_of_ble_eq_true rfl) (Nat.le_of_ble_eq_true rfl) rfl (V_X12_doesIn (by omega)  H) (k2_L fun r2 s3 H => ?_)
    have hb := H.1
    replace H := H.2
    refine fs_last dd_X12_ask_213 ca_234 hb ?_
    refine fs_tops (fun s4 hs4 => ?_)
    replace H := H s4 hs4
    refine fs_iincN (i := 3) (m := 1) (c := 1) dd_X12_ask_214 rfl (by decide) (by decide) (fun x5 hx5 => ?_)
    replace H := H x5 hx5
    refine fs_goto (tgt := 193) dd_X12_ask_217 (by decide) ?_
    refine fs_weak (ls2 := [.ref 196, .int v1, .int v2, .int x5]) (fz_le_e (fz_le_e (fz_le_e (fz_le_e fz_le_n)))) ?_
    exact hK193 H
set_option maxRecDepth 100000 in
set_option maxHeartbeats 4000000 in
theorem V_lp_X12_ask_193 {g : fz_G} {l : Launch} {d : Nat} (hD : 9 ≤ d)   {K183 : Int32 → Int32 → fz_s → Prop} {Q : Int64 → fz_s → Prop} (hK183 : ∀ {v1 : Int32} {v2 : Int32} {s : fz_s}, K183 v1 v2 s → fs_V g l m_X12_ask d false 183 [.ref 196, .int v1, .int v2, fz_J] [] s (rL Q)) (n : Nat) : ∀ {v1 : Int32} {v2 : Int32} {v3 : Int32} {s : fz_s}, lp_X12_ask_193  K183 Q n v1 v2 v3 s → fs_V g l m_X12_ask d false 193 [.ref 196, .int v1, .int v2, .int v3] [] s (rL Q) := by
  induction n with
  | zero => intro v1 v2 v3 s H; exact H.elim
  | succ n ih => intro v1 v2 v3 s H; exact V_nd_X12_ask_193 hD  hK183 (fun H => ih H) H
set_option maxRecDepth 100000 in
set_option maxHeartbeats 4000000 in
theorem V_nd_X12_ask_183 {g : fz_G} {l : Launch} {d : Nat} (hD : 9 ≤ d)   {K183 : Int32 → Int32 → fz_s → Prop} {Q : Int64 → fz_s → Prop} {v1 : Int32} {v2 : Int32} {s : fz_s} (hK183 : ∀ {v1 : Int32} {v2 : Int32} {s : fz_s}, K183 v1 v2 s → fs_V g l m_X12_ask d false 183 [.ref 196, .int v1, .int v2, fz_J] [] s (rL Q)) (H : nd_X12_ask_183  K183 Q v1 v2 s) : fs_V g l m_X12_ask d false 183 [.ref 196, .int v1, .int v2, fz_J] [] s (rL Q) := by
  obtain ⟨d, rfl⟩ : ∃ e, d = e + 1 := ⟨d - 1, by omega⟩
  unfold nd_X12_ask_183 at H
  refine fs_iload_n (k0 := 2) (i := 2) dd_X12_ask_183 rfl rfl ?_
  refine fs_aload_n (k0 := 0) (i := 0) dd_X12_ask_184 rfl rfl ?_
  refine fs_callV (y := m_X12_personMany) (as := []) dd_X12_ask_185 me_X12_personMany lk_X12_402 in_X12_personMany se_X12_personMany ca_196 rfl rfl rfl (Nat.le_of_ble_eq_true rfl) (Nat.le_of_ble_eq_true rfl) rfl (V_X12_personMany (by omega)  H) (k2_I fun r1 s2 H => ?_)
  refine fs_icmp_ge (tgt := 226) dd_X12_ask_188 (by decide) (fun hc => ?_) (fun hc => ?_)
  · replace H := H.1 hc
    refine fs_aload_n (k0 := 0) (i := 0) dd_X12_ask_226 rfl rfl ?_
    refine fs_iconst (n := 2) (v := 2) dd_X12_ask_227 (by decide) ?_
    refine fs_puti (ci := 12) (j := 53) dd_X12_ask_228 fl_X12_310 (fun _ _ _ h => by cases h; rfl) ca_196 rfl (Or.inl rfl) ?_
    refine fs_tops (fun s3 hs3 => ?_)
    replace H := H s3 hs3
    refine fs_iconst (n := 0) (v := 0) dd_X12_ask_231 (by decide) ?_
    refine fs_istore_n (k0 := 2) (i := 2) dd_X12_ask_232 rfl (by decide) ?_
    refine fs_weak (ls2 := [.ref 196, .int v1, .int 0, fz_J]) (fz_le_e (fz_le_e (fz_le_e (fz_le_j fz_le_n)))) ?_
    exact V_lp_X12_ask_233 hD    2048 H
  · replace H := H.2 hc
    refine fs_iconst (n := 0) (v := 0) dd_X12_ask_191 (by decide) ?_
    refine fs_istore_n (k0 := 3) (i := 3) dd_X12_ask_192 rfl (by decide) ?_
    refine fs_weak (ls2 := [.ref 196, .int v1, .int v2, .int 0]) (fz_le_e (fz_le_e (fz_le_e (fz_le_e fz_le_n)))) ?_
    exact V_lp_X12_ask_193 hD   hK183 2048 H
set_option maxRecDepth 100000 in
set_option maxHeartbeats 4000000 in
theorem V_lp_X12_ask_183 {g : fz_G} {l : Launch} {d : Nat} (hD : 9 ≤ d)    {Q : Int64 → fz_s → Prop}  (n : Nat) : ∀ {v1 : Int32} {v2 : Int32} {s : fz_s}, lp_X12_ask_183   Q n v1 v2 s → fs_V g l m_X12_ask d false 183 [.ref 196, .int v1, .int v2, fz_J] [] s (rL Q) := by
  induction n with
  | zero => intro v1 v2 s H; exact H.elim
  | succ n ih => intro v1 v2 s H; exact V_nd_X12_ask_183 hD  (fun H => ih H) H
set_option maxRecDepth 100000 in
set_option maxHeartbeats 4000000 in
theorem V_nd_X12_ask_133 {g : fz_G} {l : Launch} {d : Nat} (hD : 9 ≤ d)    {Q : Int64 → fz_s → Prop} {v1 : Int32} {s : fz_s}  (H : nd_X12_ask_133   Q v1 s) : fs_V g l m_X12_ask d false 133 [.ref 196, .int v1, fz_J, fz_J] [] s (rL Q) := by
  obtain ⟨d, rfl⟩ : ∃ e, d = e + 1 := ⟨d - 1, by omega⟩
  unfold nd_X12_ask_133 at H
  refine fs_aload_n (k0 := 0) (i := 0) dd_X12_ask_133 rfl rfl ?_
  refine fs_aload_n (k0 := 0) (i := 0) dd_X12_ask_134 rfl rfl ?_
  refine fs_geti (ci := 12) (j := 5) dd_X12_ask_135 fl_X12_252 ca_196 rfl (Or.inl rfl) ?_
  refine fs_puti (ci := 12) (j := 7) dd_X12_ask_138 fl_X12_380 (fun _ _ _ h => by cases h; rfl) ca_196 rfl (Or.inl rfl) ?_
  refine fs_tops (fun s1 hs1 => ?_)
  replace H := H s1 hs1
  refine fs_aload_n (k0 := 0) (i := 0) dd_X12_ask_141 rfl rfl ?_
  refine fs_aload_n (k0 := 0) (i := 0) dd_X12_ask_142 rfl rfl ?_
  refine fs_geti (ci := 12) (j := 6) dd_X12_ask_143 fl_X12_255 ca_196 rfl (Or.inl rfl) ?_
  refine fs_puti (ci := 12) (j := 8) dd_X12_ask_146 fl_X12_13 (fun _ _ _ h => by cases h; rfl) ca_196 rfl (Or.inl rfl) ?_
  refine fs_tops (fun s2 hs2 => ?_)
  replace H := H s2 hs2
  refine fs_aload_n (k0 := 0) (i := 0) dd_X12_ask_149 rfl rfl ?_
  refine fs_geti (ci := 12) (j := 5) dd_X12_ask_150 fl_X12_252 ca_196 rfl (Or.inl rfl) ?_
  refine fs_if_eq (tgt := 160) dd_X12_ask_153 (by decide) (fun hc => ?_) (fun hc => ?_)
  · replace H := H.1 hc
    refine fs_aload_n (k0 := 0) (i := 0) dd_X12_ask_160 rfl rfl ?_
    refine fs_iload_n (k0 := 1) (i := 1) dd_X12_ask_161 rfl rfl ?_
    refine fs_iconst (n := 2) (v := 2) dd_X12_ask_162 (by decide) ?_
    refine fs_icmp_ge (tgt := 172) dd_X12_ask_163 (by decide) (fun hc => ?_) (fun hc => ?_)
    · replace H := H.1 hc
      refine fs_lconst (n := 0) (v := 0) dd_X12_ask_172 (by decide) ?_
      refine fs_putl (ci := 12) (j := 108) dd_X12_ask_173 fl_X12_678 (fun _ _ _ h => by cases h; rfl) ca_196 rfl rfl ?_
      refine fs_tops (fun s3 hs3 => ?_)
      replace H := H s3 hs3
      refine fs_aload_n (k0 := 0) (i := 0) dd_X12_ask_176 rfl rfl ?_
      refine fs_iconst (n := 1) (v := 1) dd_X12_ask_177 (by decide) ?_
      refine fs_puti (ci := 12) (j := 109) dd_X12_ask_178 fl_X12_681 (fun _ _ _ h => by cases h; rfl) ca_196 rfl (Or.inr ⟨rfl, Or.inr rfl⟩) ?_
      refine fs_tops (fun s4 hs4 => ?_)
      replace H := H s4 hs4
      refine fs_iconst (n := 0) (v := 0) dd_X12_ask_181 (by decide) ?_
      refine fs_istore_n (k0 := 2) (i := 2) dd_X12_ask_182 rfl (by decide) ?_
      refine fs_weak (ls2 := [.ref 196, .int v1, .int 0, fz_J]) (fz_le_e (fz_le_e (fz_le_e (fz_le_j fz_le_n)))) ?_
      exact V_lp_X12_ask_183 hD    2048 H
    · replace H := H.2 hc
      refine fs_ldc2 (idx := 557) (v := -1) dd_X12_ask_166 cl_X12_557 ?_
      refine fs_goto (tgt := 173) dd_X12_ask_169 (by decide) ?_
      refine fs_putl (ci := 12) (j := 108) dd_X12_ask_173 fl_X12_678 (fun _ _ _ h => by cases h; rfl) ca_196 rfl rfl ?_
      refine fs_tops (fun s5 hs5 => ?_)
      replace H := H s5 hs5
      refine fs_aload_n (k0 := 0) (i := 0) dd_X12_ask_176 rfl rfl ?_
      refine fs_iconst (n := 1) (v := 1) dd_X12_ask_177 (by decide) ?_
      refine fs_puti (ci := 12) (j := 109) dd_X12_ask_178 fl_X12_681 (fun _ _ _ h => by cases h; rfl) ca_196 rfl (Or.inr ⟨rfl, Or.inr rfl⟩) ?_
      refine fs_tops (fun s6 hs6 => ?_)
      replace H := H s6 hs6
      refine fs_iconst (n := 0) (v := 0) dd_X12_ask_181 (by decide) ?_
      refine fs_istore_n (k0 := 2) (i := 2) dd_X12_ask_182 rfl (by decide) ?_
      refine fs_weak (ls2 := [.ref 196, .int v1, .int 0, fz_J]) (fz_le_e (fz_le_e (fz_le_e (fz_le_j fz_le_n)))) ?_
      exact V_lp_X12_ask_183 hD    2048 H
  · replace H := H.2 hc
    refine fs_ldc2 (idx := 521) (v := -1000000000000000) dd_X12_ask_156 cl_X12_521 ?_
    exact fs_lret dd_X12_ask_159 rfl H
set_option maxRecDepth 100000 in
set_option maxHeartbeats 4000000 in
theorem V_nd_X12_ask_109 {g : fz_G} {l : Launch} {d : Nat} (hD : 9 ≤ d)    {Q : Int64 → fz_s → Prop} {v1 : Int32} {s : fz_s}  (H : nd_X12_ask_109   Q v1 s) : fs_V g l m_X12_ask d false 109 [.ref 196, .int v1, fz_J, fz_J] [] s (rL Q) := by
  obtain ⟨d, rfl⟩ : ∃ e, d = e + 1 := ⟨d - 1, by omega⟩
  unfold nd_X12_ask_109 at H
  refine fs_aload_n (k0 := 0) (i := 0) dd_X12_ask_109 rfl rfl ?_
  refine fs_geti (ci := 12) (j := 5) dd_X12_ask_110 fl_X12_252 ca_196 rfl (Or.inl rfl) ?_
  refine fs_if_ne (tgt := 133) dd_X12_ask_113 (by decide) (fun hc => ?_) (fun hc => ?_)
  · replace H := H.1 hc
    refine fs_weak (ls2 := [.ref 196, .int v1, fz_J, fz_J]) (fz_le_e (fz_le_e (fz_le_j (fz_le_j fz_le_n)))) ?_
    exact V_nd_X12_ask_133 hD    H
  · replace H := H.2 hc
    refine fs_aload_n (k0 := 0) (i := 0) dd_X12_ask_116 rfl rfl ?_
    refine fs_callV (y := m_X12_look) (as := []) dd_X12_ask_117 me_X12_look lk_X12_264 in_X12_look se_X12_look ca_196 rfl rfl rfl (Nat.le_of_ble_eq_true rfl) (Nat.le_of_ble_eq_true rfl) rfl (V_X12_look (by omega)  H) (k2_I fun r1 s2 H => ?_)
    refine fs_iconst (n := -1) (v := -1) dd_X12_ask_120 (by decide) ?_
    refine fs_icmp_eq (tgt := 133) dd_X12_ask_121 (by decide) (fun hc => ?_) (fun hc => ?_)
    · replace H := H.1 hc
      refine fs_weak (ls2 := [.ref 196, .int v1, fz_J, fz_J]) (fz_le_e (fz_le_e (fz_le_j (fz_le_j fz_le_n)))) ?_
      exact V_nd_X12_ask_133 hD    H
    · replace H := H.2 hc
      refine fs_aload_n (k0 := 0) (i := 0) dd_X12_ask_124 rfl rfl ?_
      refine fs_iconst (n := 1) (v := 1) dd_X12_ask_125 (by decide) ?_
      refine fs_aload_n (k0 := 0) (i := 0) dd_X12_ask_126 rfl rfl ?_
      refine fs_geti (ci := 12) (j := 2) dd_X12_ask_127 fl_X12_258 ca_196 rfl (Or.inl rfl) ?_
      refine fs_callV (y := m_X12_fail) (as := [.int 1, .int (s2.1 196 2)]) dd_X12_ask_130 me_X12_fail lk_X12_282 in_X12_fail se_X12_fail ca_196 rfl rfl rfl (Nat.le_of_ble_eq_true rfl) (Nat.le_of_ble_eq_true rfl) rfl (V_X12_fail (by omega)  H) (k2_V fun s4 H => ?_)
      refine fs_weak (ls2 := [.ref 196, .int v1, fz_J, fz_J]) (fz_le_e (fz_le_e (fz_le_j (fz_le_j fz_le_n)))) ?_
      exact V_nd_X12_ask_133 hD    H
set_option maxRecDepth 100000 in
set_option maxHeartbeats 4000000 in
theorem V_nd_X12_ask_98 {g : fz_G} {l : Launch} {d : Nat} (hD : 9 ≤ d)    {Q : Int64 → fz_s → Prop} {v1 : Int32} {s : fz_s}  (H : nd_X12_ask_98   Q v1 s) : fs_V g l m_X12_ask d false 98 [.ref 196, .int v1, fz_J, fz_J] [] s (rL Q) := by
  obtain ⟨d, rfl⟩ : ∃ e, d = e + 1 := ⟨d - 1, by omega⟩
  unfold nd_X12_ask_98 at H
  refine fs_aload_n (k0 := 0) (i := 0) dd_X12_ask_98 rfl rfl ?_
  refine fs_geti (ci := 12) (j := 5) dd_X12_ask_99 fl_X12_252 ca_196 rfl (Or.inl rfl) ?_
  refine fs_if_ne (tgt := 109) dd_X12_ask_102 (by decide) (fun hc => ?_) (fun hc => ?_)
  · replace H := H.1 hc
    refine fs_weak (ls2 := [.ref 196, .int v1, fz_J, fz_J]) (fz_le_e (fz_le_e (fz_le_j (fz_le_j fz_le_n)))) ?_
    exact V_nd_X12_ask_109 hD    H
  · replace H := H.2 hc
    refine fs_aload_n (k0 := 0) (i := 0) dd_X12_ask_105 rfl rfl ?_
    refine fs_callV (y := m_X12_qSums) (as := []) dd_X12_ask_106 me_X12_qSums lk_X12_356 in_X12_qSums se_X12_qSums ca_196 rfl rfl rfl (Nat.le_of_ble_eq_true rfl) (Nat.le_of_ble_eq_true rfl) rfl (V_X12_qSums (by omega)  H) (k2_V fun s2 H => ?_)
    refine fs_weak (ls2 := [.ref 196, .int v1, fz_J, fz_J]) (fz_le_e (fz_le_e (fz_le_j (fz_le_j fz_le_n)))) ?_
    exact V_nd_X12_ask_109 hD    H
set_option maxRecDepth 100000 in
set_option maxHeartbeats 4000000 in
theorem V_X12_ask {g : fz_G} {l : Launch} {d : Nat} (hD : 9 ≤ d)   {s : fz_s} {Q : Int64 → fz_s → Prop} (H : wp_X12_ask  s Q) : fs_V g l m_X12_ask d false 0 (fz_en [.ref 196] 4) [] s (rL Q) := by
  obtain ⟨d, rfl⟩ : ∃ e, d = e + 1 := ⟨d - 1, by omega⟩
  unfold wp_X12_ask at H
  refine fs_aload_n (k0 := 0) (i := 0) dd_X12_ask_0 rfl rfl ?_
  refine fs_geti (ci := 12) (j := 52) dd_X12_ask_1 fl_X12_386 ca_196 rfl (Or.inr rfl) ?_
  refine fs_if_ne (tgt := 16) dd_X12_ask_4 (by decide) (fun hc => ?_) (fun hc => ?_)
  · replace H := H.1 hc
    refine fs_aload_n (k0 := 0) (i := 0) dd_X12_ask_16 rfl rfl ?_
    refine fs_aload_n (k0 := 0) (i := 0) dd_X12_ask_17 rfl rfl ?_
    refine fs_geti (ci := 12) (j := 1) dd_X12_ask_18 fl_X12_249 ca_196 rfl (Or.inl rfl) ?_
    refine fs_puti (ci := 12) (j := 3) dd_X12_ask_21 fl_X12_261 (fun _ _ _ h => by cases h; rfl) ca_196 rfl (Or.inl rfl) ?_
    refine fs_tops (fun s1 hs1 => ?_)
    replace H := H s1 hs1
    refine fs_aload_n (k0 := 0) (i := 0) dd_X12_ask_24 rfl rfl ?_
    refine fs_iconst (n := 0) (v := 0) dd_X12_ask_25 (by decide) ?_
    refine fs_puti (ci := 12) (j := 1) dd_X12_ask_26 fl_X12_249 (fun _ _ _ h => by cases h; rfl) ca_196 rfl (Or.inl rfl) ?_
    refine fs_tops (fun s2 hs2 => ?_)
    replace H := H s2 hs2
    refine fs_aload_n (k0 := 0) (i := 0) dd_X12_ask_29 rfl rfl ?_
    refine fs_iconst (n := 0) (v := 0) dd_X12_ask_30 (by decide) ?_
    refine fs_puti (ci := 12) (j := 2) dd_X12_ask_31 fl_X12_258 (fun _ _ _ h => by cases h; rfl) ca_196 rfl (Or.inl rfl) ?_
    refine fs_tops (fun s3 hs3 => ?_)
    replace H := H s3 hs3
    refine fs_aload_n (k0 := 0) (i := 0) dd_X12_ask_34 rfl rfl ?_
    refine fs_iconst (n := -1) (v := -1) dd_X12_ask_35 (by decide) ?_
    refine fs_puti (ci := 12) (j := 4) dd_X12_ask_36 fl_X12_272 (fun _ _ _ h => by cases h; rfl) ca_196 rfl (Or.inl rfl) ?_
    refine fs_tops (fun s4 hs4 => ?_)
    replace H := H s4 hs4
    refine fs_aload_n (k0 := 0) (i := 0) dd_X12_ask_39 rfl rfl ?_
    refine fs_iconst (n := 0) (v := 0) dd_X12_ask_40 (by decide) ?_
    refine fs_puti (ci := 12) (j := 5) dd_X12_ask_41 fl_X12_252 (fun _ _ _ h => by cases h; rfl) ca_196 rfl (Or.inl rfl) ?_
    refine fs_tops (fun s5 hs5 => ?_)
    replace H := H s5 hs5
    refine fs_aload_n (k0 := 0) (i := 0) dd_X12_ask_44 rfl rfl ?_
    refine fs_iconst (n := -1) (v := -1) dd_X12_ask_45 (by decide) ?_
    refine fs_puti (ci := 12) (j := 6) dd_X12_ask_46 fl_X12_255 (fun _ _ _ h => by cases h; rfl) ca_196 rfl (Or.inl rfl) ?_
    refine fs_tops (fun s6 hs6 => ?_)
    replace H := H s6 hs6
    refine fs_aload_n (k0 := 0) (i := 0) dd_X12_ask_49 rfl rfl ?_
    refine fs_iconst (n := 2) (v := 2) dd_X12_ask_50 (by decide) ?_
    refine fs_puti (ci := 12) (j := 53) dd_X12_ask_51 fl_X12_310 (fun _ _ _ h => by cases h; rfl) ca_196 rfl (Or.inl rfl) ?_
    refine fs_tops (fun s7 hs7 => ?_)
    replace H := H s7 hs7
    refine fs_aload_n (k0 := 0) (i := 0) dd_X12_ask_54 rfl rfl ?_
    refine fs_iconst (n := 0) (v := 0) dd_X12_ask_55 (by decide) ?_
    refine fs_puti (ci := 12) (j := 101) dd_X12_ask_56 fl_X12_338 (fun _ _ _ h => by cases h; rfl) ca_196 rfl (Or.inl rfl) ?_
    refine fs_tops (fun s8 hs8 => ?_)
    replace H := H s8 hs8
    refine fs_aload_n (k0 := 0) (i := 0) dd_X12_ask_59 rfl rfl ?_
    refine fs_iconst (n := 0) (v := 0) dd_X12_ask_60 (by decide) ?_
    refine fs_puti (ci := 12) (j := 103) dd_X12_ask_61 fl_X12_341 (fun _ _ _ h => by cases h; rfl) ca_196 rfl (Or.inl rfl) ?_
    refine fs_tops (fun s9 hs9 => ?_)
    replace H := H s9 hs9
    refine fs_aload_n (k0 := 0) (i := 0) dd_X12_ask_64 rfl rfl ?_
    refine fs_iconst (n := 0) (v := 0) dd_X12_ask_65 (by decide) ?_
    refine fs_puti (ci := 12) (j := 104) dd_X12_ask_66 fl_X12_344 (fun _ _ _ h => by cases h; rfl) ca_196 rfl (Or.inl rfl) ?_
    refine fs_tops (fun s10 hs10 => ?_)
    replace H := H s10 hs10
    refine fs_aload_n (k0 := 0) (i := 0) dd_X12_ask_69 rfl rfl ?_
    refine fs_iconst (n := 0) (v := 0) dd_X12_ask_70 (by decide) ?_
    refine fs_puti (ci := 12) (j := 105) dd_X12_ask_71 fl_X12_347 (fun _ _ _ h => by cases h; rfl) ca_196 rfl (Or.inl rfl) ?_
    refine fs_tops (fun s11 hs11 => ?_)
    replace H := H s11 hs11
    refine fs_aload_n (k0 := 0) (i := 0) dd_X12_ask_74 rfl rfl ?_
    refine fs_callV (y := m_X12_qKind) (as := []) dd_X12_ask_75 me_X12_qKind lk_X12_684 in_X12_qKind se_X12_qKind ca_196 rfl rfl rfl (Nat.le_of_ble_eq_true rfl) (Nat.le_of_ble_eq_true rfl) rfl (V_X12_qKind (by omega)  H) (k2_I fun r12 s13 H => ?_)
    refine fs_istore_n (k0 := 1) (i := 1) dd_X12_ask_78 rfl (by decide) ?_
    refine fs_aload_n (k0 := 0) (i := 0) dd_X12_ask_79 rfl rfl ?_
    refine fs_geti (ci := 12) (j := 5) dd_X12_ask_80 fl_X12_252 ca_196 rfl (Or.inl rfl) ?_
    refine fs_if_ne (tgt := 98) dd_X12_ask_83 (by decide) (fun hc => ?_) (fun hc => ?_)
    · replace H := H.1 hc
      refine fs_weak (ls2 := [.ref 196, .int r12, fz_J, fz_J]) (fz_le_e (fz_le_e (fz_le_j (fz_le_j fz_le_n)))) ?_
      exact V_nd_X12_ask_98 hD    H
    · replace H := H.2 hc
      refine fs_iload_n (k0 := 1) (i := 1) dd_X12_ask_86 rfl rfl ?_
      refine fs_iconst (n := 3) (v := 3) dd_X12_ask_87 (by decide) ?_
      refine fs_icmp_ge (tgt := 98) dd_X12_ask_88 (by decide) (fun hc => ?_) (fun hc => ?_)
      · replace H := H.1 hc
        refine fs_weak (ls2 := [.ref 196, .int r12, fz_J, fz_J]) (fz_le_e (fz_le_e (fz_le_j (fz_le_j fz_le_n)))) ?_
        exact V_nd_X12_ask_98 hD    H
      · replace H := H.2 hc
        refine fs_aload_n (k0 := 0) (i := 0) dd_X12_ask_91 rfl rfl ?_
        refine fs_callV (y := m_X12_qTest) (as := []) dd_X12_ask_92 me_X12_qTest lk_X12_353 in_X12_qTest se_X12_qTest ca_196 rfl rfl rfl (Nat.le_of_ble_eq_true rfl) (Nat.le_of_ble_eq_true rfl) rfl (V_X12_qTest (by omega)  H) (k2_V fun s15 H => ?_)
        refine fs_goto (tgt := 109) dd_X12_ask_95 (by decide) ?_
        refine fs_weak (ls2 := [.ref 196, .int r12, fz_J, fz_J]) (fz_le_e (fz_le_e (fz_le_j (fz_le_j fz_le_n)))) ?_
        exact V_nd_X12_ask_109 hD    H
  · replace H := H.2 hc
    refine fs_aload_n (k0 := 0) (i := 0) dd_X12_ask_7 rfl rfl ?_
    refine fs_iconst (n := 0) (v := 0) dd_X12_ask_8 (by decide) ?_
    refine fs_puti (ci := 12) (j := 1) dd_X12_ask_9 fl_X12_249 (fun _ _ _ h => by cases h; rfl) ca_196 rfl (Or.inl rfl) ?_
    refine fs_tops (fun s16 hs16 => ?_)
    replace H := H s16 hs16
    refine fs_ldc2 (idx := 521) (v := -1000000000000000) dd_X12_ask_12 cl_X12_521 ?_
    exact fs_lret dd_X12_ask_15 rfl H
theorem dd_X12_checked_0 : decode m_X12_checked.2.1 0 = .ok (.sipush 199, 3) := by decide +kernel
theorem dd_X12_checked_3 : decode m_X12_checked.2.1 3 = .ok (.istore_n 2, 1) := by decide +kernel
theorem dd_X12_checked_4 : decode m_X12_checked.2.1 4 = .ok (.iconst 0, 1) := by decide +kernel
theorem dd_X12_checked_5 : decode m_X12_checked.2.1 5 = .ok (.istore_n 3, 1) := by decide +kernel
theorem dd_X12_checked_6 : decode m_X12_checked.2.1 6 = .ok (.iload_n 3, 1) := by decide +kernel
theorem dd_X12_checked_7 : decode m_X12_checked.2.1 7 = .ok (.iload_n 1, 1) := by decide +kernel
theorem dd_X12_checked_8 : decode m_X12_checked.2.1 8 = .ok (.if_icmp .ge 21, 3) := by decide +kernel
theorem dd_X12_checked_11 : decode m_X12_checked.2.1 11 = .ok (.iconst 3, 1) := by decide +kernel
theorem dd_X12_checked_12 : decode m_X12_checked.2.1 12 = .ok (.iload_n 2, 1) := by decide +kernel
theorem dd_X12_checked_13 : decode m_X12_checked.2.1 13 = .ok (.imul, 1) := by decide +kernel
theorem dd_X12_checked_14 : decode m_X12_checked.2.1 14 = .ok (.aload_n 0, 1) := by decide +kernel
theorem dd_X12_checked_15 : decode m_X12_checked.2.1 15 = .ok (.iload_n 3, 1) := by decide +kernel
theorem dd_X12_checked_16 : decode m_X12_checked.2.1 16 = .ok (.iaload, 1) := by decide +kernel
theorem dd_X12_checked_17 : decode m_X12_checked.2.1 17 = .ok (.iadd, 1) := by decide +kernel
theorem dd_X12_checked_18 : decode m_X12_checked.2.1 18 = .ok (.sipush 251, 3) := by decide +kernel
theorem dd_X12_checked_21 : decode m_X12_checked.2.1 21 = .ok (.irem, 1) := by decide +kernel
theorem dd_X12_checked_22 : decode m_X12_checked.2.1 22 = .ok (.istore_n 2, 1) := by decide +kernel
theorem dd_X12_checked_23 : decode m_X12_checked.2.1 23 = .ok (.iinc 3 1, 3) := by decide +kernel
theorem dd_X12_checked_26 : decode m_X12_checked.2.1 26 = .ok (.goto (-20), 3) := by decide +kernel
theorem dd_X12_checked_29 : decode m_X12_checked.2.1 29 = .ok (.iload_n 2, 1) := by decide +kernel
theorem dd_X12_checked_30 : decode m_X12_checked.2.1 30 = .ok (.ireturn, 1) := by decide +kernel
def nd_X12_checked_6 (a0 : Nat) (n0 : Nat) (K6 : Int32 → Int32 → Int32 → fz_s → Prop) (Q : Int32 → fz_s → Prop) (v1 : Int32) (v2 : Int32) (v3 : Int32) (s : fz_s) : Prop :=
  ((v1 ≤ v3 → Q v2 s) ∧ (¬ v1 ≤ v3 → vp_in v3 n0 ∧ ∀ x1 : Int32, x1 = (((3 * v2) + (s.1 a0 v3.toNatClampNeg)) - ((3 * v2) + (s.1 a0 v3.toNatClampNeg)) / 251 * 251) → ∀ x2 : Int32, x2 = v3 + 1 → K6 v1 x1 x2 s))
def lp_X12_checked_6 (a0 : Nat) (n0 : Nat)  (Q : Int32 → fz_s → Prop) : Nat → Int32 → Int32 → Int32 → fz_s → Prop
  | 0 => fun _ _ _ _ => False
  | n + 1 => nd_X12_checked_6 a0 n0 (lp_X12_checked_6 a0 n0  Q n) Q
def wp_X12_checked (a0 : Nat) (n0 : Nat) (p1 : Int32) (s : fz_s) (Q : Int32 → fz_s → Prop) : Prop :=
  lp_X12_checked_6 a0 n0  Q 2048 p1 199 0 s
set_option maxRecDepth 100000 in
set_option maxHeartbeats 4000000 in
theorem V_nd_X12_checked_6 {g : fz_G} {l : Launch} {d : Nat} (hD : 0 ≤ d) {a0 : Nat} {n0 : Nat} (ha0 : fz_at false a0 14 n0) {K6 : Int32 → Int32 → Int32 → fz_s → Prop} {Q : Int32 → fz_s → Prop} {v1 : Int32} {v2 : Int32} {v3 : Int32} {s : fz_s} (hK6 : ∀ {v1 : Int32} {v2 : Int32} {v3 : Int32} {s : fz_s}, K6 v1 v2 v3 s → fs_V g l m_X12_checked d false 6 [.ref a0, .int v1, .int v2, .int v3] [] s (rI Q)) (H : nd_X12_checked_6 a0 n0 K6 Q v1 v2 v3 s) : fs_V g l m_X12_checked d false 6 [.ref a0, .int v1, .int v2, .int v3] [] s (rI Q) := by
  unfold nd_X12_checked_6 at H
  refine fs_iload_n (k0 := 3) (i := 3) dd_X12_checked_6 rfl rfl ?_
  refine fs_iload_n (k0 := 1) (i := 1) dd_X12_checked_7 rfl rfl ?_
  refine fs_icmp_ge (tgt := 29) dd_X12_checked_8 (by decide) (fun hc => ?_) (fun hc => ?_)
  · replace H := H.1 hc
    refine fs_iload_n (k0 := 2) (i := 2) dd_X12_checked_29 rfl rfl ?_
    exact fs_iret dd_X12_checked_30 rfl H
  · replace H := H.2 hc
    refine fs_iconst (n := 3) (v := 3) dd_X12_checked_11 (by decide) ?_
    refine fs_iload_n (k0 := 2) (i := 2) dd_X12_checked_12 rfl rfl ?_
    refine fs_imul dd_X12_checked_13 ?_
    refine fs_aload_n (k0 := 0) (i := 0) dd_X12_checked_14 rfl rfl ?_
    refine fs_iload_n (k0 := 3) (i := 3) dd_X12_checked_15 rfl rfl ?_
    have hb := H.1
    replace H := H.2
    refine fs_iald dd_X12_checked_16 ha0 hb ?_
    refine fs_iadd dd_X12_checked_17 ?_
    refine fs_sipush (n := 251) (v := 251) dd_X12_checked_18 (by decide) ?_
    refine fs_irem dd_X12_checked_21 (by decide) ?_
    refine fs_topi (fun x1 hx1 => ?_)
    replace H := H x1 hx1
    refine fs_istore_n (k0 := 2) (i := 2) dd_X12_checked_22 rfl (by decide) ?_
    refine fs_iincN (i := 3) (m := 1) (c := 1) dd_X12_checked_23 rfl (by decide) (by decide) (fun x2 hx2 => ?_)
    replace H := H x2 hx2
    refine fs_goto (tgt := 6) dd_X12_checked_26 (by decide) ?_
    refine fs_weak (ls2 := [.ref a0, .int v1, .int x1, .int x2]) (fz_le_e (fz_le_e (fz_le_e (fz_le_e fz_le_n)))) ?_
    exact hK6 H
set_option maxRecDepth 100000 in
set_option maxHeartbeats 4000000 in
theorem V_lp_X12_checked_6 {g : fz_G} {l : Launch} {d : Nat} (hD : 0 ≤ d) {a0 : Nat} {n0 : Nat} (ha0 : fz_at false a0 14 n0)  {Q : Int32 → fz_s → Prop}  (n : Nat) : ∀ {v1 : Int32} {v2 : Int32} {v3 : Int32} {s : fz_s}, lp_X12_checked_6 a0 n0  Q n v1 v2 v3 s → fs_V g l m_X12_checked d false 6 [.ref a0, .int v1, .int v2, .int v3] [] s (rI Q) := by
  induction n with
  | zero => intro v1 v2 v3 s H; exact H.elim
  | succ n ih => intro v1 v2 v3 s H; exact V_nd_X12_checked_6 hD ha0 (fun H => ih H) H
set_option maxRecDepth 100000 in
set_option maxHeartbeats 4000000 in
theorem V_X12_checked {g : fz_G} {l : Launch} {d : Nat} (hD : 0 ≤ d) {a0 : Nat} {n0 : Nat} {p1 : Int32} (ha0 : fz_at false a0 14 n0) {s : fz_s} {Q : Int32 → fz_s → Prop} (H : wp_X12_checked a0 n0 p1 s Q) : fs_V g l m_X12_checked d false 0 (fz_en [.ref a0, .int p1] 4) [] s (rI Q) := by
  unfold wp_X12_checked at H
  refine fs_sipush (n := 199) (v := 199) dd_X12_checked_0 (by decide) ?_
  refine fs_istore_n (k0 := 2) (i := 2) dd_X12_checked_3 rfl (by decide) ?_
  refine fs_iconst (n := 0) (v := 0) dd_X12_checked_4 (by decide) ?_
  refine fs_istore_n (k0 := 3) (i := 3) dd_X12_checked_5 rfl (by decide) ?_
  refine fs_weak (ls2 := [.ref a0, .int p1, .int 199, .int 0]) (fz_le_e (fz_le_e (fz_le_e (fz_le_e fz_le_n)))) ?_
  exact V_lp_X12_checked_6 hD  ha0  2048 H
theorem dd_X12_writes_0 : decode m_X12_writes.2.1 0 = .ok (.aload_n 0, 1) := by decide +kernel
theorem dd_X12_writes_1 : decode m_X12_writes.2.1 1 = .ok (.getfield 246, 3) := by decide +kernel
theorem dd_X12_writes_4 : decode m_X12_writes.2.1 4 = .ok (.aload_n 0, 1) := by decide +kernel
theorem dd_X12_writes_5 : decode m_X12_writes.2.1 5 = .ok (.getfield 694, 3) := by decide +kernel
theorem dd_X12_writes_8 : decode m_X12_writes.2.1 8 = .ok (.iload_n 1, 1) := by decide +kernel
theorem dd_X12_writes_9 : decode m_X12_writes.2.1 9 = .ok (.iastore, 1) := by decide +kernel
theorem dd_X12_writes_10 : decode m_X12_writes.2.1 10 = .ok (.aload_n 0, 1) := by decide +kernel
theorem dd_X12_writes_11 : decode m_X12_writes.2.1 11 = .ok (.dup, 1) := by decide +kernel
theorem dd_X12_writes_12 : decode m_X12_writes.2.1 12 = .ok (.getfield 694, 3) := by decide +kernel
theorem dd_X12_writes_15 : decode m_X12_writes.2.1 15 = .ok (.iconst 1, 1) := by decide +kernel
theorem dd_X12_writes_16 : decode m_X12_writes.2.1 16 = .ok (.iadd, 1) := by decide +kernel
theorem dd_X12_writes_17 : decode m_X12_writes.2.1 17 = .ok (.putfield 694, 3) := by decide +kernel
theorem dd_X12_writes_20 : decode m_X12_writes.2.1 20 = .ok (.return_, 1) := by decide +kernel
def wp_X12_writes (p0 : Int32) (s : fz_s) (Q : fz_s → Prop) : Prop :=
  vp_in (s.1 196 111) 33 ∧ ∀ s1 : fz_s, s1 = si s 272 (s.1 196 111).toNatClampNeg p0 → ∀ s2 : fz_s, s2 = si s1 196 111 ((s1.1 196 111) + 1) → Q s2
set_option maxRecDepth 100000 in
set_option maxHeartbeats 4000000 in
theorem V_X12_writes {g : fz_G} {l : Launch} {d : Nat} (hD : 0 ≤ d) {p0 : Int32}  {s : fz_s} {Q : fz_s → Prop} (H : wp_X12_writes p0 s Q) : fs_V g l m_X12_writes d false 0 (fz_en [.ref 196, .int p0] 2) [] s (rV Q) := by
  unfold wp_X12_writes at H
  refine fs_aload_n (k0 := 0) (i := 0) dd_X12_writes_0 rfl rfl ?_
  refine fs_getr (ci := 12) (j := 110) (q := 272) dd_X12_writes_1 fl_X12_246 ca_196 rfl (Or.inr ⟨_, rfl⟩) rfl (by decide) ?_
  refine fs_aload_n (k0 := 0) (i := 0) dd_X12_writes_4 rfl rfl ?_
  refine fs_geti (ci := 12) (j := 111) dd_X12_writes_5 fl_X12_694 ca_196 rfl (Or.inl rfl) ?_
  refine fs_iload_n (k0 := 1) (i := 1) dd_X12_writes_8 rfl rfl ?_
  have hb := H.1
  replace H := H.2
  refine fs_iast dd_X12_writes_9 ca_272 hb ?_
  refine fs_tops (fun s1 hs1 => ?_)
  replace H := H s1 hs1
  refine fs_aload_n (k0 := 0) (i := 0) dd_X12_writes_10 rfl rfl ?_
  refine fs_dup dd_X12_writes_11 rfl ?_
  refine fs_geti (ci := 12) (j := 111) dd_X12_writes_12 fl_X12_694 ca_196 rfl (Or.inl rfl) ?_
  refine fs_iconst (n := 1) (v := 1) dd_X12_writes_15 (by decide) ?_
  refine fs_iadd dd_X12_writes_16 ?_
  refine fs_puti (ci := 12) (j := 111) dd_X12_writes_17 fl_X12_694 (fun _ _ _ h => by cases h; rfl) ca_196 rfl (Or.inl rfl) ?_
  refine fs_tops (fun s2 hs2 => ?_)
  replace H := H s2 hs2
  exact fs_vret dd_X12_writes_20 rfl H
theorem dd_X12_writesTwo_0 : decode m_X12_writesTwo.2.1 0 = .ok (.aload_n 0, 1) := by decide +kernel
theorem dd_X12_writesTwo_1 : decode m_X12_writesTwo.2.1 1 = .ok (.iload_n 1, 1) := by decide +kernel
theorem dd_X12_writesTwo_2 : decode m_X12_writesTwo.2.1 2 = .ok (.sipush 256, 3) := by decide +kernel
theorem dd_X12_writesTwo_5 : decode m_X12_writesTwo.2.1 5 = .ok (.idiv, 1) := by decide +kernel
theorem dd_X12_writesTwo_6 : decode m_X12_writesTwo.2.1 6 = .ok (.invokevirtual 697, 3) := by decide +kernel
theorem dd_X12_writesTwo_9 : decode m_X12_writesTwo.2.1 9 = .ok (.aload_n 0, 1) := by decide +kernel
theorem dd_X12_writesTwo_10 : decode m_X12_writesTwo.2.1 10 = .ok (.iload_n 1, 1) := by decide +kernel
theorem dd_X12_writesTwo_11 : decode m_X12_writesTwo.2.1 11 = .ok (.sipush 256, 3) := by decide +kernel
theorem dd_X12_writesTwo_14 : decode m_X12_writesTwo.2.1 14 = .ok (.irem, 1) := by decide +kernel
theorem dd_X12_writesTwo_15 : decode m_X12_writesTwo.2.1 15 = .ok (.invokevirtual 697, 3) := by decide +kernel
theorem dd_X12_writesTwo_18 : decode m_X12_writesTwo.2.1 18 = .ok (.return_, 1) := by decide +kernel
def wp_X12_writesTwo (p0 : Int32) (s : fz_s) (Q : fz_s → Prop) : Prop :=
  wp_X12_writes (p0 / 256) s (fun s2 => wp_X12_writes (p0 - p0 / 256 * 256) s2 (fun s4 => Q s4))
set_option maxRecDepth 100000 in
set_option maxHeartbeats 4000000 in
theorem V_X12_writesTwo {g : fz_G} {l : Launch} {d : Nat} (hD : 1 ≤ d) {p0 : Int32}  {s : fz_s} {Q : fz_s → Prop} (H : wp_X12_writesTwo p0 s Q) : fs_V g l m_X12_writesTwo d false 0 (fz_en [.ref 196, .int p0] 2) [] s (rV Q) := by
  obtain ⟨d, rfl⟩ : ∃ e, d = e + 1 := ⟨d - 1, by omega⟩
  unfold wp_X12_writesTwo at H
  refine fs_aload_n (k0 := 0) (i := 0) dd_X12_writesTwo_0 rfl rfl ?_
  refine fs_iload_n (k0 := 1) (i := 1) dd_X12_writesTwo_1 rfl rfl ?_
  refine fs_sipush (n := 256) (v := 256) dd_X12_writesTwo_2 (by decide) ?_
  refine fs_idiv dd_X12_writesTwo_5 (by decide) ?_
  refine fs_callV (y := m_X12_writes) (as := [.int (p0 / 256)]) dd_X12_writesTwo_6 me_X12_writes lk_X12_697 in_X12_writes se_X12_writes ca_196 rfl rfl rfl (Nat.le_of_ble_eq_true rfl) (Nat.le_of_ble_eq_true rfl) rfl (V_X12_writes (by omega)  H) (k2_V fun s2 H => ?_)
  refine fs_aload_n (k0 := 0) (i := 0) dd_X12_writesTwo_9 rfl rfl ?_
  refine fs_iload_n (k0 := 1) (i := 1) dd_X12_writesTwo_10 rfl rfl ?_
  refine fs_sipush (n := 256) (v := 256) dd_X12_writesTwo_11 (by decide) ?_
  refine fs_irem dd_X12_writesTwo_14 (by decide) ?_
  refine fs_callV (y := m_X12_writes) (as := [.int (p0 - p0 / 256 * 256)]) dd_X12_writesTwo_15 me_X12_writes lk_X12_697 in_X12_writes se_X12_writes ca_196 rfl rfl rfl (Nat.le_of_ble_eq_true rfl) (Nat.le_of_ble_eq_true rfl) rfl (V_X12_writes (by omega)  H) (k2_V fun s4 H => ?_)
  exact fs_vret dd_X12_writesTwo_18 rfl H
theorem dd_X12_image_0 : decode m_X12_image.2.1 0 = .ok (.aload_n 0, 1) := by decide +kernel
theorem dd_X12_image_1 : decode m_X12_image.2.1 1 = .ok (.iconst 0, 1) := by decide +kernel
theorem dd_X12_image_2 : decode m_X12_image.2.1 2 = .ok (.putfield 694, 3) := by decide +kernel
theorem dd_X12_image_5 : decode m_X12_image.2.1 5 = .ok (.aload_n 0, 1) := by decide +kernel
theorem dd_X12_image_6 : decode m_X12_image.2.1 6 = .ok (.aload_n 0, 1) := by decide +kernel
theorem dd_X12_image_7 : decode m_X12_image.2.1 7 = .ok (.getfield 121, 3) := by decide +kernel
theorem dd_X12_image_10 : decode m_X12_image.2.1 10 = .ok (.iconst 0, 1) := by decide +kernel
theorem dd_X12_image_11 : decode m_X12_image.2.1 11 = .ok (.iaload, 1) := by decide +kernel
theorem dd_X12_image_12 : decode m_X12_image.2.1 12 = .ok (.invokevirtual 700, 3) := by decide +kernel
theorem dd_X12_image_15 : decode m_X12_image.2.1 15 = .ok (.iconst 0, 1) := by decide +kernel
theorem dd_X12_image_16 : decode m_X12_image.2.1 16 = .ok (.istore_n 1, 1) := by decide +kernel
theorem dd_X12_image_17 : decode m_X12_image.2.1 17 = .ok (.iload_n 1, 1) := by decide +kernel
theorem dd_X12_image_18 : decode m_X12_image.2.1 18 = .ok (.iconst 2, 1) := by decide +kernel
theorem dd_X12_image_19 : decode m_X12_image.2.1 19 = .ok (.if_icmp .ge 44, 3) := by decide +kernel
theorem dd_X12_image_22 : decode m_X12_image.2.1 22 = .ok (.aload_n 0, 1) := by decide +kernel
theorem dd_X12_image_23 : decode m_X12_image.2.1 23 = .ok (.getfield 386, 3) := by decide +kernel
theorem dd_X12_image_26 : decode m_X12_image.2.1 26 = .ok (.ifCond .eq 37, 3) := by decide +kernel
theorem dd_X12_image_29 : decode m_X12_image.2.1 29 = .ok (.aload_n 0, 1) := by decide +kernel
theorem dd_X12_image_30 : decode m_X12_image.2.1 30 = .ok (.aload_n 0, 1) := by decide +kernel
theorem dd_X12_image_31 : decode m_X12_image.2.1 31 = .ok (.getfield 121, 3) := by decide +kernel
theorem dd_X12_image_34 : decode m_X12_image.2.1 34 = .ok (.iconst 1, 1) := by decide +kernel
theorem dd_X12_image_35 : decode m_X12_image.2.1 35 = .ok (.iconst 2, 1) := by decide +kernel
theorem dd_X12_image_36 : decode m_X12_image.2.1 36 = .ok (.iload_n 1, 1) := by decide +kernel
theorem dd_X12_image_37 : decode m_X12_image.2.1 37 = .ok (.imul, 1) := by decide +kernel
theorem dd_X12_image_38 : decode m_X12_image.2.1 38 = .ok (.iadd, 1) := by decide +kernel
theorem dd_X12_image_39 : decode m_X12_image.2.1 39 = .ok (.iaload, 1) := by decide +kernel
theorem dd_X12_image_40 : decode m_X12_image.2.1 40 = .ok (.invokevirtual 700, 3) := by decide +kernel
theorem dd_X12_image_43 : decode m_X12_image.2.1 43 = .ok (.aload_n 0, 1) := by decide +kernel
theorem dd_X12_image_44 : decode m_X12_image.2.1 44 = .ok (.aload_n 0, 1) := by decide +kernel
theorem dd_X12_image_45 : decode m_X12_image.2.1 45 = .ok (.getfield 121, 3) := by decide +kernel
theorem dd_X12_image_48 : decode m_X12_image.2.1 48 = .ok (.iconst 2, 1) := by decide +kernel
theorem dd_X12_image_49 : decode m_X12_image.2.1 49 = .ok (.iconst 2, 1) := by decide +kernel
theorem dd_X12_image_50 : decode m_X12_image.2.1 50 = .ok (.iload_n 1, 1) := by decide +kernel
theorem dd_X12_image_51 : decode m_X12_image.2.1 51 = .ok (.imul, 1) := by decide +kernel
theorem dd_X12_image_52 : decode m_X12_image.2.1 52 = .ok (.iadd, 1) := by decide +kernel
theorem dd_X12_image_53 : decode m_X12_image.2.1 53 = .ok (.iaload, 1) := by decide +kernel
theorem dd_X12_image_54 : decode m_X12_image.2.1 54 = .ok (.invokevirtual 697, 3) := by decide +kernel
theorem dd_X12_image_57 : decode m_X12_image.2.1 57 = .ok (.iinc 1 1, 3) := by decide +kernel
theorem dd_X12_image_60 : decode m_X12_image.2.1 60 = .ok (.goto (-43), 3) := by decide +kernel
theorem dd_X12_image_63 : decode m_X12_image.2.1 63 = .ok (.iconst 0, 1) := by decide +kernel
theorem dd_X12_image_64 : decode m_X12_image.2.1 64 = .ok (.istore_n 1, 1) := by decide +kernel
theorem dd_X12_image_65 : decode m_X12_image.2.1 65 = .ok (.iload_n 1, 1) := by decide +kernel
theorem dd_X12_image_66 : decode m_X12_image.2.1 66 = .ok (.iconst 3, 1) := by decide +kernel
theorem dd_X12_image_67 : decode m_X12_image.2.1 67 = .ok (.aload_n 0, 1) := by decide +kernel
theorem dd_X12_image_68 : decode m_X12_image.2.1 68 = .ok (.invokevirtual 402, 3) := by decide +kernel
theorem dd_X12_image_71 : decode m_X12_image.2.1 71 = .ok (.imul, 1) := by decide +kernel
theorem dd_X12_image_72 : decode m_X12_image.2.1 72 = .ok (.if_icmp .ge 21, 3) := by decide +kernel
theorem dd_X12_image_75 : decode m_X12_image.2.1 75 = .ok (.aload_n 0, 1) := by decide +kernel
theorem dd_X12_image_76 : decode m_X12_image.2.1 76 = .ok (.aload_n 0, 1) := by decide +kernel
theorem dd_X12_image_77 : decode m_X12_image.2.1 77 = .ok (.getfield 121, 3) := by decide +kernel
theorem dd_X12_image_80 : decode m_X12_image.2.1 80 = .ok (.iconst 5, 1) := by decide +kernel
theorem dd_X12_image_81 : decode m_X12_image.2.1 81 = .ok (.iload_n 1, 1) := by decide +kernel
theorem dd_X12_image_82 : decode m_X12_image.2.1 82 = .ok (.iadd, 1) := by decide +kernel
theorem dd_X12_image_83 : decode m_X12_image.2.1 83 = .ok (.iaload, 1) := by decide +kernel
theorem dd_X12_image_84 : decode m_X12_image.2.1 84 = .ok (.invokevirtual 697, 3) := by decide +kernel
theorem dd_X12_image_87 : decode m_X12_image.2.1 87 = .ok (.iinc 1 1, 3) := by decide +kernel
theorem dd_X12_image_90 : decode m_X12_image.2.1 90 = .ok (.goto (-25), 3) := by decide +kernel
theorem dd_X12_image_93 : decode m_X12_image.2.1 93 = .ok (.aload_n 0, 1) := by decide +kernel
theorem dd_X12_image_94 : decode m_X12_image.2.1 94 = .ok (.aload_n 0, 1) := by decide +kernel
theorem dd_X12_image_95 : decode m_X12_image.2.1 95 = .ok (.getfield 246, 3) := by decide +kernel
theorem dd_X12_image_98 : decode m_X12_image.2.1 98 = .ok (.aload_n 0, 1) := by decide +kernel
theorem dd_X12_image_99 : decode m_X12_image.2.1 99 = .ok (.getfield 694, 3) := by decide +kernel
theorem dd_X12_image_102 : decode m_X12_image.2.1 102 = .ok (.invokestatic 703, 3) := by decide +kernel
theorem dd_X12_image_105 : decode m_X12_image.2.1 105 = .ok (.invokevirtual 697, 3) := by decide +kernel
theorem dd_X12_image_108 : decode m_X12_image.2.1 108 = .ok (.aload_n 0, 1) := by decide +kernel
theorem dd_X12_image_109 : decode m_X12_image.2.1 109 = .ok (.getfield 694, 3) := by decide +kernel
theorem dd_X12_image_112 : decode m_X12_image.2.1 112 = .ok (.ireturn, 1) := by decide +kernel
def nd_X12_image_65  (K65 : Int32 → fz_s → Prop) (Q : Int32 → fz_s → Prop) (v1 : Int32) (s : fz_s) : Prop :=
  wp_X12_personMany  s (fun r1 s2 => (((3 * r1) ≤ v1 → wp_X12_checked 272 33 (s2.1 196 111) s2 (fun r3 s4 => wp_X12_writes r3 s4 (fun s6 => Q (s6.1 196 111) s6))) ∧ (¬ (3 * r1) ≤ v1 → vp_in (5 + v1) 150 ∧ wp_X12_writes (s2.1 232 (5 + v1).toNatClampNeg) s2 (fun s8 => ∀ x9 : Int32, x9 = v1 + 1 → K65 x9 s8))))
def lp_X12_image_65   (Q : Int32 → fz_s → Prop) : Nat → Int32 → fz_s → Prop
  | 0 => fun _ _ => False
  | n + 1 => nd_X12_image_65  (lp_X12_image_65   Q n) Q
def nd_X12_image_17  (K17 : Int32 → fz_s → Prop) (Q : Int32 → fz_s → Prop) (v1 : Int32) (s : fz_s) : Prop :=
  ((2 ≤ v1 → lp_X12_image_65   Q 2048 0 s) ∧ (¬ 2 ≤ v1 → (((s.1 196 52) = 0 → lp_X12_image_65   Q 2048 0 s) ∧ (¬ (s.1 196 52) = 0 → vp_in (1 + (2 * v1)) 150 ∧ wp_X12_writesTwo (s.1 232 (1 + (2 * v1)).toNatClampNeg) s (fun s2 => vp_in (2 + (2 * v1)) 150 ∧ wp_X12_writes (s2.1 232 (2 + (2 * v1)).toNatClampNeg) s2 (fun s4 => ∀ x5 : Int32, x5 = v1 + 1 → K17 x5 s4))))))
def lp_X12_image_17   (Q : Int32 → fz_s → Prop) : Nat → Int32 → fz_s → Prop
  | 0 => fun _ _ => False
  | n + 1 => nd_X12_image_17  (lp_X12_image_17   Q n) Q
def wp_X12_image  (s : fz_s) (Q : Int32 → fz_s → Prop) : Prop :=
  ∀ s1 : fz_s, s1 = si s 196 111 0 → wp_X12_writesTwo (s1.1 232 (0 : Int32).toNatClampNeg) s1 (fun s3 => lp_X12_image_17   Q 2048 0 s3)
set_option maxRecDepth 100000 in
set_option maxHeartbeats 4000000 in
theorem V_nd_X12_image_65 {g : fz_G} {l : Launch} {d : Nat} (hD : 2 ≤ d)   {K65 : Int32 → fz_s → Prop} {Q : Int32 → fz_s → Prop} {v1 : Int32} {s : fz_s} (hK65 : ∀ {v1 : Int32} {s : fz_s}, K65 v1 s → fs_V g l m_X12_image d false 65 [.ref 196, .int v1] [] s (rI Q)) (H : nd_X12_image_65  K65 Q v1 s) : fs_V g l m_X12_image d false 65 [.ref 196, .int v1] [] s (rI Q) := by
  obtain ⟨d, rfl⟩ : ∃ e, d = e + 1 := ⟨d - 1, by omega⟩
  unfold nd_X12_image_65 at H
  refine fs_iload_n (k0 := 1) (i := 1) dd_X12_image_65 rfl rfl ?_
  refine fs_iconst (n := 3) (v := 3) dd_X12_image_66 (by decide) ?_
  refine fs_aload_n (k0 := 0) (i := 0) dd_X12_image_67 rfl rfl ?_
  refine fs_callV (y := m_X12_personMany) (as := []) dd_X12_image_68 me_X12_personMany lk_X12_402 in_X12_personMany se_X12_personMany ca_196 rfl rfl rfl (Nat.le_of_ble_eq_true rfl) (Nat.le_of_ble_eq_true rfl) rfl (V_X12_personMany (by omega)  H) (k2_I fun r1 s2 H => ?_)
  refine fs_imul dd_X12_image_71 ?_
  refine fs_icmp_ge (tgt := 93) dd_X12_image_72 (by decide) (fun hc => ?_) (fun hc => ?_)
  · replace H := H.1 hc
    refine fs_aload_n (k0 := 0) (i := 0) dd_X12_image_93 rfl rfl ?_
    refine fs_aload_n (k0 := 0) (i := 0) dd_X12_image_94 rfl rfl ?_
    refine fs_getr (ci := 12) (j := 110) (q := 272) dd_X12_image_95 fl_X12_246 ca_196 rfl (Or.inr ⟨_, rfl⟩) rfl (by decide) ?_
    refine fs_aload_n (k0 := 0) (i := 0) dd_X12_image_98 rfl rfl ?_
    refine fs_geti (ci := 12) (j := 111) dd_X12_image_99 fl_X12_694 ca_196 rfl (Or.inl rfl) ?_
    refine fs_callS (y := m_X12_checked) (as := [.ref 272, .int (s2.1 196 111)]) dd_X12_image_102 me_X12_checked (Or.inl lk_X12_703) st_X12_checked rfl (Nat.le_of_ble_eq_true rfl) (Nat.le_of_ble_eq_true rfl) rfl (V_X12_checked (by omega) ca_272 H) (k2_I fun r3 s4 H => ?_)
    refine fs_callV (y := m_X12_writes) (as := [.int r3]) dd_X12_image_105 me_X12_writes lk_X12_697 in_X12_writes se_X12_writes ca_196 rfl rfl rfl (Nat.le_of_ble_eq_true rfl) (Nat.le_of_ble_eq_true rfl) rfl (V_X12_writes (by omega)  H) (k2_V fun s6 H => ?_)
    refine fs_aload_n (k0 := 0) (i := 0) dd_X12_image_108 rfl rfl ?_
    refine fs_geti (ci := 12) (j := 111) dd_X12_image_109 fl_X12_694 ca_196 rfl (Or.inl rfl) ?_
    exact fs_iret dd_X12_image_112 rfl H
  · replace H := H.2 hc
    refine fs_aload_n (k0 := 0) (i := 0) dd_X12_image_75 rfl rfl ?_
    refine fs_aload_n (k0 := 0) (i := 0) dd_X12_image_76 rfl rfl ?_
    refine fs_getr (ci := 12) (j := 54) (q := 232) dd_X12_image_77 fl_X12_121 ca_196 rfl (Or.inr ⟨_, rfl⟩) rfl (by decide) ?_
    refine fs_iconst (n := 5) (v := 5) dd_X12_image_80 (by decide) ?_
    refine fs_iload_n (k0 := 1) (i := 1) dd_X12_image_81 rfl rfl ?_
    refine fs_iadd dd_X12_image_82 ?_
    have hb := H.1
    replace H := H.2
    refine fs_iald dd_X12_image_83 ca_232 hb ?_
    refine fs_callV (y := m_X12_writes) (as := [.int (s2.1 232 (5 + v1).toNatClampNeg)]) dd_X12_image_84 me_X12_writes lk_X12_697 in_X12_writes se_X12_writes ca_196 rfl rfl rfl (Nat.le_of_ble_eq_true rfl) (Nat.le_of_ble_eq_true rfl) rfl (V_X12_writes (by omega)  H) (k2_V fun s8 H => ?_)
    refine fs_iincN (i := 1) (m := 1) (c := 1) dd_X12_image_87 rfl (by decide) (by decide) (fun x9 hx9 => ?_)
    replace H := H x9 hx9
    refine fs_goto (tgt := 65) dd_X12_image_90 (by decide) ?_
    refine fs_weak (ls2 := [.ref 196, .int x9]) (fz_le_e (fz_le_e fz_le_n)) ?_
    exact hK65 H
set_option maxRecDepth 100000 in
set_option maxHeartbeats 4000000 in
theorem V_lp_X12_image_65 {g : fz_G} {l : Launch} {d : Nat} (hD : 2 ≤ d)    {Q : Int32 → fz_s → Prop}  (n : Nat) : ∀ {v1 : Int32} {s : fz_s}, lp_X12_image_65   Q n v1 s → fs_V g l m_X12_image d false 65 [.ref 196, .int v1] [] s (rI Q) := by
  induction n with
  | zero => intro v1 s H; exact H.elim
  | succ n ih => intro v1 s H; exact V_nd_X12_image_65 hD  (fun H => ih H) H
set_option maxRecDepth 100000 in
set_option maxHeartbeats 4000000 in
theorem V_nd_X12_image_17 {g : fz_G} {l : Launch} {d : Nat} (hD : 2 ≤ d)   {K17 : Int32 → fz_s → Prop} {Q : Int32 → fz_s → Prop} {v1 : Int32} {s : fz_s} (hK17 : ∀ {v1 : Int32} {s : fz_s}, K17 v1 s → fs_V g l m_X12_image d false 17 [.ref 196, .int v1] [] s (rI Q)) (H : nd_X12_image_17  K17 Q v1 s) : fs_V g l m_X12_image d false 17 [.ref 196, .int v1] [] s (rI Q) := by
  obtain ⟨d, rfl⟩ : ∃ e, d = e + 1 := ⟨d - 1, by omega⟩
  unfold nd_X12_image_17 at H
  refine fs_iload_n (k0 := 1) (i := 1) dd_X12_image_17 rfl rfl ?_
  refine fs_iconst (n := 2) (v := 2) dd_X12_image_18 (by decide) ?_
  refine fs_icmp_ge (tgt := 63) dd_X12_image_19 (by decide) (fun hc => ?_) (fun hc => ?_)
  · replace H := H.1 hc
    refine fs_iconst (n := 0) (v := 0) dd_X12_image_63 (by decide) ?_
    refine fs_istore_n (k0 := 1) (i := 1) dd_X12_image_64 rfl (by decide) ?_
    refine fs_weak (ls2 := [.ref 196, .int 0]) (fz_le_e (fz_le_e fz_le_n)) ?_
    exact V_lp_X12_image_65 hD    2048 H
  · replace H := H.2 hc
    refine fs_aload_n (k0 := 0) (i := 0) dd_X12_image_22 rfl rfl ?_
    refine fs_geti (ci := 12) (j := 52) dd_X12_image_23 fl_X12_386 ca_196 rfl (Or.inr rfl) ?_
    refine fs_if_eq (tgt := 63) dd_X12_image_26 (by decide) (fun hc => ?_) (fun hc => ?_)
    · replace H := H.1 hc
      refine fs_iconst (n := 0) (v := 0) dd_X12_image_63 (by decide) ?_
      refine fs_istore_n (k0 := 1) (i := 1) dd_X12_image_64 rfl (by decide) ?_
      refine fs_weak (ls2 := [.ref 196, .int 0]) (fz_le_e (fz_le_e fz_le_n)) ?_
      exact V_lp_X12_image_65 hD    2048 H
    · replace H := H.2 hc
      refine fs_aload_n (k0 := 0) (i := 0) dd_X12_image_29 rfl rfl ?_
      refine fs_aload_n (k0 := 0) (i := 0) dd_X12_image_30 rfl rfl ?_
      refine fs_getr (ci := 12) (j := 54) (q := 232) dd_X12_image_31 fl_X12_121 ca_196 rfl (Or.inr ⟨_, rfl⟩) rfl (by decide) ?_
      refine fs_iconst (n := 1) (v := 1) dd_X12_image_34 (by decide) ?_
      refine fs_iconst (n := 2) (v := 2) dd_X12_image_35 (by decide) ?_
      refine fs_iload_n (k0 := 1) (i := 1) dd_X12_image_36 rfl rfl ?_
      refine fs_imul dd_X12_image_37 ?_
      refine fs_iadd dd_X12_image_38 ?_
      have hb := H.1
      replace H := H.2
      refine fs_iald dd_X12_image_39 ca_232 hb ?_
      refine fs_callV (y := m_X12_writesTwo) (as := [.int (s.1 232 (1 + (2 * v1)).toNatClampNeg)]) dd_X12_image_40 me_X12_writesTwo lk_X12_700 in_X12_writesTwo se_X12_writesTwo ca_196 rfl rfl rfl (Nat.le_of_ble_eq_true rfl) (Nat.le_of_ble_eq_true rfl) rfl (V_X12_writesTwo (by omega)  H) (k2_V fun s2 H => ?_)
      refine fs_aload_n (k0 := 0) (i := 0) dd_X12_image_43 rfl rfl ?_
      refine fs_aload_n (k0 := 0) (i := 0) dd_X12_image_44 rfl rfl ?_
      refine fs_getr (ci := 12) (j := 54) (q := 232) dd_X12_image_45 fl_X12_121 ca_196 rfl (Or.inr ⟨_, rfl⟩) rfl (by decide) ?_
      refine fs_iconst (n := 2) (v := 2) dd_X12_image_48 (by decide) ?_
      refine fs_iconst (n := 2) (v := 2) dd_X12_image_49 (by decide) ?_
      refine fs_iload_n (k0 := 1) (i := 1) dd_X12_image_50 rfl rfl ?_
      refine fs_imul dd_X12_image_51 ?_
      refine fs_iadd dd_X12_image_52 ?_
      have hb := H.1
      replace H := H.2
      refine fs_iald dd_X12_image_53 ca_232 hb ?_
      refine fs_callV (y := m_X12_writes) (as := [.int (s2.1 232 (2 + (2 * v1)).toNatClampNeg)]) dd_X12_image_54 me_X12_writes lk_X12_697 in_X12_writes se_X12_writes ca_196 rfl rfl rfl (Nat.le_of_ble_eq_true rfl) (Nat.le_of_ble_eq_true rfl) rfl (V_X12_writes (by omega)  H) (k2_V fun s4 H => ?_)
      refine fs_iincN (i := 1) (m := 1) (c := 1) dd_X12_image_57 rfl (by decide) (by decide) (fun x5 hx5 => ?_)
      replace H := H x5 hx5
      refine fs_goto (tgt := 17) dd_X12_image_60 (by decide) ?_
      refine fs_weak (ls2 := [.ref 196, .int x5]) (fz_le_e (fz_le_e fz_le_n)) ?_
      exact hK17 H
set_option maxRecDepth 100000 in
set_option maxHeartbeats 4000000 in
theorem V_lp_X12_image_17 {g : fz_G} {l : Launch} {d : Nat} (hD : 2 ≤ d)    {Q : Int32 → fz_s → Prop}  (n : Nat) : ∀ {v1 : Int32} {s : fz_s}, lp_X12_image_17   Q n v1 s → fs_V g l m_X12_image d false 17 [.ref 196, .int v1] [] s (rI Q) := by
  induction n with
  | zero => intro v1 s H; exact H.elim
  | succ n ih => intro v1 s H; exact V_nd_X12_image_17 hD  (fun H => ih H) H
set_option maxRecDepth 100000 in
set_option maxHeartbeats 4000000 in
theorem V_X12_image {g : fz_G} {l : Launch} {d : Nat} (hD : 2 ≤ d)   {s : fz_s} {Q : Int32 → fz_s → Prop} (H : wp_X12_image  s Q) : fs_V g l m_X12_image d false 0 (fz_en [.ref 196] 2) [] s (rI Q) := by
  obtain ⟨d, rfl⟩ : ∃ e, d = e + 1 := ⟨d - 1, by omega⟩
  unfold wp_X12_image at H
  refine fs_aload_n (k0 := 0) (i := 0) dd_X12_image_0 rfl rfl ?_
  refine fs_iconst (n := 0) (v := 0) dd_X12_image_1 (by decide) ?_
  refine fs_puti (ci := 12) (j := 111) dd_X12_image_2 fl_X12_694 (fun _ _ _ h => by cases h; rfl) ca_196 rfl (Or.inl rfl) ?_
  refine fs_tops (fun s1 hs1 => ?_)
  replace H := H s1 hs1
  refine fs_aload_n (k0 := 0) (i := 0) dd_X12_image_5 rfl rfl ?_
  refine fs_aload_n (k0 := 0) (i := 0) dd_X12_image_6 rfl rfl ?_
  refine fs_getr (ci := 12) (j := 54) (q := 232) dd_X12_image_7 fl_X12_121 ca_196 rfl (Or.inr ⟨_, rfl⟩) rfl (by decide) ?_
  refine fs_iconst (n := 0) (v := 0) dd_X12_image_10 (by decide) ?_
  refine fs_iald dd_X12_image_11 ca_232 (vp_in_nI (n := 0) (by decide) (by decide)) ?_
  refine fs_callV (y := m_X12_writesTwo) (as := [.int (s1.1 232 (0 : Int32).toNatClampNeg)]) dd_X12_image_12 me_X12_writesTwo lk_X12_700 in_X12_writesTwo se_X12_writesTwo ca_196 rfl rfl rfl (Nat.le_of_ble_eq_true rfl) (Nat.le_of_ble_eq_true rfl) rfl (V_X12_writesTwo (by omega)  H) (k2_V fun s3 H => ?_)
  refine fs_iconst (n := 0) (v := 0) dd_X12_image_15 (by decide) ?_
  refine fs_istore_n (k0 := 1) (i := 1) dd_X12_image_16 rfl (by decide) ?_
  refine fs_weak (ls2 := [.ref 196, .int 0]) (fz_le_e (fz_le_e fz_le_n)) ?_
  exact V_lp_X12_image_17 hD    2048 H
theorem dd_X12_octet_0 : decode m_X12_octet.2.1 0 = .ok (.iload_n 1, 1) := by decide +kernel
theorem dd_X12_octet_1 : decode m_X12_octet.2.1 1 = .ok (.ifCond .lt 20, 3) := by decide +kernel
theorem dd_X12_octet_4 : decode m_X12_octet.2.1 4 = .ok (.iload_n 1, 1) := by decide +kernel
theorem dd_X12_octet_5 : decode m_X12_octet.2.1 5 = .ok (.aload_n 0, 1) := by decide +kernel
theorem dd_X12_octet_6 : decode m_X12_octet.2.1 6 = .ok (.getfield 694, 3) := by decide +kernel
theorem dd_X12_octet_9 : decode m_X12_octet.2.1 9 = .ok (.if_icmp .ge 12, 3) := by decide +kernel
theorem dd_X12_octet_12 : decode m_X12_octet.2.1 12 = .ok (.aload_n 0, 1) := by decide +kernel
theorem dd_X12_octet_13 : decode m_X12_octet.2.1 13 = .ok (.getfield 246, 3) := by decide +kernel
theorem dd_X12_octet_16 : decode m_X12_octet.2.1 16 = .ok (.iload_n 1, 1) := by decide +kernel
theorem dd_X12_octet_17 : decode m_X12_octet.2.1 17 = .ok (.iaload, 1) := by decide +kernel
theorem dd_X12_octet_18 : decode m_X12_octet.2.1 18 = .ok (.goto 4, 3) := by decide +kernel
theorem dd_X12_octet_21 : decode m_X12_octet.2.1 21 = .ok (.iconst (-1), 1) := by decide +kernel
theorem dd_X12_octet_22 : decode m_X12_octet.2.1 22 = .ok (.ireturn, 1) := by decide +kernel
def wp_X12_octet (p0 : Int32) (s : fz_s) (Q : Int32 → fz_s → Prop) : Prop :=
  ((p0 < 0 → Q (-1) s) ∧ (¬ p0 < 0 → (((s.1 196 111) ≤ p0 → Q (-1) s) ∧ (¬ (s.1 196 111) ≤ p0 → vp_in p0 33 ∧ Q (s.1 272 p0.toNatClampNeg) s))))
set_option maxRecDepth 100000 in
set_option maxHeartbeats 4000000 in
theorem V_X12_octet {g : fz_G} {l : Launch} {d : Nat} (hD : 0 ≤ d) {p0 : Int32}  {s : fz_s} {Q : Int32 → fz_s → Prop} (H : wp_X12_octet p0 s Q) : fs_V g l m_X12_octet d false 0 (fz_en [.ref 196, .int p0] 2) [] s (rI Q) := by
  unfold wp_X12_octet at H
  refine fs_iload_n (k0 := 1) (i := 1) dd_X12_octet_0 rfl rfl ?_
  refine fs_if_lt (tgt := 21) dd_X12_octet_1 (by decide) (fun hc => ?_) (fun hc => ?_)
  · replace H := H.1 hc
    refine fs_iconst (n := -1) (v := -1) dd_X12_octet_21 (by decide) ?_
    exact fs_iret dd_X12_octet_22 rfl H
  · replace H := H.2 hc
    refine fs_iload_n (k0 := 1) (i := 1) dd_X12_octet_4 rfl rfl ?_
    refine fs_aload_n (k0 := 0) (i := 0) dd_X12_octet_5 rfl rfl ?_
    refine fs_geti (ci := 12) (j := 111) dd_X12_octet_6 fl_X12_694 ca_196 rfl (Or.inl rfl) ?_
    refine fs_icmp_ge (tgt := 21) dd_X12_octet_9 (by decide) (fun hc => ?_) (fun hc => ?_)
    · replace H := H.1 hc
      refine fs_iconst (n := -1) (v := -1) dd_X12_octet_21 (by decide) ?_
      exact fs_iret dd_X12_octet_22 rfl H
    · replace H := H.2 hc
      refine fs_aload_n (k0 := 0) (i := 0) dd_X12_octet_12 rfl rfl ?_
      refine fs_getr (ci := 12) (j := 110) (q := 272) dd_X12_octet_13 fl_X12_246 ca_196 rfl (Or.inr ⟨_, rfl⟩) rfl (by decide) ?_
      refine fs_iload_n (k0 := 1) (i := 1) dd_X12_octet_16 rfl rfl ?_
      have hb := H.1
      replace H := H.2
      refine fs_iald dd_X12_octet_17 ca_272 hb ?_
      refine fs_goto (tgt := 22) dd_X12_octet_18 (by decide) ?_
      exact fs_iret dd_X12_octet_22 rfl H
theorem dd_X12_isImage_0 : decode m_X12_isImage.2.1 0 = .ok (.aload_n 0, 1) := by decide +kernel
theorem dd_X12_isImage_1 : decode m_X12_isImage.2.1 1 = .ok (.getfield 386, 3) := by decide +kernel
theorem dd_X12_isImage_4 : decode m_X12_isImage.2.1 4 = .ok (.ifCond .eq 48, 3) := by decide +kernel
theorem dd_X12_isImage_7 : decode m_X12_isImage.2.1 7 = .ok (.iload_n 1, 1) := by decide +kernel
theorem dd_X12_isImage_8 : decode m_X12_isImage.2.1 8 = .ok (.bipush 9, 2) := by decide +kernel
theorem dd_X12_isImage_10 : decode m_X12_isImage.2.1 10 = .ok (.iconst 3, 1) := by decide +kernel
theorem dd_X12_isImage_11 : decode m_X12_isImage.2.1 11 = .ok (.aload_n 0, 1) := by decide +kernel
theorem dd_X12_isImage_12 : decode m_X12_isImage.2.1 12 = .ok (.invokevirtual 402, 3) := by decide +kernel
theorem dd_X12_isImage_15 : decode m_X12_isImage.2.1 15 = .ok (.imul, 1) := by decide +kernel
theorem dd_X12_isImage_16 : decode m_X12_isImage.2.1 16 = .ok (.iadd, 1) := by decide +kernel
theorem dd_X12_isImage_17 : decode m_X12_isImage.2.1 17 = .ok (.if_icmp .ne 35, 3) := by decide +kernel
theorem dd_X12_isImage_20 : decode m_X12_isImage.2.1 20 = .ok (.aload_n 0, 1) := by decide +kernel
theorem dd_X12_isImage_21 : decode m_X12_isImage.2.1 21 = .ok (.getfield 7, 3) := by decide +kernel
theorem dd_X12_isImage_24 : decode m_X12_isImage.2.1 24 = .ok (.iload_n 1, 1) := by decide +kernel
theorem dd_X12_isImage_25 : decode m_X12_isImage.2.1 25 = .ok (.iconst 1, 1) := by decide +kernel
theorem dd_X12_isImage_26 : decode m_X12_isImage.2.1 26 = .ok (.isub, 1) := by decide +kernel
theorem dd_X12_isImage_27 : decode m_X12_isImage.2.1 27 = .ok (.iaload, 1) := by decide +kernel
theorem dd_X12_isImage_28 : decode m_X12_isImage.2.1 28 = .ok (.aload_n 0, 1) := by decide +kernel
theorem dd_X12_isImage_29 : decode m_X12_isImage.2.1 29 = .ok (.getfield 7, 3) := by decide +kernel
theorem dd_X12_isImage_32 : decode m_X12_isImage.2.1 32 = .ok (.iload_n 1, 1) := by decide +kernel
theorem dd_X12_isImage_33 : decode m_X12_isImage.2.1 33 = .ok (.iconst 1, 1) := by decide +kernel
theorem dd_X12_isImage_34 : decode m_X12_isImage.2.1 34 = .ok (.isub, 1) := by decide +kernel
theorem dd_X12_isImage_35 : decode m_X12_isImage.2.1 35 = .ok (.invokestatic 703, 3) := by decide +kernel
theorem dd_X12_isImage_38 : decode m_X12_isImage.2.1 38 = .ok (.if_icmp .ne 14, 3) := by decide +kernel
theorem dd_X12_isImage_41 : decode m_X12_isImage.2.1 41 = .ok (.aload_n 0, 1) := by decide +kernel
theorem dd_X12_isImage_42 : decode m_X12_isImage.2.1 42 = .ok (.iconst 0, 1) := by decide +kernel
theorem dd_X12_isImage_43 : decode m_X12_isImage.2.1 43 = .ok (.invokevirtual 568, 3) := by decide +kernel
theorem dd_X12_isImage_46 : decode m_X12_isImage.2.1 46 = .ok (.sipush 999, 3) := by decide +kernel
theorem dd_X12_isImage_49 : decode m_X12_isImage.2.1 49 = .ok (.if_icmp .le 5, 3) := by decide +kernel
theorem dd_X12_isImage_52 : decode m_X12_isImage.2.1 52 = .ok (.iconst 0, 1) := by decide +kernel
theorem dd_X12_isImage_53 : decode m_X12_isImage.2.1 53 = .ok (.ireturn, 1) := by decide +kernel
theorem dd_X12_isImage_54 : decode m_X12_isImage.2.1 54 = .ok (.iconst 2, 1) := by decide +kernel
theorem dd_X12_isImage_55 : decode m_X12_isImage.2.1 55 = .ok (.istore_n 2, 1) := by decide +kernel
theorem dd_X12_isImage_56 : decode m_X12_isImage.2.1 56 = .ok (.iload_n 2, 1) := by decide +kernel
theorem dd_X12_isImage_57 : decode m_X12_isImage.2.1 57 = .ok (.bipush 8, 2) := by decide +kernel
theorem dd_X12_isImage_59 : decode m_X12_isImage.2.1 59 = .ok (.if_icmp .ge 35, 3) := by decide +kernel
theorem dd_X12_isImage_62 : decode m_X12_isImage.2.1 62 = .ok (.aload_n 0, 1) := by decide +kernel
theorem dd_X12_isImage_63 : decode m_X12_isImage.2.1 63 = .ok (.iload_n 2, 1) := by decide +kernel
theorem dd_X12_isImage_64 : decode m_X12_isImage.2.1 64 = .ok (.invokevirtual 568, 3) := by decide +kernel
theorem dd_X12_isImage_67 : decode m_X12_isImage.2.1 67 = .ok (.sipush 999, 3) := by decide +kernel
theorem dd_X12_isImage_70 : decode m_X12_isImage.2.1 70 = .ok (.if_icmp .gt 16, 3) := by decide +kernel
theorem dd_X12_isImage_73 : decode m_X12_isImage.2.1 73 = .ok (.aload_n 0, 1) := by decide +kernel
theorem dd_X12_isImage_74 : decode m_X12_isImage.2.1 74 = .ok (.getfield 7, 3) := by decide +kernel
theorem dd_X12_isImage_77 : decode m_X12_isImage.2.1 77 = .ok (.iload_n 2, 1) := by decide +kernel
theorem dd_X12_isImage_78 : decode m_X12_isImage.2.1 78 = .ok (.iconst 2, 1) := by decide +kernel
theorem dd_X12_isImage_79 : decode m_X12_isImage.2.1 79 = .ok (.iadd, 1) := by decide +kernel
theorem dd_X12_isImage_80 : decode m_X12_isImage.2.1 80 = .ok (.iaload, 1) := by decide +kernel
theorem dd_X12_isImage_81 : decode m_X12_isImage.2.1 81 = .ok (.bipush 99, 2) := by decide +kernel
theorem dd_X12_isImage_83 : decode m_X12_isImage.2.1 83 = .ok (.if_icmp .le 5, 3) := by decide +kernel
theorem dd_X12_isImage_86 : decode m_X12_isImage.2.1 86 = .ok (.iconst 0, 1) := by decide +kernel
theorem dd_X12_isImage_87 : decode m_X12_isImage.2.1 87 = .ok (.ireturn, 1) := by decide +kernel
theorem dd_X12_isImage_88 : decode m_X12_isImage.2.1 88 = .ok (.iinc 2 3, 3) := by decide +kernel
theorem dd_X12_isImage_91 : decode m_X12_isImage.2.1 91 = .ok (.goto (-35), 3) := by decide +kernel
theorem dd_X12_isImage_94 : decode m_X12_isImage.2.1 94 = .ok (.bipush 8, 2) := by decide +kernel
theorem dd_X12_isImage_96 : decode m_X12_isImage.2.1 96 = .ok (.istore_n 2, 1) := by decide +kernel
theorem dd_X12_isImage_97 : decode m_X12_isImage.2.1 97 = .ok (.iload_n 2, 1) := by decide +kernel
theorem dd_X12_isImage_98 : decode m_X12_isImage.2.1 98 = .ok (.iload_n 1, 1) := by decide +kernel
theorem dd_X12_isImage_99 : decode m_X12_isImage.2.1 99 = .ok (.iconst 1, 1) := by decide +kernel
theorem dd_X12_isImage_100 : decode m_X12_isImage.2.1 100 = .ok (.isub, 1) := by decide +kernel
theorem dd_X12_isImage_101 : decode m_X12_isImage.2.1 101 = .ok (.if_icmp .ge 63, 3) := by decide +kernel
theorem dd_X12_isImage_104 : decode m_X12_isImage.2.1 104 = .ok (.aload_n 0, 1) := by decide +kernel
theorem dd_X12_isImage_105 : decode m_X12_isImage.2.1 105 = .ok (.getfield 7, 3) := by decide +kernel
theorem dd_X12_isImage_108 : decode m_X12_isImage.2.1 108 = .ok (.iload_n 2, 1) := by decide +kernel
theorem dd_X12_isImage_109 : decode m_X12_isImage.2.1 109 = .ok (.iaload, 1) := by decide +kernel
theorem dd_X12_isImage_110 : decode m_X12_isImage.2.1 110 = .ok (.bipush 9, 2) := by decide +kernel
theorem dd_X12_isImage_112 : decode m_X12_isImage.2.1 112 = .ok (.if_icmp .gt 44, 3) := by decide +kernel
theorem dd_X12_isImage_115 : decode m_X12_isImage.2.1 115 = .ok (.aload_n 0, 1) := by decide +kernel
theorem dd_X12_isImage_116 : decode m_X12_isImage.2.1 116 = .ok (.getfield 7, 3) := by decide +kernel
theorem dd_X12_isImage_119 : decode m_X12_isImage.2.1 119 = .ok (.iload_n 2, 1) := by decide +kernel
theorem dd_X12_isImage_120 : decode m_X12_isImage.2.1 120 = .ok (.iconst 1, 1) := by decide +kernel
theorem dd_X12_isImage_121 : decode m_X12_isImage.2.1 121 = .ok (.iadd, 1) := by decide +kernel
theorem dd_X12_isImage_122 : decode m_X12_isImage.2.1 122 = .ok (.iaload, 1) := by decide +kernel
theorem dd_X12_isImage_123 : decode m_X12_isImage.2.1 123 = .ok (.iconst 1, 1) := by decide +kernel
theorem dd_X12_isImage_124 : decode m_X12_isImage.2.1 124 = .ok (.if_icmp .gt 32, 3) := by decide +kernel
theorem dd_X12_isImage_127 : decode m_X12_isImage.2.1 127 = .ok (.aload_n 0, 1) := by decide +kernel
theorem dd_X12_isImage_128 : decode m_X12_isImage.2.1 128 = .ok (.getfield 7, 3) := by decide +kernel
theorem dd_X12_isImage_131 : decode m_X12_isImage.2.1 131 = .ok (.iload_n 2, 1) := by decide +kernel
theorem dd_X12_isImage_132 : decode m_X12_isImage.2.1 132 = .ok (.iconst 2, 1) := by decide +kernel
theorem dd_X12_isImage_133 : decode m_X12_isImage.2.1 133 = .ok (.iadd, 1) := by decide +kernel
theorem dd_X12_isImage_134 : decode m_X12_isImage.2.1 134 = .ok (.iaload, 1) := by decide +kernel
theorem dd_X12_isImage_135 : decode m_X12_isImage.2.1 135 = .ok (.aload_n 0, 1) := by decide +kernel
theorem dd_X12_isImage_136 : decode m_X12_isImage.2.1 136 = .ok (.getfield 7, 3) := by decide +kernel
theorem dd_X12_isImage_139 : decode m_X12_isImage.2.1 139 = .ok (.iload_n 2, 1) := by decide +kernel
theorem dd_X12_isImage_140 : decode m_X12_isImage.2.1 140 = .ok (.iconst 1, 1) := by decide +kernel
theorem dd_X12_isImage_141 : decode m_X12_isImage.2.1 141 = .ok (.iadd, 1) := by decide +kernel
theorem dd_X12_isImage_142 : decode m_X12_isImage.2.1 142 = .ok (.iaload, 1) := by decide +kernel
theorem dd_X12_isImage_143 : decode m_X12_isImage.2.1 143 = .ok (.iconst 1, 1) := by decide +kernel
theorem dd_X12_isImage_144 : decode m_X12_isImage.2.1 144 = .ok (.if_icmp .ne 8, 3) := by decide +kernel
theorem dd_X12_isImage_147 : decode m_X12_isImage.2.1 147 = .ok (.bipush 99, 2) := by decide +kernel
theorem dd_X12_isImage_149 : decode m_X12_isImage.2.1 149 = .ok (.goto 4, 3) := by decide +kernel
theorem dd_X12_isImage_152 : decode m_X12_isImage.2.1 152 = .ok (.iconst 0, 1) := by decide +kernel
theorem dd_X12_isImage_153 : decode m_X12_isImage.2.1 153 = .ok (.if_icmp .le 5, 3) := by decide +kernel
theorem dd_X12_isImage_156 : decode m_X12_isImage.2.1 156 = .ok (.iconst 0, 1) := by decide +kernel
theorem dd_X12_isImage_157 : decode m_X12_isImage.2.1 157 = .ok (.ireturn, 1) := by decide +kernel
theorem dd_X12_isImage_158 : decode m_X12_isImage.2.1 158 = .ok (.iinc 2 3, 3) := by decide +kernel
theorem dd_X12_isImage_161 : decode m_X12_isImage.2.1 161 = .ok (.goto (-64), 3) := by decide +kernel
theorem dd_X12_isImage_164 : decode m_X12_isImage.2.1 164 = .ok (.iconst 1, 1) := by decide +kernel
theorem dd_X12_isImage_165 : decode m_X12_isImage.2.1 165 = .ok (.ireturn, 1) := by decide +kernel
def nd_X12_isImage_153  (K97 : Int32 → Int32 → fz_s → Prop) (Q : Bool → fz_s → Prop) (v1 : Int32) (v2 : Int32) (u0 : Int32) (u1 : Int32) (s : fz_s) : Prop :=
  ((u1 ≤ u0 → ∀ x1 : Int32, x1 = v2 + 3 → K97 v1 x1 s) ∧ (¬ u1 ≤ u0 → Q false s))
def nd_X12_isImage_97  (K97 : Int32 → Int32 → fz_s → Prop) (Q : Bool → fz_s → Prop) (v1 : Int32) (v2 : Int32) (s : fz_s) : Prop :=
  (((v1 - 1) ≤ v2 → Q true s) ∧ (¬ (v1 - 1) ≤ v2 → vp_in v2 1600 ∧ ((9 < (s.1 197 v2.toNatClampNeg) → Q false s) ∧ (¬ 9 < (s.1 197 v2.toNatClampNeg) → vp_in (v2 + 1) 1600 ∧ ((1 < (s.1 197 (v2 + 1).toNatClampNeg) → Q false s) ∧ (¬ 1 < (s.1 197 (v2 + 1).toNatClampNeg) → vp_in (v2 + 2) 1600 ∧ vp_in (v2 + 1) 1600 ∧ ((¬ (s.1 197 (v2 + 1).toNatClampNeg) = 1 → nd_X12_isImage_153  K97 Q v1 v2 0 (s.1 197 (v2 + 2).toNatClampNeg) s) ∧ ((s.1 197 (v2 + 1).toNatClampNeg) = 1 → nd_X12_isImage_153  K97 Q v1 v2 99 (s.1 197 (v2 + 2).toNatClampNeg) s))))))))
def lp_X12_isImage_97   (Q : Bool → fz_s → Prop) : Nat → Int32 → Int32 → fz_s → Prop
  | 0 => fun _ _ _ => False
  | n + 1 => nd_X12_isImage_97  (lp_X12_isImage_97   Q n) Q
def nd_X12_isImage_56  (K56 : Int32 → Int32 → fz_s → Prop) (Q : Bool → fz_s → Prop) (v1 : Int32) (v2 : Int32) (s : fz_s) : Prop :=
  ((8 ≤ v2 → lp_X12_isImage_97   Q 2048 v1 8 s) ∧ (¬ 8 ≤ v2 → wp_X12_twoAt v2 s (fun r1 s2 => ((999 < r1 → Q false s2) ∧ (¬ 999 < r1 → vp_in (v2 + 2) 1600 ∧ (((s2.1 197 (v2 + 2).toNatClampNeg) ≤ 99 → ∀ x3 : Int32, x3 = v2 + 3 → K56 v1 x3 s2) ∧ (¬ (s2.1 197 (v2 + 2).toNatClampNeg) ≤ 99 → Q false s2)))))))
def lp_X12_isImage_56   (Q : Bool → fz_s → Prop) : Nat → Int32 → Int32 → fz_s → Prop
  | 0 => fun _ _ _ => False
  | n + 1 => nd_X12_isImage_56  (lp_X12_isImage_56   Q n) Q
def wp_X12_isImage (p0 : Int32) (s : fz_s) (Q : Bool → fz_s → Prop) : Prop :=
  (((s.1 196 52) = 0 → Q false s) ∧ (¬ (s.1 196 52) = 0 → wp_X12_personMany  s (fun r1 s2 => ((¬ p0 = (9 + (3 * r1)) → Q false s2) ∧ (p0 = (9 + (3 * r1)) → vp_in (p0 - 1) 1600 ∧ wp_X12_checked 197 1600 (p0 - 1) s2 (fun r3 s4 => ((¬ (s2.1 197 (p0 - 1).toNatClampNeg) = r3 → Q false s4) ∧ ((s2.1 197 (p0 - 1).toNatClampNeg) = r3 → wp_X12_twoAt 0 s4 (fun r5 s6 => ((r5 ≤ 999 → lp_X12_isImage_56   Q 2048 p0 2 s6) ∧ (¬ r5 ≤ 999 → Q false s6)))))))))))
set_option maxRecDepth 100000 in
set_option maxHeartbeats 4000000 in
theorem V_nd_X12_isImage_153 {g : fz_G} {l : Launch} {d : Nat} (hD : 1 ≤ d)   {K97 : Int32 → Int32 → fz_s → Prop} {Q : Bool → fz_s → Prop} {v1 : Int32} {v2 : Int32} {u0 : Int32} {u1 : Int32} {s : fz_s} (hK97 : ∀ {v1 : Int32} {v2 : Int32} {s : fz_s}, K97 v1 v2 s → fs_V g l m_X12_isImage d false 97 [.ref 196, .int v1, .int v2] [] s (rZ Q)) (H : nd_X12_isImage_153  K97 Q v1 v2 u0 u1 s) : fs_V g l m_X12_isImage d false 153 [.ref 196, .int v1, .int v2] [.int u0, .int u1] s (rZ Q) := by
  obtain ⟨d, rfl⟩ : ∃ e, d = e + 1 := ⟨d - 1, by omega⟩
  unfold nd_X12_isImage_153 at H
  refine fs_icmp_le (tgt := 158) dd_X12_isImage_153 (by decide) (fun hc => ?_) (fun hc => ?_)
  · replace H := H.1 hc
    refine fs_iincN (i := 2) (m := 3) (c := 3) dd_X12_isImage_158 rfl (by decide) (by decide) (fun x1 hx1 => ?_)
    replace H := H x1 hx1
    refine fs_goto (tgt := 97) dd_X12_isImage_161 (by decide) ?_
    refine fs_weak (ls2 := [.ref 196, .int v1, .int x1]) (fz_le_e (fz_le_e (fz_le_e fz_le_n))) ?_
    exact hK97 H
  · replace H := H.2 hc
    refine fs_iconst (n := 0) (v := 0) dd_X12_isImage_156 (by decide) ?_
    exact fs_zret false dd_X12_isImage_157 rfl rfl H
set_option maxRecDepth 100000 in
set_option maxHeartbeats 4000000 in
theorem V_nd_X12_isImage_97 {g : fz_G} {l : Launch} {d : Nat} (hD : 1 ≤ d)   {K97 : Int32 → Int32 → fz_s → Prop} {Q : Bool → fz_s → Prop} {v1 : Int32} {v2 : Int32} {s : fz_s} (hK97 : ∀ {v1 : Int32} {v2 : Int32} {s : fz_s}, K97 v1 v2 s → fs_V g l m_X12_isImage d false 97 [.ref 196, .int v1, .int v2] [] s (rZ Q)) (H : nd_X12_isImage_97  K97 Q v1 v2 s) : fs_V g l m_X12_isImage d false 97 [.ref 196, .int v1, .int v2] [] s (rZ Q) := by
  obtain ⟨d, rfl⟩ : ∃ e, d = e + 1 := ⟨d - 1, by omega⟩
  unfold nd_X12_isImage_97 at H
  refine fs_iload_n (k0 := 2) (i := 2) dd_X12_isImage_97 rfl rfl ?_
  refine fs_iload_n (k0 := 1) (i := 1) dd_X12_isImage_98 rfl rfl ?_
  refine fs_iconst (n := 1) (v := 1) dd_X12_isImage_99 (by decide) ?_
  refine fs_isub dd_X12_isImage_100 ?_
  refine fs_icmp_ge (tgt := 164) dd_X12_isImage_101 (by decide) (fun hc => ?_) (fun hc => ?_)
  · replace H := H.1 hc
    refine fs_iconst (n := 1) (v := 1) dd_X12_isImage_164 (by decide) ?_
    exact fs_zret true dd_X12_isImage_165 rfl rfl H
  · replace H := H.2 hc
    refine fs_aload_n (k0 := 0) (i := 0) dd_X12_isImage_104 rfl rfl ?_
    refine fs_getr (ci := 12) (j := 0) (q := 197) dd_X12_isImage_105 fl_X12_7 ca_196 rfl (Or.inr ⟨_, rfl⟩) rfl (by decide) ?_
    refine fs_iload_n (k0 := 2) (i := 2) dd_X12_isImage_108 rfl rfl ?_
    have hb := H.1
    replace H := H.2
    refine fs_iald dd_X12_isImage_109 ca_197 hb ?_
    refine fs_bipush (n := 9) (v := 9) dd_X12_isImage_110 (by decide) ?_
    refine fs_icmp_gt (tgt := 156) dd_X12_isImage_112 (by decide) (fun hc => ?_) (fun hc => ?_)
    · replace H := H.1 hc
      refine fs_iconst (n := 0) (v := 0) dd_X12_isImage_156 (by decide) ?_
      exact fs_zret false dd_X12_isImage_157 rfl rfl H
    · replace H := H.2 hc
      refine fs_aload_n (k0 := 0) (i := 0) dd_X12_isImage_115 rfl rfl ?_
      refine fs_getr (ci := 12) (j := 0) (q := 197) dd_X12_isImage_116 fl_X12_7 ca_196 rfl (Or.inr ⟨_, rfl⟩) rfl (by decide) ?_
      refine fs_iload_n (k0 := 2) (i := 2) dd_X12_isImage_119 rfl rfl ?_
      refine fs_iconst (n := 1) (v := 1) dd_X12_isImage_120 (by decide) ?_
      refine fs_iadd dd_X12_isImage_121 ?_
      have hb := H.1
      replace H := H.2
      refine fs_iald dd_X12_isImage_122 ca_197 hb ?_
      refine fs_iconst (n := 1) (v := 1) dd_X12_isImage_123 (by decide) ?_
      refine fs_icmp_gt (tgt := 156) dd_X12_isImage_124 (by decide) (fun hc => ?_) (fun hc => ?_)
      · replace H := H.1 hc
        refine fs_iconst (n := 0) (v := 0) dd_X12_isImage_156 (by decide) ?_
        exact fs_zret false dd_X12_isImage_157 rfl rfl H
      · replace H := H.2 hc
        refine fs_aload_n (k0 := 0) (i := 0) dd_X12_isImage_127 rfl rfl ?_
        refine fs_getr (ci := 12) (j := 0) (q := 197) dd_X12_isImage_128 fl_X12_7 ca_196 rfl (Or.inr ⟨_, rfl⟩) rfl (by decide) ?_
        refine fs_iload_n (k0 := 2) (i := 2) dd_X12_isImage_131 rfl rfl ?_
        refine fs_iconst (n := 2) (v := 2) dd_X12_isImage_132 (by decide) ?_
        refine fs_iadd dd_X12_isImage_133 ?_
        have hb := H.1
        replace H := H.2
        refine fs_iald dd_X12_isImage_134 ca_197 hb ?_
        refine fs_aload_n (k0 := 0) (i := 0) dd_X12_isImage_135 rfl rfl ?_
        refine fs_getr (ci := 12) (j := 0) (q := 197) dd_X12_isImage_136 fl_X12_7 ca_196 rfl (Or.inr ⟨_, rfl⟩) rfl (by decide) ?_
        refine fs_iload_n (k0 := 2) (i := 2) dd_X12_isImage_139 rfl rfl ?_
        refine fs_iconst (n := 1) (v := 1) dd_X12_isImage_140 (by decide) ?_
        refine fs_iadd dd_X12_isImage_141 ?_
        have hb := H.1
        replace H := H.2
        refine fs_iald dd_X12_isImage_142 ca_197 hb ?_
        refine fs_iconst (n := 1) (v := 1) dd_X12_isImage_143 (by decide) ?_
        refine fs_icmp_ne (tgt := 152) dd_X12_isImage_144 (by decide) (fun hc => ?_) (fun hc => ?_)
        · replace H := H.1 hc
          refine fs_iconst (n := 0) (v := 0) dd_X12_isImage_152 (by decide) ?_
          refine fs_weak (ls2 := [.ref 196, .int v1, .int v2]) (fz_le_e (fz_le_e (fz_le_e fz_le_n))) ?_
          exact V_nd_X12_isImage_153 hD   hK97 H
        · replace H := H.2 hc
          refine fs_bipush (n := 99) (v := 99) dd_X12_isImage_147 (by decide) ?_
          refine fs_goto (tgt := 153) dd_X12_isImage_149 (by decide) ?_
          refine fs_weak (ls2 := [.ref 196, .int v1, .int v2]) (fz_le_e (fz_le_e (fz_le_e fz_le_n))) ?_
          exact V_nd_X12_isImage_153 hD   hK97 H
set_option maxRecDepth 100000 in
set_option maxHeartbeats 4000000 in
theorem V_lp_X12_isImage_97 {g : fz_G} {l : Launch} {d : Nat} (hD : 1 ≤ d)    {Q : Bool → fz_s → Prop}  (n : Nat) : ∀ {v1 : Int32} {v2 : Int32} {s : fz_s}, lp_X12_isImage_97   Q n v1 v2 s → fs_V g l m_X12_isImage d false 97 [.ref 196, .int v1, .int v2] [] s (rZ Q) := by
  induction n with
  | zero => intro v1 v2 s H; exact H.elim
  | succ n ih => intro v1 v2 s H; exact V_nd_X12_isImage_97 hD  (fun H => ih H) H
set_option maxRecDepth 100000 in
set_option maxHeartbeats 4000000 in
theorem V_nd_X12_isImage_56 {g : fz_G} {l : Launch} {d : Nat} (hD : 1 ≤ d)   {K56 : Int32 → Int32 → fz_s → Prop} {Q : Bool → fz_s → Prop} {v1 : Int32} {v2 : Int32} {s : fz_s} (hK56 : ∀ {v1 : Int32} {v2 : Int32} {s : fz_s}, K56 v1 v2 s → fs_V g l m_X12_isImage d false 56 [.ref 196, .int v1, .int v2] [] s (rZ Q)) (H : nd_X12_isImage_56  K56 Q v1 v2 s) : fs_V g l m_X12_isImage d false 56 [.ref 196, .int v1, .int v2] [] s (rZ Q) := by
  obtain ⟨d, rfl⟩ : ∃ e, d = e + 1 := ⟨d - 1, by omega⟩
  unfold nd_X12_isImage_56 at H
  refine fs_iload_n (k0 := 2) (i := 2) dd_X12_isImage_56 rfl rfl ?_
  refine fs_bipush (n := 8) (v := 8) dd_X12_isImage_57 (by decide) ?_
  refine fs_icmp_ge (tgt := 94) dd_X12_isImage_59 (by decide) (fun hc => ?_) (fun hc => ?_)
  · replace H := H.1 hc
    refine fs_bipush (n := 8) (v := 8) dd_X12_isImage_94 (by decide) ?_
    refine fs_istore_n (k0 := 2) (i := 2) dd_X12_isImage_96 rfl (by decide) ?_
    refine fs_weak (ls2 := [.ref 196, .int v1, .int 8]) (fz_le_e (fz_le_e (fz_le_e fz_le_n))) ?_
    exact V_lp_X12_isImage_97 hD    2048 H
  · replace H := H.2 hc
    refine fs_aload_n (k0 := 0) (i := 0) dd_X12_isImage_62 rfl rfl ?_
    refine fs_iload_n (k0 := 2) (i := 2) dd_X12_isImage_63 rfl rfl ?_
    refine fs_callV (y := m_X12_twoAt) (as := [.int v2]) dd_X12_isImage_64 me_X12_twoAt lk_X12_568 in_X12_twoAt se_X12_twoAt ca_196 rfl rfl rfl (Nat.le_of_ble_eq_true rfl) (Nat.le_of_ble_eq_true rfl) rfl (V_X12_twoAt (by omega)  H) (k2_I fun r1 s2 H => ?_)
    refine fs_sipush (n := 999) (v := 999) dd_X12_isImage_67 (by decide) ?_
    refine fs_icmp_gt (tgt := 86) dd_X12_isImage_70 (by decide) (fun hc => ?_) (fun hc => ?_)
    · replace H := H.1 hc
      refine fs_iconst (n := 0) (v := 0) dd_X12_isImage_86 (by decide) ?_
      exact fs_zret false dd_X12_isImage_87 rfl rfl H
    · replace H := H.2 hc
      refine fs_aload_n (k0 := 0) (i := 0) dd_X12_isImage_73 rfl rfl ?_
      refine fs_getr (ci := 12) (j := 0) (q := 197) dd_X12_isImage_74 fl_X12_7 ca_196 rfl (Or.inr ⟨_, rfl⟩) rfl (by decide) ?_
      refine fs_iload_n (k0 := 2) (i := 2) dd_X12_isImage_77 rfl rfl ?_
      refine fs_iconst (n := 2) (v := 2) dd_X12_isImage_78 (by decide) ?_
      refine fs_iadd dd_X12_isImage_79 ?_
      have hb := H.1
      replace H := H.2
      refine fs_iald dd_X12_isImage_80 ca_197 hb ?_
      refine fs_bipush (n := 99) (v := 99) dd_X12_isImage_81 (by decide) ?_
      refine fs_icmp_le (tgt := 88) dd_X12_isImage_83 (by decide) (fun hc => ?_) (fun hc => ?_)
      · replace H := H.1 hc
        refine fs_iincN (i := 2) (m := 3) (c := 3) dd_X12_isImage_88 rfl (by decide) (by decide) (fun x3 hx3 => ?_)
        replace H := H x3 hx3
        refine fs_goto (tgt := 56) dd_X12_isImage_91 (by decide) ?_
        refine fs_weak (ls2 := [.ref 196, .int v1, .int x3]) (fz_le_e (fz_le_e (fz_le_e fz_le_n))) ?_
        exact hK56 H
      · replace H := H.2 hc
        refine fs_iconst (n := 0) (v := 0) dd_X12_isImage_86 (by decide) ?_
        exact fs_zret false dd_X12_isImage_87 rfl rfl H
set_option maxRecDepth 100000 in
set_option maxHeartbeats 4000000 in
theorem V_lp_X12_isImage_56 {g : fz_G} {l : Launch} {d : Nat} (hD : 1 ≤ d)    {Q : Bool → fz_s → Prop}  (n : Nat) : ∀ {v1 : Int32} {v2 : Int32} {s : fz_s}, lp_X12_isImage_56   Q n v1 v2 s → fs_V g l m_X12_isImage d false 56 [.ref 196, .int v1, .int v2] [] s (rZ Q) := by
  induction n with
  | zero => intro v1 v2 s H; exact H.elim
  | succ n ih => intro v1 v2 s H; exact V_nd_X12_isImage_56 hD  (fun H => ih H) H
set_option maxRecDepth 100000 in
set_option maxHeartbeats 4000000 in
theorem V_X12_isImage {g : fz_G} {l : Launch} {d : Nat} (hD : 1 ≤ d) {p0 : Int32}  {s : fz_s} {Q : Bool → fz_s → Prop} (H : wp_X12_isImage p0 s Q) : fs_V g l m_X12_isImage d false 0 (fz_en [.ref 196, .int p0] 3) [] s (rZ Q) := by
  obtain ⟨d, rfl⟩ : ∃ e, d = e + 1 := ⟨d - 1, by omega⟩
  unfold wp_X12_isImage at H
  refine fs_aload_n (k0 := 0) (i := 0) dd_X12_isImage_0 rfl rfl ?_
  refine fs_geti (ci := 12) (j := 52) dd_X12_isImage_1 fl_X12_386 ca_196 rfl (Or.inr rfl) ?_
  refine fs_if_eq (tgt := 52) dd_X12_isImage_4 (by decide) (fun hc => ?_) (fun hc => ?_)
  · replace H := H.1 hc
    refine fs_iconst (n := 0) (v := 0) dd_X12_isImage_52 (by decide) ?_
    exact fs_zret false dd_X12_isImage_53 rfl rfl H
  · replace H := H.2 hc
    refine fs_iload_n (k0 := 1) (i := 1) dd_X12_isImage_7 rfl rfl ?_
    refine fs_bipush (n := 9) (v := 9) dd_X12_isImage_8 (by decide) ?_
    refine fs_iconst (n := 3) (v := 3) dd_X12_isImage_10 (by decide) ?_
    refine fs_aload_n (k0 := 0) (i := 0) dd_X12_isImage_11 rfl rfl ?_
    refine fs_callV (y := m_X12_personMany) (as := []) dd_X12_isImage_12 me_X12_personMany lk_X12_402 in_X12_personMany se_X12_personMany ca_196 rfl rfl rfl (Nat.le_of_ble_eq_true rfl) (Nat.le_of_ble_eq_true rfl) rfl (V_X12_personMany (by omega)  H) (k2_I fun r1 s2 H => ?_)
    refine fs_imul dd_X12_isImage_15 ?_
    refine fs_iadd dd_X12_isImage_16 ?_
    refine fs_icmp_ne (tgt := 52) dd_X12_isImage_17 (by decide) (fun hc => ?_) (fun hc => ?_)
    · replace H := H.1 hc
      refine fs_iconst (n := 0) (v := 0) dd_X12_isImage_52 (by decide) ?_
      exact fs_zret false dd_X12_isImage_53 rfl rfl H
    · replace H := H.2 hc
      refine fs_aload_n (k0 := 0) (i := 0) dd_X12_isImage_20 rfl rfl ?_
      refine fs_getr (ci := 12) (j := 0) (q := 197) dd_X12_isImage_21 fl_X12_7 ca_196 rfl (Or.inr ⟨_, rfl⟩) rfl (by decide) ?_
      refine fs_iload_n (k0 := 1) (i := 1) dd_X12_isImage_24 rfl rfl ?_
      refine fs_iconst (n := 1) (v := 1) dd_X12_isImage_25 (by decide) ?_
      refine fs_isub dd_X12_isImage_26 ?_
      have hb := H.1
      replace H := H.2
      refine fs_iald dd_X12_isImage_27 ca_197 hb ?_
      refine fs_aload_n (k0 := 0) (i := 0) dd_X12_isImage_28 rfl rfl ?_
      refine fs_getr (ci := 12) (j := 0) (q := 197) dd_X12_isImage_29 fl_X12_7 ca_196 rfl (Or.inr ⟨_, rfl⟩) rfl (by decide) ?_
      refine fs_iload_n (k0 := 1) (i := 1) dd_X12_isImage_32 rfl rfl ?_
      refine fs_iconst (n := 1) (v := 1) dd_X12_isImage_33 (by decide) ?_
      refine fs_isub dd_X12_isImage_34 ?_
      refine fs_callS (y := m_X12_checked) (as := [.ref 197, .int (p0 - 1)]) dd_X12_isImage_35 me_X12_checked (Or.inl lk_X12_703) st_X12_checked rfl (Nat.le_of_ble_eq_true rfl) (Nat.le_of_ble_eq_true rfl) rfl (V_X12_checked (by omega) ca_197 H) (k2_I fun r3 s4 H => ?_)
      refine fs_icmp_ne (tgt := 52) dd_X12_isImage_38 (by decide) (fun hc => ?_) (fun hc => ?_)
      · replace H := H.1 hc
        refine fs_iconst (n := 0) (v := 0) dd_X12_isImage_52 (by decide) ?_
        exact fs_zret false dd_X12_isImage_53 rfl rfl H
      · replace H := H.2 hc
        refine fs_aload_n (k0 := 0) (i := 0) dd_X12_isImage_41 rfl rfl ?_
        refine fs_iconst (n := 0) (v := 0) dd_X12_isImage_42 (by decide) ?_
        refine fs_callV (y := m_X12_twoAt) (as := [.int 0]) dd_X12_isImage_43 me_X12_twoAt lk_X12_568 in_X12_twoAt se_X12_twoAt ca_196 rfl rfl rfl (Nat.le_of_ble_eq_true rfl) (Nat.le_of_ble_eq_true rfl) rfl (V_X12_twoAt (by omega)  H) (k2_I fun r5 s6 H => ?_)
        refine fs_sipush (n := 999) (v := 999) dd_X12_isImage_46 (by decide) ?_
        refine fs_icmp_le (tgt := 54) dd_X12_isImage_49 (by decide) (fun hc => ?_) (fun hc => ?_)
        · replace H := H.1 hc
          refine fs_iconst (n := 2) (v := 2) dd_X12_isImage_54 (by decide) ?_
          refine fs_istore_n (k0 := 2) (i := 2) dd_X12_isImage_55 rfl (by decide) ?_
          refine fs_weak (ls2 := [.ref 196, .int p0, .int 2]) (fz_le_e (fz_le_e (fz_le_e fz_le_n))) ?_
          exact V_lp_X12_isImage_56 hD    2048 H
        · replace H := H.2 hc
          refine fs_iconst (n := 0) (v := 0) dd_X12_isImage_52 (by decide) ?_
          exact fs_zret false dd_X12_isImage_53 rfl rfl H
theorem dd_X12_on_0 : decode m_X12_on.2.1 0 = .ok (.aload_n 0, 1) := by decide +kernel
theorem dd_X12_on_1 : decode m_X12_on.2.1 1 = .ok (.getfield 249, 3) := by decide +kernel
theorem dd_X12_on_4 : decode m_X12_on.2.1 4 = .ok (.istore_n 1, 1) := by decide +kernel
theorem dd_X12_on_5 : decode m_X12_on.2.1 5 = .ok (.aload_n 0, 1) := by decide +kernel
theorem dd_X12_on_6 : decode m_X12_on.2.1 6 = .ok (.iconst 0, 1) := by decide +kernel
theorem dd_X12_on_7 : decode m_X12_on.2.1 7 = .ok (.putfield 249, 3) := by decide +kernel
theorem dd_X12_on_10 : decode m_X12_on.2.1 10 = .ok (.aload_n 0, 1) := by decide +kernel
theorem dd_X12_on_11 : decode m_X12_on.2.1 11 = .ok (.iload_n 1, 1) := by decide +kernel
theorem dd_X12_on_12 : decode m_X12_on.2.1 12 = .ok (.invokevirtual 707, 3) := by decide +kernel
theorem dd_X12_on_15 : decode m_X12_on.2.1 15 = .ok (.ifCond .ne 15, 3) := by decide +kernel
theorem dd_X12_on_18 : decode m_X12_on.2.1 18 = .ok (.aload_n 0, 1) := by decide +kernel
theorem dd_X12_on_19 : decode m_X12_on.2.1 19 = .ok (.getfield 17, 3) := by decide +kernel
theorem dd_X12_on_22 : decode m_X12_on.2.1 22 = .ok (.iconst 5, 1) := by decide +kernel
theorem dd_X12_on_23 : decode m_X12_on.2.1 23 = .ok (.dup2, 1) := by decide +kernel
theorem dd_X12_on_24 : decode m_X12_on.2.1 24 = .ok (.iaload, 1) := by decide +kernel
theorem dd_X12_on_25 : decode m_X12_on.2.1 25 = .ok (.iconst 1, 1) := by decide +kernel
theorem dd_X12_on_26 : decode m_X12_on.2.1 26 = .ok (.iadd, 1) := by decide +kernel
theorem dd_X12_on_27 : decode m_X12_on.2.1 27 = .ok (.iastore, 1) := by decide +kernel
theorem dd_X12_on_28 : decode m_X12_on.2.1 28 = .ok (.iconst 0, 1) := by decide +kernel
theorem dd_X12_on_29 : decode m_X12_on.2.1 29 = .ok (.ireturn, 1) := by decide +kernel
theorem dd_X12_on_30 : decode m_X12_on.2.1 30 = .ok (.aload_n 0, 1) := by decide +kernel
theorem dd_X12_on_31 : decode m_X12_on.2.1 31 = .ok (.getfield 121, 3) := by decide +kernel
theorem dd_X12_on_34 : decode m_X12_on.2.1 34 = .ok (.iconst 0, 1) := by decide +kernel
theorem dd_X12_on_35 : decode m_X12_on.2.1 35 = .ok (.aload_n 0, 1) := by decide +kernel
theorem dd_X12_on_36 : decode m_X12_on.2.1 36 = .ok (.iconst 0, 1) := by decide +kernel
theorem dd_X12_on_37 : decode m_X12_on.2.1 37 = .ok (.invokevirtual 568, 3) := by decide +kernel
theorem dd_X12_on_40 : decode m_X12_on.2.1 40 = .ok (.iastore, 1) := by decide +kernel
theorem dd_X12_on_41 : decode m_X12_on.2.1 41 = .ok (.iconst 0, 1) := by decide +kernel
theorem dd_X12_on_42 : decode m_X12_on.2.1 42 = .ok (.istore_n 2, 1) := by decide +kernel
theorem dd_X12_on_43 : decode m_X12_on.2.1 43 = .ok (.iload_n 2, 1) := by decide +kernel
theorem dd_X12_on_44 : decode m_X12_on.2.1 44 = .ok (.iconst 2, 1) := by decide +kernel
theorem dd_X12_on_45 : decode m_X12_on.2.1 45 = .ok (.if_icmp .ge 48, 3) := by decide +kernel
theorem dd_X12_on_48 : decode m_X12_on.2.1 48 = .ok (.aload_n 0, 1) := by decide +kernel
theorem dd_X12_on_49 : decode m_X12_on.2.1 49 = .ok (.getfield 121, 3) := by decide +kernel
theorem dd_X12_on_52 : decode m_X12_on.2.1 52 = .ok (.iconst 1, 1) := by decide +kernel
theorem dd_X12_on_53 : decode m_X12_on.2.1 53 = .ok (.iconst 2, 1) := by decide +kernel
theorem dd_X12_on_54 : decode m_X12_on.2.1 54 = .ok (.iload_n 2, 1) := by decide +kernel
theorem dd_X12_on_55 : decode m_X12_on.2.1 55 = .ok (.imul, 1) := by decide +kernel
theorem dd_X12_on_56 : decode m_X12_on.2.1 56 = .ok (.iadd, 1) := by decide +kernel
theorem dd_X12_on_57 : decode m_X12_on.2.1 57 = .ok (.aload_n 0, 1) := by decide +kernel
theorem dd_X12_on_58 : decode m_X12_on.2.1 58 = .ok (.iconst 2, 1) := by decide +kernel
theorem dd_X12_on_59 : decode m_X12_on.2.1 59 = .ok (.iconst 3, 1) := by decide +kernel
theorem dd_X12_on_60 : decode m_X12_on.2.1 60 = .ok (.iload_n 2, 1) := by decide +kernel
theorem dd_X12_on_61 : decode m_X12_on.2.1 61 = .ok (.imul, 1) := by decide +kernel
theorem dd_X12_on_62 : decode m_X12_on.2.1 62 = .ok (.iadd, 1) := by decide +kernel
theorem dd_X12_on_63 : decode m_X12_on.2.1 63 = .ok (.invokevirtual 568, 3) := by decide +kernel
theorem dd_X12_on_66 : decode m_X12_on.2.1 66 = .ok (.iastore, 1) := by decide +kernel
theorem dd_X12_on_67 : decode m_X12_on.2.1 67 = .ok (.aload_n 0, 1) := by decide +kernel
theorem dd_X12_on_68 : decode m_X12_on.2.1 68 = .ok (.getfield 121, 3) := by decide +kernel
theorem dd_X12_on_71 : decode m_X12_on.2.1 71 = .ok (.iconst 2, 1) := by decide +kernel
theorem dd_X12_on_72 : decode m_X12_on.2.1 72 = .ok (.iconst 2, 1) := by decide +kernel
theorem dd_X12_on_73 : decode m_X12_on.2.1 73 = .ok (.iload_n 2, 1) := by decide +kernel
theorem dd_X12_on_74 : decode m_X12_on.2.1 74 = .ok (.imul, 1) := by decide +kernel
theorem dd_X12_on_75 : decode m_X12_on.2.1 75 = .ok (.iadd, 1) := by decide +kernel
theorem dd_X12_on_76 : decode m_X12_on.2.1 76 = .ok (.aload_n 0, 1) := by decide +kernel
theorem dd_X12_on_77 : decode m_X12_on.2.1 77 = .ok (.getfield 7, 3) := by decide +kernel
theorem dd_X12_on_80 : decode m_X12_on.2.1 80 = .ok (.iconst 4, 1) := by decide +kernel
theorem dd_X12_on_81 : decode m_X12_on.2.1 81 = .ok (.iconst 3, 1) := by decide +kernel
theorem dd_X12_on_82 : decode m_X12_on.2.1 82 = .ok (.iload_n 2, 1) := by decide +kernel
theorem dd_X12_on_83 : decode m_X12_on.2.1 83 = .ok (.imul, 1) := by decide +kernel
theorem dd_X12_on_84 : decode m_X12_on.2.1 84 = .ok (.iadd, 1) := by decide +kernel
theorem dd_X12_on_85 : decode m_X12_on.2.1 85 = .ok (.iaload, 1) := by decide +kernel
theorem dd_X12_on_86 : decode m_X12_on.2.1 86 = .ok (.iastore, 1) := by decide +kernel
theorem dd_X12_on_87 : decode m_X12_on.2.1 87 = .ok (.iinc 2 1, 3) := by decide +kernel
theorem dd_X12_on_90 : decode m_X12_on.2.1 90 = .ok (.goto (-47), 3) := by decide +kernel
theorem dd_X12_on_93 : decode m_X12_on.2.1 93 = .ok (.iconst 0, 1) := by decide +kernel
theorem dd_X12_on_94 : decode m_X12_on.2.1 94 = .ok (.istore_n 2, 1) := by decide +kernel
theorem dd_X12_on_95 : decode m_X12_on.2.1 95 = .ok (.iload_n 2, 1) := by decide +kernel
theorem dd_X12_on_96 : decode m_X12_on.2.1 96 = .ok (.iconst 3, 1) := by decide +kernel
theorem dd_X12_on_97 : decode m_X12_on.2.1 97 = .ok (.aload_n 0, 1) := by decide +kernel
theorem dd_X12_on_98 : decode m_X12_on.2.1 98 = .ok (.invokevirtual 402, 3) := by decide +kernel
theorem dd_X12_on_101 : decode m_X12_on.2.1 101 = .ok (.imul, 1) := by decide +kernel
theorem dd_X12_on_102 : decode m_X12_on.2.1 102 = .ok (.if_icmp .ge 26, 3) := by decide +kernel
theorem dd_X12_on_105 : decode m_X12_on.2.1 105 = .ok (.aload_n 0, 1) := by decide +kernel
theorem dd_X12_on_106 : decode m_X12_on.2.1 106 = .ok (.getfield 121, 3) := by decide +kernel
theorem dd_X12_on_109 : decode m_X12_on.2.1 109 = .ok (.iconst 5, 1) := by decide +kernel
theorem dd_X12_on_110 : decode m_X12_on.2.1 110 = .ok (.iload_n 2, 1) := by decide +kernel
theorem dd_X12_on_111 : decode m_X12_on.2.1 111 = .ok (.iadd, 1) := by decide +kernel
theorem dd_X12_on_112 : decode m_X12_on.2.1 112 = .ok (.aload_n 0, 1) := by decide +kernel
theorem dd_X12_on_113 : decode m_X12_on.2.1 113 = .ok (.getfield 7, 3) := by decide +kernel
theorem dd_X12_on_116 : decode m_X12_on.2.1 116 = .ok (.bipush 8, 2) := by decide +kernel
theorem dd_X12_on_118 : decode m_X12_on.2.1 118 = .ok (.iload_n 2, 1) := by decide +kernel
theorem dd_X12_on_119 : decode m_X12_on.2.1 119 = .ok (.iadd, 1) := by decide +kernel
theorem dd_X12_on_120 : decode m_X12_on.2.1 120 = .ok (.iaload, 1) := by decide +kernel
theorem dd_X12_on_121 : decode m_X12_on.2.1 121 = .ok (.iastore, 1) := by decide +kernel
theorem dd_X12_on_122 : decode m_X12_on.2.1 122 = .ok (.iinc 2 1, 3) := by decide +kernel
theorem dd_X12_on_125 : decode m_X12_on.2.1 125 = .ok (.goto (-30), 3) := by decide +kernel
theorem dd_X12_on_128 : decode m_X12_on.2.1 128 = .ok (.aload_n 0, 1) := by decide +kernel
theorem dd_X12_on_129 : decode m_X12_on.2.1 129 = .ok (.getfield 121, 3) := by decide +kernel
theorem dd_X12_on_132 : decode m_X12_on.2.1 132 = .ok (.bipush 29, 2) := by decide +kernel
theorem dd_X12_on_134 : decode m_X12_on.2.1 134 = .ok (.iconst 0, 1) := by decide +kernel
theorem dd_X12_on_135 : decode m_X12_on.2.1 135 = .ok (.iastore, 1) := by decide +kernel
theorem dd_X12_on_136 : decode m_X12_on.2.1 136 = .ok (.aload_n 0, 1) := by decide +kernel
theorem dd_X12_on_137 : decode m_X12_on.2.1 137 = .ok (.iconst 0, 1) := by decide +kernel
theorem dd_X12_on_138 : decode m_X12_on.2.1 138 = .ok (.putfield 396, 3) := by decide +kernel
theorem dd_X12_on_141 : decode m_X12_on.2.1 141 = .ok (.iconst 1, 1) := by decide +kernel
theorem dd_X12_on_142 : decode m_X12_on.2.1 142 = .ok (.ireturn, 1) := by decide +kernel
def nd_X12_on_95  (K95 : Int32 → fz_s → Prop) (Q : Bool → fz_s → Prop) (v2 : Int32) (s : fz_s) : Prop :=
  wp_X12_personMany  s (fun r1 s2 => (((3 * r1) ≤ v2 → ∀ s3 : fz_s, s3 = si s2 232 (29 : Int32).toNatClampNeg 0 → ∀ s4 : fz_s, s4 = si s3 196 72 0 → Q true s4) ∧ (¬ (3 * r1) ≤ v2 → vp_in (8 + v2) 1600 ∧ vp_in (5 + v2) 150 ∧ ∀ s5 : fz_s, s5 = si s2 232 (5 + v2).toNatClampNeg (s2.1 197 (8 + v2).toNatClampNeg) → ∀ x6 : Int32, x6 = v2 + 1 → K95 x6 s5)))
def lp_X12_on_95   (Q : Bool → fz_s → Prop) : Nat → Int32 → fz_s → Prop
  | 0 => fun _ _ => False
  | n + 1 => nd_X12_on_95  (lp_X12_on_95   Q n) Q
def nd_X12_on_43  (K43 : Int32 → fz_s → Prop) (Q : Bool → fz_s → Prop) (v2 : Int32) (s : fz_s) : Prop :=
  ((2 ≤ v2 → lp_X12_on_95   Q 2048 0 s) ∧ (¬ 2 ≤ v2 → wp_X12_twoAt (2 + (3 * v2)) s (fun r1 s2 => vp_in (1 + (2 * v2)) 150 ∧ ∀ s3 : fz_s, s3 = si s2 232 (1 + (2 * v2)).toNatClampNeg r1 → vp_in (4 + (3 * v2)) 1600 ∧ vp_in (2 + (2 * v2)) 150 ∧ ∀ s4 : fz_s, s4 = si s3 232 (2 + (2 * v2)).toNatClampNeg (s3.1 197 (4 + (3 * v2)).toNatClampNeg) → ∀ x5 : Int32, x5 = v2 + 1 → K43 x5 s4)))
def lp_X12_on_43   (Q : Bool → fz_s → Prop) : Nat → Int32 → fz_s → Prop
  | 0 => fun _ _ => False
  | n + 1 => nd_X12_on_43  (lp_X12_on_43   Q n) Q
def wp_X12_on  (s : fz_s) (Q : Bool → fz_s → Prop) : Prop :=
  ∀ x1 : Int32, x1 = (s.1 196 1) → ∀ s2 : fz_s, s2 = si s 196 1 0 → wp_X12_isImage x1 s2 (fun r3 s4 => ((r3 = true → wp_X12_twoAt 0 s4 (fun r5 s6 => ∀ s7 : fz_s, s7 = si s6 232 (0 : Int32).toNatClampNeg r5 → lp_X12_on_43   Q 2048 0 s7)) ∧ (r3 = false → ∀ s8 : fz_s, s8 = si s4 198 (5 : Int32).toNatClampNeg ((s4.1 198 (5 : Int32).toNatClampNeg) + 1) → Q false s8)))
set_option maxRecDepth 100000 in
set_option maxHeartbeats 4000000 in
theorem V_nd_X12_on_95 {g : fz_G} {l : Launch} {d : Nat} (hD : 2 ≤ d)   {K95 : Int32 → fz_s → Prop} {Q : Bool → fz_s → Prop} {v2 : Int32} {s : fz_s} (hK95 : ∀ {v2 : Int32} {s : fz_s}, K95 v2 s → fs_V g l m_X12_on d false 95 [.ref 196, fz_J, .int v2] [] s (rZ Q)) (H : nd_X12_on_95  K95 Q v2 s) : fs_V g l m_X12_on d false 95 [.ref 196, fz_J, .int v2] [] s (rZ Q) := by
  obtain ⟨d, rfl⟩ : ∃ e, d = e + 1 := ⟨d - 1, by omega⟩
  unfold nd_X12_on_95 at H
  refine fs_iload_n (k0 := 2) (i := 2) dd_X12_on_95 rfl rfl ?_
  refine fs_iconst (n := 3) (v := 3) dd_X12_on_96 (by decide) ?_
  refine fs_aload_n (k0 := 0) (i := 0) dd_X12_on_97 rfl rfl ?_
  refine fs_callV (y := m_X12_personMany) (as := []) dd_X12_on_98 me_X12_personMany lk_X12_402 in_X12_personMany se_X12_personMany ca_196 rfl rfl rfl (Nat.le_of_ble_eq_true rfl) (Nat.le_of_ble_eq_true rfl) rfl (V_X12_personMany (by omega)  H) (k2_I fun r1 s2 H => ?_)
  refine fs_imul dd_X12_on_101 ?_
  refine fs_icmp_ge (tgt := 128) dd_X12_on_102 (by decide) (fun hc => ?_) (fun hc => ?_)
  · replace H := H.1 hc
    refine fs_aload_n (k0 := 0) (i := 0) dd_X12_on_128 rfl rfl ?_
    refine fs_getr (ci := 12) (j := 54) (q := 232) dd_X12_on_129 fl_X12_121 ca_196 rfl (Or.inr ⟨_, rfl⟩) rfl (by decide) ?_
    refine fs_bipush (n := 29) (v := 29) dd_X12_on_132 (by decide) ?_
    refine fs_iconst (n := 0) (v := 0) dd_X12_on_134 (by decide) ?_
    refine fs_iast dd_X12_on_135 ca_232 (vp_in_nI (n := 29) (by decide) (by decide)) ?_
    refine fs_tops (fun s3 hs3 => ?_)
    replace H := H s3 hs3
    refine fs_aload_n (k0 := 0) (i := 0) dd_X12_on_136 rfl rfl ?_
    refine fs_iconst (n := 0) (v := 0) dd_X12_on_137 (by decide) ?_
    refine fs_puti (ci := 12) (j := 72) dd_X12_on_138 fl_X12_396 (fun _ _ _ h => by cases h; rfl) ca_196 rfl (Or.inl rfl) ?_
    refine fs_tops (fun s4 hs4 => ?_)
    replace H := H s4 hs4
    refine fs_iconst (n := 1) (v := 1) dd_X12_on_141 (by decide) ?_
    exact fs_zret true dd_X12_on_142 rfl rfl H
  · replace H := H.2 hc
    refine fs_aload_n (k0 := 0) (i := 0) dd_X12_on_105 rfl rfl ?_
    refine fs_getr (ci := 12) (j := 54) (q := 232) dd_X12_on_106 fl_X12_121 ca_196 rfl (Or.inr ⟨_, rfl⟩) rfl (by decide) ?_
    refine fs_iconst (n := 5) (v := 5) dd_X12_on_109 (by decide) ?_
    refine fs_iload_n (k0 := 2) (i := 2) dd_X12_on_110 rfl rfl ?_
    refine fs_iadd dd_X12_on_111 ?_
    refine fs_aload_n (k0 := 0) (i := 0) dd_X12_on_112 rfl rfl ?_
    refine fs_getr (ci := 12) (j := 0) (q := 197) dd_X12_on_113 fl_X12_7 ca_196 rfl (Or.inr ⟨_, rfl⟩) rfl (by decide) ?_
    refine fs_bipush (n := 8) (v := 8) dd_X12_on_116 (by decide) ?_
    refine fs_iload_n (k0 := 2) (i := 2) dd_X12_on_118 rfl rfl ?_
    refine fs_iadd dd_X12_on_119 ?_
    have hb := H.1
    replace H := H.2
    refine fs_iald dd_X12_on_120 ca_197 hb ?_
    have hb := H.1
    replace H := H.2
    refine fs_iast dd_X12_on_121 ca_232 hb ?_
    refine fs_tops (fun s5 hs5 => ?_)
    replace H := H s5 hs5
    refine fs_iincN (i := 2) (m := 1) (c := 1) dd_X12_on_122 rfl (by decide) (by decide) (fun x6 hx6 => ?_)
    replace H := H x6 hx6
    refine fs_goto (tgt := 95) dd_X12_on_125 (by decide) ?_
    refine fs_weak (ls2 := [.ref 196, fz_J, .int x6]) (fz_le_e (fz_le_j (fz_le_e fz_le_n))) ?_
    exact hK95 H
set_option maxRecDepth 100000 in
set_option maxHeartbeats 4000000 in
theorem V_lp_X12_on_95 {g : fz_G} {l : Launch} {d : Nat} (hD : 2 ≤ d)    {Q : Bool → fz_s → Prop}  (n : Nat) : ∀ {v2 : Int32} {s : fz_s}, lp_X12_on_95   Q n v2 s → fs_V g l m_X12_on d false 95 [.ref 196, fz_J, .int v2] [] s (rZ Q) := by
  induction n with
  | zero => intro v2 s H; exact H.elim
  | succ n ih => intro v2 s H; exact V_nd_X12_on_95 hD  (fun H => ih H) H
set_option maxRecDepth 100000 in
set_option maxHeartbeats 4000000 in
theorem V_nd_X12_on_43 {g : fz_G} {l : Launch} {d : Nat} (hD : 2 ≤ d)   {K43 : Int32 → fz_s → Prop} {Q : Bool → fz_s → Prop} {v2 : Int32} {s : fz_s} (hK43 : ∀ {v2 : Int32} {s : fz_s}, K43 v2 s → fs_V g l m_X12_on d false 43 [.ref 196, fz_J, .int v2] [] s (rZ Q)) (H : nd_X12_on_43  K43 Q v2 s) : fs_V g l m_X12_on d false 43 [.ref 196, fz_J, .int v2] [] s (rZ Q) := by
  obtain ⟨d, rfl⟩ : ∃ e, d = e + 1 := ⟨d - 1, by omega⟩
  unfold nd_X12_on_43 at H
  refine fs_iload_n (k0 := 2) (i := 2) dd_X12_on_43 rfl rfl ?_
  refine fs_iconst (n := 2) (v := 2) dd_X12_on_44 (by decide) ?_
  refine fs_icmp_ge (tgt := 93) dd_X12_on_45 (by decide) (fun hc => ?_) (fun hc => ?_)
  · replace H := H.1 hc
    refine fs_iconst (n := 0) (v := 0) dd_X12_on_93 (by decide) ?_
    refine fs_istore_n (k0 := 2) (i := 2) dd_X12_on_94 rfl (by decide) ?_
    refine fs_weak (ls2 := [.ref 196, fz_J, .int 0]) (fz_le_e (fz_le_j (fz_le_e fz_le_n))) ?_
    exact V_lp_X12_on_95 hD    2048 H
  · replace H := H.2 hc
    refine fs_aload_n (k0 := 0) (i := 0) dd_X12_on_48 rfl rfl ?_
    refine fs_getr (ci := 12) (j := 54) (q := 232) dd_X12_on_49 fl_X12_121 ca_196 rfl (Or.inr ⟨_, rfl⟩) rfl (by decide) ?_
    refine fs_iconst (n := 1) (v := 1) dd_X12_on_52 (by decide) ?_
    refine fs_iconst (n := 2) (v := 2) dd_X12_on_53 (by decide) ?_
    refine fs_iload_n (k0 := 2) (i := 2) dd_X12_on_54 rfl rfl ?_
    refine fs_imul dd_X12_on_55 ?_
    refine fs_iadd dd_X12_on_56 ?_
    refine fs_aload_n (k0 := 0) (i := 0) dd_X12_on_57 rfl rfl ?_
    refine fs_iconst (n := 2) (v := 2) dd_X12_on_58 (by decide) ?_
    refine fs_iconst (n := 3) (v := 3) dd_X12_on_59 (by decide) ?_
    refine fs_iload_n (k0 := 2) (i := 2) dd_X12_on_60 rfl rfl ?_
    refine fs_imul dd_X12_on_61 ?_
    refine fs_iadd dd_X12_on_62 ?_
    refine fs_callV (y := m_X12_twoAt) (as := [.int (2 + (3 * v2))]) dd_X12_on_63 me_X12_twoAt lk_X12_568 in_X12_twoAt se_X12_twoAt ca_196 rfl rfl rfl (Nat.le_of_ble_eq_true rfl) (Nat.le_of_ble_eq_true rfl) rfl (V_X12_twoAt (by omega)  H) (k2_I fun r1 s2 H => ?_)
    have hb := H.1
    replace H := H.2
    refine fs_iast dd_X12_on_66 ca_232 hb ?_
    refine fs_tops (fun s3 hs3 => ?_)
    replace H := H s3 hs3
    refine fs_aload_n (k0 := 0) (i := 0) dd_X12_on_67 rfl rfl ?_
    refine fs_getr (ci := 12) (j := 54) (q := 232) dd_X12_on_68 fl_X12_121 ca_196 rfl (Or.inr ⟨_, rfl⟩) rfl (by decide) ?_
    refine fs_iconst (n := 2) (v := 2) dd_X12_on_71 (by decide) ?_
    refine fs_iconst (n := 2) (v := 2) dd_X12_on_72 (by decide) ?_
    refine fs_iload_n (k0 := 2) (i := 2) dd_X12_on_73 rfl rfl ?_
    refine fs_imul dd_X12_on_74 ?_
    refine fs_iadd dd_X12_on_75 ?_
    refine fs_aload_n (k0 := 0) (i := 0) dd_X12_on_76 rfl rfl ?_
    refine fs_getr (ci := 12) (j := 0) (q := 197) dd_X12_on_77 fl_X12_7 ca_196 rfl (Or.inr ⟨_, rfl⟩) rfl (by decide) ?_
    refine fs_iconst (n := 4) (v := 4) dd_X12_on_80 (by decide) ?_
    refine fs_iconst (n := 3) (v := 3) dd_X12_on_81 (by decide) ?_
    refine fs_iload_n (k0 := 2) (i := 2) dd_X12_on_82 rfl rfl ?_
    refine fs_imul dd_X12_on_83 ?_
    refine fs_iadd dd_X12_on_84 ?_
    have hb := H.1
    replace H := H.2
    refine fs_iald dd_X12_on_85 ca_197 hb ?_
    have hb := H.1
    replace H := H.2
    refine fs_iast dd_X12_on_86 ca_232 hb ?_
    refine fs_tops (fun s4 hs4 => ?_)
    replace H := H s4 hs4
    refine fs_iincN (i := 2) (m := 1) (c := 1) dd_X12_on_87 rfl (by decide) (by decide) (fun x5 hx5 => ?_)
    replace H := H x5 hx5
    refine fs_goto (tgt := 43) dd_X12_on_90 (by decide) ?_
    refine fs_weak (ls2 := [.ref 196, fz_J, .int x5]) (fz_le_e (fz_le_j (fz_le_e fz_le_n))) ?_
    exact hK43 H
set_option maxRecDepth 100000 in
set_option maxHeartbeats 4000000 in
theorem V_lp_X12_on_43 {g : fz_G} {l : Launch} {d : Nat} (hD : 2 ≤ d)    {Q : Bool → fz_s → Prop}  (n : Nat) : ∀ {v2 : Int32} {s : fz_s}, lp_X12_on_43   Q n v2 s → fs_V g l m_X12_on d false 43 [.ref 196, fz_J, .int v2] [] s (rZ Q) := by
  induction n with
  | zero => intro v2 s H; exact H.elim
  | succ n ih => intro v2 s H; exact V_nd_X12_on_43 hD  (fun H => ih H) H
set_option maxRecDepth 100000 in
set_option maxHeartbeats 4000000 in
theorem V_X12_on {g : fz_G} {l : Launch} {d : Nat} (hD : 2 ≤ d)   {s : fz_s} {Q : Bool → fz_s → Prop} (H : wp_X12_on  s Q) : fs_V g l m_X12_on d false 0 (fz_en [.ref 196] 3) [] s (rZ Q) := by
  obtain ⟨d, rfl⟩ : ∃ e, d = e + 1 := ⟨d - 1, by omega⟩
  unfold wp_X12_on at H
  refine fs_aload_n (k0 := 0) (i := 0) dd_X12_on_0 rfl rfl ?_
  refine fs_geti (ci := 12) (j := 1) dd_X12_on_1 fl_X12_249 ca_196 rfl (Or.inl rfl) ?_
  refine fs_topi (fun x1 hx1 => ?_)
  replace H := H x1 hx1
  refine fs_istore_n (k0 := 1) (i := 1) dd_X12_on_4 rfl (by decide) ?_
  refine fs_aload_n (k0 := 0) (i := 0) dd_X12_on_5 rfl rfl ?_
  refine fs_iconst (n := 0) (v := 0) dd_X12_on_6 (by decide) ?_
  refine fs_puti (ci := 12) (j := 1) dd_X12_on_7 fl_X12_249 (fun _ _ _ h => by cases h; rfl) ca_196 rfl (Or.inl rfl) ?_
  refine fs_tops (fun s2 hs2 => ?_)
  replace H := H s2 hs2
  refine fs_aload_n (k0 := 0) (i := 0) dd_X12_on_10 rfl rfl ?_
  refine fs_iload_n (k0 := 1) (i := 1) dd_X12_on_11 rfl rfl ?_
  refine fs_callV (y := m_X12_isImage) (as := [.int x1]) dd_X12_on_12 me_X12_isImage lk_X12_707 in_X12_isImage se_X12_isImage ca_196 rfl rfl rfl (Nat.le_of_ble_eq_true rfl) (Nat.le_of_ble_eq_true rfl) rfl (V_X12_isImage (by omega)  H) (k2_Z fun r3 s4 H => ?_)
  refine fs_if_ne (tgt := 30) dd_X12_on_15 (by decide) (fun hc => ?_) (fun hc => ?_)
  · replace H := H.1 (bi_1 hc)
    refine fs_aload_n (k0 := 0) (i := 0) dd_X12_on_30 rfl rfl ?_
    refine fs_getr (ci := 12) (j := 54) (q := 232) dd_X12_on_31 fl_X12_121 ca_196 rfl (Or.inr ⟨_, rfl⟩) rfl (by decide) ?_
    refine fs_iconst (n := 0) (v := 0) dd_X12_on_34 (by decide) ?_
    refine fs_aload_n (k0 := 0) (i := 0) dd_X12_on_35 rfl rfl ?_
    refine fs_iconst (n := 0) (v := 0) dd_X12_on_36 (by decide) ?_
    refine fs_callV (y := m_X12_twoAt) (as := [.int 0]) dd_X12_on_37 me_X12_twoAt lk_X12_568 in_X12_twoAt se_X12_twoAt ca_196 rfl rfl rfl (Nat.le_of_ble_eq_true rfl) (Nat.le_of_ble_eq_true rfl) rfl (V_X12_twoAt (by omega)  H) (k2_I fun r5 s6 H => ?_)
    refine fs_iast dd_X12_on_40 ca_232 (vp_in_nI (n := 0) (by decide) (by decide)) ?_
    refine fs_tops (fun s7 hs7 => ?_)
    replace H := H s7 hs7
    refine fs_iconst (n := 0) (v := 0) dd_X12_on_41 (by decide) ?_
    refine fs_istore_n (k0 := 2) (i := 2) dd_X12_on_42 rfl (by decide) ?_
    refine fs_weak (ls2 := [.ref 196, fz_J, .int 0]) (fz_le_e (fz_le_j (fz_le_e fz_le_n))) ?_
    exact V_lp_X12_on_43 hD    2048 H
  · replace H := H.2 (bi_0 hc)
    refine fs_aload_n (k0 := 0) (i := 0) dd_X12_on_18 rfl rfl ?_
    refine fs_getr (ci := 12) (j := 9) (q := 198) dd_X12_on_19 fl_X12_17 ca_196 rfl (Or.inr ⟨_, rfl⟩) rfl (by decide) ?_
    refine fs_iconst (n := 5) (v := 5) dd_X12_on_22 (by decide) ?_
    refine fs_dup2 dd_X12_on_23 rfl rfl ?_
    refine fs_iald dd_X12_on_24 ca_198 (vp_in_nI (n := 5) (by decide) (by decide)) ?_
    refine fs_iconst (n := 1) (v := 1) dd_X12_on_25 (by decide) ?_
    refine fs_iadd dd_X12_on_26 ?_
    refine fs_iast dd_X12_on_27 ca_198 (vp_in_nI (n := 5) (by decide) (by decide)) ?_
    refine fs_tops (fun s8 hs8 => ?_)
    replace H := H s8 hs8
    refine fs_iconst (n := 0) (v := 0) dd_X12_on_28 (by decide) ?_
    exact fs_zret false dd_X12_on_29 rfl rfl H
theorem dd_X12_status_0 : decode m_X12_status.2.1 0 = .ok (.iload_n 1, 1) := by decide +kernel
theorem dd_X12_status_1 : decode m_X12_status.2.1 1 = .ok (.i2l, 1) := by decide +kernel
theorem dd_X12_status_2 : decode m_X12_status.2.1 2 = .ok (.lconst 0, 1) := by decide +kernel
theorem dd_X12_status_3 : decode m_X12_status.2.1 3 = .ok (.ldc2_w 513, 3) := by decide +kernel
theorem dd_X12_status_6 : decode m_X12_status.2.1 6 = .ok (.invokestatic 295, 3) := by decide +kernel
theorem dd_X12_status_9 : decode m_X12_status.2.1 9 = .ok (.ifCond .eq 12, 3) := by decide +kernel
theorem dd_X12_status_12 : decode m_X12_status.2.1 12 = .ok (.aload_n 0, 1) := by decide +kernel
theorem dd_X12_status_13 : decode m_X12_status.2.1 13 = .ok (.getfield 17, 3) := by decide +kernel
theorem dd_X12_status_16 : decode m_X12_status.2.1 16 = .ok (.iload_n 1, 1) := by decide +kernel
theorem dd_X12_status_17 : decode m_X12_status.2.1 17 = .ok (.iaload, 1) := by decide +kernel
theorem dd_X12_status_18 : decode m_X12_status.2.1 18 = .ok (.goto 4, 3) := by decide +kernel
theorem dd_X12_status_21 : decode m_X12_status.2.1 21 = .ok (.iconst (-1), 1) := by decide +kernel
theorem dd_X12_status_22 : decode m_X12_status.2.1 22 = .ok (.ireturn, 1) := by decide +kernel
def wp_X12_status (p0 : Int32) (s : fz_s) (Q : Int32 → fz_s → Prop) : Prop :=
  wp_X12_isIn p0.toInt64 0 5 s (fun r1 s2 => ((r1 = false → Q (-1) s2) ∧ (r1 = true → vp_in p0 6 ∧ Q (s2.1 198 p0.toNatClampNeg) s2)))
set_option maxRecDepth 100000 in
set_option maxHeartbeats 4000000 in
theorem V_X12_status {g : fz_G} {l : Launch} {d : Nat} (hD : 1 ≤ d) {p0 : Int32}  {s : fz_s} {Q : Int32 → fz_s → Prop} (H : wp_X12_status p0 s Q) : fs_V g l m_X12_status d false 0 (fz_en [.ref 196, .int p0] 2) [] s (rI Q) := by
  obtain ⟨d, rfl⟩ : ∃ e, d = e + 1 := ⟨d - 1, by omega⟩
  unfold wp_X12_status at H
  refine fs_iload_n (k0 := 1) (i := 1) dd_X12_status_0 rfl rfl ?_
  refine fs_i2l dd_X12_status_1 ?_
  refine fs_lconst (n := 0) (v := 0) dd_X12_status_2 (by decide) ?_
  refine fs_ldc2 (idx := 513) (v := 5) dd_X12_status_3 cl_X12_513 ?_
  refine fs_callS (y := m_X12_isIn) (as := [.long p0.toInt64, .long 0, .long 5]) dd_X12_status_6 me_X12_isIn (Or.inl lk_X12_295) st_X12_isIn rfl (Nat.le_of_ble_eq_true rfl) (Nat.le_of_ble_eq_true rfl) rfl (V_X12_isIn (by omega)  H) (k2_Z fun r1 s2 H => ?_)
  refine fs_if_eq (tgt := 21) dd_X12_status_9 (by decide) (fun hc => ?_) (fun hc => ?_)
  · replace H := H.1 (bi_0 hc)
    refine fs_iconst (n := -1) (v := -1) dd_X12_status_21 (by decide) ?_
    exact fs_iret dd_X12_status_22 rfl H
  · replace H := H.2 (bi_1 hc)
    refine fs_aload_n (k0 := 0) (i := 0) dd_X12_status_12 rfl rfl ?_
    refine fs_getr (ci := 12) (j := 9) (q := 198) dd_X12_status_13 fl_X12_17 ca_196 rfl (Or.inr ⟨_, rfl⟩) rfl (by decide) ?_
    refine fs_iload_n (k0 := 1) (i := 1) dd_X12_status_16 rfl rfl ?_
    have hb := H.1
    replace H := H.2
    refine fs_iald dd_X12_status_17 ca_198 hb ?_
    refine fs_goto (tgt := 22) dd_X12_status_18 (by decide) ?_
    exact fs_iret dd_X12_status_22 rfl H

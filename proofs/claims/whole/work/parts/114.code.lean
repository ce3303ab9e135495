theorem dd_X12_stands_0 : decode m_X12_stands.2.1 0 = .ok (.aload_n 0, 1) := by decide +kernel
theorem dd_X12_stands_1 : decode m_X12_stands.2.1 1 = .ok (.iconst 1, 1) := by decide +kernel
theorem dd_X12_stands_2 : decode m_X12_stands.2.1 2 = .ok (.putfield 386, 3) := by decide +kernel
theorem dd_X12_stands_5 : decode m_X12_stands.2.1 5 = .ok (.aload_n 0, 1) := by decide +kernel
theorem dd_X12_stands_6 : decode m_X12_stands.2.1 6 = .ok (.aload_n 0, 1) := by decide +kernel
theorem dd_X12_stands_7 : decode m_X12_stands.2.1 7 = .ok (.getfield 320, 3) := by decide +kernel
theorem dd_X12_stands_10 : decode m_X12_stands.2.1 10 = .ok (.putfield 390, 3) := by decide +kernel
theorem dd_X12_stands_13 : decode m_X12_stands.2.1 13 = .ok (.aload_n 0, 1) := by decide +kernel
theorem dd_X12_stands_14 : decode m_X12_stands.2.1 14 = .ok (.aload_n 0, 1) := by decide +kernel
theorem dd_X12_stands_15 : decode m_X12_stands.2.1 15 = .ok (.getfield 371, 3) := by decide +kernel
theorem dd_X12_stands_18 : decode m_X12_stands.2.1 18 = .ok (.putfield 393, 3) := by decide +kernel
theorem dd_X12_stands_21 : decode m_X12_stands.2.1 21 = .ok (.iconst 0, 1) := by decide +kernel
theorem dd_X12_stands_22 : decode m_X12_stands.2.1 22 = .ok (.istore_n 1, 1) := by decide +kernel
theorem dd_X12_stands_23 : decode m_X12_stands.2.1 23 = .ok (.iload_n 1, 1) := by decide +kernel
theorem dd_X12_stands_24 : decode m_X12_stands.2.1 24 = .ok (.iconst 5, 1) := by decide +kernel
theorem dd_X12_stands_25 : decode m_X12_stands.2.1 25 = .ok (.if_icmp .ge 37, 3) := by decide +kernel
theorem dd_X12_stands_28 : decode m_X12_stands.2.1 28 = .ok (.aload_n 0, 1) := by decide +kernel
theorem dd_X12_stands_29 : decode m_X12_stands.2.1 29 = .ok (.getfield 112, 3) := by decide +kernel
theorem dd_X12_stands_32 : decode m_X12_stands.2.1 32 = .ok (.iconst 5, 1) := by decide +kernel
theorem dd_X12_stands_33 : decode m_X12_stands.2.1 33 = .ok (.iload_n 1, 1) := by decide +kernel
theorem dd_X12_stands_34 : decode m_X12_stands.2.1 34 = .ok (.iadd, 1) := by decide +kernel
theorem dd_X12_stands_35 : decode m_X12_stands.2.1 35 = .ok (.aload_n 0, 1) := by decide +kernel
theorem dd_X12_stands_36 : decode m_X12_stands.2.1 36 = .ok (.getfield 112, 3) := by decide +kernel
theorem dd_X12_stands_39 : decode m_X12_stands.2.1 39 = .ok (.iload_n 1, 1) := by decide +kernel
theorem dd_X12_stands_40 : decode m_X12_stands.2.1 40 = .ok (.iaload, 1) := by decide +kernel
theorem dd_X12_stands_41 : decode m_X12_stands.2.1 41 = .ok (.iastore, 1) := by decide +kernel
theorem dd_X12_stands_42 : decode m_X12_stands.2.1 42 = .ok (.aload_n 0, 1) := by decide +kernel
theorem dd_X12_stands_43 : decode m_X12_stands.2.1 43 = .ok (.getfield 115, 3) := by decide +kernel
theorem dd_X12_stands_46 : decode m_X12_stands.2.1 46 = .ok (.iconst 5, 1) := by decide +kernel
theorem dd_X12_stands_47 : decode m_X12_stands.2.1 47 = .ok (.iload_n 1, 1) := by decide +kernel
theorem dd_X12_stands_48 : decode m_X12_stands.2.1 48 = .ok (.iadd, 1) := by decide +kernel
theorem dd_X12_stands_49 : decode m_X12_stands.2.1 49 = .ok (.aload_n 0, 1) := by decide +kernel
theorem dd_X12_stands_50 : decode m_X12_stands.2.1 50 = .ok (.getfield 115, 3) := by decide +kernel
theorem dd_X12_stands_53 : decode m_X12_stands.2.1 53 = .ok (.iload_n 1, 1) := by decide +kernel
theorem dd_X12_stands_54 : decode m_X12_stands.2.1 54 = .ok (.iaload, 1) := by decide +kernel
theorem dd_X12_stands_55 : decode m_X12_stands.2.1 55 = .ok (.iastore, 1) := by decide +kernel
theorem dd_X12_stands_56 : decode m_X12_stands.2.1 56 = .ok (.iinc 1 1, 3) := by decide +kernel
theorem dd_X12_stands_59 : decode m_X12_stands.2.1 59 = .ok (.goto (-36), 3) := by decide +kernel
theorem dd_X12_stands_62 : decode m_X12_stands.2.1 62 = .ok (.iconst 0, 1) := by decide +kernel
theorem dd_X12_stands_63 : decode m_X12_stands.2.1 63 = .ok (.istore_n 1, 1) := by decide +kernel
theorem dd_X12_stands_64 : decode m_X12_stands.2.1 64 = .ok (.iload_n 1, 1) := by decide +kernel
theorem dd_X12_stands_65 : decode m_X12_stands.2.1 65 = .ok (.bipush 10, 2) := by decide +kernel
theorem dd_X12_stands_67 : decode m_X12_stands.2.1 67 = .ok (.if_icmp .ge 24, 3) := by decide +kernel
theorem dd_X12_stands_70 : decode m_X12_stands.2.1 70 = .ok (.aload_n 0, 1) := by decide +kernel
theorem dd_X12_stands_71 : decode m_X12_stands.2.1 71 = .ok (.getfield 99, 3) := by decide +kernel
theorem dd_X12_stands_74 : decode m_X12_stands.2.1 74 = .ok (.bipush 10, 2) := by decide +kernel
theorem dd_X12_stands_76 : decode m_X12_stands.2.1 76 = .ok (.iload_n 1, 1) := by decide +kernel
theorem dd_X12_stands_77 : decode m_X12_stands.2.1 77 = .ok (.iadd, 1) := by decide +kernel
theorem dd_X12_stands_78 : decode m_X12_stands.2.1 78 = .ok (.aload_n 0, 1) := by decide +kernel
theorem dd_X12_stands_79 : decode m_X12_stands.2.1 79 = .ok (.getfield 99, 3) := by decide +kernel
theorem dd_X12_stands_82 : decode m_X12_stands.2.1 82 = .ok (.iload_n 1, 1) := by decide +kernel
theorem dd_X12_stands_83 : decode m_X12_stands.2.1 83 = .ok (.laload, 1) := by decide +kernel
theorem dd_X12_stands_84 : decode m_X12_stands.2.1 84 = .ok (.lastore, 1) := by decide +kernel
theorem dd_X12_stands_85 : decode m_X12_stands.2.1 85 = .ok (.iinc 1 1, 3) := by decide +kernel
theorem dd_X12_stands_88 : decode m_X12_stands.2.1 88 = .ok (.goto (-24), 3) := by decide +kernel
theorem dd_X12_stands_91 : decode m_X12_stands.2.1 91 = .ok (.iconst 0, 1) := by decide +kernel
theorem dd_X12_stands_92 : decode m_X12_stands.2.1 92 = .ok (.istore_n 1, 1) := by decide +kernel
theorem dd_X12_stands_93 : decode m_X12_stands.2.1 93 = .ok (.iload_n 1, 1) := by decide +kernel
theorem dd_X12_stands_94 : decode m_X12_stands.2.1 94 = .ok (.bipush 24, 2) := by decide +kernel
theorem dd_X12_stands_96 : decode m_X12_stands.2.1 96 = .ok (.if_icmp .ge 24, 3) := by decide +kernel
theorem dd_X12_stands_99 : decode m_X12_stands.2.1 99 = .ok (.aload_n 0, 1) := by decide +kernel
theorem dd_X12_stands_100 : decode m_X12_stands.2.1 100 = .ok (.getfield 106, 3) := by decide +kernel
theorem dd_X12_stands_103 : decode m_X12_stands.2.1 103 = .ok (.bipush 24, 2) := by decide +kernel
theorem dd_X12_stands_105 : decode m_X12_stands.2.1 105 = .ok (.iload_n 1, 1) := by decide +kernel
theorem dd_X12_stands_106 : decode m_X12_stands.2.1 106 = .ok (.iadd, 1) := by decide +kernel
theorem dd_X12_stands_107 : decode m_X12_stands.2.1 107 = .ok (.aload_n 0, 1) := by decide +kernel
theorem dd_X12_stands_108 : decode m_X12_stands.2.1 108 = .ok (.getfield 106, 3) := by decide +kernel
theorem dd_X12_stands_111 : decode m_X12_stands.2.1 111 = .ok (.iload_n 1, 1) := by decide +kernel
theorem dd_X12_stands_112 : decode m_X12_stands.2.1 112 = .ok (.iaload, 1) := by decide +kernel
theorem dd_X12_stands_113 : decode m_X12_stands.2.1 113 = .ok (.iastore, 1) := by decide +kernel
theorem dd_X12_stands_114 : decode m_X12_stands.2.1 114 = .ok (.iinc 1 1, 3) := by decide +kernel
theorem dd_X12_stands_117 : decode m_X12_stands.2.1 117 = .ok (.goto (-24), 3) := by decide +kernel
theorem dd_X12_stands_120 : decode m_X12_stands.2.1 120 = .ok (.iconst 0, 1) := by decide +kernel
theorem dd_X12_stands_121 : decode m_X12_stands.2.1 121 = .ok (.istore_n 1, 1) := by decide +kernel
theorem dd_X12_stands_122 : decode m_X12_stands.2.1 122 = .ok (.iload_n 1, 1) := by decide +kernel
theorem dd_X12_stands_123 : decode m_X12_stands.2.1 123 = .ok (.aload_n 0, 1) := by decide +kernel
theorem dd_X12_stands_124 : decode m_X12_stands.2.1 124 = .ok (.getfield 359, 3) := by decide +kernel
theorem dd_X12_stands_127 : decode m_X12_stands.2.1 127 = .ok (.if_icmp .ge 25, 3) := by decide +kernel
theorem dd_X12_stands_130 : decode m_X12_stands.2.1 130 = .ok (.aload_n 0, 1) := by decide +kernel
theorem dd_X12_stands_131 : decode m_X12_stands.2.1 131 = .ok (.getfield 118, 3) := by decide +kernel
theorem dd_X12_stands_134 : decode m_X12_stands.2.1 134 = .ok (.sipush 1600, 3) := by decide +kernel
theorem dd_X12_stands_137 : decode m_X12_stands.2.1 137 = .ok (.iload_n 1, 1) := by decide +kernel
theorem dd_X12_stands_138 : decode m_X12_stands.2.1 138 = .ok (.iadd, 1) := by decide +kernel
theorem dd_X12_stands_139 : decode m_X12_stands.2.1 139 = .ok (.aload_n 0, 1) := by decide +kernel
theorem dd_X12_stands_140 : decode m_X12_stands.2.1 140 = .ok (.getfield 118, 3) := by decide +kernel
theorem dd_X12_stands_143 : decode m_X12_stands.2.1 143 = .ok (.iload_n 1, 1) := by decide +kernel
theorem dd_X12_stands_144 : decode m_X12_stands.2.1 144 = .ok (.iaload, 1) := by decide +kernel
theorem dd_X12_stands_145 : decode m_X12_stands.2.1 145 = .ok (.iastore, 1) := by decide +kernel
theorem dd_X12_stands_146 : decode m_X12_stands.2.1 146 = .ok (.iinc 1 1, 3) := by decide +kernel
theorem dd_X12_stands_149 : decode m_X12_stands.2.1 149 = .ok (.goto (-27), 3) := by decide +kernel
theorem dd_X12_stands_152 : decode m_X12_stands.2.1 152 = .ok (.iconst 0, 1) := by decide +kernel
theorem dd_X12_stands_153 : decode m_X12_stands.2.1 153 = .ok (.istore_n 1, 1) := by decide +kernel
theorem dd_X12_stands_154 : decode m_X12_stands.2.1 154 = .ok (.iload_n 1, 1) := by decide +kernel
theorem dd_X12_stands_155 : decode m_X12_stands.2.1 155 = .ok (.sipush 150, 3) := by decide +kernel
theorem dd_X12_stands_158 : decode m_X12_stands.2.1 158 = .ok (.if_icmp .ge 16, 3) := by decide +kernel
theorem dd_X12_stands_161 : decode m_X12_stands.2.1 161 = .ok (.aload_n 0, 1) := by decide +kernel
theorem dd_X12_stands_162 : decode m_X12_stands.2.1 162 = .ok (.getfield 121, 3) := by decide +kernel
theorem dd_X12_stands_165 : decode m_X12_stands.2.1 165 = .ok (.iload_n 1, 1) := by decide +kernel
theorem dd_X12_stands_166 : decode m_X12_stands.2.1 166 = .ok (.iconst 0, 1) := by decide +kernel
theorem dd_X12_stands_167 : decode m_X12_stands.2.1 167 = .ok (.iastore, 1) := by decide +kernel
theorem dd_X12_stands_168 : decode m_X12_stands.2.1 168 = .ok (.iinc 1 1, 3) := by decide +kernel
theorem dd_X12_stands_171 : decode m_X12_stands.2.1 171 = .ok (.goto (-17), 3) := by decide +kernel
theorem dd_X12_stands_174 : decode m_X12_stands.2.1 174 = .ok (.iconst 0, 1) := by decide +kernel
theorem dd_X12_stands_175 : decode m_X12_stands.2.1 175 = .ok (.istore_n 1, 1) := by decide +kernel
theorem dd_X12_stands_176 : decode m_X12_stands.2.1 176 = .ok (.iload_n 1, 1) := by decide +kernel
theorem dd_X12_stands_177 : decode m_X12_stands.2.1 177 = .ok (.iconst 4, 1) := by decide +kernel
theorem dd_X12_stands_178 : decode m_X12_stands.2.1 178 = .ok (.if_icmp .ge 23, 3) := by decide +kernel
theorem dd_X12_stands_181 : decode m_X12_stands.2.1 181 = .ok (.aload_n 0, 1) := by decide +kernel
theorem dd_X12_stands_182 : decode m_X12_stands.2.1 182 = .ok (.getfield 121, 3) := by decide +kernel
theorem dd_X12_stands_185 : decode m_X12_stands.2.1 185 = .ok (.iconst 1, 1) := by decide +kernel
theorem dd_X12_stands_186 : decode m_X12_stands.2.1 186 = .ok (.iload_n 1, 1) := by decide +kernel
theorem dd_X12_stands_187 : decode m_X12_stands.2.1 187 = .ok (.iadd, 1) := by decide +kernel
theorem dd_X12_stands_188 : decode m_X12_stands.2.1 188 = .ok (.aload_n 0, 1) := by decide +kernel
theorem dd_X12_stands_189 : decode m_X12_stands.2.1 189 = .ok (.getfield 103, 3) := by decide +kernel
theorem dd_X12_stands_192 : decode m_X12_stands.2.1 192 = .ok (.iload_n 1, 1) := by decide +kernel
theorem dd_X12_stands_193 : decode m_X12_stands.2.1 193 = .ok (.iaload, 1) := by decide +kernel
theorem dd_X12_stands_194 : decode m_X12_stands.2.1 194 = .ok (.iastore, 1) := by decide +kernel
theorem dd_X12_stands_195 : decode m_X12_stands.2.1 195 = .ok (.iinc 1 1, 3) := by decide +kernel
theorem dd_X12_stands_198 : decode m_X12_stands.2.1 198 = .ok (.goto (-22), 3) := by decide +kernel
theorem dd_X12_stands_201 : decode m_X12_stands.2.1 201 = .ok (.iconst 0, 1) := by decide +kernel
theorem dd_X12_stands_202 : decode m_X12_stands.2.1 202 = .ok (.istore_n 1, 1) := by decide +kernel
theorem dd_X12_stands_203 : decode m_X12_stands.2.1 203 = .ok (.iload_n 1, 1) := by decide +kernel
theorem dd_X12_stands_204 : decode m_X12_stands.2.1 204 = .ok (.aload_n 0, 1) := by decide +kernel
theorem dd_X12_stands_205 : decode m_X12_stands.2.1 205 = .ok (.getfield 390, 3) := by decide +kernel
theorem dd_X12_stands_208 : decode m_X12_stands.2.1 208 = .ok (.if_icmp .ge 25, 3) := by decide +kernel
theorem dd_X12_stands_211 : decode m_X12_stands.2.1 211 = .ok (.aload_n 0, 1) := by decide +kernel
theorem dd_X12_stands_212 : decode m_X12_stands.2.1 212 = .ok (.getfield 121, 3) := by decide +kernel
theorem dd_X12_stands_215 : decode m_X12_stands.2.1 215 = .ok (.iconst 5, 1) := by decide +kernel
theorem dd_X12_stands_216 : decode m_X12_stands.2.1 216 = .ok (.iconst 3, 1) := by decide +kernel
theorem dd_X12_stands_217 : decode m_X12_stands.2.1 217 = .ok (.iload_n 1, 1) := by decide +kernel
theorem dd_X12_stands_218 : decode m_X12_stands.2.1 218 = .ok (.imul, 1) := by decide +kernel
theorem dd_X12_stands_219 : decode m_X12_stands.2.1 219 = .ok (.iadd, 1) := by decide +kernel
theorem dd_X12_stands_220 : decode m_X12_stands.2.1 220 = .ok (.aload_n 0, 1) := by decide +kernel
theorem dd_X12_stands_221 : decode m_X12_stands.2.1 221 = .ok (.getfield 109, 3) := by decide +kernel
theorem dd_X12_stands_224 : decode m_X12_stands.2.1 224 = .ok (.iload_n 1, 1) := by decide +kernel
theorem dd_X12_stands_225 : decode m_X12_stands.2.1 225 = .ok (.iaload, 1) := by decide +kernel
theorem dd_X12_stands_226 : decode m_X12_stands.2.1 226 = .ok (.iastore, 1) := by decide +kernel
theorem dd_X12_stands_227 : decode m_X12_stands.2.1 227 = .ok (.iinc 1 1, 3) := by decide +kernel
theorem dd_X12_stands_230 : decode m_X12_stands.2.1 230 = .ok (.goto (-27), 3) := by decide +kernel
theorem dd_X12_stands_233 : decode m_X12_stands.2.1 233 = .ok (.aload_n 0, 1) := by decide +kernel
theorem dd_X12_stands_234 : decode m_X12_stands.2.1 234 = .ok (.iconst 0, 1) := by decide +kernel
theorem dd_X12_stands_235 : decode m_X12_stands.2.1 235 = .ok (.putfield 396, 3) := by decide +kernel
theorem dd_X12_stands_238 : decode m_X12_stands.2.1 238 = .ok (.aload_n 0, 1) := by decide +kernel
theorem dd_X12_stands_239 : decode m_X12_stands.2.1 239 = .ok (.iconst 0, 1) := by decide +kernel
theorem dd_X12_stands_240 : decode m_X12_stands.2.1 240 = .ok (.putfield 399, 3) := by decide +kernel
theorem dd_X12_stands_243 : decode m_X12_stands.2.1 243 = .ok (.return_, 1) := by decide +kernel
def nd_X12_stands_203  (K203 : Int32 → fz_s → Prop) (Q : fz_s → Prop) (v1 : Int32) (s : fz_s) : Prop :=
  (((s.1 196 40) ≤ v1 → ∀ s1 : fz_s, s1 = si s 196 72 0 → ∀ s2 : fz_s, s2 = si s1 196 66 0 → Q s2) ∧ (¬ (s.1 196 40) ≤ v1 → vp_in v1 8 ∧ vp_in (5 + (3 * v1)) 150 ∧ ∀ s3 : fz_s, s3 = si s 232 (5 + (3 * v1)).toNatClampNeg (s.1 228 v1.toNatClampNeg) → ∀ x4 : Int32, x4 = v1 + 1 → K203 x4 s3))
def lp_X12_stands_203   (Q : fz_s → Prop) : Nat → Int32 → fz_s → Prop
  | 0 => fun _ _ => False
  | n + 1 => nd_X12_stands_203  (lp_X12_stands_203   Q n) Q
def nd_X12_stands_176  (K176 : Int32 → fz_s → Prop) (Q : fz_s → Prop) (v1 : Int32) (s : fz_s) : Prop :=
  ((4 ≤ v1 → lp_X12_stands_203   Q 2048 0 s) ∧ (¬ 4 ≤ v1 → vp_in v1 4 ∧ vp_in (1 + v1) 150 ∧ ∀ s1 : fz_s, s1 = si s 232 (1 + v1).toNatClampNeg (s.1 226 v1.toNatClampNeg) → ∀ x2 : Int32, x2 = v1 + 1 → K176 x2 s1))
def lp_X12_stands_176   (Q : fz_s → Prop) : Nat → Int32 → fz_s → Prop
  | 0 => fun _ _ => False
  | n + 1 => nd_X12_stands_176  (lp_X12_stands_176   Q n) Q
def nd_X12_stands_154  (K154 : Int32 → fz_s → Prop) (Q : fz_s → Prop) (v1 : Int32) (s : fz_s) : Prop :=
  ((150 ≤ v1 → lp_X12_stands_176   Q 2048 0 s) ∧ (¬ 150 ≤ v1 → vp_in v1 150 ∧ ∀ s1 : fz_s, s1 = si s 232 v1.toNatClampNeg 0 → ∀ x2 : Int32, x2 = v1 + 1 → K154 x2 s1))
def lp_X12_stands_154   (Q : fz_s → Prop) : Nat → Int32 → fz_s → Prop
  | 0 => fun _ _ => False
  | n + 1 => nd_X12_stands_154  (lp_X12_stands_154   Q n) Q
def nd_X12_stands_122  (K122 : Int32 → fz_s → Prop) (Q : fz_s → Prop) (v1 : Int32) (s : fz_s) : Prop :=
  (((s.1 196 50) ≤ v1 → lp_X12_stands_154   Q 2048 0 s) ∧ (¬ (s.1 196 50) ≤ v1 → vp_in v1 3200 ∧ vp_in (1600 + v1) 3200 ∧ ∀ s1 : fz_s, s1 = si s 231 (1600 + v1).toNatClampNeg (s.1 231 v1.toNatClampNeg) → ∀ x2 : Int32, x2 = v1 + 1 → K122 x2 s1))
def lp_X12_stands_122   (Q : fz_s → Prop) : Nat → Int32 → fz_s → Prop
  | 0 => fun _ _ => False
  | n + 1 => nd_X12_stands_122  (lp_X12_stands_122   Q n) Q
def nd_X12_stands_93  (K93 : Int32 → fz_s → Prop) (Q : fz_s → Prop) (v1 : Int32) (s : fz_s) : Prop :=
  ((24 ≤ v1 → lp_X12_stands_122   Q 2048 0 s) ∧ (¬ 24 ≤ v1 → vp_in v1 48 ∧ vp_in (24 + v1) 48 ∧ ∀ s1 : fz_s, s1 = si s 227 (24 + v1).toNatClampNeg (s.1 227 v1.toNatClampNeg) → ∀ x2 : Int32, x2 = v1 + 1 → K93 x2 s1))
def lp_X12_stands_93   (Q : fz_s → Prop) : Nat → Int32 → fz_s → Prop
  | 0 => fun _ _ => False
  | n + 1 => nd_X12_stands_93  (lp_X12_stands_93   Q n) Q
def nd_X12_stands_64  (K64 : Int32 → fz_s → Prop) (Q : fz_s → Prop) (v1 : Int32) (s : fz_s) : Prop :=
  ((10 ≤ v1 → lp_X12_stands_93   Q 2048 0 s) ∧ (¬ 10 ≤ v1 → vp_in v1 20 ∧ vp_in (10 + v1) 20 ∧ ∀ s1 : fz_s, s1 = sl s 225 (10 + v1).toNatClampNeg (s.2.1 225 v1.toNatClampNeg) → ∀ x2 : Int32, x2 = v1 + 1 → K64 x2 s1))
def lp_X12_stands_64   (Q : fz_s → Prop) : Nat → Int32 → fz_s → Prop
  | 0 => fun _ _ => False
  | n + 1 => nd_X12_stands_64  (lp_X12_stands_64   Q n) Q
def nd_X12_stands_23  (K23 : Int32 → fz_s → Prop) (Q : fz_s → Prop) (v1 : Int32) (s : fz_s) : Prop :=
  ((5 ≤ v1 → lp_X12_stands_64   Q 2048 0 s) ∧ (¬ 5 ≤ v1 → vp_in v1 10 ∧ vp_in (5 + v1) 10 ∧ ∀ s1 : fz_s, s1 = si s 229 (5 + v1).toNatClampNeg (s.1 229 v1.toNatClampNeg) → vp_in v1 10 ∧ vp_in (5 + v1) 10 ∧ ∀ s2 : fz_s, s2 = si s1 230 (5 + v1).toNatClampNeg (s1.1 230 v1.toNatClampNeg) → ∀ x3 : Int32, x3 = v1 + 1 → K23 x3 s2))
def lp_X12_stands_23   (Q : fz_s → Prop) : Nat → Int32 → fz_s → Prop
  | 0 => fun _ _ => False
  | n + 1 => nd_X12_stands_23  (lp_X12_stands_23   Q n) Q
def wp_X12_stands  (s : fz_s) (Q : fz_s → Prop) : Prop :=
  ∀ s1 : fz_s, s1 = si s 196 52 1 → ∀ s2 : fz_s, s2 = si s1 196 40 (s1.1 196 39) → ∀ s3 : fz_s, s3 = si s2 196 46 (s2.1 196 45) → lp_X12_stands_23   Q 2048 0 s3
set_option maxRecDepth 100000 in
set_option maxHeartbeats 4000000 in
theorem V_nd_X12_stands_203 {g : fz_G} {l : Launch} {d : Nat} (hD : 0 ≤ d)   {K203 : Int32 → fz_s → Prop} {Q : fz_s → Prop} {v1 : Int32} {s : fz_s} (hK203 : ∀ {v1 : Int32} {s : fz_s}, K203 v1 s → fs_V g l m_X12_stands d false 203 [.ref 196, .int v1] [] s (rV Q)) (H : nd_X12_stands_203  K203 Q v1 s) : fs_V g l m_X12_stands d false 203 [.ref 196, .int v1] [] s (rV Q) := by
  unfold nd_X12_stands_203 at H
  refine fs_iload_n (k0 := 1) (i := 1) dd_X12_stands_203 rfl rfl ?_
  refine fs_aload_n (k0 := 0) (i := 0) dd_X12_stands_204 rfl rfl ?_
  refine fs_geti (ci := 12) (j := 40) dd_X12_stands_205 fl_X12_390 ca_196 rfl (Or.inl rfl) ?_
  refine fs_icmp_ge (tgt := 233) dd_X12_stands_208 (by decide) (fun hc => ?_) (fun hc => ?_)
  · replace H := H.1 hc
    refine fs_aload_n (k0 := 0) (i := 0) dd_X12_stands_233 rfl rfl ?_
    refine fs_iconst (n := 0) (v := 0) dd_X12_stands_234 (by decide) ?_
    refine fs_puti (ci := 12) (j := 72) dd_X12_stands_235 fl_X12_396 (fun _ _ _ h => by cases h; rfl) ca_196 rfl (Or.inl rfl) ?_
    refine fs_tops (fun s1 hs1 => ?_)
    replace H := H s1 hs1
    refine fs_aload_n (k0 := 0) (i := 0) dd_X12_stands_238 rfl rfl ?_
    refine fs_iconst (n := 0) (v := 0) dd_X12_stands_239 (by decide) ?_
    refine fs_puti (ci := 12) (j := 66) dd_X12_stands_240 fl_X12_399 (fun _ _ _ h => by cases h; rfl) ca_196 rfl (Or.inl rfl) ?_
    refine fs_tops (fun s2 hs2 => ?_)
    replace H := H s2 hs2
    exact fs_vret dd_X12_stands_243 rfl H
  · replace H := H.2 hc
    refine fs_aload_n (k0 := 0) (i := 0) dd_X12_stands_211 rfl rfl ?_
    refine fs_getr (ci := 12) (j := 54) (q := 232) dd_X12_stands_212 fl_X12_121 ca_196 rfl (Or.inr ⟨_, rfl⟩) rfl (by decide) ?_
    refine fs_iconst (n := 5) (v := 5) dd_X12_stands_215 (by decide) ?_
    refine fs_iconst (n := 3) (v := 3) dd_X12_stands_216 (by decide) ?_
    refine fs_iload_n (k0 := 1) (i := 1) dd_X12_stands_217 rfl rfl ?_
    refine fs_imul dd_X12_stands_218 ?_
    refine fs_iadd dd_X12_stands_219 ?_
    refine fs_aload_n (k0 := 0) (i := 0) dd_X12_stands_220 rfl rfl ?_
    refine fs_getr (ci := 12) (j := 44) (q := 228) dd_X12_stands_221 fl_X12_109 ca_196 rfl (Or.inr ⟨_, rfl⟩) rfl (by decide) ?_
    refine fs_iload_n (k0 := 1) (i := 1) dd_X12_stands_224 rfl rfl ?_
    have hb := H.1
    replace H := H.2
    refine fs_iald dd_X12_stands_225 ca_228 hb ?_
    have hb := H.1
    replace H := H.2
    refine fs_iast dd_X12_stands_226 ca_232 hb ?_
    refine fs_tops (fun s3 hs3 => ?_)
    replace H := H s3 hs3
    refine fs_iincN (i := 1) (m := 1) (c := 1) dd_X12_stands_227 rfl (by decide) (by decide) (fun x4 hx4 => ?_)
    replace H := H x4 hx4
    refine fs_goto (tgt := 203) dd_X12_stands_230 (by decide) ?_
    refine fs_weak (ls2 := [.ref 196, .int x4]) (fz_le_e (fz_le_e fz_le_n)) ?_
    exact hK203 H
set_option maxRecDepth 100000 in
set_option maxHeartbeats 4000000 in
theorem V_lp_X12_stands_203 {g : fz_G} {l : Launch} {d : Nat} (hD : 0 ≤ d)    {Q : fz_s → Prop}  (n : Nat) : ∀ {v1 : Int32} {s : fz_s}, lp_X12_stands_203   Q n v1 s → fs_V g l m_X12_stands d false 203 [.ref 196, .int v1] [] s (rV Q) := by
  induction n with
  | zero => intro v1 s H; exact H.elim
  | succ n ih => intro v1 s H; exact V_nd_X12_stands_203 hD  (fun H => ih H) H
set_option maxRecDepth 100000 in
set_option maxHeartbeats 4000000 in
theorem V_nd_X12_stands_176 {g : fz_G} {l : Launch} {d : Nat} (hD : 0 ≤ d)   {K176 : Int32 → fz_s → Prop} {Q : fz_s → Prop} {v1 : Int32} {s : fz_s} (hK176 : ∀ {v1 : Int32} {s : fz_s}, K176 v1 s → fs_V g l m_X12_stands d false 176 [.ref 196, .int v1] [] s (rV Q)) (H : nd_X12_stands_176  K176 Q v1 s) : fs_V g l m_X12_stands d false 176 [.ref 196, .int v1] [] s (rV Q) := by
  unfold nd_X12_stands_176 at H
  refine fs_iload_n (k0 := 1) (i := 1) dd_X12_stands_176 rfl rfl ?_
  refine fs_iconst (n := 4) (v := 4) dd_X12_stands_177 (by decide) ?_
  refine fs_icmp_ge (tgt := 201) dd_X12_stands_178 (by decide) (fun hc => ?_) (fun hc => ?_)
  · replace H := H.1 hc
    refine fs_iconst (n := 0) (v := 0) dd_X12_stands_201 (by decide) ?_
    refine fs_istore_n (k0 := 1) (i := 1) dd_X12_stands_202 rfl (by decide) ?_
    refine fs_weak (ls2 := [.ref 196, .int 0]) (fz_le_e (fz_le_e fz_le_n)) ?_
    exact V_lp_X12_stands_203 hD    2048 H
  · replace H := H.2 hc
    refine fs_aload_n (k0 := 0) (i := 0) dd_X12_stands_181 rfl rfl ?_
    refine fs_getr (ci := 12) (j := 54) (q := 232) dd_X12_stands_182 fl_X12_121 ca_196 rfl (Or.inr ⟨_, rfl⟩) rfl (by decide) ?_
    refine fs_iconst (n := 1) (v := 1) dd_X12_stands_185 (by decide) ?_
    refine fs_iload_n (k0 := 1) (i := 1) dd_X12_stands_186 rfl rfl ?_
    refine fs_iadd dd_X12_stands_187 ?_
    refine fs_aload_n (k0 := 0) (i := 0) dd_X12_stands_188 rfl rfl ?_
    refine fs_getr (ci := 12) (j := 42) (q := 226) dd_X12_stands_189 fl_X12_103 ca_196 rfl (Or.inr ⟨_, rfl⟩) rfl (by decide) ?_
    refine fs_iload_n (k0 := 1) (i := 1) dd_X12_stands_192 rfl rfl ?_
    have hb := H.1
    replace H := H.2
    refine fs_iald dd_X12_stands_193 ca_226 hb ?_
    have hb := H.1
    replace H := H.2
    refine fs_iast dd_X12_stands_194 ca_232 hb ?_
    refine fs_tops (fun s1 hs1 => ?_)
    replace H := H s1 hs1
    refine fs_iincN (i := 1) (m := 1) (c := 1) dd_X12_stands_195 rfl (by decide) (by decide) (fun x2 hx2 => ?_)
    replace H := H x2 hx2
    refine fs_goto (tgt := 176) dd_X12_stands_198 (by decide) ?_
    refine fs_weak (ls2 := [.ref 196, .int x2]) (fz_le_e (fz_le_e fz_le_n)) ?_
    exact hK176 H
set_option maxRecDepth 100000 in
set_option maxHeartbeats 4000000 in
theorem V_lp_X12_stands_176 {g : fz_G} {l : Launch} {d : Nat} (hD : 0 ≤ d)    {Q : fz_s → Prop}  (n : Nat) : ∀ {v1 : Int32} {s : fz_s}, lp_X12_stands_176   Q n v1 s → fs_V g l m_X12_stands d false 176 [.ref 196, .int v1] [] s (rV Q) := by
  induction n with
  | zero => intro v1 s H; exact H.elim
  | succ n ih => intro v1 s H; exact V_nd_X12_stands_176 hD  (fun H => ih H) H
set_option maxRecDepth 100000 in
set_option maxHeartbeats 4000000 in
theorem V_nd_X12_stands_154 {g : fz_G} {l : Launch} {d : Nat} (hD : 0 ≤ d)   {K154 : Int32 → fz_s → Prop} {Q : fz_s → Prop} {v1 : Int32} {s : fz_s} (hK154 : ∀ {v1 : Int32} {s : fz_s}, K154 v1 s → fs_V g l m_X12_stands d false 154 [.ref 196, .int v1] [] s (rV Q)) (H : nd_X12_stands_154  K154 Q v1 s) : fs_V g l m_X12_stands d false 154 [.ref 196, .int v1] [] s (rV Q) := by
  unfold nd_X12_stands_154 at H
  refine fs_iload_n (k0 := 1) (i := 1) dd_X12_stands_154 rfl rfl ?_
  refine fs_sipush (n := 150) (v := 150) dd_X12_stands_155 (by decide) ?_
  refine fs_icmp_ge (tgt := 174) dd_X12_stands_158 (by decide) (fun hc => ?_) (fun hc => ?_)
  · replace H := H.1 hc
    refine fs_iconst (n := 0) (v := 0) dd_X12_stands_174 (by decide) ?_
    refine fs_istore_n (k0 := 1) (i := 1) dd_X12_stands_175 rfl (by decide) ?_
    refine fs_weak (ls2 := [.ref 196, .int 0]) (fz_le_e (fz_le_e fz_le_n)) ?_
    exact V_lp_X12_stands_176 hD    2048 H
  · replace H := H.2 hc
    refine fs_aload_n (k0 := 0) (i := 0) dd_X12_stands_161 rfl rfl ?_
    refine fs_getr (ci := 12) (j := 54) (q := 232) dd_X12_stands_162 fl_X12_121 ca_196 rfl (Or.inr ⟨_, rfl⟩) rfl (by decide) ?_
    refine fs_iload_n (k0 := 1) (i := 1) dd_X12_stands_165 rfl rfl ?_
    refine fs_iconst (n := 0) (v := 0) dd_X12_stands_166 (by decide) ?_
    have hb := H.1
    replace H := H.2
    refine fs_iast dd_X12_stands_167 ca_232 hb ?_
    refine fs_tops (fun s1 hs1 => ?_)
    replace H := H s1 hs1
    refine fs_iincN (i := 1) (m := 1) (c := 1) dd_X12_stands_168 rfl (by decide) (by decide) (fun x2 hx2 => ?_)
    replace H := H x2 hx2
    refine fs_goto (tgt := 154) dd_X12_stands_171 (by decide) ?_
    refine fs_weak (ls2 := [.ref 196, .int x2]) (fz_le_e (fz_le_e fz_le_n)) ?_
    exact hK154 H
set_option maxRecDepth 100000 in
set_option maxHeartbeats 4000000 in
theorem V_lp_X12_stands_154 {g : fz_G} {l : Launch} {d : Nat} (hD : 0 ≤ d)    {Q : fz_s → Prop}  (n : Nat) : ∀ {v1 : Int32} {s : fz_s}, lp_X12_stands_154   Q n v1 s → fs_V g l m_X12_stands d false 154 [.ref 196, .int v1] [] s (rV Q) := by
  induction n with
  | zero => intro v1 s H; exact H.elim
  | succ n ih => intro v1 s H; exact V_nd_X12_stands_154 hD  (fun H => ih H) H
set_option maxRecDepth 100000 in
set_option maxHeartbeats 4000000 in
theorem V_nd_X12_stands_122 {g : fz_G} {l : Launch} {d : Nat} (hD : 0 ≤ d)   {K122 : Int32 → fz_s → Prop} {Q : fz_s → Prop} {v1 : Int32} {s : fz_s} (hK122 : ∀ {v1 : Int32} {s : fz_s}, K122 v1 s → fs_V g l m_X12_stands d false 122 [.ref 196, .int v1] [] s (rV Q)) (H : nd_X12_stands_122  K122 Q v1 s) : fs_V g l m_X12_stands d false 122 [.ref 196, .int v1] [] s (rV Q) := by
  unfold nd_X12_stands_122 at H
  refine fs_iload_n (k0 := 1) (i := 1) dd_X12_stands_122 rfl rfl ?_
  refine fs_aload_n (k0 := 0) (i := 0) dd_X12_stands_123 rfl rfl ?_
  refine fs_geti (ci := 12) (j := 50) dd_X12_stands_124 fl_X12_359 ca_196 rfl (Or.inl rfl) ?_
  refine fs_icmp_ge (tgt := 152) dd_X12_stands_127 (by decide) (fun hc => ?_) (fun hc => ?_)
  · replace H := H.1 hc
    refine fs_iconst (n := 0) (v := 0) dd_X12_stands_152 (by decide) ?_
    refine fs_istore_n (k0 := 1) (i := 1) dd_X12_stands_153 rfl (by decide) ?_
    refine fs_weak (ls2 := [.ref 196, .int 0]) (fz_le_e (fz_le_e fz_le_n)) ?_
    exact V_lp_X12_stands_154 hD    2048 H
  · replace H := H.2 hc
    refine fs_aload_n (k0 := 0) (i := 0) dd_X12_stands_130 rfl rfl ?_
    refine fs_getr (ci := 12) (j := 49) (q := 231) dd_X12_stands_131 fl_X12_118 ca_196 rfl (Or.inr ⟨_, rfl⟩) rfl (by decide) ?_
    refine fs_sipush (n := 1600) (v := 1600) dd_X12_stands_134 (by decide) ?_
    refine fs_iload_n (k0 := 1) (i := 1) dd_X12_stands_137 rfl rfl ?_
    refine fs_iadd dd_X12_stands_138 ?_
    refine fs_aload_n (k0 := 0) (i := 0) dd_X12_stands_139 rfl rfl ?_
    refine fs_getr (ci := 12) (j := 49) (q := 231) dd_X12_stands_140 fl_X12_118 ca_196 rfl (Or.inr ⟨_, rfl⟩) rfl (by decide) ?_
    refine fs_iload_n (k0 := 1) (i := 1) dd_X12_stands_143 rfl rfl ?_
    have hb := H.1
    replace H := H.2
    refine fs_iald dd_X12_stands_144 ca_231 hb ?_
    have hb := H.1
    replace H := H.2
    refine fs_iast dd_X12_stands_145 ca_231 hb ?_
    refine fs_tops (fun s1 hs1 => ?_)
    replace H := H s1 hs1
    refine fs_iincN (i := 1) (m := 1) (c := 1) dd_X12_stands_146 rfl (by decide) (by decide) (fun x2 hx2 => ?_)
    replace H := H x2 hx2
    refine fs_goto (tgt := 122) dd_X12_stands_149 (by decide) ?_
    refine fs_weak (ls2 := [.ref 196, .int x2]) (fz_le_e (fz_le_e fz_le_n)) ?_
    exact hK122 H
set_option maxRecDepth 100000 in
set_option maxHeartbeats 4000000 in
theorem V_lp_X12_stands_122 {g : fz_G} {l : Launch} {d : Nat} (hD : 0 ≤ d)    {Q : fz_s → Prop}  (n : Nat) : ∀ {v1 : Int32} {s : fz_s}, lp_X12_stands_122   Q n v1 s → fs_V g l m_X12_stands d false 122 [.ref 196, .int v1] [] s (rV Q) := by
  induction n with
  | zero => intro v1 s H; exact H.elim
  | succ n ih => intro v1 s H; exact V_nd_X12_stands_122 hD  (fun H => ih H) H
set_option maxRecDepth 100000 in
set_option maxHeartbeats 4000000 in
theorem V_nd_X12_stands_93 {g : fz_G} {l : Launch} {d : Nat} (hD : 0 ≤ d)   {K93 : Int32 → fz_s → Prop} {Q : fz_s → Prop} {v1 : Int32} {s : fz_s} (hK93 : ∀ {v1 : Int32} {s : fz_s}, K93 v1 s → fs_V g l m_X12_stands d false 93 [.ref 196, .int v1] [] s (rV Q)) (H : nd_X12_stands_93  K93 Q v1 s) : fs_V g l m_X12_stands d false 93 [.ref 196, .int v1] [] s (rV Q) := by
  unfold nd_X12_stands_93 at H
  refine fs_iload_n (k0 := 1) (i := 1) dd_X12_stands_93 rfl rfl ?_
  refine fs_bipush (n := 24) (v := 24) dd_X12_stands_94 (by decide) ?_
  refine fs_icmp_ge (tgt := 120) dd_X12_stands_96 (by decide) (fun hc => ?_) (fun hc => ?_)
  · replace H := H.1 hc
    refine fs_iconst (n := 0) (v := 0) dd_X12_stands_120 (by decide) ?_
    refine fs_istore_n (k0 := 1) (i := 1) dd_X12_stands_121 rfl (by decide) ?_
    refine fs_weak (ls2 := [.ref 196, .int 0]) (fz_le_e (fz_le_e fz_le_n)) ?_
    exact V_lp_X12_stands_122 hD    2048 H
  · replace H := H.2 hc
    refine fs_aload_n (k0 := 0) (i := 0) dd_X12_stands_99 rfl rfl ?_
    refine fs_getr (ci := 12) (j := 43) (q := 227) dd_X12_stands_100 fl_X12_106 ca_196 rfl (Or.inr ⟨_, rfl⟩) rfl (by decide) ?_
    refine fs_bipush (n := 24) (v := 24) dd_X12_stands_103 (by decide) ?_
    refine fs_iload_n (k0 := 1) (i := 1) dd_X12_stands_105 rfl rfl ?_
    refine fs_iadd dd_X12_stands_106 ?_
    refine fs_aload_n (k0 := 0) (i := 0) dd_X12_stands_107 rfl rfl ?_
    refine fs_getr (ci := 12) (j := 43) (q := 227) dd_X12_stands_108 fl_X12_106 ca_196 rfl (Or.inr ⟨_, rfl⟩) rfl (by decide) ?_
    refine fs_iload_n (k0 := 1) (i := 1) dd_X12_stands_111 rfl rfl ?_
    have hb := H.1
    replace H := H.2
    refine fs_iald dd_X12_stands_112 ca_227 hb ?_
    have hb := H.1
    replace H := H.2
    refine fs_iast dd_X12_stands_113 ca_227 hb ?_
    refine fs_tops (fun s1 hs1 => ?_)
    replace H := H s1 hs1
    refine fs_iincN (i := 1) (m := 1) (c := 1) dd_X12_stands_114 rfl (by decide) (by decide) (fun x2 hx2 => ?_)
    replace H := H x2 hx2
    refine fs_goto (tgt := 93) dd_X12_stands_117 (by decide) ?_
    refine fs_weak (ls2 := [.ref 196, .int x2]) (fz_le_e (fz_le_e fz_le_n)) ?_
    exact hK93 H
set_option maxRecDepth 100000 in
set_option maxHeartbeats 4000000 in
theorem V_lp_X12_stands_93 {g : fz_G} {l : Launch} {d : Nat} (hD : 0 ≤ d)    {Q : fz_s → Prop}  (n : Nat) : ∀ {v1 : Int32} {s : fz_s}, lp_X12_stands_93   Q n v1 s → fs_V g l m_X12_stands d false 93 [.ref 196, .int v1] [] s (rV Q) := by
  induction n with
  | zero => intro v1 s H; exact H.elim
  | succ n ih => intro v1 s H; exact V_nd_X12_stands_93 hD  (fun H => ih H) H
set_option maxRecDepth 100000 in
set_option maxHeartbeats 4000000 in
theorem V_nd_X12_stands_64 {g : fz_G} {l : Launch} {d : Nat} (hD : 0 ≤ d)   {K64 : Int32 → fz_s → Prop} {Q : fz_s → Prop} {v1 : Int32} {s : fz_s} (hK64 : ∀ {v1 : Int32} {s : fz_s}, K64 v1 s → fs_V g l m_X12_stands d false 64 [.ref 196, .int v1] [] s (rV Q)) (H : nd_X12_stands_64  K64 Q v1 s) : fs_V g l m_X12_stands d false 64 [.ref 196, .int v1] [] s (rV Q) := by
  unfold nd_X12_stands_64 at H
  refine fs_iload_n (k0 := 1) (i := 1) dd_X12_stands_64 rfl rfl ?_
  refine fs_bipush (n := 10) (v := 10) dd_X12_stands_65 (by decide) ?_
  refine fs_icmp_ge (tgt := 91) dd_X12_stands_67 (by decide) (fun hc => ?_) (fun hc => ?_)
  · replace H := H.1 hc
    refine fs_iconst (n := 0) (v := 0) dd_X12_stands_91 (by decide) ?_
    refine fs_istore_n (k0 := 1) (i := 1) dd_X12_stands_92 rfl (by decide) ?_
    refine fs_weak (ls2 := [.ref 196, .int 0]) (fz_le_e (fz_le_e fz_le_n)) ?_
    exact V_lp_X12_stands_93 hD    2048 H
  · replace H := H.2 hc
    refine fs_aload_n (k0 := 0) (i := 0) dd_X12_stands_70 rfl rfl ?_
    refine fs_getr (ci := 12) (j := 41) (q := 225) dd_X12_stands_71 fl_X12_99 ca_196 rfl (Or.inr ⟨_, rfl⟩) rfl (by decide) ?_
    refine fs_bipush (n := 10) (v := 10) dd_X12_stands_74 (by decide) ?_
    refine fs_iload_n (k0 := 1) (i := 1) dd_X12_stands_76 rfl rfl ?_
    refine fs_iadd dd_X12_stands_77 ?_
    refine fs_aload_n (k0 := 0) (i := 0) dd_X12_stands_78 rfl rfl ?_
    refine fs_getr (ci := 12) (j := 41) (q := 225) dd_X12_stands_79 fl_X12_99 ca_196 rfl (Or.inr ⟨_, rfl⟩) rfl (by decide) ?_
    refine fs_iload_n (k0 := 1) (i := 1) dd_X12_stands_82 rfl rfl ?_
    have hb := H.1
    replace H := H.2
    refine fs_lald dd_X12_stands_83 ca_225 hb ?_
    have hb := H.1
    replace H := H.2
    refine fs_last dd_X12_stands_84 ca_225 hb ?_
    refine fs_tops (fun s1 hs1 => ?_)
    replace H := H s1 hs1
    refine fs_iincN (i := 1) (m := 1) (c := 1) dd_X12_stands_85 rfl (by decide) (by decide) (fun x2 hx2 => ?_)
    replace H := H x2 hx2
    refine fs_goto (tgt := 64) dd_X12_stands_88 (by decide) ?_
    refine fs_weak (ls2 := [.ref 196, .int x2]) (fz_le_e (fz_le_e fz_le_n)) ?_
    exact hK64 H
set_option maxRecDepth 100000 in
set_option maxHeartbeats 4000000 in
theorem V_lp_X12_stands_64 {g : fz_G} {l : Launch} {d : Nat} (hD : 0 ≤ d)    {Q : fz_s → Prop}  (n : Nat) : ∀ {v1 : Int32} {s : fz_s}, lp_X12_stands_64   Q n v1 s → fs_V g l m_X12_stands d false 64 [.ref 196, .int v1] [] s (rV Q) := by
  induction n with
  | zero => intro v1 s H; exact H.elim
  | succ n ih => intro v1 s H; exact V_nd_X12_stands_64 hD  (fun H => ih H) H
set_option maxRecDepth 100000 in
set_option maxHeartbeats 4000000 in
theorem V_nd_X12_stands_23 {g : fz_G} {l : Launch} {d : Nat} (hD : 0 ≤ d)   {K23 : Int32 → fz_s → Prop} {Q : fz_s → Prop} {v1 : Int32} {s : fz_s} (hK23 : ∀ {v1 : Int32} {s : fz_s}, K23 v1 s → fs_V g l m_X12_stands d false 23 [.ref 196, .int v1] [] s (rV Q)) (H : nd_X12_stands_23  K23 Q v1 s) : fs_V g l m_X12_stands d false 23 [.ref 196, .int v1] [] s (rV Q) := by
  unfold nd_X12_stands_23 at H
  refine fs_iload_n (k0 := 1) (i := 1) dd_X12_stands_23 rfl rfl ?_
  refine fs_iconst (n := 5) (v := 5) dd_X12_stands_24 (by decide) ?_
  refine fs_icmp_ge (tgt := 62) dd_X12_stands_25 (by decide) (fun hc => ?_) (fun hc => ?_)
  · replace H := H.1 hc
    refine fs_iconst (n := 0) (v := 0) dd_X12_stands_62 (by decide) ?_
    refine fs_istore_n (k0 := 1) (i := 1) dd_X12_stands_63 rfl (by decide) ?_
    refine fs_weak (ls2 := [.ref 196, .int 0]) (fz_le_e (fz_le_e fz_le_n)) ?_
    exact V_lp_X12_stands_64 hD    2048 H
  · replace H := H.2 hc
    refine fs_aload_n (k0 := 0) (i := 0) dd_X12_stands_28 rfl rfl ?_
    refine fs_getr (ci := 12) (j := 47) (q := 229) dd_X12_stands_29 fl_X12_112 ca_196 rfl (Or.inr ⟨_, rfl⟩) rfl (by decide) ?_
    refine fs_iconst (n := 5) (v := 5) dd_X12_stands_32 (by decide) ?_
    refine fs_iload_n (k0 := 1) (i := 1) dd_X12_stands_33 rfl rfl ?_
    refine fs_iadd dd_X12_stands_34 ?_
    refine fs_aload_n (k0 := 0) (i := 0) dd_X12_stands_35 rfl rfl ?_
    refine fs_getr (ci := 12) (j := 47) (q := 229) dd_X12_stands_36 fl_X12_112 ca_196 rfl (Or.inr ⟨_, rfl⟩) rfl (by decide) ?_
    refine fs_iload_n (k0 := 1) (i := 1) dd_X12_stands_39 rfl rfl ?_
    have hb := H.1
    replace H := H.2
    refine fs_iald dd_X12_stands_40 ca_229 hb ?_
    have hb := H.1
    replace H := H.2
    refine fs_iast dd_X12_stands_41 ca_229 hb ?_
    refine fs_tops (fun s1 hs1 => ?_)
    replace H := H s1 hs1
    refine fs_aload_n (k0 := 0) (i := 0) dd_X12_stands_42 rfl rfl ?_
    refine fs_getr (ci := 12) (j := 48) (q := 230) dd_X12_stands_43 fl_X12_115 ca_196 rfl (Or.inr ⟨_, rfl⟩) rfl (by decide) ?_
    refine fs_iconst (n := 5) (v := 5) dd_X12_stands_46 (by decide) ?_
    refine fs_iload_n (k0 := 1) (i := 1) dd_X12_stands_47 rfl rfl ?_
    refine fs_iadd dd_X12_stands_48 ?_
    refine fs_aload_n (k0 := 0) (i := 0) dd_X12_stands_49 rfl rfl ?_
    refine fs_getr (ci := 12) (j := 48) (q := 230) dd_X12_stands_50 fl_X12_115 ca_196 rfl (Or.inr ⟨_, rfl⟩) rfl (by decide) ?_
    refine fs_iload_n (k0 := 1) (i := 1) dd_X12_stands_53 rfl rfl ?_
    have hb := H.1
    replace H := H.2
    refine fs_iald dd_X12_stands_54 ca_230 hb ?_
    have hb := H.1
    replace H := H.2
    refine fs_iast dd_X12_stands_55 ca_230 hb ?_
    refine fs_tops (fun s2 hs2 => ?_)
    replace H := H s2 hs2
    refine fs_iincN (i := 1) (m := 1) (c := 1) dd_X12_stands_56 rfl (by decide) (by decide) (fun x3 hx3 => ?_)
    replace H := H x3 hx3
    refine fs_goto (tgt := 23) dd_X12_stands_59 (by decide) ?_
    refine fs_weak (ls2 := [.ref 196, .int x3]) (fz_le_e (fz_le_e fz_le_n)) ?_
    exact hK23 H
set_option maxRecDepth 100000 in
set_option maxHeartbeats 4000000 in
theorem V_lp_X12_stands_23 {g : fz_G} {l : Launch} {d : Nat} (hD : 0 ≤ d)    {Q : fz_s → Prop}  (n : Nat) : ∀ {v1 : Int32} {s : fz_s}, lp_X12_stands_23   Q n v1 s → fs_V g l m_X12_stands d false 23 [.ref 196, .int v1] [] s (rV Q) := by
  induction n with
  | zero => intro v1 s H; exact H.elim
  | succ n ih => intro v1 s H; exact V_nd_X12_stands_23 hD  (fun H => ih H) H
set_option maxRecDepth 100000 in
set_option maxHeartbeats 4000000 in
theorem V_X12_stands {g : fz_G} {l : Launch} {d : Nat} (hD : 0 ≤ d)   {s : fz_s} {Q : fz_s → Prop} (H : wp_X12_stands  s Q) : fs_V g l m_X12_stands d false 0 (fz_en [.ref 196] 2) [] s (rV Q) := by
  unfold wp_X12_stands at H
  refine fs_aload_n (k0 := 0) (i := 0) dd_X12_stands_0 rfl rfl ?_
  refine fs_iconst (n := 1) (v := 1) dd_X12_stands_1 (by decide) ?_
  refine fs_puti (ci := 12) (j := 52) dd_X12_stands_2 fl_X12_386 (fun _ _ _ h => by cases h; rfl) ca_196 rfl (Or.inr ⟨rfl, Or.inr rfl⟩) ?_
  refine fs_tops (fun s1 hs1 => ?_)
  replace H := H s1 hs1
  refine fs_aload_n (k0 := 0) (i := 0) dd_X12_stands_5 rfl rfl ?_
  refine fs_aload_n (k0 := 0) (i := 0) dd_X12_stands_6 rfl rfl ?_
  refine fs_geti (ci := 12) (j := 39) dd_X12_stands_7 fl_X12_320 ca_196 rfl (Or.inl rfl) ?_
  refine fs_puti (ci := 12) (j := 40) dd_X12_stands_10 fl_X12_390 (fun _ _ _ h => by cases h; rfl) ca_196 rfl (Or.inl rfl) ?_
  refine fs_tops (fun s2 hs2 => ?_)
  replace H := H s2 hs2
  refine fs_aload_n (k0 := 0) (i := 0) dd_X12_stands_13 rfl rfl ?_
  refine fs_aload_n (k0 := 0) (i := 0) dd_X12_stands_14 rfl rfl ?_
  refine fs_geti (ci := 12) (j := 45) dd_X12_stands_15 fl_X12_371 ca_196 rfl (Or.inl rfl) ?_
  refine fs_puti (ci := 12) (j := 46) dd_X12_stands_18 fl_X12_393 (fun _ _ _ h => by cases h; rfl) ca_196 rfl (Or.inl rfl) ?_
  refine fs_tops (fun s3 hs3 => ?_)
  replace H := H s3 hs3
  refine fs_iconst (n := 0) (v := 0) dd_X12_stands_21 (by decide) ?_
  refine fs_istore_n (k0 := 1) (i := 1) dd_X12_stands_22 rfl (by decide) ?_
  refine fs_weak (ls2 := [.ref 196, .int 0]) (fz_le_e (fz_le_e fz_le_n)) ?_
  exact V_lp_X12_stands_23 hD    2048 H
theorem dd_X12_treaty_0 : decode m_X12_treaty.2.1 0 = .ok (.aload_n 0, 1) := by decide +kernel
theorem dd_X12_treaty_1 : decode m_X12_treaty.2.1 1 = .ok (.aload_n 0, 1) := by decide +kernel
theorem dd_X12_treaty_2 : decode m_X12_treaty.2.1 2 = .ok (.getfield 249, 3) := by decide +kernel
theorem dd_X12_treaty_5 : decode m_X12_treaty.2.1 5 = .ok (.putfield 261, 3) := by decide +kernel
theorem dd_X12_treaty_8 : decode m_X12_treaty.2.1 8 = .ok (.aload_n 0, 1) := by decide +kernel
theorem dd_X12_treaty_9 : decode m_X12_treaty.2.1 9 = .ok (.iconst 0, 1) := by decide +kernel
theorem dd_X12_treaty_10 : decode m_X12_treaty.2.1 10 = .ok (.putfield 249, 3) := by decide +kernel
theorem dd_X12_treaty_13 : decode m_X12_treaty.2.1 13 = .ok (.aload_n 0, 1) := by decide +kernel
theorem dd_X12_treaty_14 : decode m_X12_treaty.2.1 14 = .ok (.iconst 0, 1) := by decide +kernel
theorem dd_X12_treaty_15 : decode m_X12_treaty.2.1 15 = .ok (.putfield 258, 3) := by decide +kernel
theorem dd_X12_treaty_18 : decode m_X12_treaty.2.1 18 = .ok (.aload_n 0, 1) := by decide +kernel
theorem dd_X12_treaty_19 : decode m_X12_treaty.2.1 19 = .ok (.iconst (-1), 1) := by decide +kernel
theorem dd_X12_treaty_20 : decode m_X12_treaty.2.1 20 = .ok (.putfield 272, 3) := by decide +kernel
theorem dd_X12_treaty_23 : decode m_X12_treaty.2.1 23 = .ok (.aload_n 0, 1) := by decide +kernel
theorem dd_X12_treaty_24 : decode m_X12_treaty.2.1 24 = .ok (.iconst 0, 1) := by decide +kernel
theorem dd_X12_treaty_25 : decode m_X12_treaty.2.1 25 = .ok (.putfield 252, 3) := by decide +kernel
theorem dd_X12_treaty_28 : decode m_X12_treaty.2.1 28 = .ok (.aload_n 0, 1) := by decide +kernel
theorem dd_X12_treaty_29 : decode m_X12_treaty.2.1 29 = .ok (.iconst (-1), 1) := by decide +kernel
theorem dd_X12_treaty_30 : decode m_X12_treaty.2.1 30 = .ok (.putfield 255, 3) := by decide +kernel
theorem dd_X12_treaty_33 : decode m_X12_treaty.2.1 33 = .ok (.aload_n 0, 1) := by decide +kernel
theorem dd_X12_treaty_34 : decode m_X12_treaty.2.1 34 = .ok (.iconst 0, 1) := by decide +kernel
theorem dd_X12_treaty_35 : decode m_X12_treaty.2.1 35 = .ok (.putfield 359, 3) := by decide +kernel
theorem dd_X12_treaty_38 : decode m_X12_treaty.2.1 38 = .ok (.aload_n 0, 1) := by decide +kernel
theorem dd_X12_treaty_39 : decode m_X12_treaty.2.1 39 = .ok (.iconst 0, 1) := by decide +kernel
theorem dd_X12_treaty_40 : decode m_X12_treaty.2.1 40 = .ok (.putfield 317, 3) := by decide +kernel
theorem dd_X12_treaty_43 : decode m_X12_treaty.2.1 43 = .ok (.aload_n 0, 1) := by decide +kernel
theorem dd_X12_treaty_44 : decode m_X12_treaty.2.1 44 = .ok (.iconst 0, 1) := by decide +kernel
theorem dd_X12_treaty_45 : decode m_X12_treaty.2.1 45 = .ok (.putfield 320, 3) := by decide +kernel
theorem dd_X12_treaty_48 : decode m_X12_treaty.2.1 48 = .ok (.aload_n 0, 1) := by decide +kernel
theorem dd_X12_treaty_49 : decode m_X12_treaty.2.1 49 = .ok (.iconst 0, 1) := by decide +kernel
theorem dd_X12_treaty_50 : decode m_X12_treaty.2.1 50 = .ok (.putfield 371, 3) := by decide +kernel
theorem dd_X12_treaty_53 : decode m_X12_treaty.2.1 53 = .ok (.iconst 0, 1) := by decide +kernel
theorem dd_X12_treaty_54 : decode m_X12_treaty.2.1 54 = .ok (.istore_n 1, 1) := by decide +kernel
theorem dd_X12_treaty_55 : decode m_X12_treaty.2.1 55 = .ok (.iload_n 1, 1) := by decide +kernel
theorem dd_X12_treaty_56 : decode m_X12_treaty.2.1 56 = .ok (.iconst 5, 1) := by decide +kernel
theorem dd_X12_treaty_57 : decode m_X12_treaty.2.1 57 = .ok (.if_icmp .ge 16, 3) := by decide +kernel
theorem dd_X12_treaty_60 : decode m_X12_treaty.2.1 60 = .ok (.aload_n 0, 1) := by decide +kernel
theorem dd_X12_treaty_61 : decode m_X12_treaty.2.1 61 = .ok (.getfield 112, 3) := by decide +kernel
theorem dd_X12_treaty_64 : decode m_X12_treaty.2.1 64 = .ok (.iload_n 1, 1) := by decide +kernel
theorem dd_X12_treaty_65 : decode m_X12_treaty.2.1 65 = .ok (.iconst (-1), 1) := by decide +kernel
theorem dd_X12_treaty_66 : decode m_X12_treaty.2.1 66 = .ok (.iastore, 1) := by decide +kernel
theorem dd_X12_treaty_67 : decode m_X12_treaty.2.1 67 = .ok (.iinc 1 1, 3) := by decide +kernel
theorem dd_X12_treaty_70 : decode m_X12_treaty.2.1 70 = .ok (.goto (-15), 3) := by decide +kernel
theorem dd_X12_treaty_73 : decode m_X12_treaty.2.1 73 = .ok (.aload_n 0, 1) := by decide +kernel
theorem dd_X12_treaty_74 : decode m_X12_treaty.2.1 74 = .ok (.invokevirtual 374, 3) := by decide +kernel
theorem dd_X12_treaty_77 : decode m_X12_treaty.2.1 77 = .ok (.aload_n 0, 1) := by decide +kernel
theorem dd_X12_treaty_78 : decode m_X12_treaty.2.1 78 = .ok (.invokevirtual 374, 3) := by decide +kernel
theorem dd_X12_treaty_81 : decode m_X12_treaty.2.1 81 = .ok (.aload_n 0, 1) := by decide +kernel
theorem dd_X12_treaty_82 : decode m_X12_treaty.2.1 82 = .ok (.iconst 2, 1) := by decide +kernel
theorem dd_X12_treaty_83 : decode m_X12_treaty.2.1 83 = .ok (.putfield 362, 3) := by decide +kernel
theorem dd_X12_treaty_86 : decode m_X12_treaty.2.1 86 = .ok (.aload_n 0, 1) := by decide +kernel
theorem dd_X12_treaty_87 : decode m_X12_treaty.2.1 87 = .ok (.getfield 252, 3) := by decide +kernel
theorem dd_X12_treaty_90 : decode m_X12_treaty.2.1 90 = .ok (.ifCond .ne 18, 3) := by decide +kernel
theorem dd_X12_treaty_93 : decode m_X12_treaty.2.1 93 = .ok (.aload_n 0, 1) := by decide +kernel
theorem dd_X12_treaty_94 : decode m_X12_treaty.2.1 94 = .ok (.invokevirtual 264, 3) := by decide +kernel
theorem dd_X12_treaty_97 : decode m_X12_treaty.2.1 97 = .ok (.iconst (-1), 1) := by decide +kernel
theorem dd_X12_treaty_98 : decode m_X12_treaty.2.1 98 = .ok (.if_icmp .eq 10, 3) := by decide +kernel
theorem dd_X12_treaty_101 : decode m_X12_treaty.2.1 101 = .ok (.aload_n 0, 1) := by decide +kernel
theorem dd_X12_treaty_102 : decode m_X12_treaty.2.1 102 = .ok (.invokevirtual 377, 3) := by decide +kernel
theorem dd_X12_treaty_105 : decode m_X12_treaty.2.1 105 = .ok (.goto (-19), 3) := by decide +kernel
theorem dd_X12_treaty_108 : decode m_X12_treaty.2.1 108 = .ok (.aload_n 0, 1) := by decide +kernel
theorem dd_X12_treaty_109 : decode m_X12_treaty.2.1 109 = .ok (.aload_n 0, 1) := by decide +kernel
theorem dd_X12_treaty_110 : decode m_X12_treaty.2.1 110 = .ok (.getfield 252, 3) := by decide +kernel
theorem dd_X12_treaty_113 : decode m_X12_treaty.2.1 113 = .ok (.putfield 380, 3) := by decide +kernel
theorem dd_X12_treaty_116 : decode m_X12_treaty.2.1 116 = .ok (.aload_n 0, 1) := by decide +kernel
theorem dd_X12_treaty_117 : decode m_X12_treaty.2.1 117 = .ok (.aload_n 0, 1) := by decide +kernel
theorem dd_X12_treaty_118 : decode m_X12_treaty.2.1 118 = .ok (.getfield 255, 3) := by decide +kernel
theorem dd_X12_treaty_121 : decode m_X12_treaty.2.1 121 = .ok (.putfield 13, 3) := by decide +kernel
theorem dd_X12_treaty_124 : decode m_X12_treaty.2.1 124 = .ok (.aload_n 0, 1) := by decide +kernel
theorem dd_X12_treaty_125 : decode m_X12_treaty.2.1 125 = .ok (.getfield 252, 3) := by decide +kernel
theorem dd_X12_treaty_128 : decode m_X12_treaty.2.1 128 = .ok (.ifCond .eq 15, 3) := by decide +kernel
theorem dd_X12_treaty_131 : decode m_X12_treaty.2.1 131 = .ok (.aload_n 0, 1) := by decide +kernel
theorem dd_X12_treaty_132 : decode m_X12_treaty.2.1 132 = .ok (.getfield 17, 3) := by decide +kernel
theorem dd_X12_treaty_135 : decode m_X12_treaty.2.1 135 = .ok (.iconst 1, 1) := by decide +kernel
theorem dd_X12_treaty_136 : decode m_X12_treaty.2.1 136 = .ok (.dup2, 1) := by decide +kernel
theorem dd_X12_treaty_137 : decode m_X12_treaty.2.1 137 = .ok (.iaload, 1) := by decide +kernel
theorem dd_X12_treaty_138 : decode m_X12_treaty.2.1 138 = .ok (.iconst 1, 1) := by decide +kernel
theorem dd_X12_treaty_139 : decode m_X12_treaty.2.1 139 = .ok (.iadd, 1) := by decide +kernel
theorem dd_X12_treaty_140 : decode m_X12_treaty.2.1 140 = .ok (.iastore, 1) := by decide +kernel
theorem dd_X12_treaty_141 : decode m_X12_treaty.2.1 141 = .ok (.iconst (-1), 1) := by decide +kernel
theorem dd_X12_treaty_142 : decode m_X12_treaty.2.1 142 = .ok (.ireturn, 1) := by decide +kernel
theorem dd_X12_treaty_143 : decode m_X12_treaty.2.1 143 = .ok (.aload_n 0, 1) := by decide +kernel
theorem dd_X12_treaty_144 : decode m_X12_treaty.2.1 144 = .ok (.invokevirtual 383, 3) := by decide +kernel
theorem dd_X12_treaty_147 : decode m_X12_treaty.2.1 147 = .ok (.aload_n 0, 1) := by decide +kernel
theorem dd_X12_treaty_148 : decode m_X12_treaty.2.1 148 = .ok (.getfield 362, 3) := by decide +kernel
theorem dd_X12_treaty_151 : decode m_X12_treaty.2.1 151 = .ok (.ireturn, 1) := by decide +kernel
def nd_X12_treaty_108   (Q : Int32 → fz_s → Prop)  (s : fz_s) : Prop :=
  ∀ s1 : fz_s, s1 = si s 196 7 (s.1 196 5) → ∀ s2 : fz_s, s2 = si s1 196 8 (s1.1 196 6) → (((s2.1 196 5) = 0 → wp_X12_stands  s2 (fun s4 => Q (s4.1 196 51) s4)) ∧ (¬ (s2.1 196 5) = 0 → ∀ s5 : fz_s, s5 = si s2 198 (1 : Int32).toNatClampNeg ((s2.1 198 (1 : Int32).toNatClampNeg) + 1) → Q (-1) s5))
def nd_X12_treaty_86  (K86 : fz_s → Prop) (Q : Int32 → fz_s → Prop)  (s : fz_s) : Prop :=
  ((¬ (s.1 196 5) = 0 → nd_X12_treaty_108   Q  s) ∧ ((s.1 196 5) = 0 → wp_X12_look  s (fun r1 s2 => ((r1 = (-1) → nd_X12_treaty_108   Q  s2) ∧ (¬ r1 = (-1) → wp_X12_statementTold  s2 (fun s4 => K86  s4))))))
def lp_X12_treaty_86   (Q : Int32 → fz_s → Prop) : Nat → fz_s → Prop
  | 0 => fun  _ => False
  | n + 1 => nd_X12_treaty_86  (lp_X12_treaty_86   Q n) Q
def nd_X12_treaty_55  (K55 : Int32 → fz_s → Prop) (Q : Int32 → fz_s → Prop) (v1 : Int32) (s : fz_s) : Prop :=
  ((5 ≤ v1 → wp_X12_villageTold  s (fun s2 => wp_X12_villageTold  s2 (fun s4 => ∀ s5 : fz_s, s5 = si s4 196 51 2 → lp_X12_treaty_86   Q 2048  s5))) ∧ (¬ 5 ≤ v1 → vp_in v1 10 ∧ ∀ s6 : fz_s, s6 = si s 229 v1.toNatClampNeg (-1) → ∀ x7 : Int32, x7 = v1 + 1 → K55 x7 s6))
def lp_X12_treaty_55   (Q : Int32 → fz_s → Prop) : Nat → Int32 → fz_s → Prop
  | 0 => fun _ _ => False
  | n + 1 => nd_X12_treaty_55  (lp_X12_treaty_55   Q n) Q
def wp_X12_treaty  (s : fz_s) (Q : Int32 → fz_s → Prop) : Prop :=
  ∀ s1 : fz_s, s1 = si s 196 3 (s.1 196 1) → ∀ s2 : fz_s, s2 = si s1 196 1 0 → ∀ s3 : fz_s, s3 = si s2 196 2 0 → ∀ s4 : fz_s, s4 = si s3 196 4 (-1) → ∀ s5 : fz_s, s5 = si s4 196 5 0 → ∀ s6 : fz_s, s6 = si s5 196 6 (-1) → ∀ s7 : fz_s, s7 = si s6 196 50 0 → ∀ s8 : fz_s, s8 = si s7 196 38 0 → ∀ s9 : fz_s, s9 = si s8 196 39 0 → ∀ s10 : fz_s, s10 = si s9 196 45 0 → lp_X12_treaty_55   Q 2048 0 s10
set_option maxRecDepth 100000 in
set_option maxHeartbeats 4000000 in
theorem V_nd_X12_treaty_108 {g : fz_G} {l : Launch} {d : Nat} (hD : 11 ≤ d)    {Q : Int32 → fz_s → Prop}  {s : fz_s}  (H : nd_X12_treaty_108   Q  s) : fs_V g l m_X12_treaty d false 108 [.ref 196, fz_J] [] s (rI Q) := by
  obtain ⟨d, rfl⟩ : ∃ e, d = e + 1 := ⟨d - 1, by omega⟩
  unfold nd_X12_treaty_108 at H
  refine fs_aload_n (k0 := 0) (i := 0) dd_X12_treaty_108 rfl rfl ?_
  refine fs_aload_n (k0 := 0) (i := 0) dd_X12_treaty_109 rfl rfl ?_
  refine fs_geti (ci := 12) (j := 5) dd_X12_treaty_110 fl_X12_252 ca_196 rfl (Or.inl rfl) ?_
  refine fs_puti (ci := 12) (j := 7) dd_X12_treaty_113 fl_X12_380 (fun _ _ _ h => by cases h; rfl) ca_196 rfl (Or.inl rfl) ?_
  refine fs_tops (fun s1 hs1 => ?_)
  replace H := H s1 hs1
  refine fs_aload_n (k0 := 0) (i := 0) dd_X12_treaty_116 rfl rfl ?_
  refine fs_aload_n (k0 := 0) (i := 0) dd_X12_treaty_117 rfl rfl ?_
  refine fs_geti (ci := 12) (j := 6) dd_X12_treaty_118 fl_X12_255 ca_196 rfl (Or.inl rfl) ?_
  refine fs_puti (ci := 12) (j := 8) dd_X12_treaty_121 fl_X12_13 (fun _ _ _ h => by cases h; rfl) ca_196 rfl (Or.inl rfl) ?_
  refine fs_tops (fun s2 hs2 => ?_)
  replace H := H s2 hs2
  refine fs_aload_n (k0 := 0) (i := 0) dd_X12_treaty_124 rfl rfl ?_
  refine fs_geti (ci := 12) (j := 5) dd_X12_treaty_125 fl_X12_252 ca_196 rfl (Or.inl rfl) ?_
  refine fs_if_eq (tgt := 143) dd_X12_treaty_128 (by decide) (fun hc => ?_) (fun hc => ?_)
  · replace H := H.1 hc
    refine fs_aload_n (k0 := 0) (i := 0) dd_X12_treaty_143 rfl rfl ?_
    refine fs_callV (y := m_X12_stands) (as := []) dd_X12_treaty_144 me_X12_stands lk_X12_383 in_X12_stands se_X12_stands ca_196 rfl rfl rfl (Nat.le_of_ble_eq_true rfl) (Nat.le_of_ble_eq_true rfl) rfl (V_X12_stands (by omega)  H) (k2_V fun s4 H => ?_)
    refine fs_aload_n (k0 := 0) (i := 0) dd_X12_treaty_147 rfl rfl ?_
    refine fs_geti (ci := 12) (j := 51) dd_X12_treaty_148 fl_X12_362 ca_196 rfl (Or.inl rfl) ?_
    exact fs_iret dd_X12_treaty_151 rfl H
  · replace H := H.2 hc
    refine fs_aload_n (k0 := 0) (i := 0) dd_X12_treaty_131 rfl rfl ?_
    refine fs_getr (ci := 12) (j := 9) (q := 198) dd_X12_treaty_132 fl_X12_17 ca_196 rfl (Or.inr ⟨_, rfl⟩) rfl (by decide) ?_
    refine fs_iconst (n := 1) (v := 1) dd_X12_treaty_135 (by decide) ?_
    refine fs_dup2 dd_X12_treaty_136 rfl rfl ?_
    refine fs_iald dd_X12_treaty_137 ca_198 (vp_in_nI (n := 1) (by decide) (by decide)) ?_
    refine fs_iconst (n := 1) (v := 1) dd_X12_treaty_138 (by decide) ?_
    refine fs_iadd dd_X12_treaty_139 ?_
    refine fs_iast dd_X12_treaty_140 ca_198 (vp_in_nI (n := 1) (by decide) (by decide)) ?_
    refine fs_tops (fun s5 hs5 => ?_)
    replace H := H s5 hs5
    refine fs_iconst (n := -1) (v := -1) dd_X12_treaty_141 (by decide) ?_
    exact fs_iret dd_X12_treaty_142 rfl H
set_option maxRecDepth 100000 in
set_option maxHeartbeats 4000000 in
theorem V_nd_X12_treaty_86 {g : fz_G} {l : Launch} {d : Nat} (hD : 11 ≤ d)   {K86 : fz_s → Prop} {Q : Int32 → fz_s → Prop}  {s : fz_s} (hK86 : ∀ {s : fz_s}, K86 s → fs_V g l m_X12_treaty d false 86 [.ref 196, fz_J] [] s (rI Q)) (H : nd_X12_treaty_86  K86 Q  s) : fs_V g l m_X12_treaty d false 86 [.ref 196, fz_J] [] s (rI Q) := by
  obtain ⟨d, rfl⟩ : ∃ e, d = e + 1 := ⟨d - 1, by omega⟩
  unfold nd_X12_treaty_86 at H
  refine fs_aload_n (k0 := 0) (i := 0) dd_X12_treaty_86 rfl rfl ?_
  refine fs_geti (ci := 12) (j := 5) dd_X12_treaty_87 fl_X12_252 ca_196 rfl (Or.inl rfl) ?_
  refine fs_if_ne (tgt := 108) dd_X12_treaty_90 (by decide) (fun hc => ?_) (fun hc => ?_)
  · replace H := H.1 hc
    refine fs_weak (ls2 := [.ref 196, fz_J]) (fz_le_e (fz_le_j fz_le_n)) ?_
    exact V_nd_X12_treaty_108 hD    H
  · replace H := H.2 hc
    refine fs_aload_n (k0 := 0) (i := 0) dd_X12_treaty_93 rfl rfl ?_
    refine fs_callV (y := m_X12_look) (as := []) dd_X12_treaty_94 me_X12_look lk_X12_264 in_X12_look se_X12_look ca_196 rfl rfl rfl (Nat.le_of_ble_eq_true rfl) (Nat.le_of_ble_eq_true rfl) rfl (V_X12_look (by omega)  H) (k2_I fun r1 s2 H => ?_)
    refine fs_iconst (n := -1) (v := -1) dd_X12_treaty_97 (by decide) ?_
    refine fs_icmp_eq (tgt := 108) dd_X12_treaty_98 (by decide) (fun hc => ?_) (fun hc => ?_)
    · replace H := H.1 hc
      refine fs_weak (ls2 := [.ref 196, fz_J]) (fz_le_e (fz_le_j fz_le_n)) ?_
      exact V_nd_X12_treaty_108 hD    H
    · replace H := H.2 hc
      refine fs_aload_n (k0 := 0) (i := 0) dd_X12_treaty_101 rfl rfl ?_
      refine fs_callV (y := m_X12_statementTold) (as := []) dd_X12_treaty_102 me_X12_statementTold lk_X12_377 in_X12_statementTold se_X12_statementTold ca_196 rfl rfl rfl (Nat.le_of_ble_eq_true rfl) (Nat.le_of_ble_eq_true rfl) rfl (V_X12_statementTold (by omega)  H) (k2_V fun s4 H => ?_)
      refine fs_goto (tgt := 86) dd_X12_treaty_105 (by decide) ?_
      refine fs_weak (ls2 := [.ref 196, fz_J]) (fz_le_e (fz_le_j fz_le_n)) ?_
      exact hK86 H
set_option maxRecDepth 100000 in
set_option maxHeartbeats 4000000 in
theorem V_lp_X12_treaty_86 {g : fz_G} {l : Launch} {d : Nat} (hD : 11 ≤ d)    {Q : Int32 → fz_s → Prop}  (n : Nat) : ∀ {s : fz_s}, lp_X12_treaty_86   Q n  s → fs_V g l m_X12_treaty d false 86 [.ref 196, fz_J] [] s (rI Q) := by
  induction n with
  | zero => intro  s H; exact H.elim
  | succ n ih => intro  s H; exact V_nd_X12_treaty_86 hD  (fun H => ih H) H
set_option maxRecDepth 100000 in
set_option maxHeartbeats 4000000 in
theorem V_nd_X12_treaty_55 {g : fz_G} {l : Launch} {d : Nat} (hD : 11 ≤ d)   {K55 : Int32 → fz_s → Prop} {Q : Int32 → fz_s → Prop} {v1 : Int32} {s : fz_s} (hK55 : ∀ {v1 : Int32} {s : fz_s}, K55 v1 s → fs_V g l m_X12_treaty d false 55 [.ref 196, .int v1] [] s (rI Q)) (H : nd_X12_treaty_55  K55 Q v1 s) : fs_V g l m_X12_treaty d false 55 [.ref 196, .int v1] [] s (rI Q) := by
  obtain ⟨d, rfl⟩ : ∃ e, d = e + 1 := ⟨d - 1, by omega⟩
  unfold nd_X12_treaty_55 at H
  refine fs_iload_n (k0 := 1) (i := 1) dd_X12_treaty_55 rfl rfl ?_
  refine fs_iconst (n := 5) (v := 5) dd_X12_treaty_56 (by decide) ?_
  refine fs_icmp_ge (tgt := 73) dd_X12_treaty_57 (by decide) (fun hc => ?_) (fun hc => ?_)
  · replace H := H.1 hc
    refine fs_aload_n (k0 := 0) (i := 0) dd_X12_treaty_73 rfl rfl ?_
    refine fs_callV (y := m_X12_villageTold) (as := []) dd_X12_treaty_74 me_X12_villageTold lk_X12_374 in_X12_villageTold se_X12_villageTold ca_196 rfl rfl rfl (Nat.le_of_ble_eq_true rfl) (Nat.le_of_ble_eq_true rfl) rfl (V_X12_villageTold (by omega)  H) (k2_V fun s2 H => ?_)
    refine fs_aload_n (k0 := 0) (i := 0) dd_X12_treaty_77 rfl rfl ?_
    refine fs_callV (y := m_X12_villageTold) (as := []) dd_X12_treaty_78 me_X12_villageTold lk_X12_374 in_X12_villageTold se_X12_villageTold ca_196 rfl rfl rfl (Nat.le_of_ble_eq_true rfl) (Nat.le_of_ble_eq_true rfl) rfl (V_X12_villageTold (by omega)  H) (k2_V fun s4 H => ?_)
    refine fs_aload_n (k0 := 0) (i := 0) dd_X12_treaty_81 rfl rfl ?_
    refine fs_iconst (n := 2) (v := 2) dd_X12_treaty_82 (by decide) ?_
    refine fs_puti (ci := 12) (j := 51) dd_X12_treaty_83 fl_X12_362 (fun _ _ _ h => by cases h; rfl) ca_196 rfl (Or.inl rfl) ?_
    refine fs_tops (fun s5 hs5 => ?_)
    replace H := H s5 hs5
    refine fs_weak (ls2 := [.ref 196, fz_J]) (fz_le_e (fz_le_j fz_le_n)) ?_
    exact V_lp_X12_treaty_86 hD    2048 H
  · replace H := H.2 hc
    refine fs_aload_n (k0 := 0) (i := 0) dd_X12_treaty_60 rfl rfl ?_
    refine fs_getr (ci := 12) (j := 47) (q := 229) dd_X12_treaty_61 fl_X12_112 ca_196 rfl (Or.inr ⟨_, rfl⟩) rfl (by decide) ?_
    refine fs_iload_n (k0 := 1) (i := 1) dd_X12_treaty_64 rfl rfl ?_
    refine fs_iconst (n := -1) (v := -1) dd_X12_treaty_65 (by decide) ?_
    have hb := H.1
    replace H := H.2
    refine fs_iast dd_X12_treaty_66 ca_229 hb ?_
    refine fs_tops (fun s6 hs6 => ?_)
    replace H := H s6 hs6
    refine fs_iincN (i := 1) (m := 1) (c := 1) dd_X12_treaty_67 rfl (by decide) (by decide) (fun x7 hx7 => ?_)
    replace H := H x7 hx7
    refine fs_goto (tgt := 55) dd_X12_treaty_70 (by decide) ?_
    refine fs_weak (ls2 := [.ref 196, .int x7]) (fz_le_e (fz_le_e fz_le_n)) ?_
    exact hK55 H
set_option maxRecDepth 100000 in
set_option maxHeartbeats 4000000 in
theorem V_lp_X12_treaty_55 {g : fz_G} {l : Launch} {d : Nat} (hD : 11 ≤ d)    {Q : Int32 → fz_s → Prop}  (n : Nat) : ∀ {v1 : Int32} {s : fz_s}, lp_X12_treaty_55   Q n v1 s → fs_V g l m_X12_treaty d false 55 [.ref 196, .int v1] [] s (rI Q) := by
  induction n with
  | zero => intro v1 s H; exact H.elim
  | succ n ih => intro v1 s H; exact V_nd_X12_treaty_55 hD  (fun H => ih H) H
set_option maxRecDepth 100000 in
set_option maxHeartbeats 4000000 in
theorem V_X12_treaty {g : fz_G} {l : Launch} {d : Nat} (hD : 11 ≤ d)   {s : fz_s} {Q : Int32 → fz_s → Prop} (H : wp_X12_treaty  s Q) : fs_V g l m_X12_treaty d false 0 (fz_en [.ref 196] 2) [] s (rI Q) := by
  obtain ⟨d, rfl⟩ : ∃ e, d = e + 1 := ⟨d - 1, by omega⟩
  unfold wp_X12_treaty at H
  refine fs_aload_n (k0 := 0) (i := 0) dd_X12_treaty_0 rfl rfl ?_
  refine fs_aload_n (k0 := 0) (i := 0) dd_X12_treaty_1 rfl rfl ?_
  refine fs_geti (ci := 12) (j := 1) dd_X12_treaty_2 fl_X12_249 ca_196 rfl (Or.inl rfl) ?_
  refine fs_puti (ci := 12) (j := 3) dd_X12_treaty_5 fl_X12_261 (fun _ _ _ h => by cases h; rfl) ca_196 rfl (Or.inl rfl) ?_
  refine fs_tops (fun s1 hs1 => ?_)
  replace H := H s1 hs1
  refine fs_aload_n (k0 := 0) (i := 0) dd_X12_treaty_8 rfl rfl ?_
  refine fs_iconst (n := 0) (v := 0) dd_X12_treaty_9 (by decide) ?_
  refine fs_puti (ci := 12) (j := 1) dd_X12_treaty_10 fl_X12_249 (fun _ _ _ h => by cases h; rfl) ca_196 rfl (Or.inl rfl) ?_
  refine fs_tops (fun s2 hs2 => ?_)
  replace H := H s2 hs2
  refine fs_aload_n (k0 := 0) (i := 0) dd_X12_treaty_13 rfl rfl ?_
  refine fs_iconst (n := 0) (v := 0) dd_X12_treaty_14 (by decide) ?_
  refine fs_puti (ci := 12) (j := 2) dd_X12_treaty_15 fl_X12_258 (fun _ _ _ h => by cases h; rfl) ca_196 rfl (Or.inl rfl) ?_
  refine fs_tops (fun s3 hs3 => ?_)
  replace H := H s3 hs3
  refine fs_aload_n (k0 := 0) (i := 0) dd_X12_treaty_18 rfl rfl ?_
  refine fs_iconst (n := -1) (v := -1) dd_X12_treaty_19 (by decide) ?_
  refine fs_puti (ci := 12) (j := 4) dd_X12_treaty_20 fl_X12_272 (fun _ _ _ h => by cases h; rfl) ca_196 rfl (Or.inl rfl) ?_
  refine fs_tops (fun s4 hs4 => ?_)
  replace H := H s4 hs4
  refine fs_aload_n (k0 := 0) (i := 0) dd_X12_treaty_23 rfl rfl ?_
  refine fs_iconst (n := 0) (v := 0) dd_X12_treaty_24 (by decide) ?_
  refine fs_puti (ci := 12) (j := 5) dd_X12_treaty_25 fl_X12_252 (fun _ _ _ h => by cases h; rfl) ca_196 rfl (Or.inl rfl) ?_
  refine fs_tops (fun s5 hs5 => ?_)
  replace H := H s5 hs5
  refine fs_aload_n (k0 := 0) (i := 0) dd_X12_treaty_28 rfl rfl ?_
  refine fs_iconst (n := -1) (v := -1) dd_X12_treaty_29 (by decide) ?_
  refine fs_puti (ci := 12) (j := 6) dd_X12_treaty_30 fl_X12_255 (fun _ _ _ h => by cases h; rfl) ca_196 rfl (Or.inl rfl) ?_
  refine fs_tops (fun s6 hs6 => ?_)
  replace H := H s6 hs6
  refine fs_aload_n (k0 := 0) (i := 0) dd_X12_treaty_33 rfl rfl ?_
  refine fs_iconst (n := 0) (v := 0) dd_X12_treaty_34 (by decide) ?_
  refine fs_puti (ci := 12) (j := 50) dd_X12_treaty_35 fl_X12_359 (fun _ _ _ h => by cases h; rfl) ca_196 rfl (Or.inl rfl) ?_
  refine fs_tops (fun s7 hs7 => ?_)
  replace H := H s7 hs7
  refine fs_aload_n (k0 := 0) (i := 0) dd_X12_treaty_38 rfl rfl ?_
  refine fs_iconst (n := 0) (v := 0) dd_X12_treaty_39 (by decide) ?_
  refine fs_puti (ci := 12) (j := 38) dd_X12_treaty_40 fl_X12_317 (fun _ _ _ h => by cases h; rfl) ca_196 rfl (Or.inl rfl) ?_
  refine fs_tops (fun s8 hs8 => ?_)
  replace H := H s8 hs8
  refine fs_aload_n (k0 := 0) (i := 0) dd_X12_treaty_43 rfl rfl ?_
  refine fs_iconst (n := 0) (v := 0) dd_X12_treaty_44 (by decide) ?_
  refine fs_puti (ci := 12) (j := 39) dd_X12_treaty_45 fl_X12_320 (fun _ _ _ h => by cases h; rfl) ca_196 rfl (Or.inl rfl) ?_
  refine fs_tops (fun s9 hs9 => ?_)
  replace H := H s9 hs9
  refine fs_aload_n (k0 := 0) (i := 0) dd_X12_treaty_48 rfl rfl ?_
  refine fs_iconst (n := 0) (v := 0) dd_X12_treaty_49 (by decide) ?_
  refine fs_puti (ci := 12) (j := 45) dd_X12_treaty_50 fl_X12_371 (fun _ _ _ h => by cases h; rfl) ca_196 rfl (Or.inl rfl) ?_
  refine fs_tops (fun s10 hs10 => ?_)
  replace H := H s10 hs10
  refine fs_iconst (n := 0) (v := 0) dd_X12_treaty_53 (by decide) ?_
  refine fs_istore_n (k0 := 1) (i := 1) dd_X12_treaty_54 rfl (by decide) ?_
  refine fs_weak (ls2 := [.ref 196, .int 0]) (fz_le_e (fz_le_e fz_le_n)) ?_
  exact V_lp_X12_treaty_55 hD    2048 H
theorem dd_X12_fault_0 : decode m_X12_fault.2.1 0 = .ok (.iload_n 1, 1) := by decide +kernel
theorem dd_X12_fault_1 : decode m_X12_fault.2.1 1 = .ok (.ifCond .ne 10, 3) := by decide +kernel
theorem dd_X12_fault_4 : decode m_X12_fault.2.1 4 = .ok (.aload_n 0, 1) := by decide +kernel
theorem dd_X12_fault_5 : decode m_X12_fault.2.1 5 = .ok (.getfield 380, 3) := by decide +kernel
theorem dd_X12_fault_8 : decode m_X12_fault.2.1 8 = .ok (.goto 16, 3) := by decide +kernel
theorem dd_X12_fault_11 : decode m_X12_fault.2.1 11 = .ok (.iload_n 1, 1) := by decide +kernel
theorem dd_X12_fault_12 : decode m_X12_fault.2.1 12 = .ok (.iconst 1, 1) := by decide +kernel
theorem dd_X12_fault_13 : decode m_X12_fault.2.1 13 = .ok (.if_icmp .ne 10, 3) := by decide +kernel
theorem dd_X12_fault_16 : decode m_X12_fault.2.1 16 = .ok (.aload_n 0, 1) := by decide +kernel
theorem dd_X12_fault_17 : decode m_X12_fault.2.1 17 = .ok (.getfield 13, 3) := by decide +kernel
theorem dd_X12_fault_20 : decode m_X12_fault.2.1 20 = .ok (.goto 4, 3) := by decide +kernel
theorem dd_X12_fault_23 : decode m_X12_fault.2.1 23 = .ok (.iconst (-1), 1) := by decide +kernel
theorem dd_X12_fault_24 : decode m_X12_fault.2.1 24 = .ok (.ireturn, 1) := by decide +kernel
def wp_X12_fault (p0 : Int32) (s : fz_s) (Q : Int32 → fz_s → Prop) : Prop :=
  ((¬ p0 = 0 → ((¬ p0 = 1 → Q (-1) s) ∧ (p0 = 1 → Q (s.1 196 8) s))) ∧ (p0 = 0 → Q (s.1 196 7) s))
set_option maxRecDepth 100000 in
set_option maxHeartbeats 4000000 in
theorem V_X12_fault {g : fz_G} {l : Launch} {d : Nat} (hD : 0 ≤ d) {p0 : Int32}  {s : fz_s} {Q : Int32 → fz_s → Prop} (H : wp_X12_fault p0 s Q) : fs_V g l m_X12_fault d false 0 (fz_en [.ref 196, .int p0] 2) [] s (rI Q) := by
  unfold wp_X12_fault at H
  refine fs_iload_n (k0 := 1) (i := 1) dd_X12_fault_0 rfl rfl ?_
  refine fs_if_ne (tgt := 11) dd_X12_fault_1 (by decide) (fun hc => ?_) (fun hc => ?_)
  · replace H := H.1 hc
    refine fs_iload_n (k0 := 1) (i := 1) dd_X12_fault_11 rfl rfl ?_
    refine fs_iconst (n := 1) (v := 1) dd_X12_fault_12 (by decide) ?_
    refine fs_icmp_ne (tgt := 23) dd_X12_fault_13 (by decide) (fun hc => ?_) (fun hc => ?_)
    · replace H := H.1 hc
      refine fs_iconst (n := -1) (v := -1) dd_X12_fault_23 (by decide) ?_
      exact fs_iret dd_X12_fault_24 rfl H
    · replace H := H.2 hc
      refine fs_aload_n (k0 := 0) (i := 0) dd_X12_fault_16 rfl rfl ?_
      refine fs_geti (ci := 12) (j := 8) dd_X12_fault_17 fl_X12_13 ca_196 rfl (Or.inl rfl) ?_
      refine fs_goto (tgt := 24) dd_X12_fault_20 (by decide) ?_
      exact fs_iret dd_X12_fault_24 rfl H
  · replace H := H.2 hc
    refine fs_aload_n (k0 := 0) (i := 0) dd_X12_fault_4 rfl rfl ?_
    refine fs_geti (ci := 12) (j := 7) dd_X12_fault_5 fl_X12_380 ca_196 rfl (Or.inl rfl) ?_
    refine fs_goto (tgt := 24) dd_X12_fault_8 (by decide) ?_
    exact fs_iret dd_X12_fault_24 rfl H
theorem dd_X12_personMany_0 : decode m_X12_personMany.2.1 0 = .ok (.aload_n 0, 1) := by decide +kernel
theorem dd_X12_personMany_1 : decode m_X12_personMany.2.1 1 = .ok (.getfield 390, 3) := by decide +kernel
theorem dd_X12_personMany_4 : decode m_X12_personMany.2.1 4 = .ok (.ireturn, 1) := by decide +kernel
def wp_X12_personMany  (s : fz_s) (Q : Int32 → fz_s → Prop) : Prop :=
  Q (s.1 196 40) s
set_option maxRecDepth 100000 in
set_option maxHeartbeats 4000000 in
theorem V_X12_personMany {g : fz_G} {l : Launch} {d : Nat} (hD : 0 ≤ d)   {s : fz_s} {Q : Int32 → fz_s → Prop} (H : wp_X12_personMany  s Q) : fs_V g l m_X12_personMany d false 0 (fz_en [.ref 196] 1) [] s (rI Q) := by
  unfold wp_X12_personMany at H
  refine fs_aload_n (k0 := 0) (i := 0) dd_X12_personMany_0 rfl rfl ?_
  refine fs_geti (ci := 12) (j := 40) dd_X12_personMany_1 fl_X12_390 ca_196 rfl (Or.inl rfl) ?_
  exact fs_iret dd_X12_personMany_4 rfl H
theorem dd_X12_isVillage_0 : decode m_X12_isVillage.2.1 0 = .ok (.aload_n 0, 1) := by decide +kernel
theorem dd_X12_isVillage_1 : decode m_X12_isVillage.2.1 1 = .ok (.getfield 386, 3) := by decide +kernel
theorem dd_X12_isVillage_4 : decode m_X12_isVillage.2.1 4 = .ok (.ifCond .eq 16, 3) := by decide +kernel
theorem dd_X12_isVillage_7 : decode m_X12_isVillage.2.1 7 = .ok (.lload_n 1, 1) := by decide +kernel
theorem dd_X12_isVillage_8 : decode m_X12_isVillage.2.1 8 = .ok (.lconst 0, 1) := by decide +kernel
theorem dd_X12_isVillage_9 : decode m_X12_isVillage.2.1 9 = .ok (.lconst 1, 1) := by decide +kernel
theorem dd_X12_isVillage_10 : decode m_X12_isVillage.2.1 10 = .ok (.invokestatic 295, 3) := by decide +kernel
theorem dd_X12_isVillage_13 : decode m_X12_isVillage.2.1 13 = .ok (.ifCond .eq 7, 3) := by decide +kernel
theorem dd_X12_isVillage_16 : decode m_X12_isVillage.2.1 16 = .ok (.iconst 1, 1) := by decide +kernel
theorem dd_X12_isVillage_17 : decode m_X12_isVillage.2.1 17 = .ok (.goto 4, 3) := by decide +kernel
theorem dd_X12_isVillage_20 : decode m_X12_isVillage.2.1 20 = .ok (.iconst 0, 1) := by decide +kernel
theorem dd_X12_isVillage_21 : decode m_X12_isVillage.2.1 21 = .ok (.ireturn, 1) := by decide +kernel
def wp_X12_isVillage (p0 : Int64) (s : fz_s) (Q : Bool → fz_s → Prop) : Prop :=
  (((s.1 196 52) = 0 → Q false s) ∧ (¬ (s.1 196 52) = 0 → wp_X12_isIn p0 0 1 s (fun r1 s2 => ((r1 = false → Q false s2) ∧ (r1 = true → Q true s2)))))
set_option maxRecDepth 100000 in
set_option maxHeartbeats 4000000 in
theorem V_X12_isVillage {g : fz_G} {l : Launch} {d : Nat} (hD : 1 ≤ d) {p0 : Int64}  {s : fz_s} {Q : Bool → fz_s → Prop} (H : wp_X12_isVillage p0 s Q) : fs_V g l m_X12_isVillage d false 0 (fz_en [.ref 196, .long p0] 3) [] s (rZ Q) := by
  obtain ⟨d, rfl⟩ : ∃ e, d = e + 1 := ⟨d - 1, by omega⟩
  unfold wp_X12_isVillage at H
  refine fs_aload_n (k0 := 0) (i := 0) dd_X12_isVillage_0 rfl rfl ?_
  refine fs_geti (ci := 12) (j := 52) dd_X12_isVillage_1 fl_X12_386 ca_196 rfl (Or.inr rfl) ?_
  refine fs_if_eq (tgt := 20) dd_X12_isVillage_4 (by decide) (fun hc => ?_) (fun hc => ?_)
  · replace H := H.1 hc
    refine fs_iconst (n := 0) (v := 0) dd_X12_isVillage_20 (by decide) ?_
    exact fs_zret false dd_X12_isVillage_21 rfl rfl H
  · replace H := H.2 hc
    refine fs_lload_n (k0 := 1) (i := 1) dd_X12_isVillage_7 rfl rfl ?_
    refine fs_lconst (n := 0) (v := 0) dd_X12_isVillage_8 (by decide) ?_
    refine fs_lconst (n := 1) (v := 1) dd_X12_isVillage_9 (by decide) ?_
    refine fs_callS (y := m_X12_isIn) (as := [.long p0, .long 0, .long 1]) dd_X12_isVillage_10 me_X12_isIn (Or.inl lk_X12_295) st_X12_isIn rfl (Nat.le_of_ble_eq_true rfl) (Nat.le_of_ble_eq_true rfl) rfl (V_X12_isIn (by omega)  H) (k2_Z fun r1 s2 H => ?_)
    refine fs_if_eq (tgt := 20) dd_X12_isVillage_13 (by decide) (fun hc => ?_) (fun hc => ?_)
    · replace H := H.1 (bi_0 hc)
      refine fs_iconst (n := 0) (v := 0) dd_X12_isVillage_20 (by decide) ?_
      exact fs_zret false dd_X12_isVillage_21 rfl rfl H
    · replace H := H.2 (bi_1 hc)
      refine fs_iconst (n := 1) (v := 1) dd_X12_isVillage_16 (by decide) ?_
      refine fs_goto (tgt := 21) dd_X12_isVillage_17 (by decide) ?_
      exact fs_zret true dd_X12_isVillage_21 rfl rfl H
theorem dd_X12_isPerson_0 : decode m_X12_isPerson.2.1 0 = .ok (.iload_n 1, 1) := by decide +kernel
theorem dd_X12_isPerson_1 : decode m_X12_isPerson.2.1 1 = .ok (.i2l, 1) := by decide +kernel
theorem dd_X12_isPerson_2 : decode m_X12_isPerson.2.1 2 = .ok (.lconst 0, 1) := by decide +kernel
theorem dd_X12_isPerson_3 : decode m_X12_isPerson.2.1 3 = .ok (.aload_n 0, 1) := by decide +kernel
theorem dd_X12_isPerson_4 : decode m_X12_isPerson.2.1 4 = .ok (.invokevirtual 402, 3) := by decide +kernel
theorem dd_X12_isPerson_7 : decode m_X12_isPerson.2.1 7 = .ok (.iconst 1, 1) := by decide +kernel
theorem dd_X12_isPerson_8 : decode m_X12_isPerson.2.1 8 = .ok (.isub, 1) := by decide +kernel
theorem dd_X12_isPerson_9 : decode m_X12_isPerson.2.1 9 = .ok (.i2l, 1) := by decide +kernel
theorem dd_X12_isPerson_10 : decode m_X12_isPerson.2.1 10 = .ok (.invokestatic 295, 3) := by decide +kernel
theorem dd_X12_isPerson_13 : decode m_X12_isPerson.2.1 13 = .ok (.ireturn, 1) := by decide +kernel
def wp_X12_isPerson (p0 : Int32) (s : fz_s) (Q : Bool → fz_s → Prop) : Prop :=
  wp_X12_personMany  s (fun r1 s2 => wp_X12_isIn p0.toInt64 0 ((r1 - 1).toInt64) s2 (fun r3 s4 => Q r3 s4))
set_option maxRecDepth 100000 in
set_option maxHeartbeats 4000000 in
theorem V_X12_isPerson {g : fz_G} {l : Launch} {d : Nat} (hD : 1 ≤ d) {p0 : Int32}  {s : fz_s} {Q : Bool → fz_s → Prop} (H : wp_X12_isPerson p0 s Q) : fs_V g l m_X12_isPerson d false 0 (fz_en [.ref 196, .int p0] 2) [] s (rZ Q) := by
  obtain ⟨d, rfl⟩ : ∃ e, d = e + 1 := ⟨d - 1, by omega⟩
  unfold wp_X12_isPerson at H
  refine fs_iload_n (k0 := 1) (i := 1) dd_X12_isPerson_0 rfl rfl ?_
  refine fs_i2l dd_X12_isPerson_1 ?_
  refine fs_lconst (n := 0) (v := 0) dd_X12_isPerson_2 (by decide) ?_
  refine fs_aload_n (k0 := 0) (i := 0) dd_X12_isPerson_3 rfl rfl ?_
  refine fs_callV (y := m_X12_personMany) (as := []) dd_X12_isPerson_4 me_X12_personMany lk_X12_402 in_X12_personMany se_X12_personMany ca_196 rfl rfl rfl (Nat.le_of_ble_eq_true rfl) (Nat.le_of_ble_eq_true rfl) rfl (V_X12_personMany (by omega)  H) (k2_I fun r1 s2 H => ?_)
  refine fs_iconst (n := 1) (v := 1) dd_X12_isPerson_7 (by decide) ?_
  refine fs_isub dd_X12_isPerson_8 ?_
  refine fs_i2l dd_X12_isPerson_9 ?_
  refine fs_callS (y := m_X12_isIn) (as := [.long p0.toInt64, .long 0, .long (r1 - 1).toInt64]) dd_X12_isPerson_10 me_X12_isIn (Or.inl lk_X12_295) st_X12_isIn rfl (Nat.le_of_ble_eq_true rfl) (Nat.le_of_ble_eq_true rfl) rfl (V_X12_isIn (by omega)  H) (k2_Z fun r3 s4 H => ?_)
  exact fs_zret r3 dd_X12_isPerson_13 rfl rfl H
theorem dd_X12_homeOf_0 : decode m_X12_homeOf.2.1 0 = .ok (.aload_n 0, 1) := by decide +kernel
theorem dd_X12_homeOf_1 : decode m_X12_homeOf.2.1 1 = .ok (.getfield 106, 3) := by decide +kernel
theorem dd_X12_homeOf_4 : decode m_X12_homeOf.2.1 4 = .ok (.bipush 24, 2) := by decide +kernel
theorem dd_X12_homeOf_6 : decode m_X12_homeOf.2.1 6 = .ok (.iconst 3, 1) := by decide +kernel
theorem dd_X12_homeOf_7 : decode m_X12_homeOf.2.1 7 = .ok (.iload_n 1, 1) := by decide +kernel
theorem dd_X12_homeOf_8 : decode m_X12_homeOf.2.1 8 = .ok (.imul, 1) := by decide +kernel
theorem dd_X12_homeOf_9 : decode m_X12_homeOf.2.1 9 = .ok (.iadd, 1) := by decide +kernel
theorem dd_X12_homeOf_10 : decode m_X12_homeOf.2.1 10 = .ok (.iaload, 1) := by decide +kernel
theorem dd_X12_homeOf_11 : decode m_X12_homeOf.2.1 11 = .ok (.ireturn, 1) := by decide +kernel
def wp_X12_homeOf (p0 : Int32) (s : fz_s) (Q : Int32 → fz_s → Prop) : Prop :=
  vp_in (24 + (3 * p0)) 48 ∧ Q (s.1 227 (24 + (3 * p0)).toNatClampNeg) s
set_option maxRecDepth 100000 in
set_option maxHeartbeats 4000000 in
theorem V_X12_homeOf {g : fz_G} {l : Launch} {d : Nat} (hD : 0 ≤ d) {p0 : Int32}  {s : fz_s} {Q : Int32 → fz_s → Prop} (H : wp_X12_homeOf p0 s Q) : fs_V g l m_X12_homeOf d false 0 (fz_en [.ref 196, .int p0] 2) [] s (rI Q) := by
  unfold wp_X12_homeOf at H
  refine fs_aload_n (k0 := 0) (i := 0) dd_X12_homeOf_0 rfl rfl ?_
  refine fs_getr (ci := 12) (j := 43) (q := 227) dd_X12_homeOf_1 fl_X12_106 ca_196 rfl (Or.inr ⟨_, rfl⟩) rfl (by decide) ?_
  refine fs_bipush (n := 24) (v := 24) dd_X12_homeOf_4 (by decide) ?_
  refine fs_iconst (n := 3) (v := 3) dd_X12_homeOf_6 (by decide) ?_
  refine fs_iload_n (k0 := 1) (i := 1) dd_X12_homeOf_7 rfl rfl ?_
  refine fs_imul dd_X12_homeOf_8 ?_
  refine fs_iadd dd_X12_homeOf_9 ?_
  have hb := H.1
  replace H := H.2
  refine fs_iald dd_X12_homeOf_10 ca_227 hb ?_
  exact fs_iret dd_X12_homeOf_11 rfl H
theorem dd_X12_witsOf_0 : decode m_X12_witsOf.2.1 0 = .ok (.aload_n 0, 1) := by decide +kernel
theorem dd_X12_witsOf_1 : decode m_X12_witsOf.2.1 1 = .ok (.getfield 121, 3) := by decide +kernel
theorem dd_X12_witsOf_4 : decode m_X12_witsOf.2.1 4 = .ok (.iconst 5, 1) := by decide +kernel
theorem dd_X12_witsOf_5 : decode m_X12_witsOf.2.1 5 = .ok (.iconst 3, 1) := by decide +kernel
theorem dd_X12_witsOf_6 : decode m_X12_witsOf.2.1 6 = .ok (.iload_n 1, 1) := by decide +kernel
theorem dd_X12_witsOf_7 : decode m_X12_witsOf.2.1 7 = .ok (.imul, 1) := by decide +kernel
theorem dd_X12_witsOf_8 : decode m_X12_witsOf.2.1 8 = .ok (.iadd, 1) := by decide +kernel
theorem dd_X12_witsOf_9 : decode m_X12_witsOf.2.1 9 = .ok (.iaload, 1) := by decide +kernel
theorem dd_X12_witsOf_10 : decode m_X12_witsOf.2.1 10 = .ok (.ireturn, 1) := by decide +kernel
def wp_X12_witsOf (p0 : Int32) (s : fz_s) (Q : Int32 → fz_s → Prop) : Prop :=
  vp_in (5 + (3 * p0)) 150 ∧ Q (s.1 232 (5 + (3 * p0)).toNatClampNeg) s
set_option maxRecDepth 100000 in
set_option maxHeartbeats 4000000 in
theorem V_X12_witsOf {g : fz_G} {l : Launch} {d : Nat} (hD : 0 ≤ d) {p0 : Int32}  {s : fz_s} {Q : Int32 → fz_s → Prop} (H : wp_X12_witsOf p0 s Q) : fs_V g l m_X12_witsOf d false 0 (fz_en [.ref 196, .int p0] 2) [] s (rI Q) := by
  unfold wp_X12_witsOf at H
  refine fs_aload_n (k0 := 0) (i := 0) dd_X12_witsOf_0 rfl rfl ?_
  refine fs_getr (ci := 12) (j := 54) (q := 232) dd_X12_witsOf_1 fl_X12_121 ca_196 rfl (Or.inr ⟨_, rfl⟩) rfl (by decide) ?_
  refine fs_iconst (n := 5) (v := 5) dd_X12_witsOf_4 (by decide) ?_
  refine fs_iconst (n := 3) (v := 3) dd_X12_witsOf_5 (by decide) ?_
  refine fs_iload_n (k0 := 1) (i := 1) dd_X12_witsOf_6 rfl rfl ?_
  refine fs_imul dd_X12_witsOf_7 ?_
  refine fs_iadd dd_X12_witsOf_8 ?_
  have hb := H.1
  replace H := H.2
  refine fs_iald dd_X12_witsOf_9 ca_232 hb ?_
  exact fs_iret dd_X12_witsOf_10 rfl H
theorem dd_X12_isAway_0 : decode m_X12_isAway.2.1 0 = .ok (.aload_n 0, 1) := by decide +kernel
theorem dd_X12_isAway_1 : decode m_X12_isAway.2.1 1 = .ok (.getfield 121, 3) := by decide +kernel
theorem dd_X12_isAway_4 : decode m_X12_isAway.2.1 4 = .ok (.bipush 6, 2) := by decide +kernel
theorem dd_X12_isAway_6 : decode m_X12_isAway.2.1 6 = .ok (.iconst 3, 1) := by decide +kernel
theorem dd_X12_isAway_7 : decode m_X12_isAway.2.1 7 = .ok (.iload_n 1, 1) := by decide +kernel
theorem dd_X12_isAway_8 : decode m_X12_isAway.2.1 8 = .ok (.imul, 1) := by decide +kernel
theorem dd_X12_isAway_9 : decode m_X12_isAway.2.1 9 = .ok (.iadd, 1) := by decide +kernel
theorem dd_X12_isAway_10 : decode m_X12_isAway.2.1 10 = .ok (.iaload, 1) := by decide +kernel
theorem dd_X12_isAway_11 : decode m_X12_isAway.2.1 11 = .ok (.iconst 1, 1) := by decide +kernel
theorem dd_X12_isAway_12 : decode m_X12_isAway.2.1 12 = .ok (.if_icmp .ne 7, 3) := by decide +kernel
theorem dd_X12_isAway_15 : decode m_X12_isAway.2.1 15 = .ok (.iconst 1, 1) := by decide +kernel
theorem dd_X12_isAway_16 : decode m_X12_isAway.2.1 16 = .ok (.goto 4, 3) := by decide +kernel
theorem dd_X12_isAway_19 : decode m_X12_isAway.2.1 19 = .ok (.iconst 0, 1) := by decide +kernel
theorem dd_X12_isAway_20 : decode m_X12_isAway.2.1 20 = .ok (.ireturn, 1) := by decide +kernel
def wp_X12_isAway (p0 : Int32) (s : fz_s) (Q : Bool → fz_s → Prop) : Prop :=
  vp_in (6 + (3 * p0)) 150 ∧ ((¬ (s.1 232 (6 + (3 * p0)).toNatClampNeg) = 1 → Q false s) ∧ ((s.1 232 (6 + (3 * p0)).toNatClampNeg) = 1 → Q true s))
set_option maxRecDepth 100000 in
set_option maxHeartbeats 4000000 in
theorem V_X12_isAway {g : fz_G} {l : Launch} {d : Nat} (hD : 0 ≤ d) {p0 : Int32}  {s : fz_s} {Q : Bool → fz_s → Prop} (H : wp_X12_isAway p0 s Q) : fs_V g l m_X12_isAway d false 0 (fz_en [.ref 196, .int p0] 2) [] s (rZ Q) := by
  unfold wp_X12_isAway at H
  refine fs_aload_n (k0 := 0) (i := 0) dd_X12_isAway_0 rfl rfl ?_
  refine fs_getr (ci := 12) (j := 54) (q := 232) dd_X12_isAway_1 fl_X12_121 ca_196 rfl (Or.inr ⟨_, rfl⟩) rfl (by decide) ?_
  refine fs_bipush (n := 6) (v := 6) dd_X12_isAway_4 (by decide) ?_
  refine fs_iconst (n := 3) (v := 3) dd_X12_isAway_6 (by decide) ?_
  refine fs_iload_n (k0 := 1) (i := 1) dd_X12_isAway_7 rfl rfl ?_
  refine fs_imul dd_X12_isAway_8 ?_
  refine fs_iadd dd_X12_isAway_9 ?_
  have hb := H.1
  replace H := H.2
  refine fs_iald dd_X12_isAway_10 ca_232 hb ?_
  refine fs_iconst (n := 1) (v := 1) dd_X12_isAway_11 (by decide) ?_
  refine fs_icmp_ne (tgt := 19) dd_X12_isAway_12 (by decide) (fun hc => ?_) (fun hc => ?_)
  · replace H := H.1 hc
    refine fs_iconst (n := 0) (v := 0) dd_X12_isAway_19 (by decide) ?_
    exact fs_zret false dd_X12_isAway_20 rfl rfl H
  · replace H := H.2 hc
    refine fs_iconst (n := 1) (v := 1) dd_X12_isAway_15 (by decide) ?_
    refine fs_goto (tgt := 20) dd_X12_isAway_16 (by decide) ?_
    exact fs_zret true dd_X12_isAway_20 rfl rfl H
theorem dd_X12_awayOf_0 : decode m_X12_awayOf.2.1 0 = .ok (.aload_n 0, 1) := by decide +kernel
theorem dd_X12_awayOf_1 : decode m_X12_awayOf.2.1 1 = .ok (.getfield 121, 3) := by decide +kernel
theorem dd_X12_awayOf_4 : decode m_X12_awayOf.2.1 4 = .ok (.bipush 7, 2) := by decide +kernel
theorem dd_X12_awayOf_6 : decode m_X12_awayOf.2.1 6 = .ok (.iconst 3, 1) := by decide +kernel
theorem dd_X12_awayOf_7 : decode m_X12_awayOf.2.1 7 = .ok (.iload_n 1, 1) := by decide +kernel
theorem dd_X12_awayOf_8 : decode m_X12_awayOf.2.1 8 = .ok (.imul, 1) := by decide +kernel
theorem dd_X12_awayOf_9 : decode m_X12_awayOf.2.1 9 = .ok (.iadd, 1) := by decide +kernel
theorem dd_X12_awayOf_10 : decode m_X12_awayOf.2.1 10 = .ok (.iaload, 1) := by decide +kernel
theorem dd_X12_awayOf_11 : decode m_X12_awayOf.2.1 11 = .ok (.ireturn, 1) := by decide +kernel
def wp_X12_awayOf (p0 : Int32) (s : fz_s) (Q : Int32 → fz_s → Prop) : Prop :=
  vp_in (7 + (3 * p0)) 150 ∧ Q (s.1 232 (7 + (3 * p0)).toNatClampNeg) s
set_option maxRecDepth 100000 in
set_option maxHeartbeats 4000000 in
theorem V_X12_awayOf {g : fz_G} {l : Launch} {d : Nat} (hD : 0 ≤ d) {p0 : Int32}  {s : fz_s} {Q : Int32 → fz_s → Prop} (H : wp_X12_awayOf p0 s Q) : fs_V g l m_X12_awayOf d false 0 (fz_en [.ref 196, .int p0] 2) [] s (rI Q) := by
  unfold wp_X12_awayOf at H
  refine fs_aload_n (k0 := 0) (i := 0) dd_X12_awayOf_0 rfl rfl ?_
  refine fs_getr (ci := 12) (j := 54) (q := 232) dd_X12_awayOf_1 fl_X12_121 ca_196 rfl (Or.inr ⟨_, rfl⟩) rfl (by decide) ?_
  refine fs_bipush (n := 7) (v := 7) dd_X12_awayOf_4 (by decide) ?_
  refine fs_iconst (n := 3) (v := 3) dd_X12_awayOf_6 (by decide) ?_
  refine fs_iload_n (k0 := 1) (i := 1) dd_X12_awayOf_7 rfl rfl ?_
  refine fs_imul dd_X12_awayOf_8 ?_
  refine fs_iadd dd_X12_awayOf_9 ?_
  have hb := H.1
  replace H := H.2
  refine fs_iald dd_X12_awayOf_10 ca_232 hb ?_
  exact fs_iret dd_X12_awayOf_11 rfl H
theorem dd_X12_livesIn_0 : decode m_X12_livesIn.2.1 0 = .ok (.aload_n 0, 1) := by decide +kernel
theorem dd_X12_livesIn_1 : decode m_X12_livesIn.2.1 1 = .ok (.iload_n 1, 1) := by decide +kernel
theorem dd_X12_livesIn_2 : decode m_X12_livesIn.2.1 2 = .ok (.invokevirtual 405, 3) := by decide +kernel
theorem dd_X12_livesIn_5 : decode m_X12_livesIn.2.1 5 = .ok (.ifCond .eq 13, 3) := by decide +kernel
theorem dd_X12_livesIn_8 : decode m_X12_livesIn.2.1 8 = .ok (.iconst 1, 1) := by decide +kernel
theorem dd_X12_livesIn_9 : decode m_X12_livesIn.2.1 9 = .ok (.aload_n 0, 1) := by decide +kernel
theorem dd_X12_livesIn_10 : decode m_X12_livesIn.2.1 10 = .ok (.iload_n 1, 1) := by decide +kernel
theorem dd_X12_livesIn_11 : decode m_X12_livesIn.2.1 11 = .ok (.invokevirtual 408, 3) := by decide +kernel
theorem dd_X12_livesIn_14 : decode m_X12_livesIn.2.1 14 = .ok (.isub, 1) := by decide +kernel
theorem dd_X12_livesIn_15 : decode m_X12_livesIn.2.1 15 = .ok (.goto 8, 3) := by decide +kernel
theorem dd_X12_livesIn_18 : decode m_X12_livesIn.2.1 18 = .ok (.aload_n 0, 1) := by decide +kernel
theorem dd_X12_livesIn_19 : decode m_X12_livesIn.2.1 19 = .ok (.iload_n 1, 1) := by decide +kernel
theorem dd_X12_livesIn_20 : decode m_X12_livesIn.2.1 20 = .ok (.invokevirtual 408, 3) := by decide +kernel
theorem dd_X12_livesIn_23 : decode m_X12_livesIn.2.1 23 = .ok (.ireturn, 1) := by decide +kernel
def wp_X12_livesIn (p0 : Int32) (s : fz_s) (Q : Int32 → fz_s → Prop) : Prop :=
  wp_X12_isAway p0 s (fun r1 s2 => ((r1 = false → wp_X12_homeOf p0 s2 (fun r3 s4 => Q r3 s4)) ∧ (r1 = true → wp_X12_homeOf p0 s2 (fun r5 s6 => Q (1 - r5) s6))))
set_option maxRecDepth 100000 in
set_option maxHeartbeats 4000000 in
theorem V_X12_livesIn {g : fz_G} {l : Launch} {d : Nat} (hD : 1 ≤ d) {p0 : Int32}  {s : fz_s} {Q : Int32 → fz_s → Prop} (H : wp_X12_livesIn p0 s Q) : fs_V g l m_X12_livesIn d false 0 (fz_en [.ref 196, .int p0] 2) [] s (rI Q) := by
  obtain ⟨d, rfl⟩ : ∃ e, d = e + 1 := ⟨d - 1, by omega⟩
  unfold wp_X12_livesIn at H
  refine fs_aload_n (k0 := 0) (i := 0) dd_X12_livesIn_0 rfl rfl ?_
  refine fs_iload_n (k0 := 1) (i := 1) dd_X12_livesIn_1 rfl rfl ?_
  refine fs_callV (y := m_X12_isAway) (as := [.int p0]) dd_X12_livesIn_2 me_X12_isAway lk_X12_405 in_X12_isAway se_X12_isAway ca_196 rfl rfl rfl (Nat.le_of_ble_eq_true rfl) (Nat.le_of_ble_eq_true rfl) rfl (V_X12_isAway (by omega)  H) (k2_Z fun r1 s2 H => ?_)
  refine fs_if_eq (tgt := 18) dd_X12_livesIn_5 (by decide) (fun hc => ?_) (fun hc => ?_)
  · replace H := H.1 (bi_0 hc)
    refine fs_aload_n (k0 := 0) (i := 0) dd_X12_livesIn_18 rfl rfl ?_
    refine fs_iload_n (k0 := 1) (i := 1) dd_X12_livesIn_19 rfl rfl ?_
    refine fs_callV (y := m_X12_homeOf) (as := [.int p0]) dd_X12_livesIn_20 me_X12_homeOf lk_X12_408 in_X12_homeOf se_X12_homeOf ca_196 rfl rfl rfl (Nat.le_of_ble_eq_true rfl) (Nat.le_of_ble_eq_true rfl) rfl (V_X12_homeOf (by omega)  H) (k2_I fun r3 s4 H => ?_)
    exact fs_iret dd_X12_livesIn_23 rfl H
  · replace H := H.2 (bi_1 hc)
    refine fs_iconst (n := 1) (v := 1) dd_X12_livesIn_8 (by decide) ?_
    refine fs_aload_n (k0 := 0) (i := 0) dd_X12_livesIn_9 rfl rfl ?_
    refine fs_iload_n (k0 := 1) (i := 1) dd_X12_livesIn_10 rfl rfl ?_
    refine fs_callV (y := m_X12_homeOf) (as := [.int p0]) dd_X12_livesIn_11 me_X12_homeOf lk_X12_408 in_X12_homeOf se_X12_homeOf ca_196 rfl rfl rfl (Nat.le_of_ble_eq_true rfl) (Nat.le_of_ble_eq_true rfl) rfl (V_X12_homeOf (by omega)  H) (k2_I fun r5 s6 H => ?_)
    refine fs_isub dd_X12_livesIn_14 ?_
    refine fs_goto (tgt := 23) dd_X12_livesIn_15 (by decide) ?_
    exact fs_iret dd_X12_livesIn_23 rfl H
theorem dd_X12_liversOf_0 : decode m_X12_liversOf.2.1 0 = .ok (.iconst 0, 1) := by decide +kernel
theorem dd_X12_liversOf_1 : decode m_X12_liversOf.2.1 1 = .ok (.istore_n 2, 1) := by decide +kernel
theorem dd_X12_liversOf_2 : decode m_X12_liversOf.2.1 2 = .ok (.iconst 0, 1) := by decide +kernel
theorem dd_X12_liversOf_3 : decode m_X12_liversOf.2.1 3 = .ok (.istore_n 3, 1) := by decide +kernel
theorem dd_X12_liversOf_4 : decode m_X12_liversOf.2.1 4 = .ok (.iload_n 3, 1) := by decide +kernel
theorem dd_X12_liversOf_5 : decode m_X12_liversOf.2.1 5 = .ok (.aload_n 0, 1) := by decide +kernel
theorem dd_X12_liversOf_6 : decode m_X12_liversOf.2.1 6 = .ok (.invokevirtual 402, 3) := by decide +kernel
theorem dd_X12_liversOf_9 : decode m_X12_liversOf.2.1 9 = .ok (.if_icmp .ge 21, 3) := by decide +kernel
theorem dd_X12_liversOf_12 : decode m_X12_liversOf.2.1 12 = .ok (.aload_n 0, 1) := by decide +kernel
theorem dd_X12_liversOf_13 : decode m_X12_liversOf.2.1 13 = .ok (.iload_n 3, 1) := by decide +kernel
theorem dd_X12_liversOf_14 : decode m_X12_liversOf.2.1 14 = .ok (.invokevirtual 412, 3) := by decide +kernel
theorem dd_X12_liversOf_17 : decode m_X12_liversOf.2.1 17 = .ok (.iload_n 1, 1) := by decide +kernel
theorem dd_X12_liversOf_18 : decode m_X12_liversOf.2.1 18 = .ok (.if_icmp .ne 6, 3) := by decide +kernel
theorem dd_X12_liversOf_21 : decode m_X12_liversOf.2.1 21 = .ok (.iinc 2 1, 3) := by decide +kernel
theorem dd_X12_liversOf_24 : decode m_X12_liversOf.2.1 24 = .ok (.iinc 3 1, 3) := by decide +kernel
theorem dd_X12_liversOf_27 : decode m_X12_liversOf.2.1 27 = .ok (.goto (-23), 3) := by decide +kernel
theorem dd_X12_liversOf_30 : decode m_X12_liversOf.2.1 30 = .ok (.iload_n 2, 1) := by decide +kernel
theorem dd_X12_liversOf_31 : decode m_X12_liversOf.2.1 31 = .ok (.ireturn, 1) := by decide +kernel
def nd_X12_liversOf_4  (K4 : Int32 → Int32 → Int32 → fz_s → Prop) (Q : Int32 → fz_s → Prop) (v1 : Int32) (v2 : Int32) (v3 : Int32) (s : fz_s) : Prop :=
  wp_X12_personMany  s (fun r1 s2 => ((r1 ≤ v3 → Q v2 s2) ∧ (¬ r1 ≤ v3 → wp_X12_livesIn v3 s2 (fun r3 s4 => ((¬ r3 = v1 → ∀ x5 : Int32, x5 = v3 + 1 → K4 v1 v2 x5 s4) ∧ (r3 = v1 → ∀ x6 : Int32, x6 = v2 + 1 → ∀ x7 : Int32, x7 = v3 + 1 → K4 v1 x6 x7 s4))))))
def lp_X12_liversOf_4   (Q : Int32 → fz_s → Prop) : Nat → Int32 → Int32 → Int32 → fz_s → Prop
  | 0 => fun _ _ _ _ => False
  | n + 1 => nd_X12_liversOf_4  (lp_X12_liversOf_4   Q n) Q
def wp_X12_liversOf (p0 : Int32) (s : fz_s) (Q : Int32 → fz_s → Prop) : Prop :=
  lp_X12_liversOf_4   Q 2048 p0 0 0 s
set_option maxRecDepth 100000 in
set_option maxHeartbeats 4000000 in
theorem V_nd_X12_liversOf_4 {g : fz_G} {l : Launch} {d : Nat} (hD : 2 ≤ d)   {K4 : Int32 → Int32 → Int32 → fz_s → Prop} {Q : Int32 → fz_s → Prop} {v1 : Int32} {v2 : Int32} {v3 : Int32} {s : fz_s} (hK4 : ∀ {v1 : Int32} {v2 : Int32} {v3 : Int32} {s : fz_s}, K4 v1 v2 v3 s → fs_V g l m_X12_liversOf d false 4 [.ref 196, .int v1, .int v2, .int v3] [] s (rI Q)) (H : nd_X12_liversOf_4  K4 Q v1 v2 v3 s) : fs_V g l m_X12_liversOf d false 4 [.ref 196, .int v1, .int v2, .int v3] [] s (rI Q) := by
  obtain ⟨d, rfl⟩ : ∃ e, d = e + 1 := ⟨d - 1, by omega⟩
  unfold nd_X12_liversOf_4 at H
  refine fs_iload_n (k0 := 3) (i := 3) dd_X12_liversOf_4 rfl rfl ?_
  refine fs_aload_n (k0 := 0) (i := 0) dd_X12_liversOf_5 rfl rfl ?_
  refine fs_callV (y := m_X12_personMany) (as := []) dd_X12_liversOf_6 me_X12_personMany lk_X12_402 in_X12_personMany se_X12_personMany ca_196 rfl rfl rfl (Nat.le_of_ble_eq_true rfl) (Nat.le_of_ble_eq_true rfl) rfl (V_X12_personMany (by omega)  H) (k2_I fun r1 s2 H => ?_)
  refine fs_icmp_ge (tgt := 30) dd_X12_liversOf_9 (by decide) (fun hc => ?_) (fun hc => ?_)
  · replace H := H.1 hc
    refine fs_iload_n (k0 := 2) (i := 2) dd_X12_liversOf_30 rfl rfl ?_
    exact fs_iret dd_X12_liversOf_31 rfl H
  · replace H := H.2 hc
    refine fs_aload_n (k0 := 0) (i := 0) dd_X12_liversOf_12 rfl rfl ?_
    refine fs_iload_n (k0 := 3) (i := 3) dd_X12_liversOf_13 rfl rfl ?_
    refine fs_callV (y := m_X12_livesIn) (as := [.int v3]) dd_X12_liversOf_14 me_X12_livesIn lk_X12_412 in_X12_livesIn se_X12_livesIn ca_196 rfl rfl rfl (Nat.le_of_ble_eq_true rfl) (Nat.le_of_ble_eq_true rfl) rfl (V_X12_livesIn (by omega)  H) (k2_I fun r3 s4 H => ?_)
    refine fs_iload_n (k0 := 1) (i := 1) dd_X12_liversOf_17 rfl rfl ?_
    refine fs_icmp_ne (tgt := 24) dd_X12_liversOf_18 (by decide) (fun hc => ?_) (fun hc => ?_)
    · replace H := H.1 hc
      refine fs_iincN (i := 3) (m := 1) (c := 1) dd_X12_liversOf_24 rfl (by decide) (by decide) (fun x5 hx5 => ?_)
      replace H := H x5 hx5
      refine fs_goto (tgt := 4) dd_X12_liversOf_27 (by decide) ?_
      refine fs_weak (ls2 := [.ref 196, .int v1, .int v2, .int x5]) (fz_le_e (fz_le_e (fz_le_e (fz_le_e fz_le_n)))) ?_
      exact hK4 H
    · replace H := H.2 hc
      refine fs_iincN (i := 2) (m := 1) (c := 1) dd_X12_liversOf_21 rfl (by decide) (by decide) (fun x6 hx6 => ?_)
      replace H := H x6 hx6
      refine fs_iincN (i := 3) (m := 1) (c := 1) dd_X12_liversOf_24 rfl (by decide) (by decide) (fun x7 hx7 => ?_)
      replace H := H x7 hx7
      refine fs_goto (tgt := 4) dd_X12_liversOf_27 (by decide) ?_
      refine fs_weak (ls2 := [.ref 196, .int v1, .int x6, .int x7]) (fz_le_e (fz_le_e (fz_le_e (fz_le_e fz_le_n)))) ?_
      exact hK4 H
set_option maxRecDepth 100000 in
set_option maxHeartbeats 4000000 in
theorem V_lp_X12_liversOf_4 {g : fz_G} {l : Launch} {d : Nat} (hD : 2 ≤ d)    {Q : Int32 → fz_s → Prop}  (n : Nat) : ∀ {v1 : Int32} {v2 : Int32} {v3 : Int32} {s : fz_s}, lp_X12_liversOf_4   Q n v1 v2 v3 s → fs_V g l m_X12_liversOf d false 4 [.ref 196, .int v1, .int v2, .int v3] [] s (rI Q) := by
  induction n with
  | zero => intro v1 v2 v3 s H; exact H.elim
  | succ n ih => intro v1 v2 v3 s H; exact V_nd_X12_liversOf_4 hD  (fun H => ih H) H
set_option maxRecDepth 100000 in
set_option maxHeartbeats 4000000 in
theorem V_X12_liversOf {g : fz_G} {l : Launch} {d : Nat} (hD : 2 ≤ d) {p0 : Int32}  {s : fz_s} {Q : Int32 → fz_s → Prop} (H : wp_X12_liversOf p0 s Q) : fs_V g l m_X12_liversOf d false 0 (fz_en [.ref 196, .int p0] 4) [] s (rI Q) := by
  obtain ⟨d, rfl⟩ : ∃ e, d = e + 1 := ⟨d - 1, by omega⟩
  unfold wp_X12_liversOf at H
  refine fs_iconst (n := 0) (v := 0) dd_X12_liversOf_0 (by decide) ?_
  refine fs_istore_n (k0 := 2) (i := 2) dd_X12_liversOf_1 rfl (by decide) ?_
  refine fs_iconst (n := 0) (v := 0) dd_X12_liversOf_2 (by decide) ?_
  refine fs_istore_n (k0 := 3) (i := 3) dd_X12_liversOf_3 rfl (by decide) ?_
  refine fs_weak (ls2 := [.ref 196, .int p0, .int 0, .int 0]) (fz_le_e (fz_le_e (fz_le_e (fz_le_e fz_le_n)))) ?_
  exact V_lp_X12_liversOf_4 hD    2048 H
theorem dd_X12_guestsOf_0 : decode m_X12_guestsOf.2.1 0 = .ok (.iconst 0, 1) := by decide +kernel
theorem dd_X12_guestsOf_1 : decode m_X12_guestsOf.2.1 1 = .ok (.istore_n 2, 1) := by decide +kernel
theorem dd_X12_guestsOf_2 : decode m_X12_guestsOf.2.1 2 = .ok (.iconst 0, 1) := by decide +kernel
theorem dd_X12_guestsOf_3 : decode m_X12_guestsOf.2.1 3 = .ok (.istore_n 3, 1) := by decide +kernel
theorem dd_X12_guestsOf_4 : decode m_X12_guestsOf.2.1 4 = .ok (.iload_n 3, 1) := by decide +kernel
theorem dd_X12_guestsOf_5 : decode m_X12_guestsOf.2.1 5 = .ok (.aload_n 0, 1) := by decide +kernel
theorem dd_X12_guestsOf_6 : decode m_X12_guestsOf.2.1 6 = .ok (.invokevirtual 402, 3) := by decide +kernel
theorem dd_X12_guestsOf_9 : decode m_X12_guestsOf.2.1 9 = .ok (.if_icmp .ge 29, 3) := by decide +kernel
theorem dd_X12_guestsOf_12 : decode m_X12_guestsOf.2.1 12 = .ok (.aload_n 0, 1) := by decide +kernel
theorem dd_X12_guestsOf_13 : decode m_X12_guestsOf.2.1 13 = .ok (.iload_n 3, 1) := by decide +kernel
theorem dd_X12_guestsOf_14 : decode m_X12_guestsOf.2.1 14 = .ok (.invokevirtual 412, 3) := by decide +kernel
theorem dd_X12_guestsOf_17 : decode m_X12_guestsOf.2.1 17 = .ok (.iload_n 1, 1) := by decide +kernel
theorem dd_X12_guestsOf_18 : decode m_X12_guestsOf.2.1 18 = .ok (.if_icmp .ne 14, 3) := by decide +kernel
theorem dd_X12_guestsOf_21 : decode m_X12_guestsOf.2.1 21 = .ok (.aload_n 0, 1) := by decide +kernel
theorem dd_X12_guestsOf_22 : decode m_X12_guestsOf.2.1 22 = .ok (.iload_n 3, 1) := by decide +kernel
theorem dd_X12_guestsOf_23 : decode m_X12_guestsOf.2.1 23 = .ok (.invokevirtual 405, 3) := by decide +kernel
theorem dd_X12_guestsOf_26 : decode m_X12_guestsOf.2.1 26 = .ok (.ifCond .eq 6, 3) := by decide +kernel
theorem dd_X12_guestsOf_29 : decode m_X12_guestsOf.2.1 29 = .ok (.iinc 2 1, 3) := by decide +kernel
theorem dd_X12_guestsOf_32 : decode m_X12_guestsOf.2.1 32 = .ok (.iinc 3 1, 3) := by decide +kernel
theorem dd_X12_guestsOf_35 : decode m_X12_guestsOf.2.1 35 = .ok (.goto (-31), 3) := by decide +kernel
theorem dd_X12_guestsOf_38 : decode m_X12_guestsOf.2.1 38 = .ok (.iload_n 2, 1) := by decide +kernel
theorem dd_X12_guestsOf_39 : decode m_X12_guestsOf.2.1 39 = .ok (.ireturn, 1) := by decide +kernel
def nd_X12_guestsOf_4  (K4 : Int32 → Int32 → Int32 → fz_s → Prop) (Q : Int32 → fz_s → Prop) (v1 : Int32) (v2 : Int32) (v3 : Int32) (s : fz_s) : Prop :=
  wp_X12_personMany  s (fun r1 s2 => ((r1 ≤ v3 → Q v2 s2) ∧ (¬ r1 ≤ v3 → wp_X12_livesIn v3 s2 (fun r3 s4 => ((¬ r3 = v1 → ∀ x5 : Int32, x5 = v3 + 1 → K4 v1 v2 x5 s4) ∧ (r3 = v1 → wp_X12_isAway v3 s4 (fun r6 s7 => ((r6 = false → ∀ x8 : Int32, x8 = v3 + 1 → K4 v1 v2 x8 s7) ∧ (r6 = true → ∀ x9 : Int32, x9 = v2 + 1 → ∀ x10 : Int32, x10 = v3 + 1 → K4 v1 x9 x10 s7)))))))))
def lp_X12_guestsOf_4   (Q : Int32 → fz_s → Prop) : Nat → Int32 → Int32 → Int32 → fz_s → Prop
  | 0 => fun _ _ _ _ => False
  | n + 1 => nd_X12_guestsOf_4  (lp_X12_guestsOf_4   Q n) Q
def wp_X12_guestsOf (p0 : Int32) (s : fz_s) (Q : Int32 → fz_s → Prop) : Prop :=
  lp_X12_guestsOf_4   Q 2048 p0 0 0 s
set_option maxRecDepth 100000 in
set_option maxHeartbeats 4000000 in
theorem V_nd_X12_guestsOf_4 {g : fz_G} {l : Launch} {d : Nat} (hD : 2 ≤ d)   {K4 : Int32 → Int32 → Int32 → fz_s → Prop} {Q : Int32 → fz_s → Prop} {v1 : Int32} {v2 : Int32} {v3 : Int32} {s : fz_s} (hK4 : ∀ {v1 : Int32} {v2 : Int32} {v3 : Int32} {s : fz_s}, K4 v1 v2 v3 s → fs_V g l m_X12_guestsOf d false 4 [.ref 196, .int v1, .int v2, .int v3] [] s (rI Q)) (H : nd_X12_guestsOf_4  K4 Q v1 v2 v3 s) : fs_V g l m_X12_guestsOf d false 4 [.ref 196, .int v1, .int v2, .int v3] [] s (rI Q) := by
  obtain ⟨d, rfl⟩ : ∃ e, d = e + 1 := ⟨d - 1, by omega⟩
  unfold nd_X12_guestsOf_4 at H
  refine fs_iload_n (k0 := 3) (i := 3) dd_X12_guestsOf_4 rfl rfl ?_
  refine fs_aload_n (k0 := 0) (i := 0) dd_X12_guestsOf_5 rfl rfl ?_
  refine fs_callV (y := m_X12_personMany) (as := []) dd_X12_guestsOf_6 me_X12_personMany lk_X12_402 in_X12_personMany se_X12_personMany ca_196 rfl rfl rfl (Nat.le_of_ble_eq_true rfl) (Nat.le_of_ble_eq_true rfl) rfl (V_X12_personMany (by omega)  H) (k2_I fun r1 s2 H => ?_)
  refine fs_icmp_ge (tgt := 38) dd_X12_guestsOf_9 (by decide) (fun hc => ?_) (fun hc => ?_)
  · replace H := H.1 hc
    refine fs_iload_n (k0 := 2) (i := 2) dd_X12_guestsOf_38 rfl rfl ?_
    exact fs_iret dd_X12_guestsOf_39 rfl H
  · replace H := H.2 hc
    refine fs_aload_n (k0 := 0) (i := 0) dd_X12_guestsOf_12 rfl rfl ?_
    refine fs_iload_n (k0 := 3) (i := 3) dd_X12_guestsOf_13 rfl rfl ?_
    refine fs_callV (y := m_X12_livesIn) (as := [.int v3]) dd_X12_guestsOf_14 me_X12_livesIn lk_X12_412 in_X12_livesIn se_X12_livesIn ca_196 rfl rfl rfl (Nat.le_of_ble_eq_true rfl) (Nat.le_of_ble_eq_true rfl) rfl (V_X12_livesIn (by omega)  H) (k2_I fun r3 s4 H => ?_)
    refine fs_iload_n (k0 := 1) (i := 1) dd_X12_guestsOf_17 rfl rfl ?_
    refine fs_icmp_ne (tgt := 32) dd_X12_guestsOf_18 (by decide) (fun hc => ?_) (fun hc => ?_)
    · replace H := H.1 hc
      refine fs_iincN (i := 3) (m := 1) (c := 1) dd_X12_guestsOf_32 rfl (by decide) (by decide) (fun x5 hx5 => ?_)
      replace H := H x5 hx5
      refine fs_goto (tgt := 4) dd_X12_guestsOf_35 (by decide) ?_
      refine fs_weak (ls2 := [.ref 196, .int v1, .int v2, .int x5]) (fz_le_e (fz_le_e (fz_le_e (fz_le_e fz_le_n)))) ?_
      exact hK4 H
    · replace H := H.2 hc
      refine fs_aload_n (k0 := 0) (i := 0) dd_X12_guestsOf_21 rfl rfl ?_
      refine fs_iload_n (k0 := 3) (i := 3) dd_X12_guestsOf_22 rfl rfl ?_
      refine fs_callV (y := m_X12_isAway) (as := [.int v3]) dd_X12_guestsOf_23 me_X12_isAway lk_X12_405 in_X12_isAway se_X12_isAway ca_196 rfl rfl rfl (Nat.le_of_ble_eq_true rfl) (Nat.le_of_ble_eq_true rfl) rfl (V_X12_isAway (by omega)  H) (k2_Z fun r6 s7 H => ?_)
      refine fs_if_eq (tgt := 32) dd_X12_guestsOf_26 (by decide) (fun hc => ?_) (fun hc => ?_)
      · replace H := H.1 (bi_0 hc)
        refine fs_iincN (i := 3) (m := 1) (c := 1) dd_X12_guestsOf_32 rfl (by decide) (by decide) (fun x8 hx8 => ?_)
        replace H := H x8 hx8
        refine fs_goto (tgt := 4) dd_X12_guestsOf_35 (by decide) ?_
        refine fs_weak (ls2 := [.ref 196, .int v1, .int v2, .int x8]) (fz_le_e (fz_le_e (fz_le_e (fz_le_e fz_le_n)))) ?_
        exact hK4 H
      · replace H := H.2 (bi_1 hc)
        refine fs_iincN (i := 2) (m := 1) (c := 1) dd_X12_guestsOf_29 rfl (by decide) (by decide) (fun x9 hx9 => ?_)
        replace H := H x9 hx9
        refine fs_iincN (i := 3) (m := 1) (c := 1) dd_X12_guestsOf_32 rfl (by decide) (by decide) (fun x10 hx10 => ?_)
        replace H := H x10 hx10
        refine fs_goto (tgt := 4) dd_X12_guestsOf_35 (by decide) ?_
        refine fs_weak (ls2 := [.ref 196, .int v1, .int x9, .int x10]) (fz_le_e (fz_le_e (fz_le_e (fz_le_e fz_le_n)))) ?_
        exact hK4 H
set_option maxRecDepth 100000 in
set_option maxHeartbeats 4000000 in
theorem V_lp_X12_guestsOf_4 {g : fz_G} {l : Launch} {d : Nat} (hD : 2 ≤ d)    {Q : Int32 → fz_s → Prop}  (n : Nat) : ∀ {v1 : Int32} {v2 : Int32} {v3 : Int32} {s : fz_s}, lp_X12_guestsOf_4   Q n v1 v2 v3 s → fs_V g l m_X12_guestsOf d false 4 [.ref 196, .int v1, .int v2, .int v3] [] s (rI Q) := by
  induction n with
  | zero => intro v1 v2 v3 s H; exact H.elim
  | succ n ih => intro v1 v2 v3 s H; exact V_nd_X12_guestsOf_4 hD  (fun H => ih H) H
set_option maxRecDepth 100000 in
set_option maxHeartbeats 4000000 in
theorem V_X12_guestsOf {g : fz_G} {l : Launch} {d : Nat} (hD : 2 ≤ d) {p0 : Int32}  {s : fz_s} {Q : Int32 → fz_s → Prop} (H : wp_X12_guestsOf p0 s Q) : fs_V g l m_X12_guestsOf d false 0 (fz_en [.ref 196, .int p0] 4) [] s (rI Q) := by
  obtain ⟨d, rfl⟩ : ∃ e, d = e + 1 := ⟨d - 1, by omega⟩
  unfold wp_X12_guestsOf at H
  refine fs_iconst (n := 0) (v := 0) dd_X12_guestsOf_0 (by decide) ?_
  refine fs_istore_n (k0 := 2) (i := 2) dd_X12_guestsOf_1 rfl (by decide) ?_
  refine fs_iconst (n := 0) (v := 0) dd_X12_guestsOf_2 (by decide) ?_
  refine fs_istore_n (k0 := 3) (i := 3) dd_X12_guestsOf_3 rfl (by decide) ?_
  refine fs_weak (ls2 := [.ref 196, .int p0, .int 0, .int 0]) (fz_le_e (fz_le_e (fz_le_e (fz_le_e fz_le_n)))) ?_
  exact V_lp_X12_guestsOf_4 hD    2048 H
theorem dd_X12_isOwnIn_0 : decode m_X12_isOwnIn.2.1 0 = .ok (.aload_n 0, 1) := by decide +kernel
theorem dd_X12_isOwnIn_1 : decode m_X12_isOwnIn.2.1 1 = .ok (.iload_n 1, 1) := by decide +kernel
theorem dd_X12_isOwnIn_2 : decode m_X12_isOwnIn.2.1 2 = .ok (.invokevirtual 415, 3) := by decide +kernel
theorem dd_X12_isOwnIn_5 : decode m_X12_isOwnIn.2.1 5 = .ok (.ifCond .eq 24, 3) := by decide +kernel
theorem dd_X12_isOwnIn_8 : decode m_X12_isOwnIn.2.1 8 = .ok (.aload_n 0, 1) := by decide +kernel
theorem dd_X12_isOwnIn_9 : decode m_X12_isOwnIn.2.1 9 = .ok (.iload_n 1, 1) := by decide +kernel
theorem dd_X12_isOwnIn_10 : decode m_X12_isOwnIn.2.1 10 = .ok (.invokevirtual 408, 3) := by decide +kernel
theorem dd_X12_isOwnIn_13 : decode m_X12_isOwnIn.2.1 13 = .ok (.iload_n 2, 1) := by decide +kernel
theorem dd_X12_isOwnIn_14 : decode m_X12_isOwnIn.2.1 14 = .ok (.if_icmp .ne 15, 3) := by decide +kernel
theorem dd_X12_isOwnIn_17 : decode m_X12_isOwnIn.2.1 17 = .ok (.aload_n 0, 1) := by decide +kernel
theorem dd_X12_isOwnIn_18 : decode m_X12_isOwnIn.2.1 18 = .ok (.iload_n 1, 1) := by decide +kernel
theorem dd_X12_isOwnIn_19 : decode m_X12_isOwnIn.2.1 19 = .ok (.invokevirtual 405, 3) := by decide +kernel
theorem dd_X12_isOwnIn_22 : decode m_X12_isOwnIn.2.1 22 = .ok (.ifCond .ne 7, 3) := by decide +kernel
theorem dd_X12_isOwnIn_25 : decode m_X12_isOwnIn.2.1 25 = .ok (.iconst 1, 1) := by decide +kernel
theorem dd_X12_isOwnIn_26 : decode m_X12_isOwnIn.2.1 26 = .ok (.goto 4, 3) := by decide +kernel
theorem dd_X12_isOwnIn_29 : decode m_X12_isOwnIn.2.1 29 = .ok (.iconst 0, 1) := by decide +kernel
theorem dd_X12_isOwnIn_30 : decode m_X12_isOwnIn.2.1 30 = .ok (.ireturn, 1) := by decide +kernel
def wp_X12_isOwnIn (p0 : Int32) (p1 : Int32) (s : fz_s) (Q : Bool → fz_s → Prop) : Prop :=
  wp_X12_isPerson p0 s (fun r1 s2 => ((r1 = false → Q false s2) ∧ (r1 = true → wp_X12_homeOf p0 s2 (fun r3 s4 => ((¬ r3 = p1 → Q false s4) ∧ (r3 = p1 → wp_X12_isAway p0 s4 (fun r5 s6 => ((r5 = true → Q false s6) ∧ (r5 = false → Q true s6)))))))))
set_option maxRecDepth 100000 in
set_option maxHeartbeats 4000000 in
theorem V_X12_isOwnIn {g : fz_G} {l : Launch} {d : Nat} (hD : 2 ≤ d) {p0 : Int32} {p1 : Int32}  {s : fz_s} {Q : Bool → fz_s → Prop} (H : wp_X12_isOwnIn p0 p1 s Q) : fs_V g l m_X12_isOwnIn d false 0 (fz_en [.ref 196, .int p0, .int p1] 3) [] s (rZ Q) := by
  obtain ⟨d, rfl⟩ : ∃ e, d = e + 1 := ⟨d - 1, by omega⟩
  unfold wp_X12_isOwnIn at H
  refine fs_aload_n (k0 := 0) (i := 0) dd_X12_isOwnIn_0 rfl rfl ?_
  refine fs_iload_n (k0 := 1) (i := 1) dd_X12_isOwnIn_1 rfl rfl ?_
  refine fs_callV (y := m_X12_isPerson) (as := [.int p0]) dd_X12_isOwnIn_2 me_X12_isPerson lk_X12_415 in_X12_isPerson se_X12_isPerson ca_196 rfl rfl rfl (Nat.le_of_ble_eq_true rfl) (Nat.le_of_ble_eq_true rfl) rfl (V_X12_isPerson (by omega)  H) (k2_Z fun r1 s2 H => ?_)
  refine fs_if_eq (tgt := 29) dd_X12_isOwnIn_5 (by decide) (fun hc => ?_) (fun hc => ?_)
  · replace H := H.1 (bi_0 hc)
    refine fs_iconst (n := 0) (v := 0) dd_X12_isOwnIn_29 (by decide) ?_
    exact fs_zret false dd_X12_isOwnIn_30 rfl rfl H
  · replace H := H.2 (bi_1 hc)
    refine fs_aload_n (k0 := 0) (i := 0) dd_X12_isOwnIn_8 rfl rfl ?_
    refine fs_iload_n (k0 := 1) (i := 1) dd_X12_isOwnIn_9 rfl rfl ?_
    refine fs_callV (y := m_X12_homeOf) (as := [.int p0]) dd_X12_isOwnIn_10 me_X12_homeOf lk_X12_408 in_X12_homeOf se_X12_homeOf ca_196 rfl rfl rfl (Nat.le_of_ble_eq_true rfl) (Nat.le_of_ble_eq_true rfl) rfl (V_X12_homeOf (by omega)  H) (k2_I fun r3 s4 H => ?_)
    refine fs_iload_n (k0 := 2) (i := 2) dd_X12_isOwnIn_13 rfl rfl ?_
    refine fs_icmp_ne (tgt := 29) dd_X12_isOwnIn_14 (by decide) (fun hc => ?_) (fun hc => ?_)
    · replace H := H.1 hc
      refine fs_iconst (n := 0) (v := 0) dd_X12_isOwnIn_29 (by decide) ?_
      exact fs_zret false dd_X12_isOwnIn_30 rfl rfl H
    · replace H := H.2 hc
      refine fs_aload_n (k0 := 0) (i := 0) dd_X12_isOwnIn_17 rfl rfl ?_
      refine fs_iload_n (k0 := 1) (i := 1) dd_X12_isOwnIn_18 rfl rfl ?_
      refine fs_callV (y := m_X12_isAway) (as := [.int p0]) dd_X12_isOwnIn_19 me_X12_isAway lk_X12_405 in_X12_isAway se_X12_isAway ca_196 rfl rfl rfl (Nat.le_of_ble_eq_true rfl) (Nat.le_of_ble_eq_true rfl) rfl (V_X12_isAway (by omega)  H) (k2_Z fun r5 s6 H => ?_)
      refine fs_if_ne (tgt := 29) dd_X12_isOwnIn_22 (by decide) (fun hc => ?_) (fun hc => ?_)
      · replace H := H.1 (bi_1 hc)
        refine fs_iconst (n := 0) (v := 0) dd_X12_isOwnIn_29 (by decide) ?_
        exact fs_zret false dd_X12_isOwnIn_30 rfl rfl H
      · replace H := H.2 (bi_0 hc)
        refine fs_iconst (n := 1) (v := 1) dd_X12_isOwnIn_25 (by decide) ?_
        refine fs_goto (tgt := 30) dd_X12_isOwnIn_26 (by decide) ?_
        exact fs_zret true dd_X12_isOwnIn_30 rfl rfl H
theorem dd_X12_qClip_0 : decode m_X12_qClip.2.1 0 = .ok (.lload_n 0, 1) := by decide +kernel
theorem dd_X12_qClip_1 : decode m_X12_qClip.2.1 1 = .ok (.ldc2_w 662, 3) := by decide +kernel
theorem dd_X12_qClip_4 : decode m_X12_qClip.2.1 4 = .ok (.lcmp, 1) := by decide +kernel
theorem dd_X12_qClip_5 : decode m_X12_qClip.2.1 5 = .ok (.ifCond .le 9, 3) := by decide +kernel
theorem dd_X12_qClip_8 : decode m_X12_qClip.2.1 8 = .ok (.ldc2_w 662, 3) := by decide +kernel
theorem dd_X12_qClip_11 : decode m_X12_qClip.2.1 11 = .ok (.goto 18, 3) := by decide +kernel
theorem dd_X12_qClip_14 : decode m_X12_qClip.2.1 14 = .ok (.lload_n 0, 1) := by decide +kernel
theorem dd_X12_qClip_15 : decode m_X12_qClip.2.1 15 = .ok (.ldc2_w 664, 3) := by decide +kernel
theorem dd_X12_qClip_18 : decode m_X12_qClip.2.1 18 = .ok (.lcmp, 1) := by decide +kernel
theorem dd_X12_qClip_19 : decode m_X12_qClip.2.1 19 = .ok (.ifCond .ge 9, 3) := by decide +kernel
theorem dd_X12_qClip_22 : decode m_X12_qClip.2.1 22 = .ok (.ldc2_w 664, 3) := by decide +kernel
theorem dd_X12_qClip_25 : decode m_X12_qClip.2.1 25 = .ok (.goto 4, 3) := by decide +kernel
theorem dd_X12_qClip_28 : decode m_X12_qClip.2.1 28 = .ok (.lload_n 0, 1) := by decide +kernel
theorem dd_X12_qClip_29 : decode m_X12_qClip.2.1 29 = .ok (.lreturn, 1) := by decide +kernel
def wp_X12_qClip (p0 : Int64) (s : fz_s) (Q : Int64 → fz_s → Prop) : Prop :=
  (((lg_cmp p0 1000000) ≤ 0 → ((0 ≤ (lg_cmp p0 (-1000000)) → Q p0 s) ∧ (¬ 0 ≤ (lg_cmp p0 (-1000000)) → Q (-1000000) s))) ∧ (¬ (lg_cmp p0 1000000) ≤ 0 → Q 1000000 s))
set_option maxRecDepth 100000 in
set_option maxHeartbeats 4000000 in
theorem V_X12_qClip {g : fz_G} {l : Launch} {d : Nat} (hD : 0 ≤ d) {p0 : Int64}  {s : fz_s} {Q : Int64 → fz_s → Prop} (H : wp_X12_qClip p0 s Q) : fs_V g l m_X12_qClip d false 0 (fz_en [.long p0] 2) [] s (rL Q) := by
  unfold wp_X12_qClip at H
  refine fs_lload_n (k0 := 0) (i := 0) dd_X12_qClip_0 rfl rfl ?_
  refine fs_ldc2 (idx := 662) (v := 1000000) dd_X12_qClip_1 cl_X12_662 ?_
  refine fs_lcmp dd_X12_qClip_4 ?_
  refine fs_if_le (tgt := 14) dd_X12_qClip_5 (by decide) (fun hc => ?_) (fun hc => ?_)
  · replace H := H.1 hc
    refine fs_lload_n (k0 := 0) (i := 0) dd_X12_qClip_14 rfl rfl ?_
    refine fs_ldc2 (idx := 664) (v := -1000000) dd_X12_qClip_15 cl_X12_664 ?_
    refine fs_lcmp dd_X12_qClip_18 ?_
    refine fs_if_ge (tgt := 28) dd_X12_qClip_19 (by decide) (fun hc => ?_) (fun hc => ?_)
    · replace H := H.1 hc
      refine fs_lload_n (k0 := 0) (i := 0) dd_X12_qClip_28 rfl rfl ?_
      exact fs_lret dd_X12_qClip_29 rfl H
    · replace H := H.2 hc
      refine fs_ldc2 (idx := 664) (v := -1000000) dd_X12_qClip_22 cl_X12_664 ?_
      refine fs_goto (tgt := 29) dd_X12_qClip_25 (by decide) ?_
      exact fs_lret dd_X12_qClip_29 rfl H
  · replace H := H.2 hc
    refine fs_ldc2 (idx := 662) (v := 1000000) dd_X12_qClip_8 cl_X12_662 ?_
    refine fs_goto (tgt := 29) dd_X12_qClip_11 (by decide) ?_
    exact fs_lret dd_X12_qClip_29 rfl H
theorem dd_X12_qPuts_0 : decode m_X12_qPuts.2.1 0 = .ok (.aload_n 0, 1) := by decide +kernel
theorem dd_X12_qPuts_1 : decode m_X12_qPuts.2.1 1 = .ok (.getfield 243, 3) := by decide +kernel
theorem dd_X12_qPuts_4 : decode m_X12_qPuts.2.1 4 = .ok (.aload_n 0, 1) := by decide +kernel
theorem dd_X12_qPuts_5 : decode m_X12_qPuts.2.1 5 = .ok (.getfield 421, 3) := by decide +kernel
theorem dd_X12_qPuts_8 : decode m_X12_qPuts.2.1 8 = .ok (.lload_n 1, 1) := by decide +kernel
theorem dd_X12_qPuts_9 : decode m_X12_qPuts.2.1 9 = .ok (.lastore, 1) := by decide +kernel
theorem dd_X12_qPuts_10 : decode m_X12_qPuts.2.1 10 = .ok (.aload_n 0, 1) := by decide +kernel
theorem dd_X12_qPuts_11 : decode m_X12_qPuts.2.1 11 = .ok (.dup, 1) := by decide +kernel
theorem dd_X12_qPuts_12 : decode m_X12_qPuts.2.1 12 = .ok (.getfield 421, 3) := by decide +kernel
theorem dd_X12_qPuts_15 : decode m_X12_qPuts.2.1 15 = .ok (.iconst 1, 1) := by decide +kernel
theorem dd_X12_qPuts_16 : decode m_X12_qPuts.2.1 16 = .ok (.iadd, 1) := by decide +kernel
theorem dd_X12_qPuts_17 : decode m_X12_qPuts.2.1 17 = .ok (.putfield 421, 3) := by decide +kernel
theorem dd_X12_qPuts_20 : decode m_X12_qPuts.2.1 20 = .ok (.return_, 1) := by decide +kernel
def wp_X12_qPuts (p0 : Int64) (s : fz_s) (Q : fz_s → Prop) : Prop :=
  vp_in (s.1 196 107) 1700 ∧ ∀ s1 : fz_s, s1 = sl s 271 (s.1 196 107).toNatClampNeg p0 → ∀ s2 : fz_s, s2 = si s1 196 107 ((s1.1 196 107) + 1) → Q s2
set_option maxRecDepth 100000 in
set_option maxHeartbeats 4000000 in
theorem V_X12_qPuts {g : fz_G} {l : Launch} {d : Nat} (hD : 0 ≤ d) {p0 : Int64}  {s : fz_s} {Q : fz_s → Prop} (H : wp_X12_qPuts p0 s Q) : fs_V g l m_X12_qPuts d false 0 (fz_en [.ref 196, .long p0] 3) [] s (rV Q) := by
  unfold wp_X12_qPuts at H
  refine fs_aload_n (k0 := 0) (i := 0) dd_X12_qPuts_0 rfl rfl ?_
  refine fs_getr (ci := 12) (j := 106) (q := 271) dd_X12_qPuts_1 fl_X12_243 ca_196 rfl (Or.inr ⟨_, rfl⟩) rfl (by decide) ?_
  refine fs_aload_n (k0 := 0) (i := 0) dd_X12_qPuts_4 rfl rfl ?_
  refine fs_geti (ci := 12) (j := 107) dd_X12_qPuts_5 fl_X12_421 ca_196 rfl (Or.inl rfl) ?_
  refine fs_lload_n (k0 := 1) (i := 1) dd_X12_qPuts_8 rfl rfl ?_
  have hb := H.1
  replace H := H.2
  refine fs_last dd_X12_qPuts_9 ca_271 hb ?_
  refine fs_tops (fun s1 hs1 => ?_)
  replace H := H s1 hs1
  refine fs_aload_n (k0 := 0) (i := 0) dd_X12_qPuts_10 rfl rfl ?_
  refine fs_dup dd_X12_qPuts_11 rfl ?_
  refine fs_geti (ci := 12) (j := 107) dd_X12_qPuts_12 fl_X12_421 ca_196 rfl (Or.inl rfl) ?_
  refine fs_iconst (n := 1) (v := 1) dd_X12_qPuts_15 (by decide) ?_
  refine fs_iadd dd_X12_qPuts_16 ?_
  refine fs_puti (ci := 12) (j := 107) dd_X12_qPuts_17 fl_X12_421 (fun _ _ _ h => by cases h; rfl) ca_196 rfl (Or.inl rfl) ?_
  refine fs_tops (fun s2 hs2 => ?_)
  replace H := H s2 hs2
  exact fs_vret dd_X12_qPuts_20 rfl H
theorem dd_X12_qFloor_0 : decode m_X12_qFloor.2.1 0 = .ok (.lload_n 2, 1) := by decide +kernel
theorem dd_X12_qFloor_1 : decode m_X12_qFloor.2.1 1 = .ok (.lconst 0, 1) := by decide +kernel
theorem dd_X12_qFloor_2 : decode m_X12_qFloor.2.1 2 = .ok (.lcmp, 1) := by decide +kernel
theorem dd_X12_qFloor_3 : decode m_X12_qFloor.2.1 3 = .ok (.ifCond .ne 5, 3) := by decide +kernel
theorem dd_X12_qFloor_6 : decode m_X12_qFloor.2.1 6 = .ok (.lconst 0, 1) := by decide +kernel
theorem dd_X12_qFloor_7 : decode m_X12_qFloor.2.1 7 = .ok (.lreturn, 1) := by decide +kernel
theorem dd_X12_qFloor_8 : decode m_X12_qFloor.2.1 8 = .ok (.lload_n 0, 1) := by decide +kernel
theorem dd_X12_qFloor_9 : decode m_X12_qFloor.2.1 9 = .ok (.lload_n 2, 1) := by decide +kernel
theorem dd_X12_qFloor_10 : decode m_X12_qFloor.2.1 10 = .ok (.ldiv, 1) := by decide +kernel
theorem dd_X12_qFloor_11 : decode m_X12_qFloor.2.1 11 = .ok (.lstore 4, 2) := by decide +kernel
theorem dd_X12_qFloor_13 : decode m_X12_qFloor.2.1 13 = .ok (.lload_n 0, 1) := by decide +kernel
theorem dd_X12_qFloor_14 : decode m_X12_qFloor.2.1 14 = .ok (.lload_n 2, 1) := by decide +kernel
theorem dd_X12_qFloor_15 : decode m_X12_qFloor.2.1 15 = .ok (.lrem, 1) := by decide +kernel
theorem dd_X12_qFloor_16 : decode m_X12_qFloor.2.1 16 = .ok (.lconst 0, 1) := by decide +kernel
theorem dd_X12_qFloor_17 : decode m_X12_qFloor.2.1 17 = .ok (.lcmp, 1) := by decide +kernel
theorem dd_X12_qFloor_18 : decode m_X12_qFloor.2.1 18 = .ok (.ifCond .eq 35, 3) := by decide +kernel
theorem dd_X12_qFloor_21 : decode m_X12_qFloor.2.1 21 = .ok (.lload_n 0, 1) := by decide +kernel
theorem dd_X12_qFloor_22 : decode m_X12_qFloor.2.1 22 = .ok (.lconst 0, 1) := by decide +kernel
theorem dd_X12_qFloor_23 : decode m_X12_qFloor.2.1 23 = .ok (.lcmp, 1) := by decide +kernel
theorem dd_X12_qFloor_24 : decode m_X12_qFloor.2.1 24 = .ok (.ifCond .ge 7, 3) := by decide +kernel
theorem dd_X12_qFloor_27 : decode m_X12_qFloor.2.1 27 = .ok (.iconst 1, 1) := by decide +kernel
theorem dd_X12_qFloor_28 : decode m_X12_qFloor.2.1 28 = .ok (.goto 4, 3) := by decide +kernel
theorem dd_X12_qFloor_31 : decode m_X12_qFloor.2.1 31 = .ok (.iconst 0, 1) := by decide +kernel
theorem dd_X12_qFloor_32 : decode m_X12_qFloor.2.1 32 = .ok (.lload_n 2, 1) := by decide +kernel
theorem dd_X12_qFloor_33 : decode m_X12_qFloor.2.1 33 = .ok (.lconst 0, 1) := by decide +kernel
theorem dd_X12_qFloor_34 : decode m_X12_qFloor.2.1 34 = .ok (.lcmp, 1) := by decide +kernel
theorem dd_X12_qFloor_35 : decode m_X12_qFloor.2.1 35 = .ok (.ifCond .ge 7, 3) := by decide +kernel
theorem dd_X12_qFloor_38 : decode m_X12_qFloor.2.1 38 = .ok (.iconst 1, 1) := by decide +kernel
theorem dd_X12_qFloor_39 : decode m_X12_qFloor.2.1 39 = .ok (.goto 4, 3) := by decide +kernel
theorem dd_X12_qFloor_42 : decode m_X12_qFloor.2.1 42 = .ok (.iconst 0, 1) := by decide +kernel
theorem dd_X12_qFloor_43 : decode m_X12_qFloor.2.1 43 = .ok (.if_icmp .eq 10, 3) := by decide +kernel
theorem dd_X12_qFloor_46 : decode m_X12_qFloor.2.1 46 = .ok (.lload 4, 2) := by decide +kernel
theorem dd_X12_qFloor_48 : decode m_X12_qFloor.2.1 48 = .ok (.lconst 1, 1) := by decide +kernel
theorem dd_X12_qFloor_49 : decode m_X12_qFloor.2.1 49 = .ok (.lsub, 1) := by decide +kernel
theorem dd_X12_qFloor_50 : decode m_X12_qFloor.2.1 50 = .ok (.goto 5, 3) := by decide +kernel
theorem dd_X12_qFloor_53 : decode m_X12_qFloor.2.1 53 = .ok (.lload 4, 2) := by decide +kernel
theorem dd_X12_qFloor_55 : decode m_X12_qFloor.2.1 55 = .ok (.lreturn, 1) := by decide +kernel
def nd_X12_qFloor_43   (Q : Int64 → fz_s → Prop) (v4 : Int64) (u0 : Bool) (u1 : Bool) (s : fz_s) : Prop :=
  (((bi u1) = (bi u0) → Q v4 s) ∧ (¬ (bi u1) = (bi u0) → Q (v4 - 1) s))
def nd_X12_qFloor_32   (Q : Int64 → fz_s → Prop) (v2 : Int64) (v4 : Int64) (u0 : Bool) (s : fz_s) : Prop :=
  ((0 ≤ (lg_cmp v2 0) → nd_X12_qFloor_43   Q v4 false u0 s) ∧ (¬ 0 ≤ (lg_cmp v2 0) → nd_X12_qFloor_43   Q v4 true u0 s))
def wp_X12_qFloor (p0 : Int64) (p1 : Int64) (s : fz_s) (Q : Int64 → fz_s → Prop) : Prop :=
  ((¬ (lg_cmp p1 0) = 0 → (¬ p1 = 0) ∧ ∀ x1 : Int64, x1 = (p0 / p1) → (¬ p1 = 0) ∧ (((lg_cmp (p0 - p0 / p1 * p1) 0) = 0 → Q x1 s) ∧ (¬ (lg_cmp (p0 - p0 / p1 * p1) 0) = 0 → ((0 ≤ (lg_cmp p0 0) → nd_X12_qFloor_32   Q p1 x1 false s) ∧ (¬ 0 ≤ (lg_cmp p0 0) → nd_X12_qFloor_32   Q p1 x1 true s))))) ∧ ((lg_cmp p1 0) = 0 → Q 0 s))
set_option maxRecDepth 100000 in
set_option maxHeartbeats 4000000 in
theorem V_nd_X12_qFloor_43 {g : fz_G} {l : Launch} {d : Nat} (hD : 0 ≤ d)    {Q : Int64 → fz_s → Prop} {v4 : Int64} {u0 : Bool} {u1 : Bool} {s : fz_s}  (H : nd_X12_qFloor_43   Q v4 u0 u1 s) : fs_V g l m_X12_qFloor d false 43 [fz_J, fz_J, fz_J, fz_J, .long v4, fz_J] [.int (bi u0), .int (bi u1)] s (rL Q) := by
  unfold nd_X12_qFloor_43 at H
  refine fs_icmp_eq (tgt := 53) dd_X12_qFloor_43 (by decide) (fun hc => ?_) (fun hc => ?_)
  · replace H := H.1 hc
    refine fs_lload (i := 4) dd_X12_qFloor_53 rfl ?_
    exact fs_lret dd_X12_qFloor_55 rfl H
  · replace H := H.2 hc
    refine fs_lload (i := 4) dd_X12_qFloor_46 rfl ?_
    refine fs_lconst (n := 1) (v := 1) dd_X12_qFloor_48 (by decide) ?_
    refine fs_lsub dd_X12_qFloor_49 ?_
    refine fs_goto (tgt := 55) dd_X12_qFloor_50 (by decide) ?_
    exact fs_lret dd_X12_qFloor_55 rfl H
set_option maxRecDepth 100000 in
set_option maxHeartbeats 4000000 in
theorem V_nd_X12_qFloor_32 {g : fz_G} {l : Launch} {d : Nat} (hD : 0 ≤ d)    {Q : Int64 → fz_s → Prop} {v2 : Int64} {v4 : Int64} {u0 : Bool} {s : fz_s}  (H : nd_X12_qFloor_32   Q v2 v4 u0 s) : fs_V g l m_X12_qFloor d false 32 [fz_J, fz_J, .long v2, fz_J, .long v4, fz_J] [.int (bi u0)] s (rL Q) := by
  unfold nd_X12_qFloor_32 at H
  refine fs_lload_n (k0 := 2) (i := 2) dd_X12_qFloor_32 rfl rfl ?_
  refine fs_lconst (n := 0) (v := 0) dd_X12_qFloor_33 (by decide) ?_
  refine fs_lcmp dd_X12_qFloor_34 ?_
  refine fs_if_ge (tgt := 42) dd_X12_qFloor_35 (by decide) (fun hc => ?_) (fun hc => ?_)
  · replace H := H.1 hc
    refine fs_iconst (n := 0) (v := 0) dd_X12_qFloor_42 (by decide) ?_
    refine fs_weak (ls2 := [fz_J, fz_J, fz_J, fz_J, .long v4, fz_J]) (fz_le_j (fz_le_j (fz_le_j (fz_le_j (fz_le_e (fz_le_j fz_le_n)))))) ?_
    exact V_nd_X12_qFloor_43 hD    H
  · replace H := H.2 hc
    refine fs_iconst (n := 1) (v := 1) dd_X12_qFloor_38 (by decide) ?_
    refine fs_goto (tgt := 43) dd_X12_qFloor_39 (by decide) ?_
    refine fs_weak (ls2 := [fz_J, fz_J, fz_J, fz_J, .long v4, fz_J]) (fz_le_j (fz_le_j (fz_le_j (fz_le_j (fz_le_e (fz_le_j fz_le_n)))))) ?_
    exact V_nd_X12_qFloor_43 hD    H
set_option maxRecDepth 100000 in
set_option maxHeartbeats 4000000 in
theorem V_X12_qFloor {g : fz_G} {l : Launch} {d : Nat} (hD : 0 ≤ d) {p0 : Int64} {p1 : Int64}  {s : fz_s} {Q : Int64 → fz_s → Prop} (H : wp_X12_qFloor p0 p1 s Q) : fs_V g l m_X12_qFloor d false 0 (fz_en [.long p0, .long p1] 6) [] s (rL Q) := by
  unfold wp_X12_qFloor at H
  refine fs_lload_n (k0 := 2) (i := 2) dd_X12_qFloor_0 rfl rfl ?_
  refine fs_lconst (n := 0) (v := 0) dd_X12_qFloor_1 (by decide) ?_
  refine fs_lcmp dd_X12_qFloor_2 ?_
  refine fs_if_ne (tgt := 8) dd_X12_qFloor_3 (by decide) (fun hc => ?_) (fun hc => ?_)
  · replace H := H.1 hc
    refine fs_lload_n (k0 := 0) (i := 0) dd_X12_qFloor_8 rfl rfl ?_
    refine fs_lload_n (k0 := 2) (i := 2) dd_X12_qFloor_9 rfl rfl ?_
    have hz := H.1
    replace H := H.2
    refine fs_ldiv dd_X12_qFloor_10 hz ?_
    refine fs_topl (fun x1 hx1 => ?_)
    replace H := H x1 hx1
    refine fs_lstore (i := 4) dd_X12_qFloor_11 (by decide) ?_
    refine fs_lload_n (k0 := 0) (i := 0) dd_X12_qFloor_13 rfl rfl ?_
    refine fs_lload_n (k0 := 2) (i := 2) dd_X12_qFloor_14 rfl rfl ?_
    have hz := H.1
    replace H := H.2
    refine fs_lrem dd_X12_qFloor_15 hz ?_
    refine fs_lconst (n := 0) (v := 0) dd_X12_qFloor_16 (by decide) ?_
    refine fs_lcmp dd_X12_qFloor_17 ?_
    refine fs_if_eq (tgt := 53) dd_X12_qFloor_18 (by decide) (fun hc => ?_) (fun hc => ?_)
    · replace H := H.1 hc
      refine fs_lload (i := 4) dd_X12_qFloor_53 rfl ?_
      exact fs_lret dd_X12_qFloor_55 rfl H
    · replace H := H.2 hc
      refine fs_lload_n (k0 := 0) (i := 0) dd_X12_qFloor_21 rfl rfl ?_
      refine fs_lconst (n := 0) (v := 0) dd_X12_qFloor_22 (by decide) ?_
      refine fs_lcmp dd_X12_qFloor_23 ?_
      refine fs_if_ge (tgt := 31) dd_X12_qFloor_24 (by decide) (fun hc => ?_) (fun hc => ?_)
      · replace H := H.1 hc
        refine fs_iconst (n := 0) (v := 0) dd_X12_qFloor_31 (by decide) ?_
        refine fs_weak (ls2 := [fz_J, fz_J, .long p1, fz_J, .long x1, fz_J]) (fz_le_j (fz_le_j (fz_le_e (fz_le_j (fz_le_e (fz_le_j fz_le_n)))))) ?_
        exact V_nd_X12_qFloor_32 hD    H
      · replace H := H.2 hc
        refine fs_iconst (n := 1) (v := 1) dd_X12_qFloor_27 (by decide) ?_
        refine fs_goto (tgt := 32) dd_X12_qFloor_28 (by decide) ?_
        refine fs_weak (ls2 := [fz_J, fz_J, .long p1, fz_J, .long x1, fz_J]) (fz_le_j (fz_le_j (fz_le_e (fz_le_j (fz_le_e (fz_le_j fz_le_n)))))) ?_
        exact V_nd_X12_qFloor_32 hD    H
  · replace H := H.2 hc
    refine fs_lconst (n := 0) (v := 0) dd_X12_qFloor_6 (by decide) ?_
    exact fs_lret dd_X12_qFloor_7 rfl H

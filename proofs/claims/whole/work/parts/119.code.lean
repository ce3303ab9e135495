theorem dd_X12_examMany_0 : decode m_X12_examMany.2.1 0 = .ok (.aload_n 0, 1) := by decide +kernel
theorem dd_X12_examMany_1 : decode m_X12_examMany.2.1 1 = .ok (.iconst 0, 1) := by decide +kernel
theorem dd_X12_examMany_2 : decode m_X12_examMany.2.1 2 = .ok (.iconst 0, 1) := by decide +kernel
theorem dd_X12_examMany_3 : decode m_X12_examMany.2.1 3 = .ok (.iconst 0, 1) := by decide +kernel
theorem dd_X12_examMany_4 : decode m_X12_examMany.2.1 4 = .ok (.invokevirtual 554, 3) := by decide +kernel
theorem dd_X12_examMany_7 : decode m_X12_examMany.2.1 7 = .ok (.ifCond .eq 5, 3) := by decide +kernel
theorem dd_X12_examMany_10 : decode m_X12_examMany.2.1 10 = .ok (.iconst 0, 1) := by decide +kernel
theorem dd_X12_examMany_11 : decode m_X12_examMany.2.1 11 = .ok (.ireturn, 1) := by decide +kernel
theorem dd_X12_examMany_12 : decode m_X12_examMany.2.1 12 = .ok (.iconst 0, 1) := by decide +kernel
theorem dd_X12_examMany_13 : decode m_X12_examMany.2.1 13 = .ok (.istore_n 1, 1) := by decide +kernel
theorem dd_X12_examMany_14 : decode m_X12_examMany.2.1 14 = .ok (.iload_n 1, 1) := by decide +kernel
theorem dd_X12_examMany_15 : decode m_X12_examMany.2.1 15 = .ok (.bipush 27, 2) := by decide +kernel
theorem dd_X12_examMany_17 : decode m_X12_examMany.2.1 17 = .ok (.if_icmp .ge 33, 3) := by decide +kernel
theorem dd_X12_examMany_20 : decode m_X12_examMany.2.1 20 = .ok (.aload_n 0, 1) := by decide +kernel
theorem dd_X12_examMany_21 : decode m_X12_examMany.2.1 21 = .ok (.getfield 142, 3) := by decide +kernel
theorem dd_X12_examMany_24 : decode m_X12_examMany.2.1 24 = .ok (.iconst 0, 1) := by decide +kernel
theorem dd_X12_examMany_25 : decode m_X12_examMany.2.1 25 = .ok (.iload_n 1, 1) := by decide +kernel
theorem dd_X12_examMany_26 : decode m_X12_examMany.2.1 26 = .ok (.iastore, 1) := by decide +kernel
theorem dd_X12_examMany_27 : decode m_X12_examMany.2.1 27 = .ok (.aload_n 0, 1) := by decide +kernel
theorem dd_X12_examMany_28 : decode m_X12_examMany.2.1 28 = .ok (.aload_n 0, 1) := by decide +kernel
theorem dd_X12_examMany_29 : decode m_X12_examMany.2.1 29 = .ok (.getfield 139, 3) := by decide +kernel
theorem dd_X12_examMany_32 : decode m_X12_examMany.2.1 32 = .ok (.iload_n 1, 1) := by decide +kernel
theorem dd_X12_examMany_33 : decode m_X12_examMany.2.1 33 = .ok (.iaload, 1) := by decide +kernel
theorem dd_X12_examMany_34 : decode m_X12_examMany.2.1 34 = .ok (.iconst 0, 1) := by decide +kernel
theorem dd_X12_examMany_35 : decode m_X12_examMany.2.1 35 = .ok (.iconst 0, 1) := by decide +kernel
theorem dd_X12_examMany_36 : decode m_X12_examMany.2.1 36 = .ok (.invokevirtual 554, 3) := by decide +kernel
theorem dd_X12_examMany_39 : decode m_X12_examMany.2.1 39 = .ok (.ifCond .eq 5, 3) := by decide +kernel
theorem dd_X12_examMany_42 : decode m_X12_examMany.2.1 42 = .ok (.iconst 1, 1) := by decide +kernel
theorem dd_X12_examMany_43 : decode m_X12_examMany.2.1 43 = .ok (.ireturn, 1) := by decide +kernel
theorem dd_X12_examMany_44 : decode m_X12_examMany.2.1 44 = .ok (.iinc 1 1, 3) := by decide +kernel
theorem dd_X12_examMany_47 : decode m_X12_examMany.2.1 47 = .ok (.goto (-33), 3) := by decide +kernel
theorem dd_X12_examMany_50 : decode m_X12_examMany.2.1 50 = .ok (.iconst 0, 1) := by decide +kernel
theorem dd_X12_examMany_51 : decode m_X12_examMany.2.1 51 = .ok (.istore_n 1, 1) := by decide +kernel
theorem dd_X12_examMany_52 : decode m_X12_examMany.2.1 52 = .ok (.iload_n 1, 1) := by decide +kernel
theorem dd_X12_examMany_53 : decode m_X12_examMany.2.1 53 = .ok (.bipush 27, 2) := by decide +kernel
theorem dd_X12_examMany_55 : decode m_X12_examMany.2.1 55 = .ok (.if_icmp .ge 61, 3) := by decide +kernel
theorem dd_X12_examMany_58 : decode m_X12_examMany.2.1 58 = .ok (.iload_n 1, 1) := by decide +kernel
theorem dd_X12_examMany_59 : decode m_X12_examMany.2.1 59 = .ok (.iconst 1, 1) := by decide +kernel
theorem dd_X12_examMany_60 : decode m_X12_examMany.2.1 60 = .ok (.iadd, 1) := by decide +kernel
theorem dd_X12_examMany_61 : decode m_X12_examMany.2.1 61 = .ok (.istore_n 2, 1) := by decide +kernel
theorem dd_X12_examMany_62 : decode m_X12_examMany.2.1 62 = .ok (.iload_n 2, 1) := by decide +kernel
theorem dd_X12_examMany_63 : decode m_X12_examMany.2.1 63 = .ok (.bipush 27, 2) := by decide +kernel
theorem dd_X12_examMany_65 : decode m_X12_examMany.2.1 65 = .ok (.if_icmp .ge 45, 3) := by decide +kernel
theorem dd_X12_examMany_68 : decode m_X12_examMany.2.1 68 = .ok (.aload_n 0, 1) := by decide +kernel
theorem dd_X12_examMany_69 : decode m_X12_examMany.2.1 69 = .ok (.getfield 142, 3) := by decide +kernel
theorem dd_X12_examMany_72 : decode m_X12_examMany.2.1 72 = .ok (.iconst 0, 1) := by decide +kernel
theorem dd_X12_examMany_73 : decode m_X12_examMany.2.1 73 = .ok (.iload_n 1, 1) := by decide +kernel
theorem dd_X12_examMany_74 : decode m_X12_examMany.2.1 74 = .ok (.iastore, 1) := by decide +kernel
theorem dd_X12_examMany_75 : decode m_X12_examMany.2.1 75 = .ok (.aload_n 0, 1) := by decide +kernel
theorem dd_X12_examMany_76 : decode m_X12_examMany.2.1 76 = .ok (.getfield 142, 3) := by decide +kernel
theorem dd_X12_examMany_79 : decode m_X12_examMany.2.1 79 = .ok (.iconst 1, 1) := by decide +kernel
theorem dd_X12_examMany_80 : decode m_X12_examMany.2.1 80 = .ok (.iload_n 2, 1) := by decide +kernel
theorem dd_X12_examMany_81 : decode m_X12_examMany.2.1 81 = .ok (.iastore, 1) := by decide +kernel
theorem dd_X12_examMany_82 : decode m_X12_examMany.2.1 82 = .ok (.aload_n 0, 1) := by decide +kernel
theorem dd_X12_examMany_83 : decode m_X12_examMany.2.1 83 = .ok (.aload_n 0, 1) := by decide +kernel
theorem dd_X12_examMany_84 : decode m_X12_examMany.2.1 84 = .ok (.getfield 139, 3) := by decide +kernel
theorem dd_X12_examMany_87 : decode m_X12_examMany.2.1 87 = .ok (.iload_n 1, 1) := by decide +kernel
theorem dd_X12_examMany_88 : decode m_X12_examMany.2.1 88 = .ok (.iaload, 1) := by decide +kernel
theorem dd_X12_examMany_89 : decode m_X12_examMany.2.1 89 = .ok (.aload_n 0, 1) := by decide +kernel
theorem dd_X12_examMany_90 : decode m_X12_examMany.2.1 90 = .ok (.getfield 139, 3) := by decide +kernel
theorem dd_X12_examMany_93 : decode m_X12_examMany.2.1 93 = .ok (.iload_n 2, 1) := by decide +kernel
theorem dd_X12_examMany_94 : decode m_X12_examMany.2.1 94 = .ok (.iaload, 1) := by decide +kernel
theorem dd_X12_examMany_95 : decode m_X12_examMany.2.1 95 = .ok (.iconst 0, 1) := by decide +kernel
theorem dd_X12_examMany_96 : decode m_X12_examMany.2.1 96 = .ok (.invokevirtual 554, 3) := by decide +kernel
theorem dd_X12_examMany_99 : decode m_X12_examMany.2.1 99 = .ok (.ifCond .eq 5, 3) := by decide +kernel
theorem dd_X12_examMany_102 : decode m_X12_examMany.2.1 102 = .ok (.iconst 2, 1) := by decide +kernel
theorem dd_X12_examMany_103 : decode m_X12_examMany.2.1 103 = .ok (.ireturn, 1) := by decide +kernel
theorem dd_X12_examMany_104 : decode m_X12_examMany.2.1 104 = .ok (.iinc 2 1, 3) := by decide +kernel
theorem dd_X12_examMany_107 : decode m_X12_examMany.2.1 107 = .ok (.goto (-45), 3) := by decide +kernel
theorem dd_X12_examMany_110 : decode m_X12_examMany.2.1 110 = .ok (.iinc 1 1, 3) := by decide +kernel
theorem dd_X12_examMany_113 : decode m_X12_examMany.2.1 113 = .ok (.goto (-61), 3) := by decide +kernel
theorem dd_X12_examMany_116 : decode m_X12_examMany.2.1 116 = .ok (.iconst 0, 1) := by decide +kernel
theorem dd_X12_examMany_117 : decode m_X12_examMany.2.1 117 = .ok (.istore_n 1, 1) := by decide +kernel
theorem dd_X12_examMany_118 : decode m_X12_examMany.2.1 118 = .ok (.iload_n 1, 1) := by decide +kernel
theorem dd_X12_examMany_119 : decode m_X12_examMany.2.1 119 = .ok (.bipush 27, 2) := by decide +kernel
theorem dd_X12_examMany_121 : decode m_X12_examMany.2.1 121 = .ok (.if_icmp .ge 89, 3) := by decide +kernel
theorem dd_X12_examMany_124 : decode m_X12_examMany.2.1 124 = .ok (.iload_n 1, 1) := by decide +kernel
theorem dd_X12_examMany_125 : decode m_X12_examMany.2.1 125 = .ok (.iconst 1, 1) := by decide +kernel
theorem dd_X12_examMany_126 : decode m_X12_examMany.2.1 126 = .ok (.iadd, 1) := by decide +kernel
theorem dd_X12_examMany_127 : decode m_X12_examMany.2.1 127 = .ok (.istore_n 2, 1) := by decide +kernel
theorem dd_X12_examMany_128 : decode m_X12_examMany.2.1 128 = .ok (.iload_n 2, 1) := by decide +kernel
theorem dd_X12_examMany_129 : decode m_X12_examMany.2.1 129 = .ok (.bipush 27, 2) := by decide +kernel
theorem dd_X12_examMany_131 : decode m_X12_examMany.2.1 131 = .ok (.if_icmp .ge 73, 3) := by decide +kernel
theorem dd_X12_examMany_134 : decode m_X12_examMany.2.1 134 = .ok (.iload_n 2, 1) := by decide +kernel
theorem dd_X12_examMany_135 : decode m_X12_examMany.2.1 135 = .ok (.iconst 1, 1) := by decide +kernel
theorem dd_X12_examMany_136 : decode m_X12_examMany.2.1 136 = .ok (.iadd, 1) := by decide +kernel
theorem dd_X12_examMany_137 : decode m_X12_examMany.2.1 137 = .ok (.istore_n 3, 1) := by decide +kernel
theorem dd_X12_examMany_138 : decode m_X12_examMany.2.1 138 = .ok (.iload_n 3, 1) := by decide +kernel
theorem dd_X12_examMany_139 : decode m_X12_examMany.2.1 139 = .ok (.bipush 27, 2) := by decide +kernel
theorem dd_X12_examMany_141 : decode m_X12_examMany.2.1 141 = .ok (.if_icmp .ge 57, 3) := by decide +kernel
theorem dd_X12_examMany_144 : decode m_X12_examMany.2.1 144 = .ok (.aload_n 0, 1) := by decide +kernel
theorem dd_X12_examMany_145 : decode m_X12_examMany.2.1 145 = .ok (.getfield 142, 3) := by decide +kernel
theorem dd_X12_examMany_148 : decode m_X12_examMany.2.1 148 = .ok (.iconst 0, 1) := by decide +kernel
theorem dd_X12_examMany_149 : decode m_X12_examMany.2.1 149 = .ok (.iload_n 1, 1) := by decide +kernel
theorem dd_X12_examMany_150 : decode m_X12_examMany.2.1 150 = .ok (.iastore, 1) := by decide +kernel
theorem dd_X12_examMany_151 : decode m_X12_examMany.2.1 151 = .ok (.aload_n 0, 1) := by decide +kernel
theorem dd_X12_examMany_152 : decode m_X12_examMany.2.1 152 = .ok (.getfield 142, 3) := by decide +kernel
theorem dd_X12_examMany_155 : decode m_X12_examMany.2.1 155 = .ok (.iconst 1, 1) := by decide +kernel
theorem dd_X12_examMany_156 : decode m_X12_examMany.2.1 156 = .ok (.iload_n 2, 1) := by decide +kernel
theorem dd_X12_examMany_157 : decode m_X12_examMany.2.1 157 = .ok (.iastore, 1) := by decide +kernel
theorem dd_X12_examMany_158 : decode m_X12_examMany.2.1 158 = .ok (.aload_n 0, 1) := by decide +kernel
theorem dd_X12_examMany_159 : decode m_X12_examMany.2.1 159 = .ok (.getfield 142, 3) := by decide +kernel
theorem dd_X12_examMany_162 : decode m_X12_examMany.2.1 162 = .ok (.iconst 2, 1) := by decide +kernel
theorem dd_X12_examMany_163 : decode m_X12_examMany.2.1 163 = .ok (.iload_n 3, 1) := by decide +kernel
theorem dd_X12_examMany_164 : decode m_X12_examMany.2.1 164 = .ok (.iastore, 1) := by decide +kernel
theorem dd_X12_examMany_165 : decode m_X12_examMany.2.1 165 = .ok (.aload_n 0, 1) := by decide +kernel
theorem dd_X12_examMany_166 : decode m_X12_examMany.2.1 166 = .ok (.aload_n 0, 1) := by decide +kernel
theorem dd_X12_examMany_167 : decode m_X12_examMany.2.1 167 = .ok (.getfield 139, 3) := by decide +kernel
theorem dd_X12_examMany_170 : decode m_X12_examMany.2.1 170 = .ok (.iload_n 1, 1) := by decide +kernel
theorem dd_X12_examMany_171 : decode m_X12_examMany.2.1 171 = .ok (.iaload, 1) := by decide +kernel
theorem dd_X12_examMany_172 : decode m_X12_examMany.2.1 172 = .ok (.aload_n 0, 1) := by decide +kernel
theorem dd_X12_examMany_173 : decode m_X12_examMany.2.1 173 = .ok (.getfield 139, 3) := by decide +kernel
theorem dd_X12_examMany_176 : decode m_X12_examMany.2.1 176 = .ok (.iload_n 2, 1) := by decide +kernel
theorem dd_X12_examMany_177 : decode m_X12_examMany.2.1 177 = .ok (.iaload, 1) := by decide +kernel
theorem dd_X12_examMany_178 : decode m_X12_examMany.2.1 178 = .ok (.aload_n 0, 1) := by decide +kernel
theorem dd_X12_examMany_179 : decode m_X12_examMany.2.1 179 = .ok (.getfield 139, 3) := by decide +kernel
theorem dd_X12_examMany_182 : decode m_X12_examMany.2.1 182 = .ok (.iload_n 3, 1) := by decide +kernel
theorem dd_X12_examMany_183 : decode m_X12_examMany.2.1 183 = .ok (.iaload, 1) := by decide +kernel
theorem dd_X12_examMany_184 : decode m_X12_examMany.2.1 184 = .ok (.invokevirtual 554, 3) := by decide +kernel
theorem dd_X12_examMany_187 : decode m_X12_examMany.2.1 187 = .ok (.ifCond .eq 5, 3) := by decide +kernel
theorem dd_X12_examMany_190 : decode m_X12_examMany.2.1 190 = .ok (.iconst 3, 1) := by decide +kernel
theorem dd_X12_examMany_191 : decode m_X12_examMany.2.1 191 = .ok (.ireturn, 1) := by decide +kernel
theorem dd_X12_examMany_192 : decode m_X12_examMany.2.1 192 = .ok (.iinc 3 1, 3) := by decide +kernel
theorem dd_X12_examMany_195 : decode m_X12_examMany.2.1 195 = .ok (.goto (-57), 3) := by decide +kernel
theorem dd_X12_examMany_198 : decode m_X12_examMany.2.1 198 = .ok (.iinc 2 1, 3) := by decide +kernel
theorem dd_X12_examMany_201 : decode m_X12_examMany.2.1 201 = .ok (.goto (-73), 3) := by decide +kernel
theorem dd_X12_examMany_204 : decode m_X12_examMany.2.1 204 = .ok (.iinc 1 1, 3) := by decide +kernel
theorem dd_X12_examMany_207 : decode m_X12_examMany.2.1 207 = .ok (.goto (-89), 3) := by decide +kernel
theorem dd_X12_examMany_210 : decode m_X12_examMany.2.1 210 = .ok (.iconst (-1), 1) := by decide +kernel
theorem dd_X12_examMany_211 : decode m_X12_examMany.2.1 211 = .ok (.ireturn, 1) := by decide +kernel
def nd_X12_examMany_138  (K118 : Int32 → fz_s → Prop) (K128 : Int32 → Int32 → fz_s → Prop) (K138 : Int32 → Int32 → Int32 → fz_s → Prop) (Q : Int32 → fz_s → Prop) (v1 : Int32) (v2 : Int32) (v3 : Int32) (s : fz_s) : Prop :=
  ((27 ≤ v3 → ∀ x1 : Int32, x1 = v2 + 1 → K128 v1 x1 s) ∧ (¬ 27 ≤ v3 → ∀ s2 : fz_s, s2 = si s 239 (0 : Int32).toNatClampNeg v1 → ∀ s3 : fz_s, s3 = si s2 239 (1 : Int32).toNatClampNeg v2 → ∀ s4 : fz_s, s4 = si s3 239 (2 : Int32).toNatClampNeg v3 → vp_in v1 27 ∧ vp_in v2 27 ∧ vp_in v3 27 ∧ wp_X12_doTell (s4.1 238 v1.toNatClampNeg) (s4.1 238 v2.toNatClampNeg) (s4.1 238 v3.toNatClampNeg) s4 (fun r5 s6 => ((r5 = false → ∀ x7 : Int32, x7 = v3 + 1 → K138 v1 v2 x7 s6) ∧ (r5 = true → Q 3 s6)))))
def lp_X12_examMany_138  (K118 : Int32 → fz_s → Prop) (K128 : Int32 → Int32 → fz_s → Prop) (Q : Int32 → fz_s → Prop) : Nat → Int32 → Int32 → Int32 → fz_s → Prop
  | 0 => fun _ _ _ _ => False
  | n + 1 => nd_X12_examMany_138  K118 K128 (lp_X12_examMany_138  K118 K128 Q n) Q
def nd_X12_examMany_128  (K118 : Int32 → fz_s → Prop) (K128 : Int32 → Int32 → fz_s → Prop) (Q : Int32 → fz_s → Prop) (v1 : Int32) (v2 : Int32) (s : fz_s) : Prop :=
  ((27 ≤ v2 → ∀ x1 : Int32, x1 = v1 + 1 → K118 x1 s) ∧ (¬ 27 ≤ v2 → ∀ x2 : Int32, x2 = (v2 + 1) → lp_X12_examMany_138  K118 K128 Q 2048 v1 v2 x2 s))
def lp_X12_examMany_128  (K118 : Int32 → fz_s → Prop) (Q : Int32 → fz_s → Prop) : Nat → Int32 → Int32 → fz_s → Prop
  | 0 => fun _ _ _ => False
  | n + 1 => nd_X12_examMany_128  K118 (lp_X12_examMany_128  K118 Q n) Q
def nd_X12_examMany_118  (K118 : Int32 → fz_s → Prop) (Q : Int32 → fz_s → Prop) (v1 : Int32) (s : fz_s) : Prop :=
  ((27 ≤ v1 → Q (-1) s) ∧ (¬ 27 ≤ v1 → ∀ x1 : Int32, x1 = (v1 + 1) → lp_X12_examMany_128  K118 Q 2048 v1 x1 s))
def lp_X12_examMany_118   (Q : Int32 → fz_s → Prop) : Nat → Int32 → fz_s → Prop
  | 0 => fun _ _ => False
  | n + 1 => nd_X12_examMany_118  (lp_X12_examMany_118   Q n) Q
def nd_X12_examMany_62  (K52 : Int32 → fz_s → Prop) (K62 : Int32 → Int32 → fz_s → Prop) (Q : Int32 → fz_s → Prop) (v1 : Int32) (v2 : Int32) (s : fz_s) : Prop :=
  ((27 ≤ v2 → ∀ x1 : Int32, x1 = v1 + 1 → K52 x1 s) ∧ (¬ 27 ≤ v2 → ∀ s2 : fz_s, s2 = si s 239 (0 : Int32).toNatClampNeg v1 → ∀ s3 : fz_s, s3 = si s2 239 (1 : Int32).toNatClampNeg v2 → vp_in v1 27 ∧ vp_in v2 27 ∧ wp_X12_doTell (s3.1 238 v1.toNatClampNeg) (s3.1 238 v2.toNatClampNeg) 0 s3 (fun r4 s5 => ((r4 = false → ∀ x6 : Int32, x6 = v2 + 1 → K62 v1 x6 s5) ∧ (r4 = true → Q 2 s5)))))
def lp_X12_examMany_62  (K52 : Int32 → fz_s → Prop) (Q : Int32 → fz_s → Prop) : Nat → Int32 → Int32 → fz_s → Prop
  | 0 => fun _ _ _ => False
  | n + 1 => nd_X12_examMany_62  K52 (lp_X12_examMany_62  K52 Q n) Q
def nd_X12_examMany_52  (K52 : Int32 → fz_s → Prop) (Q : Int32 → fz_s → Prop) (v1 : Int32) (s : fz_s) : Prop :=
  ((27 ≤ v1 → lp_X12_examMany_118   Q 2048 0 s) ∧ (¬ 27 ≤ v1 → ∀ x1 : Int32, x1 = (v1 + 1) → lp_X12_examMany_62  K52 Q 2048 v1 x1 s))
def lp_X12_examMany_52   (Q : Int32 → fz_s → Prop) : Nat → Int32 → fz_s → Prop
  | 0 => fun _ _ => False
  | n + 1 => nd_X12_examMany_52  (lp_X12_examMany_52   Q n) Q
def nd_X12_examMany_14  (K14 : Int32 → fz_s → Prop) (Q : Int32 → fz_s → Prop) (v1 : Int32) (s : fz_s) : Prop :=
  ((27 ≤ v1 → lp_X12_examMany_52   Q 2048 0 s) ∧ (¬ 27 ≤ v1 → ∀ s1 : fz_s, s1 = si s 239 (0 : Int32).toNatClampNeg v1 → vp_in v1 27 ∧ wp_X12_doTell (s1.1 238 v1.toNatClampNeg) 0 0 s1 (fun r2 s3 => ((r2 = false → ∀ x4 : Int32, x4 = v1 + 1 → K14 x4 s3) ∧ (r2 = true → Q 1 s3)))))
def lp_X12_examMany_14   (Q : Int32 → fz_s → Prop) : Nat → Int32 → fz_s → Prop
  | 0 => fun _ _ => False
  | n + 1 => nd_X12_examMany_14  (lp_X12_examMany_14   Q n) Q
def wp_X12_examMany  (s : fz_s) (Q : Int32 → fz_s → Prop) : Prop :=
  wp_X12_doTell 0 0 0 s (fun r1 s2 => ((r1 = false → lp_X12_examMany_14   Q 2048 0 s2) ∧ (r1 = true → Q 0 s2)))
set_option maxRecDepth 100000 in
set_option maxHeartbeats 4000000 in
theorem V_nd_X12_examMany_138 {g : fz_G} {l : Launch} {d : Nat} (hD : 2 ≤ d)   {K118 : Int32 → fz_s → Prop} {K128 : Int32 → Int32 → fz_s → Prop} {K138 : Int32 → Int32 → Int32 → fz_s → Prop} {Q : Int32 → fz_s → Prop} {v1 : Int32} {v2 : Int32} {v3 : Int32} {s : fz_s} (hK118 : ∀ {v1 : Int32} {s : fz_s}, K118 v1 s → fs_V g l m_X12_examMany d false 118 [.ref 196, .int v1, fz_J, fz_J] [] s (rI Q)) (hK128 : ∀ {v1 : Int32} {v2 : Int32} {s : fz_s}, K128 v1 v2 s → fs_V g l m_X12_examMany d false 128 [.ref 196, .int v1, .int v2, fz_J] [] s (rI Q)) (hK138 : ∀ {v1 : Int32} {v2 : Int32} {v3 : Int32} {s : fz_s}, K138 v1 v2 v3 s → fs_V g l m_X12_examMany d false 138 [.ref 196, .int v1, .int v2, .int v3] [] s (rI Q)) (H : nd_X12_examMany_138  K118 K128 K138 Q v1 v2 v3 s) : fs_V g l m_X12_examMany d false 138 [.ref 196, .int v1, .int v2, .int v3] [] s (rI Q) := by
  obtain ⟨d, rfl⟩ : ∃ e, d = e + 1 := ⟨d - 1, by omega⟩
  unfold nd_X12_examMany_138 at H
  refine fs_iload_n (k0 := 3) (i := 3) dd_X12_examMany_138 rfl rfl ?_
  refine fs_bipush (n := 27) (v := 27) dd_X12_examMany_139 (by decide) ?_
  refine fs_icmp_ge (tgt := 198) dd_X12_examMany_141 (by decide) (fun hc => ?_) (fun hc => ?_)
  · replace H := H.1 hc
    refine fs_iincN (i := 2) (m := 1) (c := 1) dd_X12_examMany_198 rfl (by decide) (by decide) (fun x1 hx1 => ?_)
    replace H := H x1 hx1
    refine fs_goto (tgt := 128) dd_X12_examMany_201 (by decide) ?_
    refine fs_weak (ls2 := [.ref 196, .int v1, .int x1, fz_J]) (fz_le_e (fz_le_e (fz_le_e (fz_le_j fz_le_n)))) ?_
    exact hK128 H
  · replace H := H.2 hc
    refine fs_aload_n (k0 := 0) (i := 0) dd_X12_examMany_144 rfl rfl ?_
    refine fs_getr (ci := 12) (j := 65) (q := 239) dd_X12_examMany_145 fl_X12_142 ca_196 rfl (Or.inr ⟨_, rfl⟩) rfl (by decide) ?_
    refine fs_iconst (n := 0) (v := 0) dd_X12_examMany_148 (by decide) ?_
    refine fs_iload_n (k0 := 1) (i := 1) dd_X12_examMany_149 rfl rfl ?_
    refine fs_iast dd_X12_examMany_150 ca_239 (vp_in_nI (n := 0) (by decide) (by decide)) ?_
    refine fs_tops (fun s2 hs2 => ?_)
    replace H := H s2 hs2
    refine fs_aload_n (k0 := 0) (i := 0) dd_X12_examMany_151 rfl rfl ?_
    refine fs_getr (ci := 12) (j := 65) (q := 239) dd_X12_examMany_152 fl_X12_142 ca_196 rfl (Or.inr ⟨_, rfl⟩) rfl (by decide) ?_
    refine fs_iconst (n := 1) (v := 1) dd_X12_examMany_155 (by decide) ?_
    refine fs_iload_n (k0 := 2) (i := 2) dd_X12_examMany_156 rfl rfl ?_
    refine fs_iast dd_X12_examMany_157 ca_239 (vp_in_nI (n := 1) (by decide) (by decide)) ?_
    refine fs_tops (fun s3 hs3 => ?_)
    replace H := H s3 hs3
    refine fs_aload_n (k0 := 0) (i := 0) dd_X12_examMany_158 rfl rfl ?_
    refine fs_getr (ci := 12) (j := 65) (q := 239) dd_X12_examMany_159 fl_X12_142 ca_196 rfl (Or.inr ⟨_, rfl⟩) rfl (by decide) ?_
    refine fs_iconst (n := 2) (v := 2) dd_X12_examMany_162 (by decide) ?_
    refine fs_iload_n (k0 := 3) (i := 3) dd_X12_examMany_163 rfl rfl ?_
    refine fs_iast dd_X12_examMany_164 ca_239 (vp_in_nI (n := 2) (by decide) (by decide)) ?_
    refine fs_tops (fun s4 hs4 => ?_)
    replace H := H s4 hs4
    refine fs_aload_n (k0 := 0) (i := 0) dd_X12_examMany_165 rfl rfl ?_
    refine fs_aload_n (k0 := 0) (i := 0) dd_X12_examMany_166 rfl rfl ?_
    refine fs_getr (ci := 12) (j := 63) (q := 238) dd_X12_examMany_167 fl_X12_139 ca_196 rfl (Or.inr ⟨_, rfl⟩) rfl (by decide) ?_
    refine fs_iload_n (k0 := 1) (i := 1) dd_X12_examMany_170 rfl rfl ?_
    have hb := H.1
    replace H := H.2
    refine fs_iald dd_X12_examMany_171 ca_238 hb ?_
    refine fs_aload_n (k0 := 0) (i := 0) dd_X12_examMany_172 rfl rfl ?_
    refine fs_getr (ci := 12) (j := 63) (q := 238) dd_X12_examMany_173 fl_X12_139 ca_196 rfl (Or.inr ⟨_, rfl⟩) rfl (by decide) ?_
    refine fs_iload_n (k0 := 2) (i := 2) dd_X12_examMany_176 rfl rfl ?_
    have hb := H.1
    replace H := H.2
    refine fs_iald dd_X12_examMany_177 ca_238 hb ?_
    refine fs_aload_n (k0 := 0) (i := 0) dd_X12_examMany_178 rfl rfl ?_
    refine fs_getr (ci := 12) (j := 63) (q := 238) dd_X12_examMany_179 fl_X12_139 ca_196 rfl (Or.inr ⟨_, rfl⟩) rfl (by decide) ?_
    refine fs_iload_n (k0 := 3) (i := 3) dd_X12_examMany_182 rfl rfl ?_
    have hb := H.1
    replace H := H.2
    refine fs_iald dd_X12_examMany_183 ca_238 hb ?_
    refine fs_callV (y := m_X12_doTell) (as := [.int (s4.1 238 v1.toNatClampNeg), .int (s4.1 238 v2.toNatClampNeg), .int (s4.1 238 v3.toNatClampNeg)]) dd_X12_examMany_184 me_X12_doTell lk_X12_554 in_X12_doTell se_X12_doTell ca_196 rfl rfl rfl (Nat.le_of_ble_eq_true rfl) (Nat.le_of_ble_eq_true rfl) rfl (V_X12_doTell (by omega)  H) (k2_Z fun r5 s6 H => ?_)
    refine fs_if_eq (tgt := 192) dd_X12_examMany_187 (by decide) (fun hc => ?_) (fun hc => ?_)
    · replace H := H.1 (bi_0 hc)
      refine fs_iincN (i := 3) (m := 1) (c := 1) dd_X12_examMany_192 rfl (by decide) (by decide) (fun x7 hx7 => ?_)
      replace H := H x7 hx7
      refine fs_goto (tgt := 138) dd_X12_examMany_195 (by decide) ?_
      refine fs_weak (ls2 := [.ref 196, .int v1, .int v2, .int x7]) (fz_le_e (fz_le_e (fz_le_e (fz_le_e fz_le_n)))) ?_
      exact hK138 H
    · replace H := H.2 (bi_1 hc)
      refine fs_iconst (n := 3) (v := 3) dd_X12_examMany_190 (by decide) ?_
      exact fs_iret dd_X12_examMany_191 rfl H
set_option maxRecDepth 100000 in
set_option maxHeartbeats 4000000 in
theorem V_lp_X12_examMany_138 {g : fz_G} {l : Launch} {d : Nat} (hD : 2 ≤ d)   {K118 : Int32 → fz_s → Prop} {K128 : Int32 → Int32 → fz_s → Prop} {Q : Int32 → fz_s → Prop} (hK118 : ∀ {v1 : Int32} {s : fz_s}, K118 v1 s → fs_V g l m_X12_examMany d false 118 [.ref 196, .int v1, fz_J, fz_J] [] s (rI Q)) (hK128 : ∀ {v1 : Int32} {v2 : Int32} {s : fz_s}, K128 v1 v2 s → fs_V g l m_X12_examMany d false 128 [.ref 196, .int v1, .int v2, fz_J] [] s (rI Q)) (n : Nat) : ∀ {v1 : Int32} {v2 : Int32} {v3 : Int32} {s : fz_s}, lp_X12_examMany_138  K118 K128 Q n v1 v2 v3 s → fs_V g l m_X12_examMany d false 138 [.ref 196, .int v1, .int v2, .int v3] [] s (rI Q) := by
  induction n with
  | zero => intro v1 v2 v3 s H; exact H.elim
  | succ n ih => intro v1 v2 v3 s H; exact V_nd_X12_examMany_138 hD  hK118 hK128 (fun H => ih H) H
set_option maxRecDepth 100000 in
set_option maxHeartbeats 4000000 in
theorem V_nd_X12_examMany_128 {g : fz_G} {l : Launch} {d : Nat} (hD : 2 ≤ d)   {K118 : Int32 → fz_s → Prop} {K128 : Int32 → Int32 → fz_s → Prop} {Q : Int32 → fz_s → Prop} {v1 : Int32} {v2 : Int32} {s : fz_s} (hK118 : ∀ {v1 : Int32} {s : fz_s}, K118 v1 s → fs_V g l m_X12_examMany d false 118 [.ref 196, .int v1, fz_J, fz_J] [] s (rI Q)) (hK128 : ∀ {v1 : Int32} {v2 : Int32} {s : fz_s}, K128 v1 v2 s → fs_V g l m_X12_examMany d false 128 [.ref 196, .int v1, .int v2, fz_J] [] s (rI Q)) (H : nd_X12_examMany_128  K118 K128 Q v1 v2 s) : fs_V g l m_X12_examMany d false 128 [.ref 196, .int v1, .int v2, fz_J] [] s (rI Q) := by
  obtain ⟨d, rfl⟩ : ∃ e, d = e + 1 := ⟨d - 1, by omega⟩
  unfold nd_X12_examMany_128 at H
  refine fs_iload_n (k0 := 2) (i := 2) dd_X12_examMany_128 rfl rfl ?_
  refine fs_bipush (n := 27) (v := 27) dd_X12_examMany_129 (by decide) ?_
  refine fs_icmp_ge (tgt := 204) dd_X12_examMany_131 (by decide) (fun hc => ?_) (fun hc => ?_)
  · replace H := H.1 hc
    refine fs_iincN (i := 1) (m := 1) (c := 1) dd_X12_examMany_204 rfl (by decide) (by decide) (fun x1 hx1 => ?_)
    replace H := H x1 hx1
    refine fs_goto (tgt := 118) dd_X12_examMany_207 (by decide) ?_
    refine fs_weak (ls2 := [.ref 196, .int x1, fz_J, fz_J]) (fz_le_e (fz_le_e (fz_le_j (fz_le_j fz_le_n)))) ?_
    exact hK118 H
  · replace H := H.2 hc
    refine fs_iload_n (k0 := 2) (i := 2) dd_X12_examMany_134 rfl rfl ?_
    refine fs_iconst (n := 1) (v := 1) dd_X12_examMany_135 (by decide) ?_
    refine fs_iadd dd_X12_examMany_136 ?_
    refine fs_topi (fun x2 hx2 => ?_)
    replace H := H x2 hx2
    refine fs_istore_n (k0 := 3) (i := 3) dd_X12_examMany_137 rfl (by decide) ?_
    refine fs_weak (ls2 := [.ref 196, .int v1, .int v2, .int x2]) (fz_le_e (fz_le_e (fz_le_e (fz_le_e fz_le_n)))) ?_
    exact V_lp_X12_examMany_138 hD   hK118 hK128 2048 H
set_option maxRecDepth 100000 in
set_option maxHeartbeats 4000000 in
theorem V_lp_X12_examMany_128 {g : fz_G} {l : Launch} {d : Nat} (hD : 2 ≤ d)   {K118 : Int32 → fz_s → Prop} {Q : Int32 → fz_s → Prop} (hK118 : ∀ {v1 : Int32} {s : fz_s}, K118 v1 s → fs_V g l m_X12_examMany d false 118 [.ref 196, .int v1, fz_J, fz_J] [] s (rI Q)) (n : Nat) : ∀ {v1 : Int32} {v2 : Int32} {s : fz_s}, lp_X12_examMany_128  K118 Q n v1 v2 s → fs_V g l m_X12_examMany d false 128 [.ref 196, .int v1, .int v2, fz_J] [] s (rI Q) := by
  induction n with
  | zero => intro v1 v2 s H; exact H.elim
  | succ n ih => intro v1 v2 s H; exact V_nd_X12_examMany_128 hD  hK118 (fun H => ih H) H
set_option maxRecDepth 100000 in
set_option maxHeartbeats 4000000 in
theorem V_nd_X12_examMany_118 {g : fz_G} {l : Launch} {d : Nat} (hD : 2 ≤ d)   {K118 : Int32 → fz_s → Prop} {Q : Int32 → fz_s → Prop} {v1 : Int32} {s : fz_s} (hK118 : ∀ {v1 : Int32} {s : fz_s}, K118 v1 s → fs_V g l m_X12_examMany d false 118 [.ref 196, .int v1, fz_J, fz_J] [] s (rI Q)) (H : nd_X12_examMany_118  K118 Q v1 s) : fs_V g l m_X12_examMany d false 118 [.ref 196, .int v1, fz_J, fz_J] [] s (rI Q) := by
  obtain ⟨d, rfl⟩ : ∃ e, d = e + 1 := ⟨d - 1, by omega⟩
  unfold nd_X12_examMany_118 at H
  refine fs_iload_n (k0 := 1) (i := 1) dd_X12_examMany_118 rfl rfl ?_
  refine fs_bipush (n := 27) (v := 27) dd_X12_examMany_119 (by decide) ?_
  refine fs_icmp_ge (tgt := 210) dd_X12_examMany_121 (by decide) (fun hc => ?_) (fun hc => ?_)
  · replace H := H.1 hc
    refine fs_iconst (n := -1) (v := -1) dd_X12_examMany_210 (by decide) ?_
    exact fs_iret dd_X12_examMany_211 rfl H
  · replace H := H.2 hc
    refine fs_iload_n (k0 := 1) (i := 1) dd_X12_examMany_124 rfl rfl ?_
    refine fs_iconst (n := 1) (v := 1) dd_X12_examMany_125 (by decide) ?_
    refine fs_iadd dd_X12_examMany_126 ?_
    refine fs_topi (fun x1 hx1 => ?_)
    replace H := H x1 hx1
    refine fs_istore_n (k0 := 2) (i := 2) dd_X12_examMany_127 rfl (by decide) ?_
    refine fs_weak (ls2 := [.ref 196, .int v1, .int x1, fz_J]) (fz_le_e (fz_le_e (fz_le_e (fz_le_j fz_le_n)))) ?_
    exact V_lp_X12_examMany_128 hD   hK118 2048 H
set_option maxRecDepth 100000 in
set_option maxHeartbeats 4000000 in
theorem V_lp_X12_examMany_118 {g : fz_G} {l : Launch} {d : Nat} (hD : 2 ≤ d)    {Q : Int32 → fz_s → Prop}  (n : Nat) : ∀ {v1 : Int32} {s : fz_s}, lp_X12_examMany_118   Q n v1 s → fs_V g l m_X12_examMany d false 118 [.ref 196, .int v1, fz_J, fz_J] [] s (rI Q) := by
  induction n with
  | zero => intro v1 s H; exact H.elim
  | succ n ih => intro v1 s H; exact V_nd_X12_examMany_118 hD  (fun H => ih H) H
set_option maxRecDepth 100000 in
set_option maxHeartbeats 4000000 in
theorem V_nd_X12_examMany_62 {g : fz_G} {l : Launch} {d : Nat} (hD : 2 ≤ d)   {K52 : Int32 → fz_s → Prop} {K62 : Int32 → Int32 → fz_s → Prop} {Q : Int32 → fz_s → Prop} {v1 : Int32} {v2 : Int32} {s : fz_s} (hK52 : ∀ {v1 : Int32} {s : fz_s}, K52 v1 s → fs_V g l m_X12_examMany d false 52 [.ref 196, .int v1, fz_J, fz_J] [] s (rI Q)) (hK62 : ∀ {v1 : Int32} {v2 : Int32} {s : fz_s}, K62 v1 v2 s → fs_V g l m_X12_examMany d false 62 [.ref 196, .int v1, .int v2, fz_J] [] s (rI Q)) (H : nd_X12_examMany_62  K52 K62 Q v1 v2 s) : fs_V g l m_X12_examMany d false 62 [.ref 196, .int v1, .int v2, fz_J] [] s (rI Q) := by
  obtain ⟨d, rfl⟩ : ∃ e, d = e + 1 := ⟨d - 1, by omega⟩
  unfold nd_X12_examMany_62 at H
  refine fs_iload_n (k0 := 2) (i := 2) dd_X12_examMany_62 rfl rfl ?_
  refine fs_bipush (n := 27) (v := 27) dd_X12_examMany_63 (by decide) ?_
  refine fs_icmp_ge (tgt := 110) dd_X12_examMany_65 (by decide) (fun hc => ?_) (fun hc => ?_)
  · replace H := H.1 hc
    refine fs_iincN (i := 1) (m := 1) (c := 1) dd_X12_examMany_110 rfl (by decide) (by decide) (fun x1 hx1 => ?_)
    replace H := H x1 hx1
    refine fs_goto (tgt := 52) dd_X12_examMany_113 (by decide) ?_
    refine fs_weak (ls2 := [.ref 196, .int x1, fz_J, fz_J]) (fz_le_e (fz_le_e (fz_le_j (fz_le_j fz_le_n)))) ?_
    exact hK52 H
  · replace H := H.2 hc
    refine fs_aload_n (k0 := 0) (i := 0) dd_X12_examMany_68 rfl rfl ?_
    refine fs_getr (ci := 12) (j := 65) (q := 239) dd_X12_examMany_69 fl_X12_142 ca_196 rfl (Or.inr ⟨_, rfl⟩) rfl (by decide) ?_
    refine fs_iconst (n := 0) (v := 0) dd_X12_examMany_72 (by decide) ?_
    refine fs_iload_n (k0 := 1) (i := 1) dd_X12_examMany_73 rfl rfl ?_
    refine fs_iast dd_X12_examMany_74 ca_239 (vp_in_nI (n := 0) (by decide) (by decide)) ?_
    refine fs_tops (fun s2 hs2 => ?_)
    replace H := H s2 hs2
    refine fs_aload_n (k0 := 0) (i := 0) dd_X12_examMany_75 rfl rfl ?_
    refine fs_getr (ci := 12) (j := 65) (q := 239) dd_X12_examMany_76 fl_X12_142 ca_196 rfl (Or.inr ⟨_, rfl⟩) rfl (by decide) ?_
    refine fs_iconst (n := 1) (v := 1) dd_X12_examMany_79 (by decide) ?_
    refine fs_iload_n (k0 := 2) (i := 2) dd_X12_examMany_80 rfl rfl ?_
    refine fs_iast dd_X12_examMany_81 ca_239 (vp_in_nI (n := 1) (by decide) (by decide)) ?_
    refine fs_tops (fun s3 hs3 => ?_)
    replace H := H s3 hs3
    refine fs_aload_n (k0 := 0) (i := 0) dd_X12_examMany_82 rfl rfl ?_
    refine fs_aload_n (k0 := 0) (i := 0) dd_X12_examMany_83 rfl rfl ?_
    refine fs_getr (ci := 12) (j := 63) (q := 238) dd_X12_examMany_84 fl_X12_139 ca_196 rfl (Or.inr ⟨_, rfl⟩) rfl (by decide) ?_
    refine fs_iload_n (k0 := 1) (i := 1) dd_X12_examMany_87 rfl rfl ?_
    have hb := H.1
    replace H := H.2
    refine fs_iald dd_X12_examMany_88 ca_238 hb ?_
    refine fs_aload_n (k0 := 0) (i := 0) dd_X12_examMany_89 rfl rfl ?_
    refine fs_getr (ci := 12) (j := 63) (q := 238) dd_X12_examMany_90 fl_X12_139 ca_196 rfl (Or.inr ⟨_, rfl⟩) rfl (by decide) ?_
    refine fs_iload_n (k0 := 2) (i := 2) dd_X12_examMany_93 rfl rfl ?_
    have hb := H.1
    replace H := H.2
    refine fs_iald dd_X12_examMany_94 ca_238 hb ?_
    refine fs_iconst (n := 0) (v := 0) dd_X12_examMany_95 (by decide) ?_
    refine fs_callV (y := m_X12_doTell) (as := [.int (s3.1 238 v1.toNatClampNeg), .int (s3.1 238 v2.toNatClampNeg), .int 0]) dd_X12_examMany_96 me_X12_doTell lk_X12_554 in_X12_doTell se_X12_doTell ca_196 rfl rfl rfl (Nat.le_of_ble_eq_true rfl) (Nat.le_of_ble_eq_true rfl) rfl (V_X12_doTell (by omega)  H) (k2_Z fun r4 s5 H => ?_)
    refine fs_if_eq (tgt := 104) dd_X12_examMany_99 (by decide) (fun hc => ?_) (fun hc => ?_)
    · replace H := H.1 (bi_0 hc)
      refine fs_iincN (i := 2) (m := 1) (c := 1) dd_X12_examMany_104 rfl (by decide) (by decide) (fun x6 hx6 => ?_)
      replace H := H x6 hx6
      refine fs_goto (tgt := 62) dd_X12_examMany_107 (by decide) ?_
      refine fs_weak (ls2 := [.ref 196, .int v1, .int x6, fz_J]) (fz_le_e (fz_le_e (fz_le_e (fz_le_j fz_le_n)))) ?_
      exact hK62 H
    · replace H := H.2 (bi_1 hc)
      refine fs_iconst (n := 2) (v := 2) dd_X12_examMany_102 (by decide) ?_
      exact fs_iret dd_X12_examMany_103 rfl H
set_option maxRecDepth 100000 in
set_option maxHeartbeats 4000000 in
theorem V_lp_X12_examMany_62 {g : fz_G} {l : Launch} {d : Nat} (hD : 2 ≤ d)   {K52 : Int32 → fz_s → Prop} {Q : Int32 → fz_s → Prop} (hK52 : ∀ {v1 : Int32} {s : fz_s}, K52 v1 s → fs_V g l m_X12_examMany d false 52 [.ref 196, .int v1, fz_J, fz_J] [] s (rI Q)) (n : Nat) : ∀ {v1 : Int32} {v2 : Int32} {s : fz_s}, lp_X12_examMany_62  K52 Q n v1 v2 s → fs_V g l m_X12_examMany d false 62 [.ref 196, .int v1, .int v2, fz_J] [] s (rI Q) := by
  induction n with
  | zero => intro v1 v2 s H; exact H.elim
  | succ n ih => intro v1 v2 s H; exact V_nd_X12_examMany_62 hD  hK52 (fun H => ih H) H
set_option maxRecDepth 100000 in
set_option maxHeartbeats 4000000 in
theorem V_nd_X12_examMany_52 {g : fz_G} {l : Launch} {d : Nat} (hD : 2 ≤ d)   {K52 : Int32 → fz_s → Prop} {Q : Int32 → fz_s → Prop} {v1 : Int32} {s : fz_s} (hK52 : ∀ {v1 : Int32} {s : fz_s}, K52 v1 s → fs_V g l m_X12_examMany d false 52 [.ref 196, .int v1, fz_J, fz_J] [] s (rI Q)) (H : nd_X12_examMany_52  K52 Q v1 s) : fs_V g l m_X12_examMany d false 52 [.ref 196, .int v1, fz_J, fz_J] [] s (rI Q) := by
  obtain ⟨d, rfl⟩ : ∃ e, d = e + 1 := ⟨d - 1, by omega⟩
  unfold nd_X12_examMany_52 at H
  refine fs_iload_n (k0 := 1) (i := 1) dd_X12_examMany_52 rfl rfl ?_
  refine fs_bipush (n := 27) (v := 27) dd_X12_examMany_53 (by decide) ?_
  refine fs_icmp_ge (tgt := 116) dd_X12_examMany_55 (by decide) (fun hc => ?_) (fun hc => ?_)
  · replace H := H.1 hc
    refine fs_iconst (n := 0) (v := 0) dd_X12_examMany_116 (by decide) ?_
    refine fs_istore_n (k0 := 1) (i := 1) dd_X12_examMany_117 rfl (by decide) ?_
    refine fs_weak (ls2 := [.ref 196, .int 0, fz_J, fz_J]) (fz_le_e (fz_le_e (fz_le_j (fz_le_j fz_le_n)))) ?_
    exact V_lp_X12_examMany_118 hD    2048 H
  · replace H := H.2 hc
    refine fs_iload_n (k0 := 1) (i := 1) dd_X12_examMany_58 rfl rfl ?_
    refine fs_iconst (n := 1) (v := 1) dd_X12_examMany_59 (by decide) ?_
    refine fs_iadd dd_X12_examMany_60 ?_
    refine fs_topi (fun x1 hx1 => ?_)
    replace H := H x1 hx1
    refine fs_istore_n (k0 := 2) (i := 2) dd_X12_examMany_61 rfl (by decide) ?_
    refine fs_weak (ls2 := [.ref 196, .int v1, .int x1, fz_J]) (fz_le_e (fz_le_e (fz_le_e (fz_le_j fz_le_n)))) ?_
    exact V_lp_X12_examMany_62 hD   hK52 2048 H
set_option maxRecDepth 100000 in
set_option maxHeartbeats 4000000 in
theorem V_lp_X12_examMany_52 {g : fz_G} {l : Launch} {d : Nat} (hD : 2 ≤ d)    {Q : Int32 → fz_s → Prop}  (n : Nat) : ∀ {v1 : Int32} {s : fz_s}, lp_X12_examMany_52   Q n v1 s → fs_V g l m_X12_examMany d false 52 [.ref 196, .int v1, fz_J, fz_J] [] s (rI Q) := by
  induction n with
  | zero => intro v1 s H; exact H.elim
  | succ n ih => intro v1 s H; exact V_nd_X12_examMany_52 hD  (fun H => ih H) H
set_option maxRecDepth 100000 in
set_option maxHeartbeats 4000000 in
theorem V_nd_X12_examMany_14 {g : fz_G} {l : Launch} {d : Nat} (hD : 2 ≤ d)   {K14 : Int32 → fz_s → Prop} {Q : Int32 → fz_s → Prop} {v1 : Int32} {s : fz_s} (hK14 : ∀ {v1 : Int32} {s : fz_s}, K14 v1 s → fs_V g l m_X12_examMany d false 14 [.ref 196, .int v1, fz_J, fz_J] [] s (rI Q)) (H : nd_X12_examMany_14  K14 Q v1 s) : fs_V g l m_X12_examMany d false 14 [.ref 196, .int v1, fz_J, fz_J] [] s (rI Q) := by
  obtain ⟨d, rfl⟩ : ∃ e, d = e + 1 := ⟨d - 1, by omega⟩
  unfold nd_X12_examMany_14 at H
  refine fs_iload_n (k0 := 1) (i := 1) dd_X12_examMany_14 rfl rfl ?_
  refine fs_bipush (n := 27) (v := 27) dd_X12_examMany_15 (by decide) ?_
  refine fs_icmp_ge (tgt := 50) dd_X12_examMany_17 (by decide) (fun hc => ?_) (fun hc => ?_)
  · replace H := H.1 hc
    refine fs_iconst (n := 0) (v := 0) dd_X12_examMany_50 (by decide) ?_
    refine fs_istore_n (k0 := 1) (i := 1) dd_X12_examMany_51 rfl (by decide) ?_
    refine fs_weak (ls2 := [.ref 196, .int 0, fz_J, fz_J]) (fz_le_e (fz_le_e (fz_le_j (fz_le_j fz_le_n)))) ?_
    exact V_lp_X12_examMany_52 hD    2048 H
  · replace H := H.2 hc
    refine fs_aload_n (k0 := 0) (i := 0) dd_X12_examMany_20 rfl rfl ?_
    refine fs_getr (ci := 12) (j := 65) (q := 239) dd_X12_examMany_21 fl_X12_142 ca_196 rfl (Or.inr ⟨_, rfl⟩) rfl (by decide) ?_
    refine fs_iconst (n := 0) (v := 0) dd_X12_examMany_24 (by decide) ?_
    refine fs_iload_n (k0 := 1) (i := 1) dd_X12_examMany_25 rfl rfl ?_
    refine fs_iast dd_X12_examMany_26 ca_239 (vp_in_nI (n := 0) (by decide) (by decide)) ?_
    refine fs_tops (fun s1 hs1 => ?_)
    replace H := H s1 hs1
    refine fs_aload_n (k0 := 0) (i := 0) dd_X12_examMany_27 rfl rfl ?_
    refine fs_aload_n (k0 := 0) (i := 0) dd_X12_examMany_28 rfl rfl ?_
    refine fs_getr (ci := 12) (j := 63) (q := 238) dd_X12_examMany_29 fl_X12_139 ca_196 rfl (Or.inr ⟨_, rfl⟩) rfl (by decide) ?_
    refine fs_iload_n (k0 := 1) (i := 1) dd_X12_examMany_32 rfl rfl ?_
    have hb := H.1
    replace H := H.2
    refine fs_iald dd_X12_examMany_33 ca_238 hb ?_
    refine fs_iconst (n := 0) (v := 0) dd_X12_examMany_34 (by decide) ?_
    refine fs_iconst (n := 0) (v := 0) dd_X12_examMany_35 (by decide) ?_
    refine fs_callV (y := m_X12_doTell) (as := [.int (s1.1 238 v1.toNatClampNeg), .int 0, .int 0]) dd_X12_examMany_36 me_X12_doTell lk_X12_554 in_X12_doTell se_X12_doTell ca_196 rfl rfl rfl (Nat.le_of_ble_eq_true rfl) (Nat.le_of_ble_eq_true rfl) rfl (V_X12_doTell (by omega)  H) (k2_Z fun r2 s3 H => ?_)
    refine fs_if_eq (tgt := 44) dd_X12_examMany_39 (by decide) (fun hc => ?_) (fun hc => ?_)
    · replace H := H.1 (bi_0 hc)
      refine fs_iincN (i := 1) (m := 1) (c := 1) dd_X12_examMany_44 rfl (by decide) (by decide) (fun x4 hx4 => ?_)
      replace H := H x4 hx4
      refine fs_goto (tgt := 14) dd_X12_examMany_47 (by decide) ?_
      refine fs_weak (ls2 := [.ref 196, .int x4, fz_J, fz_J]) (fz_le_e (fz_le_e (fz_le_j (fz_le_j fz_le_n)))) ?_
      exact hK14 H
    · replace H := H.2 (bi_1 hc)
      refine fs_iconst (n := 1) (v := 1) dd_X12_examMany_42 (by decide) ?_
      exact fs_iret dd_X12_examMany_43 rfl H
set_option maxRecDepth 100000 in
set_option maxHeartbeats 4000000 in
theorem V_lp_X12_examMany_14 {g : fz_G} {l : Launch} {d : Nat} (hD : 2 ≤ d)    {Q : Int32 → fz_s → Prop}  (n : Nat) : ∀ {v1 : Int32} {s : fz_s}, lp_X12_examMany_14   Q n v1 s → fs_V g l m_X12_examMany d false 14 [.ref 196, .int v1, fz_J, fz_J] [] s (rI Q) := by
  induction n with
  | zero => intro v1 s H; exact H.elim
  | succ n ih => intro v1 s H; exact V_nd_X12_examMany_14 hD  (fun H => ih H) H
set_option maxRecDepth 100000 in
set_option maxHeartbeats 4000000 in
theorem V_X12_examMany {g : fz_G} {l : Launch} {d : Nat} (hD : 2 ≤ d)   {s : fz_s} {Q : Int32 → fz_s → Prop} (H : wp_X12_examMany  s Q) : fs_V g l m_X12_examMany d false 0 (fz_en [.ref 196] 4) [] s (rI Q) := by
  obtain ⟨d, rfl⟩ : ∃ e, d = e + 1 := ⟨d - 1, by omega⟩
  unfold wp_X12_examMany at H
  refine fs_aload_n (k0 := 0) (i := 0) dd_X12_examMany_0 rfl rfl ?_
  refine fs_iconst (n := 0) (v := 0) dd_X12_examMany_1 (by decide) ?_
  refine fs_iconst (n := 0) (v := 0) dd_X12_examMany_2 (by decide) ?_
  refine fs_iconst (n := 0) (v := 0) dd_X12_examMany_3 (by decide) ?_
  refine fs_callV (y := m_X12_doTell) (as := [.int 0, .int 0, .int 0]) dd_X12_examMany_4 me_X12_doTell lk_X12_554 in_X12_doTell se_X12_doTell ca_196 rfl rfl rfl (Nat.le_of_ble_eq_true rfl) (Nat.le_of_ble_eq_true rfl) rfl (V_X12_doTell (by omega)  H) (k2_Z fun r1 s2 H => ?_)
  refine fs_if_eq (tgt := 12) dd_X12_examMany_7 (by decide) (fun hc => ?_) (fun hc => ?_)
  · replace H := H.1 (bi_0 hc)
    refine fs_iconst (n := 0) (v := 0) dd_X12_examMany_12 (by decide) ?_
    refine fs_istore_n (k0 := 1) (i := 1) dd_X12_examMany_13 rfl (by decide) ?_
    refine fs_weak (ls2 := [.ref 196, .int 0, fz_J, fz_J]) (fz_le_e (fz_le_e (fz_le_j (fz_le_j fz_le_n)))) ?_
    exact V_lp_X12_examMany_14 hD    2048 H
  · replace H := H.2 (bi_1 hc)
    refine fs_iconst (n := 0) (v := 0) dd_X12_examMany_10 (by decide) ?_
    exact fs_iret dd_X12_examMany_11 rfl H
theorem dd_X12_exam_0 : decode m_X12_exam.2.1 0 = .ok (.aload_n 0, 1) := by decide +kernel
theorem dd_X12_exam_1 : decode m_X12_exam.2.1 1 = .ok (.getfield 386, 3) := by decide +kernel
theorem dd_X12_exam_4 : decode m_X12_exam.2.1 4 = .ok (.ifCond .eq 17, 3) := by decide +kernel
theorem dd_X12_exam_7 : decode m_X12_exam.2.1 7 = .ok (.iload_n 1, 1) := by decide +kernel
theorem dd_X12_exam_8 : decode m_X12_exam.2.1 8 = .ok (.i2l, 1) := by decide +kernel
theorem dd_X12_exam_9 : decode m_X12_exam.2.1 9 = .ok (.ldc2_w 557, 3) := by decide +kernel
theorem dd_X12_exam_12 : decode m_X12_exam.2.1 12 = .ok (.ldc2_w 523, 3) := by decide +kernel
theorem dd_X12_exam_15 : decode m_X12_exam.2.1 15 = .ok (.invokestatic 295, 3) := by decide +kernel
theorem dd_X12_exam_18 : decode m_X12_exam.2.1 18 = .ok (.ifCond .ne 5, 3) := by decide +kernel
theorem dd_X12_exam_21 : decode m_X12_exam.2.1 21 = .ok (.iconst (-1), 1) := by decide +kernel
theorem dd_X12_exam_22 : decode m_X12_exam.2.1 22 = .ok (.ireturn, 1) := by decide +kernel
theorem dd_X12_exam_23 : decode m_X12_exam.2.1 23 = .ok (.aload_n 0, 1) := by decide +kernel
theorem dd_X12_exam_24 : decode m_X12_exam.2.1 24 = .ok (.invokevirtual 559, 3) := by decide +kernel
theorem dd_X12_exam_27 : decode m_X12_exam.2.1 27 = .ok (.aload_n 0, 1) := by decide +kernel
theorem dd_X12_exam_28 : decode m_X12_exam.2.1 28 = .ok (.invokevirtual 562, 3) := by decide +kernel
theorem dd_X12_exam_31 : decode m_X12_exam.2.1 31 = .ok (.istore_n 2, 1) := by decide +kernel
theorem dd_X12_exam_32 : decode m_X12_exam.2.1 32 = .ok (.iload_n 1, 1) := by decide +kernel
theorem dd_X12_exam_33 : decode m_X12_exam.2.1 33 = .ok (.iconst (-1), 1) := by decide +kernel
theorem dd_X12_exam_34 : decode m_X12_exam.2.1 34 = .ok (.if_icmp .eq 8, 3) := by decide +kernel
theorem dd_X12_exam_37 : decode m_X12_exam.2.1 37 = .ok (.iload_n 2, 1) := by decide +kernel
theorem dd_X12_exam_38 : decode m_X12_exam.2.1 38 = .ok (.iconst (-1), 1) := by decide +kernel
theorem dd_X12_exam_39 : decode m_X12_exam.2.1 39 = .ok (.if_icmp .ne 5, 3) := by decide +kernel
theorem dd_X12_exam_42 : decode m_X12_exam.2.1 42 = .ok (.iload_n 2, 1) := by decide +kernel
theorem dd_X12_exam_43 : decode m_X12_exam.2.1 43 = .ok (.ireturn, 1) := by decide +kernel
theorem dd_X12_exam_44 : decode m_X12_exam.2.1 44 = .ok (.iload_n 1, 1) := by decide +kernel
theorem dd_X12_exam_45 : decode m_X12_exam.2.1 45 = .ok (.iload_n 2, 1) := by decide +kernel
theorem dd_X12_exam_46 : decode m_X12_exam.2.1 46 = .ok (.if_icmp .lt 7, 3) := by decide +kernel
theorem dd_X12_exam_49 : decode m_X12_exam.2.1 49 = .ok (.iconst (-1), 1) := by decide +kernel
theorem dd_X12_exam_50 : decode m_X12_exam.2.1 50 = .ok (.goto 27, 3) := by decide +kernel
theorem dd_X12_exam_53 : decode m_X12_exam.2.1 53 = .ok (.bipush 10, 2) := by decide +kernel
theorem dd_X12_exam_55 : decode m_X12_exam.2.1 55 = .ok (.aload_n 0, 1) := by decide +kernel
theorem dd_X12_exam_56 : decode m_X12_exam.2.1 56 = .ok (.getfield 142, 3) := by decide +kernel
theorem dd_X12_exam_59 : decode m_X12_exam.2.1 59 = .ok (.iload_n 1, 1) := by decide +kernel
theorem dd_X12_exam_60 : decode m_X12_exam.2.1 60 = .ok (.iaload, 1) := by decide +kernel
theorem dd_X12_exam_61 : decode m_X12_exam.2.1 61 = .ok (.bipush 9, 2) := by decide +kernel
theorem dd_X12_exam_63 : decode m_X12_exam.2.1 63 = .ok (.idiv, 1) := by decide +kernel
theorem dd_X12_exam_64 : decode m_X12_exam.2.1 64 = .ok (.imul, 1) := by decide +kernel
theorem dd_X12_exam_65 : decode m_X12_exam.2.1 65 = .ok (.aload_n 0, 1) := by decide +kernel
theorem dd_X12_exam_66 : decode m_X12_exam.2.1 66 = .ok (.getfield 142, 3) := by decide +kernel
theorem dd_X12_exam_69 : decode m_X12_exam.2.1 69 = .ok (.iload_n 1, 1) := by decide +kernel
theorem dd_X12_exam_70 : decode m_X12_exam.2.1 70 = .ok (.iaload, 1) := by decide +kernel
theorem dd_X12_exam_71 : decode m_X12_exam.2.1 71 = .ok (.bipush 9, 2) := by decide +kernel
theorem dd_X12_exam_73 : decode m_X12_exam.2.1 73 = .ok (.irem, 1) := by decide +kernel
theorem dd_X12_exam_74 : decode m_X12_exam.2.1 74 = .ok (.iadd, 1) := by decide +kernel
theorem dd_X12_exam_75 : decode m_X12_exam.2.1 75 = .ok (.iconst 1, 1) := by decide +kernel
theorem dd_X12_exam_76 : decode m_X12_exam.2.1 76 = .ok (.iadd, 1) := by decide +kernel
theorem dd_X12_exam_77 : decode m_X12_exam.2.1 77 = .ok (.ireturn, 1) := by decide +kernel
def wp_X12_exam (p0 : Int32) (s : fz_s) (Q : Int32 → fz_s → Prop) : Prop :=
  (((s.1 196 52) = 0 → Q (-1) s) ∧ (¬ (s.1 196 52) = 0 → wp_X12_isIn p0.toInt64 (-1) 2 s (fun r1 s2 => ((r1 = true → wp_X12_laysYes  s2 (fun s4 => wp_X12_examMany  s4 (fun r5 s6 => ((p0 = (-1) → Q r5 s6) ∧ (¬ p0 = (-1) → ((¬ r5 = (-1) → ((p0 < r5 → vp_in p0 3 ∧ vp_in p0 3 ∧ Q (((10 * ((s6.1 239 p0.toNatClampNeg) / 9)) + ((s6.1 239 p0.toNatClampNeg) - (s6.1 239 p0.toNatClampNeg) / 9 * 9)) + 1) s6) ∧ (¬ p0 < r5 → Q (-1) s6))) ∧ (r5 = (-1) → Q r5 s6))))))) ∧ (r1 = false → Q (-1) s2)))))
set_option maxRecDepth 100000 in
set_option maxHeartbeats 4000000 in
theorem V_X12_exam {g : fz_G} {l : Launch} {d : Nat} (hD : 7 ≤ d) {p0 : Int32}  {s : fz_s} {Q : Int32 → fz_s → Prop} (H : wp_X12_exam p0 s Q) : fs_V g l m_X12_exam d false 0 (fz_en [.ref 196, .int p0] 3) [] s (rI Q) := by
  obtain ⟨d, rfl⟩ : ∃ e, d = e + 1 := ⟨d - 1, by omega⟩
  unfold wp_X12_exam at H
  refine fs_aload_n (k0 := 0) (i := 0) dd_X12_exam_0 rfl rfl ?_
  refine fs_geti (ci := 12) (j := 52) dd_X12_exam_1 fl_X12_386 ca_196 rfl (Or.inr rfl) ?_
  refine fs_if_eq (tgt := 21) dd_X12_exam_4 (by decide) (fun hc => ?_) (fun hc => ?_)
  · replace H := H.1 hc
    refine fs_iconst (n := -1) (v := -1) dd_X12_exam_21 (by decide) ?_
    exact fs_iret dd_X12_exam_22 rfl H
  · replace H := H.2 hc
    refine fs_iload_n (k0 := 1) (i := 1) dd_X12_exam_7 rfl rfl ?_
    refine fs_i2l dd_X12_exam_8 ?_
    refine fs_ldc2 (idx := 557) (v := -1) dd_X12_exam_9 cl_X12_557 ?_
    refine fs_ldc2 (idx := 523) (v := 2) dd_X12_exam_12 cl_X12_523 ?_
    refine fs_callS (y := m_X12_isIn) (as := [.long p0.toInt64, .long (-1), .long 2]) dd_X12_exam_15 me_X12_isIn (Or.inl lk_X12_295) st_X12_isIn rfl (Nat.le_of_ble_eq_true rfl) (Nat.le_of_ble_eq_true rfl) rfl (V_X12_isIn (by omega)  H) (k2_Z fun r1 s2 H => ?_)
    refine fs_if_ne (tgt := 23) dd_X12_exam_18 (by decide) (fun hc => ?_) (fun hc => ?_)
    · replace H := H.1 (bi_1 hc)
      refine fs_aload_n (k0 := 0) (i := 0) dd_X12_exam_23 rfl rfl ?_
      refine fs_callV (y := m_X12_laysYes) (as := []) dd_X12_exam_24 me_X12_laysYes lk_X12_559 in_X12_laysYes se_X12_laysYes ca_196 rfl rfl rfl (Nat.le_of_ble_eq_true rfl) (Nat.le_of_ble_eq_true rfl) rfl (V_X12_laysYes (by omega)  H) (k2_V fun s4 H => ?_)
      refine fs_aload_n (k0 := 0) (i := 0) dd_X12_exam_27 rfl rfl ?_
      refine fs_callV (y := m_X12_examMany) (as := []) dd_X12_exam_28 me_X12_examMany lk_X12_562 in_X12_examMany se_X12_examMany ca_196 rfl rfl rfl (Nat.le_of_ble_eq_true rfl) (Nat.le_of_ble_eq_true rfl) rfl (V_X12_examMany (by omega)  H) (k2_I fun r5 s6 H => ?_)
      refine fs_istore_n (k0 := 2) (i := 2) dd_X12_exam_31 rfl (by decide) ?_
      refine fs_iload_n (k0 := 1) (i := 1) dd_X12_exam_32 rfl rfl ?_
      refine fs_iconst (n := -1) (v := -1) dd_X12_exam_33 (by decide) ?_
      refine fs_icmp_eq (tgt := 42) dd_X12_exam_34 (by decide) (fun hc => ?_) (fun hc => ?_)
      · replace H := H.1 hc
        refine fs_iload_n (k0 := 2) (i := 2) dd_X12_exam_42 rfl rfl ?_
        exact fs_iret dd_X12_exam_43 rfl H
      · replace H := H.2 hc
        refine fs_iload_n (k0 := 2) (i := 2) dd_X12_exam_37 rfl rfl ?_
        refine fs_iconst (n := -1) (v := -1) dd_X12_exam_38 (by decide) ?_
        refine fs_icmp_ne (tgt := 44) dd_X12_exam_39 (by decide) (fun hc => ?_) (fun hc => ?_)
        · replace H := H.1 hc
          refine fs_iload_n (k0 := 1) (i := 1) dd_X12_exam_44 rfl rfl ?_
          refine fs_iload_n (k0 := 2) (i := 2) dd_X12_exam_45 rfl rfl ?_
          refine fs_icmp_lt (tgt := 53) dd_X12_exam_46 (by decide) (fun hc => ?_) (fun hc => ?_)
          · replace H := H.1 hc
            refine fs_bipush (n := 10) (v := 10) dd_X12_exam_53 (by decide) ?_
            refine fs_aload_n (k0 := 0) (i := 0) dd_X12_exam_55 rfl rfl ?_
            refine fs_getr (ci := 12) (j := 65) (q := 239) dd_X12_exam_56 fl_X12_142 ca_196 rfl (Or.inr ⟨_, rfl⟩) rfl (by decide) ?_
            refine fs_iload_n (k0 := 1) (i := 1) dd_X12_exam_59 rfl rfl ?_
            have hb := H.1
            replace H := H.2
            refine fs_iald dd_X12_exam_60 ca_239 hb ?_
            refine fs_bipush (n := 9) (v := 9) dd_X12_exam_61 (by decide) ?_
            refine fs_idiv dd_X12_exam_63 (by decide) ?_
            refine fs_imul dd_X12_exam_64 ?_
            refine fs_aload_n (k0 := 0) (i := 0) dd_X12_exam_65 rfl rfl ?_
            refine fs_getr (ci := 12) (j := 65) (q := 239) dd_X12_exam_66 fl_X12_142 ca_196 rfl (Or.inr ⟨_, rfl⟩) rfl (by decide) ?_
            refine fs_iload_n (k0 := 1) (i := 1) dd_X12_exam_69 rfl rfl ?_
            have hb := H.1
            replace H := H.2
            refine fs_iald dd_X12_exam_70 ca_239 hb ?_
            refine fs_bipush (n := 9) (v := 9) dd_X12_exam_71 (by decide) ?_
            refine fs_irem dd_X12_exam_73 (by decide) ?_
            refine fs_iadd dd_X12_exam_74 ?_
            refine fs_iconst (n := 1) (v := 1) dd_X12_exam_75 (by decide) ?_
            refine fs_iadd dd_X12_exam_76 ?_
            exact fs_iret dd_X12_exam_77 rfl H
          · replace H := H.2 hc
            refine fs_iconst (n := -1) (v := -1) dd_X12_exam_49 (by decide) ?_
            refine fs_goto (tgt := 77) dd_X12_exam_50 (by decide) ?_
            exact fs_iret dd_X12_exam_77 rfl H
        · replace H := H.2 hc
          refine fs_iload_n (k0 := 2) (i := 2) dd_X12_exam_42 rfl rfl ?_
          exact fs_iret dd_X12_exam_43 rfl H
    · replace H := H.2 (bi_0 hc)
      refine fs_iconst (n := -1) (v := -1) dd_X12_exam_21 (by decide) ?_
      exact fs_iret dd_X12_exam_22 rfl H
theorem dd_X12_isSentWith_0 : decode m_X12_isSentWith.2.1 0 = .ok (.aload_n 0, 1) := by decide +kernel
theorem dd_X12_isSentWith_1 : decode m_X12_isSentWith.2.1 1 = .ok (.iload_n 1, 1) := by decide +kernel
theorem dd_X12_isSentWith_2 : decode m_X12_isSentWith.2.1 2 = .ok (.invokevirtual 442, 3) := by decide +kernel
theorem dd_X12_isSentWith_5 : decode m_X12_isSentWith.2.1 5 = .ok (.istore_n 3, 1) := by decide +kernel
theorem dd_X12_isSentWith_6 : decode m_X12_isSentWith.2.1 6 = .ok (.aload_n 0, 1) := by decide +kernel
theorem dd_X12_isSentWith_7 : decode m_X12_isSentWith.2.1 7 = .ok (.getfield 121, 3) := by decide +kernel
theorem dd_X12_isSentWith_10 : decode m_X12_isSentWith.2.1 10 = .ok (.iconst 5, 1) := by decide +kernel
theorem dd_X12_isSentWith_11 : decode m_X12_isSentWith.2.1 11 = .ok (.iconst 3, 1) := by decide +kernel
theorem dd_X12_isSentWith_12 : decode m_X12_isSentWith.2.1 12 = .ok (.iload_n 1, 1) := by decide +kernel
theorem dd_X12_isSentWith_13 : decode m_X12_isSentWith.2.1 13 = .ok (.imul, 1) := by decide +kernel
theorem dd_X12_isSentWith_14 : decode m_X12_isSentWith.2.1 14 = .ok (.iadd, 1) := by decide +kernel
theorem dd_X12_isSentWith_15 : decode m_X12_isSentWith.2.1 15 = .ok (.iload_n 2, 1) := by decide +kernel
theorem dd_X12_isSentWith_16 : decode m_X12_isSentWith.2.1 16 = .ok (.iastore, 1) := by decide +kernel
theorem dd_X12_isSentWith_17 : decode m_X12_isSentWith.2.1 17 = .ok (.aload_n 0, 1) := by decide +kernel
theorem dd_X12_isSentWith_18 : decode m_X12_isSentWith.2.1 18 = .ok (.aload_n 0, 1) := by decide +kernel
theorem dd_X12_isSentWith_19 : decode m_X12_isSentWith.2.1 19 = .ok (.iload_n 1, 1) := by decide +kernel
theorem dd_X12_isSentWith_20 : decode m_X12_isSentWith.2.1 20 = .ok (.invokevirtual 408, 3) := by decide +kernel
theorem dd_X12_isSentWith_23 : decode m_X12_isSentWith.2.1 23 = .ok (.invokevirtual 484, 3) := by decide +kernel
theorem dd_X12_isSentWith_26 : decode m_X12_isSentWith.2.1 26 = .ok (.iload_n 1, 1) := by decide +kernel
theorem dd_X12_isSentWith_27 : decode m_X12_isSentWith.2.1 27 = .ok (.if_icmp .ne 15, 3) := by decide +kernel
theorem dd_X12_isSentWith_30 : decode m_X12_isSentWith.2.1 30 = .ok (.aload_n 0, 1) := by decide +kernel
theorem dd_X12_isSentWith_31 : decode m_X12_isSentWith.2.1 31 = .ok (.iload_n 1, 1) := by decide +kernel
theorem dd_X12_isSentWith_32 : decode m_X12_isSentWith.2.1 32 = .ok (.invokevirtual 487, 3) := by decide +kernel
theorem dd_X12_isSentWith_35 : decode m_X12_isSentWith.2.1 35 = .ok (.ifCond .eq 7, 3) := by decide +kernel
theorem dd_X12_isSentWith_38 : decode m_X12_isSentWith.2.1 38 = .ok (.iconst 1, 1) := by decide +kernel
theorem dd_X12_isSentWith_39 : decode m_X12_isSentWith.2.1 39 = .ok (.goto 4, 3) := by decide +kernel
theorem dd_X12_isSentWith_42 : decode m_X12_isSentWith.2.1 42 = .ok (.iconst 0, 1) := by decide +kernel
theorem dd_X12_isSentWith_43 : decode m_X12_isSentWith.2.1 43 = .ok (.istore 4, 2) := by decide +kernel
theorem dd_X12_isSentWith_45 : decode m_X12_isSentWith.2.1 45 = .ok (.aload_n 0, 1) := by decide +kernel
theorem dd_X12_isSentWith_46 : decode m_X12_isSentWith.2.1 46 = .ok (.getfield 121, 3) := by decide +kernel
theorem dd_X12_isSentWith_49 : decode m_X12_isSentWith.2.1 49 = .ok (.iconst 5, 1) := by decide +kernel
theorem dd_X12_isSentWith_50 : decode m_X12_isSentWith.2.1 50 = .ok (.iconst 3, 1) := by decide +kernel
theorem dd_X12_isSentWith_51 : decode m_X12_isSentWith.2.1 51 = .ok (.iload_n 1, 1) := by decide +kernel
theorem dd_X12_isSentWith_52 : decode m_X12_isSentWith.2.1 52 = .ok (.imul, 1) := by decide +kernel
theorem dd_X12_isSentWith_53 : decode m_X12_isSentWith.2.1 53 = .ok (.iadd, 1) := by decide +kernel
theorem dd_X12_isSentWith_54 : decode m_X12_isSentWith.2.1 54 = .ok (.iload_n 3, 1) := by decide +kernel
theorem dd_X12_isSentWith_55 : decode m_X12_isSentWith.2.1 55 = .ok (.iastore, 1) := by decide +kernel
theorem dd_X12_isSentWith_56 : decode m_X12_isSentWith.2.1 56 = .ok (.iload 4, 2) := by decide +kernel
theorem dd_X12_isSentWith_58 : decode m_X12_isSentWith.2.1 58 = .ok (.ireturn, 1) := by decide +kernel
def nd_X12_isSentWith_43   (Q : Bool → fz_s → Prop) (v1 : Int32) (v3 : Int32) (u0 : Bool) (s : fz_s) : Prop :=
  vp_in (5 + (3 * v1)) 150 ∧ ∀ s1 : fz_s, s1 = si s 232 (5 + (3 * v1)).toNatClampNeg v3 → Q u0 s1
def wp_X12_isSentWith (p0 : Int32) (p1 : Int32) (s : fz_s) (Q : Bool → fz_s → Prop) : Prop :=
  wp_X12_witsOf p0 s (fun r1 s2 => vp_in (5 + (3 * p0)) 150 ∧ ∀ s3 : fz_s, s3 = si s2 232 (5 + (3 * p0)).toNatClampNeg p1 → wp_X12_homeOf p0 s3 (fun r4 s5 => wp_X12_sentOf r4 s5 (fun r6 s7 => ((¬ r6 = p0 → nd_X12_isSentWith_43   Q p0 r1 false s7) ∧ (r6 = p0 → wp_X12_doesPass p0 s7 (fun r8 s9 => ((r8 = false → nd_X12_isSentWith_43   Q p0 r1 false s9) ∧ (r8 = true → nd_X12_isSentWith_43   Q p0 r1 true s9))))))))
set_option maxRecDepth 100000 in
set_option maxHeartbeats 4000000 in
theorem V_nd_X12_isSentWith_43 {g : fz_G} {l : Launch} {d : Nat} (hD : 7 ≤ d)    {Q : Bool → fz_s → Prop} {v1 : Int32} {v3 : Int32} {u0 : Bool} {s : fz_s}  (H : nd_X12_isSentWith_43   Q v1 v3 u0 s) : fs_V g l m_X12_isSentWith d false 43 [.ref 196, .int v1, fz_J, .int v3, fz_J] [.int (bi u0)] s (rZ Q) := by
  obtain ⟨d, rfl⟩ : ∃ e, d = e + 1 := ⟨d - 1, by omega⟩
  unfold nd_X12_isSentWith_43 at H
  refine fs_istore (i := 4) dd_X12_isSentWith_43 (by decide) ?_
  refine fs_aload_n (k0 := 0) (i := 0) dd_X12_isSentWith_45 rfl rfl ?_
  refine fs_getr (ci := 12) (j := 54) (q := 232) dd_X12_isSentWith_46 fl_X12_121 ca_196 rfl (Or.inr ⟨_, rfl⟩) rfl (by decide) ?_
  refine fs_iconst (n := 5) (v := 5) dd_X12_isSentWith_49 (by decide) ?_
  refine fs_iconst (n := 3) (v := 3) dd_X12_isSentWith_50 (by decide) ?_
  refine fs_iload_n (k0 := 1) (i := 1) dd_X12_isSentWith_51 rfl rfl ?_
  refine fs_imul dd_X12_isSentWith_52 ?_
  refine fs_iadd dd_X12_isSentWith_53 ?_
  refine fs_iload_n (k0 := 3) (i := 3) dd_X12_isSentWith_54 rfl rfl ?_
  have hb := H.1
  replace H := H.2
  refine fs_iast dd_X12_isSentWith_55 ca_232 hb ?_
  refine fs_tops (fun s1 hs1 => ?_)
  replace H := H s1 hs1
  refine fs_iload (i := 4) dd_X12_isSentWith_56 rfl ?_
  exact fs_zret u0 dd_X12_isSentWith_58 rfl rfl H
set_option maxRecDepth 100000 in
set_option maxHeartbeats 4000000 in
theorem V_X12_isSentWith {g : fz_G} {l : Launch} {d : Nat} (hD : 7 ≤ d) {p0 : Int32} {p1 : Int32}  {s : fz_s} {Q : Bool → fz_s → Prop} (H : wp_X12_isSentWith p0 p1 s Q) : fs_V g l m_X12_isSentWith d false 0 (fz_en [.ref 196, .int p0, .int p1] 5) [] s (rZ Q) := by
  obtain ⟨d, rfl⟩ : ∃ e, d = e + 1 := ⟨d - 1, by omega⟩
  unfold wp_X12_isSentWith at H
  refine fs_aload_n (k0 := 0) (i := 0) dd_X12_isSentWith_0 rfl rfl ?_
  refine fs_iload_n (k0 := 1) (i := 1) dd_X12_isSentWith_1 rfl rfl ?_
  refine fs_callV (y := m_X12_witsOf) (as := [.int p0]) dd_X12_isSentWith_2 me_X12_witsOf lk_X12_442 in_X12_witsOf se_X12_witsOf ca_196 rfl rfl rfl (Nat.le_of_ble_eq_true rfl) (Nat.le_of_ble_eq_true rfl) rfl (V_X12_witsOf (by omega)  H) (k2_I fun r1 s2 H => ?_)
  refine fs_istore_n (k0 := 3) (i := 3) dd_X12_isSentWith_5 rfl (by decide) ?_
  refine fs_aload_n (k0 := 0) (i := 0) dd_X12_isSentWith_6 rfl rfl ?_
  refine fs_getr (ci := 12) (j := 54) (q := 232) dd_X12_isSentWith_7 fl_X12_121 ca_196 rfl (Or.inr ⟨_, rfl⟩) rfl (by decide) ?_
  refine fs_iconst (n := 5) (v := 5) dd_X12_isSentWith_10 (by decide) ?_
  refine fs_iconst (n := 3) (v := 3) dd_X12_isSentWith_11 (by decide) ?_
  refine fs_iload_n (k0 := 1) (i := 1) dd_X12_isSentWith_12 rfl rfl ?_
  refine fs_imul dd_X12_isSentWith_13 ?_
  refine fs_iadd dd_X12_isSentWith_14 ?_
  refine fs_iload_n (k0 := 2) (i := 2) dd_X12_isSentWith_15 rfl rfl ?_
  have hb := H.1
  replace H := H.2
  refine fs_iast dd_X12_isSentWith_16 ca_232 hb ?_
  refine fs_tops (fun s3 hs3 => ?_)
  replace H := H s3 hs3
  refine fs_aload_n (k0 := 0) (i := 0) dd_X12_isSentWith_17 rfl rfl ?_
  refine fs_aload_n (k0 := 0) (i := 0) dd_X12_isSentWith_18 rfl rfl ?_
  refine fs_iload_n (k0 := 1) (i := 1) dd_X12_isSentWith_19 rfl rfl ?_
  refine fs_callV (y := m_X12_homeOf) (as := [.int p0]) dd_X12_isSentWith_20 me_X12_homeOf lk_X12_408 in_X12_homeOf se_X12_homeOf ca_196 rfl rfl rfl (Nat.le_of_ble_eq_true rfl) (Nat.le_of_ble_eq_true rfl) rfl (V_X12_homeOf (by omega)  H) (k2_I fun r4 s5 H => ?_)
  refine fs_callV (y := m_X12_sentOf) (as := [.int r4]) dd_X12_isSentWith_23 me_X12_sentOf lk_X12_484 in_X12_sentOf se_X12_sentOf ca_196 rfl rfl rfl (Nat.le_of_ble_eq_true rfl) (Nat.le_of_ble_eq_true rfl) rfl (V_X12_sentOf (by omega)  H) (k2_I fun r6 s7 H => ?_)
  refine fs_iload_n (k0 := 1) (i := 1) dd_X12_isSentWith_26 rfl rfl ?_
  refine fs_icmp_ne (tgt := 42) dd_X12_isSentWith_27 (by decide) (fun hc => ?_) (fun hc => ?_)
  · replace H := H.1 hc
    refine fs_iconst (n := 0) (v := 0) dd_X12_isSentWith_42 (by decide) ?_
    refine fs_weak (ls2 := [.ref 196, .int p0, fz_J, .int r1, fz_J]) (fz_le_e (fz_le_e (fz_le_j (fz_le_e (fz_le_j fz_le_n))))) ?_
    exact V_nd_X12_isSentWith_43 hD    H
  · replace H := H.2 hc
    refine fs_aload_n (k0 := 0) (i := 0) dd_X12_isSentWith_30 rfl rfl ?_
    refine fs_iload_n (k0 := 1) (i := 1) dd_X12_isSentWith_31 rfl rfl ?_
    refine fs_callV (y := m_X12_doesPass) (as := [.int p0]) dd_X12_isSentWith_32 me_X12_doesPass lk_X12_487 in_X12_doesPass se_X12_doesPass ca_196 rfl rfl rfl (Nat.le_of_ble_eq_true rfl) (Nat.le_of_ble_eq_true rfl) rfl (V_X12_doesPass (by omega)  H) (k2_Z fun r8 s9 H => ?_)
    refine fs_if_eq (tgt := 42) dd_X12_isSentWith_35 (by decide) (fun hc => ?_) (fun hc => ?_)
    · replace H := H.1 (bi_0 hc)
      refine fs_iconst (n := 0) (v := 0) dd_X12_isSentWith_42 (by decide) ?_
      refine fs_weak (ls2 := [.ref 196, .int p0, fz_J, .int r1, fz_J]) (fz_le_e (fz_le_e (fz_le_j (fz_le_e (fz_le_j fz_le_n))))) ?_
      exact V_nd_X12_isSentWith_43 hD    H
    · replace H := H.2 (bi_1 hc)
      refine fs_iconst (n := 1) (v := 1) dd_X12_isSentWith_38 (by decide) ?_
      refine fs_goto (tgt := 43) dd_X12_isSentWith_39 (by decide) ?_
      refine fs_weak (ls2 := [.ref 196, .int p0, fz_J, .int r1, fz_J]) (fz_le_e (fz_le_e (fz_le_j (fz_le_e (fz_le_j fz_le_n))))) ?_
      exact V_nd_X12_isSentWith_43 hD    H
theorem dd_X12_feign_0 : decode m_X12_feign.2.1 0 = .ok (.aload_n 0, 1) := by decide +kernel
theorem dd_X12_feign_1 : decode m_X12_feign.2.1 1 = .ok (.iload_n 1, 1) := by decide +kernel
theorem dd_X12_feign_2 : decode m_X12_feign.2.1 2 = .ok (.invokevirtual 415, 3) := by decide +kernel
theorem dd_X12_feign_5 : decode m_X12_feign.2.1 5 = .ok (.ifCond .eq 21, 3) := by decide +kernel
theorem dd_X12_feign_8 : decode m_X12_feign.2.1 8 = .ok (.aload_n 0, 1) := by decide +kernel
theorem dd_X12_feign_9 : decode m_X12_feign.2.1 9 = .ok (.iload_n 1, 1) := by decide +kernel
theorem dd_X12_feign_10 : decode m_X12_feign.2.1 10 = .ok (.invokevirtual 405, 3) := by decide +kernel
theorem dd_X12_feign_13 : decode m_X12_feign.2.1 13 = .ok (.ifCond .ne 13, 3) := by decide +kernel
theorem dd_X12_feign_16 : decode m_X12_feign.2.1 16 = .ok (.aload_n 0, 1) := by decide +kernel
theorem dd_X12_feign_17 : decode m_X12_feign.2.1 17 = .ok (.iconst 1, 1) := by decide +kernel
theorem dd_X12_feign_18 : decode m_X12_feign.2.1 18 = .ok (.iconst 1, 1) := by decide +kernel
theorem dd_X12_feign_19 : decode m_X12_feign.2.1 19 = .ok (.iconst 1, 1) := by decide +kernel
theorem dd_X12_feign_20 : decode m_X12_feign.2.1 20 = .ok (.invokevirtual 525, 3) := by decide +kernel
theorem dd_X12_feign_23 : decode m_X12_feign.2.1 23 = .ok (.ifCond .ne 5, 3) := by decide +kernel
theorem dd_X12_feign_26 : decode m_X12_feign.2.1 26 = .ok (.iconst (-1), 1) := by decide +kernel
theorem dd_X12_feign_27 : decode m_X12_feign.2.1 27 = .ok (.ireturn, 1) := by decide +kernel
theorem dd_X12_feign_28 : decode m_X12_feign.2.1 28 = .ok (.iconst 0, 1) := by decide +kernel
theorem dd_X12_feign_29 : decode m_X12_feign.2.1 29 = .ok (.istore_n 2, 1) := by decide +kernel
theorem dd_X12_feign_30 : decode m_X12_feign.2.1 30 = .ok (.iload_n 2, 1) := by decide +kernel
theorem dd_X12_feign_31 : decode m_X12_feign.2.1 31 = .ok (.bipush 9, 2) := by decide +kernel
theorem dd_X12_feign_33 : decode m_X12_feign.2.1 33 = .ok (.if_icmp .gt 61, 3) := by decide +kernel
theorem dd_X12_feign_36 : decode m_X12_feign.2.1 36 = .ok (.aload_n 0, 1) := by decide +kernel
theorem dd_X12_feign_37 : decode m_X12_feign.2.1 37 = .ok (.iload_n 1, 1) := by decide +kernel
theorem dd_X12_feign_38 : decode m_X12_feign.2.1 38 = .ok (.invokevirtual 442, 3) := by decide +kernel
theorem dd_X12_feign_41 : decode m_X12_feign.2.1 41 = .ok (.iload_n 2, 1) := by decide +kernel
theorem dd_X12_feign_42 : decode m_X12_feign.2.1 42 = .ok (.isub, 1) := by decide +kernel
theorem dd_X12_feign_43 : decode m_X12_feign.2.1 43 = .ok (.istore_n 3, 1) := by decide +kernel
theorem dd_X12_feign_44 : decode m_X12_feign.2.1 44 = .ok (.aload_n 0, 1) := by decide +kernel
theorem dd_X12_feign_45 : decode m_X12_feign.2.1 45 = .ok (.iload_n 1, 1) := by decide +kernel
theorem dd_X12_feign_46 : decode m_X12_feign.2.1 46 = .ok (.invokevirtual 442, 3) := by decide +kernel
theorem dd_X12_feign_49 : decode m_X12_feign.2.1 49 = .ok (.iload_n 2, 1) := by decide +kernel
theorem dd_X12_feign_50 : decode m_X12_feign.2.1 50 = .ok (.iadd, 1) := by decide +kernel
theorem dd_X12_feign_51 : decode m_X12_feign.2.1 51 = .ok (.istore 4, 2) := by decide +kernel
theorem dd_X12_feign_53 : decode m_X12_feign.2.1 53 = .ok (.iload_n 3, 1) := by decide +kernel
theorem dd_X12_feign_54 : decode m_X12_feign.2.1 54 = .ok (.ifCond .lt 14, 3) := by decide +kernel
theorem dd_X12_feign_57 : decode m_X12_feign.2.1 57 = .ok (.aload_n 0, 1) := by decide +kernel
theorem dd_X12_feign_58 : decode m_X12_feign.2.1 58 = .ok (.iload_n 1, 1) := by decide +kernel
theorem dd_X12_feign_59 : decode m_X12_feign.2.1 59 = .ok (.iload_n 3, 1) := by decide +kernel
theorem dd_X12_feign_60 : decode m_X12_feign.2.1 60 = .ok (.invokevirtual 565, 3) := by decide +kernel
theorem dd_X12_feign_63 : decode m_X12_feign.2.1 63 = .ok (.ifCond .eq 5, 3) := by decide +kernel
theorem dd_X12_feign_66 : decode m_X12_feign.2.1 66 = .ok (.iload_n 3, 1) := by decide +kernel
theorem dd_X12_feign_67 : decode m_X12_feign.2.1 67 = .ok (.ireturn, 1) := by decide +kernel
theorem dd_X12_feign_68 : decode m_X12_feign.2.1 68 = .ok (.iload 4, 2) := by decide +kernel
theorem dd_X12_feign_70 : decode m_X12_feign.2.1 70 = .ok (.bipush 9, 2) := by decide +kernel
theorem dd_X12_feign_72 : decode m_X12_feign.2.1 72 = .ok (.if_icmp .gt 16, 3) := by decide +kernel
theorem dd_X12_feign_75 : decode m_X12_feign.2.1 75 = .ok (.aload_n 0, 1) := by decide +kernel
theorem dd_X12_feign_76 : decode m_X12_feign.2.1 76 = .ok (.iload_n 1, 1) := by decide +kernel
theorem dd_X12_feign_77 : decode m_X12_feign.2.1 77 = .ok (.iload 4, 2) := by decide +kernel
theorem dd_X12_feign_79 : decode m_X12_feign.2.1 79 = .ok (.invokevirtual 565, 3) := by decide +kernel
theorem dd_X12_feign_82 : decode m_X12_feign.2.1 82 = .ok (.ifCond .eq 6, 3) := by decide +kernel
theorem dd_X12_feign_85 : decode m_X12_feign.2.1 85 = .ok (.iload 4, 2) := by decide +kernel
theorem dd_X12_feign_87 : decode m_X12_feign.2.1 87 = .ok (.ireturn, 1) := by decide +kernel
theorem dd_X12_feign_88 : decode m_X12_feign.2.1 88 = .ok (.iinc 2 1, 3) := by decide +kernel
theorem dd_X12_feign_91 : decode m_X12_feign.2.1 91 = .ok (.goto (-61), 3) := by decide +kernel
theorem dd_X12_feign_94 : decode m_X12_feign.2.1 94 = .ok (.iconst (-1), 1) := by decide +kernel
theorem dd_X12_feign_95 : decode m_X12_feign.2.1 95 = .ok (.ireturn, 1) := by decide +kernel
def nd_X12_feign_68  (K30 : Int32 → Int32 → fz_s → Prop) (Q : Int32 → fz_s → Prop) (v1 : Int32) (v2 : Int32) (v4 : Int32) (s : fz_s) : Prop :=
  ((9 < v4 → ∀ x1 : Int32, x1 = v2 + 1 → K30 v1 x1 s) ∧ (¬ 9 < v4 → wp_X12_isSentWith v1 v4 s (fun r2 s3 => ((r2 = false → ∀ x4 : Int32, x4 = v2 + 1 → K30 v1 x4 s3) ∧ (r2 = true → Q v4 s3)))))
def nd_X12_feign_30  (K30 : Int32 → Int32 → fz_s → Prop) (Q : Int32 → fz_s → Prop) (v1 : Int32) (v2 : Int32) (s : fz_s) : Prop :=
  ((9 < v2 → Q (-1) s) ∧ (¬ 9 < v2 → wp_X12_witsOf v1 s (fun r1 s2 => ∀ x3 : Int32, x3 = (r1 - v2) → wp_X12_witsOf v1 s2 (fun r4 s5 => ∀ x6 : Int32, x6 = (r4 + v2) → ((x3 < 0 → nd_X12_feign_68  K30 Q v1 v2 x6 s5) ∧ (¬ x3 < 0 → wp_X12_isSentWith v1 x3 s5 (fun r7 s8 => ((r7 = false → nd_X12_feign_68  K30 Q v1 v2 x6 s8) ∧ (r7 = true → Q x3 s8)))))))))
def lp_X12_feign_30   (Q : Int32 → fz_s → Prop) : Nat → Int32 → Int32 → fz_s → Prop
  | 0 => fun _ _ _ => False
  | n + 1 => nd_X12_feign_30  (lp_X12_feign_30   Q n) Q
def wp_X12_feign (p0 : Int32) (s : fz_s) (Q : Int32 → fz_s → Prop) : Prop :=
  wp_X12_isPerson p0 s (fun r1 s2 => ((r1 = false → Q (-1) s2) ∧ (r1 = true → wp_X12_isAway p0 s2 (fun r3 s4 => ((r3 = true → Q (-1) s4) ∧ (r3 = false → wp_X12_isAhead 1 1 1 s4 (fun r5 s6 => ((r5 = true → lp_X12_feign_30   Q 2048 p0 0 s6) ∧ (r5 = false → Q (-1) s6)))))))))
set_option maxRecDepth 100000 in
set_option maxHeartbeats 4000000 in
theorem V_nd_X12_feign_68 {g : fz_G} {l : Launch} {d : Nat} (hD : 8 ≤ d)   {K30 : Int32 → Int32 → fz_s → Prop} {Q : Int32 → fz_s → Prop} {v1 : Int32} {v2 : Int32} {v4 : Int32} {s : fz_s} (hK30 : ∀ {v1 : Int32} {v2 : Int32} {s : fz_s}, K30 v1 v2 s → fs_V g l m_X12_feign d false 30 [.ref 196, .int v1, .int v2, fz_J, fz_J] [] s (rI Q)) (H : nd_X12_feign_68  K30 Q v1 v2 v4 s) : fs_V g l m_X12_feign d false 68 [.ref 196, .int v1, .int v2, fz_J, .int v4] [] s (rI Q) := by
  obtain ⟨d, rfl⟩ : ∃ e, d = e + 1 := ⟨d - 1, by omega⟩
  unfold nd_X12_feign_68 at H
  refine fs_iload (i := 4) dd_X12_feign_68 rfl ?_
  refine fs_bipush (n := 9) (v := 9) dd_X12_feign_70 (by decide) ?_
  refine fs_icmp_gt (tgt := 88) dd_X12_feign_72 (by decide) (fun hc => ?_) (fun hc => ?_)
  · replace H := H.1 hc
    refine fs_iincN (i := 2) (m := 1) (c := 1) dd_X12_feign_88 rfl (by decide) (by decide) (fun x1 hx1 => ?_)
    replace H := H x1 hx1
    refine fs_goto (tgt := 30) dd_X12_feign_91 (by decide) ?_
    refine fs_weak (ls2 := [.ref 196, .int v1, .int x1, fz_J, fz_J]) (fz_le_e (fz_le_e (fz_le_e (fz_le_j (fz_le_j fz_le_n))))) ?_
    exact hK30 H
  · replace H := H.2 hc
    refine fs_aload_n (k0 := 0) (i := 0) dd_X12_feign_75 rfl rfl ?_
    refine fs_iload_n (k0 := 1) (i := 1) dd_X12_feign_76 rfl rfl ?_
    refine fs_iload (i := 4) dd_X12_feign_77 rfl ?_
    refine fs_callV (y := m_X12_isSentWith) (as := [.int v1, .int v4]) dd_X12_feign_79 me_X12_isSentWith lk_X12_565 in_X12_isSentWith se_X12_isSentWith ca_196 rfl rfl rfl (Nat.le_of_ble_eq_true rfl) (Nat.le_of_ble_eq_true rfl) rfl (V_X12_isSentWith (by omega)  H) (k2_Z fun r2 s3 H => ?_)
    refine fs_if_eq (tgt := 88) dd_X12_feign_82 (by decide) (fun hc => ?_) (fun hc => ?_)
    · replace H := H.1 (bi_0 hc)
      refine fs_iincN (i := 2) (m := 1) (c := 1) dd_X12_feign_88 rfl (by decide) (by decide) (fun x4 hx4 => ?_)
      replace H := H x4 hx4
      refine fs_goto (tgt := 30) dd_X12_feign_91 (by decide) ?_
      refine fs_weak (ls2 := [.ref 196, .int v1, .int x4, fz_J, fz_J]) (fz_le_e (fz_le_e (fz_le_e (fz_le_j (fz_le_j fz_le_n))))) ?_
      exact hK30 H
    · replace H := H.2 (bi_1 hc)
      refine fs_iload (i := 4) dd_X12_feign_85 rfl ?_
      exact fs_iret dd_X12_feign_87 rfl H
set_option maxRecDepth 100000 in
set_option maxHeartbeats 4000000 in
theorem V_nd_X12_feign_30 {g : fz_G} {l : Launch} {d : Nat} (hD : 8 ≤ d)   {K30 : Int32 → Int32 → fz_s → Prop} {Q : Int32 → fz_s → Prop} {v1 : Int32} {v2 : Int32} {s : fz_s} (hK30 : ∀ {v1 : Int32} {v2 : Int32} {s : fz_s}, K30 v1 v2 s → fs_V g l m_X12_feign d false 30 [.ref 196, .int v1, .int v2, fz_J, fz_J] [] s (rI Q)) (H : nd_X12_feign_30  K30 Q v1 v2 s) : fs_V g l m_X12_feign d false 30 [.ref 196, .int v1, .int v2, fz_J, fz_J] [] s (rI Q) := by
  obtain ⟨d, rfl⟩ : ∃ e, d = e + 1 := ⟨d - 1, by omega⟩
  unfold nd_X12_feign_30 at H
  refine fs_iload_n (k0 := 2) (i := 2) dd_X12_feign_30 rfl rfl ?_
  refine fs_bipush (n := 9) (v := 9) dd_X12_feign_31 (by decide) ?_
  refine fs_icmp_gt (tgt := 94) dd_X12_feign_33 (by decide) (fun hc => ?_) (fun hc => ?_)
  · replace H := H.1 hc
    refine fs_iconst (n := -1) (v := -1) dd_X12_feign_94 (by decide) ?_
    exact fs_iret dd_X12_feign_95 rfl H
  · replace H := H.2 hc
    refine fs_aload_n (k0 := 0) (i := 0) dd_X12_feign_36 rfl rfl ?_
    refine fs_iload_n (k0 := 1) (i := 1) dd_X12_feign_37 rfl rfl ?_
    refine fs_callV (y := m_X12_witsOf) (as := [.int v1]) dd_X12_feign_38 me_X12_witsOf lk_X12_442 in_X12_witsOf se_X12_witsOf ca_196 rfl rfl rfl (Nat.le_of_ble_eq_true rfl) (Nat.le_of_ble_eq_true rfl) rfl (V_X12_witsOf (by omega)  H) (k2_I fun r1 s2 H => ?_)
    refine fs_iload_n (k0 := 2) (i := 2) dd_X12_feign_41 rfl rfl ?_
    refine fs_isub dd_X12_feign_42 ?_
    refine fs_topi (fun x3 hx3 => ?_)
    replace H := H x3 hx3
    refine fs_istore_n (k0 := 3) (i := 3) dd_X12_feign_43 rfl (by decide) ?_
    refine fs_aload_n (k0 := 0) (i := 0) dd_X12_feign_44 rfl rfl ?_
    refine fs_iload_n (k0 := 1) (i := 1) dd_X12_feign_45 rfl rfl ?_
    refine fs_callV (y := m_X12_witsOf) (as := [.int v1]) dd_X12_feign_46 me_X12_witsOf lk_X12_442 in_X12_witsOf se_X12_witsOf ca_196 rfl rfl rfl (Nat.le_of_ble_eq_true rfl) (Nat.le_of_ble_eq_true rfl) rfl (V_X12_witsOf (by omega)  H) (k2_I fun r4 s5 H => ?_)
    refine fs_iload_n (k0 := 2) (i := 2) dd_X12_feign_49 rfl rfl ?_
    refine fs_iadd dd_X12_feign_50 ?_
    refine fs_topi (fun x6 hx6 => ?_)
    replace H := H x6 hx6
    refine fs_istore (i := 4) dd_X12_feign_51 (by decide) ?_
    refine fs_iload_n (k0 := 3) (i := 3) dd_X12_feign_53 rfl rfl ?_
    refine fs_if_lt (tgt := 68) dd_X12_feign_54 (by decide) (fun hc => ?_) (fun hc => ?_)
    · replace H := H.1 hc
      refine fs_weak (ls2 := [.ref 196, .int v1, .int v2, fz_J, .int x6]) (fz_le_e (fz_le_e (fz_le_e (fz_le_j (fz_le_e fz_le_n))))) ?_
      exact V_nd_X12_feign_68 hD   hK30 H
    · replace H := H.2 hc
      refine fs_aload_n (k0 := 0) (i := 0) dd_X12_feign_57 rfl rfl ?_
      refine fs_iload_n (k0 := 1) (i := 1) dd_X12_feign_58 rfl rfl ?_
      refine fs_iload_n (k0 := 3) (i := 3) dd_X12_feign_59 rfl rfl ?_
      refine fs_callV (y := m_X12_isSentWith) (as := [.int v1, .int x3]) dd_X12_feign_60 me_X12_isSentWith lk_X12_565 in_X12_isSentWith se_X12_isSentWith ca_196 rfl rfl rfl (Nat.le_of_ble_eq_true rfl) (Nat.le_of_ble_eq_true rfl) rfl (V_X12_isSentWith (by omega)  H) (k2_Z fun r7 s8 H => ?_)
      refine fs_if_eq (tgt := 68) dd_X12_feign_63 (by decide) (fun hc => ?_) (fun hc => ?_)
      · replace H := H.1 (bi_0 hc)
        refine fs_weak (ls2 := [.ref 196, .int v1, .int v2, fz_J, .int x6]) (fz_le_e (fz_le_e (fz_le_e (fz_le_j (fz_le_e fz_le_n))))) ?_
        exact V_nd_X12_feign_68 hD   hK30 H
      · replace H := H.2 (bi_1 hc)
        refine fs_iload_n (k0 := 3) (i := 3) dd_X12_feign_66 rfl rfl ?_
        exact fs_iret dd_X12_feign_67 rfl H
set_option maxRecDepth 100000 in
set_option maxHeartbeats 4000000 in
theorem V_lp_X12_feign_30 {g : fz_G} {l : Launch} {d : Nat} (hD : 8 ≤ d)    {Q : Int32 → fz_s → Prop}  (n : Nat) : ∀ {v1 : Int32} {v2 : Int32} {s : fz_s}, lp_X12_feign_30   Q n v1 v2 s → fs_V g l m_X12_feign d false 30 [.ref 196, .int v1, .int v2, fz_J, fz_J] [] s (rI Q) := by
  induction n with
  | zero => intro v1 v2 s H; exact H.elim
  | succ n ih => intro v1 v2 s H; exact V_nd_X12_feign_30 hD  (fun H => ih H) H
set_option maxRecDepth 100000 in
set_option maxHeartbeats 4000000 in
theorem V_X12_feign {g : fz_G} {l : Launch} {d : Nat} (hD : 8 ≤ d) {p0 : Int32}  {s : fz_s} {Q : Int32 → fz_s → Prop} (H : wp_X12_feign p0 s Q) : fs_V g l m_X12_feign d false 0 (fz_en [.ref 196, .int p0] 5) [] s (rI Q) := by
  obtain ⟨d, rfl⟩ : ∃ e, d = e + 1 := ⟨d - 1, by omega⟩
  unfold wp_X12_feign at H
  refine fs_aload_n (k0 := 0) (i := 0) dd_X12_feign_0 rfl rfl ?_
  refine fs_iload_n (k0 := 1) (i := 1) dd_X12_feign_1 rfl rfl ?_
  refine fs_callV (y := m_X12_isPerson) (as := [.int p0]) dd_X12_feign_2 me_X12_isPerson lk_X12_415 in_X12_isPerson se_X12_isPerson ca_196 rfl rfl rfl (Nat.le_of_ble_eq_true rfl) (Nat.le_of_ble_eq_true rfl) rfl (V_X12_isPerson (by omega)  H) (k2_Z fun r1 s2 H => ?_)
  refine fs_if_eq (tgt := 26) dd_X12_feign_5 (by decide) (fun hc => ?_) (fun hc => ?_)
  · replace H := H.1 (bi_0 hc)
    refine fs_iconst (n := -1) (v := -1) dd_X12_feign_26 (by decide) ?_
    exact fs_iret dd_X12_feign_27 rfl H
  · replace H := H.2 (bi_1 hc)
    refine fs_aload_n (k0 := 0) (i := 0) dd_X12_feign_8 rfl rfl ?_
    refine fs_iload_n (k0 := 1) (i := 1) dd_X12_feign_9 rfl rfl ?_
    refine fs_callV (y := m_X12_isAway) (as := [.int p0]) dd_X12_feign_10 me_X12_isAway lk_X12_405 in_X12_isAway se_X12_isAway ca_196 rfl rfl rfl (Nat.le_of_ble_eq_true rfl) (Nat.le_of_ble_eq_true rfl) rfl (V_X12_isAway (by omega)  H) (k2_Z fun r3 s4 H => ?_)
    refine fs_if_ne (tgt := 26) dd_X12_feign_13 (by decide) (fun hc => ?_) (fun hc => ?_)
    · replace H := H.1 (bi_1 hc)
      refine fs_iconst (n := -1) (v := -1) dd_X12_feign_26 (by decide) ?_
      exact fs_iret dd_X12_feign_27 rfl H
    · replace H := H.2 (bi_0 hc)
      refine fs_aload_n (k0 := 0) (i := 0) dd_X12_feign_16 rfl rfl ?_
      refine fs_iconst (n := 1) (v := 1) dd_X12_feign_17 (by decide) ?_
      refine fs_iconst (n := 1) (v := 1) dd_X12_feign_18 (by decide) ?_
      refine fs_iconst (n := 1) (v := 1) dd_X12_feign_19 (by decide) ?_
      refine fs_callV (y := m_X12_isAhead) (as := [.int 1, .int 1, .int 1]) dd_X12_feign_20 me_X12_isAhead lk_X12_525 in_X12_isAhead se_X12_isAhead ca_196 rfl rfl rfl (Nat.le_of_ble_eq_true rfl) (Nat.le_of_ble_eq_true rfl) rfl (V_X12_isAhead (by omega)  H) (k2_Z fun r5 s6 H => ?_)
      refine fs_if_ne (tgt := 28) dd_X12_feign_23 (by decide) (fun hc => ?_) (fun hc => ?_)
      · replace H := H.1 (bi_1 hc)
        refine fs_iconst (n := 0) (v := 0) dd_X12_feign_28 (by decide) ?_
        refine fs_istore_n (k0 := 2) (i := 2) dd_X12_feign_29 rfl (by decide) ?_
        refine fs_weak (ls2 := [.ref 196, .int p0, .int 0, fz_J, fz_J]) (fz_le_e (fz_le_e (fz_le_e (fz_le_j (fz_le_j fz_le_n))))) ?_
        exact V_lp_X12_feign_30 hD    2048 H
      · replace H := H.2 (bi_0 hc)
        refine fs_iconst (n := -1) (v := -1) dd_X12_feign_26 (by decide) ?_
        exact fs_iret dd_X12_feign_27 rfl H
theorem dd_X12_worth_0 : decode m_X12_worth.2.1 0 = .ok (.aload_n 0, 1) := by decide +kernel
theorem dd_X12_worth_1 : decode m_X12_worth.2.1 1 = .ok (.iload_n 1, 1) := by decide +kernel
theorem dd_X12_worth_2 : decode m_X12_worth.2.1 2 = .ok (.i2l, 1) := by decide +kernel
theorem dd_X12_worth_3 : decode m_X12_worth.2.1 3 = .ok (.invokevirtual 509, 3) := by decide +kernel
theorem dd_X12_worth_6 : decode m_X12_worth.2.1 6 = .ok (.ifCond .eq 14, 3) := by decide +kernel
theorem dd_X12_worth_9 : decode m_X12_worth.2.1 9 = .ok (.aload_n 0, 1) := by decide +kernel
theorem dd_X12_worth_10 : decode m_X12_worth.2.1 10 = .ok (.iload_n 2, 1) := by decide +kernel
theorem dd_X12_worth_11 : decode m_X12_worth.2.1 11 = .ok (.iconst 1, 1) := by decide +kernel
theorem dd_X12_worth_12 : decode m_X12_worth.2.1 12 = .ok (.bipush 60, 2) := by decide +kernel
theorem dd_X12_worth_14 : decode m_X12_worth.2.1 14 = .ok (.invokevirtual 525, 3) := by decide +kernel
theorem dd_X12_worth_17 : decode m_X12_worth.2.1 17 = .ok (.ifCond .ne 7, 3) := by decide +kernel
theorem dd_X12_worth_20 : decode m_X12_worth.2.1 20 = .ok (.ldc2_w 521, 3) := by decide +kernel
theorem dd_X12_worth_23 : decode m_X12_worth.2.1 23 = .ok (.lreturn, 1) := by decide +kernel
theorem dd_X12_worth_24 : decode m_X12_worth.2.1 24 = .ok (.aload_n 0, 1) := by decide +kernel
theorem dd_X12_worth_25 : decode m_X12_worth.2.1 25 = .ok (.invokevirtual 529, 3) := by decide +kernel
theorem dd_X12_worth_28 : decode m_X12_worth.2.1 28 = .ok (.aload_n 0, 1) := by decide +kernel
theorem dd_X12_worth_29 : decode m_X12_worth.2.1 29 = .ok (.iload_n 2, 1) := by decide +kernel
theorem dd_X12_worth_30 : decode m_X12_worth.2.1 30 = .ok (.invokevirtual 532, 3) := by decide +kernel
theorem dd_X12_worth_33 : decode m_X12_worth.2.1 33 = .ok (.aload_n 0, 1) := by decide +kernel
theorem dd_X12_worth_34 : decode m_X12_worth.2.1 34 = .ok (.getfield 121, 3) := by decide +kernel
theorem dd_X12_worth_37 : decode m_X12_worth.2.1 37 = .ok (.iconst 1, 1) := by decide +kernel
theorem dd_X12_worth_38 : decode m_X12_worth.2.1 38 = .ok (.iconst 2, 1) := by decide +kernel
theorem dd_X12_worth_39 : decode m_X12_worth.2.1 39 = .ok (.iload_n 1, 1) := by decide +kernel
theorem dd_X12_worth_40 : decode m_X12_worth.2.1 40 = .ok (.imul, 1) := by decide +kernel
theorem dd_X12_worth_41 : decode m_X12_worth.2.1 41 = .ok (.iadd, 1) := by decide +kernel
theorem dd_X12_worth_42 : decode m_X12_worth.2.1 42 = .ok (.iaload, 1) := by decide +kernel
theorem dd_X12_worth_43 : decode m_X12_worth.2.1 43 = .ok (.istore_n 3, 1) := by decide +kernel
theorem dd_X12_worth_44 : decode m_X12_worth.2.1 44 = .ok (.aload_n 0, 1) := by decide +kernel
theorem dd_X12_worth_45 : decode m_X12_worth.2.1 45 = .ok (.invokevirtual 500, 3) := by decide +kernel
theorem dd_X12_worth_48 : decode m_X12_worth.2.1 48 = .ok (.iconst 0, 1) := by decide +kernel
theorem dd_X12_worth_49 : decode m_X12_worth.2.1 49 = .ok (.istore 4, 2) := by decide +kernel
theorem dd_X12_worth_51 : decode m_X12_worth.2.1 51 = .ok (.iload 4, 2) := by decide +kernel
theorem dd_X12_worth_53 : decode m_X12_worth.2.1 53 = .ok (.iload_n 2, 1) := by decide +kernel
theorem dd_X12_worth_54 : decode m_X12_worth.2.1 54 = .ok (.if_icmp .ge 16, 3) := by decide +kernel
theorem dd_X12_worth_57 : decode m_X12_worth.2.1 57 = .ok (.aload_n 0, 1) := by decide +kernel
theorem dd_X12_worth_58 : decode m_X12_worth.2.1 58 = .ok (.iconst (-1), 1) := by decide +kernel
theorem dd_X12_worth_59 : decode m_X12_worth.2.1 59 = .ok (.iconst (-1), 1) := by decide +kernel
theorem dd_X12_worth_60 : decode m_X12_worth.2.1 60 = .ok (.iconst 0, 1) := by decide +kernel
theorem dd_X12_worth_61 : decode m_X12_worth.2.1 61 = .ok (.invokevirtual 493, 3) := by decide +kernel
theorem dd_X12_worth_64 : decode m_X12_worth.2.1 64 = .ok (.iinc 4 1, 3) := by decide +kernel
theorem dd_X12_worth_67 : decode m_X12_worth.2.1 67 = .ok (.goto (-16), 3) := by decide +kernel
theorem dd_X12_worth_70 : decode m_X12_worth.2.1 70 = .ok (.aload_n 0, 1) := by decide +kernel
theorem dd_X12_worth_71 : decode m_X12_worth.2.1 71 = .ok (.getfield 121, 3) := by decide +kernel
theorem dd_X12_worth_74 : decode m_X12_worth.2.1 74 = .ok (.iconst 1, 1) := by decide +kernel
theorem dd_X12_worth_75 : decode m_X12_worth.2.1 75 = .ok (.iconst 2, 1) := by decide +kernel
theorem dd_X12_worth_76 : decode m_X12_worth.2.1 76 = .ok (.iload_n 1, 1) := by decide +kernel
theorem dd_X12_worth_77 : decode m_X12_worth.2.1 77 = .ok (.imul, 1) := by decide +kernel
theorem dd_X12_worth_78 : decode m_X12_worth.2.1 78 = .ok (.iadd, 1) := by decide +kernel
theorem dd_X12_worth_79 : decode m_X12_worth.2.1 79 = .ok (.iaload, 1) := by decide +kernel
theorem dd_X12_worth_80 : decode m_X12_worth.2.1 80 = .ok (.istore 4, 2) := by decide +kernel
theorem dd_X12_worth_82 : decode m_X12_worth.2.1 82 = .ok (.aload_n 0, 1) := by decide +kernel
theorem dd_X12_worth_83 : decode m_X12_worth.2.1 83 = .ok (.invokevirtual 535, 3) := by decide +kernel
theorem dd_X12_worth_86 : decode m_X12_worth.2.1 86 = .ok (.iload_n 3, 1) := by decide +kernel
theorem dd_X12_worth_87 : decode m_X12_worth.2.1 87 = .ok (.iload 4, 2) := by decide +kernel
theorem dd_X12_worth_89 : decode m_X12_worth.2.1 89 = .ok (.isub, 1) := by decide +kernel
theorem dd_X12_worth_90 : decode m_X12_worth.2.1 90 = .ok (.i2l, 1) := by decide +kernel
theorem dd_X12_worth_91 : decode m_X12_worth.2.1 91 = .ok (.lreturn, 1) := by decide +kernel
def nd_X12_worth_51  (K51 : Int32 → Int32 → Int32 → Int32 → fz_s → Prop) (Q : Int64 → fz_s → Prop) (v1 : Int32) (v2 : Int32) (v3 : Int32) (v4 : Int32) (s : fz_s) : Prop :=
  ((v2 ≤ v4 → vp_in (1 + (2 * v1)) 150 ∧ ∀ x1 : Int32, x1 = (s.1 232 (1 + (2 * v1)).toNatClampNeg) → wp_X12_takesBack  s (fun s3 => Q ((v3 - x1).toInt64) s3)) ∧ (¬ v2 ≤ v4 → wp_X12_yearWith (-1) (-1) false s (fun s5 => ∀ x6 : Int32, x6 = v4 + 1 → K51 v1 v2 v3 x6 s5)))
def lp_X12_worth_51   (Q : Int64 → fz_s → Prop) : Nat → Int32 → Int32 → Int32 → Int32 → fz_s → Prop
  | 0 => fun _ _ _ _ _ => False
  | n + 1 => nd_X12_worth_51  (lp_X12_worth_51   Q n) Q
def wp_X12_worth (p0 : Int32) (p1 : Int32) (s : fz_s) (Q : Int64 → fz_s → Prop) : Prop :=
  wp_X12_isVillage p0.toInt64 s (fun r1 s2 => ((r1 = false → Q (-1000000000000000) s2) ∧ (r1 = true → wp_X12_isAhead p1 1 60 s2 (fun r3 s4 => ((r3 = true → wp_X12_putsAside  s4 (fun s6 => wp_X12_yearsGo p1 s6 (fun s8 => vp_in (1 + (2 * p0)) 150 ∧ ∀ x9 : Int32, x9 = (s8.1 232 (1 + (2 * p0)).toNatClampNeg) → wp_X12_triesAnew  s8 (fun s11 => lp_X12_worth_51   Q 2048 p0 p1 x9 0 s11)))) ∧ (r3 = false → Q (-1000000000000000) s4))))))
set_option maxRecDepth 100000 in
set_option maxHeartbeats 4000000 in
theorem V_nd_X12_worth_51 {g : fz_G} {l : Launch} {d : Nat} (hD : 10 ≤ d)   {K51 : Int32 → Int32 → Int32 → Int32 → fz_s → Prop} {Q : Int64 → fz_s → Prop} {v1 : Int32} {v2 : Int32} {v3 : Int32} {v4 : Int32} {s : fz_s} (hK51 : ∀ {v1 : Int32} {v2 : Int32} {v3 : Int32} {v4 : Int32} {s : fz_s}, K51 v1 v2 v3 v4 s → fs_V g l m_X12_worth d false 51 [.ref 196, .int v1, .int v2, .int v3, .int v4] [] s (rL Q)) (H : nd_X12_worth_51  K51 Q v1 v2 v3 v4 s) : fs_V g l m_X12_worth d false 51 [.ref 196, .int v1, .int v2, .int v3, .int v4] [] s (rL Q) := by
  obtain ⟨d, rfl⟩ : ∃ e, d = e + 1 := ⟨d - 1, by omega⟩
  unfold nd_X12_worth_51 at H
  refine fs_iload (i := 4) dd_X12_worth_51 rfl ?_
  refine fs_iload_n (k0 := 2) (i := 2) dd_X12_worth_53 rfl rfl ?_
  refine fs_icmp_ge (tgt := 70) dd_X12_worth_54 (by decide) (fun hc => ?_) (fun hc => ?_)
  · replace H := H.1 hc
    refine fs_aload_n (k0 := 0) (i := 0) dd_X12_worth_70 rfl rfl ?_
    refine fs_getr (ci := 12) (j := 54) (q := 232) dd_X12_worth_71 fl_X12_121 ca_196 rfl (Or.inr ⟨_, rfl⟩) rfl (by decide) ?_
    refine fs_iconst (n := 1) (v := 1) dd_X12_worth_74 (by decide) ?_
    refine fs_iconst (n := 2) (v := 2) dd_X12_worth_75 (by decide) ?_
    refine fs_iload_n (k0 := 1) (i := 1) dd_X12_worth_76 rfl rfl ?_
    refine fs_imul dd_X12_worth_77 ?_
    refine fs_iadd dd_X12_worth_78 ?_
    have hb := H.1
    replace H := H.2
    refine fs_iald dd_X12_worth_79 ca_232 hb ?_
    refine fs_topi (fun x1 hx1 => ?_)
    replace H := H x1 hx1
    refine fs_istore (i := 4) dd_X12_worth_80 (by decide) ?_
    refine fs_aload_n (k0 := 0) (i := 0) dd_X12_worth_82 rfl rfl ?_
    refine fs_callV (y := m_X12_takesBack) (as := []) dd_X12_worth_83 me_X12_takesBack lk_X12_535 in_X12_takesBack se_X12_takesBack ca_196 rfl rfl rfl (Nat.le_of_ble_eq_true rfl) (Nat.le_of_ble_eq_true rfl) rfl (V_X12_takesBack (by omega)  H) (k2_V fun s3 H => ?_)
    refine fs_iload_n (k0 := 3) (i := 3) dd_X12_worth_86 rfl rfl ?_
    refine fs_iload (i := 4) dd_X12_worth_87 rfl ?_
    refine fs_isub dd_X12_worth_89 ?_
    refine fs_i2l dd_X12_worth_90 ?_
    exact fs_lret dd_X12_worth_91 rfl H
  · replace H := H.2 hc
    refine fs_aload_n (k0 := 0) (i := 0) dd_X12_worth_57 rfl rfl ?_
    refine fs_iconst (n := -1) (v := -1) dd_X12_worth_58 (by decide) ?_
    refine fs_iconst (n := -1) (v := -1) dd_X12_worth_59 (by decide) ?_
    refine fs_iconst (n := 0) (v := 0) dd_X12_worth_60 (by decide) ?_
    refine fs_callV (y := m_X12_yearWith) (as := [.int (-1), .int (-1), .int 0]) dd_X12_worth_61 me_X12_yearWith lk_X12_493 in_X12_yearWith se_X12_yearWith ca_196 rfl rfl rfl (Nat.le_of_ble_eq_true rfl) (Nat.le_of_ble_eq_true rfl) rfl (V_X12_yearWith (by omega)  H) (k2_V fun s5 H => ?_)
    refine fs_iincN (i := 4) (m := 1) (c := 1) dd_X12_worth_64 rfl (by decide) (by decide) (fun x6 hx6 => ?_)
    replace H := H x6 hx6
    refine fs_goto (tgt := 51) dd_X12_worth_67 (by decide) ?_
    refine fs_weak (ls2 := [.ref 196, .int v1, .int v2, .int v3, .int x6]) (fz_le_e (fz_le_e (fz_le_e (fz_le_e (fz_le_e fz_le_n))))) ?_
    exact hK51 H
set_option maxRecDepth 100000 in
set_option maxHeartbeats 4000000 in
theorem V_lp_X12_worth_51 {g : fz_G} {l : Launch} {d : Nat} (hD : 10 ≤ d)    {Q : Int64 → fz_s → Prop}  (n : Nat) : ∀ {v1 : Int32} {v2 : Int32} {v3 : Int32} {v4 : Int32} {s : fz_s}, lp_X12_worth_51   Q n v1 v2 v3 v4 s → fs_V g l m_X12_worth d false 51 [.ref 196, .int v1, .int v2, .int v3, .int v4] [] s (rL Q) := by
  induction n with
  | zero => intro v1 v2 v3 v4 s H; exact H.elim
  | succ n ih => intro v1 v2 v3 v4 s H; exact V_nd_X12_worth_51 hD  (fun H => ih H) H
set_option maxRecDepth 100000 in
set_option maxHeartbeats 4000000 in
theorem V_X12_worth {g : fz_G} {l : Launch} {d : Nat} (hD : 10 ≤ d) {p0 : Int32} {p1 : Int32}  {s : fz_s} {Q : Int64 → fz_s → Prop} (H : wp_X12_worth p0 p1 s Q) : fs_V g l m_X12_worth d false 0 (fz_en [.ref 196, .int p0, .int p1] 5) [] s (rL Q) := by
  obtain ⟨d, rfl⟩ : ∃ e, d = e + 1 := ⟨d - 1, by omega⟩
  unfold wp_X12_worth at H
  refine fs_aload_n (k0 := 0) (i := 0) dd_X12_worth_0 rfl rfl ?_
  refine fs_iload_n (k0 := 1) (i := 1) dd_X12_worth_1 rfl rfl ?_
  refine fs_i2l dd_X12_worth_2 ?_
  refine fs_callV (y := m_X12_isVillage) (as := [.long p0.toInt64]) dd_X12_worth_3 me_X12_isVillage lk_X12_509 in_X12_isVillage se_X12_isVillage ca_196 rfl rfl rfl (Nat.le_of_ble_eq_true rfl) (Nat.le_of_ble_eq_true rfl) rfl (V_X12_isVillage (by omega)  H) (k2_Z fun r1 s2 H => ?_)
  refine fs_if_eq (tgt := 20) dd_X12_worth_6 (by decide) (fun hc => ?_) (fun hc => ?_)
  · replace H := H.1 (bi_0 hc)
    refine fs_ldc2 (idx := 521) (v := -1000000000000000) dd_X12_worth_20 cl_X12_521 ?_
    exact fs_lret dd_X12_worth_23 rfl H
  · replace H := H.2 (bi_1 hc)
    refine fs_aload_n (k0 := 0) (i := 0) dd_X12_worth_9 rfl rfl ?_
    refine fs_iload_n (k0 := 2) (i := 2) dd_X12_worth_10 rfl rfl ?_
    refine fs_iconst (n := 1) (v := 1) dd_X12_worth_11 (by decide) ?_
    refine fs_bipush (n := 60) (v := 60) dd_X12_worth_12 (by decide) ?_
    refine fs_callV (y := m_X12_isAhead) (as := [.int p1, .int 1, .int 60]) dd_X12_worth_14 me_X12_isAhead lk_X12_525 in_X12_isAhead se_X12_isAhead ca_196 rfl rfl rfl (Nat.le_of_ble_eq_true rfl) (Nat.le_of_ble_eq_true rfl) rfl (V_X12_isAhead (by omega)  H) (k2_Z fun r3 s4 H => ?_)
    refine fs_if_ne (tgt := 24) dd_X12_worth_17 (by decide) (fun hc => ?_) (fun hc => ?_)
    · replace H := H.1 (bi_1 hc)
      refine fs_aload_n (k0 := 0) (i := 0) dd_X12_worth_24 rfl rfl ?_
      refine fs_callV (y := m_X12_putsAside) (as := []) dd_X12_worth_25 me_X12_putsAside lk_X12_529 in_X12_putsAside se_X12_putsAside ca_196 rfl rfl rfl (Nat.le_of_ble_eq_true rfl) (Nat.le_of_ble_eq_true rfl) rfl (V_X12_putsAside (by omega)  H) (k2_V fun s6 H => ?_)
      refine fs_aload_n (k0 := 0) (i := 0) dd_X12_worth_28 rfl rfl ?_
      refine fs_iload_n (k0 := 2) (i := 2) dd_X12_worth_29 rfl rfl ?_
      refine fs_callV (y := m_X12_yearsGo) (as := [.int p1]) dd_X12_worth_30 me_X12_yearsGo lk_X12_532 in_X12_yearsGo se_X12_yearsGo ca_196 rfl rfl rfl (Nat.le_of_ble_eq_true rfl) (Nat.le_of_ble_eq_true rfl) rfl (V_X12_yearsGo (by omega)  H) (k2_V fun s8 H => ?_)
      refine fs_aload_n (k0 := 0) (i := 0) dd_X12_worth_33 rfl rfl ?_
      refine fs_getr (ci := 12) (j := 54) (q := 232) dd_X12_worth_34 fl_X12_121 ca_196 rfl (Or.inr ⟨_, rfl⟩) rfl (by decide) ?_
      refine fs_iconst (n := 1) (v := 1) dd_X12_worth_37 (by decide) ?_
      refine fs_iconst (n := 2) (v := 2) dd_X12_worth_38 (by decide) ?_
      refine fs_iload_n (k0 := 1) (i := 1) dd_X12_worth_39 rfl rfl ?_
      refine fs_imul dd_X12_worth_40 ?_
      refine fs_iadd dd_X12_worth_41 ?_
      have hb := H.1
      replace H := H.2
      refine fs_iald dd_X12_worth_42 ca_232 hb ?_
      refine fs_topi (fun x9 hx9 => ?_)
      replace H := H x9 hx9
      refine fs_istore_n (k0 := 3) (i := 3) dd_X12_worth_43 rfl (by decide) ?_
      refine fs_aload_n (k0 := 0) (i := 0) dd_X12_worth_44 rfl rfl ?_
      refine fs_callV (y := m_X12_triesAnew) (as := []) dd_X12_worth_45 me_X12_triesAnew lk_X12_500 in_X12_triesAnew se_X12_triesAnew ca_196 rfl rfl rfl (Nat.le_of_ble_eq_true rfl) (Nat.le_of_ble_eq_true rfl) rfl (V_X12_triesAnew (by omega)  H) (k2_V fun s11 H => ?_)
      refine fs_iconst (n := 0) (v := 0) dd_X12_worth_48 (by decide) ?_
      refine fs_istore (i := 4) dd_X12_worth_49 (by decide) ?_
      refine fs_weak (ls2 := [.ref 196, .int p0, .int p1, .int x9, .int 0]) (fz_le_e (fz_le_e (fz_le_e (fz_le_e (fz_le_e fz_le_n))))) ?_
      exact V_lp_X12_worth_51 hD    2048 H
    · replace H := H.2 (bi_0 hc)
      refine fs_ldc2 (idx := 521) (v := -1000000000000000) dd_X12_worth_20 cl_X12_521 ?_
      exact fs_lret dd_X12_worth_23 rfl H
theorem dd_X12_refuses_0 : decode m_X12_refuses.2.1 0 = .ok (.aload_n 0, 1) := by decide +kernel
theorem dd_X12_refuses_1 : decode m_X12_refuses.2.1 1 = .ok (.getfield 17, 3) := by decide +kernel
theorem dd_X12_refuses_4 : decode m_X12_refuses.2.1 4 = .ok (.iload_n 1, 1) := by decide +kernel
theorem dd_X12_refuses_5 : decode m_X12_refuses.2.1 5 = .ok (.dup2, 1) := by decide +kernel
theorem dd_X12_refuses_6 : decode m_X12_refuses.2.1 6 = .ok (.iaload, 1) := by decide +kernel
theorem dd_X12_refuses_7 : decode m_X12_refuses.2.1 7 = .ok (.iconst 1, 1) := by decide +kernel
theorem dd_X12_refuses_8 : decode m_X12_refuses.2.1 8 = .ok (.iadd, 1) := by decide +kernel
theorem dd_X12_refuses_9 : decode m_X12_refuses.2.1 9 = .ok (.iastore, 1) := by decide +kernel
theorem dd_X12_refuses_10 : decode m_X12_refuses.2.1 10 = .ok (.iconst (-1), 1) := by decide +kernel
theorem dd_X12_refuses_11 : decode m_X12_refuses.2.1 11 = .ok (.ireturn, 1) := by decide +kernel
def wp_X12_refuses (p0 : Int32) (s : fz_s) (Q : Int32 → fz_s → Prop) : Prop :=
  vp_in p0 6 ∧ vp_in p0 6 ∧ ∀ s1 : fz_s, s1 = si s 198 p0.toNatClampNeg ((s.1 198 p0.toNatClampNeg) + 1) → Q (-1) s1
set_option maxRecDepth 100000 in
set_option maxHeartbeats 4000000 in
theorem V_X12_refuses {g : fz_G} {l : Launch} {d : Nat} (hD : 0 ≤ d) {p0 : Int32}  {s : fz_s} {Q : Int32 → fz_s → Prop} (H : wp_X12_refuses p0 s Q) : fs_V g l m_X12_refuses d false 0 (fz_en [.ref 196, .int p0] 2) [] s (rI Q) := by
  unfold wp_X12_refuses at H
  refine fs_aload_n (k0 := 0) (i := 0) dd_X12_refuses_0 rfl rfl ?_
  refine fs_getr (ci := 12) (j := 9) (q := 198) dd_X12_refuses_1 fl_X12_17 ca_196 rfl (Or.inr ⟨_, rfl⟩) rfl (by decide) ?_
  refine fs_iload_n (k0 := 1) (i := 1) dd_X12_refuses_4 rfl rfl ?_
  refine fs_dup2 dd_X12_refuses_5 rfl rfl ?_
  have hb := H.1
  replace H := H.2
  refine fs_iald dd_X12_refuses_6 ca_198 hb ?_
  refine fs_iconst (n := 1) (v := 1) dd_X12_refuses_7 (by decide) ?_
  refine fs_iadd dd_X12_refuses_8 ?_
  have hb := H.1
  replace H := H.2
  refine fs_iast dd_X12_refuses_9 ca_198 hb ?_
  refine fs_tops (fun s1 hs1 => ?_)
  replace H := H s1 hs1
  refine fs_iconst (n := -1) (v := -1) dd_X12_refuses_10 (by decide) ?_
  exact fs_iret dd_X12_refuses_11 rfl H
theorem dd_X12_twoAt_0 : decode m_X12_twoAt.2.1 0 = .ok (.sipush 256, 3) := by decide +kernel
theorem dd_X12_twoAt_3 : decode m_X12_twoAt.2.1 3 = .ok (.aload_n 0, 1) := by decide +kernel
theorem dd_X12_twoAt_4 : decode m_X12_twoAt.2.1 4 = .ok (.getfield 7, 3) := by decide +kernel
theorem dd_X12_twoAt_7 : decode m_X12_twoAt.2.1 7 = .ok (.iload_n 1, 1) := by decide +kernel
theorem dd_X12_twoAt_8 : decode m_X12_twoAt.2.1 8 = .ok (.iaload, 1) := by decide +kernel
theorem dd_X12_twoAt_9 : decode m_X12_twoAt.2.1 9 = .ok (.imul, 1) := by decide +kernel
theorem dd_X12_twoAt_10 : decode m_X12_twoAt.2.1 10 = .ok (.aload_n 0, 1) := by decide +kernel
theorem dd_X12_twoAt_11 : decode m_X12_twoAt.2.1 11 = .ok (.getfield 7, 3) := by decide +kernel
theorem dd_X12_twoAt_14 : decode m_X12_twoAt.2.1 14 = .ok (.iload_n 1, 1) := by decide +kernel
theorem dd_X12_twoAt_15 : decode m_X12_twoAt.2.1 15 = .ok (.iconst 1, 1) := by decide +kernel
theorem dd_X12_twoAt_16 : decode m_X12_twoAt.2.1 16 = .ok (.iadd, 1) := by decide +kernel
theorem dd_X12_twoAt_17 : decode m_X12_twoAt.2.1 17 = .ok (.iaload, 1) := by decide +kernel
theorem dd_X12_twoAt_18 : decode m_X12_twoAt.2.1 18 = .ok (.iadd, 1) := by decide +kernel
theorem dd_X12_twoAt_19 : decode m_X12_twoAt.2.1 19 = .ok (.ireturn, 1) := by decide +kernel
def wp_X12_twoAt (p0 : Int32) (s : fz_s) (Q : Int32 → fz_s → Prop) : Prop :=
  vp_in p0 1600 ∧ vp_in (p0 + 1) 1600 ∧ Q ((256 * (s.1 197 p0.toNatClampNeg)) + (s.1 197 (p0 + 1).toNatClampNeg)) s
set_option maxRecDepth 100000 in
set_option maxHeartbeats 4000000 in
theorem V_X12_twoAt {g : fz_G} {l : Launch} {d : Nat} (hD : 0 ≤ d) {p0 : Int32}  {s : fz_s} {Q : Int32 → fz_s → Prop} (H : wp_X12_twoAt p0 s Q) : fs_V g l m_X12_twoAt d false 0 (fz_en [.ref 196, .int p0] 2) [] s (rI Q) := by
  unfold wp_X12_twoAt at H
  refine fs_sipush (n := 256) (v := 256) dd_X12_twoAt_0 (by decide) ?_
  refine fs_aload_n (k0 := 0) (i := 0) dd_X12_twoAt_3 rfl rfl ?_
  refine fs_getr (ci := 12) (j := 0) (q := 197) dd_X12_twoAt_4 fl_X12_7 ca_196 rfl (Or.inr ⟨_, rfl⟩) rfl (by decide) ?_
  refine fs_iload_n (k0 := 1) (i := 1) dd_X12_twoAt_7 rfl rfl ?_
  have hb := H.1
  replace H := H.2
  refine fs_iald dd_X12_twoAt_8 ca_197 hb ?_
  refine fs_imul dd_X12_twoAt_9 ?_
  refine fs_aload_n (k0 := 0) (i := 0) dd_X12_twoAt_10 rfl rfl ?_
  refine fs_getr (ci := 12) (j := 0) (q := 197) dd_X12_twoAt_11 fl_X12_7 ca_196 rfl (Or.inr ⟨_, rfl⟩) rfl (by decide) ?_
  refine fs_iload_n (k0 := 1) (i := 1) dd_X12_twoAt_14 rfl rfl ?_
  refine fs_iconst (n := 1) (v := 1) dd_X12_twoAt_15 (by decide) ?_
  refine fs_iadd dd_X12_twoAt_16 ?_
  have hb := H.1
  replace H := H.2
  refine fs_iald dd_X12_twoAt_17 ca_197 hb ?_
  refine fs_iadd dd_X12_twoAt_18 ?_
  exact fs_iret dd_X12_twoAt_19 rfl H
theorem dd_X12_see_0 : decode m_X12_see.2.1 0 = .ok (.aload_n 0, 1) := by decide +kernel
theorem dd_X12_see_1 : decode m_X12_see.2.1 1 = .ok (.getfield 249, 3) := by decide +kernel
theorem dd_X12_see_4 : decode m_X12_see.2.1 4 = .ok (.istore_n 1, 1) := by decide +kernel
theorem dd_X12_see_5 : decode m_X12_see.2.1 5 = .ok (.aload_n 0, 1) := by decide +kernel
theorem dd_X12_see_6 : decode m_X12_see.2.1 6 = .ok (.iconst 0, 1) := by decide +kernel
theorem dd_X12_see_7 : decode m_X12_see.2.1 7 = .ok (.putfield 249, 3) := by decide +kernel
theorem dd_X12_see_10 : decode m_X12_see.2.1 10 = .ok (.aload_n 0, 1) := by decide +kernel
theorem dd_X12_see_11 : decode m_X12_see.2.1 11 = .ok (.getfield 386, 3) := by decide +kernel
theorem dd_X12_see_14 : decode m_X12_see.2.1 14 = .ok (.ifCond .eq 25, 3) := by decide +kernel
theorem dd_X12_see_17 : decode m_X12_see.2.1 17 = .ok (.iload_n 1, 1) := by decide +kernel
theorem dd_X12_see_18 : decode m_X12_see.2.1 18 = .ok (.ifCond .le 21, 3) := by decide +kernel
theorem dd_X12_see_21 : decode m_X12_see.2.1 21 = .ok (.iload_n 1, 1) := by decide +kernel
theorem dd_X12_see_22 : decode m_X12_see.2.1 22 = .ok (.iconst 4, 1) := by decide +kernel
theorem dd_X12_see_23 : decode m_X12_see.2.1 23 = .ok (.irem, 1) := by decide +kernel
theorem dd_X12_see_24 : decode m_X12_see.2.1 24 = .ok (.ifCond .ne 15, 3) := by decide +kernel
theorem dd_X12_see_27 : decode m_X12_see.2.1 27 = .ok (.iload_n 1, 1) := by decide +kernel
theorem dd_X12_see_28 : decode m_X12_see.2.1 28 = .ok (.iconst 4, 1) := by decide +kernel
theorem dd_X12_see_29 : decode m_X12_see.2.1 29 = .ok (.idiv, 1) := by decide +kernel
theorem dd_X12_see_30 : decode m_X12_see.2.1 30 = .ok (.bipush 16, 2) := by decide +kernel
theorem dd_X12_see_32 : decode m_X12_see.2.1 32 = .ok (.if_icmp .gt 7, 3) := by decide +kernel
theorem dd_X12_see_35 : decode m_X12_see.2.1 35 = .ok (.iconst 1, 1) := by decide +kernel
theorem dd_X12_see_36 : decode m_X12_see.2.1 36 = .ok (.goto 4, 3) := by decide +kernel
theorem dd_X12_see_39 : decode m_X12_see.2.1 39 = .ok (.iconst 0, 1) := by decide +kernel
theorem dd_X12_see_40 : decode m_X12_see.2.1 40 = .ok (.istore_n 2, 1) := by decide +kernel
theorem dd_X12_see_41 : decode m_X12_see.2.1 41 = .ok (.iconst 0, 1) := by decide +kernel
theorem dd_X12_see_42 : decode m_X12_see.2.1 42 = .ok (.istore_n 3, 1) := by decide +kernel
theorem dd_X12_see_43 : decode m_X12_see.2.1 43 = .ok (.iload_n 3, 1) := by decide +kernel
theorem dd_X12_see_44 : decode m_X12_see.2.1 44 = .ok (.iload_n 1, 1) := by decide +kernel
theorem dd_X12_see_45 : decode m_X12_see.2.1 45 = .ok (.if_icmp .ge 55, 3) := by decide +kernel
theorem dd_X12_see_48 : decode m_X12_see.2.1 48 = .ok (.iload_n 2, 1) := by decide +kernel
theorem dd_X12_see_49 : decode m_X12_see.2.1 49 = .ok (.ifCond .eq 51, 3) := by decide +kernel
theorem dd_X12_see_52 : decode m_X12_see.2.1 52 = .ok (.aload_n 0, 1) := by decide +kernel
theorem dd_X12_see_53 : decode m_X12_see.2.1 53 = .ok (.getfield 7, 3) := by decide +kernel
theorem dd_X12_see_56 : decode m_X12_see.2.1 56 = .ok (.iload_n 3, 1) := by decide +kernel
theorem dd_X12_see_57 : decode m_X12_see.2.1 57 = .ok (.iaload, 1) := by decide +kernel
theorem dd_X12_see_58 : decode m_X12_see.2.1 58 = .ok (.bipush 30, 2) := by decide +kernel
theorem dd_X12_see_60 : decode m_X12_see.2.1 60 = .ok (.if_icmp .gt 32, 3) := by decide +kernel
theorem dd_X12_see_63 : decode m_X12_see.2.1 63 = .ok (.aload_n 0, 1) := by decide +kernel
theorem dd_X12_see_64 : decode m_X12_see.2.1 64 = .ok (.getfield 7, 3) := by decide +kernel
theorem dd_X12_see_67 : decode m_X12_see.2.1 67 = .ok (.iload_n 3, 1) := by decide +kernel
theorem dd_X12_see_68 : decode m_X12_see.2.1 68 = .ok (.iconst 1, 1) := by decide +kernel
theorem dd_X12_see_69 : decode m_X12_see.2.1 69 = .ok (.iadd, 1) := by decide +kernel
theorem dd_X12_see_70 : decode m_X12_see.2.1 70 = .ok (.iaload, 1) := by decide +kernel
theorem dd_X12_see_71 : decode m_X12_see.2.1 71 = .ok (.iconst 1, 1) := by decide +kernel
theorem dd_X12_see_72 : decode m_X12_see.2.1 72 = .ok (.if_icmp .gt 20, 3) := by decide +kernel
theorem dd_X12_see_75 : decode m_X12_see.2.1 75 = .ok (.aload_n 0, 1) := by decide +kernel
theorem dd_X12_see_76 : decode m_X12_see.2.1 76 = .ok (.iload_n 3, 1) := by decide +kernel
theorem dd_X12_see_77 : decode m_X12_see.2.1 77 = .ok (.iconst 2, 1) := by decide +kernel
theorem dd_X12_see_78 : decode m_X12_see.2.1 78 = .ok (.iadd, 1) := by decide +kernel
theorem dd_X12_see_79 : decode m_X12_see.2.1 79 = .ok (.invokevirtual 568, 3) := by decide +kernel
theorem dd_X12_see_82 : decode m_X12_see.2.1 82 = .ok (.sipush 999, 3) := by decide +kernel
theorem dd_X12_see_85 : decode m_X12_see.2.1 85 = .ok (.if_icmp .gt 7, 3) := by decide +kernel
theorem dd_X12_see_88 : decode m_X12_see.2.1 88 = .ok (.iconst 1, 1) := by decide +kernel
theorem dd_X12_see_89 : decode m_X12_see.2.1 89 = .ok (.goto 4, 3) := by decide +kernel
theorem dd_X12_see_92 : decode m_X12_see.2.1 92 = .ok (.iconst 0, 1) := by decide +kernel
theorem dd_X12_see_93 : decode m_X12_see.2.1 93 = .ok (.istore_n 2, 1) := by decide +kernel
theorem dd_X12_see_94 : decode m_X12_see.2.1 94 = .ok (.iinc 3 4, 3) := by decide +kernel
theorem dd_X12_see_97 : decode m_X12_see.2.1 97 = .ok (.goto (-54), 3) := by decide +kernel
theorem dd_X12_see_100 : decode m_X12_see.2.1 100 = .ok (.iload_n 2, 1) := by decide +kernel
theorem dd_X12_see_101 : decode m_X12_see.2.1 101 = .ok (.ifCond .ne 9, 3) := by decide +kernel
theorem dd_X12_see_104 : decode m_X12_see.2.1 104 = .ok (.aload_n 0, 1) := by decide +kernel
theorem dd_X12_see_105 : decode m_X12_see.2.1 105 = .ok (.iconst 1, 1) := by decide +kernel
theorem dd_X12_see_106 : decode m_X12_see.2.1 106 = .ok (.invokevirtual 571, 3) := by decide +kernel
theorem dd_X12_see_109 : decode m_X12_see.2.1 109 = .ok (.ireturn, 1) := by decide +kernel
theorem dd_X12_see_110 : decode m_X12_see.2.1 110 = .ok (.aload_n 0, 1) := by decide +kernel
theorem dd_X12_see_111 : decode m_X12_see.2.1 111 = .ok (.iload_n 1, 1) := by decide +kernel
theorem dd_X12_see_112 : decode m_X12_see.2.1 112 = .ok (.iconst 4, 1) := by decide +kernel
theorem dd_X12_see_113 : decode m_X12_see.2.1 113 = .ok (.idiv, 1) := by decide +kernel
theorem dd_X12_see_114 : decode m_X12_see.2.1 114 = .ok (.putfield 399, 3) := by decide +kernel
theorem dd_X12_see_117 : decode m_X12_see.2.1 117 = .ok (.iconst 0, 1) := by decide +kernel
theorem dd_X12_see_118 : decode m_X12_see.2.1 118 = .ok (.istore_n 3, 1) := by decide +kernel
theorem dd_X12_see_119 : decode m_X12_see.2.1 119 = .ok (.iload_n 3, 1) := by decide +kernel
theorem dd_X12_see_120 : decode m_X12_see.2.1 120 = .ok (.aload_n 0, 1) := by decide +kernel
theorem dd_X12_see_121 : decode m_X12_see.2.1 121 = .ok (.getfield 399, 3) := by decide +kernel
theorem dd_X12_see_124 : decode m_X12_see.2.1 124 = .ok (.if_icmp .ge 64, 3) := by decide +kernel
theorem dd_X12_see_127 : decode m_X12_see.2.1 127 = .ok (.aload_n 0, 1) := by decide +kernel
theorem dd_X12_see_128 : decode m_X12_see.2.1 128 = .ok (.getfield 145, 3) := by decide +kernel
theorem dd_X12_see_131 : decode m_X12_see.2.1 131 = .ok (.iconst 3, 1) := by decide +kernel
theorem dd_X12_see_132 : decode m_X12_see.2.1 132 = .ok (.iload_n 3, 1) := by decide +kernel
theorem dd_X12_see_133 : decode m_X12_see.2.1 133 = .ok (.imul, 1) := by decide +kernel
theorem dd_X12_see_134 : decode m_X12_see.2.1 134 = .ok (.aload_n 0, 1) := by decide +kernel
theorem dd_X12_see_135 : decode m_X12_see.2.1 135 = .ok (.getfield 7, 3) := by decide +kernel
theorem dd_X12_see_138 : decode m_X12_see.2.1 138 = .ok (.iconst 4, 1) := by decide +kernel
theorem dd_X12_see_139 : decode m_X12_see.2.1 139 = .ok (.iload_n 3, 1) := by decide +kernel
theorem dd_X12_see_140 : decode m_X12_see.2.1 140 = .ok (.imul, 1) := by decide +kernel
theorem dd_X12_see_141 : decode m_X12_see.2.1 141 = .ok (.iaload, 1) := by decide +kernel
theorem dd_X12_see_142 : decode m_X12_see.2.1 142 = .ok (.iastore, 1) := by decide +kernel
theorem dd_X12_see_143 : decode m_X12_see.2.1 143 = .ok (.aload_n 0, 1) := by decide +kernel
theorem dd_X12_see_144 : decode m_X12_see.2.1 144 = .ok (.getfield 145, 3) := by decide +kernel
theorem dd_X12_see_147 : decode m_X12_see.2.1 147 = .ok (.iconst 3, 1) := by decide +kernel
theorem dd_X12_see_148 : decode m_X12_see.2.1 148 = .ok (.iload_n 3, 1) := by decide +kernel
theorem dd_X12_see_149 : decode m_X12_see.2.1 149 = .ok (.imul, 1) := by decide +kernel
theorem dd_X12_see_150 : decode m_X12_see.2.1 150 = .ok (.iconst 1, 1) := by decide +kernel
theorem dd_X12_see_151 : decode m_X12_see.2.1 151 = .ok (.iadd, 1) := by decide +kernel
theorem dd_X12_see_152 : decode m_X12_see.2.1 152 = .ok (.aload_n 0, 1) := by decide +kernel
theorem dd_X12_see_153 : decode m_X12_see.2.1 153 = .ok (.getfield 7, 3) := by decide +kernel
theorem dd_X12_see_156 : decode m_X12_see.2.1 156 = .ok (.iconst 4, 1) := by decide +kernel
theorem dd_X12_see_157 : decode m_X12_see.2.1 157 = .ok (.iload_n 3, 1) := by decide +kernel
theorem dd_X12_see_158 : decode m_X12_see.2.1 158 = .ok (.imul, 1) := by decide +kernel
theorem dd_X12_see_159 : decode m_X12_see.2.1 159 = .ok (.iconst 1, 1) := by decide +kernel
theorem dd_X12_see_160 : decode m_X12_see.2.1 160 = .ok (.iadd, 1) := by decide +kernel
theorem dd_X12_see_161 : decode m_X12_see.2.1 161 = .ok (.iaload, 1) := by decide +kernel
theorem dd_X12_see_162 : decode m_X12_see.2.1 162 = .ok (.iastore, 1) := by decide +kernel
theorem dd_X12_see_163 : decode m_X12_see.2.1 163 = .ok (.aload_n 0, 1) := by decide +kernel
theorem dd_X12_see_164 : decode m_X12_see.2.1 164 = .ok (.getfield 145, 3) := by decide +kernel
theorem dd_X12_see_167 : decode m_X12_see.2.1 167 = .ok (.iconst 3, 1) := by decide +kernel
theorem dd_X12_see_168 : decode m_X12_see.2.1 168 = .ok (.iload_n 3, 1) := by decide +kernel
theorem dd_X12_see_169 : decode m_X12_see.2.1 169 = .ok (.imul, 1) := by decide +kernel
theorem dd_X12_see_170 : decode m_X12_see.2.1 170 = .ok (.iconst 2, 1) := by decide +kernel
theorem dd_X12_see_171 : decode m_X12_see.2.1 171 = .ok (.iadd, 1) := by decide +kernel
theorem dd_X12_see_172 : decode m_X12_see.2.1 172 = .ok (.aload_n 0, 1) := by decide +kernel
theorem dd_X12_see_173 : decode m_X12_see.2.1 173 = .ok (.iconst 4, 1) := by decide +kernel
theorem dd_X12_see_174 : decode m_X12_see.2.1 174 = .ok (.iload_n 3, 1) := by decide +kernel
theorem dd_X12_see_175 : decode m_X12_see.2.1 175 = .ok (.imul, 1) := by decide +kernel
theorem dd_X12_see_176 : decode m_X12_see.2.1 176 = .ok (.iconst 2, 1) := by decide +kernel
theorem dd_X12_see_177 : decode m_X12_see.2.1 177 = .ok (.iadd, 1) := by decide +kernel
theorem dd_X12_see_178 : decode m_X12_see.2.1 178 = .ok (.invokevirtual 568, 3) := by decide +kernel
theorem dd_X12_see_181 : decode m_X12_see.2.1 181 = .ok (.iastore, 1) := by decide +kernel
theorem dd_X12_see_182 : decode m_X12_see.2.1 182 = .ok (.iinc 3 1, 3) := by decide +kernel
theorem dd_X12_see_185 : decode m_X12_see.2.1 185 = .ok (.goto (-66), 3) := by decide +kernel
theorem dd_X12_see_188 : decode m_X12_see.2.1 188 = .ok (.aload_n 0, 1) := by decide +kernel
theorem dd_X12_see_189 : decode m_X12_see.2.1 189 = .ok (.getfield 399, 3) := by decide +kernel
theorem dd_X12_see_192 : decode m_X12_see.2.1 192 = .ok (.ireturn, 1) := by decide +kernel
def nd_X12_see_119  (K119 : Int32 → fz_s → Prop) (Q : Int32 → fz_s → Prop) (v3 : Int32) (s : fz_s) : Prop :=
  (((s.1 196 66) ≤ v3 → Q (s.1 196 66) s) ∧ (¬ (s.1 196 66) ≤ v3 → vp_in (4 * v3) 1600 ∧ vp_in (3 * v3) 48 ∧ ∀ s1 : fz_s, s1 = si s 240 (3 * v3).toNatClampNeg (s.1 197 (4 * v3).toNatClampNeg) → vp_in ((4 * v3) + 1) 1600 ∧ vp_in ((3 * v3) + 1) 48 ∧ ∀ s2 : fz_s, s2 = si s1 240 ((3 * v3) + 1).toNatClampNeg (s1.1 197 ((4 * v3) + 1).toNatClampNeg) → wp_X12_twoAt ((4 * v3) + 2) s2 (fun r3 s4 => vp_in ((3 * v3) + 2) 48 ∧ ∀ s5 : fz_s, s5 = si s4 240 ((3 * v3) + 2).toNatClampNeg r3 → ∀ x6 : Int32, x6 = v3 + 1 → K119 x6 s5)))
def lp_X12_see_119   (Q : Int32 → fz_s → Prop) : Nat → Int32 → fz_s → Prop
  | 0 => fun _ _ => False
  | n + 1 => nd_X12_see_119  (lp_X12_see_119   Q n) Q
def nd_X12_see_100   (Q : Int32 → fz_s → Prop) (v1 : Int32) (v2 : Bool) (s : fz_s) : Prop :=
  ((v2 = true → ∀ s1 : fz_s, s1 = si s 196 66 (v1 / 4) → lp_X12_see_119   Q 2048 0 s1) ∧ (v2 = false → wp_X12_refuses 1 s (fun r2 s3 => Q r2 s3)))
def nd_X12_see_43  (K43 : Int32 → Bool → Int32 → fz_s → Prop) (Q : Int32 → fz_s → Prop) (v1 : Int32) (v2 : Bool) (v3 : Int32) (s : fz_s) : Prop :=
  ((v1 ≤ v3 → nd_X12_see_100   Q v1 v2 s) ∧ (¬ v1 ≤ v3 → ((v2 = false → nd_X12_see_100   Q v1 v2 s) ∧ (v2 = true → vp_in v3 1600 ∧ ((30 < (s.1 197 v3.toNatClampNeg) → ∀ x1 : Int32, x1 = v3 + 4 → K43 v1 false x1 s) ∧ (¬ 30 < (s.1 197 v3.toNatClampNeg) → vp_in (v3 + 1) 1600 ∧ ((1 < (s.1 197 (v3 + 1).toNatClampNeg) → ∀ x2 : Int32, x2 = v3 + 4 → K43 v1 false x2 s) ∧ (¬ 1 < (s.1 197 (v3 + 1).toNatClampNeg) → wp_X12_twoAt (v3 + 2) s (fun r3 s4 => ((999 < r3 → ∀ x5 : Int32, x5 = v3 + 4 → K43 v1 false x5 s4) ∧ (¬ 999 < r3 → ∀ x6 : Int32, x6 = v3 + 4 → K43 v1 true x6 s4)))))))))))
def lp_X12_see_43   (Q : Int32 → fz_s → Prop) : Nat → Int32 → Bool → Int32 → fz_s → Prop
  | 0 => fun _ _ _ _ => False
  | n + 1 => nd_X12_see_43  (lp_X12_see_43   Q n) Q
def wp_X12_see  (s : fz_s) (Q : Int32 → fz_s → Prop) : Prop :=
  ∀ x1 : Int32, x1 = (s.1 196 1) → ∀ s2 : fz_s, s2 = si s 196 1 0 → (((s2.1 196 52) = 0 → lp_X12_see_43   Q 2048 x1 false 0 s2) ∧ (¬ (s2.1 196 52) = 0 → ((x1 ≤ 0 → lp_X12_see_43   Q 2048 x1 false 0 s2) ∧ (¬ x1 ≤ 0 → ((¬ (x1 - x1 / 4 * 4) = 0 → lp_X12_see_43   Q 2048 x1 false 0 s2) ∧ ((x1 - x1 / 4 * 4) = 0 → ((16 < (x1 / 4) → lp_X12_see_43   Q 2048 x1 false 0 s2) ∧ (¬ 16 < (x1 / 4) → lp_X12_see_43   Q 2048 x1 true 0 s2))))))))
set_option maxRecDepth 100000 in
set_option maxHeartbeats 4000000 in
theorem V_nd_X12_see_119 {g : fz_G} {l : Launch} {d : Nat} (hD : 1 ≤ d)   {K119 : Int32 → fz_s → Prop} {Q : Int32 → fz_s → Prop} {v3 : Int32} {s : fz_s} (hK119 : ∀ {v3 : Int32} {s : fz_s}, K119 v3 s → fs_V g l m_X12_see d false 119 [.ref 196, fz_J, fz_J, .int v3] [] s (rI Q)) (H : nd_X12_see_119  K119 Q v3 s) : fs_V g l m_X12_see d false 119 [.ref 196, fz_J, fz_J, .int v3] [] s (rI Q) := by
  obtain ⟨d, rfl⟩ : ∃ e, d = e + 1 := ⟨d - 1, by omega⟩
  unfold nd_X12_see_119 at H
  refine fs_iload_n (k0 := 3) (i := 3) dd_X12_see_119 rfl rfl ?_
  refine fs_aload_n (k0 := 0) (i := 0) dd_X12_see_120 rfl rfl ?_
  refine fs_geti (ci := 12) (j := 66) dd_X12_see_121 fl_X12_399 ca_196 rfl (Or.inl rfl) ?_
  refine fs_icmp_ge (tgt := 188) dd_X12_see_124 (by decide) (fun hc => ?_) (fun hc => ?_)
  · replace H := H.1 hc
    refine fs_aload_n (k0 := 0) (i := 0) dd_X12_see_188 rfl rfl ?_
    refine fs_geti (ci := 12) (j := 66) dd_X12_see_189 fl_X12_399 ca_196 rfl (Or.inl rfl) ?_
    exact fs_iret dd_X12_see_192 rfl H
  · replace H := H.2 hc
    refine fs_aload_n (k0 := 0) (i := 0) dd_X12_see_127 rfl rfl ?_
    refine fs_getr (ci := 12) (j := 67) (q := 240) dd_X12_see_128 fl_X12_145 ca_196 rfl (Or.inr ⟨_, rfl⟩) rfl (by decide) ?_
    refine fs_iconst (n := 3) (v := 3) dd_X12_see_131 (by decide) ?_
    refine fs_iload_n (k0 := 3) (i := 3) dd_X12_see_132 rfl rfl ?_
    refine fs_imul dd_X12_see_133 ?_
    refine fs_aload_n (k0 := 0) (i := 0) dd_X12_see_134 rfl rfl ?_
    refine fs_getr (ci := 12) (j := 0) (q := 197) dd_X12_see_135 fl_X12_7 ca_196 rfl (Or.inr ⟨_, rfl⟩) rfl (by decide) ?_
    refine fs_iconst (n := 4) (v := 4) dd_X12_see_138 (by decide) ?_
    refine fs_iload_n (k0 := 3) (i := 3) dd_X12_see_139 rfl rfl ?_
    refine fs_imul dd_X12_see_140 ?_
    have hb := H.1
    replace H := H.2
    refine fs_iald dd_X12_see_141 ca_197 hb ?_
    have hb := H.1
    replace H := H.2
    refine fs_iast dd_X12_see_142 ca_240 hb ?_
    refine fs_tops (fun s1 hs1 => ?_)
    replace H := H s1 hs1
    refine fs_aload_n (k0 := 0) (i := 0) dd_X12_see_143 rfl rfl ?_
    refine fs_getr (ci := 12) (j := 67) (q := 240) dd_X12_see_144 fl_X12_145 ca_196 rfl (Or.inr ⟨_, rfl⟩) rfl (by decide) ?_
    refine fs_iconst (n := 3) (v := 3) dd_X12_see_147 (by decide) ?_
    refine fs_iload_n (k0 := 3) (i := 3) dd_X12_see_148 rfl rfl ?_
    refine fs_imul dd_X12_see_149 ?_
    refine fs_iconst (n := 1) (v := 1) dd_X12_see_150 (by decide) ?_
    refine fs_iadd dd_X12_see_151 ?_
    refine fs_aload_n (k0 := 0) (i := 0) dd_X12_see_152 rfl rfl ?_
    refine fs_getr (ci := 12) (j := 0) (q := 197) dd_X12_see_153 fl_X12_7 ca_196 rfl (Or.inr ⟨_, rfl⟩) rfl (by decide) ?_
    refine fs_iconst (n := 4) (v := 4) dd_X12_see_156 (by decide) ?_
    refine fs_iload_n (k0 := 3) (i := 3) dd_X12_see_157 rfl rfl ?_
    refine fs_imul dd_X12_see_158 ?_
    refine fs_iconst (n := 1) (v := 1) dd_X12_see_159 (by decide) ?_
    refine fs_iadd dd_X12_see_160 ?_
    have hb := H.1
    replace H := H.2
    refine fs_iald dd_X12_see_161 ca_197 hb ?_
    have hb := H.1
    replace H := H.2
    refine fs_iast dd_X12_see_162 ca_240 hb ?_
    refine fs_tops (fun s2 hs2 => ?_)
    replace H := H s2 hs2
    refine fs_aload_n (k0 := 0) (i := 0) dd_X12_see_163 rfl rfl ?_
    refine fs_getr (ci := 12) (j := 67) (q := 240) dd_X12_see_164 fl_X12_145 ca_196 rfl (Or.inr ⟨_, rfl⟩) rfl (by decide) ?_
    refine fs_iconst (n := 3) (v := 3) dd_X12_see_167 (by decide) ?_
    refine fs_iload_n (k0 := 3) (i := 3) dd_X12_see_168 rfl rfl ?_
    refine fs_imul dd_X12_see_169 ?_
    refine fs_iconst (n := 2) (v := 2) dd_X12_see_170 (by decide) ?_
    refine fs_iadd dd_X12_see_171 ?_
    refine fs_aload_n (k0 := 0) (i := 0) dd_X12_see_172 rfl rfl ?_
    refine fs_iconst (n := 4) (v := 4) dd_X12_see_173 (by decide) ?_
    refine fs_iload_n (k0 := 3) (i := 3) dd_X12_see_174 rfl rfl ?_
    refine fs_imul dd_X12_see_175 ?_
    refine fs_iconst (n := 2) (v := 2) dd_X12_see_176 (by decide) ?_
    refine fs_iadd dd_X12_see_177 ?_
    refine fs_callV (y := m_X12_twoAt) (as := [.int ((4 * v3) + 2)]) dd_X12_see_178 me_X12_twoAt lk_X12_568 in_X12_twoAt se_X12_twoAt ca_196 rfl rfl rfl (Nat.le_of_ble_eq_true rfl) (Nat.le_of_ble_eq_true rfl) rfl (V_X12_twoAt (by omega)  H) (k2_I fun r3 s4 H => ?_)
    have hb := H.1
    replace H := H.2
    refine fs_iast dd_X12_see_181 ca_240 hb ?_
    refine fs_tops (fun s5 hs5 => ?_)
    replace H := H s5 hs5
    refine fs_iincN (i := 3) (m := 1) (c := 1) dd_X12_see_182 rfl (by decide) (by decide) (fun x6 hx6 => ?_)
    replace H := H x6 hx6
    refine fs_goto (tgt := 119) dd_X12_see_185 (by decide) ?_
    refine fs_weak (ls2 := [.ref 196, fz_J, fz_J, .int x6]) (fz_le_e (fz_le_j (fz_le_j (fz_le_e fz_le_n)))) ?_
    exact hK119 H
set_option maxRecDepth 100000 in
set_option maxHeartbeats 4000000 in
theorem V_lp_X12_see_119 {g : fz_G} {l : Launch} {d : Nat} (hD : 1 ≤ d)    {Q : Int32 → fz_s → Prop}  (n : Nat) : ∀ {v3 : Int32} {s : fz_s}, lp_X12_see_119   Q n v3 s → fs_V g l m_X12_see d false 119 [.ref 196, fz_J, fz_J, .int v3] [] s (rI Q) := by
  induction n with
  | zero => intro v3 s H; exact H.elim
  | succ n ih => intro v3 s H; exact V_nd_X12_see_119 hD  (fun H => ih H) H
set_option maxRecDepth 100000 in
set_option maxHeartbeats 4000000 in
theorem V_nd_X12_see_100 {g : fz_G} {l : Launch} {d : Nat} (hD : 1 ≤ d)    {Q : Int32 → fz_s → Prop} {v1 : Int32} {v2 : Bool} {s : fz_s}  (H : nd_X12_see_100   Q v1 v2 s) : fs_V g l m_X12_see d false 100 [.ref 196, .int v1, .int (bi v2), fz_J] [] s (rI Q) := by
  obtain ⟨d, rfl⟩ : ∃ e, d = e + 1 := ⟨d - 1, by omega⟩
  unfold nd_X12_see_100 at H
  refine fs_iload_n (k0 := 2) (i := 2) dd_X12_see_100 rfl rfl ?_
  refine fs_if_ne (tgt := 110) dd_X12_see_101 (by decide) (fun hc => ?_) (fun hc => ?_)
  · replace H := H.1 (bi_1 hc)
    refine fs_aload_n (k0 := 0) (i := 0) dd_X12_see_110 rfl rfl ?_
    refine fs_iload_n (k0 := 1) (i := 1) dd_X12_see_111 rfl rfl ?_
    refine fs_iconst (n := 4) (v := 4) dd_X12_see_112 (by decide) ?_
    refine fs_idiv dd_X12_see_113 (by decide) ?_
    refine fs_puti (ci := 12) (j := 66) dd_X12_see_114 fl_X12_399 (fun _ _ _ h => by cases h; rfl) ca_196 rfl (Or.inl rfl) ?_
    refine fs_tops (fun s1 hs1 => ?_)
    replace H := H s1 hs1
    refine fs_iconst (n := 0) (v := 0) dd_X12_see_117 (by decide) ?_
    refine fs_istore_n (k0 := 3) (i := 3) dd_X12_see_118 rfl (by decide) ?_
    refine fs_weak (ls2 := [.ref 196, fz_J, fz_J, .int 0]) (fz_le_e (fz_le_j (fz_le_j (fz_le_e fz_le_n)))) ?_
    exact V_lp_X12_see_119 hD    2048 H
  · replace H := H.2 (bi_0 hc)
    refine fs_aload_n (k0 := 0) (i := 0) dd_X12_see_104 rfl rfl ?_
    refine fs_iconst (n := 1) (v := 1) dd_X12_see_105 (by decide) ?_
    refine fs_callV (y := m_X12_refuses) (as := [.int 1]) dd_X12_see_106 me_X12_refuses lk_X12_571 in_X12_refuses se_X12_refuses ca_196 rfl rfl rfl (Nat.le_of_ble_eq_true rfl) (Nat.le_of_ble_eq_true rfl) rfl (V_X12_refuses (by omega)  H) (k2_I fun r2 s3 H => ?_)
    exact fs_iret dd_X12_see_109 rfl H
set_option maxRecDepth 100000 in
set_option maxHeartbeats 4000000 in
theorem V_nd_X12_see_43 {g : fz_G} {l : Launch} {d : Nat} (hD : 1 ≤ d)   {K43 : Int32 → Bool → Int32 → fz_s → Prop} {Q : Int32 → fz_s → Prop} {v1 : Int32} {v2 : Bool} {v3 : Int32} {s : fz_s} (hK43 : ∀ {v1 : Int32} {v2 : Bool} {v3 : Int32} {s : fz_s}, K43 v1 v2 v3 s → fs_V g l m_X12_see d false 43 [.ref 196, .int v1, .int (bi v2), .int v3] [] s (rI Q)) (H : nd_X12_see_43  K43 Q v1 v2 v3 s) : fs_V g l m_X12_see d false 43 [.ref 196, .int v1, .int (bi v2), .int v3] [] s (rI Q) := by
  obtain ⟨d, rfl⟩ : ∃ e, d = e + 1 := ⟨d - 1, by omega⟩
  unfold nd_X12_see_43 at H
  refine fs_iload_n (k0 := 3) (i := 3) dd_X12_see_43 rfl rfl ?_
  refine fs_iload_n (k0 := 1) (i := 1) dd_X12_see_44 rfl rfl ?_
  refine fs_icmp_ge (tgt := 100) dd_X12_see_45 (by decide) (fun hc => ?_) (fun hc => ?_)
  · replace H := H.1 hc
    refine fs_weak (ls2 := [.ref 196, .int v1, .int (bi v2), fz_J]) (fz_le_e (fz_le_e (fz_le_e (fz_le_j fz_le_n)))) ?_
    exact V_nd_X12_see_100 hD    H
  · replace H := H.2 hc
    refine fs_iload_n (k0 := 2) (i := 2) dd_X12_see_48 rfl rfl ?_
    refine fs_if_eq (tgt := 100) dd_X12_see_49 (by decide) (fun hc => ?_) (fun hc => ?_)
    · replace H := H.1 (bi_0 hc)
      refine fs_weak (ls2 := [.ref 196, .int v1, .int (bi v2), fz_J]) (fz_le_e (fz_le_e (fz_le_e (fz_le_j fz_le_n)))) ?_
      exact V_nd_X12_see_100 hD    H
    · replace H := H.2 (bi_1 hc)
      refine fs_aload_n (k0 := 0) (i := 0) dd_X12_see_52 rfl rfl ?_
      refine fs_getr (ci := 12) (j := 0) (q := 197) dd_X12_see_53 fl_X12_7 ca_196 rfl (Or.inr ⟨_, rfl⟩) rfl (by decide) ?_
      refine fs_iload_n (k0 := 3) (i := 3) dd_X12_see_56 rfl rfl ?_
      have hb := H.1
      replace H := H.2
      refine fs_iald dd_X12_see_57 ca_197 hb ?_
      refine fs_bipush (n := 30) (v := 30) dd_X12_see_58 (by decide) ?_
      refine fs_icmp_gt (tgt := 92) dd_X12_see_60 (by decide) (fun hc => ?_) (fun hc => ?_)
      · replace H := H.1 hc
        refine fs_iconst (n := 0) (v := 0) dd_X12_see_92 (by decide) ?_
        refine fs_istore_n (k0 := 2) (i := 2) dd_X12_see_93 rfl (by decide) ?_
        refine fs_iincN (i := 3) (m := 4) (c := 4) dd_X12_see_94 rfl (by decide) (by decide) (fun x1 hx1 => ?_)
        replace H := H x1 hx1
        refine fs_goto (tgt := 43) dd_X12_see_97 (by decide) ?_
        refine fs_weak (ls2 := [.ref 196, .int v1, .int (bi false), .int x1]) (fz_le_e (fz_le_e (fz_le_e (fz_le_e fz_le_n)))) ?_
        exact hK43 H
      · replace H := H.2 hc
        refine fs_aload_n (k0 := 0) (i := 0) dd_X12_see_63 rfl rfl ?_
        refine fs_getr (ci := 12) (j := 0) (q := 197) dd_X12_see_64 fl_X12_7 ca_196 rfl (Or.inr ⟨_, rfl⟩) rfl (by decide) ?_
        refine fs_iload_n (k0 := 3) (i := 3) dd_X12_see_67 rfl rfl ?_
        refine fs_iconst (n := 1) (v := 1) dd_X12_see_68 (by decide) ?_
        refine fs_iadd dd_X12_see_69 ?_
        have hb := H.1
        replace H := H.2
        refine fs_iald dd_X12_see_70 ca_197 hb ?_
        refine fs_iconst (n := 1) (v := 1) dd_X12_see_71 (by decide) ?_
        refine fs_icmp_gt (tgt := 92) dd_X12_see_72 (by decide) (fun hc => ?_) (fun hc => ?_)
        · replace H := H.1 hc
          refine fs_iconst (n := 0) (v := 0) dd_X12_see_92 (by decide) ?_
          refine fs_istore_n (k0 := 2) (i := 2) dd_X12_see_93 rfl (by decide) ?_
          refine fs_iincN (i := 3) (m := 4) (c := 4) dd_X12_see_94 rfl (by decide) (by decide) (fun x2 hx2 => ?_)
          replace H := H x2 hx2
          refine fs_goto (tgt := 43) dd_X12_see_97 (by decide) ?_
          refine fs_weak (ls2 := [.ref 196, .int v1, .int (bi false), .int x2]) (fz_le_e (fz_le_e (fz_le_e (fz_le_e fz_le_n)))) ?_
          exact hK43 H
        · replace H := H.2 hc
          refine fs_aload_n (k0 := 0) (i := 0) dd_X12_see_75 rfl rfl ?_
          refine fs_iload_n (k0 := 3) (i := 3) dd_X12_see_76 rfl rfl ?_
          refine fs_iconst (n := 2) (v := 2) dd_X12_see_77 (by decide) ?_
          refine fs_iadd dd_X12_see_78 ?_
          refine fs_callV (y := m_X12_twoAt) (as := [.int (v3 + 2)]) dd_X12_see_79 me_X12_twoAt lk_X12_568 in_X12_twoAt se_X12_twoAt ca_196 rfl rfl rfl (Nat.le_of_ble_eq_true rfl) (Nat.le_of_ble_eq_true rfl) rfl (V_X12_twoAt (by omega)  H) (k2_I fun r3 s4 H => ?_)
          refine fs_sipush (n := 999) (v := 999) dd_X12_see_82 (by decide) ?_
          refine fs_icmp_gt (tgt := 92) dd_X12_see_85 (by decide) (fun hc => ?_) (fun hc => ?_)
          · replace H := H.1 hc
            refine fs_iconst (n := 0) (v := 0) dd_X12_see_92 (by decide) ?_
            refine fs_istore_n (k0 := 2) (i := 2) dd_X12_see_93 rfl (by decide) ?_
            refine fs_iincN (i := 3) (m := 4) (c := 4) dd_X12_see_94 rfl (by decide) (by decide) (fun x5 hx5 => ?_)
            replace H := H x5 hx5
            refine fs_goto (tgt := 43) dd_X12_see_97 (by decide) ?_
            refine fs_weak (ls2 := [.ref 196, .int v1, .int (bi false), .int x5]) (fz_le_e (fz_le_e (fz_le_e (fz_le_e fz_le_n)))) ?_
            exact hK43 H
          · replace H := H.2 hc
            refine fs_iconst (n := 1) (v := 1) dd_X12_see_88 (by decide) ?_
            refine fs_goto (tgt := 93) dd_X12_see_89 (by decide) ?_
            refine fs_istore_n (k0 := 2) (i := 2) dd_X12_see_93 rfl (by decide) ?_
            refine fs_iincN (i := 3) (m := 4) (c := 4) dd_X12_see_94 rfl (by decide) (by decide) (fun x6 hx6 => ?_)
            replace H := H x6 hx6
            refine fs_goto (tgt := 43) dd_X12_see_97 (by decide) ?_
            refine fs_weak (ls2 := [.ref 196, .int v1, .int (bi true), .int x6]) (fz_le_e (fz_le_e (fz_le_e (fz_le_e fz_le_n)))) ?_
            exact hK43 H
set_option maxRecDepth 100000 in
set_option maxHeartbeats 4000000 in
theorem V_lp_X12_see_43 {g : fz_G} {l : Launch} {d : Nat} (hD : 1 ≤ d)    {Q : Int32 → fz_s → Prop}  (n : Nat) : ∀ {v1 : Int32} {v2 : Bool} {v3 : Int32} {s : fz_s}, lp_X12_see_43   Q n v1 v2 v3 s → fs_V g l m_X12_see d false 43 [.ref 196, .int v1, .int (bi v2), .int v3] [] s (rI Q) := by
  induction n with
  | zero => intro v1 v2 v3 s H; exact H.elim
  | succ n ih => intro v1 v2 v3 s H; exact V_nd_X12_see_43 hD  (fun H => ih H) H
set_option maxRecDepth 100000 in
set_option maxHeartbeats 4000000 in
theorem V_X12_see {g : fz_G} {l : Launch} {d : Nat} (hD : 1 ≤ d)   {s : fz_s} {Q : Int32 → fz_s → Prop} (H : wp_X12_see  s Q) : fs_V g l m_X12_see d false 0 (fz_en [.ref 196] 4) [] s (rI Q) := by
  obtain ⟨d, rfl⟩ : ∃ e, d = e + 1 := ⟨d - 1, by omega⟩
  unfold wp_X12_see at H
  refine fs_aload_n (k0 := 0) (i := 0) dd_X12_see_0 rfl rfl ?_
  refine fs_geti (ci := 12) (j := 1) dd_X12_see_1 fl_X12_249 ca_196 rfl (Or.inl rfl) ?_
  refine fs_topi (fun x1 hx1 => ?_)
  replace H := H x1 hx1
  refine fs_istore_n (k0 := 1) (i := 1) dd_X12_see_4 rfl (by decide) ?_
  refine fs_aload_n (k0 := 0) (i := 0) dd_X12_see_5 rfl rfl ?_
  refine fs_iconst (n := 0) (v := 0) dd_X12_see_6 (by decide) ?_
  refine fs_puti (ci := 12) (j := 1) dd_X12_see_7 fl_X12_249 (fun _ _ _ h => by cases h; rfl) ca_196 rfl (Or.inl rfl) ?_
  refine fs_tops (fun s2 hs2 => ?_)
  replace H := H s2 hs2
  refine fs_aload_n (k0 := 0) (i := 0) dd_X12_see_10 rfl rfl ?_
  refine fs_geti (ci := 12) (j := 52) dd_X12_see_11 fl_X12_386 ca_196 rfl (Or.inr rfl) ?_
  refine fs_if_eq (tgt := 39) dd_X12_see_14 (by decide) (fun hc => ?_) (fun hc => ?_)
  · replace H := H.1 hc
    refine fs_iconst (n := 0) (v := 0) dd_X12_see_39 (by decide) ?_
    refine fs_istore_n (k0 := 2) (i := 2) dd_X12_see_40 rfl (by decide) ?_
    refine fs_iconst (n := 0) (v := 0) dd_X12_see_41 (by decide) ?_
    refine fs_istore_n (k0 := 3) (i := 3) dd_X12_see_42 rfl (by decide) ?_
    refine fs_weak (ls2 := [.ref 196, .int x1, .int (bi false), .int 0]) (fz_le_e (fz_le_e (fz_le_e (fz_le_e fz_le_n)))) ?_
    exact V_lp_X12_see_43 hD    2048 H
  · replace H := H.2 hc
    refine fs_iload_n (k0 := 1) (i := 1) dd_X12_see_17 rfl rfl ?_
    refine fs_if_le (tgt := 39) dd_X12_see_18 (by decide) (fun hc => ?_) (fun hc => ?_)
    · replace H := H.1 hc
      refine fs_iconst (n := 0) (v := 0) dd_X12_see_39 (by decide) ?_
      refine fs_istore_n (k0 := 2) (i := 2) dd_X12_see_40 rfl (by decide) ?_
      refine fs_iconst (n := 0) (v := 0) dd_X12_see_41 (by decide) ?_
      refine fs_istore_n (k0 := 3) (i := 3) dd_X12_see_42 rfl (by decide) ?_
      refine fs_weak (ls2 := [.ref 196, .int x1, .int (bi false), .int 0]) (fz_le_e (fz_le_e (fz_le_e (fz_le_e fz_le_n)))) ?_
      exact V_lp_X12_see_43 hD    2048 H
    · replace H := H.2 hc
      refine fs_iload_n (k0 := 1) (i := 1) dd_X12_see_21 rfl rfl ?_
      refine fs_iconst (n := 4) (v := 4) dd_X12_see_22 (by decide) ?_
      refine fs_irem dd_X12_see_23 (by decide) ?_
      refine fs_if_ne (tgt := 39) dd_X12_see_24 (by decide) (fun hc => ?_) (fun hc => ?_)
      · replace H := H.1 hc
        refine fs_iconst (n := 0) (v := 0) dd_X12_see_39 (by decide) ?_
        refine fs_istore_n (k0 := 2) (i := 2) dd_X12_see_40 rfl (by decide) ?_
        refine fs_iconst (n := 0) (v := 0) dd_X12_see_41 (by decide) ?_
        refine fs_istore_n (k0 := 3) (i := 3) dd_X12_see_42 rfl (by decide) ?_
        refine fs_weak (ls2 := [.ref 196, .int x1, .int (bi false), .int 0]) (fz_le_e (fz_le_e (fz_le_e (fz_le_e fz_le_n)))) ?_
        exact V_lp_X12_see_43 hD    2048 H
      · replace H := H.2 hc
        refine fs_iload_n (k0 := 1) (i := 1) dd_X12_see_27 rfl rfl ?_
        refine fs_iconst (n := 4) (v := 4) dd_X12_see_28 (by decide) ?_
        refine fs_idiv dd_X12_see_29 (by decide) ?_
        refine fs_bipush (n := 16) (v := 16) dd_X12_see_30 (by decide) ?_
        refine fs_icmp_gt (tgt := 39) dd_X12_see_32 (by decide) (fun hc => ?_) (fun hc => ?_)
        · replace H := H.1 hc
          refine fs_iconst (n := 0) (v := 0) dd_X12_see_39 (by decide) ?_
          refine fs_istore_n (k0 := 2) (i := 2) dd_X12_see_40 rfl (by decide) ?_
          refine fs_iconst (n := 0) (v := 0) dd_X12_see_41 (by decide) ?_
          refine fs_istore_n (k0 := 3) (i := 3) dd_X12_see_42 rfl (by decide) ?_
          refine fs_weak (ls2 := [.ref 196, .int x1, .int (bi false), .int 0]) (fz_le_e (fz_le_e (fz_le_e (fz_le_e fz_le_n)))) ?_
          exact V_lp_X12_see_43 hD    2048 H
        · replace H := H.2 hc
          refine fs_iconst (n := 1) (v := 1) dd_X12_see_35 (by decide) ?_
          refine fs_goto (tgt := 40) dd_X12_see_36 (by decide) ?_
          refine fs_istore_n (k0 := 2) (i := 2) dd_X12_see_40 rfl (by decide) ?_
          refine fs_iconst (n := 0) (v := 0) dd_X12_see_41 (by decide) ?_
          refine fs_istore_n (k0 := 3) (i := 3) dd_X12_see_42 rfl (by decide) ?_
          refine fs_weak (ls2 := [.ref 196, .int x1, .int (bi true), .int 0]) (fz_le_e (fz_le_e (fz_le_e (fz_le_e fz_le_n)))) ?_
          exact V_lp_X12_see_43 hD    2048 H

theorem dd_X12_qJoins_0 : decode m_X12_qJoins.2.1 0 = .ok (.aload_n 0, 1) := by decide +kernel
theorem dd_X12_qJoins_1 : decode m_X12_qJoins.2.1 1 = .ok (.getfield 243, 3) := by decide +kernel
theorem dd_X12_qJoins_4 : decode m_X12_qJoins.2.1 4 = .ok (.aload_n 0, 1) := by decide +kernel
theorem dd_X12_qJoins_5 : decode m_X12_qJoins.2.1 5 = .ok (.getfield 421, 3) := by decide +kernel
theorem dd_X12_qJoins_8 : decode m_X12_qJoins.2.1 8 = .ok (.iconst 1, 1) := by decide +kernel
theorem dd_X12_qJoins_9 : decode m_X12_qJoins.2.1 9 = .ok (.isub, 1) := by decide +kernel
theorem dd_X12_qJoins_10 : decode m_X12_qJoins.2.1 10 = .ok (.laload, 1) := by decide +kernel
theorem dd_X12_qJoins_11 : decode m_X12_qJoins.2.1 11 = .ok (.lstore_n 2, 1) := by decide +kernel
theorem dd_X12_qJoins_12 : decode m_X12_qJoins.2.1 12 = .ok (.aload_n 0, 1) := by decide +kernel
theorem dd_X12_qJoins_13 : decode m_X12_qJoins.2.1 13 = .ok (.getfield 243, 3) := by decide +kernel
theorem dd_X12_qJoins_16 : decode m_X12_qJoins.2.1 16 = .ok (.aload_n 0, 1) := by decide +kernel
theorem dd_X12_qJoins_17 : decode m_X12_qJoins.2.1 17 = .ok (.getfield 421, 3) := by decide +kernel
theorem dd_X12_qJoins_20 : decode m_X12_qJoins.2.1 20 = .ok (.iconst 2, 1) := by decide +kernel
theorem dd_X12_qJoins_21 : decode m_X12_qJoins.2.1 21 = .ok (.isub, 1) := by decide +kernel
theorem dd_X12_qJoins_22 : decode m_X12_qJoins.2.1 22 = .ok (.laload, 1) := by decide +kernel
theorem dd_X12_qJoins_23 : decode m_X12_qJoins.2.1 23 = .ok (.lstore 4, 2) := by decide +kernel
theorem dd_X12_qJoins_25 : decode m_X12_qJoins.2.1 25 = .ok (.aload_n 0, 1) := by decide +kernel
theorem dd_X12_qJoins_26 : decode m_X12_qJoins.2.1 26 = .ok (.dup, 1) := by decide +kernel
theorem dd_X12_qJoins_27 : decode m_X12_qJoins.2.1 27 = .ok (.getfield 421, 3) := by decide +kernel
theorem dd_X12_qJoins_30 : decode m_X12_qJoins.2.1 30 = .ok (.iconst 2, 1) := by decide +kernel
theorem dd_X12_qJoins_31 : decode m_X12_qJoins.2.1 31 = .ok (.isub, 1) := by decide +kernel
theorem dd_X12_qJoins_32 : decode m_X12_qJoins.2.1 32 = .ok (.putfield 421, 3) := by decide +kernel
theorem dd_X12_qJoins_35 : decode m_X12_qJoins.2.1 35 = .ok (.iload_n 1, 1) := by decide +kernel
theorem dd_X12_qJoins_36 : decode m_X12_qJoins.2.1 36 = .ok (.tableswitch 219 1 10 #[56, 70, 84, 98, 111, 131, 151, 170, 189, 208], 56) := by decide +kernel
theorem dd_X12_qJoins_92 : decode m_X12_qJoins.2.1 92 = .ok (.aload_n 0, 1) := by decide +kernel
theorem dd_X12_qJoins_93 : decode m_X12_qJoins.2.1 93 = .ok (.lload 4, 2) := by decide +kernel
theorem dd_X12_qJoins_95 : decode m_X12_qJoins.2.1 95 = .ok (.lload_n 2, 1) := by decide +kernel
theorem dd_X12_qJoins_96 : decode m_X12_qJoins.2.1 96 = .ok (.ladd, 1) := by decide +kernel
theorem dd_X12_qJoins_97 : decode m_X12_qJoins.2.1 97 = .ok (.invokestatic 666, 3) := by decide +kernel
theorem dd_X12_qJoins_100 : decode m_X12_qJoins.2.1 100 = .ok (.invokevirtual 424, 3) := by decide +kernel
theorem dd_X12_qJoins_103 : decode m_X12_qJoins.2.1 103 = .ok (.goto 170, 3) := by decide +kernel
theorem dd_X12_qJoins_106 : decode m_X12_qJoins.2.1 106 = .ok (.aload_n 0, 1) := by decide +kernel
theorem dd_X12_qJoins_107 : decode m_X12_qJoins.2.1 107 = .ok (.lload 4, 2) := by decide +kernel
theorem dd_X12_qJoins_109 : decode m_X12_qJoins.2.1 109 = .ok (.lload_n 2, 1) := by decide +kernel
theorem dd_X12_qJoins_110 : decode m_X12_qJoins.2.1 110 = .ok (.lsub, 1) := by decide +kernel
theorem dd_X12_qJoins_111 : decode m_X12_qJoins.2.1 111 = .ok (.invokestatic 666, 3) := by decide +kernel
theorem dd_X12_qJoins_114 : decode m_X12_qJoins.2.1 114 = .ok (.invokevirtual 424, 3) := by decide +kernel
theorem dd_X12_qJoins_117 : decode m_X12_qJoins.2.1 117 = .ok (.goto 156, 3) := by decide +kernel
theorem dd_X12_qJoins_120 : decode m_X12_qJoins.2.1 120 = .ok (.aload_n 0, 1) := by decide +kernel
theorem dd_X12_qJoins_121 : decode m_X12_qJoins.2.1 121 = .ok (.lload 4, 2) := by decide +kernel
theorem dd_X12_qJoins_123 : decode m_X12_qJoins.2.1 123 = .ok (.lload_n 2, 1) := by decide +kernel
theorem dd_X12_qJoins_124 : decode m_X12_qJoins.2.1 124 = .ok (.lmul, 1) := by decide +kernel
theorem dd_X12_qJoins_125 : decode m_X12_qJoins.2.1 125 = .ok (.invokestatic 666, 3) := by decide +kernel
theorem dd_X12_qJoins_128 : decode m_X12_qJoins.2.1 128 = .ok (.invokevirtual 424, 3) := by decide +kernel
theorem dd_X12_qJoins_131 : decode m_X12_qJoins.2.1 131 = .ok (.goto 142, 3) := by decide +kernel
theorem dd_X12_qJoins_134 : decode m_X12_qJoins.2.1 134 = .ok (.aload_n 0, 1) := by decide +kernel
theorem dd_X12_qJoins_135 : decode m_X12_qJoins.2.1 135 = .ok (.lload 4, 2) := by decide +kernel
theorem dd_X12_qJoins_137 : decode m_X12_qJoins.2.1 137 = .ok (.lload_n 2, 1) := by decide +kernel
theorem dd_X12_qJoins_138 : decode m_X12_qJoins.2.1 138 = .ok (.invokestatic 670, 3) := by decide +kernel
theorem dd_X12_qJoins_141 : decode m_X12_qJoins.2.1 141 = .ok (.invokevirtual 424, 3) := by decide +kernel
theorem dd_X12_qJoins_144 : decode m_X12_qJoins.2.1 144 = .ok (.goto 129, 3) := by decide +kernel
theorem dd_X12_qJoins_147 : decode m_X12_qJoins.2.1 147 = .ok (.aload_n 0, 1) := by decide +kernel
theorem dd_X12_qJoins_148 : decode m_X12_qJoins.2.1 148 = .ok (.lload 4, 2) := by decide +kernel
theorem dd_X12_qJoins_150 : decode m_X12_qJoins.2.1 150 = .ok (.lload_n 2, 1) := by decide +kernel
theorem dd_X12_qJoins_151 : decode m_X12_qJoins.2.1 151 = .ok (.lcmp, 1) := by decide +kernel
theorem dd_X12_qJoins_152 : decode m_X12_qJoins.2.1 152 = .ok (.ifCond .ge 8, 3) := by decide +kernel
theorem dd_X12_qJoins_155 : decode m_X12_qJoins.2.1 155 = .ok (.lload 4, 2) := by decide +kernel
theorem dd_X12_qJoins_157 : decode m_X12_qJoins.2.1 157 = .ok (.goto 4, 3) := by decide +kernel
theorem dd_X12_qJoins_160 : decode m_X12_qJoins.2.1 160 = .ok (.lload_n 2, 1) := by decide +kernel
theorem dd_X12_qJoins_161 : decode m_X12_qJoins.2.1 161 = .ok (.invokevirtual 424, 3) := by decide +kernel
theorem dd_X12_qJoins_164 : decode m_X12_qJoins.2.1 164 = .ok (.goto 109, 3) := by decide +kernel
theorem dd_X12_qJoins_167 : decode m_X12_qJoins.2.1 167 = .ok (.aload_n 0, 1) := by decide +kernel
theorem dd_X12_qJoins_168 : decode m_X12_qJoins.2.1 168 = .ok (.lload 4, 2) := by decide +kernel
theorem dd_X12_qJoins_170 : decode m_X12_qJoins.2.1 170 = .ok (.lload_n 2, 1) := by decide +kernel
theorem dd_X12_qJoins_171 : decode m_X12_qJoins.2.1 171 = .ok (.lcmp, 1) := by decide +kernel
theorem dd_X12_qJoins_172 : decode m_X12_qJoins.2.1 172 = .ok (.ifCond .le 8, 3) := by decide +kernel
theorem dd_X12_qJoins_175 : decode m_X12_qJoins.2.1 175 = .ok (.lload 4, 2) := by decide +kernel
theorem dd_X12_qJoins_177 : decode m_X12_qJoins.2.1 177 = .ok (.goto 4, 3) := by decide +kernel
theorem dd_X12_qJoins_180 : decode m_X12_qJoins.2.1 180 = .ok (.lload_n 2, 1) := by decide +kernel
theorem dd_X12_qJoins_181 : decode m_X12_qJoins.2.1 181 = .ok (.invokevirtual 424, 3) := by decide +kernel
theorem dd_X12_qJoins_184 : decode m_X12_qJoins.2.1 184 = .ok (.goto 89, 3) := by decide +kernel
theorem dd_X12_qJoins_187 : decode m_X12_qJoins.2.1 187 = .ok (.aload_n 0, 1) := by decide +kernel
theorem dd_X12_qJoins_188 : decode m_X12_qJoins.2.1 188 = .ok (.lload 4, 2) := by decide +kernel
theorem dd_X12_qJoins_190 : decode m_X12_qJoins.2.1 190 = .ok (.lload_n 2, 1) := by decide +kernel
theorem dd_X12_qJoins_191 : decode m_X12_qJoins.2.1 191 = .ok (.lcmp, 1) := by decide +kernel
theorem dd_X12_qJoins_192 : decode m_X12_qJoins.2.1 192 = .ok (.ifCond .ge 7, 3) := by decide +kernel
theorem dd_X12_qJoins_195 : decode m_X12_qJoins.2.1 195 = .ok (.lconst 1, 1) := by decide +kernel
theorem dd_X12_qJoins_196 : decode m_X12_qJoins.2.1 196 = .ok (.goto 4, 3) := by decide +kernel
theorem dd_X12_qJoins_199 : decode m_X12_qJoins.2.1 199 = .ok (.lconst 0, 1) := by decide +kernel
theorem dd_X12_qJoins_200 : decode m_X12_qJoins.2.1 200 = .ok (.invokevirtual 424, 3) := by decide +kernel
theorem dd_X12_qJoins_203 : decode m_X12_qJoins.2.1 203 = .ok (.goto 70, 3) := by decide +kernel
theorem dd_X12_qJoins_206 : decode m_X12_qJoins.2.1 206 = .ok (.aload_n 0, 1) := by decide +kernel
theorem dd_X12_qJoins_207 : decode m_X12_qJoins.2.1 207 = .ok (.lload 4, 2) := by decide +kernel
theorem dd_X12_qJoins_209 : decode m_X12_qJoins.2.1 209 = .ok (.lload_n 2, 1) := by decide +kernel
theorem dd_X12_qJoins_210 : decode m_X12_qJoins.2.1 210 = .ok (.lcmp, 1) := by decide +kernel
theorem dd_X12_qJoins_211 : decode m_X12_qJoins.2.1 211 = .ok (.ifCond .le 7, 3) := by decide +kernel
theorem dd_X12_qJoins_214 : decode m_X12_qJoins.2.1 214 = .ok (.lconst 1, 1) := by decide +kernel
theorem dd_X12_qJoins_215 : decode m_X12_qJoins.2.1 215 = .ok (.goto 4, 3) := by decide +kernel
theorem dd_X12_qJoins_218 : decode m_X12_qJoins.2.1 218 = .ok (.lconst 0, 1) := by decide +kernel
theorem dd_X12_qJoins_219 : decode m_X12_qJoins.2.1 219 = .ok (.invokevirtual 424, 3) := by decide +kernel
theorem dd_X12_qJoins_222 : decode m_X12_qJoins.2.1 222 = .ok (.goto 51, 3) := by decide +kernel
theorem dd_X12_qJoins_225 : decode m_X12_qJoins.2.1 225 = .ok (.aload_n 0, 1) := by decide +kernel
theorem dd_X12_qJoins_226 : decode m_X12_qJoins.2.1 226 = .ok (.lload 4, 2) := by decide +kernel
theorem dd_X12_qJoins_228 : decode m_X12_qJoins.2.1 228 = .ok (.lload_n 2, 1) := by decide +kernel
theorem dd_X12_qJoins_229 : decode m_X12_qJoins.2.1 229 = .ok (.lcmp, 1) := by decide +kernel
theorem dd_X12_qJoins_230 : decode m_X12_qJoins.2.1 230 = .ok (.ifCond .ne 7, 3) := by decide +kernel
theorem dd_X12_qJoins_233 : decode m_X12_qJoins.2.1 233 = .ok (.lconst 1, 1) := by decide +kernel
theorem dd_X12_qJoins_234 : decode m_X12_qJoins.2.1 234 = .ok (.goto 4, 3) := by decide +kernel
theorem dd_X12_qJoins_237 : decode m_X12_qJoins.2.1 237 = .ok (.lconst 0, 1) := by decide +kernel
theorem dd_X12_qJoins_238 : decode m_X12_qJoins.2.1 238 = .ok (.invokevirtual 424, 3) := by decide +kernel
theorem dd_X12_qJoins_241 : decode m_X12_qJoins.2.1 241 = .ok (.goto 32, 3) := by decide +kernel
theorem dd_X12_qJoins_244 : decode m_X12_qJoins.2.1 244 = .ok (.aload_n 0, 1) := by decide +kernel
theorem dd_X12_qJoins_245 : decode m_X12_qJoins.2.1 245 = .ok (.lload 4, 2) := by decide +kernel
theorem dd_X12_qJoins_247 : decode m_X12_qJoins.2.1 247 = .ok (.lload_n 2, 1) := by decide +kernel
theorem dd_X12_qJoins_248 : decode m_X12_qJoins.2.1 248 = .ok (.lmul, 1) := by decide +kernel
theorem dd_X12_qJoins_249 : decode m_X12_qJoins.2.1 249 = .ok (.invokevirtual 424, 3) := by decide +kernel
theorem dd_X12_qJoins_252 : decode m_X12_qJoins.2.1 252 = .ok (.goto 21, 3) := by decide +kernel
theorem dd_X12_qJoins_255 : decode m_X12_qJoins.2.1 255 = .ok (.aload_n 0, 1) := by decide +kernel
theorem dd_X12_qJoins_256 : decode m_X12_qJoins.2.1 256 = .ok (.lload 4, 2) := by decide +kernel
theorem dd_X12_qJoins_258 : decode m_X12_qJoins.2.1 258 = .ok (.lload_n 2, 1) := by decide +kernel
theorem dd_X12_qJoins_259 : decode m_X12_qJoins.2.1 259 = .ok (.ladd, 1) := by decide +kernel
theorem dd_X12_qJoins_260 : decode m_X12_qJoins.2.1 260 = .ok (.lconst 0, 1) := by decide +kernel
theorem dd_X12_qJoins_261 : decode m_X12_qJoins.2.1 261 = .ok (.lcmp, 1) := by decide +kernel
theorem dd_X12_qJoins_262 : decode m_X12_qJoins.2.1 262 = .ok (.ifCond .le 7, 3) := by decide +kernel
theorem dd_X12_qJoins_265 : decode m_X12_qJoins.2.1 265 = .ok (.lconst 1, 1) := by decide +kernel
theorem dd_X12_qJoins_266 : decode m_X12_qJoins.2.1 266 = .ok (.goto 4, 3) := by decide +kernel
theorem dd_X12_qJoins_269 : decode m_X12_qJoins.2.1 269 = .ok (.lconst 0, 1) := by decide +kernel
theorem dd_X12_qJoins_270 : decode m_X12_qJoins.2.1 270 = .ok (.invokevirtual 424, 3) := by decide +kernel
theorem dd_X12_qJoins_273 : decode m_X12_qJoins.2.1 273 = .ok (.return_, 1) := by decide +kernel
def nd_X12_qJoins_270   (Q : fz_s → Prop) (u0 : Int64) (s : fz_s) : Prop :=
  wp_X12_qPuts u0 s (fun s2 => Q s2)
def nd_X12_qJoins_238   (Q : fz_s → Prop) (u0 : Int64) (s : fz_s) : Prop :=
  wp_X12_qPuts u0 s (fun s2 => Q s2)
def nd_X12_qJoins_219   (Q : fz_s → Prop) (u0 : Int64) (s : fz_s) : Prop :=
  wp_X12_qPuts u0 s (fun s2 => Q s2)
def nd_X12_qJoins_200   (Q : fz_s → Prop) (u0 : Int64) (s : fz_s) : Prop :=
  wp_X12_qPuts u0 s (fun s2 => Q s2)
def nd_X12_qJoins_181   (Q : fz_s → Prop) (u0 : Int64) (s : fz_s) : Prop :=
  wp_X12_qPuts u0 s (fun s2 => Q s2)
def nd_X12_qJoins_161   (Q : fz_s → Prop) (u0 : Int64) (s : fz_s) : Prop :=
  wp_X12_qPuts u0 s (fun s2 => Q s2)
def wp_X12_qJoins (p0 : Int32) (s : fz_s) (Q : fz_s → Prop) : Prop :=
  vp_in ((s.1 196 107) - 1) 1700 ∧ ∀ x1 : Int64, x1 = (s.2.1 271 ((s.1 196 107) - 1).toNatClampNeg) → vp_in ((s.1 196 107) - 2) 1700 ∧ ∀ x2 : Int64, x2 = (s.2.1 271 ((s.1 196 107) - 2).toNatClampNeg) → ∀ s3 : fz_s, s3 = si s 196 107 ((s.1 196 107) - 2) → ((p0 = 1 → wp_X12_qClip (x2 + x1) s3 (fun r4 s5 => wp_X12_qPuts r4 s5 (fun s7 => Q s7))) ∧ (p0 = 2 → wp_X12_qClip (x2 - x1) s3 (fun r8 s9 => wp_X12_qPuts r8 s9 (fun s11 => Q s11))) ∧ (p0 = 3 → wp_X12_qClip (x2 * x1) s3 (fun r12 s13 => wp_X12_qPuts r12 s13 (fun s15 => Q s15))) ∧ (p0 = 4 → wp_X12_qFloor x2 x1 s3 (fun r16 s17 => wp_X12_qPuts r16 s17 (fun s19 => Q s19))) ∧ (p0 = 5 → ((0 ≤ (lg_cmp x2 x1) → nd_X12_qJoins_161   Q x1 s3) ∧ (¬ 0 ≤ (lg_cmp x2 x1) → nd_X12_qJoins_161   Q x2 s3))) ∧ (p0 = 6 → (((lg_cmp x2 x1) ≤ 0 → nd_X12_qJoins_181   Q x1 s3) ∧ (¬ (lg_cmp x2 x1) ≤ 0 → nd_X12_qJoins_181   Q x2 s3))) ∧ (p0 = 7 → ((0 ≤ (lg_cmp x2 x1) → nd_X12_qJoins_200   Q 0 s3) ∧ (¬ 0 ≤ (lg_cmp x2 x1) → nd_X12_qJoins_200   Q 1 s3))) ∧ (p0 = 8 → (((lg_cmp x2 x1) ≤ 0 → nd_X12_qJoins_219   Q 0 s3) ∧ (¬ (lg_cmp x2 x1) ≤ 0 → nd_X12_qJoins_219   Q 1 s3))) ∧ (p0 = 9 → ((¬ (lg_cmp x2 x1) = 0 → nd_X12_qJoins_238   Q 0 s3) ∧ ((lg_cmp x2 x1) = 0 → nd_X12_qJoins_238   Q 1 s3))) ∧ (p0 = 10 → wp_X12_qPuts (x2 * x1) s3 (fun s21 => Q s21)) ∧ (¬ p0 = 1 ∧ ¬ p0 = 2 ∧ ¬ p0 = 3 ∧ ¬ p0 = 4 ∧ ¬ p0 = 5 ∧ ¬ p0 = 6 ∧ ¬ p0 = 7 ∧ ¬ p0 = 8 ∧ ¬ p0 = 9 ∧ ¬ p0 = 10 → (((lg_cmp (x2 + x1) 0) ≤ 0 → nd_X12_qJoins_270   Q 0 s3) ∧ (¬ (lg_cmp (x2 + x1) 0) ≤ 0 → nd_X12_qJoins_270   Q 1 s3))))
set_option maxRecDepth 100000 in
set_option maxHeartbeats 4000000 in
theorem V_nd_X12_qJoins_270 {g : fz_G} {l : Launch} {d : Nat} (hD : 1 ≤ d)    {Q : fz_s → Prop} {u0 : Int64} {s : fz_s}  (H : nd_X12_qJoins_270   Q u0 s) : fs_V g l m_X12_qJoins d false 270 [fz_J, fz_J, fz_J, fz_J, fz_J, fz_J] [.long u0, .ref 196] s (rV Q) := by
  obtain ⟨d, rfl⟩ : ∃ e, d = e + 1 := ⟨d - 1, by omega⟩
  unfold nd_X12_qJoins_270 at H
  refine fs_callV (y := m_X12_qPuts) (as := [.long u0]) dd_X12_qJoins_270 me_X12_qPuts lk_X12_424 in_X12_qPuts se_X12_qPuts ca_196 rfl rfl rfl (Nat.le_of_ble_eq_true rfl) (Nat.le_of_ble_eq_true rfl) rfl (V_X12_qPuts (by omega)  H) (k2_V fun s2 H => ?_)
  exact fs_vret dd_X12_qJoins_273 rfl H
set_option maxRecDepth 100000 in
set_option maxHeartbeats 4000000 in
theorem V_nd_X12_qJoins_238 {g : fz_G} {l : Launch} {d : Nat} (hD : 1 ≤ d)    {Q : fz_s → Prop} {u0 : Int64} {s : fz_s}  (H : nd_X12_qJoins_238   Q u0 s) : fs_V g l m_X12_qJoins d false 238 [fz_J, fz_J, fz_J, fz_J, fz_J, fz_J] [.long u0, .ref 196] s (rV Q) := by
  obtain ⟨d, rfl⟩ : ∃ e, d = e + 1 := ⟨d - 1, by omega⟩
  unfold nd_X12_qJoins_238 at H
  refine fs_callV (y := m_X12_qPuts) (as := [.long u0]) dd_X12_qJoins_238 me_X12_qPuts lk_X12_424 in_X12_qPuts se_X12_qPuts ca_196 rfl rfl rfl (Nat.le_of_ble_eq_true rfl) (Nat.le_of_ble_eq_true rfl) rfl (V_X12_qPuts (by omega)  H) (k2_V fun s2 H => ?_)
  refine fs_goto (tgt := 273) dd_X12_qJoins_241 (by decide) ?_
  exact fs_vret dd_X12_qJoins_273 rfl H
set_option maxRecDepth 100000 in
set_option maxHeartbeats 4000000 in
theorem V_nd_X12_qJoins_219 {g : fz_G} {l : Launch} {d : Nat} (hD : 1 ≤ d)    {Q : fz_s → Prop} {u0 : Int64} {s : fz_s}  (H : nd_X12_qJoins_219   Q u0 s) : fs_V g l m_X12_qJoins d false 219 [fz_J, fz_J, fz_J, fz_J, fz_J, fz_J] [.long u0, .ref 196] s (rV Q) := by
  obtain ⟨d, rfl⟩ : ∃ e, d = e + 1 := ⟨d - 1, by omega⟩
  unfold nd_X12_qJoins_219 at H
  refine fs_callV (y := m_X12_qPuts) (as := [.long u0]) dd_X12_qJoins_219 me_X12_qPuts lk_X12_424 in_X12_qPuts se_X12_qPuts ca_196 rfl rfl rfl (Nat.le_of_ble_eq_true rfl) (Nat.le_of_ble_eq_true rfl) rfl (V_X12_qPuts (by omega)  H) (k2_V fun s2 H => ?_)
  refine fs_goto (tgt := 273) dd_X12_qJoins_222 (by decide) ?_
  exact fs_vret dd_X12_qJoins_273 rfl H
set_option maxRecDepth 100000 in
set_option maxHeartbeats 4000000 in
theorem V_nd_X12_qJoins_200 {g : fz_G} {l : Launch} {d : Nat} (hD : 1 ≤ d)    {Q : fz_s → Prop} {u0 : Int64} {s : fz_s}  (H : nd_X12_qJoins_200   Q u0 s) : fs_V g l m_X12_qJoins d false 200 [fz_J, fz_J, fz_J, fz_J, fz_J, fz_J] [.long u0, .ref 196] s (rV Q) := by
  obtain ⟨d, rfl⟩ : ∃ e, d = e + 1 := ⟨d - 1, by omega⟩
  unfold nd_X12_qJoins_200 at H
  refine fs_callV (y := m_X12_qPuts) (as := [.long u0]) dd_X12_qJoins_200 me_X12_qPuts lk_X12_424 in_X12_qPuts se_X12_qPuts ca_196 rfl rfl rfl (Nat.le_of_ble_eq_true rfl) (Nat.le_of_ble_eq_true rfl) rfl (V_X12_qPuts (by omega)  H) (k2_V fun s2 H => ?_)
  refine fs_goto (tgt := 273) dd_X12_qJoins_203 (by decide) ?_
  exact fs_vret dd_X12_qJoins_273 rfl H
set_option maxRecDepth 100000 in
set_option maxHeartbeats 4000000 in
theorem V_nd_X12_qJoins_181 {g : fz_G} {l : Launch} {d : Nat} (hD : 1 ≤ d)    {Q : fz_s → Prop} {u0 : Int64} {s : fz_s}  (H : nd_X12_qJoins_181   Q u0 s) : fs_V g l m_X12_qJoins d false 181 [fz_J, fz_J, fz_J, fz_J, fz_J, fz_J] [.long u0, .ref 196] s (rV Q) := by
  obtain ⟨d, rfl⟩ : ∃ e, d = e + 1 := ⟨d - 1, by omega⟩
  unfold nd_X12_qJoins_181 at H
  refine fs_callV (y := m_X12_qPuts) (as := [.long u0]) dd_X12_qJoins_181 me_X12_qPuts lk_X12_424 in_X12_qPuts se_X12_qPuts ca_196 rfl rfl rfl (Nat.le_of_ble_eq_true rfl) (Nat.le_of_ble_eq_true rfl) rfl (V_X12_qPuts (by omega)  H) (k2_V fun s2 H => ?_)
  refine fs_goto (tgt := 273) dd_X12_qJoins_184 (by decide) ?_
  exact fs_vret dd_X12_qJoins_273 rfl H
set_option maxRecDepth 100000 in
set_option maxHeartbeats 4000000 in
theorem V_nd_X12_qJoins_161 {g : fz_G} {l : Launch} {d : Nat} (hD : 1 ≤ d)    {Q : fz_s → Prop} {u0 : Int64} {s : fz_s}  (H : nd_X12_qJoins_161   Q u0 s) : fs_V g l m_X12_qJoins d false 161 [fz_J, fz_J, fz_J, fz_J, fz_J, fz_J] [.long u0, .ref 196] s (rV Q) := by
  obtain ⟨d, rfl⟩ : ∃ e, d = e + 1 := ⟨d - 1, by omega⟩
  unfold nd_X12_qJoins_161 at H
  refine fs_callV (y := m_X12_qPuts) (as := [.long u0]) dd_X12_qJoins_161 me_X12_qPuts lk_X12_424 in_X12_qPuts se_X12_qPuts ca_196 rfl rfl rfl (Nat.le_of_ble_eq_true rfl) (Nat.le_of_ble_eq_true rfl) rfl (V_X12_qPuts (by omega)  H) (k2_V fun s2 H => ?_)
  refine fs_goto (tgt := 273) dd_X12_qJoins_164 (by decide) ?_
  exact fs_vret dd_X12_qJoins_273 rfl H
set_option maxRecDepth 100000 in
set_option maxHeartbeats 4000000 in
theorem V_X12_qJoins {g : fz_G} {l : Launch} {d : Nat} (hD : 1 ≤ d) {p0 : Int32}  {s : fz_s} {Q : fz_s → Prop} (H : wp_X12_qJoins p0 s Q) : fs_V g l m_X12_qJoins d false 0 (fz_en [.ref 196, .int p0] 6) [] s (rV Q) := by
  obtain ⟨d, rfl⟩ : ∃ e, d = e + 1 := ⟨d - 1, by omega⟩
  unfold wp_X12_qJoins at H
  refine fs_aload_n (k0 := 0) (i := 0) dd_X12_qJoins_0 rfl rfl ?_
  refine fs_getr (ci := 12) (j := 106) (q := 271) dd_X12_qJoins_1 fl_X12_243 ca_196 rfl (Or.inr ⟨_, rfl⟩) rfl (by decide) ?_
  refine fs_aload_n (k0 := 0) (i := 0) dd_X12_qJoins_4 rfl rfl ?_
  refine fs_geti (ci := 12) (j := 107) dd_X12_qJoins_5 fl_X12_421 ca_196 rfl (Or.inl rfl) ?_
  refine fs_iconst (n := 1) (v := 1) dd_X12_qJoins_8 (by decide) ?_
  refine fs_isub dd_X12_qJoins_9 ?_
  have hb := H.1
  replace H := H.2
  refine fs_lald dd_X12_qJoins_10 ca_271 hb ?_
  refine fs_topl (fun x1 hx1 => ?_)
  replace H := H x1 hx1
  refine fs_lstore_n (k0 := 2) (i := 2) dd_X12_qJoins_11 rfl (by decide) ?_
  refine fs_aload_n (k0 := 0) (i := 0) dd_X12_qJoins_12 rfl rfl ?_
  refine fs_getr (ci := 12) (j := 106) (q := 271) dd_X12_qJoins_13 fl_X12_243 ca_196 rfl (Or.inr ⟨_, rfl⟩) rfl (by decide) ?_
  refine fs_aload_n (k0 := 0) (i := 0) dd_X12_qJoins_16 rfl rfl ?_
  refine fs_geti (ci := 12) (j := 107) dd_X12_qJoins_17 fl_X12_421 ca_196 rfl (Or.inl rfl) ?_
  refine fs_iconst (n := 2) (v := 2) dd_X12_qJoins_20 (by decide) ?_
  refine fs_isub dd_X12_qJoins_21 ?_
  have hb := H.1
  replace H := H.2
  refine fs_lald dd_X12_qJoins_22 ca_271 hb ?_
  refine fs_topl (fun x2 hx2 => ?_)
  replace H := H x2 hx2
  refine fs_lstore (i := 4) dd_X12_qJoins_23 (by decide) ?_
  refine fs_aload_n (k0 := 0) (i := 0) dd_X12_qJoins_25 rfl rfl ?_
  refine fs_dup dd_X12_qJoins_26 rfl ?_
  refine fs_geti (ci := 12) (j := 107) dd_X12_qJoins_27 fl_X12_421 ca_196 rfl (Or.inl rfl) ?_
  refine fs_iconst (n := 2) (v := 2) dd_X12_qJoins_30 (by decide) ?_
  refine fs_isub dd_X12_qJoins_31 ?_
  refine fs_puti (ci := 12) (j := 107) dd_X12_qJoins_32 fl_X12_421 (fun _ _ _ h => by cases h; rfl) ca_196 rfl (Or.inl rfl) ?_
  refine fs_tops (fun s3 hs3 => ?_)
  replace H := H s3 hs3
  refine fs_iload_n (k0 := 1) (i := 1) dd_X12_qJoins_35 rfl rfl ?_
  by_cases hc1 : p0 = 1
  · replace H := H.1 hc1
    refine fs_tableAt (k := 1) (off := 56) (tgt := 92) hc1 dd_X12_qJoins_36 (by decide) (by decide) rfl (by decide) ?_
    refine fs_aload_n (k0 := 0) (i := 0) dd_X12_qJoins_92 rfl rfl ?_
    refine fs_lload (i := 4) dd_X12_qJoins_93 rfl ?_
    refine fs_lload_n (k0 := 2) (i := 2) dd_X12_qJoins_95 rfl rfl ?_
    refine fs_ladd dd_X12_qJoins_96 ?_
    refine fs_callS (y := m_X12_qClip) (as := [.long (x2 + x1)]) dd_X12_qJoins_97 me_X12_qClip (Or.inl lk_X12_666) st_X12_qClip rfl (Nat.le_of_ble_eq_true rfl) (Nat.le_of_ble_eq_true rfl) rfl (V_X12_qClip (by omega)  H) (k2_L fun r4 s5 H => ?_)
    refine fs_callV (y := m_X12_qPuts) (as := [.long r4]) dd_X12_qJoins_100 me_X12_qPuts lk_X12_424 in_X12_qPuts se_X12_qPuts ca_196 rfl rfl rfl (Nat.le_of_ble_eq_true rfl) (Nat.le_of_ble_eq_true rfl) rfl (V_X12_qPuts (by omega)  H) (k2_V fun s7 H => ?_)
    refine fs_goto (tgt := 273) dd_X12_qJoins_103 (by decide) ?_
    exact fs_vret dd_X12_qJoins_273 rfl H
  by_cases hc2 : p0 = 2
  · replace H := H.2.1 hc2
    refine fs_tableAt (k := 2) (off := 70) (tgt := 106) hc2 dd_X12_qJoins_36 (by decide) (by decide) rfl (by decide) ?_
    refine fs_aload_n (k0 := 0) (i := 0) dd_X12_qJoins_106 rfl rfl ?_
    refine fs_lload (i := 4) dd_X12_qJoins_107 rfl ?_
    refine fs_lload_n (k0 := 2) (i := 2) dd_X12_qJoins_109 rfl rfl ?_
    refine fs_lsub dd_X12_qJoins_110 ?_
    refine fs_callS (y := m_X12_qClip) (as := [.long (x2 - x1)]) dd_X12_qJoins_111 me_X12_qClip (Or.inl lk_X12_666) st_X12_qClip rfl (Nat.le_of_ble_eq_true rfl) (Nat.le_of_ble_eq_true rfl) rfl (V_X12_qClip (by omega)  H) (k2_L fun r8 s9 H => ?_)
    refine fs_callV (y := m_X12_qPuts) (as := [.long r8]) dd_X12_qJoins_114 me_X12_qPuts lk_X12_424 in_X12_qPuts se_X12_qPuts ca_196 rfl rfl rfl (Nat.le_of_ble_eq_true rfl) (Nat.le_of_ble_eq_true rfl) rfl (V_X12_qPuts (by omega)  H) (k2_V fun s11 H => ?_)
    refine fs_goto (tgt := 273) dd_X12_qJoins_117 (by decide) ?_
    exact fs_vret dd_X12_qJoins_273 rfl H
  by_cases hc3 : p0 = 3
  · replace H := H.2.2.1 hc3
    refine fs_tableAt (k := 3) (off := 84) (tgt := 120) hc3 dd_X12_qJoins_36 (by decide) (by decide) rfl (by decide) ?_
    refine fs_aload_n (k0 := 0) (i := 0) dd_X12_qJoins_120 rfl rfl ?_
    refine fs_lload (i := 4) dd_X12_qJoins_121 rfl ?_
    refine fs_lload_n (k0 := 2) (i := 2) dd_X12_qJoins_123 rfl rfl ?_
    refine fs_lmul dd_X12_qJoins_124 ?_
    refine fs_callS (y := m_X12_qClip) (as := [.long (x2 * x1)]) dd_X12_qJoins_125 me_X12_qClip (Or.inl lk_X12_666) st_X12_qClip rfl (Nat.le_of_ble_eq_true rfl) (Nat.le_of_ble_eq_true rfl) rfl (V_X12_qClip (by omega)  H) (k2_L fun r12 s13 H => ?_)
    refine fs_callV (y := m_X12_qPuts) (as := [.long r12]) dd_X12_qJoins_128 me_X12_qPuts lk_X12_424 in_X12_qPuts se_X12_qPuts ca_196 rfl rfl rfl (Nat.le_of_ble_eq_true rfl) (Nat.le_of_ble_eq_true rfl) rfl (V_X12_qPuts (by omega)  H) (k2_V fun s15 H => ?_)
    refine fs_goto (tgt := 273) dd_X12_qJoins_131 (by decide) ?_
    exact fs_vret dd_X12_qJoins_273 rfl H
  by_cases hc4 : p0 = 4
  · replace H := H.2.2.2.1 hc4
    refine fs_tableAt (k := 4) (off := 98) (tgt := 134) hc4 dd_X12_qJoins_36 (by decide) (by decide) rfl (by decide) ?_
    refine fs_aload_n (k0 := 0) (i := 0) dd_X12_qJoins_134 rfl rfl ?_
    refine fs_lload (i := 4) dd_X12_qJoins_135 rfl ?_
    refine fs_lload_n (k0 := 2) (i := 2) dd_X12_qJoins_137 rfl rfl ?_
    refine fs_callS (y := m_X12_qFloor) (as := [.long x2, .long x1]) dd_X12_qJoins_138 me_X12_qFloor (Or.inl lk_X12_670) st_X12_qFloor rfl (Nat.le_of_ble_eq_true rfl) (Nat.le_of_ble_eq_true rfl) rfl (V_X12_qFloor (by omega)  H) (k2_L fun r16 s17 H => ?_)
    refine fs_callV (y := m_X12_qPuts) (as := [.long r16]) dd_X12_qJoins_141 me_X12_qPuts lk_X12_424 in_X12_qPuts se_X12_qPuts ca_196 rfl rfl rfl (Nat.le_of_ble_eq_true rfl) (Nat.le_of_ble_eq_true rfl) rfl (V_X12_qPuts (by omega)  H) (k2_V fun s19 H => ?_)
    refine fs_goto (tgt := 273) dd_X12_qJoins_144 (by decide) ?_
    exact fs_vret dd_X12_qJoins_273 rfl H
  by_cases hc5 : p0 = 5
  · replace H := H.2.2.2.2.1 hc5
    refine fs_tableAt (k := 5) (off := 111) (tgt := 147) hc5 dd_X12_qJoins_36 (by decide) (by decide) rfl (by decide) ?_
    refine fs_aload_n (k0 := 0) (i := 0) dd_X12_qJoins_147 rfl rfl ?_
    refine fs_lload (i := 4) dd_X12_qJoins_148 rfl ?_
    refine fs_lload_n (k0 := 2) (i := 2) dd_X12_qJoins_150 rfl rfl ?_
    refine fs_lcmp dd_X12_qJoins_151 ?_
    refine fs_if_ge (tgt := 160) dd_X12_qJoins_152 (by decide) (fun hc => ?_) (fun hc => ?_)
    · replace H := H.1 hc
      refine fs_lload_n (k0 := 2) (i := 2) dd_X12_qJoins_160 rfl rfl ?_
      refine fs_weak (ls2 := [fz_J, fz_J, fz_J, fz_J, fz_J, fz_J]) (fz_le_j (fz_le_j (fz_le_j (fz_le_j (fz_le_j (fz_le_j fz_le_n)))))) ?_
      exact V_nd_X12_qJoins_161 hD    H
    · replace H := H.2 hc
      refine fs_lload (i := 4) dd_X12_qJoins_155 rfl ?_
      refine fs_goto (tgt := 161) dd_X12_qJoins_157 (by decide) ?_
      refine fs_weak (ls2 := [fz_J, fz_J, fz_J, fz_J, fz_J, fz_J]) (fz_le_j (fz_le_j (fz_le_j (fz_le_j (fz_le_j (fz_le_j fz_le_n)))))) ?_
      exact V_nd_X12_qJoins_161 hD    H
  by_cases hc6 : p0 = 6
  · replace H := H.2.2.2.2.2.1 hc6
    refine fs_tableAt (k := 6) (off := 131) (tgt := 167) hc6 dd_X12_qJoins_36 (by decide) (by decide) rfl (by decide) ?_
    refine fs_aload_n (k0 := 0) (i := 0) dd_X12_qJoins_167 rfl rfl ?_
    refine fs_lload (i := 4) dd_X12_qJoins_168 rfl ?_
    refine fs_lload_n (k0 := 2) (i := 2) dd_X12_qJoins_170 rfl rfl ?_
    refine fs_lcmp dd_X12_qJoins_171 ?_
    refine fs_if_le (tgt := 180) dd_X12_qJoins_172 (by decide) (fun hc => ?_) (fun hc => ?_)
    · replace H := H.1 hc
      refine fs_lload_n (k0 := 2) (i := 2) dd_X12_qJoins_180 rfl rfl ?_
      refine fs_weak (ls2 := [fz_J, fz_J, fz_J, fz_J, fz_J, fz_J]) (fz_le_j (fz_le_j (fz_le_j (fz_le_j (fz_le_j (fz_le_j fz_le_n)))))) ?_
      exact V_nd_X12_qJoins_181 hD    H
    · replace H := H.2 hc
      refine fs_lload (i := 4) dd_X12_qJoins_175 rfl ?_
      refine fs_goto (tgt := 181) dd_X12_qJoins_177 (by decide) ?_
      refine fs_weak (ls2 := [fz_J, fz_J, fz_J, fz_J, fz_J, fz_J]) (fz_le_j (fz_le_j (fz_le_j (fz_le_j (fz_le_j (fz_le_j fz_le_n)))))) ?_
      exact V_nd_X12_qJoins_181 hD    H
  by_cases hc7 : p0 = 7
  · replace H := H.2.2.2.2.2.2.1 hc7
    refine fs_tableAt (k := 7) (off := 151) (tgt := 187) hc7 dd_X12_qJoins_36 (by decide) (by decide) rfl (by decide) ?_
    refine fs_aload_n (k0 := 0) (i := 0) dd_X12_qJoins_187 rfl rfl ?_
    refine fs_lload (i := 4) dd_X12_qJoins_188 rfl ?_
    refine fs_lload_n (k0 := 2) (i := 2) dd_X12_qJoins_190 rfl rfl ?_
    refine fs_lcmp dd_X12_qJoins_191 ?_
    refine fs_if_ge (tgt := 199) dd_X12_qJoins_192 (by decide) (fun hc => ?_) (fun hc => ?_)
    · replace H := H.1 hc
      refine fs_lconst (n := 0) (v := 0) dd_X12_qJoins_199 (by decide) ?_
      refine fs_weak (ls2 := [fz_J, fz_J, fz_J, fz_J, fz_J, fz_J]) (fz_le_j (fz_le_j (fz_le_j (fz_le_j (fz_le_j (fz_le_j fz_le_n)))))) ?_
      exact V_nd_X12_qJoins_200 hD    H
    · replace H := H.2 hc
      refine fs_lconst (n := 1) (v := 1) dd_X12_qJoins_195 (by decide) ?_
      refine fs_goto (tgt := 200) dd_X12_qJoins_196 (by decide) ?_
      refine fs_weak (ls2 := [fz_J, fz_J, fz_J, fz_J, fz_J, fz_J]) (fz_le_j (fz_le_j (fz_le_j (fz_le_j (fz_le_j (fz_le_j fz_le_n)))))) ?_
      exact V_nd_X12_qJoins_200 hD    H
  by_cases hc8 : p0 = 8
  · replace H := H.2.2.2.2.2.2.2.1 hc8
    refine fs_tableAt (k := 8) (off := 170) (tgt := 206) hc8 dd_X12_qJoins_36 (by decide) (by decide) rfl (by decide) ?_
    refine fs_aload_n (k0 := 0) (i := 0) dd_X12_qJoins_206 rfl rfl ?_
    refine fs_lload (i := 4) dd_X12_qJoins_207 rfl ?_
    refine fs_lload_n (k0 := 2) (i := 2) dd_X12_qJoins_209 rfl rfl ?_
    refine fs_lcmp dd_X12_qJoins_210 ?_
    refine fs_if_le (tgt := 218) dd_X12_qJoins_211 (by decide) (fun hc => ?_) (fun hc => ?_)
    · replace H := H.1 hc
      refine fs_lconst (n := 0) (v := 0) dd_X12_qJoins_218 (by decide) ?_
      refine fs_weak (ls2 := [fz_J, fz_J, fz_J, fz_J, fz_J, fz_J]) (fz_le_j (fz_le_j (fz_le_j (fz_le_j (fz_le_j (fz_le_j fz_le_n)))))) ?_
      exact V_nd_X12_qJoins_219 hD    H
    · replace H := H.2 hc
      refine fs_lconst (n := 1) (v := 1) dd_X12_qJoins_214 (by decide) ?_
      refine fs_goto (tgt := 219) dd_X12_qJoins_215 (by decide) ?_
      refine fs_weak (ls2 := [fz_J, fz_J, fz_J, fz_J, fz_J, fz_J]) (fz_le_j (fz_le_j (fz_le_j (fz_le_j (fz_le_j (fz_le_j fz_le_n)))))) ?_
      exact V_nd_X12_qJoins_219 hD    H
  by_cases hc9 : p0 = 9
  · replace H := H.2.2.2.2.2.2.2.2.1 hc9
    refine fs_tableAt (k := 9) (off := 189) (tgt := 225) hc9 dd_X12_qJoins_36 (by decide) (by decide) rfl (by decide) ?_
    refine fs_aload_n (k0 := 0) (i := 0) dd_X12_qJoins_225 rfl rfl ?_
    refine fs_lload (i := 4) dd_X12_qJoins_226 rfl ?_
    refine fs_lload_n (k0 := 2) (i := 2) dd_X12_qJoins_228 rfl rfl ?_
    refine fs_lcmp dd_X12_qJoins_229 ?_
    refine fs_if_ne (tgt := 237) dd_X12_qJoins_230 (by decide) (fun hc => ?_) (fun hc => ?_)
    · replace H := H.1 hc
      refine fs_lconst (n := 0) (v := 0) dd_X12_qJoins_237 (by decide) ?_
      refine fs_weak (ls2 := [fz_J, fz_J, fz_J, fz_J, fz_J, fz_J]) (fz_le_j (fz_le_j (fz_le_j (fz_le_j (fz_le_j (fz_le_j fz_le_n)))))) ?_
      exact V_nd_X12_qJoins_238 hD    H
    · replace H := H.2 hc
      refine fs_lconst (n := 1) (v := 1) dd_X12_qJoins_233 (by decide) ?_
      refine fs_goto (tgt := 238) dd_X12_qJoins_234 (by decide) ?_
      refine fs_weak (ls2 := [fz_J, fz_J, fz_J, fz_J, fz_J, fz_J]) (fz_le_j (fz_le_j (fz_le_j (fz_le_j (fz_le_j (fz_le_j fz_le_n)))))) ?_
      exact V_nd_X12_qJoins_238 hD    H
  by_cases hc10 : p0 = 10
  · replace H := H.2.2.2.2.2.2.2.2.2.1 hc10
    refine fs_tableAt (k := 10) (off := 208) (tgt := 244) hc10 dd_X12_qJoins_36 (by decide) (by decide) rfl (by decide) ?_
    refine fs_aload_n (k0 := 0) (i := 0) dd_X12_qJoins_244 rfl rfl ?_
    refine fs_lload (i := 4) dd_X12_qJoins_245 rfl ?_
    refine fs_lload_n (k0 := 2) (i := 2) dd_X12_qJoins_247 rfl rfl ?_
    refine fs_lmul dd_X12_qJoins_248 ?_
    refine fs_callV (y := m_X12_qPuts) (as := [.long (x2 * x1)]) dd_X12_qJoins_249 me_X12_qPuts lk_X12_424 in_X12_qPuts se_X12_qPuts ca_196 rfl rfl rfl (Nat.le_of_ble_eq_true rfl) (Nat.le_of_ble_eq_true rfl) rfl (V_X12_qPuts (by omega)  H) (k2_V fun s21 H => ?_)
    refine fs_goto (tgt := 273) dd_X12_qJoins_252 (by decide) ?_
    exact fs_vret dd_X12_qJoins_273 rfl H
  replace H := H.2.2.2.2.2.2.2.2.2.2 ⟨hc1, hc2, hc3, hc4, hc5, hc6, hc7, hc8, hc9, hc10⟩
  refine fs_tableOut' (ks := [1, 2, 3, 4, 5, 6, 7, 8, 9, 10]) (tgt := 255) (by simp only [List.forall_mem_cons]; exact ⟨hc1, hc2, hc3, hc4, hc5, hc6, hc7, hc8, hc9, hc10, fun _ h => by cases h⟩) dd_X12_qJoins_36 (by decide) (by decide) ?_
  refine fs_aload_n (k0 := 0) (i := 0) dd_X12_qJoins_255 rfl rfl ?_
  refine fs_lload (i := 4) dd_X12_qJoins_256 rfl ?_
  refine fs_lload_n (k0 := 2) (i := 2) dd_X12_qJoins_258 rfl rfl ?_
  refine fs_ladd dd_X12_qJoins_259 ?_
  refine fs_lconst (n := 0) (v := 0) dd_X12_qJoins_260 (by decide) ?_
  refine fs_lcmp dd_X12_qJoins_261 ?_
  refine fs_if_le (tgt := 269) dd_X12_qJoins_262 (by decide) (fun hc => ?_) (fun hc => ?_)
  · replace H := H.1 hc
    refine fs_lconst (n := 0) (v := 0) dd_X12_qJoins_269 (by decide) ?_
    refine fs_weak (ls2 := [fz_J, fz_J, fz_J, fz_J, fz_J, fz_J]) (fz_le_j (fz_le_j (fz_le_j (fz_le_j (fz_le_j (fz_le_j fz_le_n)))))) ?_
    exact V_nd_X12_qJoins_270 hD    H
  · replace H := H.2 hc
    refine fs_lconst (n := 1) (v := 1) dd_X12_qJoins_265 (by decide) ?_
    refine fs_goto (tgt := 270) dd_X12_qJoins_266 (by decide) ?_
    refine fs_weak (ls2 := [fz_J, fz_J, fz_J, fz_J, fz_J, fz_J]) (fz_le_j (fz_le_j (fz_le_j (fz_le_j (fz_le_j (fz_le_j fz_le_n)))))) ?_
    exact V_nd_X12_qJoins_270 hD    H
theorem dd_X12_qPartOf_0 : decode m_X12_qPartOf.2.1 0 = .ok (.iload_n 1, 1) := by decide +kernel
theorem dd_X12_qPartOf_1 : decode m_X12_qPartOf.2.1 1 = .ok (.tableswitch 153 0 9 #[55, 70, 85, 93, 100, 113, 126, 133, 143, 146], 55) := by decide +kernel
theorem dd_X12_qPartOf_56 : decode m_X12_qPartOf.2.1 56 = .ok (.aload_n 0, 1) := by decide +kernel
theorem dd_X12_qPartOf_57 : decode m_X12_qPartOf.2.1 57 = .ok (.getfield 121, 3) := by decide +kernel
theorem dd_X12_qPartOf_60 : decode m_X12_qPartOf.2.1 60 = .ok (.iconst 1, 1) := by decide +kernel
theorem dd_X12_qPartOf_61 : decode m_X12_qPartOf.2.1 61 = .ok (.iconst 2, 1) := by decide +kernel
theorem dd_X12_qPartOf_62 : decode m_X12_qPartOf.2.1 62 = .ok (.aload_n 0, 1) := by decide +kernel
theorem dd_X12_qPartOf_63 : decode m_X12_qPartOf.2.1 63 = .ok (.getfield 418, 3) := by decide +kernel
theorem dd_X12_qPartOf_66 : decode m_X12_qPartOf.2.1 66 = .ok (.imul, 1) := by decide +kernel
theorem dd_X12_qPartOf_67 : decode m_X12_qPartOf.2.1 67 = .ok (.iadd, 1) := by decide +kernel
theorem dd_X12_qPartOf_68 : decode m_X12_qPartOf.2.1 68 = .ok (.iaload, 1) := by decide +kernel
theorem dd_X12_qPartOf_69 : decode m_X12_qPartOf.2.1 69 = .ok (.i2l, 1) := by decide +kernel
theorem dd_X12_qPartOf_70 : decode m_X12_qPartOf.2.1 70 = .ok (.lreturn, 1) := by decide +kernel
theorem dd_X12_qPartOf_71 : decode m_X12_qPartOf.2.1 71 = .ok (.aload_n 0, 1) := by decide +kernel
theorem dd_X12_qPartOf_72 : decode m_X12_qPartOf.2.1 72 = .ok (.getfield 121, 3) := by decide +kernel
theorem dd_X12_qPartOf_75 : decode m_X12_qPartOf.2.1 75 = .ok (.iconst 2, 1) := by decide +kernel
theorem dd_X12_qPartOf_76 : decode m_X12_qPartOf.2.1 76 = .ok (.iconst 2, 1) := by decide +kernel
theorem dd_X12_qPartOf_77 : decode m_X12_qPartOf.2.1 77 = .ok (.aload_n 0, 1) := by decide +kernel
theorem dd_X12_qPartOf_78 : decode m_X12_qPartOf.2.1 78 = .ok (.getfield 418, 3) := by decide +kernel
theorem dd_X12_qPartOf_81 : decode m_X12_qPartOf.2.1 81 = .ok (.imul, 1) := by decide +kernel
theorem dd_X12_qPartOf_82 : decode m_X12_qPartOf.2.1 82 = .ok (.iadd, 1) := by decide +kernel
theorem dd_X12_qPartOf_83 : decode m_X12_qPartOf.2.1 83 = .ok (.iaload, 1) := by decide +kernel
theorem dd_X12_qPartOf_84 : decode m_X12_qPartOf.2.1 84 = .ok (.i2l, 1) := by decide +kernel
theorem dd_X12_qPartOf_85 : decode m_X12_qPartOf.2.1 85 = .ok (.lreturn, 1) := by decide +kernel
theorem dd_X12_qPartOf_86 : decode m_X12_qPartOf.2.1 86 = .ok (.aload_n 0, 1) := by decide +kernel
theorem dd_X12_qPartOf_87 : decode m_X12_qPartOf.2.1 87 = .ok (.getfield 121, 3) := by decide +kernel
theorem dd_X12_qPartOf_90 : decode m_X12_qPartOf.2.1 90 = .ok (.iconst 0, 1) := by decide +kernel
theorem dd_X12_qPartOf_91 : decode m_X12_qPartOf.2.1 91 = .ok (.iaload, 1) := by decide +kernel
theorem dd_X12_qPartOf_92 : decode m_X12_qPartOf.2.1 92 = .ok (.i2l, 1) := by decide +kernel
theorem dd_X12_qPartOf_93 : decode m_X12_qPartOf.2.1 93 = .ok (.lreturn, 1) := by decide +kernel
theorem dd_X12_qPartOf_94 : decode m_X12_qPartOf.2.1 94 = .ok (.aload_n 0, 1) := by decide +kernel
theorem dd_X12_qPartOf_95 : decode m_X12_qPartOf.2.1 95 = .ok (.iload_n 2, 1) := by decide +kernel
theorem dd_X12_qPartOf_96 : decode m_X12_qPartOf.2.1 96 = .ok (.invokevirtual 442, 3) := by decide +kernel
theorem dd_X12_qPartOf_99 : decode m_X12_qPartOf.2.1 99 = .ok (.i2l, 1) := by decide +kernel
theorem dd_X12_qPartOf_100 : decode m_X12_qPartOf.2.1 100 = .ok (.lreturn, 1) := by decide +kernel
theorem dd_X12_qPartOf_101 : decode m_X12_qPartOf.2.1 101 = .ok (.aload_n 0, 1) := by decide +kernel
theorem dd_X12_qPartOf_102 : decode m_X12_qPartOf.2.1 102 = .ok (.getfield 106, 3) := by decide +kernel
theorem dd_X12_qPartOf_105 : decode m_X12_qPartOf.2.1 105 = .ok (.bipush 25, 2) := by decide +kernel
theorem dd_X12_qPartOf_107 : decode m_X12_qPartOf.2.1 107 = .ok (.iconst 3, 1) := by decide +kernel
theorem dd_X12_qPartOf_108 : decode m_X12_qPartOf.2.1 108 = .ok (.iload_n 2, 1) := by decide +kernel
theorem dd_X12_qPartOf_109 : decode m_X12_qPartOf.2.1 109 = .ok (.imul, 1) := by decide +kernel
theorem dd_X12_qPartOf_110 : decode m_X12_qPartOf.2.1 110 = .ok (.iadd, 1) := by decide +kernel
theorem dd_X12_qPartOf_111 : decode m_X12_qPartOf.2.1 111 = .ok (.iaload, 1) := by decide +kernel
theorem dd_X12_qPartOf_112 : decode m_X12_qPartOf.2.1 112 = .ok (.i2l, 1) := by decide +kernel
theorem dd_X12_qPartOf_113 : decode m_X12_qPartOf.2.1 113 = .ok (.lreturn, 1) := by decide +kernel
theorem dd_X12_qPartOf_114 : decode m_X12_qPartOf.2.1 114 = .ok (.aload_n 0, 1) := by decide +kernel
theorem dd_X12_qPartOf_115 : decode m_X12_qPartOf.2.1 115 = .ok (.getfield 106, 3) := by decide +kernel
theorem dd_X12_qPartOf_118 : decode m_X12_qPartOf.2.1 118 = .ok (.bipush 26, 2) := by decide +kernel
theorem dd_X12_qPartOf_120 : decode m_X12_qPartOf.2.1 120 = .ok (.iconst 3, 1) := by decide +kernel
theorem dd_X12_qPartOf_121 : decode m_X12_qPartOf.2.1 121 = .ok (.iload_n 2, 1) := by decide +kernel
theorem dd_X12_qPartOf_122 : decode m_X12_qPartOf.2.1 122 = .ok (.imul, 1) := by decide +kernel
theorem dd_X12_qPartOf_123 : decode m_X12_qPartOf.2.1 123 = .ok (.iadd, 1) := by decide +kernel
theorem dd_X12_qPartOf_124 : decode m_X12_qPartOf.2.1 124 = .ok (.iaload, 1) := by decide +kernel
theorem dd_X12_qPartOf_125 : decode m_X12_qPartOf.2.1 125 = .ok (.i2l, 1) := by decide +kernel
theorem dd_X12_qPartOf_126 : decode m_X12_qPartOf.2.1 126 = .ok (.lreturn, 1) := by decide +kernel
theorem dd_X12_qPartOf_127 : decode m_X12_qPartOf.2.1 127 = .ok (.aload_n 0, 1) := by decide +kernel
theorem dd_X12_qPartOf_128 : decode m_X12_qPartOf.2.1 128 = .ok (.iload_n 2, 1) := by decide +kernel
theorem dd_X12_qPartOf_129 : decode m_X12_qPartOf.2.1 129 = .ok (.invokevirtual 469, 3) := by decide +kernel
theorem dd_X12_qPartOf_132 : decode m_X12_qPartOf.2.1 132 = .ok (.i2l, 1) := by decide +kernel
theorem dd_X12_qPartOf_133 : decode m_X12_qPartOf.2.1 133 = .ok (.lreturn, 1) := by decide +kernel
theorem dd_X12_qPartOf_134 : decode m_X12_qPartOf.2.1 134 = .ok (.aload_n 0, 1) := by decide +kernel
theorem dd_X12_qPartOf_135 : decode m_X12_qPartOf.2.1 135 = .ok (.aload_n 0, 1) := by decide +kernel
theorem dd_X12_qPartOf_136 : decode m_X12_qPartOf.2.1 136 = .ok (.getfield 418, 3) := by decide +kernel
theorem dd_X12_qPartOf_139 : decode m_X12_qPartOf.2.1 139 = .ok (.invokevirtual 518, 3) := by decide +kernel
theorem dd_X12_qPartOf_142 : decode m_X12_qPartOf.2.1 142 = .ok (.i2l, 1) := by decide +kernel
theorem dd_X12_qPartOf_143 : decode m_X12_qPartOf.2.1 143 = .ok (.lreturn, 1) := by decide +kernel
theorem dd_X12_qPartOf_144 : decode m_X12_qPartOf.2.1 144 = .ok (.iload_n 2, 1) := by decide +kernel
theorem dd_X12_qPartOf_145 : decode m_X12_qPartOf.2.1 145 = .ok (.i2l, 1) := by decide +kernel
theorem dd_X12_qPartOf_146 : decode m_X12_qPartOf.2.1 146 = .ok (.lreturn, 1) := by decide +kernel
theorem dd_X12_qPartOf_147 : decode m_X12_qPartOf.2.1 147 = .ok (.aload_n 0, 1) := by decide +kernel
theorem dd_X12_qPartOf_148 : decode m_X12_qPartOf.2.1 148 = .ok (.iload_n 2, 1) := by decide +kernel
theorem dd_X12_qPartOf_149 : decode m_X12_qPartOf.2.1 149 = .ok (.invokevirtual 412, 3) := by decide +kernel
theorem dd_X12_qPartOf_152 : decode m_X12_qPartOf.2.1 152 = .ok (.i2l, 1) := by decide +kernel
theorem dd_X12_qPartOf_153 : decode m_X12_qPartOf.2.1 153 = .ok (.lreturn, 1) := by decide +kernel
theorem dd_X12_qPartOf_154 : decode m_X12_qPartOf.2.1 154 = .ok (.aload_n 0, 1) := by decide +kernel
theorem dd_X12_qPartOf_155 : decode m_X12_qPartOf.2.1 155 = .ok (.iload_n 2, 1) := by decide +kernel
theorem dd_X12_qPartOf_156 : decode m_X12_qPartOf.2.1 156 = .ok (.invokevirtual 408, 3) := by decide +kernel
theorem dd_X12_qPartOf_159 : decode m_X12_qPartOf.2.1 159 = .ok (.i2l, 1) := by decide +kernel
theorem dd_X12_qPartOf_160 : decode m_X12_qPartOf.2.1 160 = .ok (.lreturn, 1) := by decide +kernel
def wp_X12_qPartOf (p0 : Int32) (p1 : Int32) (s : fz_s) (Q : Int64 → fz_s → Prop) : Prop :=
  ((p0 = 0 → vp_in (1 + (2 * (s.1 196 56))) 150 ∧ Q ((s.1 232 (1 + (2 * (s.1 196 56))).toNatClampNeg).toInt64) s) ∧ (p0 = 1 → vp_in (2 + (2 * (s.1 196 56))) 150 ∧ Q ((s.1 232 (2 + (2 * (s.1 196 56))).toNatClampNeg).toInt64) s) ∧ (p0 = 2 → Q ((s.1 232 (0 : Int32).toNatClampNeg).toInt64) s) ∧ (p0 = 3 → wp_X12_witsOf p1 s (fun r1 s2 => Q r1.toInt64 s2)) ∧ (p0 = 4 → vp_in (25 + (3 * p1)) 48 ∧ Q ((s.1 227 (25 + (3 * p1)).toNatClampNeg).toInt64) s) ∧ (p0 = 5 → vp_in (26 + (3 * p1)) 48 ∧ Q ((s.1 227 (26 + (3 * p1)).toNatClampNeg).toInt64) s) ∧ (p0 = 6 → wp_X12_awayOf p1 s (fun r3 s4 => Q r3.toInt64 s4)) ∧ (p0 = 7 → wp_X12_guestsOf (s.1 196 56) s (fun r5 s6 => Q r5.toInt64 s6)) ∧ (p0 = 8 → Q p1.toInt64 s) ∧ (p0 = 9 → wp_X12_livesIn p1 s (fun r7 s8 => Q r7.toInt64 s8)) ∧ (¬ p0 = 0 ∧ ¬ p0 = 1 ∧ ¬ p0 = 2 ∧ ¬ p0 = 3 ∧ ¬ p0 = 4 ∧ ¬ p0 = 5 ∧ ¬ p0 = 6 ∧ ¬ p0 = 7 ∧ ¬ p0 = 8 ∧ ¬ p0 = 9 → wp_X12_homeOf p1 s (fun r9 s10 => Q r9.toInt64 s10)))
set_option maxRecDepth 100000 in
set_option maxHeartbeats 4000000 in
theorem V_X12_qPartOf {g : fz_G} {l : Launch} {d : Nat} (hD : 3 ≤ d) {p0 : Int32} {p1 : Int32}  {s : fz_s} {Q : Int64 → fz_s → Prop} (H : wp_X12_qPartOf p0 p1 s Q) : fs_V g l m_X12_qPartOf d false 0 (fz_en [.ref 196, .int p0, .int p1] 3) [] s (rL Q) := by
  obtain ⟨d, rfl⟩ : ∃ e, d = e + 1 := ⟨d - 1, by omega⟩
  unfold wp_X12_qPartOf at H
  refine fs_iload_n (k0 := 1) (i := 1) dd_X12_qPartOf_0 rfl rfl ?_
  by_cases hc0 : p0 = 0
  · replace H := H.1 hc0
    refine fs_tableAt (k := 0) (off := 55) (tgt := 56) hc0 dd_X12_qPartOf_1 (by decide) (by decide) rfl (by decide) ?_
    refine fs_aload_n (k0 := 0) (i := 0) dd_X12_qPartOf_56 rfl rfl ?_
    refine fs_getr (ci := 12) (j := 54) (q := 232) dd_X12_qPartOf_57 fl_X12_121 ca_196 rfl (Or.inr ⟨_, rfl⟩) rfl (by decide) ?_
    refine fs_iconst (n := 1) (v := 1) dd_X12_qPartOf_60 (by decide) ?_
    refine fs_iconst (n := 2) (v := 2) dd_X12_qPartOf_61 (by decide) ?_
    refine fs_aload_n (k0 := 0) (i := 0) dd_X12_qPartOf_62 rfl rfl ?_
    refine fs_geti (ci := 12) (j := 56) dd_X12_qPartOf_63 fl_X12_418 ca_196 rfl (Or.inl rfl) ?_
    refine fs_imul dd_X12_qPartOf_66 ?_
    refine fs_iadd dd_X12_qPartOf_67 ?_
    have hb := H.1
    replace H := H.2
    refine fs_iald dd_X12_qPartOf_68 ca_232 hb ?_
    refine fs_i2l dd_X12_qPartOf_69 ?_
    exact fs_lret dd_X12_qPartOf_70 rfl H
  by_cases hc1 : p0 = 1
  · replace H := H.2.1 hc1
    refine fs_tableAt (k := 1) (off := 70) (tgt := 71) hc1 dd_X12_qPartOf_1 (by decide) (by decide) rfl (by decide) ?_
    refine fs_aload_n (k0 := 0) (i := 0) dd_X12_qPartOf_71 rfl rfl ?_
    refine fs_getr (ci := 12) (j := 54) (q := 232) dd_X12_qPartOf_72 fl_X12_121 ca_196 rfl (Or.inr ⟨_, rfl⟩) rfl (by decide) ?_
    refine fs_iconst (n := 2) (v := 2) dd_X12_qPartOf_75 (by decide) ?_
    refine fs_iconst (n := 2) (v := 2) dd_X12_qPartOf_76 (by decide) ?_
    refine fs_aload_n (k0 := 0) (i := 0) dd_X12_qPartOf_77 rfl rfl ?_
    refine fs_geti (ci := 12) (j := 56) dd_X12_qPartOf_78 fl_X12_418 ca_196 rfl (Or.inl rfl) ?_
    refine fs_imul dd_X12_qPartOf_81 ?_
    refine fs_iadd dd_X12_qPartOf_82 ?_
    have hb := H.1
    replace H := H.2
    refine fs_iald dd_X12_qPartOf_83 ca_232 hb ?_
    refine fs_i2l dd_X12_qPartOf_84 ?_
    exact fs_lret dd_X12_qPartOf_85 rfl H
  by_cases hc2 : p0 = 2
  · replace H := H.2.2.1 hc2
    refine fs_tableAt (k := 2) (off := 85) (tgt := 86) hc2 dd_X12_qPartOf_1 (by decide) (by decide) rfl (by decide) ?_
    refine fs_aload_n (k0 := 0) (i := 0) dd_X12_qPartOf_86 rfl rfl ?_
    refine fs_getr (ci := 12) (j := 54) (q := 232) dd_X12_qPartOf_87 fl_X12_121 ca_196 rfl (Or.inr ⟨_, rfl⟩) rfl (by decide) ?_
    refine fs_iconst (n := 0) (v := 0) dd_X12_qPartOf_90 (by decide) ?_
    refine fs_iald dd_X12_qPartOf_91 ca_232 (vp_in_nI (n := 0) (by decide) (by decide)) ?_
    refine fs_i2l dd_X12_qPartOf_92 ?_
    exact fs_lret dd_X12_qPartOf_93 rfl H
  by_cases hc3 : p0 = 3
  · replace H := H.2.2.2.1 hc3
    refine fs_tableAt (k := 3) (off := 93) (tgt := 94) hc3 dd_X12_qPartOf_1 (by decide) (by decide) rfl (by decide) ?_
    refine fs_aload_n (k0 := 0) (i := 0) dd_X12_qPartOf_94 rfl rfl ?_
    refine fs_iload_n (k0 := 2) (i := 2) dd_X12_qPartOf_95 rfl rfl ?_
    refine fs_callV (y := m_X12_witsOf) (as := [.int p1]) dd_X12_qPartOf_96 me_X12_witsOf lk_X12_442 in_X12_witsOf se_X12_witsOf ca_196 rfl rfl rfl (Nat.le_of_ble_eq_true rfl) (Nat.le_of_ble_eq_true rfl) rfl (V_X12_witsOf (by omega)  H) (k2_I fun r1 s2 H => ?_)
    refine fs_i2l dd_X12_qPartOf_99 ?_
    exact fs_lret dd_X12_qPartOf_100 rfl H
  by_cases hc4 : p0 = 4
  · replace H := H.2.2.2.2.1 hc4
    refine fs_tableAt (k := 4) (off := 100) (tgt := 101) hc4 dd_X12_qPartOf_1 (by decide) (by decide) rfl (by decide) ?_
    refine fs_aload_n (k0 := 0) (i := 0) dd_X12_qPartOf_101 rfl rfl ?_
    refine fs_getr (ci := 12) (j := 43) (q := 227) dd_X12_qPartOf_102 fl_X12_106 ca_196 rfl (Or.inr ⟨_, rfl⟩) rfl (by decide) ?_
    refine fs_bipush (n := 25) (v := 25) dd_X12_qPartOf_105 (by decide) ?_
    refine fs_iconst (n := 3) (v := 3) dd_X12_qPartOf_107 (by decide) ?_
    refine fs_iload_n (k0 := 2) (i := 2) dd_X12_qPartOf_108 rfl rfl ?_
    refine fs_imul dd_X12_qPartOf_109 ?_
    refine fs_iadd dd_X12_qPartOf_110 ?_
    have hb := H.1
    replace H := H.2
    refine fs_iald dd_X12_qPartOf_111 ca_227 hb ?_
    refine fs_i2l dd_X12_qPartOf_112 ?_
    exact fs_lret dd_X12_qPartOf_113 rfl H
  by_cases hc5 : p0 = 5
  · replace H := H.2.2.2.2.2.1 hc5
    refine fs_tableAt (k := 5) (off := 113) (tgt := 114) hc5 dd_X12_qPartOf_1 (by decide) (by decide) rfl (by decide) ?_
    refine fs_aload_n (k0 := 0) (i := 0) dd_X12_qPartOf_114 rfl rfl ?_
    refine fs_getr (ci := 12) (j := 43) (q := 227) dd_X12_qPartOf_115 fl_X12_106 ca_196 rfl (Or.inr ⟨_, rfl⟩) rfl (by decide) ?_
    refine fs_bipush (n := 26) (v := 26) dd_X12_qPartOf_118 (by decide) ?_
    refine fs_iconst (n := 3) (v := 3) dd_X12_qPartOf_120 (by decide) ?_
    refine fs_iload_n (k0 := 2) (i := 2) dd_X12_qPartOf_121 rfl rfl ?_
    refine fs_imul dd_X12_qPartOf_122 ?_
    refine fs_iadd dd_X12_qPartOf_123 ?_
    have hb := H.1
    replace H := H.2
    refine fs_iald dd_X12_qPartOf_124 ca_227 hb ?_
    refine fs_i2l dd_X12_qPartOf_125 ?_
    exact fs_lret dd_X12_qPartOf_126 rfl H
  by_cases hc6 : p0 = 6
  · replace H := H.2.2.2.2.2.2.1 hc6
    refine fs_tableAt (k := 6) (off := 126) (tgt := 127) hc6 dd_X12_qPartOf_1 (by decide) (by decide) rfl (by decide) ?_
    refine fs_aload_n (k0 := 0) (i := 0) dd_X12_qPartOf_127 rfl rfl ?_
    refine fs_iload_n (k0 := 2) (i := 2) dd_X12_qPartOf_128 rfl rfl ?_
    refine fs_callV (y := m_X12_awayOf) (as := [.int p1]) dd_X12_qPartOf_129 me_X12_awayOf lk_X12_469 in_X12_awayOf se_X12_awayOf ca_196 rfl rfl rfl (Nat.le_of_ble_eq_true rfl) (Nat.le_of_ble_eq_true rfl) rfl (V_X12_awayOf (by omega)  H) (k2_I fun r3 s4 H => ?_)
    refine fs_i2l dd_X12_qPartOf_132 ?_
    exact fs_lret dd_X12_qPartOf_133 rfl H
  by_cases hc7 : p0 = 7
  · replace H := H.2.2.2.2.2.2.2.1 hc7
    refine fs_tableAt (k := 7) (off := 133) (tgt := 134) hc7 dd_X12_qPartOf_1 (by decide) (by decide) rfl (by decide) ?_
    refine fs_aload_n (k0 := 0) (i := 0) dd_X12_qPartOf_134 rfl rfl ?_
    refine fs_aload_n (k0 := 0) (i := 0) dd_X12_qPartOf_135 rfl rfl ?_
    refine fs_geti (ci := 12) (j := 56) dd_X12_qPartOf_136 fl_X12_418 ca_196 rfl (Or.inl rfl) ?_
    refine fs_callV (y := m_X12_guestsOf) (as := [.int (s.1 196 56)]) dd_X12_qPartOf_139 me_X12_guestsOf lk_X12_518 in_X12_guestsOf se_X12_guestsOf ca_196 rfl rfl rfl (Nat.le_of_ble_eq_true rfl) (Nat.le_of_ble_eq_true rfl) rfl (V_X12_guestsOf (by omega)  H) (k2_I fun r5 s6 H => ?_)
    refine fs_i2l dd_X12_qPartOf_142 ?_
    exact fs_lret dd_X12_qPartOf_143 rfl H
  by_cases hc8 : p0 = 8
  · replace H := H.2.2.2.2.2.2.2.2.1 hc8
    refine fs_tableAt (k := 8) (off := 143) (tgt := 144) hc8 dd_X12_qPartOf_1 (by decide) (by decide) rfl (by decide) ?_
    refine fs_iload_n (k0 := 2) (i := 2) dd_X12_qPartOf_144 rfl rfl ?_
    refine fs_i2l dd_X12_qPartOf_145 ?_
    exact fs_lret dd_X12_qPartOf_146 rfl H
  by_cases hc9 : p0 = 9
  · replace H := H.2.2.2.2.2.2.2.2.2.1 hc9
    refine fs_tableAt (k := 9) (off := 146) (tgt := 147) hc9 dd_X12_qPartOf_1 (by decide) (by decide) rfl (by decide) ?_
    refine fs_aload_n (k0 := 0) (i := 0) dd_X12_qPartOf_147 rfl rfl ?_
    refine fs_iload_n (k0 := 2) (i := 2) dd_X12_qPartOf_148 rfl rfl ?_
    refine fs_callV (y := m_X12_livesIn) (as := [.int p1]) dd_X12_qPartOf_149 me_X12_livesIn lk_X12_412 in_X12_livesIn se_X12_livesIn ca_196 rfl rfl rfl (Nat.le_of_ble_eq_true rfl) (Nat.le_of_ble_eq_true rfl) rfl (V_X12_livesIn (by omega)  H) (k2_I fun r7 s8 H => ?_)
    refine fs_i2l dd_X12_qPartOf_152 ?_
    exact fs_lret dd_X12_qPartOf_153 rfl H
  replace H := H.2.2.2.2.2.2.2.2.2.2 ⟨hc0, hc1, hc2, hc3, hc4, hc5, hc6, hc7, hc8, hc9⟩
  refine fs_tableOut' (ks := [0, 1, 2, 3, 4, 5, 6, 7, 8, 9]) (tgt := 154) (by simp only [List.forall_mem_cons]; exact ⟨hc0, hc1, hc2, hc3, hc4, hc5, hc6, hc7, hc8, hc9, fun _ h => by cases h⟩) dd_X12_qPartOf_1 (by decide) (by decide) ?_
  refine fs_aload_n (k0 := 0) (i := 0) dd_X12_qPartOf_154 rfl rfl ?_
  refine fs_iload_n (k0 := 2) (i := 2) dd_X12_qPartOf_155 rfl rfl ?_
  refine fs_callV (y := m_X12_homeOf) (as := [.int p1]) dd_X12_qPartOf_156 me_X12_homeOf lk_X12_408 in_X12_homeOf se_X12_homeOf ca_196 rfl rfl rfl (Nat.le_of_ble_eq_true rfl) (Nat.le_of_ble_eq_true rfl) rfl (V_X12_homeOf (by omega)  H) (k2_I fun r9 s10 H => ?_)
  refine fs_i2l dd_X12_qPartOf_159 ?_
  exact fs_lret dd_X12_qPartOf_160 rfl H
theorem dd_X12_codesTell_0 : decode m_X12_codesTell.2.1 0 = .ok (.aload_n 0, 1) := by decide +kernel
theorem dd_X12_codesTell_1 : decode m_X12_codesTell.2.1 1 = .ok (.iload_n 1, 1) := by decide +kernel
theorem dd_X12_codesTell_2 : decode m_X12_codesTell.2.1 2 = .ok (.iconst 3, 1) := by decide +kernel
theorem dd_X12_codesTell_3 : decode m_X12_codesTell.2.1 3 = .ok (.if_icmp .ne 7, 3) := by decide +kernel
theorem dd_X12_codesTell_6 : decode m_X12_codesTell.2.1 6 = .ok (.iconst 1, 1) := by decide +kernel
theorem dd_X12_codesTell_7 : decode m_X12_codesTell.2.1 7 = .ok (.goto 4, 3) := by decide +kernel
theorem dd_X12_codesTell_10 : decode m_X12_codesTell.2.1 10 = .ok (.iconst 0, 1) := by decide +kernel
theorem dd_X12_codesTell_11 : decode m_X12_codesTell.2.1 11 = .ok (.putfield 310, 3) := by decide +kernel
theorem dd_X12_codesTell_14 : decode m_X12_codesTell.2.1 14 = .ok (.aload_n 0, 1) := by decide +kernel
theorem dd_X12_codesTell_15 : decode m_X12_codesTell.2.1 15 = .ok (.iload_n 3, 1) := by decide +kernel
theorem dd_X12_codesTell_16 : decode m_X12_codesTell.2.1 16 = .ok (.putfield 418, 3) := by decide +kernel
theorem dd_X12_codesTell_19 : decode m_X12_codesTell.2.1 19 = .ok (.aload_n 0, 1) := by decide +kernel
theorem dd_X12_codesTell_20 : decode m_X12_codesTell.2.1 20 = .ok (.iconst 0, 1) := by decide +kernel
theorem dd_X12_codesTell_21 : decode m_X12_codesTell.2.1 21 = .ok (.putfield 421, 3) := by decide +kernel
theorem dd_X12_codesTell_24 : decode m_X12_codesTell.2.1 24 = .ok (.aload_n 0, 1) := by decide +kernel
theorem dd_X12_codesTell_25 : decode m_X12_codesTell.2.1 25 = .ok (.getfield 112, 3) := by decide +kernel
theorem dd_X12_codesTell_28 : decode m_X12_codesTell.2.1 28 = .ok (.iconst 5, 1) := by decide +kernel
theorem dd_X12_codesTell_29 : decode m_X12_codesTell.2.1 29 = .ok (.iload_n 1, 1) := by decide +kernel
theorem dd_X12_codesTell_30 : decode m_X12_codesTell.2.1 30 = .ok (.iadd, 1) := by decide +kernel
theorem dd_X12_codesTell_31 : decode m_X12_codesTell.2.1 31 = .ok (.iaload, 1) := by decide +kernel
theorem dd_X12_codesTell_32 : decode m_X12_codesTell.2.1 32 = .ok (.istore 4, 2) := by decide +kernel
theorem dd_X12_codesTell_34 : decode m_X12_codesTell.2.1 34 = .ok (.iload 4, 2) := by decide +kernel
theorem dd_X12_codesTell_36 : decode m_X12_codesTell.2.1 36 = .ok (.aload_n 0, 1) := by decide +kernel
theorem dd_X12_codesTell_37 : decode m_X12_codesTell.2.1 37 = .ok (.getfield 115, 3) := by decide +kernel
theorem dd_X12_codesTell_40 : decode m_X12_codesTell.2.1 40 = .ok (.iconst 5, 1) := by decide +kernel
theorem dd_X12_codesTell_41 : decode m_X12_codesTell.2.1 41 = .ok (.iload_n 1, 1) := by decide +kernel
theorem dd_X12_codesTell_42 : decode m_X12_codesTell.2.1 42 = .ok (.iadd, 1) := by decide +kernel
theorem dd_X12_codesTell_43 : decode m_X12_codesTell.2.1 43 = .ok (.iaload, 1) := by decide +kernel
theorem dd_X12_codesTell_44 : decode m_X12_codesTell.2.1 44 = .ok (.if_icmp .ge 123, 3) := by decide +kernel
theorem dd_X12_codesTell_47 : decode m_X12_codesTell.2.1 47 = .ok (.aload_n 0, 1) := by decide +kernel
theorem dd_X12_codesTell_48 : decode m_X12_codesTell.2.1 48 = .ok (.getfield 118, 3) := by decide +kernel
theorem dd_X12_codesTell_51 : decode m_X12_codesTell.2.1 51 = .ok (.sipush 1600, 3) := by decide +kernel
theorem dd_X12_codesTell_54 : decode m_X12_codesTell.2.1 54 = .ok (.iload 4, 2) := by decide +kernel
theorem dd_X12_codesTell_56 : decode m_X12_codesTell.2.1 56 = .ok (.iadd, 1) := by decide +kernel
theorem dd_X12_codesTell_57 : decode m_X12_codesTell.2.1 57 = .ok (.iaload, 1) := by decide +kernel
theorem dd_X12_codesTell_58 : decode m_X12_codesTell.2.1 58 = .ok (.istore 5, 2) := by decide +kernel
theorem dd_X12_codesTell_60 : decode m_X12_codesTell.2.1 60 = .ok (.iload 5, 2) := by decide +kernel
theorem dd_X12_codesTell_62 : decode m_X12_codesTell.2.1 62 = .ok (.sipush 1000, 3) := by decide +kernel
theorem dd_X12_codesTell_65 : decode m_X12_codesTell.2.1 65 = .ok (.if_icmp .lt 17, 3) := by decide +kernel
theorem dd_X12_codesTell_68 : decode m_X12_codesTell.2.1 68 = .ok (.aload_n 0, 1) := by decide +kernel
theorem dd_X12_codesTell_69 : decode m_X12_codesTell.2.1 69 = .ok (.iload 5, 2) := by decide +kernel
theorem dd_X12_codesTell_71 : decode m_X12_codesTell.2.1 71 = .ok (.sipush 1000, 3) := by decide +kernel
theorem dd_X12_codesTell_74 : decode m_X12_codesTell.2.1 74 = .ok (.isub, 1) := by decide +kernel
theorem dd_X12_codesTell_75 : decode m_X12_codesTell.2.1 75 = .ok (.i2l, 1) := by decide +kernel
theorem dd_X12_codesTell_76 : decode m_X12_codesTell.2.1 76 = .ok (.invokevirtual 424, 3) := by decide +kernel
theorem dd_X12_codesTell_79 : decode m_X12_codesTell.2.1 79 = .ok (.goto 82, 3) := by decide +kernel
theorem dd_X12_codesTell_82 : decode m_X12_codesTell.2.1 82 = .ok (.iload 5, 2) := by decide +kernel
theorem dd_X12_codesTell_84 : decode m_X12_codesTell.2.1 84 = .ok (.bipush 40, 2) := by decide +kernel
theorem dd_X12_codesTell_86 : decode m_X12_codesTell.2.1 86 = .ok (.if_icmp .lt 20, 3) := by decide +kernel
theorem dd_X12_codesTell_89 : decode m_X12_codesTell.2.1 89 = .ok (.aload_n 0, 1) := by decide +kernel
theorem dd_X12_codesTell_90 : decode m_X12_codesTell.2.1 90 = .ok (.aload_n 0, 1) := by decide +kernel
theorem dd_X12_codesTell_91 : decode m_X12_codesTell.2.1 91 = .ok (.iload 5, 2) := by decide +kernel
theorem dd_X12_codesTell_93 : decode m_X12_codesTell.2.1 93 = .ok (.bipush 40, 2) := by decide +kernel
theorem dd_X12_codesTell_95 : decode m_X12_codesTell.2.1 95 = .ok (.isub, 1) := by decide +kernel
theorem dd_X12_codesTell_96 : decode m_X12_codesTell.2.1 96 = .ok (.iload_n 2, 1) := by decide +kernel
theorem dd_X12_codesTell_97 : decode m_X12_codesTell.2.1 97 = .ok (.invokevirtual 428, 3) := by decide +kernel
theorem dd_X12_codesTell_100 : decode m_X12_codesTell.2.1 100 = .ok (.invokevirtual 424, 3) := by decide +kernel
theorem dd_X12_codesTell_103 : decode m_X12_codesTell.2.1 103 = .ok (.goto 58, 3) := by decide +kernel
theorem dd_X12_codesTell_106 : decode m_X12_codesTell.2.1 106 = .ok (.iload 5, 2) := by decide +kernel
theorem dd_X12_codesTell_108 : decode m_X12_codesTell.2.1 108 = .ok (.bipush 13, 2) := by decide +kernel
theorem dd_X12_codesTell_110 : decode m_X12_codesTell.2.1 110 = .ok (.if_icmp .ne 11, 3) := by decide +kernel
theorem dd_X12_codesTell_113 : decode m_X12_codesTell.2.1 113 = .ok (.aload_n 0, 1) := by decide +kernel
theorem dd_X12_codesTell_114 : decode m_X12_codesTell.2.1 114 = .ok (.lconst 1, 1) := by decide +kernel
theorem dd_X12_codesTell_115 : decode m_X12_codesTell.2.1 115 = .ok (.invokevirtual 424, 3) := by decide +kernel
theorem dd_X12_codesTell_118 : decode m_X12_codesTell.2.1 118 = .ok (.goto 43, 3) := by decide +kernel
theorem dd_X12_codesTell_121 : decode m_X12_codesTell.2.1 121 = .ok (.iload 5, 2) := by decide +kernel
theorem dd_X12_codesTell_123 : decode m_X12_codesTell.2.1 123 = .ok (.bipush 12, 2) := by decide +kernel
theorem dd_X12_codesTell_125 : decode m_X12_codesTell.2.1 125 = .ok (.if_icmp .ne 30, 3) := by decide +kernel
theorem dd_X12_codesTell_128 : decode m_X12_codesTell.2.1 128 = .ok (.aload_n 0, 1) := by decide +kernel
theorem dd_X12_codesTell_129 : decode m_X12_codesTell.2.1 129 = .ok (.getfield 243, 3) := by decide +kernel
theorem dd_X12_codesTell_132 : decode m_X12_codesTell.2.1 132 = .ok (.aload_n 0, 1) := by decide +kernel
theorem dd_X12_codesTell_133 : decode m_X12_codesTell.2.1 133 = .ok (.getfield 421, 3) := by decide +kernel
theorem dd_X12_codesTell_136 : decode m_X12_codesTell.2.1 136 = .ok (.iconst 1, 1) := by decide +kernel
theorem dd_X12_codesTell_137 : decode m_X12_codesTell.2.1 137 = .ok (.isub, 1) := by decide +kernel
theorem dd_X12_codesTell_138 : decode m_X12_codesTell.2.1 138 = .ok (.lconst 1, 1) := by decide +kernel
theorem dd_X12_codesTell_139 : decode m_X12_codesTell.2.1 139 = .ok (.aload_n 0, 1) := by decide +kernel
theorem dd_X12_codesTell_140 : decode m_X12_codesTell.2.1 140 = .ok (.getfield 243, 3) := by decide +kernel
theorem dd_X12_codesTell_143 : decode m_X12_codesTell.2.1 143 = .ok (.aload_n 0, 1) := by decide +kernel
theorem dd_X12_codesTell_144 : decode m_X12_codesTell.2.1 144 = .ok (.getfield 421, 3) := by decide +kernel
theorem dd_X12_codesTell_147 : decode m_X12_codesTell.2.1 147 = .ok (.iconst 1, 1) := by decide +kernel
theorem dd_X12_codesTell_148 : decode m_X12_codesTell.2.1 148 = .ok (.isub, 1) := by decide +kernel
theorem dd_X12_codesTell_149 : decode m_X12_codesTell.2.1 149 = .ok (.laload, 1) := by decide +kernel
theorem dd_X12_codesTell_150 : decode m_X12_codesTell.2.1 150 = .ok (.lsub, 1) := by decide +kernel
theorem dd_X12_codesTell_151 : decode m_X12_codesTell.2.1 151 = .ok (.lastore, 1) := by decide +kernel
theorem dd_X12_codesTell_152 : decode m_X12_codesTell.2.1 152 = .ok (.goto 9, 3) := by decide +kernel
theorem dd_X12_codesTell_155 : decode m_X12_codesTell.2.1 155 = .ok (.aload_n 0, 1) := by decide +kernel
theorem dd_X12_codesTell_156 : decode m_X12_codesTell.2.1 156 = .ok (.iload 5, 2) := by decide +kernel
theorem dd_X12_codesTell_158 : decode m_X12_codesTell.2.1 158 = .ok (.invokevirtual 432, 3) := by decide +kernel
theorem dd_X12_codesTell_161 : decode m_X12_codesTell.2.1 161 = .ok (.iinc 4 1, 3) := by decide +kernel
theorem dd_X12_codesTell_164 : decode m_X12_codesTell.2.1 164 = .ok (.goto (-130), 3) := by decide +kernel
theorem dd_X12_codesTell_167 : decode m_X12_codesTell.2.1 167 = .ok (.aload_n 0, 1) := by decide +kernel
theorem dd_X12_codesTell_168 : decode m_X12_codesTell.2.1 168 = .ok (.getfield 243, 3) := by decide +kernel
theorem dd_X12_codesTell_171 : decode m_X12_codesTell.2.1 171 = .ok (.iconst 0, 1) := by decide +kernel
theorem dd_X12_codesTell_172 : decode m_X12_codesTell.2.1 172 = .ok (.laload, 1) := by decide +kernel
theorem dd_X12_codesTell_173 : decode m_X12_codesTell.2.1 173 = .ok (.lreturn, 1) := by decide +kernel
def nd_X12_codesTell_34  (K34 : Int32 → Int32 → Int32 → fz_s → Prop) (Q : Int64 → fz_s → Prop) (v1 : Int32) (v2 : Int32) (v4 : Int32) (s : fz_s) : Prop :=
  vp_in (5 + v1) 10 ∧ (((s.1 230 (5 + v1).toNatClampNeg) ≤ v4 → Q (s.2.1 271 (0 : Int32).toNatClampNeg) s) ∧ (¬ (s.1 230 (5 + v1).toNatClampNeg) ≤ v4 → vp_in (1600 + v4) 3200 ∧ ∀ x1 : Int32, x1 = (s.1 231 (1600 + v4).toNatClampNeg) → ((x1 < 1000 → ((x1 < 40 → ((¬ x1 = 13 → ((¬ x1 = 12 → wp_X12_qJoins x1 s (fun s3 => ∀ x4 : Int32, x4 = v4 + 1 → K34 v1 v2 x4 s3)) ∧ (x1 = 12 → vp_in ((s.1 196 107) - 1) 1700 ∧ vp_in ((s.1 196 107) - 1) 1700 ∧ ∀ s5 : fz_s, s5 = sl s 271 ((s.1 196 107) - 1).toNatClampNeg (1 - (s.2.1 271 ((s.1 196 107) - 1).toNatClampNeg)) → ∀ x6 : Int32, x6 = v4 + 1 → K34 v1 v2 x6 s5))) ∧ (x1 = 13 → wp_X12_qPuts 1 s (fun s8 => ∀ x9 : Int32, x9 = v4 + 1 → K34 v1 v2 x9 s8)))) ∧ (¬ x1 < 40 → wp_X12_qPartOf (x1 - 40) v2 s (fun r10 s11 => wp_X12_qPuts r10 s11 (fun s13 => ∀ x14 : Int32, x14 = v4 + 1 → K34 v1 v2 x14 s13))))) ∧ (¬ x1 < 1000 → wp_X12_qPuts ((x1 - 1000).toInt64) s (fun s16 => ∀ x17 : Int32, x17 = v4 + 1 → K34 v1 v2 x17 s16)))))
def lp_X12_codesTell_34   (Q : Int64 → fz_s → Prop) : Nat → Int32 → Int32 → Int32 → fz_s → Prop
  | 0 => fun _ _ _ _ => False
  | n + 1 => nd_X12_codesTell_34  (lp_X12_codesTell_34   Q n) Q
def nd_X12_codesTell_11   (Q : Int64 → fz_s → Prop) (v1 : Int32) (v2 : Int32) (v3 : Int32) (u0 : Bool) (s : fz_s) : Prop :=
  ∀ s1 : fz_s, s1 = si s 196 53 (bi u0) → ∀ s2 : fz_s, s2 = si s1 196 56 v3 → ∀ s3 : fz_s, s3 = si s2 196 107 0 → vp_in (5 + v1) 10 ∧ ∀ x4 : Int32, x4 = (s3.1 229 (5 + v1).toNatClampNeg) → lp_X12_codesTell_34   Q 2048 v1 v2 x4 s3
def wp_X12_codesTell (p0 : Int32) (p1 : Int32) (p2 : Int32) (s : fz_s) (Q : Int64 → fz_s → Prop) : Prop :=
  ((¬ p0 = 3 → nd_X12_codesTell_11   Q p0 p1 p2 false s) ∧ (p0 = 3 → nd_X12_codesTell_11   Q p0 p1 p2 true s))
set_option maxRecDepth 100000 in
set_option maxHeartbeats 4000000 in
theorem V_nd_X12_codesTell_34 {g : fz_G} {l : Launch} {d : Nat} (hD : 4 ≤ d)   {K34 : Int32 → Int32 → Int32 → fz_s → Prop} {Q : Int64 → fz_s → Prop} {v1 : Int32} {v2 : Int32} {v4 : Int32} {s : fz_s} (hK34 : ∀ {v1 : Int32} {v2 : Int32} {v4 : Int32} {s : fz_s}, K34 v1 v2 v4 s → fs_V g l m_X12_codesTell d false 34 [.ref 196, .int v1, .int v2, fz_J, .int v4, fz_J] [] s (rL Q)) (H : nd_X12_codesTell_34  K34 Q v1 v2 v4 s) : fs_V g l m_X12_codesTell d false 34 [.ref 196, .int v1, .int v2, fz_J, .int v4, fz_J] [] s (rL Q) := by
  obtain ⟨d, rfl⟩ : ∃ e, d = e + 1 := ⟨d - 1, by omega⟩
  unfold nd_X12_codesTell_34 at H
  refine fs_iload (i := 4) dd_X12_codesTell_34 rfl ?_
  refine fs_aload_n (k0 := 0) (i := 0) dd_X12_codesTell_36 rfl rfl ?_
  refine fs_getr (ci := 12) (j := 48) (q := 230) dd_X12_codesTell_37 fl_X12_115 ca_196 rfl (Or.inr ⟨_, rfl⟩) rfl (by decide) ?_
  refine fs_iconst (n := 5) (v := 5) dd_X12_codesTell_40 (by decide) ?_
  refine fs_iload_n (k0 := 1) (i := 1) dd_X12_codesTell_41 rfl rfl ?_
  refine fs_iadd dd_X12_codesTell_42 ?_
  have hb := H.1
  replace H := H.2
  refine fs_iald dd_X12_codesTell_43 ca_230 hb ?_
  refine fs_icmp_ge (tgt := 167) dd_X12_codesTell_44 (by decide) (fun hc => ?_) (fun hc => ?_)
  · replace H := H.1 hc
    refine fs_aload_n (k0 := 0) (i := 0) dd_X12_codesTell_167 rfl rfl ?_
    refine fs_getr (ci := 12) (j := 106) (q := 271) dd_X12_codesTell_168 fl_X12_243 ca_196 rfl (Or.inr ⟨_, rfl⟩) rfl (by decide) ?_
    refine fs_iconst (n := 0) (v := 0) dd_X12_codesTell_171 (by decide) ?_
    refine fs_lald dd_X12_codesTell_172 ca_271 (vp_in_nI (n := 0) (by decide) (by decide)) ?_
    exact fs_lret dd_X12_codesTell_173 rfl H
  · replace H := H.2 hc
    refine fs_aload_n (k0 := 0) (i := 0) dd_X12_codesTell_47 rfl rfl ?_
    refine fs_getr (ci := 12) (j := 49) (q := 231) dd_X12_codesTell_48 fl_X12_118 ca_196 rfl (Or.inr ⟨_, rfl⟩) rfl (by decide) ?_
    refine fs_sipush (n := 1600) (v := 1600) dd_X12_codesTell_51 (by decide) ?_
    refine fs_iload (i := 4) dd_X12_codesTell_54 rfl ?_
    refine fs_iadd dd_X12_codesTell_56 ?_
    have hb := H.1
    replace H := H.2
    refine fs_iald dd_X12_codesTell_57 ca_231 hb ?_
    refine fs_topi (fun x1 hx1 => ?_)
    replace H := H x1 hx1
    refine fs_istore (i := 5) dd_X12_codesTell_58 (by decide) ?_
    refine fs_iload (i := 5) dd_X12_codesTell_60 rfl ?_
    refine fs_sipush (n := 1000) (v := 1000) dd_X12_codesTell_62 (by decide) ?_
    refine fs_icmp_lt (tgt := 82) dd_X12_codesTell_65 (by decide) (fun hc => ?_) (fun hc => ?_)
    · replace H := H.1 hc
      refine fs_iload (i := 5) dd_X12_codesTell_82 rfl ?_
      refine fs_bipush (n := 40) (v := 40) dd_X12_codesTell_84 (by decide) ?_
      refine fs_icmp_lt (tgt := 106) dd_X12_codesTell_86 (by decide) (fun hc => ?_) (fun hc => ?_)
      · replace H := H.1 hc
        refine fs_iload (i := 5) dd_X12_codesTell_106 rfl ?_
        refine fs_bipush (n := 13) (v := 13) dd_X12_codesTell_108 (by decide) ?_
        refine fs_icmp_ne (tgt := 121) dd_X12_codesTell_110 (by decide) (fun hc => ?_) (fun hc => ?_)
        · replace H := H.1 hc
          refine fs_iload (i := 5) dd_X12_codesTell_121 rfl ?_
          refine fs_bipush (n := 12) (v := 12) dd_X12_codesTell_123 (by decide) ?_
          refine fs_icmp_ne (tgt := 155) dd_X12_codesTell_125 (by decide) (fun hc => ?_) (fun hc => ?_)
          · replace H := H.1 hc
            refine fs_aload_n (k0 := 0) (i := 0) dd_X12_codesTell_155 rfl rfl ?_
            refine fs_iload (i := 5) dd_X12_codesTell_156 rfl ?_
            refine fs_callV (y := m_X12_qJoins) (as := [.int x1]) dd_X12_codesTell_158 me_X12_qJoins lk_X12_432 in_X12_qJoins se_X12_qJoins ca_196 rfl rfl rfl (Nat.le_of_ble_eq_true rfl) (Nat.le_of_ble_eq_true rfl) rfl (V_X12_qJoins (by omega)  H) (k2_V fun s3 H => ?_)
            refine fs_iincN (i := 4) (m := 1) (c := 1) dd_X12_codesTell_161 rfl (by decide) (by decide) (fun x4 hx4 => ?_)
            replace H := H x4 hx4
            refine fs_goto (tgt := 34) dd_X12_codesTell_164 (by decide) ?_
            refine fs_weak (ls2 := [.ref 196, .int v1, .int v2, fz_J, .int x4, fz_J]) (fz_le_e (fz_le_e (fz_le_e (fz_le_j (fz_le_e (fz_le_j fz_le_n)))))) ?_
            exact hK34 H
          · replace H := H.2 hc
            refine fs_aload_n (k0 := 0) (i := 0) dd_X12_codesTell_128 rfl rfl ?_
            refine fs_getr (ci := 12) (j := 106) (q := 271) dd_X12_codesTell_129 fl_X12_243 ca_196 rfl (Or.inr ⟨_, rfl⟩) rfl (by decide) ?_
            refine fs_aload_n (k0 := 0) (i := 0) dd_X12_codesTell_132 rfl rfl ?_
            refine fs_geti (ci := 12) (j := 107) dd_X12_codesTell_133 fl_X12_421 ca_196 rfl (Or.inl rfl) ?_
            refine fs_iconst (n := 1) (v := 1) dd_X12_codesTell_136 (by decide) ?_
            refine fs_isub dd_X12_codesTell_137 ?_
            refine fs_lconst (n := 1) (v := 1) dd_X12_codesTell_138 (by decide) ?_
            refine fs_aload_n (k0 := 0) (i := 0) dd_X12_codesTell_139 rfl rfl ?_
            refine fs_getr (ci := 12) (j := 106) (q := 271) dd_X12_codesTell_140 fl_X12_243 ca_196 rfl (Or.inr ⟨_, rfl⟩) rfl (by decide) ?_
            refine fs_aload_n (k0 := 0) (i := 0) dd_X12_codesTell_143 rfl rfl ?_
            refine fs_geti (ci := 12) (j := 107) dd_X12_codesTell_144 fl_X12_421 ca_196 rfl (Or.inl rfl) ?_
            refine fs_iconst (n := 1) (v := 1) dd_X12_codesTell_147 (by decide) ?_
            refine fs_isub dd_X12_codesTell_148 ?_
            have hb := H.1
            replace H := H.2
            refine fs_lald dd_X12_codesTell_149 ca_271 hb ?_
            refine fs_lsub dd_X12_codesTell_150 ?_
            have hb := H.1
            replace H := H.2
            refine fs_last dd_X12_codesTell_151 ca_271 hb ?_
            refine fs_tops (fun s5 hs5 => ?_)
            replace H := H s5 hs5
            refine fs_goto (tgt := 161) dd_X12_codesTell_152 (by decide) ?_
            refine fs_iincN (i := 4) (m := 1) (c := 1) dd_X12_codesTell_161 rfl (by decide) (by decide) (fun x6 hx6 => ?_)
            replace H := H x6 hx6
            refine fs_goto (tgt := 34) dd_X12_codesTell_164 (by decide) ?_
            refine fs_weak (ls2 := [.ref 196, .int v1, .int v2, fz_J, .int x6, fz_J]) (fz_le_e (fz_le_e (fz_le_e (fz_le_j (fz_le_e (fz_le_j fz_le_n)))))) ?_
            exact hK34 H
        · replace H := H.2 hc
          refine fs_aload_n (k0 := 0) (i := 0) dd_X12_codesTell_113 rfl rfl ?_
          refine fs_lconst (n := 1) (v := 1) dd_X12_codesTell_114 (by decide) ?_
          refine fs_callV (y := m_X12_qPuts) (as := [.long 1]) dd_X12_codesTell_115 me_X12_qPuts lk_X12_424 in_X12_qPuts se_X12_qPuts ca_196 rfl rfl rfl (Nat.le_of_ble_eq_true rfl) (Nat.le_of_ble_eq_true rfl) rfl (V_X12_qPuts (by omega)  H) (k2_V fun s8 H => ?_)
          refine fs_goto (tgt := 161) dd_X12_codesTell_118 (by decide) ?_
          refine fs_iincN (i := 4) (m := 1) (c := 1) dd_X12_codesTell_161 rfl (by decide) (by decide) (fun x9 hx9 => ?_)
          replace H := H x9 hx9
          refine fs_goto (tgt := 34) dd_X12_codesTell_164 (by decide) ?_
          refine fs_weak (ls2 := [.ref 196, .int v1, .int v2, fz_J, .int x9, fz_J]) (fz_le_e (fz_le_e (fz_le_e (fz_le_j (fz_le_e (fz_le_j fz_le_n)))))) ?_
          exact hK34 H
      · replace H := H.2 hc
        refine fs_aload_n (k0 := 0) (i := 0) dd_X12_codesTell_89 rfl rfl ?_
        refine fs_aload_n (k0 := 0) (i := 0) dd_X12_codesTell_90 rfl rfl ?_
        refine fs_iload (i := 5) dd_X12_codesTell_91 rfl ?_
        refine fs_bipush (n := 40) (v := 40) dd_X12_codesTell_93 (by decide) ?_
        refine fs_isub dd_X12_codesTell_95 ?_
        refine fs_iload_n (k0 := 2) (i := 2) dd_X12_codesTell_96 rfl rfl ?_
        refine fs_callV (y := m_X12_qPartOf) (as := [.int (x1 - 40), .int v2]) dd_X12_codesTell_97 me_X12_qPartOf lk_X12_428 in_X12_qPartOf se_X12_qPartOf ca_196 rfl rfl rfl (Nat.le_of_ble_eq_true rfl) (Nat.le_of_ble_eq_true rfl) rfl (V_X12_qPartOf (by omega)  H) (k2_L fun r10 s11 H => ?_)
        refine fs_callV (y := m_X12_qPuts) (as := [.long r10]) dd_X12_codesTell_100 me_X12_qPuts lk_X12_424 in_X12_qPuts se_X12_qPuts ca_196 rfl rfl rfl (Nat.le_of_ble_eq_true rfl) (Nat.le_of_ble_eq_true rfl) rfl (V_X12_qPuts (by omega)  H) (k2_V fun s13 H => ?_)
        refine fs_goto (tgt := 161) dd_X12_codesTell_103 (by decide) ?_
        refine fs_iincN (i := 4) (m := 1) (c := 1) dd_X12_codesTell_161 rfl (by decide) (by decide) (fun x14 hx14 => ?_)
        replace H := H x14 hx14
        refine fs_goto (tgt := 34) dd_X12_codesTell_164 (by decide) ?_
        refine fs_weak (ls2 := [.ref 196, .int v1, .int v2, fz_J, .int x14, fz_J]) (fz_le_e (fz_le_e (fz_le_e (fz_le_j (fz_le_e (fz_le_j fz_le_n)))))) ?_
        exact hK34 H
    · replace H := H.2 hc
      refine fs_aload_n (k0 := 0) (i := 0) dd_X12_codesTell_68 rfl rfl ?_
      refine fs_iload (i := 5) dd_X12_codesTell_69 rfl ?_
      refine fs_sipush (n := 1000) (v := 1000) dd_X12_codesTell_71 (by decide) ?_
      refine fs_isub dd_X12_codesTell_74 ?_
      refine fs_i2l dd_X12_codesTell_75 ?_
      refine fs_callV (y := m_X12_qPuts) (as := [.long (x1 - 1000).toInt64]) dd_X12_codesTell_76 me_X12_qPuts lk_X12_424 in_X12_qPuts se_X12_qPuts ca_196 rfl rfl rfl (Nat.le_of_ble_eq_true rfl) (Nat.le_of_ble_eq_true rfl) rfl (V_X12_qPuts (by omega)  H) (k2_V fun s16 H => ?_)
      refine fs_goto (tgt := 161) dd_X12_codesTell_79 (by decide) ?_
      refine fs_iincN (i := 4) (m := 1) (c := 1) dd_X12_codesTell_161 rfl (by decide) (by decide) (fun x17 hx17 => ?_)
      replace H := H x17 hx17
      refine fs_goto (tgt := 34) dd_X12_codesTell_164 (by decide) ?_
      refine fs_weak (ls2 := [.ref 196, .int v1, .int v2, fz_J, .int x17, fz_J]) (fz_le_e (fz_le_e (fz_le_e (fz_le_j (fz_le_e (fz_le_j fz_le_n)))))) ?_
      exact hK34 H
set_option maxRecDepth 100000 in
set_option maxHeartbeats 4000000 in
theorem V_lp_X12_codesTell_34 {g : fz_G} {l : Launch} {d : Nat} (hD : 4 ≤ d)    {Q : Int64 → fz_s → Prop}  (n : Nat) : ∀ {v1 : Int32} {v2 : Int32} {v4 : Int32} {s : fz_s}, lp_X12_codesTell_34   Q n v1 v2 v4 s → fs_V g l m_X12_codesTell d false 34 [.ref 196, .int v1, .int v2, fz_J, .int v4, fz_J] [] s (rL Q) := by
  induction n with
  | zero => intro v1 v2 v4 s H; exact H.elim
  | succ n ih => intro v1 v2 v4 s H; exact V_nd_X12_codesTell_34 hD  (fun H => ih H) H
set_option maxRecDepth 100000 in
set_option maxHeartbeats 4000000 in
theorem V_nd_X12_codesTell_11 {g : fz_G} {l : Launch} {d : Nat} (hD : 4 ≤ d)    {Q : Int64 → fz_s → Prop} {v1 : Int32} {v2 : Int32} {v3 : Int32} {u0 : Bool} {s : fz_s}  (H : nd_X12_codesTell_11   Q v1 v2 v3 u0 s) : fs_V g l m_X12_codesTell d false 11 [.ref 196, .int v1, .int v2, .int v3, fz_J, fz_J] [.int (bi u0), .ref 196] s (rL Q) := by
  obtain ⟨d, rfl⟩ : ∃ e, d = e + 1 := ⟨d - 1, by omega⟩
  unfold nd_X12_codesTell_11 at H
  refine fs_puti (ci := 12) (j := 53) dd_X12_codesTell_11 fl_X12_310 (fun _ _ _ h => by cases h; rfl) ca_196 rfl (Or.inl rfl) ?_
  refine fs_tops (fun s1 hs1 => ?_)
  replace H := H s1 hs1
  refine fs_aload_n (k0 := 0) (i := 0) dd_X12_codesTell_14 rfl rfl ?_
  refine fs_iload_n (k0 := 3) (i := 3) dd_X12_codesTell_15 rfl rfl ?_
  refine fs_puti (ci := 12) (j := 56) dd_X12_codesTell_16 fl_X12_418 (fun _ _ _ h => by cases h; rfl) ca_196 rfl (Or.inl rfl) ?_
  refine fs_tops (fun s2 hs2 => ?_)
  replace H := H s2 hs2
  refine fs_aload_n (k0 := 0) (i := 0) dd_X12_codesTell_19 rfl rfl ?_
  refine fs_iconst (n := 0) (v := 0) dd_X12_codesTell_20 (by decide) ?_
  refine fs_puti (ci := 12) (j := 107) dd_X12_codesTell_21 fl_X12_421 (fun _ _ _ h => by cases h; rfl) ca_196 rfl (Or.inl rfl) ?_
  refine fs_tops (fun s3 hs3 => ?_)
  replace H := H s3 hs3
  refine fs_aload_n (k0 := 0) (i := 0) dd_X12_codesTell_24 rfl rfl ?_
  refine fs_getr (ci := 12) (j := 47) (q := 229) dd_X12_codesTell_25 fl_X12_112 ca_196 rfl (Or.inr ⟨_, rfl⟩) rfl (by decide) ?_
  refine fs_iconst (n := 5) (v := 5) dd_X12_codesTell_28 (by decide) ?_
  refine fs_iload_n (k0 := 1) (i := 1) dd_X12_codesTell_29 rfl rfl ?_
  refine fs_iadd dd_X12_codesTell_30 ?_
  have hb := H.1
  replace H := H.2
  refine fs_iald dd_X12_codesTell_31 ca_229 hb ?_
  refine fs_topi (fun x4 hx4 => ?_)
  replace H := H x4 hx4
  refine fs_istore (i := 4) dd_X12_codesTell_32 (by decide) ?_
  refine fs_weak (ls2 := [.ref 196, .int v1, .int v2, fz_J, .int x4, fz_J]) (fz_le_e (fz_le_e (fz_le_e (fz_le_j (fz_le_e (fz_le_j fz_le_n)))))) ?_
  exact V_lp_X12_codesTell_34 hD    2048 H
set_option maxRecDepth 100000 in
set_option maxHeartbeats 4000000 in
theorem V_X12_codesTell {g : fz_G} {l : Launch} {d : Nat} (hD : 4 ≤ d) {p0 : Int32} {p1 : Int32} {p2 : Int32}  {s : fz_s} {Q : Int64 → fz_s → Prop} (H : wp_X12_codesTell p0 p1 p2 s Q) : fs_V g l m_X12_codesTell d false 0 (fz_en [.ref 196, .int p0, .int p1, .int p2] 6) [] s (rL Q) := by
  obtain ⟨d, rfl⟩ : ∃ e, d = e + 1 := ⟨d - 1, by omega⟩
  unfold wp_X12_codesTell at H
  refine fs_aload_n (k0 := 0) (i := 0) dd_X12_codesTell_0 rfl rfl ?_
  refine fs_iload_n (k0 := 1) (i := 1) dd_X12_codesTell_1 rfl rfl ?_
  refine fs_iconst (n := 3) (v := 3) dd_X12_codesTell_2 (by decide) ?_
  refine fs_icmp_ne (tgt := 10) dd_X12_codesTell_3 (by decide) (fun hc => ?_) (fun hc => ?_)
  · replace H := H.1 hc
    refine fs_iconst (n := 0) (v := 0) dd_X12_codesTell_10 (by decide) ?_
    refine fs_weak (ls2 := [.ref 196, .int p0, .int p1, .int p2, fz_J, fz_J]) (fz_le_e (fz_le_e (fz_le_e (fz_le_e (fz_le_j (fz_le_j fz_le_n)))))) ?_
    exact V_nd_X12_codesTell_11 hD    H
  · replace H := H.2 hc
    refine fs_iconst (n := 1) (v := 1) dd_X12_codesTell_6 (by decide) ?_
    refine fs_goto (tgt := 11) dd_X12_codesTell_7 (by decide) ?_
    refine fs_weak (ls2 := [.ref 196, .int p0, .int p1, .int p2, fz_J, fz_J]) (fz_le_e (fz_le_e (fz_le_e (fz_le_e (fz_le_j (fz_le_j fz_le_n)))))) ?_
    exact V_nd_X12_codesTell_11 hD    H
theorem dd_X12_isTold_0 : decode m_X12_isTold.2.1 0 = .ok (.aload_n 0, 1) := by decide +kernel
theorem dd_X12_isTold_1 : decode m_X12_isTold.2.1 1 = .ok (.getfield 112, 3) := by decide +kernel
theorem dd_X12_isTold_4 : decode m_X12_isTold.2.1 4 = .ok (.iconst 5, 1) := by decide +kernel
theorem dd_X12_isTold_5 : decode m_X12_isTold.2.1 5 = .ok (.iload_n 1, 1) := by decide +kernel
theorem dd_X12_isTold_6 : decode m_X12_isTold.2.1 6 = .ok (.iadd, 1) := by decide +kernel
theorem dd_X12_isTold_7 : decode m_X12_isTold.2.1 7 = .ok (.iaload, 1) := by decide +kernel
theorem dd_X12_isTold_8 : decode m_X12_isTold.2.1 8 = .ok (.iconst (-1), 1) := by decide +kernel
theorem dd_X12_isTold_9 : decode m_X12_isTold.2.1 9 = .ok (.if_icmp .eq 7, 3) := by decide +kernel
theorem dd_X12_isTold_12 : decode m_X12_isTold.2.1 12 = .ok (.iconst 1, 1) := by decide +kernel
theorem dd_X12_isTold_13 : decode m_X12_isTold.2.1 13 = .ok (.goto 4, 3) := by decide +kernel
theorem dd_X12_isTold_16 : decode m_X12_isTold.2.1 16 = .ok (.iconst 0, 1) := by decide +kernel
theorem dd_X12_isTold_17 : decode m_X12_isTold.2.1 17 = .ok (.ireturn, 1) := by decide +kernel
def wp_X12_isTold (p0 : Int32) (s : fz_s) (Q : Bool → fz_s → Prop) : Prop :=
  vp_in (5 + p0) 10 ∧ (((s.1 229 (5 + p0).toNatClampNeg) = (-1) → Q false s) ∧ (¬ (s.1 229 (5 + p0).toNatClampNeg) = (-1) → Q true s))
set_option maxRecDepth 100000 in
set_option maxHeartbeats 4000000 in
theorem V_X12_isTold {g : fz_G} {l : Launch} {d : Nat} (hD : 0 ≤ d) {p0 : Int32}  {s : fz_s} {Q : Bool → fz_s → Prop} (H : wp_X12_isTold p0 s Q) : fs_V g l m_X12_isTold d false 0 (fz_en [.ref 196, .int p0] 2) [] s (rZ Q) := by
  unfold wp_X12_isTold at H
  refine fs_aload_n (k0 := 0) (i := 0) dd_X12_isTold_0 rfl rfl ?_
  refine fs_getr (ci := 12) (j := 47) (q := 229) dd_X12_isTold_1 fl_X12_112 ca_196 rfl (Or.inr ⟨_, rfl⟩) rfl (by decide) ?_
  refine fs_iconst (n := 5) (v := 5) dd_X12_isTold_4 (by decide) ?_
  refine fs_iload_n (k0 := 1) (i := 1) dd_X12_isTold_5 rfl rfl ?_
  refine fs_iadd dd_X12_isTold_6 ?_
  have hb := H.1
  replace H := H.2
  refine fs_iald dd_X12_isTold_7 ca_229 hb ?_
  refine fs_iconst (n := -1) (v := -1) dd_X12_isTold_8 (by decide) ?_
  refine fs_icmp_eq (tgt := 16) dd_X12_isTold_9 (by decide) (fun hc => ?_) (fun hc => ?_)
  · replace H := H.1 hc
    refine fs_iconst (n := 0) (v := 0) dd_X12_isTold_16 (by decide) ?_
    exact fs_zret false dd_X12_isTold_17 rfl rfl H
  · replace H := H.2 hc
    refine fs_iconst (n := 1) (v := 1) dd_X12_isTold_12 (by decide) ?_
    refine fs_goto (tgt := 17) dd_X12_isTold_13 (by decide) ?_
    exact fs_zret true dd_X12_isTold_17 rfl rfl H
theorem dd_X12_sendsOf_0 : decode m_X12_sendsOf.2.1 0 = .ok (.aload_n 0, 1) := by decide +kernel
theorem dd_X12_sendsOf_1 : decode m_X12_sendsOf.2.1 1 = .ok (.iconst 0, 1) := by decide +kernel
theorem dd_X12_sendsOf_2 : decode m_X12_sendsOf.2.1 2 = .ok (.invokevirtual 435, 3) := by decide +kernel
theorem dd_X12_sendsOf_5 : decode m_X12_sendsOf.2.1 5 = .ok (.ifCond .eq 17, 3) := by decide +kernel
theorem dd_X12_sendsOf_8 : decode m_X12_sendsOf.2.1 8 = .ok (.aload_n 0, 1) := by decide +kernel
theorem dd_X12_sendsOf_9 : decode m_X12_sendsOf.2.1 9 = .ok (.iconst 0, 1) := by decide +kernel
theorem dd_X12_sendsOf_10 : decode m_X12_sendsOf.2.1 10 = .ok (.iload_n 1, 1) := by decide +kernel
theorem dd_X12_sendsOf_11 : decode m_X12_sendsOf.2.1 11 = .ok (.aload_n 0, 1) := by decide +kernel
theorem dd_X12_sendsOf_12 : decode m_X12_sendsOf.2.1 12 = .ok (.iload_n 1, 1) := by decide +kernel
theorem dd_X12_sendsOf_13 : decode m_X12_sendsOf.2.1 13 = .ok (.invokevirtual 412, 3) := by decide +kernel
theorem dd_X12_sendsOf_16 : decode m_X12_sendsOf.2.1 16 = .ok (.invokevirtual 438, 3) := by decide +kernel
theorem dd_X12_sendsOf_19 : decode m_X12_sendsOf.2.1 19 = .ok (.goto 12, 3) := by decide +kernel
theorem dd_X12_sendsOf_22 : decode m_X12_sendsOf.2.1 22 = .ok (.bipush 9, 2) := by decide +kernel
theorem dd_X12_sendsOf_24 : decode m_X12_sendsOf.2.1 24 = .ok (.aload_n 0, 1) := by decide +kernel
theorem dd_X12_sendsOf_25 : decode m_X12_sendsOf.2.1 25 = .ok (.iload_n 1, 1) := by decide +kernel
theorem dd_X12_sendsOf_26 : decode m_X12_sendsOf.2.1 26 = .ok (.invokevirtual 442, 3) := by decide +kernel
theorem dd_X12_sendsOf_29 : decode m_X12_sendsOf.2.1 29 = .ok (.isub, 1) := by decide +kernel
theorem dd_X12_sendsOf_30 : decode m_X12_sendsOf.2.1 30 = .ok (.i2l, 1) := by decide +kernel
theorem dd_X12_sendsOf_31 : decode m_X12_sendsOf.2.1 31 = .ok (.lreturn, 1) := by decide +kernel
def wp_X12_sendsOf (p0 : Int32) (s : fz_s) (Q : Int64 → fz_s → Prop) : Prop :=
  wp_X12_isTold 0 s (fun r1 s2 => ((r1 = false → wp_X12_witsOf p0 s2 (fun r3 s4 => Q ((9 - r3).toInt64) s4)) ∧ (r1 = true → wp_X12_livesIn p0 s2 (fun r5 s6 => wp_X12_codesTell 0 p0 r5 s6 (fun r7 s8 => Q r7 s8)))))
set_option maxRecDepth 100000 in
set_option maxHeartbeats 4000000 in
theorem V_X12_sendsOf {g : fz_G} {l : Launch} {d : Nat} (hD : 5 ≤ d) {p0 : Int32}  {s : fz_s} {Q : Int64 → fz_s → Prop} (H : wp_X12_sendsOf p0 s Q) : fs_V g l m_X12_sendsOf d false 0 (fz_en [.ref 196, .int p0] 2) [] s (rL Q) := by
  obtain ⟨d, rfl⟩ : ∃ e, d = e + 1 := ⟨d - 1, by omega⟩
  unfold wp_X12_sendsOf at H
  refine fs_aload_n (k0 := 0) (i := 0) dd_X12_sendsOf_0 rfl rfl ?_
  refine fs_iconst (n := 0) (v := 0) dd_X12_sendsOf_1 (by decide) ?_
  refine fs_callV (y := m_X12_isTold) (as := [.int 0]) dd_X12_sendsOf_2 me_X12_isTold lk_X12_435 in_X12_isTold se_X12_isTold ca_196 rfl rfl rfl (Nat.le_of_ble_eq_true rfl) (Nat.le_of_ble_eq_true rfl) rfl (V_X12_isTold (by omega)  H) (k2_Z fun r1 s2 H => ?_)
  refine fs_if_eq (tgt := 22) dd_X12_sendsOf_5 (by decide) (fun hc => ?_) (fun hc => ?_)
  · replace H := H.1 (bi_0 hc)
    refine fs_bipush (n := 9) (v := 9) dd_X12_sendsOf_22 (by decide) ?_
    refine fs_aload_n (k0 := 0) (i := 0) dd_X12_sendsOf_24 rfl rfl ?_
    refine fs_iload_n (k0 := 1) (i := 1) dd_X12_sendsOf_25 rfl rfl ?_
    refine fs_callV (y := m_X12_witsOf) (as := [.int p0]) dd_X12_sendsOf_26 me_X12_witsOf lk_X12_442 in_X12_witsOf se_X12_witsOf ca_196 rfl rfl rfl (Nat.le_of_ble_eq_true rfl) (Nat.le_of_ble_eq_true rfl) rfl (V_X12_witsOf (by omega)  H) (k2_I fun r3 s4 H => ?_)
    refine fs_isub dd_X12_sendsOf_29 ?_
    refine fs_i2l dd_X12_sendsOf_30 ?_
    exact fs_lret dd_X12_sendsOf_31 rfl H
  · replace H := H.2 (bi_1 hc)
    refine fs_aload_n (k0 := 0) (i := 0) dd_X12_sendsOf_8 rfl rfl ?_
    refine fs_iconst (n := 0) (v := 0) dd_X12_sendsOf_9 (by decide) ?_
    refine fs_iload_n (k0 := 1) (i := 1) dd_X12_sendsOf_10 rfl rfl ?_
    refine fs_aload_n (k0 := 0) (i := 0) dd_X12_sendsOf_11 rfl rfl ?_
    refine fs_iload_n (k0 := 1) (i := 1) dd_X12_sendsOf_12 rfl rfl ?_
    refine fs_callV (y := m_X12_livesIn) (as := [.int p0]) dd_X12_sendsOf_13 me_X12_livesIn lk_X12_412 in_X12_livesIn se_X12_livesIn ca_196 rfl rfl rfl (Nat.le_of_ble_eq_true rfl) (Nat.le_of_ble_eq_true rfl) rfl (V_X12_livesIn (by omega)  H) (k2_I fun r5 s6 H => ?_)
    refine fs_callV (y := m_X12_codesTell) (as := [.int 0, .int p0, .int r5]) dd_X12_sendsOf_16 me_X12_codesTell lk_X12_438 in_X12_codesTell se_X12_codesTell ca_196 rfl rfl rfl (Nat.le_of_ble_eq_true rfl) (Nat.le_of_ble_eq_true rfl) rfl (V_X12_codesTell (by omega)  H) (k2_L fun r7 s8 H => ?_)
    refine fs_goto (tgt := 31) dd_X12_sendsOf_19 (by decide) ?_
    exact fs_lret dd_X12_sendsOf_31 rfl H
theorem dd_X12_doesPass_0 : decode m_X12_doesPass.2.1 0 = .ok (.aload_n 0, 1) := by decide +kernel
theorem dd_X12_doesPass_1 : decode m_X12_doesPass.2.1 1 = .ok (.iconst 1, 1) := by decide +kernel
theorem dd_X12_doesPass_2 : decode m_X12_doesPass.2.1 2 = .ok (.invokevirtual 435, 3) := by decide +kernel
theorem dd_X12_doesPass_5 : decode m_X12_doesPass.2.1 5 = .ok (.ifCond .eq 27, 3) := by decide +kernel
theorem dd_X12_doesPass_8 : decode m_X12_doesPass.2.1 8 = .ok (.aload_n 0, 1) := by decide +kernel
theorem dd_X12_doesPass_9 : decode m_X12_doesPass.2.1 9 = .ok (.iconst 1, 1) := by decide +kernel
theorem dd_X12_doesPass_10 : decode m_X12_doesPass.2.1 10 = .ok (.iload_n 1, 1) := by decide +kernel
theorem dd_X12_doesPass_11 : decode m_X12_doesPass.2.1 11 = .ok (.aload_n 0, 1) := by decide +kernel
theorem dd_X12_doesPass_12 : decode m_X12_doesPass.2.1 12 = .ok (.iload_n 1, 1) := by decide +kernel
theorem dd_X12_doesPass_13 : decode m_X12_doesPass.2.1 13 = .ok (.invokevirtual 412, 3) := by decide +kernel
theorem dd_X12_doesPass_16 : decode m_X12_doesPass.2.1 16 = .ok (.invokevirtual 438, 3) := by decide +kernel
theorem dd_X12_doesPass_19 : decode m_X12_doesPass.2.1 19 = .ok (.lconst 1, 1) := by decide +kernel
theorem dd_X12_doesPass_20 : decode m_X12_doesPass.2.1 20 = .ok (.lcmp, 1) := by decide +kernel
theorem dd_X12_doesPass_21 : decode m_X12_doesPass.2.1 21 = .ok (.ifCond .ne 7, 3) := by decide +kernel
theorem dd_X12_doesPass_24 : decode m_X12_doesPass.2.1 24 = .ok (.iconst 1, 1) := by decide +kernel
theorem dd_X12_doesPass_25 : decode m_X12_doesPass.2.1 25 = .ok (.goto 21, 3) := by decide +kernel
theorem dd_X12_doesPass_28 : decode m_X12_doesPass.2.1 28 = .ok (.iconst 0, 1) := by decide +kernel
theorem dd_X12_doesPass_29 : decode m_X12_doesPass.2.1 29 = .ok (.goto 17, 3) := by decide +kernel
theorem dd_X12_doesPass_32 : decode m_X12_doesPass.2.1 32 = .ok (.aload_n 0, 1) := by decide +kernel
theorem dd_X12_doesPass_33 : decode m_X12_doesPass.2.1 33 = .ok (.iload_n 1, 1) := by decide +kernel
theorem dd_X12_doesPass_34 : decode m_X12_doesPass.2.1 34 = .ok (.invokevirtual 442, 3) := by decide +kernel
theorem dd_X12_doesPass_37 : decode m_X12_doesPass.2.1 37 = .ok (.iconst 5, 1) := by decide +kernel
theorem dd_X12_doesPass_38 : decode m_X12_doesPass.2.1 38 = .ok (.if_icmp .ge 7, 3) := by decide +kernel
theorem dd_X12_doesPass_41 : decode m_X12_doesPass.2.1 41 = .ok (.iconst 1, 1) := by decide +kernel
theorem dd_X12_doesPass_42 : decode m_X12_doesPass.2.1 42 = .ok (.goto 4, 3) := by decide +kernel
theorem dd_X12_doesPass_45 : decode m_X12_doesPass.2.1 45 = .ok (.iconst 0, 1) := by decide +kernel
theorem dd_X12_doesPass_46 : decode m_X12_doesPass.2.1 46 = .ok (.ireturn, 1) := by decide +kernel
def wp_X12_doesPass (p0 : Int32) (s : fz_s) (Q : Bool → fz_s → Prop) : Prop :=
  wp_X12_isTold 1 s (fun r1 s2 => ((r1 = false → wp_X12_witsOf p0 s2 (fun r3 s4 => ((5 ≤ r3 → Q false s4) ∧ (¬ 5 ≤ r3 → Q true s4)))) ∧ (r1 = true → wp_X12_livesIn p0 s2 (fun r5 s6 => wp_X12_codesTell 1 p0 r5 s6 (fun r7 s8 => ((¬ (lg_cmp r7 1) = 0 → Q false s8) ∧ ((lg_cmp r7 1) = 0 → Q true s8)))))))
set_option maxRecDepth 100000 in
set_option maxHeartbeats 4000000 in
theorem V_X12_doesPass {g : fz_G} {l : Launch} {d : Nat} (hD : 5 ≤ d) {p0 : Int32}  {s : fz_s} {Q : Bool → fz_s → Prop} (H : wp_X12_doesPass p0 s Q) : fs_V g l m_X12_doesPass d false 0 (fz_en [.ref 196, .int p0] 2) [] s (rZ Q) := by
  obtain ⟨d, rfl⟩ : ∃ e, d = e + 1 := ⟨d - 1, by omega⟩
  unfold wp_X12_doesPass at H
  refine fs_aload_n (k0 := 0) (i := 0) dd_X12_doesPass_0 rfl rfl ?_
  refine fs_iconst (n := 1) (v := 1) dd_X12_doesPass_1 (by decide) ?_
  refine fs_callV (y := m_X12_isTold) (as := [.int 1]) dd_X12_doesPass_2 me_X12_isTold lk_X12_435 in_X12_isTold se_X12_isTold ca_196 rfl rfl rfl (Nat.le_of_ble_eq_true rfl) (Nat.le_of_ble_eq_true rfl) rfl (V_X12_isTold (by omega)  H) (k2_Z fun r1 s2 H => ?_)
  refine fs_if_eq (tgt := 32) dd_X12_doesPass_5 (by decide) (fun hc => ?_) (fun hc => ?_)
  · replace H := H.1 (bi_0 hc)
    refine fs_aload_n (k0 := 0) (i := 0) dd_X12_doesPass_32 rfl rfl ?_
    refine fs_iload_n (k0 := 1) (i := 1) dd_X12_doesPass_33 rfl rfl ?_
    refine fs_callV (y := m_X12_witsOf) (as := [.int p0]) dd_X12_doesPass_34 me_X12_witsOf lk_X12_442 in_X12_witsOf se_X12_witsOf ca_196 rfl rfl rfl (Nat.le_of_ble_eq_true rfl) (Nat.le_of_ble_eq_true rfl) rfl (V_X12_witsOf (by omega)  H) (k2_I fun r3 s4 H => ?_)
    refine fs_iconst (n := 5) (v := 5) dd_X12_doesPass_37 (by decide) ?_
    refine fs_icmp_ge (tgt := 45) dd_X12_doesPass_38 (by decide) (fun hc => ?_) (fun hc => ?_)
    · replace H := H.1 hc
      refine fs_iconst (n := 0) (v := 0) dd_X12_doesPass_45 (by decide) ?_
      exact fs_zret false dd_X12_doesPass_46 rfl rfl H
    · replace H := H.2 hc
      refine fs_iconst (n := 1) (v := 1) dd_X12_doesPass_41 (by decide) ?_
      refine fs_goto (tgt := 46) dd_X12_doesPass_42 (by decide) ?_
      exact fs_zret true dd_X12_doesPass_46 rfl rfl H
  · replace H := H.2 (bi_1 hc)
    refine fs_aload_n (k0 := 0) (i := 0) dd_X12_doesPass_8 rfl rfl ?_
    refine fs_iconst (n := 1) (v := 1) dd_X12_doesPass_9 (by decide) ?_
    refine fs_iload_n (k0 := 1) (i := 1) dd_X12_doesPass_10 rfl rfl ?_
    refine fs_aload_n (k0 := 0) (i := 0) dd_X12_doesPass_11 rfl rfl ?_
    refine fs_iload_n (k0 := 1) (i := 1) dd_X12_doesPass_12 rfl rfl ?_
    refine fs_callV (y := m_X12_livesIn) (as := [.int p0]) dd_X12_doesPass_13 me_X12_livesIn lk_X12_412 in_X12_livesIn se_X12_livesIn ca_196 rfl rfl rfl (Nat.le_of_ble_eq_true rfl) (Nat.le_of_ble_eq_true rfl) rfl (V_X12_livesIn (by omega)  H) (k2_I fun r5 s6 H => ?_)
    refine fs_callV (y := m_X12_codesTell) (as := [.int 1, .int p0, .int r5]) dd_X12_doesPass_16 me_X12_codesTell lk_X12_438 in_X12_codesTell se_X12_codesTell ca_196 rfl rfl rfl (Nat.le_of_ble_eq_true rfl) (Nat.le_of_ble_eq_true rfl) rfl (V_X12_codesTell (by omega)  H) (k2_L fun r7 s8 H => ?_)
    refine fs_lconst (n := 1) (v := 1) dd_X12_doesPass_19 (by decide) ?_
    refine fs_lcmp dd_X12_doesPass_20 ?_
    refine fs_if_ne (tgt := 28) dd_X12_doesPass_21 (by decide) (fun hc => ?_) (fun hc => ?_)
    · replace H := H.1 hc
      refine fs_iconst (n := 0) (v := 0) dd_X12_doesPass_28 (by decide) ?_
      refine fs_goto (tgt := 46) dd_X12_doesPass_29 (by decide) ?_
      exact fs_zret false dd_X12_doesPass_46 rfl rfl H
    · replace H := H.2 hc
      refine fs_iconst (n := 1) (v := 1) dd_X12_doesPass_24 (by decide) ?_
      refine fs_goto (tgt := 46) dd_X12_doesPass_25 (by decide) ?_
      exact fs_zret true dd_X12_doesPass_46 rfl rfl H
theorem dd_X12_doesIn_0 : decode m_X12_doesIn.2.1 0 = .ok (.aload_n 0, 1) := by decide +kernel
theorem dd_X12_doesIn_1 : decode m_X12_doesIn.2.1 1 = .ok (.iconst 2, 1) := by decide +kernel
theorem dd_X12_doesIn_2 : decode m_X12_doesIn.2.1 2 = .ok (.invokevirtual 435, 3) := by decide +kernel
theorem dd_X12_doesIn_5 : decode m_X12_doesIn.2.1 5 = .ok (.ifCond .eq 13, 3) := by decide +kernel
theorem dd_X12_doesIn_8 : decode m_X12_doesIn.2.1 8 = .ok (.aload_n 0, 1) := by decide +kernel
theorem dd_X12_doesIn_9 : decode m_X12_doesIn.2.1 9 = .ok (.iconst 2, 1) := by decide +kernel
theorem dd_X12_doesIn_10 : decode m_X12_doesIn.2.1 10 = .ok (.iload_n 1, 1) := by decide +kernel
theorem dd_X12_doesIn_11 : decode m_X12_doesIn.2.1 11 = .ok (.iload_n 2, 1) := by decide +kernel
theorem dd_X12_doesIn_12 : decode m_X12_doesIn.2.1 12 = .ok (.invokevirtual 438, 3) := by decide +kernel
theorem dd_X12_doesIn_15 : decode m_X12_doesIn.2.1 15 = .ok (.goto 11, 3) := by decide +kernel
theorem dd_X12_doesIn_18 : decode m_X12_doesIn.2.1 18 = .ok (.aload_n 0, 1) := by decide +kernel
theorem dd_X12_doesIn_19 : decode m_X12_doesIn.2.1 19 = .ok (.iload_n 1, 1) := by decide +kernel
theorem dd_X12_doesIn_20 : decode m_X12_doesIn.2.1 20 = .ok (.invokevirtual 442, 3) := by decide +kernel
theorem dd_X12_doesIn_23 : decode m_X12_doesIn.2.1 23 = .ok (.iconst 4, 1) := by decide +kernel
theorem dd_X12_doesIn_24 : decode m_X12_doesIn.2.1 24 = .ok (.isub, 1) := by decide +kernel
theorem dd_X12_doesIn_25 : decode m_X12_doesIn.2.1 25 = .ok (.i2l, 1) := by decide +kernel
theorem dd_X12_doesIn_26 : decode m_X12_doesIn.2.1 26 = .ok (.lreturn, 1) := by decide +kernel
def wp_X12_doesIn (p0 : Int32) (p1 : Int32) (s : fz_s) (Q : Int64 → fz_s → Prop) : Prop :=
  wp_X12_isTold 2 s (fun r1 s2 => ((r1 = false → wp_X12_witsOf p0 s2 (fun r3 s4 => Q ((r3 - 4).toInt64) s4)) ∧ (r1 = true → wp_X12_codesTell 2 p0 p1 s2 (fun r5 s6 => Q r5 s6))))
set_option maxRecDepth 100000 in
set_option maxHeartbeats 4000000 in
theorem V_X12_doesIn {g : fz_G} {l : Launch} {d : Nat} (hD : 5 ≤ d) {p0 : Int32} {p1 : Int32}  {s : fz_s} {Q : Int64 → fz_s → Prop} (H : wp_X12_doesIn p0 p1 s Q) : fs_V g l m_X12_doesIn d false 0 (fz_en [.ref 196, .int p0, .int p1] 3) [] s (rL Q) := by
  obtain ⟨d, rfl⟩ : ∃ e, d = e + 1 := ⟨d - 1, by omega⟩
  unfold wp_X12_doesIn at H
  refine fs_aload_n (k0 := 0) (i := 0) dd_X12_doesIn_0 rfl rfl ?_
  refine fs_iconst (n := 2) (v := 2) dd_X12_doesIn_1 (by decide) ?_
  refine fs_callV (y := m_X12_isTold) (as := [.int 2]) dd_X12_doesIn_2 me_X12_isTold lk_X12_435 in_X12_isTold se_X12_isTold ca_196 rfl rfl rfl (Nat.le_of_ble_eq_true rfl) (Nat.le_of_ble_eq_true rfl) rfl (V_X12_isTold (by omega)  H) (k2_Z fun r1 s2 H => ?_)
  refine fs_if_eq (tgt := 18) dd_X12_doesIn_5 (by decide) (fun hc => ?_) (fun hc => ?_)
  · replace H := H.1 (bi_0 hc)
    refine fs_aload_n (k0 := 0) (i := 0) dd_X12_doesIn_18 rfl rfl ?_
    refine fs_iload_n (k0 := 1) (i := 1) dd_X12_doesIn_19 rfl rfl ?_
    refine fs_callV (y := m_X12_witsOf) (as := [.int p0]) dd_X12_doesIn_20 me_X12_witsOf lk_X12_442 in_X12_witsOf se_X12_witsOf ca_196 rfl rfl rfl (Nat.le_of_ble_eq_true rfl) (Nat.le_of_ble_eq_true rfl) rfl (V_X12_witsOf (by omega)  H) (k2_I fun r3 s4 H => ?_)
    refine fs_iconst (n := 4) (v := 4) dd_X12_doesIn_23 (by decide) ?_
    refine fs_isub dd_X12_doesIn_24 ?_
    refine fs_i2l dd_X12_doesIn_25 ?_
    exact fs_lret dd_X12_doesIn_26 rfl H
  · replace H := H.2 (bi_1 hc)
    refine fs_aload_n (k0 := 0) (i := 0) dd_X12_doesIn_8 rfl rfl ?_
    refine fs_iconst (n := 2) (v := 2) dd_X12_doesIn_9 (by decide) ?_
    refine fs_iload_n (k0 := 1) (i := 1) dd_X12_doesIn_10 rfl rfl ?_
    refine fs_iload_n (k0 := 2) (i := 2) dd_X12_doesIn_11 rfl rfl ?_
    refine fs_callV (y := m_X12_codesTell) (as := [.int 2, .int p0, .int p1]) dd_X12_doesIn_12 me_X12_codesTell lk_X12_438 in_X12_codesTell se_X12_codesTell ca_196 rfl rfl rfl (Nat.le_of_ble_eq_true rfl) (Nat.le_of_ble_eq_true rfl) rfl (V_X12_codesTell (by omega)  H) (k2_L fun r5 s6 H => ?_)
    refine fs_goto (tgt := 26) dd_X12_doesIn_15 (by decide) ?_
    exact fs_lret dd_X12_doesIn_26 rfl H
theorem dd_X12_doesStay_0 : decode m_X12_doesStay.2.1 0 = .ok (.aload_n 0, 1) := by decide +kernel
theorem dd_X12_doesStay_1 : decode m_X12_doesStay.2.1 1 = .ok (.iconst 4, 1) := by decide +kernel
theorem dd_X12_doesStay_2 : decode m_X12_doesStay.2.1 2 = .ok (.invokevirtual 435, 3) := by decide +kernel
theorem dd_X12_doesStay_5 : decode m_X12_doesStay.2.1 5 = .ok (.ifCond .eq 23, 3) := by decide +kernel
theorem dd_X12_doesStay_8 : decode m_X12_doesStay.2.1 8 = .ok (.aload_n 0, 1) := by decide +kernel
theorem dd_X12_doesStay_9 : decode m_X12_doesStay.2.1 9 = .ok (.iconst 4, 1) := by decide +kernel
theorem dd_X12_doesStay_10 : decode m_X12_doesStay.2.1 10 = .ok (.iload_n 1, 1) := by decide +kernel
theorem dd_X12_doesStay_11 : decode m_X12_doesStay.2.1 11 = .ok (.aload_n 0, 1) := by decide +kernel
theorem dd_X12_doesStay_12 : decode m_X12_doesStay.2.1 12 = .ok (.iload_n 1, 1) := by decide +kernel
theorem dd_X12_doesStay_13 : decode m_X12_doesStay.2.1 13 = .ok (.invokevirtual 412, 3) := by decide +kernel
theorem dd_X12_doesStay_16 : decode m_X12_doesStay.2.1 16 = .ok (.invokevirtual 438, 3) := by decide +kernel
theorem dd_X12_doesStay_19 : decode m_X12_doesStay.2.1 19 = .ok (.lconst 1, 1) := by decide +kernel
theorem dd_X12_doesStay_20 : decode m_X12_doesStay.2.1 20 = .ok (.lcmp, 1) := by decide +kernel
theorem dd_X12_doesStay_21 : decode m_X12_doesStay.2.1 21 = .ok (.ifCond .ne 7, 3) := by decide +kernel
theorem dd_X12_doesStay_24 : decode m_X12_doesStay.2.1 24 = .ok (.iconst 1, 1) := by decide +kernel
theorem dd_X12_doesStay_25 : decode m_X12_doesStay.2.1 25 = .ok (.goto 4, 3) := by decide +kernel
theorem dd_X12_doesStay_28 : decode m_X12_doesStay.2.1 28 = .ok (.iconst 0, 1) := by decide +kernel
theorem dd_X12_doesStay_29 : decode m_X12_doesStay.2.1 29 = .ok (.ireturn, 1) := by decide +kernel
def wp_X12_doesStay (p0 : Int32) (s : fz_s) (Q : Bool → fz_s → Prop) : Prop :=
  wp_X12_isTold 4 s (fun r1 s2 => ((r1 = false → Q false s2) ∧ (r1 = true → wp_X12_livesIn p0 s2 (fun r3 s4 => wp_X12_codesTell 4 p0 r3 s4 (fun r5 s6 => ((¬ (lg_cmp r5 1) = 0 → Q false s6) ∧ ((lg_cmp r5 1) = 0 → Q true s6)))))))
set_option maxRecDepth 100000 in
set_option maxHeartbeats 4000000 in
theorem V_X12_doesStay {g : fz_G} {l : Launch} {d : Nat} (hD : 5 ≤ d) {p0 : Int32}  {s : fz_s} {Q : Bool → fz_s → Prop} (H : wp_X12_doesStay p0 s Q) : fs_V g l m_X12_doesStay d false 0 (fz_en [.ref 196, .int p0] 2) [] s (rZ Q) := by
  obtain ⟨d, rfl⟩ : ∃ e, d = e + 1 := ⟨d - 1, by omega⟩
  unfold wp_X12_doesStay at H
  refine fs_aload_n (k0 := 0) (i := 0) dd_X12_doesStay_0 rfl rfl ?_
  refine fs_iconst (n := 4) (v := 4) dd_X12_doesStay_1 (by decide) ?_
  refine fs_callV (y := m_X12_isTold) (as := [.int 4]) dd_X12_doesStay_2 me_X12_isTold lk_X12_435 in_X12_isTold se_X12_isTold ca_196 rfl rfl rfl (Nat.le_of_ble_eq_true rfl) (Nat.le_of_ble_eq_true rfl) rfl (V_X12_isTold (by omega)  H) (k2_Z fun r1 s2 H => ?_)
  refine fs_if_eq (tgt := 28) dd_X12_doesStay_5 (by decide) (fun hc => ?_) (fun hc => ?_)
  · replace H := H.1 (bi_0 hc)
    refine fs_iconst (n := 0) (v := 0) dd_X12_doesStay_28 (by decide) ?_
    exact fs_zret false dd_X12_doesStay_29 rfl rfl H
  · replace H := H.2 (bi_1 hc)
    refine fs_aload_n (k0 := 0) (i := 0) dd_X12_doesStay_8 rfl rfl ?_
    refine fs_iconst (n := 4) (v := 4) dd_X12_doesStay_9 (by decide) ?_
    refine fs_iload_n (k0 := 1) (i := 1) dd_X12_doesStay_10 rfl rfl ?_
    refine fs_aload_n (k0 := 0) (i := 0) dd_X12_doesStay_11 rfl rfl ?_
    refine fs_iload_n (k0 := 1) (i := 1) dd_X12_doesStay_12 rfl rfl ?_
    refine fs_callV (y := m_X12_livesIn) (as := [.int p0]) dd_X12_doesStay_13 me_X12_livesIn lk_X12_412 in_X12_livesIn se_X12_livesIn ca_196 rfl rfl rfl (Nat.le_of_ble_eq_true rfl) (Nat.le_of_ble_eq_true rfl) rfl (V_X12_livesIn (by omega)  H) (k2_I fun r3 s4 H => ?_)
    refine fs_callV (y := m_X12_codesTell) (as := [.int 4, .int p0, .int r3]) dd_X12_doesStay_16 me_X12_codesTell lk_X12_438 in_X12_codesTell se_X12_codesTell ca_196 rfl rfl rfl (Nat.le_of_ble_eq_true rfl) (Nat.le_of_ble_eq_true rfl) rfl (V_X12_codesTell (by omega)  H) (k2_L fun r5 s6 H => ?_)
    refine fs_lconst (n := 1) (v := 1) dd_X12_doesStay_19 (by decide) ?_
    refine fs_lcmp dd_X12_doesStay_20 ?_
    refine fs_if_ne (tgt := 28) dd_X12_doesStay_21 (by decide) (fun hc => ?_) (fun hc => ?_)
    · replace H := H.1 hc
      refine fs_iconst (n := 0) (v := 0) dd_X12_doesStay_28 (by decide) ?_
      exact fs_zret false dd_X12_doesStay_29 rfl rfl H
    · replace H := H.2 hc
      refine fs_iconst (n := 1) (v := 1) dd_X12_doesStay_24 (by decide) ?_
      refine fs_goto (tgt := 29) dd_X12_doesStay_25 (by decide) ?_
      exact fs_zret true dd_X12_doesStay_29 rfl rfl H
theorem dd_X12_sentOf_0 : decode m_X12_sentOf.2.1 0 = .ok (.iconst (-1), 1) := by decide +kernel
theorem dd_X12_sentOf_1 : decode m_X12_sentOf.2.1 1 = .ok (.istore_n 2, 1) := by decide +kernel
theorem dd_X12_sentOf_2 : decode m_X12_sentOf.2.1 2 = .ok (.lconst 0, 1) := by decide +kernel
theorem dd_X12_sentOf_3 : decode m_X12_sentOf.2.1 3 = .ok (.lstore_n 3, 1) := by decide +kernel
theorem dd_X12_sentOf_4 : decode m_X12_sentOf.2.1 4 = .ok (.iconst 0, 1) := by decide +kernel
theorem dd_X12_sentOf_5 : decode m_X12_sentOf.2.1 5 = .ok (.istore 5, 2) := by decide +kernel
theorem dd_X12_sentOf_7 : decode m_X12_sentOf.2.1 7 = .ok (.iload 5, 2) := by decide +kernel
theorem dd_X12_sentOf_9 : decode m_X12_sentOf.2.1 9 = .ok (.aload_n 0, 1) := by decide +kernel
theorem dd_X12_sentOf_10 : decode m_X12_sentOf.2.1 10 = .ok (.invokevirtual 402, 3) := by decide +kernel
theorem dd_X12_sentOf_13 : decode m_X12_sentOf.2.1 13 = .ok (.if_icmp .ge 51, 3) := by decide +kernel
theorem dd_X12_sentOf_16 : decode m_X12_sentOf.2.1 16 = .ok (.aload_n 0, 1) := by decide +kernel
theorem dd_X12_sentOf_17 : decode m_X12_sentOf.2.1 17 = .ok (.iload 5, 2) := by decide +kernel
theorem dd_X12_sentOf_19 : decode m_X12_sentOf.2.1 19 = .ok (.iload_n 1, 1) := by decide +kernel
theorem dd_X12_sentOf_20 : decode m_X12_sentOf.2.1 20 = .ok (.invokevirtual 445, 3) := by decide +kernel
theorem dd_X12_sentOf_23 : decode m_X12_sentOf.2.1 23 = .ok (.ifCond .ne 6, 3) := by decide +kernel
theorem dd_X12_sentOf_26 : decode m_X12_sentOf.2.1 26 = .ok (.goto 32, 3) := by decide +kernel
theorem dd_X12_sentOf_29 : decode m_X12_sentOf.2.1 29 = .ok (.aload_n 0, 1) := by decide +kernel
theorem dd_X12_sentOf_30 : decode m_X12_sentOf.2.1 30 = .ok (.iload 5, 2) := by decide +kernel
theorem dd_X12_sentOf_32 : decode m_X12_sentOf.2.1 32 = .ok (.invokevirtual 449, 3) := by decide +kernel
theorem dd_X12_sentOf_35 : decode m_X12_sentOf.2.1 35 = .ok (.lstore 6, 2) := by decide +kernel
theorem dd_X12_sentOf_37 : decode m_X12_sentOf.2.1 37 = .ok (.iload_n 2, 1) := by decide +kernel
theorem dd_X12_sentOf_38 : decode m_X12_sentOf.2.1 38 = .ok (.iconst (-1), 1) := by decide +kernel
theorem dd_X12_sentOf_39 : decode m_X12_sentOf.2.1 39 = .ok (.if_icmp .eq 13, 3) := by decide +kernel
theorem dd_X12_sentOf_42 : decode m_X12_sentOf.2.1 42 = .ok (.lload 6, 2) := by decide +kernel
theorem dd_X12_sentOf_44 : decode m_X12_sentOf.2.1 44 = .ok (.lload_n 3, 1) := by decide +kernel
theorem dd_X12_sentOf_45 : decode m_X12_sentOf.2.1 45 = .ok (.lcmp, 1) := by decide +kernel
theorem dd_X12_sentOf_46 : decode m_X12_sentOf.2.1 46 = .ok (.ifCond .gt 6, 3) := by decide +kernel
theorem dd_X12_sentOf_49 : decode m_X12_sentOf.2.1 49 = .ok (.goto 9, 3) := by decide +kernel
theorem dd_X12_sentOf_52 : decode m_X12_sentOf.2.1 52 = .ok (.iload 5, 2) := by decide +kernel
theorem dd_X12_sentOf_54 : decode m_X12_sentOf.2.1 54 = .ok (.istore_n 2, 1) := by decide +kernel
theorem dd_X12_sentOf_55 : decode m_X12_sentOf.2.1 55 = .ok (.lload 6, 2) := by decide +kernel
theorem dd_X12_sentOf_57 : decode m_X12_sentOf.2.1 57 = .ok (.lstore_n 3, 1) := by decide +kernel
theorem dd_X12_sentOf_58 : decode m_X12_sentOf.2.1 58 = .ok (.iinc 5 1, 3) := by decide +kernel
theorem dd_X12_sentOf_61 : decode m_X12_sentOf.2.1 61 = .ok (.goto (-54), 3) := by decide +kernel
theorem dd_X12_sentOf_64 : decode m_X12_sentOf.2.1 64 = .ok (.iload_n 2, 1) := by decide +kernel
theorem dd_X12_sentOf_65 : decode m_X12_sentOf.2.1 65 = .ok (.ireturn, 1) := by decide +kernel
def nd_X12_sentOf_7  (K7 : Int32 → Int32 → Int64 → Int32 → fz_s → Prop) (Q : Int32 → fz_s → Prop) (v1 : Int32) (v2 : Int32) (v3 : Int64) (v5 : Int32) (s : fz_s) : Prop :=
  wp_X12_personMany  s (fun r1 s2 => ((r1 ≤ v5 → Q v2 s2) ∧ (¬ r1 ≤ v5 → wp_X12_isOwnIn v5 v1 s2 (fun r3 s4 => ((r3 = true → wp_X12_sendsOf v5 s4 (fun r5 s6 => ((v2 = (-1) → ∀ x7 : Int32, x7 = v5 + 1 → K7 v1 v5 r5 x7 s6) ∧ (¬ v2 = (-1) → ((0 < (lg_cmp r5 v3) → ∀ x8 : Int32, x8 = v5 + 1 → K7 v1 v5 r5 x8 s6) ∧ (¬ 0 < (lg_cmp r5 v3) → ∀ x9 : Int32, x9 = v5 + 1 → K7 v1 v2 v3 x9 s6)))))) ∧ (r3 = false → ∀ x10 : Int32, x10 = v5 + 1 → K7 v1 v2 v3 x10 s4))))))
def lp_X12_sentOf_7   (Q : Int32 → fz_s → Prop) : Nat → Int32 → Int32 → Int64 → Int32 → fz_s → Prop
  | 0 => fun _ _ _ _ _ => False
  | n + 1 => nd_X12_sentOf_7  (lp_X12_sentOf_7   Q n) Q
def wp_X12_sentOf (p0 : Int32) (s : fz_s) (Q : Int32 → fz_s → Prop) : Prop :=
  lp_X12_sentOf_7   Q 2048 p0 (-1) 0 0 s
set_option maxRecDepth 100000 in
set_option maxHeartbeats 4000000 in
theorem V_nd_X12_sentOf_7 {g : fz_G} {l : Launch} {d : Nat} (hD : 6 ≤ d)   {K7 : Int32 → Int32 → Int64 → Int32 → fz_s → Prop} {Q : Int32 → fz_s → Prop} {v1 : Int32} {v2 : Int32} {v3 : Int64} {v5 : Int32} {s : fz_s} (hK7 : ∀ {v1 : Int32} {v2 : Int32} {v3 : Int64} {v5 : Int32} {s : fz_s}, K7 v1 v2 v3 v5 s → fs_V g l m_X12_sentOf d false 7 [.ref 196, .int v1, .int v2, .long v3, fz_J, .int v5, fz_J, fz_J] [] s (rI Q)) (H : nd_X12_sentOf_7  K7 Q v1 v2 v3 v5 s) : fs_V g l m_X12_sentOf d false 7 [.ref 196, .int v1, .int v2, .long v3, fz_J, .int v5, fz_J, fz_J] [] s (rI Q) := by
  obtain ⟨d, rfl⟩ : ∃ e, d = e + 1 := ⟨d - 1, by omega⟩
  unfold nd_X12_sentOf_7 at H
  refine fs_iload (i := 5) dd_X12_sentOf_7 rfl ?_
  refine fs_aload_n (k0 := 0) (i := 0) dd_X12_sentOf_9 rfl rfl ?_
  refine fs_callV (y := m_X12_personMany) (as := []) dd_X12_sentOf_10 me_X12_personMany lk_X12_402 in_X12_personMany se_X12_personMany ca_196 rfl rfl rfl (Nat.le_of_ble_eq_true rfl) (Nat.le_of_ble_eq_true rfl) rfl (V_X12_personMany (by omega)  H) (k2_I fun r1 s2 H => ?_)
  refine fs_icmp_ge (tgt := 64) dd_X12_sentOf_13 (by decide) (fun hc => ?_) (fun hc => ?_)
  · replace H := H.1 hc
    refine fs_iload_n (k0 := 2) (i := 2) dd_X12_sentOf_64 rfl rfl ?_
    exact fs_iret dd_X12_sentOf_65 rfl H
  · replace H := H.2 hc
    refine fs_aload_n (k0 := 0) (i := 0) dd_X12_sentOf_16 rfl rfl ?_
    refine fs_iload (i := 5) dd_X12_sentOf_17 rfl ?_
    refine fs_iload_n (k0 := 1) (i := 1) dd_X12_sentOf_19 rfl rfl ?_
    refine fs_callV (y := m_X12_isOwnIn) (as := [.int v5, .int v1]) dd_X12_sentOf_20 me_X12_isOwnIn lk_X12_445 in_X12_isOwnIn se_X12_isOwnIn ca_196 rfl rfl rfl (Nat.le_of_ble_eq_true rfl) (Nat.le_of_ble_eq_true rfl) rfl (V_X12_isOwnIn (by omega)  H) (k2_Z fun r3 s4 H => ?_)
    refine fs_if_ne (tgt := 29) dd_X12_sentOf_23 (by decide) (fun hc => ?_) (fun hc => ?_)
    · replace H := H.1 (bi_1 hc)
      refine fs_aload_n (k0 := 0) (i := 0) dd_X12_sentOf_29 rfl rfl ?_
      refine fs_iload (i := 5) dd_X12_sentOf_30 rfl ?_
      refine fs_callV (y := m_X12_sendsOf) (as := [.int v5]) dd_X12_sentOf_32 me_X12_sendsOf lk_X12_449 in_X12_sendsOf se_X12_sendsOf ca_196 rfl rfl rfl (Nat.le_of_ble_eq_true rfl) (Nat.le_of_ble_eq_true rfl) rfl (V_X12_sendsOf (by omega)  H) (k2_L fun r5 s6 H => ?_)
      refine fs_lstore (i := 6) dd_X12_sentOf_35 (by decide) ?_
      refine fs_iload_n (k0 := 2) (i := 2) dd_X12_sentOf_37 rfl rfl ?_
      refine fs_iconst (n := -1) (v := -1) dd_X12_sentOf_38 (by decide) ?_
      refine fs_icmp_eq (tgt := 52) dd_X12_sentOf_39 (by decide) (fun hc => ?_) (fun hc => ?_)
      · replace H := H.1 hc
        refine fs_iload (i := 5) dd_X12_sentOf_52 rfl ?_
        refine fs_istore_n (k0 := 2) (i := 2) dd_X12_sentOf_54 rfl (by decide) ?_
        refine fs_lload (i := 6) dd_X12_sentOf_55 rfl ?_
        refine fs_lstore_n (k0 := 3) (i := 3) dd_X12_sentOf_57 rfl (by decide) ?_
        refine fs_iincN (i := 5) (m := 1) (c := 1) dd_X12_sentOf_58 rfl (by decide) (by decide) (fun x7 hx7 => ?_)
        replace H := H x7 hx7
        refine fs_goto (tgt := 7) dd_X12_sentOf_61 (by decide) ?_
        refine fs_weak (ls2 := [.ref 196, .int v1, .int v5, .long r5, fz_J, .int x7, fz_J, fz_J]) (fz_le_e (fz_le_e (fz_le_e (fz_le_e (fz_le_j (fz_le_e (fz_le_j (fz_le_j fz_le_n)))))))) ?_
        exact hK7 H
      · replace H := H.2 hc
        refine fs_lload (i := 6) dd_X12_sentOf_42 rfl ?_
        refine fs_lload_n (k0 := 3) (i := 3) dd_X12_sentOf_44 rfl rfl ?_
        refine fs_lcmp dd_X12_sentOf_45 ?_
        refine fs_if_gt (tgt := 52) dd_X12_sentOf_46 (by decide) (fun hc => ?_) (fun hc => ?_)
        · replace H := H.1 hc
          refine fs_iload (i := 5) dd_X12_sentOf_52 rfl ?_
          refine fs_istore_n (k0 := 2) (i := 2) dd_X12_sentOf_54 rfl (by decide) ?_
          refine fs_lload (i := 6) dd_X12_sentOf_55 rfl ?_
          refine fs_lstore_n (k0 := 3) (i := 3) dd_X12_sentOf_57 rfl (by decide) ?_
          refine fs_iincN (i := 5) (m := 1) (c := 1) dd_X12_sentOf_58 rfl (by decide) (by decide) (fun x8 hx8 => ?_)
          replace H := H x8 hx8
          refine fs_goto (tgt := 7) dd_X12_sentOf_61 (by decide) ?_
          refine fs_weak (ls2 := [.ref 196, .int v1, .int v5, .long r5, fz_J, .int x8, fz_J, fz_J]) (fz_le_e (fz_le_e (fz_le_e (fz_le_e (fz_le_j (fz_le_e (fz_le_j (fz_le_j fz_le_n)))))))) ?_
          exact hK7 H
        · replace H := H.2 hc
          refine fs_goto (tgt := 58) dd_X12_sentOf_49 (by decide) ?_
          refine fs_iincN (i := 5) (m := 1) (c := 1) dd_X12_sentOf_58 rfl (by decide) (by decide) (fun x9 hx9 => ?_)
          replace H := H x9 hx9
          refine fs_goto (tgt := 7) dd_X12_sentOf_61 (by decide) ?_
          refine fs_weak (ls2 := [.ref 196, .int v1, .int v2, .long v3, fz_J, .int x9, fz_J, fz_J]) (fz_le_e (fz_le_e (fz_le_e (fz_le_e (fz_le_j (fz_le_e (fz_le_j (fz_le_j fz_le_n)))))))) ?_
          exact hK7 H
    · replace H := H.2 (bi_0 hc)
      refine fs_goto (tgt := 58) dd_X12_sentOf_26 (by decide) ?_
      refine fs_iincN (i := 5) (m := 1) (c := 1) dd_X12_sentOf_58 rfl (by decide) (by decide) (fun x10 hx10 => ?_)
      replace H := H x10 hx10
      refine fs_goto (tgt := 7) dd_X12_sentOf_61 (by decide) ?_
      refine fs_weak (ls2 := [.ref 196, .int v1, .int v2, .long v3, fz_J, .int x10, fz_J, fz_J]) (fz_le_e (fz_le_e (fz_le_e (fz_le_e (fz_le_j (fz_le_e (fz_le_j (fz_le_j fz_le_n)))))))) ?_
      exact hK7 H
set_option maxRecDepth 100000 in
set_option maxHeartbeats 4000000 in
theorem V_lp_X12_sentOf_7 {g : fz_G} {l : Launch} {d : Nat} (hD : 6 ≤ d)    {Q : Int32 → fz_s → Prop}  (n : Nat) : ∀ {v1 : Int32} {v2 : Int32} {v3 : Int64} {v5 : Int32} {s : fz_s}, lp_X12_sentOf_7   Q n v1 v2 v3 v5 s → fs_V g l m_X12_sentOf d false 7 [.ref 196, .int v1, .int v2, .long v3, fz_J, .int v5, fz_J, fz_J] [] s (rI Q) := by
  induction n with
  | zero => intro v1 v2 v3 v5 s H; exact H.elim
  | succ n ih => intro v1 v2 v3 v5 s H; exact V_nd_X12_sentOf_7 hD  (fun H => ih H) H
set_option maxRecDepth 100000 in
set_option maxHeartbeats 4000000 in
theorem V_X12_sentOf {g : fz_G} {l : Launch} {d : Nat} (hD : 6 ≤ d) {p0 : Int32}  {s : fz_s} {Q : Int32 → fz_s → Prop} (H : wp_X12_sentOf p0 s Q) : fs_V g l m_X12_sentOf d false 0 (fz_en [.ref 196, .int p0] 8) [] s (rI Q) := by
  obtain ⟨d, rfl⟩ : ∃ e, d = e + 1 := ⟨d - 1, by omega⟩
  unfold wp_X12_sentOf at H
  refine fs_iconst (n := -1) (v := -1) dd_X12_sentOf_0 (by decide) ?_
  refine fs_istore_n (k0 := 2) (i := 2) dd_X12_sentOf_1 rfl (by decide) ?_
  refine fs_lconst (n := 0) (v := 0) dd_X12_sentOf_2 (by decide) ?_
  refine fs_lstore_n (k0 := 3) (i := 3) dd_X12_sentOf_3 rfl (by decide) ?_
  refine fs_iconst (n := 0) (v := 0) dd_X12_sentOf_4 (by decide) ?_
  refine fs_istore (i := 5) dd_X12_sentOf_5 (by decide) ?_
  refine fs_weak (ls2 := [.ref 196, .int p0, .int (-1), .long 0, fz_J, .int 0, fz_J, fz_J]) (fz_le_e (fz_le_e (fz_le_e (fz_le_e (fz_le_j (fz_le_e (fz_le_j (fz_le_j fz_le_n)))))))) ?_
  exact V_lp_X12_sentOf_7 hD    2048 H
theorem dd_X12_isKept_0 : decode m_X12_isKept.2.1 0 = .ok (.aload_n 0, 1) := by decide +kernel
theorem dd_X12_isKept_1 : decode m_X12_isKept.2.1 1 = .ok (.getfield 453, 3) := by decide +kernel
theorem dd_X12_isKept_4 : decode m_X12_isKept.2.1 4 = .ok (.ifCond .eq 4, 3) := by decide +kernel
theorem dd_X12_isKept_7 : decode m_X12_isKept.2.1 7 = .ok (.return_, 1) := by decide +kernel
theorem dd_X12_isKept_8 : decode m_X12_isKept.2.1 8 = .ok (.aload_n 0, 1) := by decide +kernel
theorem dd_X12_isKept_9 : decode m_X12_isKept.2.1 9 = .ok (.getfield 121, 3) := by decide +kernel
theorem dd_X12_isKept_12 : decode m_X12_isKept.2.1 12 = .ok (.bipush 29, 2) := by decide +kernel
theorem dd_X12_isKept_14 : decode m_X12_isKept.2.1 14 = .ok (.iaload, 1) := by decide +kernel
theorem dd_X12_isKept_15 : decode m_X12_isKept.2.1 15 = .ok (.bipush 40, 2) := by decide +kernel
theorem dd_X12_isKept_17 : decode m_X12_isKept.2.1 17 = .ok (.if_icmp .ne 36, 3) := by decide +kernel
theorem dd_X12_isKept_20 : decode m_X12_isKept.2.1 20 = .ok (.bipush 30, 2) := by decide +kernel
theorem dd_X12_isKept_22 : decode m_X12_isKept.2.1 22 = .ok (.istore_n 3, 1) := by decide +kernel
theorem dd_X12_isKept_23 : decode m_X12_isKept.2.1 23 = .ok (.iload_n 3, 1) := by decide +kernel
theorem dd_X12_isKept_24 : decode m_X12_isKept.2.1 24 = .ok (.sipush 147, 3) := by decide +kernel
theorem dd_X12_isKept_27 : decode m_X12_isKept.2.1 27 = .ok (.if_icmp .ge 23, 3) := by decide +kernel
theorem dd_X12_isKept_30 : decode m_X12_isKept.2.1 30 = .ok (.aload_n 0, 1) := by decide +kernel
theorem dd_X12_isKept_31 : decode m_X12_isKept.2.1 31 = .ok (.getfield 121, 3) := by decide +kernel
theorem dd_X12_isKept_34 : decode m_X12_isKept.2.1 34 = .ok (.iload_n 3, 1) := by decide +kernel
theorem dd_X12_isKept_35 : decode m_X12_isKept.2.1 35 = .ok (.aload_n 0, 1) := by decide +kernel
theorem dd_X12_isKept_36 : decode m_X12_isKept.2.1 36 = .ok (.getfield 121, 3) := by decide +kernel
theorem dd_X12_isKept_39 : decode m_X12_isKept.2.1 39 = .ok (.iload_n 3, 1) := by decide +kernel
theorem dd_X12_isKept_40 : decode m_X12_isKept.2.1 40 = .ok (.iconst 3, 1) := by decide +kernel
theorem dd_X12_isKept_41 : decode m_X12_isKept.2.1 41 = .ok (.iadd, 1) := by decide +kernel
theorem dd_X12_isKept_42 : decode m_X12_isKept.2.1 42 = .ok (.iaload, 1) := by decide +kernel
theorem dd_X12_isKept_43 : decode m_X12_isKept.2.1 43 = .ok (.iastore, 1) := by decide +kernel
theorem dd_X12_isKept_44 : decode m_X12_isKept.2.1 44 = .ok (.iinc 3 1, 3) := by decide +kernel
theorem dd_X12_isKept_47 : decode m_X12_isKept.2.1 47 = .ok (.goto (-24), 3) := by decide +kernel
theorem dd_X12_isKept_50 : decode m_X12_isKept.2.1 50 = .ok (.goto 14, 3) := by decide +kernel
theorem dd_X12_isKept_53 : decode m_X12_isKept.2.1 53 = .ok (.aload_n 0, 1) := by decide +kernel
theorem dd_X12_isKept_54 : decode m_X12_isKept.2.1 54 = .ok (.getfield 121, 3) := by decide +kernel
theorem dd_X12_isKept_57 : decode m_X12_isKept.2.1 57 = .ok (.bipush 29, 2) := by decide +kernel
theorem dd_X12_isKept_59 : decode m_X12_isKept.2.1 59 = .ok (.dup2, 1) := by decide +kernel
theorem dd_X12_isKept_60 : decode m_X12_isKept.2.1 60 = .ok (.iaload, 1) := by decide +kernel
theorem dd_X12_isKept_61 : decode m_X12_isKept.2.1 61 = .ok (.iconst 1, 1) := by decide +kernel
theorem dd_X12_isKept_62 : decode m_X12_isKept.2.1 62 = .ok (.iadd, 1) := by decide +kernel
theorem dd_X12_isKept_63 : decode m_X12_isKept.2.1 63 = .ok (.iastore, 1) := by decide +kernel
theorem dd_X12_isKept_64 : decode m_X12_isKept.2.1 64 = .ok (.bipush 30, 2) := by decide +kernel
theorem dd_X12_isKept_66 : decode m_X12_isKept.2.1 66 = .ok (.iconst 3, 1) := by decide +kernel
theorem dd_X12_isKept_67 : decode m_X12_isKept.2.1 67 = .ok (.aload_n 0, 1) := by decide +kernel
theorem dd_X12_isKept_68 : decode m_X12_isKept.2.1 68 = .ok (.getfield 121, 3) := by decide +kernel
theorem dd_X12_isKept_71 : decode m_X12_isKept.2.1 71 = .ok (.bipush 29, 2) := by decide +kernel
theorem dd_X12_isKept_73 : decode m_X12_isKept.2.1 73 = .ok (.iaload, 1) := by decide +kernel
theorem dd_X12_isKept_74 : decode m_X12_isKept.2.1 74 = .ok (.imul, 1) := by decide +kernel
theorem dd_X12_isKept_75 : decode m_X12_isKept.2.1 75 = .ok (.iadd, 1) := by decide +kernel
theorem dd_X12_isKept_76 : decode m_X12_isKept.2.1 76 = .ok (.iconst 3, 1) := by decide +kernel
theorem dd_X12_isKept_77 : decode m_X12_isKept.2.1 77 = .ok (.isub, 1) := by decide +kernel
theorem dd_X12_isKept_78 : decode m_X12_isKept.2.1 78 = .ok (.istore_n 3, 1) := by decide +kernel
theorem dd_X12_isKept_79 : decode m_X12_isKept.2.1 79 = .ok (.aload_n 0, 1) := by decide +kernel
theorem dd_X12_isKept_80 : decode m_X12_isKept.2.1 80 = .ok (.getfield 121, 3) := by decide +kernel
theorem dd_X12_isKept_83 : decode m_X12_isKept.2.1 83 = .ok (.iload_n 3, 1) := by decide +kernel
theorem dd_X12_isKept_84 : decode m_X12_isKept.2.1 84 = .ok (.aload_n 0, 1) := by decide +kernel
theorem dd_X12_isKept_85 : decode m_X12_isKept.2.1 85 = .ok (.getfield 121, 3) := by decide +kernel
theorem dd_X12_isKept_88 : decode m_X12_isKept.2.1 88 = .ok (.iconst 0, 1) := by decide +kernel
theorem dd_X12_isKept_89 : decode m_X12_isKept.2.1 89 = .ok (.iaload, 1) := by decide +kernel
theorem dd_X12_isKept_90 : decode m_X12_isKept.2.1 90 = .ok (.iastore, 1) := by decide +kernel
theorem dd_X12_isKept_91 : decode m_X12_isKept.2.1 91 = .ok (.aload_n 0, 1) := by decide +kernel
theorem dd_X12_isKept_92 : decode m_X12_isKept.2.1 92 = .ok (.getfield 121, 3) := by decide +kernel
theorem dd_X12_isKept_95 : decode m_X12_isKept.2.1 95 = .ok (.iload_n 3, 1) := by decide +kernel
theorem dd_X12_isKept_96 : decode m_X12_isKept.2.1 96 = .ok (.iconst 1, 1) := by decide +kernel
theorem dd_X12_isKept_97 : decode m_X12_isKept.2.1 97 = .ok (.iadd, 1) := by decide +kernel
theorem dd_X12_isKept_98 : decode m_X12_isKept.2.1 98 = .ok (.iload_n 1, 1) := by decide +kernel
theorem dd_X12_isKept_99 : decode m_X12_isKept.2.1 99 = .ok (.iastore, 1) := by decide +kernel
theorem dd_X12_isKept_100 : decode m_X12_isKept.2.1 100 = .ok (.aload_n 0, 1) := by decide +kernel
theorem dd_X12_isKept_101 : decode m_X12_isKept.2.1 101 = .ok (.getfield 121, 3) := by decide +kernel
theorem dd_X12_isKept_104 : decode m_X12_isKept.2.1 104 = .ok (.iload_n 3, 1) := by decide +kernel
theorem dd_X12_isKept_105 : decode m_X12_isKept.2.1 105 = .ok (.iconst 2, 1) := by decide +kernel
theorem dd_X12_isKept_106 : decode m_X12_isKept.2.1 106 = .ok (.iadd, 1) := by decide +kernel
theorem dd_X12_isKept_107 : decode m_X12_isKept.2.1 107 = .ok (.iload_n 2, 1) := by decide +kernel
theorem dd_X12_isKept_108 : decode m_X12_isKept.2.1 108 = .ok (.iastore, 1) := by decide +kernel
theorem dd_X12_isKept_109 : decode m_X12_isKept.2.1 109 = .ok (.return_, 1) := by decide +kernel
def nd_X12_isKept_64   (Q : fz_s → Prop) (v1 : Int32) (v2 : Int32) (s : fz_s) : Prop :=
  ∀ x1 : Int32, x1 = ((30 + (3 * (s.1 232 (29 : Int32).toNatClampNeg))) - 3) → vp_in x1 150 ∧ ∀ s2 : fz_s, s2 = si s 232 x1.toNatClampNeg (s.1 232 (0 : Int32).toNatClampNeg) → vp_in (x1 + 1) 150 ∧ ∀ s3 : fz_s, s3 = si s2 232 (x1 + 1).toNatClampNeg v1 → vp_in (x1 + 2) 150 ∧ ∀ s4 : fz_s, s4 = si s3 232 (x1 + 2).toNatClampNeg v2 → Q s4
def nd_X12_isKept_23  (K23 : Int32 → Int32 → Int32 → fz_s → Prop) (Q : fz_s → Prop) (v1 : Int32) (v2 : Int32) (v3 : Int32) (s : fz_s) : Prop :=
  ((147 ≤ v3 → nd_X12_isKept_64   Q v1 v2 s) ∧ (¬ 147 ≤ v3 → vp_in (v3 + 3) 150 ∧ vp_in v3 150 ∧ ∀ s1 : fz_s, s1 = si s 232 v3.toNatClampNeg (s.1 232 (v3 + 3).toNatClampNeg) → ∀ x2 : Int32, x2 = v3 + 1 → K23 v1 v2 x2 s1))
def lp_X12_isKept_23   (Q : fz_s → Prop) : Nat → Int32 → Int32 → Int32 → fz_s → Prop
  | 0 => fun _ _ _ _ => False
  | n + 1 => nd_X12_isKept_23  (lp_X12_isKept_23   Q n) Q
def wp_X12_isKept (p0 : Int32) (p1 : Int32) (s : fz_s) (Q : fz_s → Prop) : Prop :=
  (((s.1 196 58) = 0 → ((¬ (s.1 232 (29 : Int32).toNatClampNeg) = 40 → ∀ s1 : fz_s, s1 = si s 232 (29 : Int32).toNatClampNeg ((s.1 232 (29 : Int32).toNatClampNeg) + 1) → nd_X12_isKept_64   Q p0 p1 s1) ∧ ((s.1 232 (29 : Int32).toNatClampNeg) = 40 → lp_X12_isKept_23   Q 2048 p0 p1 30 s))) ∧ (¬ (s.1 196 58) = 0 → Q s))
set_option maxRecDepth 100000 in
set_option maxHeartbeats 4000000 in
theorem V_nd_X12_isKept_64 {g : fz_G} {l : Launch} {d : Nat} (hD : 0 ≤ d)    {Q : fz_s → Prop} {v1 : Int32} {v2 : Int32} {s : fz_s}  (H : nd_X12_isKept_64   Q v1 v2 s) : fs_V g l m_X12_isKept d false 64 [.ref 196, .int v1, .int v2, fz_J] [] s (rV Q) := by
  unfold nd_X12_isKept_64 at H
  refine fs_bipush (n := 30) (v := 30) dd_X12_isKept_64 (by decide) ?_
  refine fs_iconst (n := 3) (v := 3) dd_X12_isKept_66 (by decide) ?_
  refine fs_aload_n (k0 := 0) (i := 0) dd_X12_isKept_67 rfl rfl ?_
  refine fs_getr (ci := 12) (j := 54) (q := 232) dd_X12_isKept_68 fl_X12_121 ca_196 rfl (Or.inr ⟨_, rfl⟩) rfl (by decide) ?_
  refine fs_bipush (n := 29) (v := 29) dd_X12_isKept_71 (by decide) ?_
  refine fs_iald dd_X12_isKept_73 ca_232 (vp_in_nI (n := 29) (by decide) (by decide)) ?_
  refine fs_imul dd_X12_isKept_74 ?_
  refine fs_iadd dd_X12_isKept_75 ?_
  refine fs_iconst (n := 3) (v := 3) dd_X12_isKept_76 (by decide) ?_
  refine fs_isub dd_X12_isKept_77 ?_
  refine fs_topi (fun x1 hx1 => ?_)
  replace H := H x1 hx1
  refine fs_istore_n (k0 := 3) (i := 3) dd_X12_isKept_78 rfl (by decide) ?_
  refine fs_aload_n (k0 := 0) (i := 0) dd_X12_isKept_79 rfl rfl ?_
  refine fs_getr (ci := 12) (j := 54) (q := 232) dd_X12_isKept_80 fl_X12_121 ca_196 rfl (Or.inr ⟨_, rfl⟩) rfl (by decide) ?_
  refine fs_iload_n (k0 := 3) (i := 3) dd_X12_isKept_83 rfl rfl ?_
  refine fs_aload_n (k0 := 0) (i := 0) dd_X12_isKept_84 rfl rfl ?_
  refine fs_getr (ci := 12) (j := 54) (q := 232) dd_X12_isKept_85 fl_X12_121 ca_196 rfl (Or.inr ⟨_, rfl⟩) rfl (by decide) ?_
  refine fs_iconst (n := 0) (v := 0) dd_X12_isKept_88 (by decide) ?_
  refine fs_iald dd_X12_isKept_89 ca_232 (vp_in_nI (n := 0) (by decide) (by decide)) ?_
  have hb := H.1
  replace H := H.2
  refine fs_iast dd_X12_isKept_90 ca_232 hb ?_
  refine fs_tops (fun s2 hs2 => ?_)
  replace H := H s2 hs2
  refine fs_aload_n (k0 := 0) (i := 0) dd_X12_isKept_91 rfl rfl ?_
  refine fs_getr (ci := 12) (j := 54) (q := 232) dd_X12_isKept_92 fl_X12_121 ca_196 rfl (Or.inr ⟨_, rfl⟩) rfl (by decide) ?_
  refine fs_iload_n (k0 := 3) (i := 3) dd_X12_isKept_95 rfl rfl ?_
  refine fs_iconst (n := 1) (v := 1) dd_X12_isKept_96 (by decide) ?_
  refine fs_iadd dd_X12_isKept_97 ?_
  refine fs_iload_n (k0 := 1) (i := 1) dd_X12_isKept_98 rfl rfl ?_
  have hb := H.1
  replace H := H.2
  refine fs_iast dd_X12_isKept_99 ca_232 hb ?_
  refine fs_tops (fun s3 hs3 => ?_)
  replace H := H s3 hs3
  refine fs_aload_n (k0 := 0) (i := 0) dd_X12_isKept_100 rfl rfl ?_
  refine fs_getr (ci := 12) (j := 54) (q := 232) dd_X12_isKept_101 fl_X12_121 ca_196 rfl (Or.inr ⟨_, rfl⟩) rfl (by decide) ?_
  refine fs_iload_n (k0 := 3) (i := 3) dd_X12_isKept_104 rfl rfl ?_
  refine fs_iconst (n := 2) (v := 2) dd_X12_isKept_105 (by decide) ?_
  refine fs_iadd dd_X12_isKept_106 ?_
  refine fs_iload_n (k0 := 2) (i := 2) dd_X12_isKept_107 rfl rfl ?_
  have hb := H.1
  replace H := H.2
  refine fs_iast dd_X12_isKept_108 ca_232 hb ?_
  refine fs_tops (fun s4 hs4 => ?_)
  replace H := H s4 hs4
  exact fs_vret dd_X12_isKept_109 rfl H
set_option maxRecDepth 100000 in
set_option maxHeartbeats 4000000 in
theorem V_nd_X12_isKept_23 {g : fz_G} {l : Launch} {d : Nat} (hD : 0 ≤ d)   {K23 : Int32 → Int32 → Int32 → fz_s → Prop} {Q : fz_s → Prop} {v1 : Int32} {v2 : Int32} {v3 : Int32} {s : fz_s} (hK23 : ∀ {v1 : Int32} {v2 : Int32} {v3 : Int32} {s : fz_s}, K23 v1 v2 v3 s → fs_V g l m_X12_isKept d false 23 [.ref 196, .int v1, .int v2, .int v3] [] s (rV Q)) (H : nd_X12_isKept_23  K23 Q v1 v2 v3 s) : fs_V g l m_X12_isKept d false 23 [.ref 196, .int v1, .int v2, .int v3] [] s (rV Q) := by
  unfold nd_X12_isKept_23 at H
  refine fs_iload_n (k0 := 3) (i := 3) dd_X12_isKept_23 rfl rfl ?_
  refine fs_sipush (n := 147) (v := 147) dd_X12_isKept_24 (by decide) ?_
  refine fs_icmp_ge (tgt := 50) dd_X12_isKept_27 (by decide) (fun hc => ?_) (fun hc => ?_)
  · replace H := H.1 hc
    refine fs_goto (tgt := 64) dd_X12_isKept_50 (by decide) ?_
    refine fs_weak (ls2 := [.ref 196, .int v1, .int v2, fz_J]) (fz_le_e (fz_le_e (fz_le_e (fz_le_j fz_le_n)))) ?_
    exact V_nd_X12_isKept_64 hD    H
  · replace H := H.2 hc
    refine fs_aload_n (k0 := 0) (i := 0) dd_X12_isKept_30 rfl rfl ?_
    refine fs_getr (ci := 12) (j := 54) (q := 232) dd_X12_isKept_31 fl_X12_121 ca_196 rfl (Or.inr ⟨_, rfl⟩) rfl (by decide) ?_
    refine fs_iload_n (k0 := 3) (i := 3) dd_X12_isKept_34 rfl rfl ?_
    refine fs_aload_n (k0 := 0) (i := 0) dd_X12_isKept_35 rfl rfl ?_
    refine fs_getr (ci := 12) (j := 54) (q := 232) dd_X12_isKept_36 fl_X12_121 ca_196 rfl (Or.inr ⟨_, rfl⟩) rfl (by decide) ?_
    refine fs_iload_n (k0 := 3) (i := 3) dd_X12_isKept_39 rfl rfl ?_
    refine fs_iconst (n := 3) (v := 3) dd_X12_isKept_40 (by decide) ?_
    refine fs_iadd dd_X12_isKept_41 ?_
    have hb := H.1
    replace H := H.2
    refine fs_iald dd_X12_isKept_42 ca_232 hb ?_
    have hb := H.1
    replace H := H.2
    refine fs_iast dd_X12_isKept_43 ca_232 hb ?_
    refine fs_tops (fun s1 hs1 => ?_)
    replace H := H s1 hs1
    refine fs_iincN (i := 3) (m := 1) (c := 1) dd_X12_isKept_44 rfl (by decide) (by decide) (fun x2 hx2 => ?_)
    replace H := H x2 hx2
    refine fs_goto (tgt := 23) dd_X12_isKept_47 (by decide) ?_
    refine fs_weak (ls2 := [.ref 196, .int v1, .int v2, .int x2]) (fz_le_e (fz_le_e (fz_le_e (fz_le_e fz_le_n)))) ?_
    exact hK23 H
set_option maxRecDepth 100000 in
set_option maxHeartbeats 4000000 in
theorem V_lp_X12_isKept_23 {g : fz_G} {l : Launch} {d : Nat} (hD : 0 ≤ d)    {Q : fz_s → Prop}  (n : Nat) : ∀ {v1 : Int32} {v2 : Int32} {v3 : Int32} {s : fz_s}, lp_X12_isKept_23   Q n v1 v2 v3 s → fs_V g l m_X12_isKept d false 23 [.ref 196, .int v1, .int v2, .int v3] [] s (rV Q) := by
  induction n with
  | zero => intro v1 v2 v3 s H; exact H.elim
  | succ n ih => intro v1 v2 v3 s H; exact V_nd_X12_isKept_23 hD  (fun H => ih H) H
set_option maxRecDepth 100000 in
set_option maxHeartbeats 4000000 in
theorem V_X12_isKept {g : fz_G} {l : Launch} {d : Nat} (hD : 0 ≤ d) {p0 : Int32} {p1 : Int32}  {s : fz_s} {Q : fz_s → Prop} (H : wp_X12_isKept p0 p1 s Q) : fs_V g l m_X12_isKept d false 0 (fz_en [.ref 196, .int p0, .int p1] 4) [] s (rV Q) := by
  unfold wp_X12_isKept at H
  refine fs_aload_n (k0 := 0) (i := 0) dd_X12_isKept_0 rfl rfl ?_
  refine fs_geti (ci := 12) (j := 58) dd_X12_isKept_1 fl_X12_453 ca_196 rfl (Or.inr rfl) ?_
  refine fs_if_eq (tgt := 8) dd_X12_isKept_4 (by decide) (fun hc => ?_) (fun hc => ?_)
  · replace H := H.1 hc
    refine fs_aload_n (k0 := 0) (i := 0) dd_X12_isKept_8 rfl rfl ?_
    refine fs_getr (ci := 12) (j := 54) (q := 232) dd_X12_isKept_9 fl_X12_121 ca_196 rfl (Or.inr ⟨_, rfl⟩) rfl (by decide) ?_
    refine fs_bipush (n := 29) (v := 29) dd_X12_isKept_12 (by decide) ?_
    refine fs_iald dd_X12_isKept_14 ca_232 (vp_in_nI (n := 29) (by decide) (by decide)) ?_
    refine fs_bipush (n := 40) (v := 40) dd_X12_isKept_15 (by decide) ?_
    refine fs_icmp_ne (tgt := 53) dd_X12_isKept_17 (by decide) (fun hc => ?_) (fun hc => ?_)
    · replace H := H.1 hc
      refine fs_aload_n (k0 := 0) (i := 0) dd_X12_isKept_53 rfl rfl ?_
      refine fs_getr (ci := 12) (j := 54) (q := 232) dd_X12_isKept_54 fl_X12_121 ca_196 rfl (Or.inr ⟨_, rfl⟩) rfl (by decide) ?_
      refine fs_bipush (n := 29) (v := 29) dd_X12_isKept_57 (by decide) ?_
      refine fs_dup2 dd_X12_isKept_59 rfl rfl ?_
      refine fs_iald dd_X12_isKept_60 ca_232 (vp_in_nI (n := 29) (by decide) (by decide)) ?_
      refine fs_iconst (n := 1) (v := 1) dd_X12_isKept_61 (by decide) ?_
      refine fs_iadd dd_X12_isKept_62 ?_
      refine fs_iast dd_X12_isKept_63 ca_232 (vp_in_nI (n := 29) (by decide) (by decide)) ?_
      refine fs_tops (fun s1 hs1 => ?_)
      replace H := H s1 hs1
      refine fs_weak (ls2 := [.ref 196, .int p0, .int p1, fz_J]) (fz_le_e (fz_le_e (fz_le_e (fz_le_j fz_le_n)))) ?_
      exact V_nd_X12_isKept_64 hD    H
    · replace H := H.2 hc
      refine fs_bipush (n := 30) (v := 30) dd_X12_isKept_20 (by decide) ?_
      refine fs_istore_n (k0 := 3) (i := 3) dd_X12_isKept_22 rfl (by decide) ?_
      refine fs_weak (ls2 := [.ref 196, .int p0, .int p1, .int 30]) (fz_le_e (fz_le_e (fz_le_e (fz_le_e fz_le_n)))) ?_
      exact V_lp_X12_isKept_23 hD    2048 H
  · replace H := H.2 hc
    exact fs_vret dd_X12_isKept_7 rfl H

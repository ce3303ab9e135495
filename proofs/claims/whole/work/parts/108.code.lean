theorem dd_X11_octet_0 : decode m_X11_octet.2.1 0 = .ok (.iload_n 1, 1) := by decide +kernel
theorem dd_X11_octet_1 : decode m_X11_octet.2.1 1 = .ok (.ifCond .lt 11, 3) := by decide +kernel
theorem dd_X11_octet_4 : decode m_X11_octet.2.1 4 = .ok (.iload_n 1, 1) := by decide +kernel
theorem dd_X11_octet_5 : decode m_X11_octet.2.1 5 = .ok (.aload_n 0, 1) := by decide +kernel
theorem dd_X11_octet_6 : decode m_X11_octet.2.1 6 = .ok (.getfield 358, 3) := by decide +kernel
theorem dd_X11_octet_9 : decode m_X11_octet.2.1 9 = .ok (.if_icmp .lt 7, 3) := by decide +kernel
theorem dd_X11_octet_12 : decode m_X11_octet.2.1 12 = .ok (.iconst (-1), 1) := by decide +kernel
theorem dd_X11_octet_13 : decode m_X11_octet.2.1 13 = .ok (.goto 9, 3) := by decide +kernel
theorem dd_X11_octet_16 : decode m_X11_octet.2.1 16 = .ok (.aload_n 0, 1) := by decide +kernel
theorem dd_X11_octet_17 : decode m_X11_octet.2.1 17 = .ok (.getfield 102, 3) := by decide +kernel
theorem dd_X11_octet_20 : decode m_X11_octet.2.1 20 = .ok (.iload_n 1, 1) := by decide +kernel
theorem dd_X11_octet_21 : decode m_X11_octet.2.1 21 = .ok (.iaload, 1) := by decide +kernel
theorem dd_X11_octet_22 : decode m_X11_octet.2.1 22 = .ok (.ireturn, 1) := by decide +kernel
def wp_X11_octet (p0 : Int32) (s : fz_s) (Q : Int32 → fz_s → Prop) : Prop :=
  ((p0 < 0 → Q (-1) s) ∧ (¬ p0 < 0 → ((p0 < (s.1 2 15) → vp_in p0 33 ∧ Q (s.1 194 p0.toNatClampNeg) s) ∧ (¬ p0 < (s.1 2 15) → Q (-1) s))))
set_option maxRecDepth 100000 in
set_option maxHeartbeats 4000000 in
theorem V_X11_octet {g : fz_G} {l : Launch} {d : Nat} (hD : 0 ≤ d) {p0 : Int32}  {s : fz_s} {Q : Int32 → fz_s → Prop} (H : wp_X11_octet p0 s Q) : fs_V g l m_X11_octet d true 0 (fz_en [.ref 2, .int p0] 2) [] s (rI Q) := by
  unfold wp_X11_octet at H
  refine fs_iload_n (k0 := 1) (i := 1) dd_X11_octet_0 rfl rfl ?_
  refine fs_if_lt (tgt := 12) dd_X11_octet_1 (by decide) (fun hc => ?_) (fun hc => ?_)
  · replace H := H.1 hc
    refine fs_iconst (n := -1) (v := -1) dd_X11_octet_12 (by decide) ?_
    refine fs_goto (tgt := 22) dd_X11_octet_13 (by decide) ?_
    exact fs_iret dd_X11_octet_22 rfl H
  · replace H := H.2 hc
    refine fs_iload_n (k0 := 1) (i := 1) dd_X11_octet_4 rfl rfl ?_
    refine fs_aload_n (k0 := 0) (i := 0) dd_X11_octet_5 rfl rfl ?_
    refine fs_geti (ci := 11) (j := 15) dd_X11_octet_6 fl_X11_358 ca_2 rfl (Or.inl rfl) ?_
    refine fs_icmp_lt (tgt := 16) dd_X11_octet_9 (by decide) (fun hc => ?_) (fun hc => ?_)
    · replace H := H.1 hc
      refine fs_aload_n (k0 := 0) (i := 0) dd_X11_octet_16 rfl rfl ?_
      refine fs_getr (ci := 11) (j := 14) (q := 194) dd_X11_octet_17 fl_X11_102 ca_2 rfl (Or.inr ⟨_, rfl⟩) rfl (by decide) ?_
      refine fs_iload_n (k0 := 1) (i := 1) dd_X11_octet_20 rfl rfl ?_
      have hb := H.1
      replace H := H.2
      refine fs_iald dd_X11_octet_21 ca_194 hb ?_
      exact fs_iret dd_X11_octet_22 rfl H
    · replace H := H.2 hc
      refine fs_iconst (n := -1) (v := -1) dd_X11_octet_12 (by decide) ?_
      refine fs_goto (tgt := 22) dd_X11_octet_13 (by decide) ?_
      exact fs_iret dd_X11_octet_22 rfl H
theorem dd_X11_isImage_0 : decode m_X11_isImage.2.1 0 = .ok (.iconst 3, 1) := by decide +kernel
theorem dd_X11_isImage_1 : decode m_X11_isImage.2.1 1 = .ok (.iconst 3, 1) := by decide +kernel
theorem dd_X11_isImage_2 : decode m_X11_isImage.2.1 2 = .ok (.aload_n 0, 1) := by decide +kernel
theorem dd_X11_isImage_3 : decode m_X11_isImage.2.1 3 = .ok (.getfield 34, 3) := by decide +kernel
theorem dd_X11_isImage_6 : decode m_X11_isImage.2.1 6 = .ok (.getfield 159, 3) := by decide +kernel
theorem dd_X11_isImage_9 : decode m_X11_isImage.2.1 9 = .ok (.imul, 1) := by decide +kernel
theorem dd_X11_isImage_10 : decode m_X11_isImage.2.1 10 = .ok (.iadd, 1) := by decide +kernel
theorem dd_X11_isImage_11 : decode m_X11_isImage.2.1 11 = .ok (.iconst 3, 1) := by decide +kernel
theorem dd_X11_isImage_12 : decode m_X11_isImage.2.1 12 = .ok (.aload_n 0, 1) := by decide +kernel
theorem dd_X11_isImage_13 : decode m_X11_isImage.2.1 13 = .ok (.getfield 34, 3) := by decide +kernel
theorem dd_X11_isImage_16 : decode m_X11_isImage.2.1 16 = .ok (.getfield 162, 3) := by decide +kernel
theorem dd_X11_isImage_19 : decode m_X11_isImage.2.1 19 = .ok (.imul, 1) := by decide +kernel
theorem dd_X11_isImage_20 : decode m_X11_isImage.2.1 20 = .ok (.iadd, 1) := by decide +kernel
theorem dd_X11_isImage_21 : decode m_X11_isImage.2.1 21 = .ok (.istore_n 2, 1) := by decide +kernel
theorem dd_X11_isImage_22 : decode m_X11_isImage.2.1 22 = .ok (.iload_n 1, 1) := by decide +kernel
theorem dd_X11_isImage_23 : decode m_X11_isImage.2.1 23 = .ok (.iload_n 2, 1) := by decide +kernel
theorem dd_X11_isImage_24 : decode m_X11_isImage.2.1 24 = .ok (.if_icmp .ne 38, 3) := by decide +kernel
theorem dd_X11_isImage_27 : decode m_X11_isImage.2.1 27 = .ok (.aload_n 0, 1) := by decide +kernel
theorem dd_X11_isImage_28 : decode m_X11_isImage.2.1 28 = .ok (.getfield 9, 3) := by decide +kernel
theorem dd_X11_isImage_31 : decode m_X11_isImage.2.1 31 = .ok (.iload_n 2, 1) := by decide +kernel
theorem dd_X11_isImage_32 : decode m_X11_isImage.2.1 32 = .ok (.iconst 1, 1) := by decide +kernel
theorem dd_X11_isImage_33 : decode m_X11_isImage.2.1 33 = .ok (.isub, 1) := by decide +kernel
theorem dd_X11_isImage_34 : decode m_X11_isImage.2.1 34 = .ok (.invokestatic 367, 3) := by decide +kernel
theorem dd_X11_isImage_37 : decode m_X11_isImage.2.1 37 = .ok (.aload_n 0, 1) := by decide +kernel
theorem dd_X11_isImage_38 : decode m_X11_isImage.2.1 38 = .ok (.getfield 9, 3) := by decide +kernel
theorem dd_X11_isImage_41 : decode m_X11_isImage.2.1 41 = .ok (.iload_n 2, 1) := by decide +kernel
theorem dd_X11_isImage_42 : decode m_X11_isImage.2.1 42 = .ok (.iconst 1, 1) := by decide +kernel
theorem dd_X11_isImage_43 : decode m_X11_isImage.2.1 43 = .ok (.isub, 1) := by decide +kernel
theorem dd_X11_isImage_44 : decode m_X11_isImage.2.1 44 = .ok (.iaload, 1) := by decide +kernel
theorem dd_X11_isImage_45 : decode m_X11_isImage.2.1 45 = .ok (.if_icmp .ne 17, 3) := by decide +kernel
theorem dd_X11_isImage_48 : decode m_X11_isImage.2.1 48 = .ok (.aload_n 0, 1) := by decide +kernel
theorem dd_X11_isImage_49 : decode m_X11_isImage.2.1 49 = .ok (.getfield 9, 3) := by decide +kernel
theorem dd_X11_isImage_52 : decode m_X11_isImage.2.1 52 = .ok (.iconst 0, 1) := by decide +kernel
theorem dd_X11_isImage_53 : decode m_X11_isImage.2.1 53 = .ok (.invokestatic 378, 3) := by decide +kernel
theorem dd_X11_isImage_56 : decode m_X11_isImage.2.1 56 = .ok (.sipush 999, 3) := by decide +kernel
theorem dd_X11_isImage_59 : decode m_X11_isImage.2.1 59 = .ok (.if_icmp .le 5, 3) := by decide +kernel
theorem dd_X11_isImage_62 : decode m_X11_isImage.2.1 62 = .ok (.iconst 0, 1) := by decide +kernel
theorem dd_X11_isImage_63 : decode m_X11_isImage.2.1 63 = .ok (.ireturn, 1) := by decide +kernel
theorem dd_X11_isImage_64 : decode m_X11_isImage.2.1 64 = .ok (.iconst 0, 1) := by decide +kernel
theorem dd_X11_isImage_65 : decode m_X11_isImage.2.1 65 = .ok (.istore_n 3, 1) := by decide +kernel
theorem dd_X11_isImage_66 : decode m_X11_isImage.2.1 66 = .ok (.iload_n 3, 1) := by decide +kernel
theorem dd_X11_isImage_67 : decode m_X11_isImage.2.1 67 = .ok (.aload_n 0, 1) := by decide +kernel
theorem dd_X11_isImage_68 : decode m_X11_isImage.2.1 68 = .ok (.getfield 34, 3) := by decide +kernel
theorem dd_X11_isImage_71 : decode m_X11_isImage.2.1 71 = .ok (.getfield 159, 3) := by decide +kernel
theorem dd_X11_isImage_74 : decode m_X11_isImage.2.1 74 = .ok (.if_icmp .ge 44, 3) := by decide +kernel
theorem dd_X11_isImage_77 : decode m_X11_isImage.2.1 77 = .ok (.aload_n 0, 1) := by decide +kernel
theorem dd_X11_isImage_78 : decode m_X11_isImage.2.1 78 = .ok (.getfield 9, 3) := by decide +kernel
theorem dd_X11_isImage_81 : decode m_X11_isImage.2.1 81 = .ok (.iconst 2, 1) := by decide +kernel
theorem dd_X11_isImage_82 : decode m_X11_isImage.2.1 82 = .ok (.iconst 3, 1) := by decide +kernel
theorem dd_X11_isImage_83 : decode m_X11_isImage.2.1 83 = .ok (.iload_n 3, 1) := by decide +kernel
theorem dd_X11_isImage_84 : decode m_X11_isImage.2.1 84 = .ok (.imul, 1) := by decide +kernel
theorem dd_X11_isImage_85 : decode m_X11_isImage.2.1 85 = .ok (.iadd, 1) := by decide +kernel
theorem dd_X11_isImage_86 : decode m_X11_isImage.2.1 86 = .ok (.invokestatic 378, 3) := by decide +kernel
theorem dd_X11_isImage_89 : decode m_X11_isImage.2.1 89 = .ok (.sipush 999, 3) := by decide +kernel
theorem dd_X11_isImage_92 : decode m_X11_isImage.2.1 92 = .ok (.if_icmp .gt 18, 3) := by decide +kernel
theorem dd_X11_isImage_95 : decode m_X11_isImage.2.1 95 = .ok (.aload_n 0, 1) := by decide +kernel
theorem dd_X11_isImage_96 : decode m_X11_isImage.2.1 96 = .ok (.getfield 9, 3) := by decide +kernel
theorem dd_X11_isImage_99 : decode m_X11_isImage.2.1 99 = .ok (.iconst 4, 1) := by decide +kernel
theorem dd_X11_isImage_100 : decode m_X11_isImage.2.1 100 = .ok (.iconst 3, 1) := by decide +kernel
theorem dd_X11_isImage_101 : decode m_X11_isImage.2.1 101 = .ok (.iload_n 3, 1) := by decide +kernel
theorem dd_X11_isImage_102 : decode m_X11_isImage.2.1 102 = .ok (.imul, 1) := by decide +kernel
theorem dd_X11_isImage_103 : decode m_X11_isImage.2.1 103 = .ok (.iadd, 1) := by decide +kernel
theorem dd_X11_isImage_104 : decode m_X11_isImage.2.1 104 = .ok (.iaload, 1) := by decide +kernel
theorem dd_X11_isImage_105 : decode m_X11_isImage.2.1 105 = .ok (.bipush 99, 2) := by decide +kernel
theorem dd_X11_isImage_107 : decode m_X11_isImage.2.1 107 = .ok (.if_icmp .le 5, 3) := by decide +kernel
theorem dd_X11_isImage_110 : decode m_X11_isImage.2.1 110 = .ok (.iconst 0, 1) := by decide +kernel
theorem dd_X11_isImage_111 : decode m_X11_isImage.2.1 111 = .ok (.ireturn, 1) := by decide +kernel
theorem dd_X11_isImage_112 : decode m_X11_isImage.2.1 112 = .ok (.iinc 3 1, 3) := by decide +kernel
theorem dd_X11_isImage_115 : decode m_X11_isImage.2.1 115 = .ok (.goto (-49), 3) := by decide +kernel
theorem dd_X11_isImage_118 : decode m_X11_isImage.2.1 118 = .ok (.iconst 0, 1) := by decide +kernel
theorem dd_X11_isImage_119 : decode m_X11_isImage.2.1 119 = .ok (.istore_n 3, 1) := by decide +kernel
theorem dd_X11_isImage_120 : decode m_X11_isImage.2.1 120 = .ok (.iload_n 3, 1) := by decide +kernel
theorem dd_X11_isImage_121 : decode m_X11_isImage.2.1 121 = .ok (.aload_n 0, 1) := by decide +kernel
theorem dd_X11_isImage_122 : decode m_X11_isImage.2.1 122 = .ok (.getfield 34, 3) := by decide +kernel
theorem dd_X11_isImage_125 : decode m_X11_isImage.2.1 125 = .ok (.getfield 162, 3) := by decide +kernel
theorem dd_X11_isImage_128 : decode m_X11_isImage.2.1 128 = .ok (.if_icmp .ge 87, 3) := by decide +kernel
theorem dd_X11_isImage_131 : decode m_X11_isImage.2.1 131 = .ok (.iconst 2, 1) := by decide +kernel
theorem dd_X11_isImage_132 : decode m_X11_isImage.2.1 132 = .ok (.iconst 3, 1) := by decide +kernel
theorem dd_X11_isImage_133 : decode m_X11_isImage.2.1 133 = .ok (.aload_n 0, 1) := by decide +kernel
theorem dd_X11_isImage_134 : decode m_X11_isImage.2.1 134 = .ok (.getfield 34, 3) := by decide +kernel
theorem dd_X11_isImage_137 : decode m_X11_isImage.2.1 137 = .ok (.getfield 159, 3) := by decide +kernel
theorem dd_X11_isImage_140 : decode m_X11_isImage.2.1 140 = .ok (.imul, 1) := by decide +kernel
theorem dd_X11_isImage_141 : decode m_X11_isImage.2.1 141 = .ok (.iadd, 1) := by decide +kernel
theorem dd_X11_isImage_142 : decode m_X11_isImage.2.1 142 = .ok (.iconst 3, 1) := by decide +kernel
theorem dd_X11_isImage_143 : decode m_X11_isImage.2.1 143 = .ok (.iload_n 3, 1) := by decide +kernel
theorem dd_X11_isImage_144 : decode m_X11_isImage.2.1 144 = .ok (.imul, 1) := by decide +kernel
theorem dd_X11_isImage_145 : decode m_X11_isImage.2.1 145 = .ok (.iadd, 1) := by decide +kernel
theorem dd_X11_isImage_146 : decode m_X11_isImage.2.1 146 = .ok (.istore 4, 2) := by decide +kernel
theorem dd_X11_isImage_148 : decode m_X11_isImage.2.1 148 = .ok (.aload_n 0, 1) := by decide +kernel
theorem dd_X11_isImage_149 : decode m_X11_isImage.2.1 149 = .ok (.getfield 9, 3) := by decide +kernel
theorem dd_X11_isImage_152 : decode m_X11_isImage.2.1 152 = .ok (.iload 4, 2) := by decide +kernel
theorem dd_X11_isImage_154 : decode m_X11_isImage.2.1 154 = .ok (.iconst 1, 1) := by decide +kernel
theorem dd_X11_isImage_155 : decode m_X11_isImage.2.1 155 = .ok (.iadd, 1) := by decide +kernel
theorem dd_X11_isImage_156 : decode m_X11_isImage.2.1 156 = .ok (.iaload, 1) := by decide +kernel
theorem dd_X11_isImage_157 : decode m_X11_isImage.2.1 157 = .ok (.ifCond .ne 7, 3) := by decide +kernel
theorem dd_X11_isImage_160 : decode m_X11_isImage.2.1 160 = .ok (.iconst 0, 1) := by decide +kernel
theorem dd_X11_isImage_161 : decode m_X11_isImage.2.1 161 = .ok (.goto 5, 3) := by decide +kernel
theorem dd_X11_isImage_164 : decode m_X11_isImage.2.1 164 = .ok (.bipush 99, 2) := by decide +kernel
theorem dd_X11_isImage_166 : decode m_X11_isImage.2.1 166 = .ok (.istore 5, 2) := by decide +kernel
theorem dd_X11_isImage_168 : decode m_X11_isImage.2.1 168 = .ok (.aload_n 0, 1) := by decide +kernel
theorem dd_X11_isImage_169 : decode m_X11_isImage.2.1 169 = .ok (.getfield 9, 3) := by decide +kernel
theorem dd_X11_isImage_172 : decode m_X11_isImage.2.1 172 = .ok (.iload 4, 2) := by decide +kernel
theorem dd_X11_isImage_174 : decode m_X11_isImage.2.1 174 = .ok (.iaload, 1) := by decide +kernel
theorem dd_X11_isImage_175 : decode m_X11_isImage.2.1 175 = .ok (.bipush 9, 2) := by decide +kernel
theorem dd_X11_isImage_177 : decode m_X11_isImage.2.1 177 = .ok (.if_icmp .gt 30, 3) := by decide +kernel
theorem dd_X11_isImage_180 : decode m_X11_isImage.2.1 180 = .ok (.aload_n 0, 1) := by decide +kernel
theorem dd_X11_isImage_181 : decode m_X11_isImage.2.1 181 = .ok (.getfield 9, 3) := by decide +kernel
theorem dd_X11_isImage_184 : decode m_X11_isImage.2.1 184 = .ok (.iload 4, 2) := by decide +kernel
theorem dd_X11_isImage_186 : decode m_X11_isImage.2.1 186 = .ok (.iconst 1, 1) := by decide +kernel
theorem dd_X11_isImage_187 : decode m_X11_isImage.2.1 187 = .ok (.iadd, 1) := by decide +kernel
theorem dd_X11_isImage_188 : decode m_X11_isImage.2.1 188 = .ok (.iaload, 1) := by decide +kernel
theorem dd_X11_isImage_189 : decode m_X11_isImage.2.1 189 = .ok (.iconst 1, 1) := by decide +kernel
theorem dd_X11_isImage_190 : decode m_X11_isImage.2.1 190 = .ok (.if_icmp .gt 17, 3) := by decide +kernel
theorem dd_X11_isImage_193 : decode m_X11_isImage.2.1 193 = .ok (.aload_n 0, 1) := by decide +kernel
theorem dd_X11_isImage_194 : decode m_X11_isImage.2.1 194 = .ok (.getfield 9, 3) := by decide +kernel
theorem dd_X11_isImage_197 : decode m_X11_isImage.2.1 197 = .ok (.iload 4, 2) := by decide +kernel
theorem dd_X11_isImage_199 : decode m_X11_isImage.2.1 199 = .ok (.iconst 2, 1) := by decide +kernel
theorem dd_X11_isImage_200 : decode m_X11_isImage.2.1 200 = .ok (.iadd, 1) := by decide +kernel
theorem dd_X11_isImage_201 : decode m_X11_isImage.2.1 201 = .ok (.iaload, 1) := by decide +kernel
theorem dd_X11_isImage_202 : decode m_X11_isImage.2.1 202 = .ok (.iload 5, 2) := by decide +kernel
theorem dd_X11_isImage_204 : decode m_X11_isImage.2.1 204 = .ok (.if_icmp .le 5, 3) := by decide +kernel
theorem dd_X11_isImage_207 : decode m_X11_isImage.2.1 207 = .ok (.iconst 0, 1) := by decide +kernel
theorem dd_X11_isImage_208 : decode m_X11_isImage.2.1 208 = .ok (.ireturn, 1) := by decide +kernel
theorem dd_X11_isImage_209 : decode m_X11_isImage.2.1 209 = .ok (.iinc 3 1, 3) := by decide +kernel
theorem dd_X11_isImage_212 : decode m_X11_isImage.2.1 212 = .ok (.goto (-92), 3) := by decide +kernel
theorem dd_X11_isImage_215 : decode m_X11_isImage.2.1 215 = .ok (.iconst 1, 1) := by decide +kernel
theorem dd_X11_isImage_216 : decode m_X11_isImage.2.1 216 = .ok (.ireturn, 1) := by decide +kernel
def nd_X11_isImage_166  (K120 : Int32 → fz_s → Prop) (Q : Bool → fz_s → Prop) (v3 : Int32) (v4 : Int32) (u0 : Int32) (s : fz_s) : Prop :=
  vp_in v4 1600 ∧ ((9 < (s.1 3 v4.toNatClampNeg) → Q false s) ∧ (¬ 9 < (s.1 3 v4.toNatClampNeg) → vp_in (v4 + 1) 1600 ∧ ((1 < (s.1 3 (v4 + 1).toNatClampNeg) → Q false s) ∧ (¬ 1 < (s.1 3 (v4 + 1).toNatClampNeg) → vp_in (v4 + 2) 1600 ∧ (((s.1 3 (v4 + 2).toNatClampNeg) ≤ u0 → ∀ x1 : Int32, x1 = v3 + 1 → K120 x1 s) ∧ (¬ (s.1 3 (v4 + 2).toNatClampNeg) ≤ u0 → Q false s))))))
def nd_X11_isImage_120  (K120 : Int32 → fz_s → Prop) (Q : Bool → fz_s → Prop) (v3 : Int32) (s : fz_s) : Prop :=
  (((s.1 6 12) ≤ v3 → Q true s) ∧ (¬ (s.1 6 12) ≤ v3 → ∀ x1 : Int32, x1 = ((2 + (3 * (s.1 6 11))) + (3 * v3)) → vp_in (x1 + 1) 1600 ∧ ((¬ (s.1 3 (x1 + 1).toNatClampNeg) = 0 → nd_X11_isImage_166  K120 Q v3 x1 99 s) ∧ ((s.1 3 (x1 + 1).toNatClampNeg) = 0 → nd_X11_isImage_166  K120 Q v3 x1 0 s))))
def lp_X11_isImage_120   (Q : Bool → fz_s → Prop) : Nat → Int32 → fz_s → Prop
  | 0 => fun _ _ => False
  | n + 1 => nd_X11_isImage_120  (lp_X11_isImage_120   Q n) Q
def nd_X11_isImage_66  (K66 : Int32 → fz_s → Prop) (Q : Bool → fz_s → Prop) (v3 : Int32) (s : fz_s) : Prop :=
  (((s.1 6 11) ≤ v3 → lp_X11_isImage_120   Q 2048 0 s) ∧ (¬ (s.1 6 11) ≤ v3 → wp_X11_pairAt 3 1600 (2 + (3 * v3)) s (fun r1 s2 => ((999 < r1 → Q false s2) ∧ (¬ 999 < r1 → vp_in (4 + (3 * v3)) 1600 ∧ (((s2.1 3 (4 + (3 * v3)).toNatClampNeg) ≤ 99 → ∀ x3 : Int32, x3 = v3 + 1 → K66 x3 s2) ∧ (¬ (s2.1 3 (4 + (3 * v3)).toNatClampNeg) ≤ 99 → Q false s2)))))))
def lp_X11_isImage_66   (Q : Bool → fz_s → Prop) : Nat → Int32 → fz_s → Prop
  | 0 => fun _ _ => False
  | n + 1 => nd_X11_isImage_66  (lp_X11_isImage_66   Q n) Q
def wp_X11_isImage (p0 : Int32) (s : fz_s) (Q : Bool → fz_s → Prop) : Prop :=
  ∀ x1 : Int32, x1 = ((3 + (3 * (s.1 6 11))) + (3 * (s.1 6 12))) → ((¬ p0 = x1 → Q false s) ∧ (p0 = x1 → wp_X11_check 3 1600 (x1 - 1) s (fun r2 s3 => vp_in (x1 - 1) 1600 ∧ ((¬ r2 = (s3.1 3 (x1 - 1).toNatClampNeg) → Q false s3) ∧ (r2 = (s3.1 3 (x1 - 1).toNatClampNeg) → wp_X11_pairAt 3 1600 0 s3 (fun r4 s5 => ((r4 ≤ 999 → lp_X11_isImage_66   Q 2048 0 s5) ∧ (¬ r4 ≤ 999 → Q false s5))))))))
set_option maxRecDepth 100000 in
set_option maxHeartbeats 4000000 in
theorem V_nd_X11_isImage_166 {g : fz_G} {l : Launch} {d : Nat} (hD : 1 ≤ d)   {K120 : Int32 → fz_s → Prop} {Q : Bool → fz_s → Prop} {v3 : Int32} {v4 : Int32} {u0 : Int32} {s : fz_s} (hK120 : ∀ {v3 : Int32} {s : fz_s}, K120 v3 s → fs_V g l m_X11_isImage d true 120 [.ref 2, fz_J, fz_J, .int v3, fz_J, fz_J] [] s (rZ Q)) (H : nd_X11_isImage_166  K120 Q v3 v4 u0 s) : fs_V g l m_X11_isImage d true 166 [.ref 2, fz_J, fz_J, .int v3, .int v4, fz_J] [.int u0] s (rZ Q) := by
  obtain ⟨d, rfl⟩ : ∃ e, d = e + 1 := ⟨d - 1, by omega⟩
  unfold nd_X11_isImage_166 at H
  refine fs_istore (i := 5) dd_X11_isImage_166 (by decide) ?_
  refine fs_aload_n (k0 := 0) (i := 0) dd_X11_isImage_168 rfl rfl ?_
  refine fs_getr (ci := 11) (j := 0) (q := 3) dd_X11_isImage_169 fl_X11_9 ca_2 rfl (Or.inr ⟨_, rfl⟩) rfl (by decide) ?_
  refine fs_iload (i := 4) dd_X11_isImage_172 rfl ?_
  have hb := H.1
  replace H := H.2
  refine fs_iald dd_X11_isImage_174 ca_3 hb ?_
  refine fs_bipush (n := 9) (v := 9) dd_X11_isImage_175 (by decide) ?_
  refine fs_icmp_gt (tgt := 207) dd_X11_isImage_177 (by decide) (fun hc => ?_) (fun hc => ?_)
  · replace H := H.1 hc
    refine fs_iconst (n := 0) (v := 0) dd_X11_isImage_207 (by decide) ?_
    exact fs_zret false dd_X11_isImage_208 rfl rfl H
  · replace H := H.2 hc
    refine fs_aload_n (k0 := 0) (i := 0) dd_X11_isImage_180 rfl rfl ?_
    refine fs_getr (ci := 11) (j := 0) (q := 3) dd_X11_isImage_181 fl_X11_9 ca_2 rfl (Or.inr ⟨_, rfl⟩) rfl (by decide) ?_
    refine fs_iload (i := 4) dd_X11_isImage_184 rfl ?_
    refine fs_iconst (n := 1) (v := 1) dd_X11_isImage_186 (by decide) ?_
    refine fs_iadd dd_X11_isImage_187 ?_
    have hb := H.1
    replace H := H.2
    refine fs_iald dd_X11_isImage_188 ca_3 hb ?_
    refine fs_iconst (n := 1) (v := 1) dd_X11_isImage_189 (by decide) ?_
    refine fs_icmp_gt (tgt := 207) dd_X11_isImage_190 (by decide) (fun hc => ?_) (fun hc => ?_)
    · replace H := H.1 hc
      refine fs_iconst (n := 0) (v := 0) dd_X11_isImage_207 (by decide) ?_
      exact fs_zret false dd_X11_isImage_208 rfl rfl H
    · replace H := H.2 hc
      refine fs_aload_n (k0 := 0) (i := 0) dd_X11_isImage_193 rfl rfl ?_
      refine fs_getr (ci := 11) (j := 0) (q := 3) dd_X11_isImage_194 fl_X11_9 ca_2 rfl (Or.inr ⟨_, rfl⟩) rfl (by decide) ?_
      refine fs_iload (i := 4) dd_X11_isImage_197 rfl ?_
      refine fs_iconst (n := 2) (v := 2) dd_X11_isImage_199 (by decide) ?_
      refine fs_iadd dd_X11_isImage_200 ?_
      have hb := H.1
      replace H := H.2
      refine fs_iald dd_X11_isImage_201 ca_3 hb ?_
      refine fs_iload (i := 5) dd_X11_isImage_202 rfl ?_
      refine fs_icmp_le (tgt := 209) dd_X11_isImage_204 (by decide) (fun hc => ?_) (fun hc => ?_)
      · replace H := H.1 hc
        refine fs_iincN (i := 3) (m := 1) (c := 1) dd_X11_isImage_209 rfl (by decide) (by decide) (fun x1 hx1 => ?_)
        replace H := H x1 hx1
        refine fs_goto (tgt := 120) dd_X11_isImage_212 (by decide) ?_
        refine fs_weak (ls2 := [.ref 2, fz_J, fz_J, .int x1, fz_J, fz_J]) (fz_le_e (fz_le_j (fz_le_j (fz_le_e (fz_le_j (fz_le_j fz_le_n)))))) ?_
        exact hK120 H
      · replace H := H.2 hc
        refine fs_iconst (n := 0) (v := 0) dd_X11_isImage_207 (by decide) ?_
        exact fs_zret false dd_X11_isImage_208 rfl rfl H
set_option maxRecDepth 100000 in
set_option maxHeartbeats 4000000 in
theorem V_nd_X11_isImage_120 {g : fz_G} {l : Launch} {d : Nat} (hD : 1 ≤ d)   {K120 : Int32 → fz_s → Prop} {Q : Bool → fz_s → Prop} {v3 : Int32} {s : fz_s} (hK120 : ∀ {v3 : Int32} {s : fz_s}, K120 v3 s → fs_V g l m_X11_isImage d true 120 [.ref 2, fz_J, fz_J, .int v3, fz_J, fz_J] [] s (rZ Q)) (H : nd_X11_isImage_120  K120 Q v3 s) : fs_V g l m_X11_isImage d true 120 [.ref 2, fz_J, fz_J, .int v3, fz_J, fz_J] [] s (rZ Q) := by
  obtain ⟨d, rfl⟩ : ∃ e, d = e + 1 := ⟨d - 1, by omega⟩
  unfold nd_X11_isImage_120 at H
  refine fs_iload_n (k0 := 3) (i := 3) dd_X11_isImage_120 rfl rfl ?_
  refine fs_aload_n (k0 := 0) (i := 0) dd_X11_isImage_121 rfl rfl ?_
  refine fs_getr (ci := 11) (j := 4) (q := 6) dd_X11_isImage_122 fl_X11_34 ca_2 rfl (Or.inl ⟨_, rfl⟩) rfl (by decide) ?_
  refine fs_geti (ci := 9) (j := 12) dd_X11_isImage_125 fl_X11_162 ca_6 rfl (Or.inl rfl) ?_
  refine fs_icmp_ge (tgt := 215) dd_X11_isImage_128 (by decide) (fun hc => ?_) (fun hc => ?_)
  · replace H := H.1 hc
    refine fs_iconst (n := 1) (v := 1) dd_X11_isImage_215 (by decide) ?_
    exact fs_zret true dd_X11_isImage_216 rfl rfl H
  · replace H := H.2 hc
    refine fs_iconst (n := 2) (v := 2) dd_X11_isImage_131 (by decide) ?_
    refine fs_iconst (n := 3) (v := 3) dd_X11_isImage_132 (by decide) ?_
    refine fs_aload_n (k0 := 0) (i := 0) dd_X11_isImage_133 rfl rfl ?_
    refine fs_getr (ci := 11) (j := 4) (q := 6) dd_X11_isImage_134 fl_X11_34 ca_2 rfl (Or.inl ⟨_, rfl⟩) rfl (by decide) ?_
    refine fs_geti (ci := 9) (j := 11) dd_X11_isImage_137 fl_X11_159 ca_6 rfl (Or.inl rfl) ?_
    refine fs_imul dd_X11_isImage_140 ?_
    refine fs_iadd dd_X11_isImage_141 ?_
    refine fs_iconst (n := 3) (v := 3) dd_X11_isImage_142 (by decide) ?_
    refine fs_iload_n (k0 := 3) (i := 3) dd_X11_isImage_143 rfl rfl ?_
    refine fs_imul dd_X11_isImage_144 ?_
    refine fs_iadd dd_X11_isImage_145 ?_
    refine fs_topi (fun x1 hx1 => ?_)
    replace H := H x1 hx1
    refine fs_istore (i := 4) dd_X11_isImage_146 (by decide) ?_
    refine fs_aload_n (k0 := 0) (i := 0) dd_X11_isImage_148 rfl rfl ?_
    refine fs_getr (ci := 11) (j := 0) (q := 3) dd_X11_isImage_149 fl_X11_9 ca_2 rfl (Or.inr ⟨_, rfl⟩) rfl (by decide) ?_
    refine fs_iload (i := 4) dd_X11_isImage_152 rfl ?_
    refine fs_iconst (n := 1) (v := 1) dd_X11_isImage_154 (by decide) ?_
    refine fs_iadd dd_X11_isImage_155 ?_
    have hb := H.1
    replace H := H.2
    refine fs_iald dd_X11_isImage_156 ca_3 hb ?_
    refine fs_if_ne (tgt := 164) dd_X11_isImage_157 (by decide) (fun hc => ?_) (fun hc => ?_)
    · replace H := H.1 hc
      refine fs_bipush (n := 99) (v := 99) dd_X11_isImage_164 (by decide) ?_
      refine fs_weak (ls2 := [.ref 2, fz_J, fz_J, .int v3, .int x1, fz_J]) (fz_le_e (fz_le_j (fz_le_j (fz_le_e (fz_le_e (fz_le_j fz_le_n)))))) ?_
      exact V_nd_X11_isImage_166 hD   hK120 H
    · replace H := H.2 hc
      refine fs_iconst (n := 0) (v := 0) dd_X11_isImage_160 (by decide) ?_
      refine fs_goto (tgt := 166) dd_X11_isImage_161 (by decide) ?_
      refine fs_weak (ls2 := [.ref 2, fz_J, fz_J, .int v3, .int x1, fz_J]) (fz_le_e (fz_le_j (fz_le_j (fz_le_e (fz_le_e (fz_le_j fz_le_n)))))) ?_
      exact V_nd_X11_isImage_166 hD   hK120 H
set_option maxRecDepth 100000 in
set_option maxHeartbeats 4000000 in
theorem V_lp_X11_isImage_120 {g : fz_G} {l : Launch} {d : Nat} (hD : 1 ≤ d)    {Q : Bool → fz_s → Prop}  (n : Nat) : ∀ {v3 : Int32} {s : fz_s}, lp_X11_isImage_120   Q n v3 s → fs_V g l m_X11_isImage d true 120 [.ref 2, fz_J, fz_J, .int v3, fz_J, fz_J] [] s (rZ Q) := by
  induction n with
  | zero => intro v3 s H; exact H.elim
  | succ n ih => intro v3 s H; exact V_nd_X11_isImage_120 hD  (fun H => ih H) H
set_option maxRecDepth 100000 in
set_option maxHeartbeats 4000000 in
theorem V_nd_X11_isImage_66 {g : fz_G} {l : Launch} {d : Nat} (hD : 1 ≤ d)   {K66 : Int32 → fz_s → Prop} {Q : Bool → fz_s → Prop} {v3 : Int32} {s : fz_s} (hK66 : ∀ {v3 : Int32} {s : fz_s}, K66 v3 s → fs_V g l m_X11_isImage d true 66 [.ref 2, fz_J, fz_J, .int v3, fz_J, fz_J] [] s (rZ Q)) (H : nd_X11_isImage_66  K66 Q v3 s) : fs_V g l m_X11_isImage d true 66 [.ref 2, fz_J, fz_J, .int v3, fz_J, fz_J] [] s (rZ Q) := by
  obtain ⟨d, rfl⟩ : ∃ e, d = e + 1 := ⟨d - 1, by omega⟩
  unfold nd_X11_isImage_66 at H
  refine fs_iload_n (k0 := 3) (i := 3) dd_X11_isImage_66 rfl rfl ?_
  refine fs_aload_n (k0 := 0) (i := 0) dd_X11_isImage_67 rfl rfl ?_
  refine fs_getr (ci := 11) (j := 4) (q := 6) dd_X11_isImage_68 fl_X11_34 ca_2 rfl (Or.inl ⟨_, rfl⟩) rfl (by decide) ?_
  refine fs_geti (ci := 9) (j := 11) dd_X11_isImage_71 fl_X11_159 ca_6 rfl (Or.inl rfl) ?_
  refine fs_icmp_ge (tgt := 118) dd_X11_isImage_74 (by decide) (fun hc => ?_) (fun hc => ?_)
  · replace H := H.1 hc
    refine fs_iconst (n := 0) (v := 0) dd_X11_isImage_118 (by decide) ?_
    refine fs_istore_n (k0 := 3) (i := 3) dd_X11_isImage_119 rfl (by decide) ?_
    refine fs_weak (ls2 := [.ref 2, fz_J, fz_J, .int 0, fz_J, fz_J]) (fz_le_e (fz_le_j (fz_le_j (fz_le_e (fz_le_j (fz_le_j fz_le_n)))))) ?_
    exact V_lp_X11_isImage_120 hD    2048 H
  · replace H := H.2 hc
    refine fs_aload_n (k0 := 0) (i := 0) dd_X11_isImage_77 rfl rfl ?_
    refine fs_getr (ci := 11) (j := 0) (q := 3) dd_X11_isImage_78 fl_X11_9 ca_2 rfl (Or.inr ⟨_, rfl⟩) rfl (by decide) ?_
    refine fs_iconst (n := 2) (v := 2) dd_X11_isImage_81 (by decide) ?_
    refine fs_iconst (n := 3) (v := 3) dd_X11_isImage_82 (by decide) ?_
    refine fs_iload_n (k0 := 3) (i := 3) dd_X11_isImage_83 rfl rfl ?_
    refine fs_imul dd_X11_isImage_84 ?_
    refine fs_iadd dd_X11_isImage_85 ?_
    refine fs_callS (y := m_X11_pairAt) (as := [.ref 3, .int (2 + (3 * v3))]) dd_X11_isImage_86 me_X11_pairAt (Or.inl lk_X11_378) st_X11_pairAt rfl (Nat.le_of_ble_eq_true rfl) (Nat.le_of_ble_eq_true rfl) rfl (V_X11_pairAt (by omega) ca_3 H) (k2_I fun r1 s2 H => ?_)
    refine fs_sipush (n := 999) (v := 999) dd_X11_isImage_89 (by decide) ?_
    refine fs_icmp_gt (tgt := 110) dd_X11_isImage_92 (by decide) (fun hc => ?_) (fun hc => ?_)
    · replace H := H.1 hc
      refine fs_iconst (n := 0) (v := 0) dd_X11_isImage_110 (by decide) ?_
      exact fs_zret false dd_X11_isImage_111 rfl rfl H
    · replace H := H.2 hc
      refine fs_aload_n (k0 := 0) (i := 0) dd_X11_isImage_95 rfl rfl ?_
      refine fs_getr (ci := 11) (j := 0) (q := 3) dd_X11_isImage_96 fl_X11_9 ca_2 rfl (Or.inr ⟨_, rfl⟩) rfl (by decide) ?_
      refine fs_iconst (n := 4) (v := 4) dd_X11_isImage_99 (by decide) ?_
      refine fs_iconst (n := 3) (v := 3) dd_X11_isImage_100 (by decide) ?_
      refine fs_iload_n (k0 := 3) (i := 3) dd_X11_isImage_101 rfl rfl ?_
      refine fs_imul dd_X11_isImage_102 ?_
      refine fs_iadd dd_X11_isImage_103 ?_
      have hb := H.1
      replace H := H.2
      refine fs_iald dd_X11_isImage_104 ca_3 hb ?_
      refine fs_bipush (n := 99) (v := 99) dd_X11_isImage_105 (by decide) ?_
      refine fs_icmp_le (tgt := 112) dd_X11_isImage_107 (by decide) (fun hc => ?_) (fun hc => ?_)
      · replace H := H.1 hc
        refine fs_iincN (i := 3) (m := 1) (c := 1) dd_X11_isImage_112 rfl (by decide) (by decide) (fun x3 hx3 => ?_)
        replace H := H x3 hx3
        refine fs_goto (tgt := 66) dd_X11_isImage_115 (by decide) ?_
        refine fs_weak (ls2 := [.ref 2, fz_J, fz_J, .int x3, fz_J, fz_J]) (fz_le_e (fz_le_j (fz_le_j (fz_le_e (fz_le_j (fz_le_j fz_le_n)))))) ?_
        exact hK66 H
      · replace H := H.2 hc
        refine fs_iconst (n := 0) (v := 0) dd_X11_isImage_110 (by decide) ?_
        exact fs_zret false dd_X11_isImage_111 rfl rfl H
set_option maxRecDepth 100000 in
set_option maxHeartbeats 4000000 in
theorem V_lp_X11_isImage_66 {g : fz_G} {l : Launch} {d : Nat} (hD : 1 ≤ d)    {Q : Bool → fz_s → Prop}  (n : Nat) : ∀ {v3 : Int32} {s : fz_s}, lp_X11_isImage_66   Q n v3 s → fs_V g l m_X11_isImage d true 66 [.ref 2, fz_J, fz_J, .int v3, fz_J, fz_J] [] s (rZ Q) := by
  induction n with
  | zero => intro v3 s H; exact H.elim
  | succ n ih => intro v3 s H; exact V_nd_X11_isImage_66 hD  (fun H => ih H) H
set_option maxRecDepth 100000 in
set_option maxHeartbeats 4000000 in
theorem V_X11_isImage {g : fz_G} {l : Launch} {d : Nat} (hD : 1 ≤ d) {p0 : Int32}  {s : fz_s} {Q : Bool → fz_s → Prop} (H : wp_X11_isImage p0 s Q) : fs_V g l m_X11_isImage d true 0 (fz_en [.ref 2, .int p0] 6) [] s (rZ Q) := by
  obtain ⟨d, rfl⟩ : ∃ e, d = e + 1 := ⟨d - 1, by omega⟩
  unfold wp_X11_isImage at H
  refine fs_iconst (n := 3) (v := 3) dd_X11_isImage_0 (by decide) ?_
  refine fs_iconst (n := 3) (v := 3) dd_X11_isImage_1 (by decide) ?_
  refine fs_aload_n (k0 := 0) (i := 0) dd_X11_isImage_2 rfl rfl ?_
  refine fs_getr (ci := 11) (j := 4) (q := 6) dd_X11_isImage_3 fl_X11_34 ca_2 rfl (Or.inl ⟨_, rfl⟩) rfl (by decide) ?_
  refine fs_geti (ci := 9) (j := 11) dd_X11_isImage_6 fl_X11_159 ca_6 rfl (Or.inl rfl) ?_
  refine fs_imul dd_X11_isImage_9 ?_
  refine fs_iadd dd_X11_isImage_10 ?_
  refine fs_iconst (n := 3) (v := 3) dd_X11_isImage_11 (by decide) ?_
  refine fs_aload_n (k0 := 0) (i := 0) dd_X11_isImage_12 rfl rfl ?_
  refine fs_getr (ci := 11) (j := 4) (q := 6) dd_X11_isImage_13 fl_X11_34 ca_2 rfl (Or.inl ⟨_, rfl⟩) rfl (by decide) ?_
  refine fs_geti (ci := 9) (j := 12) dd_X11_isImage_16 fl_X11_162 ca_6 rfl (Or.inl rfl) ?_
  refine fs_imul dd_X11_isImage_19 ?_
  refine fs_iadd dd_X11_isImage_20 ?_
  refine fs_topi (fun x1 hx1 => ?_)
  replace H := H x1 hx1
  refine fs_istore_n (k0 := 2) (i := 2) dd_X11_isImage_21 rfl (by decide) ?_
  refine fs_iload_n (k0 := 1) (i := 1) dd_X11_isImage_22 rfl rfl ?_
  refine fs_iload_n (k0 := 2) (i := 2) dd_X11_isImage_23 rfl rfl ?_
  refine fs_icmp_ne (tgt := 62) dd_X11_isImage_24 (by decide) (fun hc => ?_) (fun hc => ?_)
  · replace H := H.1 hc
    refine fs_iconst (n := 0) (v := 0) dd_X11_isImage_62 (by decide) ?_
    exact fs_zret false dd_X11_isImage_63 rfl rfl H
  · replace H := H.2 hc
    refine fs_aload_n (k0 := 0) (i := 0) dd_X11_isImage_27 rfl rfl ?_
    refine fs_getr (ci := 11) (j := 0) (q := 3) dd_X11_isImage_28 fl_X11_9 ca_2 rfl (Or.inr ⟨_, rfl⟩) rfl (by decide) ?_
    refine fs_iload_n (k0 := 2) (i := 2) dd_X11_isImage_31 rfl rfl ?_
    refine fs_iconst (n := 1) (v := 1) dd_X11_isImage_32 (by decide) ?_
    refine fs_isub dd_X11_isImage_33 ?_
    refine fs_callS (y := m_X11_check) (as := [.ref 3, .int (x1 - 1)]) dd_X11_isImage_34 me_X11_check (Or.inl lk_X11_367) st_X11_check rfl (Nat.le_of_ble_eq_true rfl) (Nat.le_of_ble_eq_true rfl) rfl (V_X11_check (by omega) ca_3 H) (k2_I fun r2 s3 H => ?_)
    refine fs_aload_n (k0 := 0) (i := 0) dd_X11_isImage_37 rfl rfl ?_
    refine fs_getr (ci := 11) (j := 0) (q := 3) dd_X11_isImage_38 fl_X11_9 ca_2 rfl (Or.inr ⟨_, rfl⟩) rfl (by decide) ?_
    refine fs_iload_n (k0 := 2) (i := 2) dd_X11_isImage_41 rfl rfl ?_
    refine fs_iconst (n := 1) (v := 1) dd_X11_isImage_42 (by decide) ?_
    refine fs_isub dd_X11_isImage_43 ?_
    have hb := H.1
    replace H := H.2
    refine fs_iald dd_X11_isImage_44 ca_3 hb ?_
    refine fs_icmp_ne (tgt := 62) dd_X11_isImage_45 (by decide) (fun hc => ?_) (fun hc => ?_)
    · replace H := H.1 hc
      refine fs_iconst (n := 0) (v := 0) dd_X11_isImage_62 (by decide) ?_
      exact fs_zret false dd_X11_isImage_63 rfl rfl H
    · replace H := H.2 hc
      refine fs_aload_n (k0 := 0) (i := 0) dd_X11_isImage_48 rfl rfl ?_
      refine fs_getr (ci := 11) (j := 0) (q := 3) dd_X11_isImage_49 fl_X11_9 ca_2 rfl (Or.inr ⟨_, rfl⟩) rfl (by decide) ?_
      refine fs_iconst (n := 0) (v := 0) dd_X11_isImage_52 (by decide) ?_
      refine fs_callS (y := m_X11_pairAt) (as := [.ref 3, .int 0]) dd_X11_isImage_53 me_X11_pairAt (Or.inl lk_X11_378) st_X11_pairAt rfl (Nat.le_of_ble_eq_true rfl) (Nat.le_of_ble_eq_true rfl) rfl (V_X11_pairAt (by omega) ca_3 H) (k2_I fun r4 s5 H => ?_)
      refine fs_sipush (n := 999) (v := 999) dd_X11_isImage_56 (by decide) ?_
      refine fs_icmp_le (tgt := 64) dd_X11_isImage_59 (by decide) (fun hc => ?_) (fun hc => ?_)
      · replace H := H.1 hc
        refine fs_iconst (n := 0) (v := 0) dd_X11_isImage_64 (by decide) ?_
        refine fs_istore_n (k0 := 3) (i := 3) dd_X11_isImage_65 rfl (by decide) ?_
        refine fs_weak (ls2 := [.ref 2, fz_J, fz_J, .int 0, fz_J, fz_J]) (fz_le_e (fz_le_j (fz_le_j (fz_le_e (fz_le_j (fz_le_j fz_le_n)))))) ?_
        exact V_lp_X11_isImage_66 hD    2048 H
      · replace H := H.2 hc
        refine fs_iconst (n := 0) (v := 0) dd_X11_isImage_62 (by decide) ?_
        exact fs_zret false dd_X11_isImage_63 rfl rfl H
theorem dd_X10_develop_0 : decode m_X10_develop.2.1 0 = .ok (.aload_n 0, 1) := by decide +kernel
theorem dd_X10_develop_1 : decode m_X10_develop.2.1 1 = .ok (.aload_n 1, 1) := by decide +kernel
theorem dd_X10_develop_2 : decode m_X10_develop.2.1 2 = .ok (.iconst 0, 1) := by decide +kernel
theorem dd_X10_develop_3 : decode m_X10_develop.2.1 3 = .ok (.invokestatic 48, 3) := by decide +kernel
theorem dd_X10_develop_6 : decode m_X10_develop.2.1 6 = .ok (.putfield 33, 3) := by decide +kernel
theorem dd_X10_develop_9 : decode m_X10_develop.2.1 9 = .ok (.aload_n 0, 1) := by decide +kernel
theorem dd_X10_develop_10 : decode m_X10_develop.2.1 10 = .ok (.iconst 0, 1) := by decide +kernel
theorem dd_X10_develop_11 : decode m_X10_develop.2.1 11 = .ok (.putfield 37, 3) := by decide +kernel
theorem dd_X10_develop_14 : decode m_X10_develop.2.1 14 = .ok (.iconst 0, 1) := by decide +kernel
theorem dd_X10_develop_15 : decode m_X10_develop.2.1 15 = .ok (.istore_n 3, 1) := by decide +kernel
theorem dd_X10_develop_16 : decode m_X10_develop.2.1 16 = .ok (.iload_n 3, 1) := by decide +kernel
theorem dd_X10_develop_17 : decode m_X10_develop.2.1 17 = .ok (.aload_n 2, 1) := by decide +kernel
theorem dd_X10_develop_18 : decode m_X10_develop.2.1 18 = .ok (.getfield 52, 3) := by decide +kernel
theorem dd_X10_develop_21 : decode m_X10_develop.2.1 21 = .ok (.if_icmp .ge 37, 3) := by decide +kernel
theorem dd_X10_develop_24 : decode m_X10_develop.2.1 24 = .ok (.aload_n 0, 1) := by decide +kernel
theorem dd_X10_develop_25 : decode m_X10_develop.2.1 25 = .ok (.getfield 9, 3) := by decide +kernel
theorem dd_X10_develop_28 : decode m_X10_develop.2.1 28 = .ok (.iload_n 3, 1) := by decide +kernel
theorem dd_X10_develop_29 : decode m_X10_develop.2.1 29 = .ok (.aload_n 1, 1) := by decide +kernel
theorem dd_X10_develop_30 : decode m_X10_develop.2.1 30 = .ok (.iconst 2, 1) := by decide +kernel
theorem dd_X10_develop_31 : decode m_X10_develop.2.1 31 = .ok (.iconst 3, 1) := by decide +kernel
theorem dd_X10_develop_32 : decode m_X10_develop.2.1 32 = .ok (.iload_n 3, 1) := by decide +kernel
theorem dd_X10_develop_33 : decode m_X10_develop.2.1 33 = .ok (.imul, 1) := by decide +kernel
theorem dd_X10_develop_34 : decode m_X10_develop.2.1 34 = .ok (.iadd, 1) := by decide +kernel
theorem dd_X10_develop_35 : decode m_X10_develop.2.1 35 = .ok (.invokestatic 48, 3) := by decide +kernel
theorem dd_X10_develop_38 : decode m_X10_develop.2.1 38 = .ok (.iastore, 1) := by decide +kernel
theorem dd_X10_develop_39 : decode m_X10_develop.2.1 39 = .ok (.aload_n 0, 1) := by decide +kernel
theorem dd_X10_develop_40 : decode m_X10_develop.2.1 40 = .ok (.getfield 15, 3) := by decide +kernel
theorem dd_X10_develop_43 : decode m_X10_develop.2.1 43 = .ok (.iload_n 3, 1) := by decide +kernel
theorem dd_X10_develop_44 : decode m_X10_develop.2.1 44 = .ok (.aload_n 1, 1) := by decide +kernel
theorem dd_X10_develop_45 : decode m_X10_develop.2.1 45 = .ok (.iconst 4, 1) := by decide +kernel
theorem dd_X10_develop_46 : decode m_X10_develop.2.1 46 = .ok (.iconst 3, 1) := by decide +kernel
theorem dd_X10_develop_47 : decode m_X10_develop.2.1 47 = .ok (.iload_n 3, 1) := by decide +kernel
theorem dd_X10_develop_48 : decode m_X10_develop.2.1 48 = .ok (.imul, 1) := by decide +kernel
theorem dd_X10_develop_49 : decode m_X10_develop.2.1 49 = .ok (.iadd, 1) := by decide +kernel
theorem dd_X10_develop_50 : decode m_X10_develop.2.1 50 = .ok (.iaload, 1) := by decide +kernel
theorem dd_X10_develop_51 : decode m_X10_develop.2.1 51 = .ok (.iastore, 1) := by decide +kernel
theorem dd_X10_develop_52 : decode m_X10_develop.2.1 52 = .ok (.iinc 3 1, 3) := by decide +kernel
theorem dd_X10_develop_55 : decode m_X10_develop.2.1 55 = .ok (.goto (-39), 3) := by decide +kernel
theorem dd_X10_develop_58 : decode m_X10_develop.2.1 58 = .ok (.iconst 0, 1) := by decide +kernel
theorem dd_X10_develop_59 : decode m_X10_develop.2.1 59 = .ok (.istore_n 3, 1) := by decide +kernel
theorem dd_X10_develop_60 : decode m_X10_develop.2.1 60 = .ok (.iload_n 3, 1) := by decide +kernel
theorem dd_X10_develop_61 : decode m_X10_develop.2.1 61 = .ok (.aload_n 2, 1) := by decide +kernel
theorem dd_X10_develop_62 : decode m_X10_develop.2.1 62 = .ok (.getfield 55, 3) := by decide +kernel
theorem dd_X10_develop_65 : decode m_X10_develop.2.1 65 = .ok (.if_icmp .ge 77, 3) := by decide +kernel
theorem dd_X10_develop_68 : decode m_X10_develop.2.1 68 = .ok (.iconst 2, 1) := by decide +kernel
theorem dd_X10_develop_69 : decode m_X10_develop.2.1 69 = .ok (.iconst 3, 1) := by decide +kernel
theorem dd_X10_develop_70 : decode m_X10_develop.2.1 70 = .ok (.aload_n 2, 1) := by decide +kernel
theorem dd_X10_develop_71 : decode m_X10_develop.2.1 71 = .ok (.getfield 52, 3) := by decide +kernel
theorem dd_X10_develop_74 : decode m_X10_develop.2.1 74 = .ok (.imul, 1) := by decide +kernel
theorem dd_X10_develop_75 : decode m_X10_develop.2.1 75 = .ok (.iadd, 1) := by decide +kernel
theorem dd_X10_develop_76 : decode m_X10_develop.2.1 76 = .ok (.iconst 3, 1) := by decide +kernel
theorem dd_X10_develop_77 : decode m_X10_develop.2.1 77 = .ok (.iload_n 3, 1) := by decide +kernel
theorem dd_X10_develop_78 : decode m_X10_develop.2.1 78 = .ok (.imul, 1) := by decide +kernel
theorem dd_X10_develop_79 : decode m_X10_develop.2.1 79 = .ok (.iadd, 1) := by decide +kernel
theorem dd_X10_develop_80 : decode m_X10_develop.2.1 80 = .ok (.istore 4, 2) := by decide +kernel
theorem dd_X10_develop_82 : decode m_X10_develop.2.1 82 = .ok (.aload_n 0, 1) := by decide +kernel
theorem dd_X10_develop_83 : decode m_X10_develop.2.1 83 = .ok (.getfield 18, 3) := by decide +kernel
theorem dd_X10_develop_86 : decode m_X10_develop.2.1 86 = .ok (.iload_n 3, 1) := by decide +kernel
theorem dd_X10_develop_87 : decode m_X10_develop.2.1 87 = .ok (.aload_n 1, 1) := by decide +kernel
theorem dd_X10_develop_88 : decode m_X10_develop.2.1 88 = .ok (.iload 4, 2) := by decide +kernel
theorem dd_X10_develop_90 : decode m_X10_develop.2.1 90 = .ok (.iaload, 1) := by decide +kernel
theorem dd_X10_develop_91 : decode m_X10_develop.2.1 91 = .ok (.iastore, 1) := by decide +kernel
theorem dd_X10_develop_92 : decode m_X10_develop.2.1 92 = .ok (.aload_n 0, 1) := by decide +kernel
theorem dd_X10_develop_93 : decode m_X10_develop.2.1 93 = .ok (.getfield 21, 3) := by decide +kernel
theorem dd_X10_develop_96 : decode m_X10_develop.2.1 96 = .ok (.iload_n 3, 1) := by decide +kernel
theorem dd_X10_develop_97 : decode m_X10_develop.2.1 97 = .ok (.aload_n 1, 1) := by decide +kernel
theorem dd_X10_develop_98 : decode m_X10_develop.2.1 98 = .ok (.iload 4, 2) := by decide +kernel
theorem dd_X10_develop_100 : decode m_X10_develop.2.1 100 = .ok (.iconst 1, 1) := by decide +kernel
theorem dd_X10_develop_101 : decode m_X10_develop.2.1 101 = .ok (.iadd, 1) := by decide +kernel
theorem dd_X10_develop_102 : decode m_X10_develop.2.1 102 = .ok (.iaload, 1) := by decide +kernel
theorem dd_X10_develop_103 : decode m_X10_develop.2.1 103 = .ok (.ifCond .ne 12, 3) := by decide +kernel
theorem dd_X10_develop_106 : decode m_X10_develop.2.1 106 = .ok (.aload_n 2, 1) := by decide +kernel
theorem dd_X10_develop_107 : decode m_X10_develop.2.1 107 = .ok (.getfield 45, 3) := by decide +kernel
theorem dd_X10_develop_110 : decode m_X10_develop.2.1 110 = .ok (.iload_n 3, 1) := by decide +kernel
theorem dd_X10_develop_111 : decode m_X10_develop.2.1 111 = .ok (.iaload, 1) := by decide +kernel
theorem dd_X10_develop_112 : decode m_X10_develop.2.1 112 = .ok (.goto 11, 3) := by decide +kernel
theorem dd_X10_develop_115 : decode m_X10_develop.2.1 115 = .ok (.iconst 1, 1) := by decide +kernel
theorem dd_X10_develop_116 : decode m_X10_develop.2.1 116 = .ok (.aload_n 2, 1) := by decide +kernel
theorem dd_X10_develop_117 : decode m_X10_develop.2.1 117 = .ok (.getfield 45, 3) := by decide +kernel
theorem dd_X10_develop_120 : decode m_X10_develop.2.1 120 = .ok (.iload_n 3, 1) := by decide +kernel
theorem dd_X10_develop_121 : decode m_X10_develop.2.1 121 = .ok (.iaload, 1) := by decide +kernel
theorem dd_X10_develop_122 : decode m_X10_develop.2.1 122 = .ok (.isub, 1) := by decide +kernel
theorem dd_X10_develop_123 : decode m_X10_develop.2.1 123 = .ok (.iastore, 1) := by decide +kernel
theorem dd_X10_develop_124 : decode m_X10_develop.2.1 124 = .ok (.aload_n 0, 1) := by decide +kernel
theorem dd_X10_develop_125 : decode m_X10_develop.2.1 125 = .ok (.getfield 24, 3) := by decide +kernel
theorem dd_X10_develop_128 : decode m_X10_develop.2.1 128 = .ok (.iload_n 3, 1) := by decide +kernel
theorem dd_X10_develop_129 : decode m_X10_develop.2.1 129 = .ok (.aload_n 1, 1) := by decide +kernel
theorem dd_X10_develop_130 : decode m_X10_develop.2.1 130 = .ok (.iload 4, 2) := by decide +kernel
theorem dd_X10_develop_132 : decode m_X10_develop.2.1 132 = .ok (.iconst 2, 1) := by decide +kernel
theorem dd_X10_develop_133 : decode m_X10_develop.2.1 133 = .ok (.iadd, 1) := by decide +kernel
theorem dd_X10_develop_134 : decode m_X10_develop.2.1 134 = .ok (.iaload, 1) := by decide +kernel
theorem dd_X10_develop_135 : decode m_X10_develop.2.1 135 = .ok (.iastore, 1) := by decide +kernel
theorem dd_X10_develop_136 : decode m_X10_develop.2.1 136 = .ok (.iinc 3 1, 3) := by decide +kernel
theorem dd_X10_develop_139 : decode m_X10_develop.2.1 139 = .ok (.goto (-79), 3) := by decide +kernel
theorem dd_X10_develop_142 : decode m_X10_develop.2.1 142 = .ok (.return_, 1) := by decide +kernel
def nd_X10_develop_6_123 (w : Nat) (a0 : Nat) (n0 : Nat) (K60 : Int32 → fz_s → Prop) (Q : fz_s → Prop) (v3 : Int32) (v4 : Int32) (u0 : Int32) (u1 : Int32) (s : fz_s) : Prop :=
  vp_in u1 8 ∧ ∀ s1 : fz_s, s1 = si s (w + 1 + 3) u1.toNatClampNeg u0 → vp_in (v4 + 2) n0 ∧ vp_in v3 8 ∧ ∀ s2 : fz_s, s2 = si s1 (w + 1 + 4) v3.toNatClampNeg (s1.1 a0 (v4 + 2).toNatClampNeg) → ∀ x3 : Int32, x3 = v3 + 1 → K60 x3 s2
def nd_X10_develop_6_60 (w : Nat) (a0 : Nat) (n0 : Nat) (K60 : Int32 → fz_s → Prop) (Q : fz_s → Prop) (v3 : Int32) (s : fz_s) : Prop :=
  (((s.1 6 12) ≤ v3 → Q s) ∧ (¬ (s.1 6 12) ≤ v3 → ∀ x1 : Int32, x1 = ((2 + (3 * (s.1 6 11))) + (3 * v3)) → vp_in x1 n0 ∧ vp_in v3 8 ∧ ∀ s2 : fz_s, s2 = si s (w + 1 + 2) v3.toNatClampNeg (s.1 a0 x1.toNatClampNeg) → vp_in (x1 + 1) n0 ∧ ((¬ (s2.1 a0 (x1 + 1).toNatClampNeg) = 0 → vp_in v3 8 ∧ nd_X10_develop_6_123 w a0 n0 K60 Q v3 x1 (1 - (s2.1 10 v3.toNatClampNeg)) v3 s2) ∧ ((s2.1 a0 (x1 + 1).toNatClampNeg) = 0 → vp_in v3 8 ∧ nd_X10_develop_6_123 w a0 n0 K60 Q v3 x1 (s2.1 10 v3.toNatClampNeg) v3 s2))))
def lp_X10_develop_6_60 (w : Nat) (a0 : Nat) (n0 : Nat)  (Q : fz_s → Prop) : Nat → Int32 → fz_s → Prop
  | 0 => fun _ _ => False
  | n + 1 => nd_X10_develop_6_60 w a0 n0 (lp_X10_develop_6_60 w a0 n0  Q n) Q
def nd_X10_develop_6_16 (w : Nat) (a0 : Nat) (n0 : Nat) (K16 : Int32 → fz_s → Prop) (Q : fz_s → Prop) (v3 : Int32) (s : fz_s) : Prop :=
  (((s.1 6 11) ≤ v3 → lp_X10_develop_6_60 w a0 n0  Q 2048 0 s) ∧ (¬ (s.1 6 11) ≤ v3 → wp_X11_pairAt a0 n0 (2 + (3 * v3)) s (fun r1 s2 => vp_in v3 2 ∧ ∀ s3 : fz_s, s3 = si s2 (w + 1 + 0) v3.toNatClampNeg r1 → vp_in (4 + (3 * v3)) n0 ∧ vp_in v3 2 ∧ ∀ s4 : fz_s, s4 = si s3 (w + 1 + 1) v3.toNatClampNeg (s3.1 a0 (4 + (3 * v3)).toNatClampNeg) → ∀ x5 : Int32, x5 = v3 + 1 → K16 x5 s4)))
def lp_X10_develop_6_16 (w : Nat) (a0 : Nat) (n0 : Nat)  (Q : fz_s → Prop) : Nat → Int32 → fz_s → Prop
  | 0 => fun _ _ => False
  | n + 1 => nd_X10_develop_6_16 w a0 n0 (lp_X10_develop_6_16 w a0 n0  Q n) Q
def wp_X10_develop_6 (w : Nat) (a0 : Nat) (n0 : Nat) (s : fz_s) (Q : fz_s → Prop) : Prop :=
  wp_X11_pairAt a0 n0 0 s (fun r1 s2 => ∀ s3 : fz_s, s3 = si s2 w 5 r1 → ∀ s4 : fz_s, s4 = si s3 w 6 0 → lp_X10_develop_6_16 w a0 n0  Q 2048 0 s4)
set_option maxRecDepth 100000 in
set_option maxHeartbeats 4000000 in
theorem V_nd_X10_develop_6_123 {g : fz_G} {l : Launch} {d : Nat} (hD : 1 ≤ d) {w : Nat} {a0 : Nat} {n0 : Nat} (hw : fz_at true w 10 7) (ha0 : fz_at true a0 14 n0) {K60 : Int32 → fz_s → Prop} {Q : fz_s → Prop} {v3 : Int32} {v4 : Int32} {u0 : Int32} {u1 : Int32} {s : fz_s} (hK60 : ∀ {v3 : Int32} {s : fz_s}, K60 v3 s → fs_V g l m_X10_develop d true 60 [.ref w, .ref a0, .ref 6, .int v3, fz_J] [] s (rV Q)) (H : nd_X10_develop_6_123 w a0 n0 K60 Q v3 v4 u0 u1 s) : fs_V g l m_X10_develop d true 123 [.ref w, .ref a0, .ref 6, .int v3, .int v4] [.int u0, .int u1, .ref (w + 1 + 3)] s (rV Q) := by
  obtain ⟨d, rfl⟩ : ∃ e, d = e + 1 := ⟨d - 1, by omega⟩
  unfold nd_X10_develop_6_123 at H
  have hb := H.1
  replace H := H.2
  refine fs_iast dd_X10_develop_123 ((fz_W hw).2.2.1 3 (by decide) (by decide)) hb ?_
  refine fs_tops (fun s1 hs1 => ?_)
  replace H := H s1 hs1
  refine fs_aload_n (k0 := 0) (i := 0) dd_X10_develop_124 rfl rfl ?_
  refine fs_getr (ci := 10) (j := 4) (q := (w + 1 + 4)) dd_X10_develop_125 fl_X10_24 hw rfl (Or.inr ⟨_, rfl⟩) ((fz_W hw).1 4 (by decide)) (fun q => (fz_W hw).2.2.2 q.1) ?_
  refine fs_iload_n (k0 := 3) (i := 3) dd_X10_develop_128 rfl rfl ?_
  refine fs_aload_n (k0 := 1) (i := 1) dd_X10_develop_129 rfl rfl ?_
  refine fs_iload (i := 4) dd_X10_develop_130 rfl ?_
  refine fs_iconst (n := 2) (v := 2) dd_X10_develop_132 (by decide) ?_
  refine fs_iadd dd_X10_develop_133 ?_
  have hb := H.1
  replace H := H.2
  refine fs_iald dd_X10_develop_134 ha0 hb ?_
  have hb := H.1
  replace H := H.2
  refine fs_iast dd_X10_develop_135 ((fz_W hw).2.2.1 4 (by decide) (by decide)) hb ?_
  refine fs_tops (fun s2 hs2 => ?_)
  replace H := H s2 hs2
  refine fs_iincN (i := 3) (m := 1) (c := 1) dd_X10_develop_136 rfl (by decide) (by decide) (fun x3 hx3 => ?_)
  replace H := H x3 hx3
  refine fs_goto (tgt := 60) dd_X10_develop_139 (by decide) ?_
  refine fs_weak (ls2 := [.ref w, .ref a0, .ref 6, .int x3, fz_J]) (fz_le_e (fz_le_e (fz_le_e (fz_le_e (fz_le_j fz_le_n))))) ?_
  exact hK60 H
set_option maxRecDepth 100000 in
set_option maxHeartbeats 4000000 in
theorem V_nd_X10_develop_6_60 {g : fz_G} {l : Launch} {d : Nat} (hD : 1 ≤ d) {w : Nat} {a0 : Nat} {n0 : Nat} (hw : fz_at true w 10 7) (ha0 : fz_at true a0 14 n0) {K60 : Int32 → fz_s → Prop} {Q : fz_s → Prop} {v3 : Int32} {s : fz_s} (hK60 : ∀ {v3 : Int32} {s : fz_s}, K60 v3 s → fs_V g l m_X10_develop d true 60 [.ref w, .ref a0, .ref 6, .int v3, fz_J] [] s (rV Q)) (H : nd_X10_develop_6_60 w a0 n0 K60 Q v3 s) : fs_V g l m_X10_develop d true 60 [.ref w, .ref a0, .ref 6, .int v3, fz_J] [] s (rV Q) := by
  obtain ⟨d, rfl⟩ : ∃ e, d = e + 1 := ⟨d - 1, by omega⟩
  unfold nd_X10_develop_6_60 at H
  refine fs_iload_n (k0 := 3) (i := 3) dd_X10_develop_60 rfl rfl ?_
  refine fs_aload_n (k0 := 2) (i := 2) dd_X10_develop_61 rfl rfl ?_
  refine fs_geti (ci := 9) (j := 12) dd_X10_develop_62 fl_X10_55 ca_6 rfl (Or.inl rfl) ?_
  refine fs_icmp_ge (tgt := 142) dd_X10_develop_65 (by decide) (fun hc => ?_) (fun hc => ?_)
  · replace H := H.1 hc
    exact fs_vret dd_X10_develop_142 rfl H
  · replace H := H.2 hc
    refine fs_iconst (n := 2) (v := 2) dd_X10_develop_68 (by decide) ?_
    refine fs_iconst (n := 3) (v := 3) dd_X10_develop_69 (by decide) ?_
    refine fs_aload_n (k0 := 2) (i := 2) dd_X10_develop_70 rfl rfl ?_
    refine fs_geti (ci := 9) (j := 11) dd_X10_develop_71 fl_X10_52 ca_6 rfl (Or.inl rfl) ?_
    refine fs_imul dd_X10_develop_74 ?_
    refine fs_iadd dd_X10_develop_75 ?_
    refine fs_iconst (n := 3) (v := 3) dd_X10_develop_76 (by decide) ?_
    refine fs_iload_n (k0 := 3) (i := 3) dd_X10_develop_77 rfl rfl ?_
    refine fs_imul dd_X10_develop_78 ?_
    refine fs_iadd dd_X10_develop_79 ?_
    refine fs_topi (fun x1 hx1 => ?_)
    replace H := H x1 hx1
    refine fs_istore (i := 4) dd_X10_develop_80 (by decide) ?_
    refine fs_aload_n (k0 := 0) (i := 0) dd_X10_develop_82 rfl rfl ?_
    refine fs_getr (ci := 10) (j := 2) (q := (w + 1 + 2)) dd_X10_develop_83 fl_X10_18 hw rfl (Or.inr ⟨_, rfl⟩) ((fz_W hw).1 2 (by decide)) (fun q => (fz_W hw).2.2.2 q.1) ?_
    refine fs_iload_n (k0 := 3) (i := 3) dd_X10_develop_86 rfl rfl ?_
    refine fs_aload_n (k0 := 1) (i := 1) dd_X10_develop_87 rfl rfl ?_
    refine fs_iload (i := 4) dd_X10_develop_88 rfl ?_
    have hb := H.1
    replace H := H.2
    refine fs_iald dd_X10_develop_90 ha0 hb ?_
    have hb := H.1
    replace H := H.2
    refine fs_iast dd_X10_develop_91 ((fz_W hw).2.2.1 2 (by decide) (by decide)) hb ?_
    refine fs_tops (fun s2 hs2 => ?_)
    replace H := H s2 hs2
    refine fs_aload_n (k0 := 0) (i := 0) dd_X10_develop_92 rfl rfl ?_
    refine fs_getr (ci := 10) (j := 3) (q := (w + 1 + 3)) dd_X10_develop_93 fl_X10_21 hw rfl (Or.inr ⟨_, rfl⟩) ((fz_W hw).1 3 (by decide)) (fun q => (fz_W hw).2.2.2 q.1) ?_
    refine fs_iload_n (k0 := 3) (i := 3) dd_X10_develop_96 rfl rfl ?_
    refine fs_aload_n (k0 := 1) (i := 1) dd_X10_develop_97 rfl rfl ?_
    refine fs_iload (i := 4) dd_X10_develop_98 rfl ?_
    refine fs_iconst (n := 1) (v := 1) dd_X10_develop_100 (by decide) ?_
    refine fs_iadd dd_X10_develop_101 ?_
    have hb := H.1
    replace H := H.2
    refine fs_iald dd_X10_develop_102 ha0 hb ?_
    refine fs_if_ne (tgt := 115) dd_X10_develop_103 (by decide) (fun hc => ?_) (fun hc => ?_)
    · replace H := H.1 hc
      refine fs_iconst (n := 1) (v := 1) dd_X10_develop_115 (by decide) ?_
      refine fs_aload_n (k0 := 2) (i := 2) dd_X10_develop_116 rfl rfl ?_
      refine fs_getr (ci := 9) (j := 3) (q := 10) dd_X10_develop_117 fl_X10_45 ca_6 rfl (Or.inr ⟨_, rfl⟩) rfl (by decide) ?_
      refine fs_iload_n (k0 := 3) (i := 3) dd_X10_develop_120 rfl rfl ?_
      have hb := H.1
      replace H := H.2
      refine fs_iald dd_X10_develop_121 ca_10 hb ?_
      refine fs_isub dd_X10_develop_122 ?_
      refine fs_weak (ls2 := [.ref w, .ref a0, .ref 6, .int v3, .int x1]) (fz_le_e (fz_le_e (fz_le_e (fz_le_e (fz_le_e fz_le_n))))) ?_
      exact V_nd_X10_develop_6_123 hD  hw ha0 hK60 H
    · replace H := H.2 hc
      refine fs_aload_n (k0 := 2) (i := 2) dd_X10_develop_106 rfl rfl ?_
      refine fs_getr (ci := 9) (j := 3) (q := 10) dd_X10_develop_107 fl_X10_45 ca_6 rfl (Or.inr ⟨_, rfl⟩) rfl (by decide) ?_
      refine fs_iload_n (k0 := 3) (i := 3) dd_X10_develop_110 rfl rfl ?_
      have hb := H.1
      replace H := H.2
      refine fs_iald dd_X10_develop_111 ca_10 hb ?_
      refine fs_goto (tgt := 123) dd_X10_develop_112 (by decide) ?_
      refine fs_weak (ls2 := [.ref w, .ref a0, .ref 6, .int v3, .int x1]) (fz_le_e (fz_le_e (fz_le_e (fz_le_e (fz_le_e fz_le_n))))) ?_
      exact V_nd_X10_develop_6_123 hD  hw ha0 hK60 H
set_option maxRecDepth 100000 in
set_option maxHeartbeats 4000000 in
theorem V_lp_X10_develop_6_60 {g : fz_G} {l : Launch} {d : Nat} (hD : 1 ≤ d) {w : Nat} {a0 : Nat} {n0 : Nat} (hw : fz_at true w 10 7) (ha0 : fz_at true a0 14 n0)  {Q : fz_s → Prop}  (n : Nat) : ∀ {v3 : Int32} {s : fz_s}, lp_X10_develop_6_60 w a0 n0  Q n v3 s → fs_V g l m_X10_develop d true 60 [.ref w, .ref a0, .ref 6, .int v3, fz_J] [] s (rV Q) := by
  induction n with
  | zero => intro v3 s H; exact H.elim
  | succ n ih => intro v3 s H; exact V_nd_X10_develop_6_60 hD hw ha0 (fun H => ih H) H
set_option maxRecDepth 100000 in
set_option maxHeartbeats 4000000 in
theorem V_nd_X10_develop_6_16 {g : fz_G} {l : Launch} {d : Nat} (hD : 1 ≤ d) {w : Nat} {a0 : Nat} {n0 : Nat} (hw : fz_at true w 10 7) (ha0 : fz_at true a0 14 n0) {K16 : Int32 → fz_s → Prop} {Q : fz_s → Prop} {v3 : Int32} {s : fz_s} (hK16 : ∀ {v3 : Int32} {s : fz_s}, K16 v3 s → fs_V g l m_X10_develop d true 16 [.ref w, .ref a0, .ref 6, .int v3, fz_J] [] s (rV Q)) (H : nd_X10_develop_6_16 w a0 n0 K16 Q v3 s) : fs_V g l m_X10_develop d true 16 [.ref w, .ref a0, .ref 6, .int v3, fz_J] [] s (rV Q) := by
  obtain ⟨d, rfl⟩ : ∃ e, d = e + 1 := ⟨d - 1, by omega⟩
  unfold nd_X10_develop_6_16 at H
  refine fs_iload_n (k0 := 3) (i := 3) dd_X10_develop_16 rfl rfl ?_
  refine fs_aload_n (k0 := 2) (i := 2) dd_X10_develop_17 rfl rfl ?_
  refine fs_geti (ci := 9) (j := 11) dd_X10_develop_18 fl_X10_52 ca_6 rfl (Or.inl rfl) ?_
  refine fs_icmp_ge (tgt := 58) dd_X10_develop_21 (by decide) (fun hc => ?_) (fun hc => ?_)
  · replace H := H.1 hc
    refine fs_iconst (n := 0) (v := 0) dd_X10_develop_58 (by decide) ?_
    refine fs_istore_n (k0 := 3) (i := 3) dd_X10_develop_59 rfl (by decide) ?_
    refine fs_weak (ls2 := [.ref w, .ref a0, .ref 6, .int 0, fz_J]) (fz_le_e (fz_le_e (fz_le_e (fz_le_e (fz_le_j fz_le_n))))) ?_
    exact V_lp_X10_develop_6_60 hD  hw ha0  2048 H
  · replace H := H.2 hc
    refine fs_aload_n (k0 := 0) (i := 0) dd_X10_develop_24 rfl rfl ?_
    refine fs_getr (ci := 10) (j := 0) (q := (w + 1 + 0)) dd_X10_develop_25 fl_X10_9 hw rfl (Or.inr ⟨_, rfl⟩) ((fz_W hw).1 0 (by decide)) (fun q => (fz_W hw).2.2.2 q.1) ?_
    refine fs_iload_n (k0 := 3) (i := 3) dd_X10_develop_28 rfl rfl ?_
    refine fs_aload_n (k0 := 1) (i := 1) dd_X10_develop_29 rfl rfl ?_
    refine fs_iconst (n := 2) (v := 2) dd_X10_develop_30 (by decide) ?_
    refine fs_iconst (n := 3) (v := 3) dd_X10_develop_31 (by decide) ?_
    refine fs_iload_n (k0 := 3) (i := 3) dd_X10_develop_32 rfl rfl ?_
    refine fs_imul dd_X10_develop_33 ?_
    refine fs_iadd dd_X10_develop_34 ?_
    refine fs_callS (y := m_X11_pairAt) (as := [.ref a0, .int (2 + (3 * v3))]) dd_X10_develop_35 me_X11_pairAt (Or.inr ⟨_, ln_X10_48⟩) st_X11_pairAt rfl (Nat.le_of_ble_eq_true rfl) (Nat.le_of_ble_eq_true rfl) rfl (V_X11_pairAt (by omega) ha0 H) (k2_I fun r1 s2 H => ?_)
    have hb := H.1
    replace H := H.2
    refine fs_iast dd_X10_develop_38 ((fz_W hw).2.1 0 (by decide)) hb ?_
    refine fs_tops (fun s3 hs3 => ?_)
    replace H := H s3 hs3
    refine fs_aload_n (k0 := 0) (i := 0) dd_X10_develop_39 rfl rfl ?_
    refine fs_getr (ci := 10) (j := 1) (q := (w + 1 + 1)) dd_X10_develop_40 fl_X10_15 hw rfl (Or.inr ⟨_, rfl⟩) ((fz_W hw).1 1 (by decide)) (fun q => (fz_W hw).2.2.2 q.1) ?_
    refine fs_iload_n (k0 := 3) (i := 3) dd_X10_develop_43 rfl rfl ?_
    refine fs_aload_n (k0 := 1) (i := 1) dd_X10_develop_44 rfl rfl ?_
    refine fs_iconst (n := 4) (v := 4) dd_X10_develop_45 (by decide) ?_
    refine fs_iconst (n := 3) (v := 3) dd_X10_develop_46 (by decide) ?_
    refine fs_iload_n (k0 := 3) (i := 3) dd_X10_develop_47 rfl rfl ?_
    refine fs_imul dd_X10_develop_48 ?_
    refine fs_iadd dd_X10_develop_49 ?_
    have hb := H.1
    replace H := H.2
    refine fs_iald dd_X10_develop_50 ha0 hb ?_
    have hb := H.1
    replace H := H.2
    refine fs_iast dd_X10_develop_51 ((fz_W hw).2.1 1 (by decide)) hb ?_
    refine fs_tops (fun s4 hs4 => ?_)
    replace H := H s4 hs4
    refine fs_iincN (i := 3) (m := 1) (c := 1) dd_X10_develop_52 rfl (by decide) (by decide) (fun x5 hx5 => ?_)
    replace H := H x5 hx5
    refine fs_goto (tgt := 16) dd_X10_develop_55 (by decide) ?_
    refine fs_weak (ls2 := [.ref w, .ref a0, .ref 6, .int x5, fz_J]) (fz_le_e (fz_le_e (fz_le_e (fz_le_e (fz_le_j fz_le_n))))) ?_
    exact hK16 H
set_option maxRecDepth 100000 in
set_option maxHeartbeats 4000000 in
theorem V_lp_X10_develop_6_16 {g : fz_G} {l : Launch} {d : Nat} (hD : 1 ≤ d) {w : Nat} {a0 : Nat} {n0 : Nat} (hw : fz_at true w 10 7) (ha0 : fz_at true a0 14 n0)  {Q : fz_s → Prop}  (n : Nat) : ∀ {v3 : Int32} {s : fz_s}, lp_X10_develop_6_16 w a0 n0  Q n v3 s → fs_V g l m_X10_develop d true 16 [.ref w, .ref a0, .ref 6, .int v3, fz_J] [] s (rV Q) := by
  induction n with
  | zero => intro v3 s H; exact H.elim
  | succ n ih => intro v3 s H; exact V_nd_X10_develop_6_16 hD hw ha0 (fun H => ih H) H
set_option maxRecDepth 100000 in
set_option maxHeartbeats 4000000 in
theorem V_X10_develop_6 {g : fz_G} {l : Launch} {d : Nat} (hD : 1 ≤ d) {w : Nat} {a0 : Nat} {n0 : Nat} (hw : fz_at true w 10 7) (ha0 : fz_at true a0 14 n0) {s : fz_s} {Q : fz_s → Prop} (H : wp_X10_develop_6 w a0 n0 s Q) : fs_V g l m_X10_develop d true 0 (fz_en [.ref w, .ref a0, .ref 6] 5) [] s (rV Q) := by
  obtain ⟨d, rfl⟩ : ∃ e, d = e + 1 := ⟨d - 1, by omega⟩
  unfold wp_X10_develop_6 at H
  refine fs_aload_n (k0 := 0) (i := 0) dd_X10_develop_0 rfl rfl ?_
  refine fs_aload_n (k0 := 1) (i := 1) dd_X10_develop_1 rfl rfl ?_
  refine fs_iconst (n := 0) (v := 0) dd_X10_develop_2 (by decide) ?_
  refine fs_callS (y := m_X11_pairAt) (as := [.ref a0, .int 0]) dd_X10_develop_3 me_X11_pairAt (Or.inr ⟨_, ln_X10_48⟩) st_X11_pairAt rfl (Nat.le_of_ble_eq_true rfl) (Nat.le_of_ble_eq_true rfl) rfl (V_X11_pairAt (by omega) ha0 H) (k2_I fun r1 s2 H => ?_)
  refine fs_puti (ci := 10) (j := 5) dd_X10_develop_6 fl_X10_33 (fun _ _ _ h => by cases h; rfl) hw rfl (Or.inl rfl) ?_
  refine fs_tops (fun s3 hs3 => ?_)
  replace H := H s3 hs3
  refine fs_aload_n (k0 := 0) (i := 0) dd_X10_develop_9 rfl rfl ?_
  refine fs_iconst (n := 0) (v := 0) dd_X10_develop_10 (by decide) ?_
  refine fs_puti (ci := 10) (j := 6) dd_X10_develop_11 fl_X10_37 (fun _ _ _ h => by cases h; rfl) hw rfl (Or.inl rfl) ?_
  refine fs_tops (fun s4 hs4 => ?_)
  replace H := H s4 hs4
  refine fs_iconst (n := 0) (v := 0) dd_X10_develop_14 (by decide) ?_
  refine fs_istore_n (k0 := 3) (i := 3) dd_X10_develop_15 rfl (by decide) ?_
  refine fs_weak (ls2 := [.ref w, .ref a0, .ref 6, .int 0, fz_J]) (fz_le_e (fz_le_e (fz_le_e (fz_le_e (fz_le_j fz_le_n))))) ?_
  exact V_lp_X10_develop_6_16 hD  hw ha0  2048 H
theorem dd_X11_on_0 : decode m_X11_on.2.1 0 = .ok (.aload_n 0, 1) := by decide +kernel
theorem dd_X11_on_1 : decode m_X11_on.2.1 1 = .ok (.getfield 115, 3) := by decide +kernel
theorem dd_X11_on_4 : decode m_X11_on.2.1 4 = .ok (.istore_n 1, 1) := by decide +kernel
theorem dd_X11_on_5 : decode m_X11_on.2.1 5 = .ok (.aload_n 0, 1) := by decide +kernel
theorem dd_X11_on_6 : decode m_X11_on.2.1 6 = .ok (.iconst 0, 1) := by decide +kernel
theorem dd_X11_on_7 : decode m_X11_on.2.1 7 = .ok (.putfield 115, 3) := by decide +kernel
theorem dd_X11_on_10 : decode m_X11_on.2.1 10 = .ok (.aload_n 0, 1) := by decide +kernel
theorem dd_X11_on_11 : decode m_X11_on.2.1 11 = .ok (.invokevirtual 265, 3) := by decide +kernel
theorem dd_X11_on_14 : decode m_X11_on.2.1 14 = .ok (.ifCond .ne 11, 3) := by decide +kernel
theorem dd_X11_on_17 : decode m_X11_on.2.1 17 = .ok (.aload_n 0, 1) := by decide +kernel
theorem dd_X11_on_18 : decode m_X11_on.2.1 18 = .ok (.iload_n 1, 1) := by decide +kernel
theorem dd_X11_on_19 : decode m_X11_on.2.1 19 = .ok (.invokevirtual 371, 3) := by decide +kernel
theorem dd_X11_on_22 : decode m_X11_on.2.1 22 = .ok (.ifCond .ne 11, 3) := by decide +kernel
theorem dd_X11_on_25 : decode m_X11_on.2.1 25 = .ok (.aload_n 0, 1) := by decide +kernel
theorem dd_X11_on_26 : decode m_X11_on.2.1 26 = .ok (.iconst 5, 1) := by decide +kernel
theorem dd_X11_on_27 : decode m_X11_on.2.1 27 = .ok (.invokevirtual 118, 3) := by decide +kernel
theorem dd_X11_on_30 : decode m_X11_on.2.1 30 = .ok (.pop, 1) := by decide +kernel
theorem dd_X11_on_31 : decode m_X11_on.2.1 31 = .ok (.iconst 0, 1) := by decide +kernel
theorem dd_X11_on_32 : decode m_X11_on.2.1 32 = .ok (.ireturn, 1) := by decide +kernel
theorem dd_X11_on_33 : decode m_X11_on.2.1 33 = .ok (.aload_n 0, 1) := by decide +kernel
theorem dd_X11_on_34 : decode m_X11_on.2.1 34 = .ok (.getfield 63, 3) := by decide +kernel
theorem dd_X11_on_37 : decode m_X11_on.2.1 37 = .ok (.aload_n 0, 1) := by decide +kernel
theorem dd_X11_on_38 : decode m_X11_on.2.1 38 = .ok (.getfield 9, 3) := by decide +kernel
theorem dd_X11_on_41 : decode m_X11_on.2.1 41 = .ok (.aload_n 0, 1) := by decide +kernel
theorem dd_X11_on_42 : decode m_X11_on.2.1 42 = .ok (.getfield 34, 3) := by decide +kernel
theorem dd_X11_on_45 : decode m_X11_on.2.1 45 = .ok (.invokevirtual 374, 3) := by decide +kernel
theorem dd_X11_on_48 : decode m_X11_on.2.1 48 = .ok (.aload_n 0, 1) := by decide +kernel
theorem dd_X11_on_49 : decode m_X11_on.2.1 49 = .ok (.getfield 73, 3) := by decide +kernel
theorem dd_X11_on_52 : decode m_X11_on.2.1 52 = .ok (.invokevirtual 143, 3) := by decide +kernel
theorem dd_X11_on_55 : decode m_X11_on.2.1 55 = .ok (.iconst 1, 1) := by decide +kernel
theorem dd_X11_on_56 : decode m_X11_on.2.1 56 = .ok (.ireturn, 1) := by decide +kernel
def nd_X11_on_25   (Q : Bool → fz_s → Prop)  (s : fz_s) : Prop :=
  wp_X11_refuse 5 s (fun r1 s2 => Q false s2)
def wp_X11_on  (s : fz_s) (Q : Bool → fz_s → Prop) : Prop :=
  ∀ x1 : Int32, x1 = (s.1 2 1) → ∀ s2 : fz_s, s2 = si s 2 1 0 → wp_X11_noTreaty  s2 (fun r3 s4 => ((r3 = true → nd_X11_on_25   Q  s4) ∧ (r3 = false → wp_X11_isImage x1 s4 (fun r5 s6 => ((r5 = true → wp_X10_develop_6 35 3 1600 s6 (fun s8 => wp_X4_forget  s8 (fun s10 => Q true s10))) ∧ (r5 = false → nd_X11_on_25   Q  s6))))))
set_option maxRecDepth 100000 in
set_option maxHeartbeats 4000000 in
theorem V_nd_X11_on_25 {g : fz_G} {l : Launch} {d : Nat} (hD : 2 ≤ d)    {Q : Bool → fz_s → Prop}  {s : fz_s}  (H : nd_X11_on_25   Q  s) : fs_V g l m_X11_on d true 25 [.ref 2, fz_J] [] s (rZ Q) := by
  obtain ⟨d, rfl⟩ : ∃ e, d = e + 1 := ⟨d - 1, by omega⟩
  unfold nd_X11_on_25 at H
  refine fs_aload_n (k0 := 0) (i := 0) dd_X11_on_25 rfl rfl ?_
  refine fs_iconst (n := 5) (v := 5) dd_X11_on_26 (by decide) ?_
  refine fs_callV (y := m_X11_refuse) (as := [.int 5]) dd_X11_on_27 me_X11_refuse lk_X11_118 in_X11_refuse se_X11_refuse ca_2 rfl rfl rfl (Nat.le_of_ble_eq_true rfl) (Nat.le_of_ble_eq_true rfl) rfl (V_X11_refuse (by omega)  H) (k2_I fun r1 s2 H => ?_)
  refine fs_pop dd_X11_on_30 rfl ?_
  refine fs_iconst (n := 0) (v := 0) dd_X11_on_31 (by decide) ?_
  exact fs_zret false dd_X11_on_32 rfl rfl H
set_option maxRecDepth 100000 in
set_option maxHeartbeats 4000000 in
theorem V_X11_on {g : fz_G} {l : Launch} {d : Nat} (hD : 2 ≤ d)   {s : fz_s} {Q : Bool → fz_s → Prop} (H : wp_X11_on  s Q) : fs_V g l m_X11_on d true 0 (fz_en [.ref 2] 2) [] s (rZ Q) := by
  obtain ⟨d, rfl⟩ : ∃ e, d = e + 1 := ⟨d - 1, by omega⟩
  unfold wp_X11_on at H
  refine fs_aload_n (k0 := 0) (i := 0) dd_X11_on_0 rfl rfl ?_
  refine fs_geti (ci := 11) (j := 1) dd_X11_on_1 fl_X11_115 ca_2 rfl (Or.inl rfl) ?_
  refine fs_topi (fun x1 hx1 => ?_)
  replace H := H x1 hx1
  refine fs_istore_n (k0 := 1) (i := 1) dd_X11_on_4 rfl (by decide) ?_
  refine fs_aload_n (k0 := 0) (i := 0) dd_X11_on_5 rfl rfl ?_
  refine fs_iconst (n := 0) (v := 0) dd_X11_on_6 (by decide) ?_
  refine fs_puti (ci := 11) (j := 1) dd_X11_on_7 fl_X11_115 (fun _ _ _ h => by cases h; rfl) ca_2 rfl (Or.inl rfl) ?_
  refine fs_tops (fun s2 hs2 => ?_)
  replace H := H s2 hs2
  refine fs_aload_n (k0 := 0) (i := 0) dd_X11_on_10 rfl rfl ?_
  refine fs_callV (y := m_X11_noTreaty) (as := []) dd_X11_on_11 me_X11_noTreaty lk_X11_265 in_X11_noTreaty se_X11_noTreaty ca_2 rfl rfl rfl (Nat.le_of_ble_eq_true rfl) (Nat.le_of_ble_eq_true rfl) rfl (V_X11_noTreaty (by omega)  H) (k2_Z fun r3 s4 H => ?_)
  refine fs_if_ne (tgt := 25) dd_X11_on_14 (by decide) (fun hc => ?_) (fun hc => ?_)
  · replace H := H.1 (bi_1 hc)
    refine fs_weak (ls2 := [.ref 2, fz_J]) (fz_le_e (fz_le_j fz_le_n)) ?_
    exact V_nd_X11_on_25 hD    H
  · replace H := H.2 (bi_0 hc)
    refine fs_aload_n (k0 := 0) (i := 0) dd_X11_on_17 rfl rfl ?_
    refine fs_iload_n (k0 := 1) (i := 1) dd_X11_on_18 rfl rfl ?_
    refine fs_callV (y := m_X11_isImage) (as := [.int x1]) dd_X11_on_19 me_X11_isImage lk_X11_371 in_X11_isImage se_X11_isImage ca_2 rfl rfl rfl (Nat.le_of_ble_eq_true rfl) (Nat.le_of_ble_eq_true rfl) rfl (V_X11_isImage (by omega)  H) (k2_Z fun r5 s6 H => ?_)
    refine fs_if_ne (tgt := 33) dd_X11_on_22 (by decide) (fun hc => ?_) (fun hc => ?_)
    · replace H := H.1 (bi_1 hc)
      refine fs_aload_n (k0 := 0) (i := 0) dd_X11_on_33 rfl rfl ?_
      refine fs_getr (ci := 11) (j := 8) (q := 35) dd_X11_on_34 fl_X11_63 ca_2 rfl (Or.inl ⟨_, rfl⟩) rfl (by decide) ?_
      refine fs_aload_n (k0 := 0) (i := 0) dd_X11_on_37 rfl rfl ?_
      refine fs_getr (ci := 11) (j := 0) (q := 3) dd_X11_on_38 fl_X11_9 ca_2 rfl (Or.inr ⟨_, rfl⟩) rfl (by decide) ?_
      refine fs_aload_n (k0 := 0) (i := 0) dd_X11_on_41 rfl rfl ?_
      refine fs_getr (ci := 11) (j := 4) (q := 6) dd_X11_on_42 fl_X11_34 ca_2 rfl (Or.inl ⟨_, rfl⟩) rfl (by decide) ?_
      refine fs_callV (y := m_X10_develop) (as := [.ref 3, .ref 6]) dd_X11_on_45 me_X10_develop lk_X11_374 in_X10_develop se_X10_develop ca_35 rfl rfl rfl (Nat.le_of_ble_eq_true rfl) (Nat.le_of_ble_eq_true rfl) rfl (V_X10_develop_6 (by omega) ca_35 ca_3 H) (k2_V fun s8 H => ?_)
      refine fs_aload_n (k0 := 0) (i := 0) dd_X11_on_48 rfl rfl ?_
      refine fs_getr (ci := 11) (j := 10) (q := 47) dd_X11_on_49 fl_X11_73 ca_2 rfl (Or.inl ⟨_, rfl⟩) rfl (by decide) ?_
      refine fs_callV (y := m_X4_forget) (as := []) dd_X11_on_52 me_X4_forget lk_X11_143 in_X4_forget se_X4_forget ca_47 rfl rfl rfl (Nat.le_of_ble_eq_true rfl) (Nat.le_of_ble_eq_true rfl) rfl (V_X4_forget (by omega)  H) (k2_V fun s10 H => ?_)
      refine fs_iconst (n := 1) (v := 1) dd_X11_on_55 (by decide) ?_
      exact fs_zret true dd_X11_on_56 rfl rfl H
    · replace H := H.2 (bi_0 hc)
      refine fs_weak (ls2 := [.ref 2, fz_J]) (fz_le_e (fz_le_j fz_le_n)) ?_
      exact V_nd_X11_on_25 hD    H
theorem dd_X11_status_0 : decode m_X11_status.2.1 0 = .ok (.iload_n 1, 1) := by decide +kernel
theorem dd_X11_status_1 : decode m_X11_status.2.1 1 = .ok (.ifCond .lt 9, 3) := by decide +kernel
theorem dd_X11_status_4 : decode m_X11_status.2.1 4 = .ok (.iload_n 1, 1) := by decide +kernel
theorem dd_X11_status_5 : decode m_X11_status.2.1 5 = .ok (.bipush 6, 2) := by decide +kernel
theorem dd_X11_status_7 : decode m_X11_status.2.1 7 = .ok (.if_icmp .lt 7, 3) := by decide +kernel
theorem dd_X11_status_10 : decode m_X11_status.2.1 10 = .ok (.iconst (-1), 1) := by decide +kernel
theorem dd_X11_status_11 : decode m_X11_status.2.1 11 = .ok (.goto 9, 3) := by decide +kernel
theorem dd_X11_status_14 : decode m_X11_status.2.1 14 = .ok (.aload_n 0, 1) := by decide +kernel
theorem dd_X11_status_15 : decode m_X11_status.2.1 15 = .ok (.getfield 105, 3) := by decide +kernel
theorem dd_X11_status_18 : decode m_X11_status.2.1 18 = .ok (.iload_n 1, 1) := by decide +kernel
theorem dd_X11_status_19 : decode m_X11_status.2.1 19 = .ok (.iaload, 1) := by decide +kernel
theorem dd_X11_status_20 : decode m_X11_status.2.1 20 = .ok (.ireturn, 1) := by decide +kernel
def wp_X11_status (p0 : Int32) (s : fz_s) (Q : Int32 → fz_s → Prop) : Prop :=
  ((p0 < 0 → Q (-1) s) ∧ (¬ p0 < 0 → ((p0 < 6 → vp_in p0 6 ∧ Q (s.1 195 p0.toNatClampNeg) s) ∧ (¬ p0 < 6 → Q (-1) s))))
set_option maxRecDepth 100000 in
set_option maxHeartbeats 4000000 in
theorem V_X11_status {g : fz_G} {l : Launch} {d : Nat} (hD : 0 ≤ d) {p0 : Int32}  {s : fz_s} {Q : Int32 → fz_s → Prop} (H : wp_X11_status p0 s Q) : fs_V g l m_X11_status d true 0 (fz_en [.ref 2, .int p0] 2) [] s (rI Q) := by
  unfold wp_X11_status at H
  refine fs_iload_n (k0 := 1) (i := 1) dd_X11_status_0 rfl rfl ?_
  refine fs_if_lt (tgt := 10) dd_X11_status_1 (by decide) (fun hc => ?_) (fun hc => ?_)
  · replace H := H.1 hc
    refine fs_iconst (n := -1) (v := -1) dd_X11_status_10 (by decide) ?_
    refine fs_goto (tgt := 20) dd_X11_status_11 (by decide) ?_
    exact fs_iret dd_X11_status_20 rfl H
  · replace H := H.2 hc
    refine fs_iload_n (k0 := 1) (i := 1) dd_X11_status_4 rfl rfl ?_
    refine fs_bipush (n := 6) (v := 6) dd_X11_status_5 (by decide) ?_
    refine fs_icmp_lt (tgt := 14) dd_X11_status_7 (by decide) (fun hc => ?_) (fun hc => ?_)
    · replace H := H.1 hc
      refine fs_aload_n (k0 := 0) (i := 0) dd_X11_status_14 rfl rfl ?_
      refine fs_getr (ci := 11) (j := 16) (q := 195) dd_X11_status_15 fl_X11_105 ca_2 rfl (Or.inr ⟨_, rfl⟩) rfl (by decide) ?_
      refine fs_iload_n (k0 := 1) (i := 1) dd_X11_status_18 rfl rfl ?_
      have hb := H.1
      replace H := H.2
      refine fs_iald dd_X11_status_19 ca_195 hb ?_
      exact fs_iret dd_X11_status_20 rfl H
    · replace H := H.2 hc
      refine fs_iconst (n := -1) (v := -1) dd_X11_status_10 (by decide) ?_
      refine fs_goto (tgt := 20) dd_X11_status_11 (by decide) ?_
      exact fs_iret dd_X11_status_20 rfl H
theorem dd_X12_isIn_0 : decode m_X12_isIn.2.1 0 = .ok (.lload_n 0, 1) := by decide +kernel
theorem dd_X12_isIn_1 : decode m_X12_isIn.2.1 1 = .ok (.lload_n 2, 1) := by decide +kernel
theorem dd_X12_isIn_2 : decode m_X12_isIn.2.1 2 = .ok (.lcmp, 1) := by decide +kernel
theorem dd_X12_isIn_3 : decode m_X12_isIn.2.1 3 = .ok (.ifCond .lt 14, 3) := by decide +kernel
theorem dd_X12_isIn_6 : decode m_X12_isIn.2.1 6 = .ok (.lload_n 0, 1) := by decide +kernel
theorem dd_X12_isIn_7 : decode m_X12_isIn.2.1 7 = .ok (.lload 4, 2) := by decide +kernel
theorem dd_X12_isIn_9 : decode m_X12_isIn.2.1 9 = .ok (.lcmp, 1) := by decide +kernel
theorem dd_X12_isIn_10 : decode m_X12_isIn.2.1 10 = .ok (.ifCond .gt 7, 3) := by decide +kernel
theorem dd_X12_isIn_13 : decode m_X12_isIn.2.1 13 = .ok (.iconst 1, 1) := by decide +kernel
theorem dd_X12_isIn_14 : decode m_X12_isIn.2.1 14 = .ok (.goto 4, 3) := by decide +kernel
theorem dd_X12_isIn_17 : decode m_X12_isIn.2.1 17 = .ok (.iconst 0, 1) := by decide +kernel
theorem dd_X12_isIn_18 : decode m_X12_isIn.2.1 18 = .ok (.ireturn, 1) := by decide +kernel
def wp_X12_isIn (p0 : Int64) (p1 : Int64) (p2 : Int64) (s : fz_s) (Q : Bool → fz_s → Prop) : Prop :=
  (((lg_cmp p0 p1) < 0 → Q false s) ∧ (¬ (lg_cmp p0 p1) < 0 → ((0 < (lg_cmp p0 p2) → Q false s) ∧ (¬ 0 < (lg_cmp p0 p2) → Q true s))))
set_option maxRecDepth 100000 in
set_option maxHeartbeats 4000000 in
theorem V_X12_isIn {g : fz_G} {l : Launch} {d : Nat} (hD : 0 ≤ d) {p0 : Int64} {p1 : Int64} {p2 : Int64}  {s : fz_s} {Q : Bool → fz_s → Prop} (H : wp_X12_isIn p0 p1 p2 s Q) : fs_V g l m_X12_isIn d false 0 (fz_en [.long p0, .long p1, .long p2] 6) [] s (rZ Q) := by
  unfold wp_X12_isIn at H
  refine fs_lload_n (k0 := 0) (i := 0) dd_X12_isIn_0 rfl rfl ?_
  refine fs_lload_n (k0 := 2) (i := 2) dd_X12_isIn_1 rfl rfl ?_
  refine fs_lcmp dd_X12_isIn_2 ?_
  refine fs_if_lt (tgt := 17) dd_X12_isIn_3 (by decide) (fun hc => ?_) (fun hc => ?_)
  · replace H := H.1 hc
    refine fs_iconst (n := 0) (v := 0) dd_X12_isIn_17 (by decide) ?_
    exact fs_zret false dd_X12_isIn_18 rfl rfl H
  · replace H := H.2 hc
    refine fs_lload_n (k0 := 0) (i := 0) dd_X12_isIn_6 rfl rfl ?_
    refine fs_lload (i := 4) dd_X12_isIn_7 rfl ?_
    refine fs_lcmp dd_X12_isIn_9 ?_
    refine fs_if_gt (tgt := 17) dd_X12_isIn_10 (by decide) (fun hc => ?_) (fun hc => ?_)
    · replace H := H.1 hc
      refine fs_iconst (n := 0) (v := 0) dd_X12_isIn_17 (by decide) ?_
      exact fs_zret false dd_X12_isIn_18 rfl rfl H
    · replace H := H.2 hc
      refine fs_iconst (n := 1) (v := 1) dd_X12_isIn_13 (by decide) ?_
      refine fs_goto (tgt := 18) dd_X12_isIn_14 (by decide) ?_
      exact fs_zret true dd_X12_isIn_18 rfl rfl H
theorem dd_X12_cut_0 : decode m_X12_cut.2.1 0 = .ok (.lload_n 0, 1) := by decide +kernel
theorem dd_X12_cut_1 : decode m_X12_cut.2.1 1 = .ok (.lconst 0, 1) := by decide +kernel
theorem dd_X12_cut_2 : decode m_X12_cut.2.1 2 = .ok (.lcmp, 1) := by decide +kernel
theorem dd_X12_cut_3 : decode m_X12_cut.2.1 3 = .ok (.ifCond .ge 7, 3) := by decide +kernel
theorem dd_X12_cut_6 : decode m_X12_cut.2.1 6 = .ok (.iconst 0, 1) := by decide +kernel
theorem dd_X12_cut_7 : decode m_X12_cut.2.1 7 = .ok (.goto 16, 3) := by decide +kernel
theorem dd_X12_cut_10 : decode m_X12_cut.2.1 10 = .ok (.lload_n 0, 1) := by decide +kernel
theorem dd_X12_cut_11 : decode m_X12_cut.2.1 11 = .ok (.iload_n 2, 1) := by decide +kernel
theorem dd_X12_cut_12 : decode m_X12_cut.2.1 12 = .ok (.i2l, 1) := by decide +kernel
theorem dd_X12_cut_13 : decode m_X12_cut.2.1 13 = .ok (.lcmp, 1) := by decide +kernel
theorem dd_X12_cut_14 : decode m_X12_cut.2.1 14 = .ok (.ifCond .le 7, 3) := by decide +kernel
theorem dd_X12_cut_17 : decode m_X12_cut.2.1 17 = .ok (.iload_n 2, 1) := by decide +kernel
theorem dd_X12_cut_18 : decode m_X12_cut.2.1 18 = .ok (.goto 5, 3) := by decide +kernel
theorem dd_X12_cut_21 : decode m_X12_cut.2.1 21 = .ok (.lload_n 0, 1) := by decide +kernel
theorem dd_X12_cut_22 : decode m_X12_cut.2.1 22 = .ok (.l2i, 1) := by decide +kernel
theorem dd_X12_cut_23 : decode m_X12_cut.2.1 23 = .ok (.ireturn, 1) := by decide +kernel
def wp_X12_cut (p0 : Int64) (p1 : Int32) (s : fz_s) (Q : Int32 → fz_s → Prop) : Prop :=
  ((0 ≤ (lg_cmp p0 0) → (((lg_cmp p0 p1.toInt64) ≤ 0 → Q p0.toInt32 s) ∧ (¬ (lg_cmp p0 p1.toInt64) ≤ 0 → Q p1 s))) ∧ (¬ 0 ≤ (lg_cmp p0 0) → Q 0 s))
set_option maxRecDepth 100000 in
set_option maxHeartbeats 4000000 in
theorem V_X12_cut {g : fz_G} {l : Launch} {d : Nat} (hD : 0 ≤ d) {p0 : Int64} {p1 : Int32}  {s : fz_s} {Q : Int32 → fz_s → Prop} (H : wp_X12_cut p0 p1 s Q) : fs_V g l m_X12_cut d false 0 (fz_en [.long p0, .int p1] 3) [] s (rI Q) := by
  unfold wp_X12_cut at H
  refine fs_lload_n (k0 := 0) (i := 0) dd_X12_cut_0 rfl rfl ?_
  refine fs_lconst (n := 0) (v := 0) dd_X12_cut_1 (by decide) ?_
  refine fs_lcmp dd_X12_cut_2 ?_
  refine fs_if_ge (tgt := 10) dd_X12_cut_3 (by decide) (fun hc => ?_) (fun hc => ?_)
  · replace H := H.1 hc
    refine fs_lload_n (k0 := 0) (i := 0) dd_X12_cut_10 rfl rfl ?_
    refine fs_iload_n (k0 := 2) (i := 2) dd_X12_cut_11 rfl rfl ?_
    refine fs_i2l dd_X12_cut_12 ?_
    refine fs_lcmp dd_X12_cut_13 ?_
    refine fs_if_le (tgt := 21) dd_X12_cut_14 (by decide) (fun hc => ?_) (fun hc => ?_)
    · replace H := H.1 hc
      refine fs_lload_n (k0 := 0) (i := 0) dd_X12_cut_21 rfl rfl ?_
      refine fs_l2i dd_X12_cut_22 ?_
      exact fs_iret dd_X12_cut_23 rfl H
    · replace H := H.2 hc
      refine fs_iload_n (k0 := 2) (i := 2) dd_X12_cut_17 rfl rfl ?_
      refine fs_goto (tgt := 23) dd_X12_cut_18 (by decide) ?_
      exact fs_iret dd_X12_cut_23 rfl H
  · replace H := H.2 hc
    refine fs_iconst (n := 0) (v := 0) dd_X12_cut_6 (by decide) ?_
    refine fs_goto (tgt := 23) dd_X12_cut_7 (by decide) ?_
    exact fs_iret dd_X12_cut_23 rfl H
theorem dd_X12_feed_0 : decode m_X12_feed.2.1 0 = .ok (.aload_n 0, 1) := by decide +kernel
theorem dd_X12_feed_1 : decode m_X12_feed.2.1 1 = .ok (.getfield 249, 3) := by decide +kernel
theorem dd_X12_feed_4 : decode m_X12_feed.2.1 4 = .ok (.bipush 20, 2) := by decide +kernel
theorem dd_X12_feed_6 : decode m_X12_feed.2.1 6 = .ok (.iadd, 1) := by decide +kernel
theorem dd_X12_feed_7 : decode m_X12_feed.2.1 7 = .ok (.sipush 1600, 3) := by decide +kernel
theorem dd_X12_feed_10 : decode m_X12_feed.2.1 10 = .ok (.if_icmp .le 15, 3) := by decide +kernel
theorem dd_X12_feed_13 : decode m_X12_feed.2.1 13 = .ok (.aload_n 0, 1) := by decide +kernel
theorem dd_X12_feed_14 : decode m_X12_feed.2.1 14 = .ok (.getfield 17, 3) := by decide +kernel
theorem dd_X12_feed_17 : decode m_X12_feed.2.1 17 = .ok (.iconst 0, 1) := by decide +kernel
theorem dd_X12_feed_18 : decode m_X12_feed.2.1 18 = .ok (.dup2, 1) := by decide +kernel
theorem dd_X12_feed_19 : decode m_X12_feed.2.1 19 = .ok (.iaload, 1) := by decide +kernel
theorem dd_X12_feed_20 : decode m_X12_feed.2.1 20 = .ok (.iconst 1, 1) := by decide +kernel
theorem dd_X12_feed_21 : decode m_X12_feed.2.1 21 = .ok (.iadd, 1) := by decide +kernel
theorem dd_X12_feed_22 : decode m_X12_feed.2.1 22 = .ok (.iastore, 1) := by decide +kernel
theorem dd_X12_feed_23 : decode m_X12_feed.2.1 23 = .ok (.iconst (-1), 1) := by decide +kernel
theorem dd_X12_feed_24 : decode m_X12_feed.2.1 24 = .ok (.ireturn, 1) := by decide +kernel
theorem dd_X12_feed_25 : decode m_X12_feed.2.1 25 = .ok (.iconst 0, 1) := by decide +kernel
theorem dd_X12_feed_26 : decode m_X12_feed.2.1 26 = .ok (.istore 6, 2) := by decide +kernel
theorem dd_X12_feed_28 : decode m_X12_feed.2.1 28 = .ok (.iload 6, 2) := by decide +kernel
theorem dd_X12_feed_30 : decode m_X12_feed.2.1 30 = .ok (.bipush 20, 2) := by decide +kernel
theorem dd_X12_feed_32 : decode m_X12_feed.2.1 32 = .ok (.if_icmp .ge 92, 3) := by decide +kernel
theorem dd_X12_feed_35 : decode m_X12_feed.2.1 35 = .ok (.iload 6, 2) := by decide +kernel
theorem dd_X12_feed_37 : decode m_X12_feed.2.1 37 = .ok (.iconst 4, 1) := by decide +kernel
theorem dd_X12_feed_38 : decode m_X12_feed.2.1 38 = .ok (.if_icmp .ge 7, 3) := by decide +kernel
theorem dd_X12_feed_41 : decode m_X12_feed.2.1 41 = .ok (.iload_n 1, 1) := by decide +kernel
theorem dd_X12_feed_42 : decode m_X12_feed.2.1 42 = .ok (.goto 39, 3) := by decide +kernel
theorem dd_X12_feed_45 : decode m_X12_feed.2.1 45 = .ok (.iload 6, 2) := by decide +kernel
theorem dd_X12_feed_47 : decode m_X12_feed.2.1 47 = .ok (.bipush 8, 2) := by decide +kernel
theorem dd_X12_feed_49 : decode m_X12_feed.2.1 49 = .ok (.if_icmp .ge 7, 3) := by decide +kernel
theorem dd_X12_feed_52 : decode m_X12_feed.2.1 52 = .ok (.iload_n 2, 1) := by decide +kernel
theorem dd_X12_feed_53 : decode m_X12_feed.2.1 53 = .ok (.goto 28, 3) := by decide +kernel
theorem dd_X12_feed_56 : decode m_X12_feed.2.1 56 = .ok (.iload 6, 2) := by decide +kernel
theorem dd_X12_feed_58 : decode m_X12_feed.2.1 58 = .ok (.bipush 12, 2) := by decide +kernel
theorem dd_X12_feed_60 : decode m_X12_feed.2.1 60 = .ok (.if_icmp .ge 7, 3) := by decide +kernel
theorem dd_X12_feed_63 : decode m_X12_feed.2.1 63 = .ok (.iload_n 3, 1) := by decide +kernel
theorem dd_X12_feed_64 : decode m_X12_feed.2.1 64 = .ok (.goto 17, 3) := by decide +kernel
theorem dd_X12_feed_67 : decode m_X12_feed.2.1 67 = .ok (.iload 6, 2) := by decide +kernel
theorem dd_X12_feed_69 : decode m_X12_feed.2.1 69 = .ok (.bipush 16, 2) := by decide +kernel
theorem dd_X12_feed_71 : decode m_X12_feed.2.1 71 = .ok (.if_icmp .ge 8, 3) := by decide +kernel
theorem dd_X12_feed_74 : decode m_X12_feed.2.1 74 = .ok (.iload 4, 2) := by decide +kernel
theorem dd_X12_feed_76 : decode m_X12_feed.2.1 76 = .ok (.goto 5, 3) := by decide +kernel
theorem dd_X12_feed_79 : decode m_X12_feed.2.1 79 = .ok (.iload 5, 2) := by decide +kernel
theorem dd_X12_feed_81 : decode m_X12_feed.2.1 81 = .ok (.istore 7, 2) := by decide +kernel
theorem dd_X12_feed_83 : decode m_X12_feed.2.1 83 = .ok (.aload_n 0, 1) := by decide +kernel
theorem dd_X12_feed_84 : decode m_X12_feed.2.1 84 = .ok (.getfield 7, 3) := by decide +kernel
theorem dd_X12_feed_87 : decode m_X12_feed.2.1 87 = .ok (.aload_n 0, 1) := by decide +kernel
theorem dd_X12_feed_88 : decode m_X12_feed.2.1 88 = .ok (.getfield 249, 3) := by decide +kernel
theorem dd_X12_feed_91 : decode m_X12_feed.2.1 91 = .ok (.iload 7, 2) := by decide +kernel
theorem dd_X12_feed_93 : decode m_X12_feed.2.1 93 = .ok (.bipush 8, 2) := by decide +kernel
theorem dd_X12_feed_95 : decode m_X12_feed.2.1 95 = .ok (.iconst 3, 1) := by decide +kernel
theorem dd_X12_feed_96 : decode m_X12_feed.2.1 96 = .ok (.iload 6, 2) := by decide +kernel
theorem dd_X12_feed_98 : decode m_X12_feed.2.1 98 = .ok (.iconst 4, 1) := by decide +kernel
theorem dd_X12_feed_99 : decode m_X12_feed.2.1 99 = .ok (.irem, 1) := by decide +kernel
theorem dd_X12_feed_100 : decode m_X12_feed.2.1 100 = .ok (.isub, 1) := by decide +kernel
theorem dd_X12_feed_101 : decode m_X12_feed.2.1 101 = .ok (.imul, 1) := by decide +kernel
theorem dd_X12_feed_102 : decode m_X12_feed.2.1 102 = .ok (.ishr, 1) := by decide +kernel
theorem dd_X12_feed_103 : decode m_X12_feed.2.1 103 = .ok (.sipush 255, 3) := by decide +kernel
theorem dd_X12_feed_106 : decode m_X12_feed.2.1 106 = .ok (.iand, 1) := by decide +kernel
theorem dd_X12_feed_107 : decode m_X12_feed.2.1 107 = .ok (.iastore, 1) := by decide +kernel
theorem dd_X12_feed_108 : decode m_X12_feed.2.1 108 = .ok (.aload_n 0, 1) := by decide +kernel
theorem dd_X12_feed_109 : decode m_X12_feed.2.1 109 = .ok (.dup, 1) := by decide +kernel
theorem dd_X12_feed_110 : decode m_X12_feed.2.1 110 = .ok (.getfield 249, 3) := by decide +kernel
theorem dd_X12_feed_113 : decode m_X12_feed.2.1 113 = .ok (.iconst 1, 1) := by decide +kernel
theorem dd_X12_feed_114 : decode m_X12_feed.2.1 114 = .ok (.iadd, 1) := by decide +kernel
theorem dd_X12_feed_115 : decode m_X12_feed.2.1 115 = .ok (.putfield 249, 3) := by decide +kernel
theorem dd_X12_feed_118 : decode m_X12_feed.2.1 118 = .ok (.iinc 6 1, 3) := by decide +kernel
theorem dd_X12_feed_121 : decode m_X12_feed.2.1 121 = .ok (.goto (-93), 3) := by decide +kernel
theorem dd_X12_feed_124 : decode m_X12_feed.2.1 124 = .ok (.aload_n 0, 1) := by decide +kernel
theorem dd_X12_feed_125 : decode m_X12_feed.2.1 125 = .ok (.getfield 249, 3) := by decide +kernel
theorem dd_X12_feed_128 : decode m_X12_feed.2.1 128 = .ok (.ireturn, 1) := by decide +kernel
def nd_X12_feed_81  (K28 : Int32 → Int32 → Int32 → Int32 → Int32 → Int32 → fz_s → Prop) (Q : Int32 → fz_s → Prop) (v1 : Int32) (v2 : Int32) (v3 : Int32) (v4 : Int32) (v5 : Int32) (v6 : Int32) (u0 : Int32) (s : fz_s) : Prop :=
  vp_in (s.1 196 1) 1600 ∧ ∀ s1 : fz_s, s1 = si s 197 (s.1 196 1).toNatClampNeg ((u0 >>> ((8 * (3 - (v6 - v6 / 4 * 4))) &&& 31)) &&& 255) → ∀ s2 : fz_s, s2 = si s1 196 1 ((s1.1 196 1) + 1) → ∀ x3 : Int32, x3 = v6 + 1 → K28 v1 v2 v3 v4 v5 x3 s2
def nd_X12_feed_28  (K28 : Int32 → Int32 → Int32 → Int32 → Int32 → Int32 → fz_s → Prop) (Q : Int32 → fz_s → Prop) (v1 : Int32) (v2 : Int32) (v3 : Int32) (v4 : Int32) (v5 : Int32) (v6 : Int32) (s : fz_s) : Prop :=
  ((20 ≤ v6 → Q (s.1 196 1) s) ∧ (¬ 20 ≤ v6 → ((4 ≤ v6 → ((8 ≤ v6 → ((12 ≤ v6 → ((16 ≤ v6 → nd_X12_feed_81  K28 Q v1 v2 v3 v4 v5 v6 v5 s) ∧ (¬ 16 ≤ v6 → nd_X12_feed_81  K28 Q v1 v2 v3 v4 v5 v6 v4 s))) ∧ (¬ 12 ≤ v6 → nd_X12_feed_81  K28 Q v1 v2 v3 v4 v5 v6 v3 s))) ∧ (¬ 8 ≤ v6 → nd_X12_feed_81  K28 Q v1 v2 v3 v4 v5 v6 v2 s))) ∧ (¬ 4 ≤ v6 → nd_X12_feed_81  K28 Q v1 v2 v3 v4 v5 v6 v1 s))))
def lp_X12_feed_28   (Q : Int32 → fz_s → Prop) : Nat → Int32 → Int32 → Int32 → Int32 → Int32 → Int32 → fz_s → Prop
  | 0 => fun _ _ _ _ _ _ _ => False
  | n + 1 => nd_X12_feed_28  (lp_X12_feed_28   Q n) Q
def wp_X12_feed (p0 : Int32) (p1 : Int32) (p2 : Int32) (p3 : Int32) (p4 : Int32) (s : fz_s) (Q : Int32 → fz_s → Prop) : Prop :=
  ((((s.1 196 1) + 20) ≤ 1600 → lp_X12_feed_28   Q 2048 p0 p1 p2 p3 p4 0 s) ∧ (¬ ((s.1 196 1) + 20) ≤ 1600 → ∀ s1 : fz_s, s1 = si s 198 (0 : Int32).toNatClampNeg ((s.1 198 (0 : Int32).toNatClampNeg) + 1) → Q (-1) s1))
set_option maxRecDepth 100000 in
set_option maxHeartbeats 4000000 in
theorem V_nd_X12_feed_81 {g : fz_G} {l : Launch} {d : Nat} (hD : 0 ≤ d)   {K28 : Int32 → Int32 → Int32 → Int32 → Int32 → Int32 → fz_s → Prop} {Q : Int32 → fz_s → Prop} {v1 : Int32} {v2 : Int32} {v3 : Int32} {v4 : Int32} {v5 : Int32} {v6 : Int32} {u0 : Int32} {s : fz_s} (hK28 : ∀ {v1 : Int32} {v2 : Int32} {v3 : Int32} {v4 : Int32} {v5 : Int32} {v6 : Int32} {s : fz_s}, K28 v1 v2 v3 v4 v5 v6 s → fs_V g l m_X12_feed d false 28 [.ref 196, .int v1, .int v2, .int v3, .int v4, .int v5, .int v6, fz_J] [] s (rI Q)) (H : nd_X12_feed_81  K28 Q v1 v2 v3 v4 v5 v6 u0 s) : fs_V g l m_X12_feed d false 81 [.ref 196, .int v1, .int v2, .int v3, .int v4, .int v5, .int v6, fz_J] [.int u0] s (rI Q) := by
  unfold nd_X12_feed_81 at H
  refine fs_istore (i := 7) dd_X12_feed_81 (by decide) ?_
  refine fs_aload_n (k0 := 0) (i := 0) dd_X12_feed_83 rfl rfl ?_
  refine fs_getr (ci := 12) (j := 0) (q := 197) dd_X12_feed_84 fl_X12_7 ca_196 rfl (Or.inr ⟨_, rfl⟩) rfl (by decide) ?_
  refine fs_aload_n (k0 := 0) (i := 0) dd_X12_feed_87 rfl rfl ?_
  refine fs_geti (ci := 12) (j := 1) dd_X12_feed_88 fl_X12_249 ca_196 rfl (Or.inl rfl) ?_
  refine fs_iload (i := 7) dd_X12_feed_91 rfl ?_
  refine fs_bipush (n := 8) (v := 8) dd_X12_feed_93 (by decide) ?_
  refine fs_iconst (n := 3) (v := 3) dd_X12_feed_95 (by decide) ?_
  refine fs_iload (i := 6) dd_X12_feed_96 rfl ?_
  refine fs_iconst (n := 4) (v := 4) dd_X12_feed_98 (by decide) ?_
  refine fs_irem dd_X12_feed_99 (by decide) ?_
  refine fs_isub dd_X12_feed_100 ?_
  refine fs_imul dd_X12_feed_101 ?_
  refine fs_ishr dd_X12_feed_102 ?_
  refine fs_sipush (n := 255) (v := 255) dd_X12_feed_103 (by decide) ?_
  refine fs_iand dd_X12_feed_106 ?_
  have hb := H.1
  replace H := H.2
  refine fs_iast dd_X12_feed_107 ca_197 hb ?_
  refine fs_tops (fun s1 hs1 => ?_)
  replace H := H s1 hs1
  refine fs_aload_n (k0 := 0) (i := 0) dd_X12_feed_108 rfl rfl ?_
  refine fs_dup dd_X12_feed_109 rfl ?_
  refine fs_geti (ci := 12) (j := 1) dd_X12_feed_110 fl_X12_249 ca_196 rfl (Or.inl rfl) ?_
  refine fs_iconst (n := 1) (v := 1) dd_X12_feed_113 (by decide) ?_
  refine fs_iadd dd_X12_feed_114 ?_
  refine fs_puti (ci := 12) (j := 1) dd_X12_feed_115 fl_X12_249 (fun _ _ _ h => by cases h; rfl) ca_196 rfl (Or.inl rfl) ?_
  refine fs_tops (fun s2 hs2 => ?_)
  replace H := H s2 hs2
  refine fs_iincN (i := 6) (m := 1) (c := 1) dd_X12_feed_118 rfl (by decide) (by decide) (fun x3 hx3 => ?_)
  replace H := H x3 hx3
  refine fs_goto (tgt := 28) dd_X12_feed_121 (by decide) ?_
  refine fs_weak (ls2 := [.ref 196, .int v1, .int v2, .int v3, .int v4, .int v5, .int x3, fz_J]) (fz_le_e (fz_le_e (fz_le_e (fz_le_e (fz_le_e (fz_le_e (fz_le_e (fz_le_j fz_le_n)))))))) ?_
  exact hK28 H
set_option maxRecDepth 100000 in
set_option maxHeartbeats 4000000 in
theorem V_nd_X12_feed_28 {g : fz_G} {l : Launch} {d : Nat} (hD : 0 ≤ d)   {K28 : Int32 → Int32 → Int32 → Int32 → Int32 → Int32 → fz_s → Prop} {Q : Int32 → fz_s → Prop} {v1 : Int32} {v2 : Int32} {v3 : Int32} {v4 : Int32} {v5 : Int32} {v6 : Int32} {s : fz_s} (hK28 : ∀ {v1 : Int32} {v2 : Int32} {v3 : Int32} {v4 : Int32} {v5 : Int32} {v6 : Int32} {s : fz_s}, K28 v1 v2 v3 v4 v5 v6 s → fs_V g l m_X12_feed d false 28 [.ref 196, .int v1, .int v2, .int v3, .int v4, .int v5, .int v6, fz_J] [] s (rI Q)) (H : nd_X12_feed_28  K28 Q v1 v2 v3 v4 v5 v6 s) : fs_V g l m_X12_feed d false 28 [.ref 196, .int v1, .int v2, .int v3, .int v4, .int v5, .int v6, fz_J] [] s (rI Q) := by
  unfold nd_X12_feed_28 at H
  refine fs_iload (i := 6) dd_X12_feed_28 rfl ?_
  refine fs_bipush (n := 20) (v := 20) dd_X12_feed_30 (by decide) ?_
  refine fs_icmp_ge (tgt := 124) dd_X12_feed_32 (by decide) (fun hc => ?_) (fun hc => ?_)
  · replace H := H.1 hc
    refine fs_aload_n (k0 := 0) (i := 0) dd_X12_feed_124 rfl rfl ?_
    refine fs_geti (ci := 12) (j := 1) dd_X12_feed_125 fl_X12_249 ca_196 rfl (Or.inl rfl) ?_
    exact fs_iret dd_X12_feed_128 rfl H
  · replace H := H.2 hc
    refine fs_iload (i := 6) dd_X12_feed_35 rfl ?_
    refine fs_iconst (n := 4) (v := 4) dd_X12_feed_37 (by decide) ?_
    refine fs_icmp_ge (tgt := 45) dd_X12_feed_38 (by decide) (fun hc => ?_) (fun hc => ?_)
    · replace H := H.1 hc
      refine fs_iload (i := 6) dd_X12_feed_45 rfl ?_
      refine fs_bipush (n := 8) (v := 8) dd_X12_feed_47 (by decide) ?_
      refine fs_icmp_ge (tgt := 56) dd_X12_feed_49 (by decide) (fun hc => ?_) (fun hc => ?_)
      · replace H := H.1 hc
        refine fs_iload (i := 6) dd_X12_feed_56 rfl ?_
        refine fs_bipush (n := 12) (v := 12) dd_X12_feed_58 (by decide) ?_
        refine fs_icmp_ge (tgt := 67) dd_X12_feed_60 (by decide) (fun hc => ?_) (fun hc => ?_)
        · replace H := H.1 hc
          refine fs_iload (i := 6) dd_X12_feed_67 rfl ?_
          refine fs_bipush (n := 16) (v := 16) dd_X12_feed_69 (by decide) ?_
          refine fs_icmp_ge (tgt := 79) dd_X12_feed_71 (by decide) (fun hc => ?_) (fun hc => ?_)
          · replace H := H.1 hc
            refine fs_iload (i := 5) dd_X12_feed_79 rfl ?_
            refine fs_weak (ls2 := [.ref 196, .int v1, .int v2, .int v3, .int v4, .int v5, .int v6, fz_J]) (fz_le_e (fz_le_e (fz_le_e (fz_le_e (fz_le_e (fz_le_e (fz_le_e (fz_le_j fz_le_n)))))))) ?_
            exact V_nd_X12_feed_81 hD   hK28 H
          · replace H := H.2 hc
            refine fs_iload (i := 4) dd_X12_feed_74 rfl ?_
            refine fs_goto (tgt := 81) dd_X12_feed_76 (by decide) ?_
            refine fs_weak (ls2 := [.ref 196, .int v1, .int v2, .int v3, .int v4, .int v5, .int v6, fz_J]) (fz_le_e (fz_le_e (fz_le_e (fz_le_e (fz_le_e (fz_le_e (fz_le_e (fz_le_j fz_le_n)))))))) ?_
            exact V_nd_X12_feed_81 hD   hK28 H
        · replace H := H.2 hc
          refine fs_iload_n (k0 := 3) (i := 3) dd_X12_feed_63 rfl rfl ?_
          refine fs_goto (tgt := 81) dd_X12_feed_64 (by decide) ?_
          refine fs_weak (ls2 := [.ref 196, .int v1, .int v2, .int v3, .int v4, .int v5, .int v6, fz_J]) (fz_le_e (fz_le_e (fz_le_e (fz_le_e (fz_le_e (fz_le_e (fz_le_e (fz_le_j fz_le_n)))))))) ?_
          exact V_nd_X12_feed_81 hD   hK28 H
      · replace H := H.2 hc
        refine fs_iload_n (k0 := 2) (i := 2) dd_X12_feed_52 rfl rfl ?_
        refine fs_goto (tgt := 81) dd_X12_feed_53 (by decide) ?_
        refine fs_weak (ls2 := [.ref 196, .int v1, .int v2, .int v3, .int v4, .int v5, .int v6, fz_J]) (fz_le_e (fz_le_e (fz_le_e (fz_le_e (fz_le_e (fz_le_e (fz_le_e (fz_le_j fz_le_n)))))))) ?_
        exact V_nd_X12_feed_81 hD   hK28 H
    · replace H := H.2 hc
      refine fs_iload_n (k0 := 1) (i := 1) dd_X12_feed_41 rfl rfl ?_
      refine fs_goto (tgt := 81) dd_X12_feed_42 (by decide) ?_
      refine fs_weak (ls2 := [.ref 196, .int v1, .int v2, .int v3, .int v4, .int v5, .int v6, fz_J]) (fz_le_e (fz_le_e (fz_le_e (fz_le_e (fz_le_e (fz_le_e (fz_le_e (fz_le_j fz_le_n)))))))) ?_
      exact V_nd_X12_feed_81 hD   hK28 H
set_option maxRecDepth 100000 in
set_option maxHeartbeats 4000000 in
theorem V_lp_X12_feed_28 {g : fz_G} {l : Launch} {d : Nat} (hD : 0 ≤ d)    {Q : Int32 → fz_s → Prop}  (n : Nat) : ∀ {v1 : Int32} {v2 : Int32} {v3 : Int32} {v4 : Int32} {v5 : Int32} {v6 : Int32} {s : fz_s}, lp_X12_feed_28   Q n v1 v2 v3 v4 v5 v6 s → fs_V g l m_X12_feed d false 28 [.ref 196, .int v1, .int v2, .int v3, .int v4, .int v5, .int v6, fz_J] [] s (rI Q) := by
  induction n with
  | zero => intro v1 v2 v3 v4 v5 v6 s H; exact H.elim
  | succ n ih => intro v1 v2 v3 v4 v5 v6 s H; exact V_nd_X12_feed_28 hD  (fun H => ih H) H
set_option maxRecDepth 100000 in
set_option maxHeartbeats 4000000 in
theorem V_X12_feed {g : fz_G} {l : Launch} {d : Nat} (hD : 0 ≤ d) {p0 : Int32} {p1 : Int32} {p2 : Int32} {p3 : Int32} {p4 : Int32}  {s : fz_s} {Q : Int32 → fz_s → Prop} (H : wp_X12_feed p0 p1 p2 p3 p4 s Q) : fs_V g l m_X12_feed d false 0 (fz_en [.ref 196, .int p0, .int p1, .int p2, .int p3, .int p4] 8) [] s (rI Q) := by
  unfold wp_X12_feed at H
  refine fs_aload_n (k0 := 0) (i := 0) dd_X12_feed_0 rfl rfl ?_
  refine fs_geti (ci := 12) (j := 1) dd_X12_feed_1 fl_X12_249 ca_196 rfl (Or.inl rfl) ?_
  refine fs_bipush (n := 20) (v := 20) dd_X12_feed_4 (by decide) ?_
  refine fs_iadd dd_X12_feed_6 ?_
  refine fs_sipush (n := 1600) (v := 1600) dd_X12_feed_7 (by decide) ?_
  refine fs_icmp_le (tgt := 25) dd_X12_feed_10 (by decide) (fun hc => ?_) (fun hc => ?_)
  · replace H := H.1 hc
    refine fs_iconst (n := 0) (v := 0) dd_X12_feed_25 (by decide) ?_
    refine fs_istore (i := 6) dd_X12_feed_26 (by decide) ?_
    refine fs_weak (ls2 := [.ref 196, .int p0, .int p1, .int p2, .int p3, .int p4, .int 0, fz_J]) (fz_le_e (fz_le_e (fz_le_e (fz_le_e (fz_le_e (fz_le_e (fz_le_e (fz_le_j fz_le_n)))))))) ?_
    exact V_lp_X12_feed_28 hD    2048 H
  · replace H := H.2 hc
    refine fs_aload_n (k0 := 0) (i := 0) dd_X12_feed_13 rfl rfl ?_
    refine fs_getr (ci := 12) (j := 9) (q := 198) dd_X12_feed_14 fl_X12_17 ca_196 rfl (Or.inr ⟨_, rfl⟩) rfl (by decide) ?_
    refine fs_iconst (n := 0) (v := 0) dd_X12_feed_17 (by decide) ?_
    refine fs_dup2 dd_X12_feed_18 rfl rfl ?_
    refine fs_iald dd_X12_feed_19 ca_198 (vp_in_nI (n := 0) (by decide) (by decide)) ?_
    refine fs_iconst (n := 1) (v := 1) dd_X12_feed_20 (by decide) ?_
    refine fs_iadd dd_X12_feed_21 ?_
    refine fs_iast dd_X12_feed_22 ca_198 (vp_in_nI (n := 0) (by decide) (by decide)) ?_
    refine fs_tops (fun s1 hs1 => ?_)
    replace H := H s1 hs1
    refine fs_iconst (n := -1) (v := -1) dd_X12_feed_23 (by decide) ?_
    exact fs_iret dd_X12_feed_24 rfl H
theorem dd_X12_end_0 : decode m_X12_end.2.1 0 = .ok (.iload_n 1, 1) := by decide +kernel
theorem dd_X12_end_1 : decode m_X12_end.2.1 1 = .ok (.ifCond .lt 11, 3) := by decide +kernel
theorem dd_X12_end_4 : decode m_X12_end.2.1 4 = .ok (.iload_n 1, 1) := by decide +kernel
theorem dd_X12_end_5 : decode m_X12_end.2.1 5 = .ok (.aload_n 0, 1) := by decide +kernel
theorem dd_X12_end_6 : decode m_X12_end.2.1 6 = .ok (.getfield 249, 3) := by decide +kernel
theorem dd_X12_end_9 : decode m_X12_end.2.1 9 = .ok (.if_icmp .le 15, 3) := by decide +kernel
theorem dd_X12_end_12 : decode m_X12_end.2.1 12 = .ok (.aload_n 0, 1) := by decide +kernel
theorem dd_X12_end_13 : decode m_X12_end.2.1 13 = .ok (.getfield 17, 3) := by decide +kernel
theorem dd_X12_end_16 : decode m_X12_end.2.1 16 = .ok (.iconst 0, 1) := by decide +kernel
theorem dd_X12_end_17 : decode m_X12_end.2.1 17 = .ok (.dup2, 1) := by decide +kernel
theorem dd_X12_end_18 : decode m_X12_end.2.1 18 = .ok (.iaload, 1) := by decide +kernel
theorem dd_X12_end_19 : decode m_X12_end.2.1 19 = .ok (.iconst 1, 1) := by decide +kernel
theorem dd_X12_end_20 : decode m_X12_end.2.1 20 = .ok (.iadd, 1) := by decide +kernel
theorem dd_X12_end_21 : decode m_X12_end.2.1 21 = .ok (.iastore, 1) := by decide +kernel
theorem dd_X12_end_22 : decode m_X12_end.2.1 22 = .ok (.iconst 0, 1) := by decide +kernel
theorem dd_X12_end_23 : decode m_X12_end.2.1 23 = .ok (.ireturn, 1) := by decide +kernel
theorem dd_X12_end_24 : decode m_X12_end.2.1 24 = .ok (.aload_n 0, 1) := by decide +kernel
theorem dd_X12_end_25 : decode m_X12_end.2.1 25 = .ok (.iload_n 1, 1) := by decide +kernel
theorem dd_X12_end_26 : decode m_X12_end.2.1 26 = .ok (.putfield 249, 3) := by decide +kernel
theorem dd_X12_end_29 : decode m_X12_end.2.1 29 = .ok (.iconst 1, 1) := by decide +kernel
theorem dd_X12_end_30 : decode m_X12_end.2.1 30 = .ok (.ireturn, 1) := by decide +kernel
def nd_X12_end_12   (Q : Bool → fz_s → Prop)  (s : fz_s) : Prop :=
  ∀ s1 : fz_s, s1 = si s 198 (0 : Int32).toNatClampNeg ((s.1 198 (0 : Int32).toNatClampNeg) + 1) → Q false s1
def wp_X12_end (p0 : Int32) (s : fz_s) (Q : Bool → fz_s → Prop) : Prop :=
  ((p0 < 0 → nd_X12_end_12   Q  s) ∧ (¬ p0 < 0 → ((p0 ≤ (s.1 196 1) → ∀ s1 : fz_s, s1 = si s 196 1 p0 → Q true s1) ∧ (¬ p0 ≤ (s.1 196 1) → nd_X12_end_12   Q  s))))
set_option maxRecDepth 100000 in
set_option maxHeartbeats 4000000 in
theorem V_nd_X12_end_12 {g : fz_G} {l : Launch} {d : Nat} (hD : 0 ≤ d)    {Q : Bool → fz_s → Prop}  {s : fz_s}  (H : nd_X12_end_12   Q  s) : fs_V g l m_X12_end d false 12 [.ref 196, fz_J] [] s (rZ Q) := by
  unfold nd_X12_end_12 at H
  refine fs_aload_n (k0 := 0) (i := 0) dd_X12_end_12 rfl rfl ?_
  refine fs_getr (ci := 12) (j := 9) (q := 198) dd_X12_end_13 fl_X12_17 ca_196 rfl (Or.inr ⟨_, rfl⟩) rfl (by decide) ?_
  refine fs_iconst (n := 0) (v := 0) dd_X12_end_16 (by decide) ?_
  refine fs_dup2 dd_X12_end_17 rfl rfl ?_
  refine fs_iald dd_X12_end_18 ca_198 (vp_in_nI (n := 0) (by decide) (by decide)) ?_
  refine fs_iconst (n := 1) (v := 1) dd_X12_end_19 (by decide) ?_
  refine fs_iadd dd_X12_end_20 ?_
  refine fs_iast dd_X12_end_21 ca_198 (vp_in_nI (n := 0) (by decide) (by decide)) ?_
  refine fs_tops (fun s1 hs1 => ?_)
  replace H := H s1 hs1
  refine fs_iconst (n := 0) (v := 0) dd_X12_end_22 (by decide) ?_
  exact fs_zret false dd_X12_end_23 rfl rfl H
set_option maxRecDepth 100000 in
set_option maxHeartbeats 4000000 in
theorem V_X12_end {g : fz_G} {l : Launch} {d : Nat} (hD : 0 ≤ d) {p0 : Int32}  {s : fz_s} {Q : Bool → fz_s → Prop} (H : wp_X12_end p0 s Q) : fs_V g l m_X12_end d false 0 (fz_en [.ref 196, .int p0] 2) [] s (rZ Q) := by
  unfold wp_X12_end at H
  refine fs_iload_n (k0 := 1) (i := 1) dd_X12_end_0 rfl rfl ?_
  refine fs_if_lt (tgt := 12) dd_X12_end_1 (by decide) (fun hc => ?_) (fun hc => ?_)
  · replace H := H.1 hc
    refine fs_weak (ls2 := [.ref 196, fz_J]) (fz_le_e (fz_le_j fz_le_n)) ?_
    exact V_nd_X12_end_12 hD    H
  · replace H := H.2 hc
    refine fs_iload_n (k0 := 1) (i := 1) dd_X12_end_4 rfl rfl ?_
    refine fs_aload_n (k0 := 0) (i := 0) dd_X12_end_5 rfl rfl ?_
    refine fs_geti (ci := 12) (j := 1) dd_X12_end_6 fl_X12_249 ca_196 rfl (Or.inl rfl) ?_
    refine fs_icmp_le (tgt := 24) dd_X12_end_9 (by decide) (fun hc => ?_) (fun hc => ?_)
    · replace H := H.1 hc
      refine fs_aload_n (k0 := 0) (i := 0) dd_X12_end_24 rfl rfl ?_
      refine fs_iload_n (k0 := 1) (i := 1) dd_X12_end_25 rfl rfl ?_
      refine fs_puti (ci := 12) (j := 1) dd_X12_end_26 fl_X12_249 (fun _ _ _ h => by cases h; rfl) ca_196 rfl (Or.inl rfl) ?_
      refine fs_tops (fun s1 hs1 => ?_)
      replace H := H s1 hs1
      refine fs_iconst (n := 1) (v := 1) dd_X12_end_29 (by decide) ?_
      exact fs_zret true dd_X12_end_30 rfl rfl H
    · replace H := H.2 hc
      refine fs_weak (ls2 := [.ref 196, fz_J]) (fz_le_e (fz_le_j fz_le_n)) ?_
      exact V_nd_X12_end_12 hD    H
theorem dd_X12_fail_0 : decode m_X12_fail.2.1 0 = .ok (.aload_n 0, 1) := by decide +kernel
theorem dd_X12_fail_1 : decode m_X12_fail.2.1 1 = .ok (.getfield 252, 3) := by decide +kernel
theorem dd_X12_fail_4 : decode m_X12_fail.2.1 4 = .ok (.ifCond .eq 4, 3) := by decide +kernel
theorem dd_X12_fail_7 : decode m_X12_fail.2.1 7 = .ok (.return_, 1) := by decide +kernel
theorem dd_X12_fail_8 : decode m_X12_fail.2.1 8 = .ok (.aload_n 0, 1) := by decide +kernel
theorem dd_X12_fail_9 : decode m_X12_fail.2.1 9 = .ok (.iload_n 1, 1) := by decide +kernel
theorem dd_X12_fail_10 : decode m_X12_fail.2.1 10 = .ok (.putfield 252, 3) := by decide +kernel
theorem dd_X12_fail_13 : decode m_X12_fail.2.1 13 = .ok (.aload_n 0, 1) := by decide +kernel
theorem dd_X12_fail_14 : decode m_X12_fail.2.1 14 = .ok (.iload_n 2, 1) := by decide +kernel
theorem dd_X12_fail_15 : decode m_X12_fail.2.1 15 = .ok (.putfield 255, 3) := by decide +kernel
theorem dd_X12_fail_18 : decode m_X12_fail.2.1 18 = .ok (.return_, 1) := by decide +kernel
def wp_X12_fail (p0 : Int32) (p1 : Int32) (s : fz_s) (Q : fz_s → Prop) : Prop :=
  (((s.1 196 5) = 0 → ∀ s1 : fz_s, s1 = si s 196 5 p0 → ∀ s2 : fz_s, s2 = si s1 196 6 p1 → Q s2) ∧ (¬ (s.1 196 5) = 0 → Q s))
set_option maxRecDepth 100000 in
set_option maxHeartbeats 4000000 in
theorem V_X12_fail {g : fz_G} {l : Launch} {d : Nat} (hD : 0 ≤ d) {p0 : Int32} {p1 : Int32}  {s : fz_s} {Q : fz_s → Prop} (H : wp_X12_fail p0 p1 s Q) : fs_V g l m_X12_fail d false 0 (fz_en [.ref 196, .int p0, .int p1] 3) [] s (rV Q) := by
  unfold wp_X12_fail at H
  refine fs_aload_n (k0 := 0) (i := 0) dd_X12_fail_0 rfl rfl ?_
  refine fs_geti (ci := 12) (j := 5) dd_X12_fail_1 fl_X12_252 ca_196 rfl (Or.inl rfl) ?_
  refine fs_if_eq (tgt := 8) dd_X12_fail_4 (by decide) (fun hc => ?_) (fun hc => ?_)
  · replace H := H.1 hc
    refine fs_aload_n (k0 := 0) (i := 0) dd_X12_fail_8 rfl rfl ?_
    refine fs_iload_n (k0 := 1) (i := 1) dd_X12_fail_9 rfl rfl ?_
    refine fs_puti (ci := 12) (j := 5) dd_X12_fail_10 fl_X12_252 (fun _ _ _ h => by cases h; rfl) ca_196 rfl (Or.inl rfl) ?_
    refine fs_tops (fun s1 hs1 => ?_)
    replace H := H s1 hs1
    refine fs_aload_n (k0 := 0) (i := 0) dd_X12_fail_13 rfl rfl ?_
    refine fs_iload_n (k0 := 2) (i := 2) dd_X12_fail_14 rfl rfl ?_
    refine fs_puti (ci := 12) (j := 6) dd_X12_fail_15 fl_X12_255 (fun _ _ _ h => by cases h; rfl) ca_196 rfl (Or.inl rfl) ?_
    refine fs_tops (fun s2 hs2 => ?_)
    replace H := H s2 hs2
    exact fs_vret dd_X12_fail_18 rfl H
  · replace H := H.2 hc
    exact fs_vret dd_X12_fail_7 rfl H
theorem dd_X12_isLetter_0 : decode m_X12_isLetter.2.1 0 = .ok (.iload_n 0, 1) := by decide +kernel
theorem dd_X12_isLetter_1 : decode m_X12_isLetter.2.1 1 = .ok (.bipush 97, 2) := by decide +kernel
theorem dd_X12_isLetter_3 : decode m_X12_isLetter.2.1 3 = .ok (.if_icmp .lt 13, 3) := by decide +kernel
theorem dd_X12_isLetter_6 : decode m_X12_isLetter.2.1 6 = .ok (.iload_n 0, 1) := by decide +kernel
theorem dd_X12_isLetter_7 : decode m_X12_isLetter.2.1 7 = .ok (.bipush 122, 2) := by decide +kernel
theorem dd_X12_isLetter_9 : decode m_X12_isLetter.2.1 9 = .ok (.if_icmp .gt 7, 3) := by decide +kernel
theorem dd_X12_isLetter_12 : decode m_X12_isLetter.2.1 12 = .ok (.iconst 1, 1) := by decide +kernel
theorem dd_X12_isLetter_13 : decode m_X12_isLetter.2.1 13 = .ok (.goto 4, 3) := by decide +kernel
theorem dd_X12_isLetter_16 : decode m_X12_isLetter.2.1 16 = .ok (.iconst 0, 1) := by decide +kernel
theorem dd_X12_isLetter_17 : decode m_X12_isLetter.2.1 17 = .ok (.ireturn, 1) := by decide +kernel
def wp_X12_isLetter (p0 : Int32) (s : fz_s) (Q : Bool → fz_s → Prop) : Prop :=
  ((p0 < 97 → Q false s) ∧ (¬ p0 < 97 → ((122 < p0 → Q false s) ∧ (¬ 122 < p0 → Q true s))))
set_option maxRecDepth 100000 in
set_option maxHeartbeats 4000000 in
theorem V_X12_isLetter {g : fz_G} {l : Launch} {d : Nat} (hD : 0 ≤ d) {p0 : Int32}  {s : fz_s} {Q : Bool → fz_s → Prop} (H : wp_X12_isLetter p0 s Q) : fs_V g l m_X12_isLetter d false 0 (fz_en [.int p0] 1) [] s (rZ Q) := by
  unfold wp_X12_isLetter at H
  refine fs_iload_n (k0 := 0) (i := 0) dd_X12_isLetter_0 rfl rfl ?_
  refine fs_bipush (n := 97) (v := 97) dd_X12_isLetter_1 (by decide) ?_
  refine fs_icmp_lt (tgt := 16) dd_X12_isLetter_3 (by decide) (fun hc => ?_) (fun hc => ?_)
  · replace H := H.1 hc
    refine fs_iconst (n := 0) (v := 0) dd_X12_isLetter_16 (by decide) ?_
    exact fs_zret false dd_X12_isLetter_17 rfl rfl H
  · replace H := H.2 hc
    refine fs_iload_n (k0 := 0) (i := 0) dd_X12_isLetter_6 rfl rfl ?_
    refine fs_bipush (n := 122) (v := 122) dd_X12_isLetter_7 (by decide) ?_
    refine fs_icmp_gt (tgt := 16) dd_X12_isLetter_9 (by decide) (fun hc => ?_) (fun hc => ?_)
    · replace H := H.1 hc
      refine fs_iconst (n := 0) (v := 0) dd_X12_isLetter_16 (by decide) ?_
      exact fs_zret false dd_X12_isLetter_17 rfl rfl H
    · replace H := H.2 hc
      refine fs_iconst (n := 1) (v := 1) dd_X12_isLetter_12 (by decide) ?_
      refine fs_goto (tgt := 17) dd_X12_isLetter_13 (by decide) ?_
      exact fs_zret true dd_X12_isLetter_17 rfl rfl H
theorem dd_X12_isDigit_0 : decode m_X12_isDigit.2.1 0 = .ok (.iload_n 0, 1) := by decide +kernel
theorem dd_X12_isDigit_1 : decode m_X12_isDigit.2.1 1 = .ok (.bipush 48, 2) := by decide +kernel
theorem dd_X12_isDigit_3 : decode m_X12_isDigit.2.1 3 = .ok (.if_icmp .lt 13, 3) := by decide +kernel
theorem dd_X12_isDigit_6 : decode m_X12_isDigit.2.1 6 = .ok (.iload_n 0, 1) := by decide +kernel
theorem dd_X12_isDigit_7 : decode m_X12_isDigit.2.1 7 = .ok (.bipush 57, 2) := by decide +kernel
theorem dd_X12_isDigit_9 : decode m_X12_isDigit.2.1 9 = .ok (.if_icmp .gt 7, 3) := by decide +kernel
theorem dd_X12_isDigit_12 : decode m_X12_isDigit.2.1 12 = .ok (.iconst 1, 1) := by decide +kernel
theorem dd_X12_isDigit_13 : decode m_X12_isDigit.2.1 13 = .ok (.goto 4, 3) := by decide +kernel
theorem dd_X12_isDigit_16 : decode m_X12_isDigit.2.1 16 = .ok (.iconst 0, 1) := by decide +kernel
theorem dd_X12_isDigit_17 : decode m_X12_isDigit.2.1 17 = .ok (.ireturn, 1) := by decide +kernel
def wp_X12_isDigit (p0 : Int32) (s : fz_s) (Q : Bool → fz_s → Prop) : Prop :=
  ((p0 < 48 → Q false s) ∧ (¬ p0 < 48 → ((57 < p0 → Q false s) ∧ (¬ 57 < p0 → Q true s))))
set_option maxRecDepth 100000 in
set_option maxHeartbeats 4000000 in
theorem V_X12_isDigit {g : fz_G} {l : Launch} {d : Nat} (hD : 0 ≤ d) {p0 : Int32}  {s : fz_s} {Q : Bool → fz_s → Prop} (H : wp_X12_isDigit p0 s Q) : fs_V g l m_X12_isDigit d false 0 (fz_en [.int p0] 1) [] s (rZ Q) := by
  unfold wp_X12_isDigit at H
  refine fs_iload_n (k0 := 0) (i := 0) dd_X12_isDigit_0 rfl rfl ?_
  refine fs_bipush (n := 48) (v := 48) dd_X12_isDigit_1 (by decide) ?_
  refine fs_icmp_lt (tgt := 16) dd_X12_isDigit_3 (by decide) (fun hc => ?_) (fun hc => ?_)
  · replace H := H.1 hc
    refine fs_iconst (n := 0) (v := 0) dd_X12_isDigit_16 (by decide) ?_
    exact fs_zret false dd_X12_isDigit_17 rfl rfl H
  · replace H := H.2 hc
    refine fs_iload_n (k0 := 0) (i := 0) dd_X12_isDigit_6 rfl rfl ?_
    refine fs_bipush (n := 57) (v := 57) dd_X12_isDigit_7 (by decide) ?_
    refine fs_icmp_gt (tgt := 16) dd_X12_isDigit_9 (by decide) (fun hc => ?_) (fun hc => ?_)
    · replace H := H.1 hc
      refine fs_iconst (n := 0) (v := 0) dd_X12_isDigit_16 (by decide) ?_
      exact fs_zret false dd_X12_isDigit_17 rfl rfl H
    · replace H := H.2 hc
      refine fs_iconst (n := 1) (v := 1) dd_X12_isDigit_12 (by decide) ?_
      refine fs_goto (tgt := 17) dd_X12_isDigit_13 (by decide) ?_
      exact fs_zret true dd_X12_isDigit_17 rfl rfl H
theorem dd_X12_look_0 : decode m_X12_look.2.1 0 = .ok (.aload_n 0, 1) := by decide +kernel
theorem dd_X12_look_1 : decode m_X12_look.2.1 1 = .ok (.getfield 258, 3) := by decide +kernel
theorem dd_X12_look_4 : decode m_X12_look.2.1 4 = .ok (.aload_n 0, 1) := by decide +kernel
theorem dd_X12_look_5 : decode m_X12_look.2.1 5 = .ok (.getfield 261, 3) := by decide +kernel
theorem dd_X12_look_8 : decode m_X12_look.2.1 8 = .ok (.if_icmp .ge 44, 3) := by decide +kernel
theorem dd_X12_look_11 : decode m_X12_look.2.1 11 = .ok (.aload_n 0, 1) := by decide +kernel
theorem dd_X12_look_12 : decode m_X12_look.2.1 12 = .ok (.getfield 7, 3) := by decide +kernel
theorem dd_X12_look_15 : decode m_X12_look.2.1 15 = .ok (.aload_n 0, 1) := by decide +kernel
theorem dd_X12_look_16 : decode m_X12_look.2.1 16 = .ok (.getfield 258, 3) := by decide +kernel
theorem dd_X12_look_19 : decode m_X12_look.2.1 19 = .ok (.iaload, 1) := by decide +kernel
theorem dd_X12_look_20 : decode m_X12_look.2.1 20 = .ok (.bipush 10, 2) := by decide +kernel
theorem dd_X12_look_22 : decode m_X12_look.2.1 22 = .ok (.if_icmp .eq 17, 3) := by decide +kernel
theorem dd_X12_look_25 : decode m_X12_look.2.1 25 = .ok (.aload_n 0, 1) := by decide +kernel
theorem dd_X12_look_26 : decode m_X12_look.2.1 26 = .ok (.getfield 7, 3) := by decide +kernel
theorem dd_X12_look_29 : decode m_X12_look.2.1 29 = .ok (.aload_n 0, 1) := by decide +kernel
theorem dd_X12_look_30 : decode m_X12_look.2.1 30 = .ok (.getfield 258, 3) := by decide +kernel
theorem dd_X12_look_33 : decode m_X12_look.2.1 33 = .ok (.iaload, 1) := by decide +kernel
theorem dd_X12_look_34 : decode m_X12_look.2.1 34 = .ok (.bipush 32, 2) := by decide +kernel
theorem dd_X12_look_36 : decode m_X12_look.2.1 36 = .ok (.if_icmp .ne 16, 3) := by decide +kernel
theorem dd_X12_look_39 : decode m_X12_look.2.1 39 = .ok (.aload_n 0, 1) := by decide +kernel
theorem dd_X12_look_40 : decode m_X12_look.2.1 40 = .ok (.dup, 1) := by decide +kernel
theorem dd_X12_look_41 : decode m_X12_look.2.1 41 = .ok (.getfield 258, 3) := by decide +kernel
theorem dd_X12_look_44 : decode m_X12_look.2.1 44 = .ok (.iconst 1, 1) := by decide +kernel
theorem dd_X12_look_45 : decode m_X12_look.2.1 45 = .ok (.iadd, 1) := by decide +kernel
theorem dd_X12_look_46 : decode m_X12_look.2.1 46 = .ok (.putfield 258, 3) := by decide +kernel
theorem dd_X12_look_49 : decode m_X12_look.2.1 49 = .ok (.goto (-49), 3) := by decide +kernel
theorem dd_X12_look_52 : decode m_X12_look.2.1 52 = .ok (.aload_n 0, 1) := by decide +kernel
theorem dd_X12_look_53 : decode m_X12_look.2.1 53 = .ok (.getfield 258, 3) := by decide +kernel
theorem dd_X12_look_56 : decode m_X12_look.2.1 56 = .ok (.aload_n 0, 1) := by decide +kernel
theorem dd_X12_look_57 : decode m_X12_look.2.1 57 = .ok (.getfield 261, 3) := by decide +kernel
theorem dd_X12_look_60 : decode m_X12_look.2.1 60 = .ok (.if_icmp .ge 15, 3) := by decide +kernel
theorem dd_X12_look_63 : decode m_X12_look.2.1 63 = .ok (.aload_n 0, 1) := by decide +kernel
theorem dd_X12_look_64 : decode m_X12_look.2.1 64 = .ok (.getfield 7, 3) := by decide +kernel
theorem dd_X12_look_67 : decode m_X12_look.2.1 67 = .ok (.aload_n 0, 1) := by decide +kernel
theorem dd_X12_look_68 : decode m_X12_look.2.1 68 = .ok (.getfield 258, 3) := by decide +kernel
theorem dd_X12_look_71 : decode m_X12_look.2.1 71 = .ok (.iaload, 1) := by decide +kernel
theorem dd_X12_look_72 : decode m_X12_look.2.1 72 = .ok (.goto 4, 3) := by decide +kernel
theorem dd_X12_look_75 : decode m_X12_look.2.1 75 = .ok (.iconst (-1), 1) := by decide +kernel
theorem dd_X12_look_76 : decode m_X12_look.2.1 76 = .ok (.ireturn, 1) := by decide +kernel
def nd_X12_look_52   (Q : Int32 → fz_s → Prop)  (s : fz_s) : Prop :=
  (((s.1 196 3) ≤ (s.1 196 2) → Q (-1) s) ∧ (¬ (s.1 196 3) ≤ (s.1 196 2) → vp_in (s.1 196 2) 1600 ∧ Q (s.1 197 (s.1 196 2).toNatClampNeg) s))
def nd_X12_look_0  (K0 : fz_s → Prop) (Q : Int32 → fz_s → Prop)  (s : fz_s) : Prop :=
  (((s.1 196 3) ≤ (s.1 196 2) → nd_X12_look_52   Q  s) ∧ (¬ (s.1 196 3) ≤ (s.1 196 2) → vp_in (s.1 196 2) 1600 ∧ (((s.1 197 (s.1 196 2).toNatClampNeg) = 10 → ∀ s1 : fz_s, s1 = si s 196 2 ((s.1 196 2) + 1) → K0  s1) ∧ (¬ (s.1 197 (s.1 196 2).toNatClampNeg) = 10 → vp_in (s.1 196 2) 1600 ∧ ((¬ (s.1 197 (s.1 196 2).toNatClampNeg) = 32 → nd_X12_look_52   Q  s) ∧ ((s.1 197 (s.1 196 2).toNatClampNeg) = 32 → ∀ s2 : fz_s, s2 = si s 196 2 ((s.1 196 2) + 1) → K0  s2))))))
def lp_X12_look_0   (Q : Int32 → fz_s → Prop) : Nat → fz_s → Prop
  | 0 => fun  _ => False
  | n + 1 => nd_X12_look_0  (lp_X12_look_0   Q n) Q
def wp_X12_look  (s : fz_s) (Q : Int32 → fz_s → Prop) : Prop :=
  lp_X12_look_0   Q 2048  s
set_option maxRecDepth 100000 in
set_option maxHeartbeats 4000000 in
theorem V_nd_X12_look_52 {g : fz_G} {l : Launch} {d : Nat} (hD : 0 ≤ d)    {Q : Int32 → fz_s → Prop}  {s : fz_s}  (H : nd_X12_look_52   Q  s) : fs_V g l m_X12_look d false 52 [.ref 196] [] s (rI Q) := by
  unfold nd_X12_look_52 at H
  refine fs_aload_n (k0 := 0) (i := 0) dd_X12_look_52 rfl rfl ?_
  refine fs_geti (ci := 12) (j := 2) dd_X12_look_53 fl_X12_258 ca_196 rfl (Or.inl rfl) ?_
  refine fs_aload_n (k0 := 0) (i := 0) dd_X12_look_56 rfl rfl ?_
  refine fs_geti (ci := 12) (j := 3) dd_X12_look_57 fl_X12_261 ca_196 rfl (Or.inl rfl) ?_
  refine fs_icmp_ge (tgt := 75) dd_X12_look_60 (by decide) (fun hc => ?_) (fun hc => ?_)
  · replace H := H.1 hc
    refine fs_iconst (n := -1) (v := -1) dd_X12_look_75 (by decide) ?_
    exact fs_iret dd_X12_look_76 rfl H
  · replace H := H.2 hc
    refine fs_aload_n (k0 := 0) (i := 0) dd_X12_look_63 rfl rfl ?_
    refine fs_getr (ci := 12) (j := 0) (q := 197) dd_X12_look_64 fl_X12_7 ca_196 rfl (Or.inr ⟨_, rfl⟩) rfl (by decide) ?_
    refine fs_aload_n (k0 := 0) (i := 0) dd_X12_look_67 rfl rfl ?_
    refine fs_geti (ci := 12) (j := 2) dd_X12_look_68 fl_X12_258 ca_196 rfl (Or.inl rfl) ?_
    have hb := H.1
    replace H := H.2
    refine fs_iald dd_X12_look_71 ca_197 hb ?_
    refine fs_goto (tgt := 76) dd_X12_look_72 (by decide) ?_
    exact fs_iret dd_X12_look_76 rfl H
set_option maxRecDepth 100000 in
set_option maxHeartbeats 4000000 in
theorem V_nd_X12_look_0 {g : fz_G} {l : Launch} {d : Nat} (hD : 0 ≤ d)   {K0 : fz_s → Prop} {Q : Int32 → fz_s → Prop}  {s : fz_s} (hK0 : ∀ {s : fz_s}, K0 s → fs_V g l m_X12_look d false 0 [.ref 196] [] s (rI Q)) (H : nd_X12_look_0  K0 Q  s) : fs_V g l m_X12_look d false 0 [.ref 196] [] s (rI Q) := by
  unfold nd_X12_look_0 at H
  refine fs_aload_n (k0 := 0) (i := 0) dd_X12_look_0 rfl rfl ?_
  refine fs_geti (ci := 12) (j := 2) dd_X12_look_1 fl_X12_258 ca_196 rfl (Or.inl rfl) ?_
  refine fs_aload_n (k0 := 0) (i := 0) dd_X12_look_4 rfl rfl ?_
  refine fs_geti (ci := 12) (j := 3) dd_X12_look_5 fl_X12_261 ca_196 rfl (Or.inl rfl) ?_
  refine fs_icmp_ge (tgt := 52) dd_X12_look_8 (by decide) (fun hc => ?_) (fun hc => ?_)
  · replace H := H.1 hc
    refine fs_weak (ls2 := [.ref 196]) (fz_le_e fz_le_n) ?_
    exact V_nd_X12_look_52 hD    H
  · replace H := H.2 hc
    refine fs_aload_n (k0 := 0) (i := 0) dd_X12_look_11 rfl rfl ?_
    refine fs_getr (ci := 12) (j := 0) (q := 197) dd_X12_look_12 fl_X12_7 ca_196 rfl (Or.inr ⟨_, rfl⟩) rfl (by decide) ?_
    refine fs_aload_n (k0 := 0) (i := 0) dd_X12_look_15 rfl rfl ?_
    refine fs_geti (ci := 12) (j := 2) dd_X12_look_16 fl_X12_258 ca_196 rfl (Or.inl rfl) ?_
    have hb := H.1
    replace H := H.2
    refine fs_iald dd_X12_look_19 ca_197 hb ?_
    refine fs_bipush (n := 10) (v := 10) dd_X12_look_20 (by decide) ?_
    refine fs_icmp_eq (tgt := 39) dd_X12_look_22 (by decide) (fun hc => ?_) (fun hc => ?_)
    · replace H := H.1 hc
      refine fs_aload_n (k0 := 0) (i := 0) dd_X12_look_39 rfl rfl ?_
      refine fs_dup dd_X12_look_40 rfl ?_
      refine fs_geti (ci := 12) (j := 2) dd_X12_look_41 fl_X12_258 ca_196 rfl (Or.inl rfl) ?_
      refine fs_iconst (n := 1) (v := 1) dd_X12_look_44 (by decide) ?_
      refine fs_iadd dd_X12_look_45 ?_
      refine fs_puti (ci := 12) (j := 2) dd_X12_look_46 fl_X12_258 (fun _ _ _ h => by cases h; rfl) ca_196 rfl (Or.inl rfl) ?_
      refine fs_tops (fun s1 hs1 => ?_)
      replace H := H s1 hs1
      refine fs_goto (tgt := 0) dd_X12_look_49 (by decide) ?_
      refine fs_weak (ls2 := [.ref 196]) (fz_le_e fz_le_n) ?_
      exact hK0 H
    · replace H := H.2 hc
      refine fs_aload_n (k0 := 0) (i := 0) dd_X12_look_25 rfl rfl ?_
      refine fs_getr (ci := 12) (j := 0) (q := 197) dd_X12_look_26 fl_X12_7 ca_196 rfl (Or.inr ⟨_, rfl⟩) rfl (by decide) ?_
      refine fs_aload_n (k0 := 0) (i := 0) dd_X12_look_29 rfl rfl ?_
      refine fs_geti (ci := 12) (j := 2) dd_X12_look_30 fl_X12_258 ca_196 rfl (Or.inl rfl) ?_
      have hb := H.1
      replace H := H.2
      refine fs_iald dd_X12_look_33 ca_197 hb ?_
      refine fs_bipush (n := 32) (v := 32) dd_X12_look_34 (by decide) ?_
      refine fs_icmp_ne (tgt := 52) dd_X12_look_36 (by decide) (fun hc => ?_) (fun hc => ?_)
      · replace H := H.1 hc
        refine fs_weak (ls2 := [.ref 196]) (fz_le_e fz_le_n) ?_
        exact V_nd_X12_look_52 hD    H
      · replace H := H.2 hc
        refine fs_aload_n (k0 := 0) (i := 0) dd_X12_look_39 rfl rfl ?_
        refine fs_dup dd_X12_look_40 rfl ?_
        refine fs_geti (ci := 12) (j := 2) dd_X12_look_41 fl_X12_258 ca_196 rfl (Or.inl rfl) ?_
        refine fs_iconst (n := 1) (v := 1) dd_X12_look_44 (by decide) ?_
        refine fs_iadd dd_X12_look_45 ?_
        refine fs_puti (ci := 12) (j := 2) dd_X12_look_46 fl_X12_258 (fun _ _ _ h => by cases h; rfl) ca_196 rfl (Or.inl rfl) ?_
        refine fs_tops (fun s2 hs2 => ?_)
        replace H := H s2 hs2
        refine fs_goto (tgt := 0) dd_X12_look_49 (by decide) ?_
        refine fs_weak (ls2 := [.ref 196]) (fz_le_e fz_le_n) ?_
        exact hK0 H
set_option maxRecDepth 100000 in
set_option maxHeartbeats 4000000 in
theorem V_lp_X12_look_0 {g : fz_G} {l : Launch} {d : Nat} (hD : 0 ≤ d)    {Q : Int32 → fz_s → Prop}  (n : Nat) : ∀ {s : fz_s}, lp_X12_look_0   Q n  s → fs_V g l m_X12_look d false 0 [.ref 196] [] s (rI Q) := by
  induction n with
  | zero => intro  s H; exact H.elim
  | succ n ih => intro  s H; exact V_nd_X12_look_0 hD  (fun H => ih H) H
set_option maxRecDepth 100000 in
set_option maxHeartbeats 4000000 in
theorem V_X12_look {g : fz_G} {l : Launch} {d : Nat} (hD : 0 ≤ d)   {s : fz_s} {Q : Int32 → fz_s → Prop} (H : wp_X12_look  s Q) : fs_V g l m_X12_look d false 0 (fz_en [.ref 196] 1) [] s (rI Q) := by
  unfold wp_X12_look at H
  refine fs_weak (ls2 := [.ref 196]) (fz_le_e fz_le_n) ?_
  exact V_lp_X12_look_0 hD    2048 H

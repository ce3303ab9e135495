theorem dd_X12_qOpens_0 : decode m_X12_qOpens.2.1 0 = .ok (.aload_n 0, 1) := by decide +kernel
theorem dd_X12_qOpens_1 : decode m_X12_qOpens.2.1 1 = .ok (.getfield 252, 3) := by decide +kernel
theorem dd_X12_qOpens_4 : decode m_X12_qOpens.2.1 4 = .ok (.ifCond .eq 4, 3) := by decide +kernel
theorem dd_X12_qOpens_7 : decode m_X12_qOpens.2.1 7 = .ok (.return_, 1) := by decide +kernel
theorem dd_X12_qOpens_8 : decode m_X12_qOpens.2.1 8 = .ok (.aload_n 0, 1) := by decide +kernel
theorem dd_X12_qOpens_9 : decode m_X12_qOpens.2.1 9 = .ok (.getfield 344, 3) := by decide +kernel
theorem dd_X12_qOpens_12 : decode m_X12_qOpens.2.1 12 = .ok (.bipush 6, 2) := by decide +kernel
theorem dd_X12_qOpens_14 : decode m_X12_qOpens.2.1 14 = .ok (.if_icmp .ne 10, 3) := by decide +kernel
theorem dd_X12_qOpens_17 : decode m_X12_qOpens.2.1 17 = .ok (.aload_n 0, 1) := by decide +kernel
theorem dd_X12_qOpens_18 : decode m_X12_qOpens.2.1 18 = .ok (.iconst 4, 1) := by decide +kernel
theorem dd_X12_qOpens_19 : decode m_X12_qOpens.2.1 19 = .ok (.iload_n 2, 1) := by decide +kernel
theorem dd_X12_qOpens_20 : decode m_X12_qOpens.2.1 20 = .ok (.invokevirtual 282, 3) := by decide +kernel
theorem dd_X12_qOpens_23 : decode m_X12_qOpens.2.1 23 = .ok (.return_, 1) := by decide +kernel
theorem dd_X12_qOpens_24 : decode m_X12_qOpens.2.1 24 = .ok (.aload_n 0, 1) := by decide +kernel
theorem dd_X12_qOpens_25 : decode m_X12_qOpens.2.1 25 = .ok (.dup, 1) := by decide +kernel
theorem dd_X12_qOpens_26 : decode m_X12_qOpens.2.1 26 = .ok (.getfield 344, 3) := by decide +kernel
theorem dd_X12_qOpens_29 : decode m_X12_qOpens.2.1 29 = .ok (.iconst 1, 1) := by decide +kernel
theorem dd_X12_qOpens_30 : decode m_X12_qOpens.2.1 30 = .ok (.iadd, 1) := by decide +kernel
theorem dd_X12_qOpens_31 : decode m_X12_qOpens.2.1 31 = .ok (.putfield 344, 3) := by decide +kernel
theorem dd_X12_qOpens_34 : decode m_X12_qOpens.2.1 34 = .ok (.aload_n 0, 1) := by decide +kernel
theorem dd_X12_qOpens_35 : decode m_X12_qOpens.2.1 35 = .ok (.getfield 240, 3) := by decide +kernel
theorem dd_X12_qOpens_38 : decode m_X12_qOpens.2.1 38 = .ok (.aload_n 0, 1) := by decide +kernel
theorem dd_X12_qOpens_39 : decode m_X12_qOpens.2.1 39 = .ok (.getfield 341, 3) := by decide +kernel
theorem dd_X12_qOpens_42 : decode m_X12_qOpens.2.1 42 = .ok (.iload_n 1, 1) := by decide +kernel
theorem dd_X12_qOpens_43 : decode m_X12_qOpens.2.1 43 = .ok (.iastore, 1) := by decide +kernel
theorem dd_X12_qOpens_44 : decode m_X12_qOpens.2.1 44 = .ok (.aload_n 0, 1) := by decide +kernel
theorem dd_X12_qOpens_45 : decode m_X12_qOpens.2.1 45 = .ok (.dup, 1) := by decide +kernel
theorem dd_X12_qOpens_46 : decode m_X12_qOpens.2.1 46 = .ok (.getfield 341, 3) := by decide +kernel
theorem dd_X12_qOpens_49 : decode m_X12_qOpens.2.1 49 = .ok (.iconst 1, 1) := by decide +kernel
theorem dd_X12_qOpens_50 : decode m_X12_qOpens.2.1 50 = .ok (.iadd, 1) := by decide +kernel
theorem dd_X12_qOpens_51 : decode m_X12_qOpens.2.1 51 = .ok (.putfield 341, 3) := by decide +kernel
theorem dd_X12_qOpens_54 : decode m_X12_qOpens.2.1 54 = .ok (.return_, 1) := by decide +kernel
def wp_X12_qOpens (p0 : Int32) (p1 : Int32) (s : fz_s) (Q : fz_s → Prop) : Prop :=
  (((s.1 196 5) = 0 → ((¬ (s.1 196 104) = 6 → ∀ s1 : fz_s, s1 = si s 196 104 ((s.1 196 104) + 1) → vp_in (s1.1 196 103) 1700 ∧ ∀ s2 : fz_s, s2 = si s1 270 (s1.1 196 103).toNatClampNeg p0 → ∀ s3 : fz_s, s3 = si s2 196 103 ((s2.1 196 103) + 1) → Q s3) ∧ ((s.1 196 104) = 6 → wp_X12_fail 4 p1 s (fun s5 => Q s5)))) ∧ (¬ (s.1 196 5) = 0 → Q s))
set_option maxRecDepth 100000 in
set_option maxHeartbeats 4000000 in
theorem V_X12_qOpens {g : fz_G} {l : Launch} {d : Nat} (hD : 1 ≤ d) {p0 : Int32} {p1 : Int32}  {s : fz_s} {Q : fz_s → Prop} (H : wp_X12_qOpens p0 p1 s Q) : fs_V g l m_X12_qOpens d false 0 (fz_en [.ref 196, .int p0, .int p1] 3) [] s (rV Q) := by
  obtain ⟨d, rfl⟩ : ∃ e, d = e + 1 := ⟨d - 1, by omega⟩
  unfold wp_X12_qOpens at H
  refine fs_aload_n (k0 := 0) (i := 0) dd_X12_qOpens_0 rfl rfl ?_
  refine fs_geti (ci := 12) (j := 5) dd_X12_qOpens_1 fl_X12_252 ca_196 rfl (Or.inl rfl) ?_
  refine fs_if_eq (tgt := 8) dd_X12_qOpens_4 (by decide) (fun hc => ?_) (fun hc => ?_)
  · replace H := H.1 hc
    refine fs_aload_n (k0 := 0) (i := 0) dd_X12_qOpens_8 rfl rfl ?_
    refine fs_geti (ci := 12) (j := 104) dd_X12_qOpens_9 fl_X12_344 ca_196 rfl (Or.inl rfl) ?_
    refine fs_bipush (n := 6) (v := 6) dd_X12_qOpens_12 (by decide) ?_
    refine fs_icmp_ne (tgt := 24) dd_X12_qOpens_14 (by decide) (fun hc => ?_) (fun hc => ?_)
    · replace H := H.1 hc
      refine fs_aload_n (k0 := 0) (i := 0) dd_X12_qOpens_24 rfl rfl ?_
      refine fs_dup dd_X12_qOpens_25 rfl ?_
      refine fs_geti (ci := 12) (j := 104) dd_X12_qOpens_26 fl_X12_344 ca_196 rfl (Or.inl rfl) ?_
      refine fs_iconst (n := 1) (v := 1) dd_X12_qOpens_29 (by decide) ?_
      refine fs_iadd dd_X12_qOpens_30 ?_
      refine fs_puti (ci := 12) (j := 104) dd_X12_qOpens_31 fl_X12_344 (fun _ _ _ h => by cases h; rfl) ca_196 rfl (Or.inl rfl) ?_
      refine fs_tops (fun s1 hs1 => ?_)
      replace H := H s1 hs1
      refine fs_aload_n (k0 := 0) (i := 0) dd_X12_qOpens_34 rfl rfl ?_
      refine fs_getr (ci := 12) (j := 102) (q := 270) dd_X12_qOpens_35 fl_X12_240 ca_196 rfl (Or.inr ⟨_, rfl⟩) rfl (by decide) ?_
      refine fs_aload_n (k0 := 0) (i := 0) dd_X12_qOpens_38 rfl rfl ?_
      refine fs_geti (ci := 12) (j := 103) dd_X12_qOpens_39 fl_X12_341 ca_196 rfl (Or.inl rfl) ?_
      refine fs_iload_n (k0 := 1) (i := 1) dd_X12_qOpens_42 rfl rfl ?_
      have hb := H.1
      replace H := H.2
      refine fs_iast dd_X12_qOpens_43 ca_270 hb ?_
      refine fs_tops (fun s2 hs2 => ?_)
      replace H := H s2 hs2
      refine fs_aload_n (k0 := 0) (i := 0) dd_X12_qOpens_44 rfl rfl ?_
      refine fs_dup dd_X12_qOpens_45 rfl ?_
      refine fs_geti (ci := 12) (j := 103) dd_X12_qOpens_46 fl_X12_341 ca_196 rfl (Or.inl rfl) ?_
      refine fs_iconst (n := 1) (v := 1) dd_X12_qOpens_49 (by decide) ?_
      refine fs_iadd dd_X12_qOpens_50 ?_
      refine fs_puti (ci := 12) (j := 103) dd_X12_qOpens_51 fl_X12_341 (fun _ _ _ h => by cases h; rfl) ca_196 rfl (Or.inl rfl) ?_
      refine fs_tops (fun s3 hs3 => ?_)
      replace H := H s3 hs3
      exact fs_vret dd_X12_qOpens_54 rfl H
    · replace H := H.2 hc
      refine fs_aload_n (k0 := 0) (i := 0) dd_X12_qOpens_17 rfl rfl ?_
      refine fs_iconst (n := 4) (v := 4) dd_X12_qOpens_18 (by decide) ?_
      refine fs_iload_n (k0 := 2) (i := 2) dd_X12_qOpens_19 rfl rfl ?_
      refine fs_callV (y := m_X12_fail) (as := [.int 4, .int p1]) dd_X12_qOpens_20 me_X12_fail lk_X12_282 in_X12_fail se_X12_fail ca_196 rfl rfl rfl (Nat.le_of_ble_eq_true rfl) (Nat.le_of_ble_eq_true rfl) rfl (V_X12_fail (by omega)  H) (k2_V fun s5 H => ?_)
      exact fs_vret dd_X12_qOpens_23 rfl H
  · replace H := H.2 hc
    exact fs_vret dd_X12_qOpens_7 rfl H
theorem dd_X12_qAsksWord_0 : decode m_X12_qAsksWord.2.1 0 = .ok (.iload_n 1, 1) := by decide +kernel
theorem dd_X12_qAsksWord_1 : decode m_X12_qAsksWord.2.1 1 = .ok (.tableswitch 195 0 11 #[63, 74, 85, 96, 107, 118, 129, 140, 151, 162, 173, 184], 63) := by decide +kernel
theorem dd_X12_qAsksWord_64 : decode m_X12_qAsksWord.2.1 64 = .ok (.aload_n 0, 1) := by decide +kernel
theorem dd_X12_qAsksWord_65 : decode m_X12_qAsksWord.2.1 65 = .ok (.aload_n 0, 1) := by decide +kernel
theorem dd_X12_qAsksWord_66 : decode m_X12_qAsksWord.2.1 66 = .ok (.getfield 198, 3) := by decide +kernel
theorem dd_X12_qAsksWord_69 : decode m_X12_qAsksWord.2.1 69 = .ok (.invokevirtual 323, 3) := by decide +kernel
theorem dd_X12_qAsksWord_72 : decode m_X12_qAsksWord.2.1 72 = .ok (.goto 132, 3) := by decide +kernel
theorem dd_X12_qAsksWord_75 : decode m_X12_qAsksWord.2.1 75 = .ok (.aload_n 0, 1) := by decide +kernel
theorem dd_X12_qAsksWord_76 : decode m_X12_qAsksWord.2.1 76 = .ok (.aload_n 0, 1) := by decide +kernel
theorem dd_X12_qAsksWord_77 : decode m_X12_qAsksWord.2.1 77 = .ok (.getfield 201, 3) := by decide +kernel
theorem dd_X12_qAsksWord_80 : decode m_X12_qAsksWord.2.1 80 = .ok (.invokevirtual 323, 3) := by decide +kernel
theorem dd_X12_qAsksWord_83 : decode m_X12_qAsksWord.2.1 83 = .ok (.goto 121, 3) := by decide +kernel
theorem dd_X12_qAsksWord_86 : decode m_X12_qAsksWord.2.1 86 = .ok (.aload_n 0, 1) := by decide +kernel
theorem dd_X12_qAsksWord_87 : decode m_X12_qAsksWord.2.1 87 = .ok (.aload_n 0, 1) := by decide +kernel
theorem dd_X12_qAsksWord_88 : decode m_X12_qAsksWord.2.1 88 = .ok (.getfield 204, 3) := by decide +kernel
theorem dd_X12_qAsksWord_91 : decode m_X12_qAsksWord.2.1 91 = .ok (.invokevirtual 323, 3) := by decide +kernel
theorem dd_X12_qAsksWord_94 : decode m_X12_qAsksWord.2.1 94 = .ok (.goto 110, 3) := by decide +kernel
theorem dd_X12_qAsksWord_97 : decode m_X12_qAsksWord.2.1 97 = .ok (.aload_n 0, 1) := by decide +kernel
theorem dd_X12_qAsksWord_98 : decode m_X12_qAsksWord.2.1 98 = .ok (.aload_n 0, 1) := by decide +kernel
theorem dd_X12_qAsksWord_99 : decode m_X12_qAsksWord.2.1 99 = .ok (.getfield 207, 3) := by decide +kernel
theorem dd_X12_qAsksWord_102 : decode m_X12_qAsksWord.2.1 102 = .ok (.invokevirtual 323, 3) := by decide +kernel
theorem dd_X12_qAsksWord_105 : decode m_X12_qAsksWord.2.1 105 = .ok (.goto 99, 3) := by decide +kernel
theorem dd_X12_qAsksWord_108 : decode m_X12_qAsksWord.2.1 108 = .ok (.aload_n 0, 1) := by decide +kernel
theorem dd_X12_qAsksWord_109 : decode m_X12_qAsksWord.2.1 109 = .ok (.aload_n 0, 1) := by decide +kernel
theorem dd_X12_qAsksWord_110 : decode m_X12_qAsksWord.2.1 110 = .ok (.getfield 210, 3) := by decide +kernel
theorem dd_X12_qAsksWord_113 : decode m_X12_qAsksWord.2.1 113 = .ok (.invokevirtual 323, 3) := by decide +kernel
theorem dd_X12_qAsksWord_116 : decode m_X12_qAsksWord.2.1 116 = .ok (.goto 88, 3) := by decide +kernel
theorem dd_X12_qAsksWord_119 : decode m_X12_qAsksWord.2.1 119 = .ok (.aload_n 0, 1) := by decide +kernel
theorem dd_X12_qAsksWord_120 : decode m_X12_qAsksWord.2.1 120 = .ok (.aload_n 0, 1) := by decide +kernel
theorem dd_X12_qAsksWord_121 : decode m_X12_qAsksWord.2.1 121 = .ok (.getfield 213, 3) := by decide +kernel
theorem dd_X12_qAsksWord_124 : decode m_X12_qAsksWord.2.1 124 = .ok (.invokevirtual 323, 3) := by decide +kernel
theorem dd_X12_qAsksWord_127 : decode m_X12_qAsksWord.2.1 127 = .ok (.goto 77, 3) := by decide +kernel
theorem dd_X12_qAsksWord_130 : decode m_X12_qAsksWord.2.1 130 = .ok (.aload_n 0, 1) := by decide +kernel
theorem dd_X12_qAsksWord_131 : decode m_X12_qAsksWord.2.1 131 = .ok (.aload_n 0, 1) := by decide +kernel
theorem dd_X12_qAsksWord_132 : decode m_X12_qAsksWord.2.1 132 = .ok (.getfield 216, 3) := by decide +kernel
theorem dd_X12_qAsksWord_135 : decode m_X12_qAsksWord.2.1 135 = .ok (.invokevirtual 323, 3) := by decide +kernel
theorem dd_X12_qAsksWord_138 : decode m_X12_qAsksWord.2.1 138 = .ok (.goto 66, 3) := by decide +kernel
theorem dd_X12_qAsksWord_141 : decode m_X12_qAsksWord.2.1 141 = .ok (.aload_n 0, 1) := by decide +kernel
theorem dd_X12_qAsksWord_142 : decode m_X12_qAsksWord.2.1 142 = .ok (.aload_n 0, 1) := by decide +kernel
theorem dd_X12_qAsksWord_143 : decode m_X12_qAsksWord.2.1 143 = .ok (.getfield 219, 3) := by decide +kernel
theorem dd_X12_qAsksWord_146 : decode m_X12_qAsksWord.2.1 146 = .ok (.invokevirtual 323, 3) := by decide +kernel
theorem dd_X12_qAsksWord_149 : decode m_X12_qAsksWord.2.1 149 = .ok (.goto 55, 3) := by decide +kernel
theorem dd_X12_qAsksWord_152 : decode m_X12_qAsksWord.2.1 152 = .ok (.aload_n 0, 1) := by decide +kernel
theorem dd_X12_qAsksWord_153 : decode m_X12_qAsksWord.2.1 153 = .ok (.aload_n 0, 1) := by decide +kernel
theorem dd_X12_qAsksWord_154 : decode m_X12_qAsksWord.2.1 154 = .ok (.getfield 222, 3) := by decide +kernel
theorem dd_X12_qAsksWord_157 : decode m_X12_qAsksWord.2.1 157 = .ok (.invokevirtual 323, 3) := by decide +kernel
theorem dd_X12_qAsksWord_160 : decode m_X12_qAsksWord.2.1 160 = .ok (.goto 44, 3) := by decide +kernel
theorem dd_X12_qAsksWord_163 : decode m_X12_qAsksWord.2.1 163 = .ok (.aload_n 0, 1) := by decide +kernel
theorem dd_X12_qAsksWord_164 : decode m_X12_qAsksWord.2.1 164 = .ok (.aload_n 0, 1) := by decide +kernel
theorem dd_X12_qAsksWord_165 : decode m_X12_qAsksWord.2.1 165 = .ok (.getfield 225, 3) := by decide +kernel
theorem dd_X12_qAsksWord_168 : decode m_X12_qAsksWord.2.1 168 = .ok (.invokevirtual 323, 3) := by decide +kernel
theorem dd_X12_qAsksWord_171 : decode m_X12_qAsksWord.2.1 171 = .ok (.goto 33, 3) := by decide +kernel
theorem dd_X12_qAsksWord_174 : decode m_X12_qAsksWord.2.1 174 = .ok (.aload_n 0, 1) := by decide +kernel
theorem dd_X12_qAsksWord_175 : decode m_X12_qAsksWord.2.1 175 = .ok (.aload_n 0, 1) := by decide +kernel
theorem dd_X12_qAsksWord_176 : decode m_X12_qAsksWord.2.1 176 = .ok (.getfield 228, 3) := by decide +kernel
theorem dd_X12_qAsksWord_179 : decode m_X12_qAsksWord.2.1 179 = .ok (.invokevirtual 323, 3) := by decide +kernel
theorem dd_X12_qAsksWord_182 : decode m_X12_qAsksWord.2.1 182 = .ok (.goto 22, 3) := by decide +kernel
theorem dd_X12_qAsksWord_185 : decode m_X12_qAsksWord.2.1 185 = .ok (.aload_n 0, 1) := by decide +kernel
theorem dd_X12_qAsksWord_186 : decode m_X12_qAsksWord.2.1 186 = .ok (.aload_n 0, 1) := by decide +kernel
theorem dd_X12_qAsksWord_187 : decode m_X12_qAsksWord.2.1 187 = .ok (.getfield 231, 3) := by decide +kernel
theorem dd_X12_qAsksWord_190 : decode m_X12_qAsksWord.2.1 190 = .ok (.invokevirtual 323, 3) := by decide +kernel
theorem dd_X12_qAsksWord_193 : decode m_X12_qAsksWord.2.1 193 = .ok (.goto 11, 3) := by decide +kernel
theorem dd_X12_qAsksWord_196 : decode m_X12_qAsksWord.2.1 196 = .ok (.aload_n 0, 1) := by decide +kernel
theorem dd_X12_qAsksWord_197 : decode m_X12_qAsksWord.2.1 197 = .ok (.aload_n 0, 1) := by decide +kernel
theorem dd_X12_qAsksWord_198 : decode m_X12_qAsksWord.2.1 198 = .ok (.getfield 234, 3) := by decide +kernel
theorem dd_X12_qAsksWord_201 : decode m_X12_qAsksWord.2.1 201 = .ok (.invokevirtual 323, 3) := by decide +kernel
theorem dd_X12_qAsksWord_204 : decode m_X12_qAsksWord.2.1 204 = .ok (.return_, 1) := by decide +kernel
def wp_X12_qAsksWord (p0 : Int32) (s : fz_s) (Q : fz_s → Prop) : Prop :=
  ((p0 = 0 → wp_X12_asks 256 7 s (fun s2 => Q s2)) ∧ (p0 = 1 → wp_X12_asks 257 7 s (fun s4 => Q s4)) ∧ (p0 = 2 → wp_X12_asks 258 4 s (fun s6 => Q s6)) ∧ (p0 = 3 → wp_X12_asks 259 4 s (fun s8 => Q s8)) ∧ (p0 = 4 → wp_X12_asks 260 4 s (fun s10 => Q s10)) ∧ (p0 = 5 → wp_X12_asks 261 5 s (fun s12 => Q s12)) ∧ (p0 = 6 → wp_X12_asks 262 4 s (fun s14 => Q s14)) ∧ (p0 = 7 → wp_X12_asks 263 6 s (fun s16 => Q s16)) ∧ (p0 = 8 → wp_X12_asks 264 6 s (fun s18 => Q s18)) ∧ (p0 = 9 → wp_X12_asks 265 5 s (fun s20 => Q s20)) ∧ (p0 = 10 → wp_X12_asks 266 4 s (fun s22 => Q s22)) ∧ (p0 = 11 → wp_X12_asks 267 7 s (fun s24 => Q s24)) ∧ (¬ p0 = 0 ∧ ¬ p0 = 1 ∧ ¬ p0 = 2 ∧ ¬ p0 = 3 ∧ ¬ p0 = 4 ∧ ¬ p0 = 5 ∧ ¬ p0 = 6 ∧ ¬ p0 = 7 ∧ ¬ p0 = 8 ∧ ¬ p0 = 9 ∧ ¬ p0 = 10 ∧ ¬ p0 = 11 → wp_X12_asks 268 4 s (fun s26 => Q s26)))
set_option maxRecDepth 100000 in
set_option maxHeartbeats 4000000 in
theorem V_X12_qAsksWord {g : fz_G} {l : Launch} {d : Nat} (hD : 4 ≤ d) {p0 : Int32}  {s : fz_s} {Q : fz_s → Prop} (H : wp_X12_qAsksWord p0 s Q) : fs_V g l m_X12_qAsksWord d false 0 (fz_en [.ref 196, .int p0] 2) [] s (rV Q) := by
  obtain ⟨d, rfl⟩ : ∃ e, d = e + 1 := ⟨d - 1, by omega⟩
  unfold wp_X12_qAsksWord at H
  refine fs_iload_n (k0 := 1) (i := 1) dd_X12_qAsksWord_0 rfl rfl ?_
  by_cases hc0 : p0 = 0
  · replace H := H.1 hc0
    refine fs_tableAt (k := 0) (off := 63) (tgt := 64) hc0 dd_X12_qAsksWord_1 (by decide) (by decide) rfl (by decide) ?_
    refine fs_aload_n (k0 := 0) (i := 0) dd_X12_qAsksWord_64 rfl rfl ?_
    refine fs_aload_n (k0 := 0) (i := 0) dd_X12_qAsksWord_65 rfl rfl ?_
    refine fs_getr (ci := 12) (j := 87) (q := 256) dd_X12_qAsksWord_66 fl_X12_198 ca_196 rfl (Or.inr ⟨_, rfl⟩) rfl (by decide) ?_
    refine fs_callV (y := m_X12_asks) (as := [.ref 256]) dd_X12_qAsksWord_69 me_X12_asks lk_X12_323 in_X12_asks se_X12_asks ca_196 rfl rfl rfl (Nat.le_of_ble_eq_true rfl) (Nat.le_of_ble_eq_true rfl) rfl (V_X12_asks (by omega) ca_256 H) (k2_V fun s2 H => ?_)
    refine fs_goto (tgt := 204) dd_X12_qAsksWord_72 (by decide) ?_
    exact fs_vret dd_X12_qAsksWord_204 rfl H
  by_cases hc1 : p0 = 1
  · replace H := H.2.1 hc1
    refine fs_tableAt (k := 1) (off := 74) (tgt := 75) hc1 dd_X12_qAsksWord_1 (by decide) (by decide) rfl (by decide) ?_
    refine fs_aload_n (k0 := 0) (i := 0) dd_X12_qAsksWord_75 rfl rfl ?_
    refine fs_aload_n (k0 := 0) (i := 0) dd_X12_qAsksWord_76 rfl rfl ?_
    refine fs_getr (ci := 12) (j := 88) (q := 257) dd_X12_qAsksWord_77 fl_X12_201 ca_196 rfl (Or.inr ⟨_, rfl⟩) rfl (by decide) ?_
    refine fs_callV (y := m_X12_asks) (as := [.ref 257]) dd_X12_qAsksWord_80 me_X12_asks lk_X12_323 in_X12_asks se_X12_asks ca_196 rfl rfl rfl (Nat.le_of_ble_eq_true rfl) (Nat.le_of_ble_eq_true rfl) rfl (V_X12_asks (by omega) ca_257 H) (k2_V fun s4 H => ?_)
    refine fs_goto (tgt := 204) dd_X12_qAsksWord_83 (by decide) ?_
    exact fs_vret dd_X12_qAsksWord_204 rfl H
  by_cases hc2 : p0 = 2
  · replace H := H.2.2.1 hc2
    refine fs_tableAt (k := 2) (off := 85) (tgt := 86) hc2 dd_X12_qAsksWord_1 (by decide) (by decide) rfl (by decide) ?_
    refine fs_aload_n (k0 := 0) (i := 0) dd_X12_qAsksWord_86 rfl rfl ?_
    refine fs_aload_n (k0 := 0) (i := 0) dd_X12_qAsksWord_87 rfl rfl ?_
    refine fs_getr (ci := 12) (j := 89) (q := 258) dd_X12_qAsksWord_88 fl_X12_204 ca_196 rfl (Or.inr ⟨_, rfl⟩) rfl (by decide) ?_
    refine fs_callV (y := m_X12_asks) (as := [.ref 258]) dd_X12_qAsksWord_91 me_X12_asks lk_X12_323 in_X12_asks se_X12_asks ca_196 rfl rfl rfl (Nat.le_of_ble_eq_true rfl) (Nat.le_of_ble_eq_true rfl) rfl (V_X12_asks (by omega) ca_258 H) (k2_V fun s6 H => ?_)
    refine fs_goto (tgt := 204) dd_X12_qAsksWord_94 (by decide) ?_
    exact fs_vret dd_X12_qAsksWord_204 rfl H
  by_cases hc3 : p0 = 3
  · replace H := H.2.2.2.1 hc3
    refine fs_tableAt (k := 3) (off := 96) (tgt := 97) hc3 dd_X12_qAsksWord_1 (by decide) (by decide) rfl (by decide) ?_
    refine fs_aload_n (k0 := 0) (i := 0) dd_X12_qAsksWord_97 rfl rfl ?_
    refine fs_aload_n (k0 := 0) (i := 0) dd_X12_qAsksWord_98 rfl rfl ?_
    refine fs_getr (ci := 12) (j := 90) (q := 259) dd_X12_qAsksWord_99 fl_X12_207 ca_196 rfl (Or.inr ⟨_, rfl⟩) rfl (by decide) ?_
    refine fs_callV (y := m_X12_asks) (as := [.ref 259]) dd_X12_qAsksWord_102 me_X12_asks lk_X12_323 in_X12_asks se_X12_asks ca_196 rfl rfl rfl (Nat.le_of_ble_eq_true rfl) (Nat.le_of_ble_eq_true rfl) rfl (V_X12_asks (by omega) ca_259 H) (k2_V fun s8 H => ?_)
    refine fs_goto (tgt := 204) dd_X12_qAsksWord_105 (by decide) ?_
    exact fs_vret dd_X12_qAsksWord_204 rfl H
  by_cases hc4 : p0 = 4
  · replace H := H.2.2.2.2.1 hc4
    refine fs_tableAt (k := 4) (off := 107) (tgt := 108) hc4 dd_X12_qAsksWord_1 (by decide) (by decide) rfl (by decide) ?_
    refine fs_aload_n (k0 := 0) (i := 0) dd_X12_qAsksWord_108 rfl rfl ?_
    refine fs_aload_n (k0 := 0) (i := 0) dd_X12_qAsksWord_109 rfl rfl ?_
    refine fs_getr (ci := 12) (j := 91) (q := 260) dd_X12_qAsksWord_110 fl_X12_210 ca_196 rfl (Or.inr ⟨_, rfl⟩) rfl (by decide) ?_
    refine fs_callV (y := m_X12_asks) (as := [.ref 260]) dd_X12_qAsksWord_113 me_X12_asks lk_X12_323 in_X12_asks se_X12_asks ca_196 rfl rfl rfl (Nat.le_of_ble_eq_true rfl) (Nat.le_of_ble_eq_true rfl) rfl (V_X12_asks (by omega) ca_260 H) (k2_V fun s10 H => ?_)
    refine fs_goto (tgt := 204) dd_X12_qAsksWord_116 (by decide) ?_
    exact fs_vret dd_X12_qAsksWord_204 rfl H
  by_cases hc5 : p0 = 5
  · replace H := H.2.2.2.2.2.1 hc5
    refine fs_tableAt (k := 5) (off := 118) (tgt := 119) hc5 dd_X12_qAsksWord_1 (by decide) (by decide) rfl (by decide) ?_
    refine fs_aload_n (k0 := 0) (i := 0) dd_X12_qAsksWord_119 rfl rfl ?_
    refine fs_aload_n (k0 := 0) (i := 0) dd_X12_qAsksWord_120 rfl rfl ?_
    refine fs_getr (ci := 12) (j := 92) (q := 261) dd_X12_qAsksWord_121 fl_X12_213 ca_196 rfl (Or.inr ⟨_, rfl⟩) rfl (by decide) ?_
    refine fs_callV (y := m_X12_asks) (as := [.ref 261]) dd_X12_qAsksWord_124 me_X12_asks lk_X12_323 in_X12_asks se_X12_asks ca_196 rfl rfl rfl (Nat.le_of_ble_eq_true rfl) (Nat.le_of_ble_eq_true rfl) rfl (V_X12_asks (by omega) ca_261 H) (k2_V fun s12 H => ?_)
    refine fs_goto (tgt := 204) dd_X12_qAsksWord_127 (by decide) ?_
    exact fs_vret dd_X12_qAsksWord_204 rfl H
  by_cases hc6 : p0 = 6
  · replace H := H.2.2.2.2.2.2.1 hc6
    refine fs_tableAt (k := 6) (off := 129) (tgt := 130) hc6 dd_X12_qAsksWord_1 (by decide) (by decide) rfl (by decide) ?_
    refine fs_aload_n (k0 := 0) (i := 0) dd_X12_qAsksWord_130 rfl rfl ?_
    refine fs_aload_n (k0 := 0) (i := 0) dd_X12_qAsksWord_131 rfl rfl ?_
    refine fs_getr (ci := 12) (j := 93) (q := 262) dd_X12_qAsksWord_132 fl_X12_216 ca_196 rfl (Or.inr ⟨_, rfl⟩) rfl (by decide) ?_
    refine fs_callV (y := m_X12_asks) (as := [.ref 262]) dd_X12_qAsksWord_135 me_X12_asks lk_X12_323 in_X12_asks se_X12_asks ca_196 rfl rfl rfl (Nat.le_of_ble_eq_true rfl) (Nat.le_of_ble_eq_true rfl) rfl (V_X12_asks (by omega) ca_262 H) (k2_V fun s14 H => ?_)
    refine fs_goto (tgt := 204) dd_X12_qAsksWord_138 (by decide) ?_
    exact fs_vret dd_X12_qAsksWord_204 rfl H
  by_cases hc7 : p0 = 7
  · replace H := H.2.2.2.2.2.2.2.1 hc7
    refine fs_tableAt (k := 7) (off := 140) (tgt := 141) hc7 dd_X12_qAsksWord_1 (by decide) (by decide) rfl (by decide) ?_
    refine fs_aload_n (k0 := 0) (i := 0) dd_X12_qAsksWord_141 rfl rfl ?_
    refine fs_aload_n (k0 := 0) (i := 0) dd_X12_qAsksWord_142 rfl rfl ?_
    refine fs_getr (ci := 12) (j := 94) (q := 263) dd_X12_qAsksWord_143 fl_X12_219 ca_196 rfl (Or.inr ⟨_, rfl⟩) rfl (by decide) ?_
    refine fs_callV (y := m_X12_asks) (as := [.ref 263]) dd_X12_qAsksWord_146 me_X12_asks lk_X12_323 in_X12_asks se_X12_asks ca_196 rfl rfl rfl (Nat.le_of_ble_eq_true rfl) (Nat.le_of_ble_eq_true rfl) rfl (V_X12_asks (by omega) ca_263 H) (k2_V fun s16 H => ?_)
    refine fs_goto (tgt := 204) dd_X12_qAsksWord_149 (by decide) ?_
    exact fs_vret dd_X12_qAsksWord_204 rfl H
  by_cases hc8 : p0 = 8
  · replace H := H.2.2.2.2.2.2.2.2.1 hc8
    refine fs_tableAt (k := 8) (off := 151) (tgt := 152) hc8 dd_X12_qAsksWord_1 (by decide) (by decide) rfl (by decide) ?_
    refine fs_aload_n (k0 := 0) (i := 0) dd_X12_qAsksWord_152 rfl rfl ?_
    refine fs_aload_n (k0 := 0) (i := 0) dd_X12_qAsksWord_153 rfl rfl ?_
    refine fs_getr (ci := 12) (j := 95) (q := 264) dd_X12_qAsksWord_154 fl_X12_222 ca_196 rfl (Or.inr ⟨_, rfl⟩) rfl (by decide) ?_
    refine fs_callV (y := m_X12_asks) (as := [.ref 264]) dd_X12_qAsksWord_157 me_X12_asks lk_X12_323 in_X12_asks se_X12_asks ca_196 rfl rfl rfl (Nat.le_of_ble_eq_true rfl) (Nat.le_of_ble_eq_true rfl) rfl (V_X12_asks (by omega) ca_264 H) (k2_V fun s18 H => ?_)
    refine fs_goto (tgt := 204) dd_X12_qAsksWord_160 (by decide) ?_
    exact fs_vret dd_X12_qAsksWord_204 rfl H
  by_cases hc9 : p0 = 9
  · replace H := H.2.2.2.2.2.2.2.2.2.1 hc9
    refine fs_tableAt (k := 9) (off := 162) (tgt := 163) hc9 dd_X12_qAsksWord_1 (by decide) (by decide) rfl (by decide) ?_
    refine fs_aload_n (k0 := 0) (i := 0) dd_X12_qAsksWord_163 rfl rfl ?_
    refine fs_aload_n (k0 := 0) (i := 0) dd_X12_qAsksWord_164 rfl rfl ?_
    refine fs_getr (ci := 12) (j := 96) (q := 265) dd_X12_qAsksWord_165 fl_X12_225 ca_196 rfl (Or.inr ⟨_, rfl⟩) rfl (by decide) ?_
    refine fs_callV (y := m_X12_asks) (as := [.ref 265]) dd_X12_qAsksWord_168 me_X12_asks lk_X12_323 in_X12_asks se_X12_asks ca_196 rfl rfl rfl (Nat.le_of_ble_eq_true rfl) (Nat.le_of_ble_eq_true rfl) rfl (V_X12_asks (by omega) ca_265 H) (k2_V fun s20 H => ?_)
    refine fs_goto (tgt := 204) dd_X12_qAsksWord_171 (by decide) ?_
    exact fs_vret dd_X12_qAsksWord_204 rfl H
  by_cases hc10 : p0 = 10
  · replace H := H.2.2.2.2.2.2.2.2.2.2.1 hc10
    refine fs_tableAt (k := 10) (off := 173) (tgt := 174) hc10 dd_X12_qAsksWord_1 (by decide) (by decide) rfl (by decide) ?_
    refine fs_aload_n (k0 := 0) (i := 0) dd_X12_qAsksWord_174 rfl rfl ?_
    refine fs_aload_n (k0 := 0) (i := 0) dd_X12_qAsksWord_175 rfl rfl ?_
    refine fs_getr (ci := 12) (j := 97) (q := 266) dd_X12_qAsksWord_176 fl_X12_228 ca_196 rfl (Or.inr ⟨_, rfl⟩) rfl (by decide) ?_
    refine fs_callV (y := m_X12_asks) (as := [.ref 266]) dd_X12_qAsksWord_179 me_X12_asks lk_X12_323 in_X12_asks se_X12_asks ca_196 rfl rfl rfl (Nat.le_of_ble_eq_true rfl) (Nat.le_of_ble_eq_true rfl) rfl (V_X12_asks (by omega) ca_266 H) (k2_V fun s22 H => ?_)
    refine fs_goto (tgt := 204) dd_X12_qAsksWord_182 (by decide) ?_
    exact fs_vret dd_X12_qAsksWord_204 rfl H
  by_cases hc11 : p0 = 11
  · replace H := H.2.2.2.2.2.2.2.2.2.2.2.1 hc11
    refine fs_tableAt (k := 11) (off := 184) (tgt := 185) hc11 dd_X12_qAsksWord_1 (by decide) (by decide) rfl (by decide) ?_
    refine fs_aload_n (k0 := 0) (i := 0) dd_X12_qAsksWord_185 rfl rfl ?_
    refine fs_aload_n (k0 := 0) (i := 0) dd_X12_qAsksWord_186 rfl rfl ?_
    refine fs_getr (ci := 12) (j := 98) (q := 267) dd_X12_qAsksWord_187 fl_X12_231 ca_196 rfl (Or.inr ⟨_, rfl⟩) rfl (by decide) ?_
    refine fs_callV (y := m_X12_asks) (as := [.ref 267]) dd_X12_qAsksWord_190 me_X12_asks lk_X12_323 in_X12_asks se_X12_asks ca_196 rfl rfl rfl (Nat.le_of_ble_eq_true rfl) (Nat.le_of_ble_eq_true rfl) rfl (V_X12_asks (by omega) ca_267 H) (k2_V fun s24 H => ?_)
    refine fs_goto (tgt := 204) dd_X12_qAsksWord_193 (by decide) ?_
    exact fs_vret dd_X12_qAsksWord_204 rfl H
  replace H := H.2.2.2.2.2.2.2.2.2.2.2.2 ⟨hc0, hc1, hc2, hc3, hc4, hc5, hc6, hc7, hc8, hc9, hc10, hc11⟩
  refine fs_tableOut' (ks := [0, 1, 2, 3, 4, 5, 6, 7, 8, 9, 10, 11]) (tgt := 196) (by simp only [List.forall_mem_cons]; exact ⟨hc0, hc1, hc2, hc3, hc4, hc5, hc6, hc7, hc8, hc9, hc10, hc11, fun _ h => by cases h⟩) dd_X12_qAsksWord_1 (by decide) (by decide) ?_
  refine fs_aload_n (k0 := 0) (i := 0) dd_X12_qAsksWord_196 rfl rfl ?_
  refine fs_aload_n (k0 := 0) (i := 0) dd_X12_qAsksWord_197 rfl rfl ?_
  refine fs_getr (ci := 12) (j := 99) (q := 268) dd_X12_qAsksWord_198 fl_X12_234 ca_196 rfl (Or.inr ⟨_, rfl⟩) rfl (by decide) ?_
  refine fs_callV (y := m_X12_asks) (as := [.ref 268]) dd_X12_qAsksWord_201 me_X12_asks lk_X12_323 in_X12_asks se_X12_asks ca_196 rfl rfl rfl (Nat.le_of_ble_eq_true rfl) (Nat.le_of_ble_eq_true rfl) rfl (V_X12_asks (by omega) ca_268 H) (k2_V fun s26 H => ?_)
  exact fs_vret dd_X12_qAsksWord_204 rfl H
theorem dd_X12_qCode_0 : decode m_X12_qCode.2.1 0 = .ok (.aload_n 0, 1) := by decide +kernel
theorem dd_X12_qCode_1 : decode m_X12_qCode.2.1 1 = .ok (.getfield 237, 3) := by decide +kernel
theorem dd_X12_qCode_4 : decode m_X12_qCode.2.1 4 = .ok (.aload_n 0, 1) := by decide +kernel
theorem dd_X12_qCode_5 : decode m_X12_qCode.2.1 5 = .ok (.getfield 338, 3) := by decide +kernel
theorem dd_X12_qCode_8 : decode m_X12_qCode.2.1 8 = .ok (.iload_n 1, 1) := by decide +kernel
theorem dd_X12_qCode_9 : decode m_X12_qCode.2.1 9 = .ok (.iastore, 1) := by decide +kernel
theorem dd_X12_qCode_10 : decode m_X12_qCode.2.1 10 = .ok (.aload_n 0, 1) := by decide +kernel
theorem dd_X12_qCode_11 : decode m_X12_qCode.2.1 11 = .ok (.dup, 1) := by decide +kernel
theorem dd_X12_qCode_12 : decode m_X12_qCode.2.1 12 = .ok (.getfield 338, 3) := by decide +kernel
theorem dd_X12_qCode_15 : decode m_X12_qCode.2.1 15 = .ok (.iconst 1, 1) := by decide +kernel
theorem dd_X12_qCode_16 : decode m_X12_qCode.2.1 16 = .ok (.iadd, 1) := by decide +kernel
theorem dd_X12_qCode_17 : decode m_X12_qCode.2.1 17 = .ok (.putfield 338, 3) := by decide +kernel
theorem dd_X12_qCode_20 : decode m_X12_qCode.2.1 20 = .ok (.return_, 1) := by decide +kernel
def wp_X12_qCode (p0 : Int32) (s : fz_s) (Q : fz_s → Prop) : Prop :=
  vp_in (s.1 196 101) 1700 ∧ ∀ s1 : fz_s, s1 = si s 269 (s.1 196 101).toNatClampNeg p0 → ∀ s2 : fz_s, s2 = si s1 196 101 ((s1.1 196 101) + 1) → Q s2
set_option maxRecDepth 100000 in
set_option maxHeartbeats 4000000 in
theorem V_X12_qCode {g : fz_G} {l : Launch} {d : Nat} (hD : 0 ≤ d) {p0 : Int32}  {s : fz_s} {Q : fz_s → Prop} (H : wp_X12_qCode p0 s Q) : fs_V g l m_X12_qCode d false 0 (fz_en [.ref 196, .int p0] 2) [] s (rV Q) := by
  unfold wp_X12_qCode at H
  refine fs_aload_n (k0 := 0) (i := 0) dd_X12_qCode_0 rfl rfl ?_
  refine fs_getr (ci := 12) (j := 100) (q := 269) dd_X12_qCode_1 fl_X12_237 ca_196 rfl (Or.inr ⟨_, rfl⟩) rfl (by decide) ?_
  refine fs_aload_n (k0 := 0) (i := 0) dd_X12_qCode_4 rfl rfl ?_
  refine fs_geti (ci := 12) (j := 101) dd_X12_qCode_5 fl_X12_338 ca_196 rfl (Or.inl rfl) ?_
  refine fs_iload_n (k0 := 1) (i := 1) dd_X12_qCode_8 rfl rfl ?_
  have hb := H.1
  replace H := H.2
  refine fs_iast dd_X12_qCode_9 ca_269 hb ?_
  refine fs_tops (fun s1 hs1 => ?_)
  replace H := H s1 hs1
  refine fs_aload_n (k0 := 0) (i := 0) dd_X12_qCode_10 rfl rfl ?_
  refine fs_dup dd_X12_qCode_11 rfl ?_
  refine fs_geti (ci := 12) (j := 101) dd_X12_qCode_12 fl_X12_338 ca_196 rfl (Or.inl rfl) ?_
  refine fs_iconst (n := 1) (v := 1) dd_X12_qCode_15 (by decide) ?_
  refine fs_iadd dd_X12_qCode_16 ?_
  refine fs_puti (ci := 12) (j := 101) dd_X12_qCode_17 fl_X12_338 (fun _ _ _ h => by cases h; rfl) ca_196 rfl (Or.inl rfl) ?_
  refine fs_tops (fun s2 hs2 => ?_)
  replace H := H s2 hs2
  exact fs_vret dd_X12_qCode_20 rfl H
theorem dd_X12_qDrops_0 : decode m_X12_qDrops.2.1 0 = .ok (.aload_n 0, 1) := by decide +kernel
theorem dd_X12_qDrops_1 : decode m_X12_qDrops.2.1 1 = .ok (.dup, 1) := by decide +kernel
theorem dd_X12_qDrops_2 : decode m_X12_qDrops.2.1 2 = .ok (.getfield 341, 3) := by decide +kernel
theorem dd_X12_qDrops_5 : decode m_X12_qDrops.2.1 5 = .ok (.iconst 1, 1) := by decide +kernel
theorem dd_X12_qDrops_6 : decode m_X12_qDrops.2.1 6 = .ok (.isub, 1) := by decide +kernel
theorem dd_X12_qDrops_7 : decode m_X12_qDrops.2.1 7 = .ok (.putfield 341, 3) := by decide +kernel
theorem dd_X12_qDrops_10 : decode m_X12_qDrops.2.1 10 = .ok (.aload_n 0, 1) := by decide +kernel
theorem dd_X12_qDrops_11 : decode m_X12_qDrops.2.1 11 = .ok (.aload_n 0, 1) := by decide +kernel
theorem dd_X12_qDrops_12 : decode m_X12_qDrops.2.1 12 = .ok (.getfield 240, 3) := by decide +kernel
theorem dd_X12_qDrops_15 : decode m_X12_qDrops.2.1 15 = .ok (.aload_n 0, 1) := by decide +kernel
theorem dd_X12_qDrops_16 : decode m_X12_qDrops.2.1 16 = .ok (.getfield 341, 3) := by decide +kernel
theorem dd_X12_qDrops_19 : decode m_X12_qDrops.2.1 19 = .ok (.iaload, 1) := by decide +kernel
theorem dd_X12_qDrops_20 : decode m_X12_qDrops.2.1 20 = .ok (.invokevirtual 608, 3) := by decide +kernel
theorem dd_X12_qDrops_23 : decode m_X12_qDrops.2.1 23 = .ok (.return_, 1) := by decide +kernel
def wp_X12_qDrops  (s : fz_s) (Q : fz_s → Prop) : Prop :=
  ∀ s1 : fz_s, s1 = si s 196 103 ((s.1 196 103) - 1) → vp_in (s1.1 196 103) 1700 ∧ wp_X12_qCode (s1.1 270 (s1.1 196 103).toNatClampNeg) s1 (fun s3 => Q s3)
set_option maxRecDepth 100000 in
set_option maxHeartbeats 4000000 in
theorem V_X12_qDrops {g : fz_G} {l : Launch} {d : Nat} (hD : 1 ≤ d)   {s : fz_s} {Q : fz_s → Prop} (H : wp_X12_qDrops  s Q) : fs_V g l m_X12_qDrops d false 0 (fz_en [.ref 196] 1) [] s (rV Q) := by
  obtain ⟨d, rfl⟩ : ∃ e, d = e + 1 := ⟨d - 1, by omega⟩
  unfold wp_X12_qDrops at H
  refine fs_aload_n (k0 := 0) (i := 0) dd_X12_qDrops_0 rfl rfl ?_
  refine fs_dup dd_X12_qDrops_1 rfl ?_
  refine fs_geti (ci := 12) (j := 103) dd_X12_qDrops_2 fl_X12_341 ca_196 rfl (Or.inl rfl) ?_
  refine fs_iconst (n := 1) (v := 1) dd_X12_qDrops_5 (by decide) ?_
  refine fs_isub dd_X12_qDrops_6 ?_
  refine fs_puti (ci := 12) (j := 103) dd_X12_qDrops_7 fl_X12_341 (fun _ _ _ h => by cases h; rfl) ca_196 rfl (Or.inl rfl) ?_
  refine fs_tops (fun s1 hs1 => ?_)
  replace H := H s1 hs1
  refine fs_aload_n (k0 := 0) (i := 0) dd_X12_qDrops_10 rfl rfl ?_
  refine fs_aload_n (k0 := 0) (i := 0) dd_X12_qDrops_11 rfl rfl ?_
  refine fs_getr (ci := 12) (j := 102) (q := 270) dd_X12_qDrops_12 fl_X12_240 ca_196 rfl (Or.inr ⟨_, rfl⟩) rfl (by decide) ?_
  refine fs_aload_n (k0 := 0) (i := 0) dd_X12_qDrops_15 rfl rfl ?_
  refine fs_geti (ci := 12) (j := 103) dd_X12_qDrops_16 fl_X12_341 ca_196 rfl (Or.inl rfl) ?_
  have hb := H.1
  replace H := H.2
  refine fs_iald dd_X12_qDrops_19 ca_270 hb ?_
  refine fs_callV (y := m_X12_qCode) (as := [.int (s1.1 270 (s1.1 196 103).toNatClampNeg)]) dd_X12_qDrops_20 me_X12_qCode lk_X12_608 in_X12_qCode se_X12_qCode ca_196 rfl rfl rfl (Nat.le_of_ble_eq_true rfl) (Nat.le_of_ble_eq_true rfl) rfl (V_X12_qCode (by omega)  H) (k2_V fun s3 H => ?_)
  exact fs_vret dd_X12_qDrops_23 rfl H
theorem dd_X12_qEndsPart_0 : decode m_X12_qEndsPart.2.1 0 = .ok (.aload_n 0, 1) := by decide +kernel
theorem dd_X12_qEndsPart_1 : decode m_X12_qEndsPart.2.1 1 = .ok (.getfield 252, 3) := by decide +kernel
theorem dd_X12_qEndsPart_4 : decode m_X12_qEndsPart.2.1 4 = .ok (.ifCond .ne 47, 3) := by decide +kernel
theorem dd_X12_qEndsPart_7 : decode m_X12_qEndsPart.2.1 7 = .ok (.aload_n 0, 1) := by decide +kernel
theorem dd_X12_qEndsPart_8 : decode m_X12_qEndsPart.2.1 8 = .ok (.getfield 341, 3) := by decide +kernel
theorem dd_X12_qEndsPart_11 : decode m_X12_qEndsPart.2.1 11 = .ok (.aload_n 0, 1) := by decide +kernel
theorem dd_X12_qEndsPart_12 : decode m_X12_qEndsPart.2.1 12 = .ok (.getfield 347, 3) := by decide +kernel
theorem dd_X12_qEndsPart_15 : decode m_X12_qEndsPart.2.1 15 = .ok (.if_icmp .le 36, 3) := by decide +kernel
theorem dd_X12_qEndsPart_18 : decode m_X12_qEndsPart.2.1 18 = .ok (.aload_n 0, 1) := by decide +kernel
theorem dd_X12_qEndsPart_19 : decode m_X12_qEndsPart.2.1 19 = .ok (.getfield 240, 3) := by decide +kernel
theorem dd_X12_qEndsPart_22 : decode m_X12_qEndsPart.2.1 22 = .ok (.aload_n 0, 1) := by decide +kernel
theorem dd_X12_qEndsPart_23 : decode m_X12_qEndsPart.2.1 23 = .ok (.getfield 341, 3) := by decide +kernel
theorem dd_X12_qEndsPart_26 : decode m_X12_qEndsPart.2.1 26 = .ok (.iconst 1, 1) := by decide +kernel
theorem dd_X12_qEndsPart_27 : decode m_X12_qEndsPart.2.1 27 = .ok (.isub, 1) := by decide +kernel
theorem dd_X12_qEndsPart_28 : decode m_X12_qEndsPart.2.1 28 = .ok (.iaload, 1) := by decide +kernel
theorem dd_X12_qEndsPart_29 : decode m_X12_qEndsPart.2.1 29 = .ok (.bipush 60, 2) := by decide +kernel
theorem dd_X12_qEndsPart_31 : decode m_X12_qEndsPart.2.1 31 = .ok (.if_icmp .lt 20, 3) := by decide +kernel
theorem dd_X12_qEndsPart_34 : decode m_X12_qEndsPart.2.1 34 = .ok (.aload_n 0, 1) := by decide +kernel
theorem dd_X12_qEndsPart_35 : decode m_X12_qEndsPart.2.1 35 = .ok (.dup, 1) := by decide +kernel
theorem dd_X12_qEndsPart_36 : decode m_X12_qEndsPart.2.1 36 = .ok (.getfield 344, 3) := by decide +kernel
theorem dd_X12_qEndsPart_39 : decode m_X12_qEndsPart.2.1 39 = .ok (.iconst 1, 1) := by decide +kernel
theorem dd_X12_qEndsPart_40 : decode m_X12_qEndsPart.2.1 40 = .ok (.isub, 1) := by decide +kernel
theorem dd_X12_qEndsPart_41 : decode m_X12_qEndsPart.2.1 41 = .ok (.putfield 344, 3) := by decide +kernel
theorem dd_X12_qEndsPart_44 : decode m_X12_qEndsPart.2.1 44 = .ok (.aload_n 0, 1) := by decide +kernel
theorem dd_X12_qEndsPart_45 : decode m_X12_qEndsPart.2.1 45 = .ok (.invokevirtual 614, 3) := by decide +kernel
theorem dd_X12_qEndsPart_48 : decode m_X12_qEndsPart.2.1 48 = .ok (.goto (-48), 3) := by decide +kernel
theorem dd_X12_qEndsPart_51 : decode m_X12_qEndsPart.2.1 51 = .ok (.return_, 1) := by decide +kernel
def nd_X12_qEndsPart_0  (K0 : fz_s → Prop) (Q : fz_s → Prop)  (s : fz_s) : Prop :=
  ((¬ (s.1 196 5) = 0 → Q s) ∧ ((s.1 196 5) = 0 → (((s.1 196 103) ≤ (s.1 196 105) → Q s) ∧ (¬ (s.1 196 103) ≤ (s.1 196 105) → vp_in ((s.1 196 103) - 1) 1700 ∧ (((s.1 270 ((s.1 196 103) - 1).toNatClampNeg) < 60 → Q s) ∧ (¬ (s.1 270 ((s.1 196 103) - 1).toNatClampNeg) < 60 → ∀ s1 : fz_s, s1 = si s 196 104 ((s.1 196 104) - 1) → wp_X12_qDrops  s1 (fun s3 => K0  s3)))))))
def lp_X12_qEndsPart_0   (Q : fz_s → Prop) : Nat → fz_s → Prop
  | 0 => fun  _ => False
  | n + 1 => nd_X12_qEndsPart_0  (lp_X12_qEndsPart_0   Q n) Q
def wp_X12_qEndsPart  (s : fz_s) (Q : fz_s → Prop) : Prop :=
  lp_X12_qEndsPart_0   Q 2048  s
set_option maxRecDepth 100000 in
set_option maxHeartbeats 4000000 in
theorem V_nd_X12_qEndsPart_0 {g : fz_G} {l : Launch} {d : Nat} (hD : 2 ≤ d)   {K0 : fz_s → Prop} {Q : fz_s → Prop}  {s : fz_s} (hK0 : ∀ {s : fz_s}, K0 s → fs_V g l m_X12_qEndsPart d false 0 [.ref 196] [] s (rV Q)) (H : nd_X12_qEndsPart_0  K0 Q  s) : fs_V g l m_X12_qEndsPart d false 0 [.ref 196] [] s (rV Q) := by
  obtain ⟨d, rfl⟩ : ∃ e, d = e + 1 := ⟨d - 1, by omega⟩
  unfold nd_X12_qEndsPart_0 at H
  refine fs_aload_n (k0 := 0) (i := 0) dd_X12_qEndsPart_0 rfl rfl ?_
  refine fs_geti (ci := 12) (j := 5) dd_X12_qEndsPart_1 fl_X12_252 ca_196 rfl (Or.inl rfl) ?_
  refine fs_if_ne (tgt := 51) dd_X12_qEndsPart_4 (by decide) (fun hc => ?_) (fun hc => ?_)
  · replace H := H.1 hc
    exact fs_vret dd_X12_qEndsPart_51 rfl H
  · replace H := H.2 hc
    refine fs_aload_n (k0 := 0) (i := 0) dd_X12_qEndsPart_7 rfl rfl ?_
    refine fs_geti (ci := 12) (j := 103) dd_X12_qEndsPart_8 fl_X12_341 ca_196 rfl (Or.inl rfl) ?_
    refine fs_aload_n (k0 := 0) (i := 0) dd_X12_qEndsPart_11 rfl rfl ?_
    refine fs_geti (ci := 12) (j := 105) dd_X12_qEndsPart_12 fl_X12_347 ca_196 rfl (Or.inl rfl) ?_
    refine fs_icmp_le (tgt := 51) dd_X12_qEndsPart_15 (by decide) (fun hc => ?_) (fun hc => ?_)
    · replace H := H.1 hc
      exact fs_vret dd_X12_qEndsPart_51 rfl H
    · replace H := H.2 hc
      refine fs_aload_n (k0 := 0) (i := 0) dd_X12_qEndsPart_18 rfl rfl ?_
      refine fs_getr (ci := 12) (j := 102) (q := 270) dd_X12_qEndsPart_19 fl_X12_240 ca_196 rfl (Or.inr ⟨_, rfl⟩) rfl (by decide) ?_
      refine fs_aload_n (k0 := 0) (i := 0) dd_X12_qEndsPart_22 rfl rfl ?_
      refine fs_geti (ci := 12) (j := 103) dd_X12_qEndsPart_23 fl_X12_341 ca_196 rfl (Or.inl rfl) ?_
      refine fs_iconst (n := 1) (v := 1) dd_X12_qEndsPart_26 (by decide) ?_
      refine fs_isub dd_X12_qEndsPart_27 ?_
      have hb := H.1
      replace H := H.2
      refine fs_iald dd_X12_qEndsPart_28 ca_270 hb ?_
      refine fs_bipush (n := 60) (v := 60) dd_X12_qEndsPart_29 (by decide) ?_
      refine fs_icmp_lt (tgt := 51) dd_X12_qEndsPart_31 (by decide) (fun hc => ?_) (fun hc => ?_)
      · replace H := H.1 hc
        exact fs_vret dd_X12_qEndsPart_51 rfl H
      · replace H := H.2 hc
        refine fs_aload_n (k0 := 0) (i := 0) dd_X12_qEndsPart_34 rfl rfl ?_
        refine fs_dup dd_X12_qEndsPart_35 rfl ?_
        refine fs_geti (ci := 12) (j := 104) dd_X12_qEndsPart_36 fl_X12_344 ca_196 rfl (Or.inl rfl) ?_
        refine fs_iconst (n := 1) (v := 1) dd_X12_qEndsPart_39 (by decide) ?_
        refine fs_isub dd_X12_qEndsPart_40 ?_
        refine fs_puti (ci := 12) (j := 104) dd_X12_qEndsPart_41 fl_X12_344 (fun _ _ _ h => by cases h; rfl) ca_196 rfl (Or.inl rfl) ?_
        refine fs_tops (fun s1 hs1 => ?_)
        replace H := H s1 hs1
        refine fs_aload_n (k0 := 0) (i := 0) dd_X12_qEndsPart_44 rfl rfl ?_
        refine fs_callV (y := m_X12_qDrops) (as := []) dd_X12_qEndsPart_45 me_X12_qDrops lk_X12_614 in_X12_qDrops se_X12_qDrops ca_196 rfl rfl rfl (Nat.le_of_ble_eq_true rfl) (Nat.le_of_ble_eq_true rfl) rfl (V_X12_qDrops (by omega)  H) (k2_V fun s3 H => ?_)
        refine fs_goto (tgt := 0) dd_X12_qEndsPart_48 (by decide) ?_
        refine fs_weak (ls2 := [.ref 196]) (fz_le_e fz_le_n) ?_
        exact hK0 H
set_option maxRecDepth 100000 in
set_option maxHeartbeats 4000000 in
theorem V_lp_X12_qEndsPart_0 {g : fz_G} {l : Launch} {d : Nat} (hD : 2 ≤ d)    {Q : fz_s → Prop}  (n : Nat) : ∀ {s : fz_s}, lp_X12_qEndsPart_0   Q n  s → fs_V g l m_X12_qEndsPart d false 0 [.ref 196] [] s (rV Q) := by
  induction n with
  | zero => intro  s H; exact H.elim
  | succ n ih => intro  s H; exact V_nd_X12_qEndsPart_0 hD  (fun H => ih H) H
set_option maxRecDepth 100000 in
set_option maxHeartbeats 4000000 in
theorem V_X12_qEndsPart {g : fz_G} {l : Launch} {d : Nat} (hD : 2 ≤ d)   {s : fz_s} {Q : fz_s → Prop} (H : wp_X12_qEndsPart  s Q) : fs_V g l m_X12_qEndsPart d false 0 (fz_en [.ref 196] 1) [] s (rV Q) := by
  obtain ⟨d, rfl⟩ : ∃ e, d = e + 1 := ⟨d - 1, by omega⟩
  unfold wp_X12_qEndsPart at H
  refine fs_weak (ls2 := [.ref 196]) (fz_le_e fz_le_n) ?_
  exact V_lp_X12_qEndsPart_0 hD    2048 H
theorem dd_X12_qPartTold_0 : decode m_X12_qPartTold.2.1 0 = .ok (.iconst 1, 1) := by decide +kernel
theorem dd_X12_qPartTold_1 : decode m_X12_qPartTold.2.1 1 = .ok (.istore_n 1, 1) := by decide +kernel
theorem dd_X12_qPartTold_2 : decode m_X12_qPartTold.2.1 2 = .ok (.iload_n 1, 1) := by decide +kernel
theorem dd_X12_qPartTold_3 : decode m_X12_qPartTold.2.1 3 = .ok (.ifCond .eq 183, 3) := by decide +kernel
theorem dd_X12_qPartTold_6 : decode m_X12_qPartTold.2.1 6 = .ok (.aload_n 0, 1) := by decide +kernel
theorem dd_X12_qPartTold_7 : decode m_X12_qPartTold.2.1 7 = .ok (.getfield 252, 3) := by decide +kernel
theorem dd_X12_qPartTold_10 : decode m_X12_qPartTold.2.1 10 = .ok (.ifCond .ne 176, 3) := by decide +kernel
theorem dd_X12_qPartTold_13 : decode m_X12_qPartTold.2.1 13 = .ok (.aload_n 0, 1) := by decide +kernel
theorem dd_X12_qPartTold_14 : decode m_X12_qPartTold.2.1 14 = .ok (.invokevirtual 264, 3) := by decide +kernel
theorem dd_X12_qPartTold_17 : decode m_X12_qPartTold.2.1 17 = .ok (.istore_n 2, 1) := by decide +kernel
theorem dd_X12_qPartTold_18 : decode m_X12_qPartTold.2.1 18 = .ok (.aload_n 0, 1) := by decide +kernel
theorem dd_X12_qPartTold_19 : decode m_X12_qPartTold.2.1 19 = .ok (.bipush 11, 2) := by decide +kernel
theorem dd_X12_qPartTold_21 : decode m_X12_qPartTold.2.1 21 = .ok (.bipush 13, 2) := by decide +kernel
theorem dd_X12_qPartTold_23 : decode m_X12_qPartTold.2.1 23 = .ok (.invokevirtual 623, 3) := by decide +kernel
theorem dd_X12_qPartTold_26 : decode m_X12_qPartTold.2.1 26 = .ok (.istore_n 3, 1) := by decide +kernel
theorem dd_X12_qPartTold_27 : decode m_X12_qPartTold.2.1 27 = .ok (.iload_n 2, 1) := by decide +kernel
theorem dd_X12_qPartTold_28 : decode m_X12_qPartTold.2.1 28 = .ok (.bipush 40, 2) := by decide +kernel
theorem dd_X12_qPartTold_30 : decode m_X12_qPartTold.2.1 30 = .ok (.if_icmp .ne 26, 3) := by decide +kernel
theorem dd_X12_qPartTold_33 : decode m_X12_qPartTold.2.1 33 = .ok (.aload_n 0, 1) := by decide +kernel
theorem dd_X12_qPartTold_34 : decode m_X12_qPartTold.2.1 34 = .ok (.bipush 20, 2) := by decide +kernel
theorem dd_X12_qPartTold_36 : decode m_X12_qPartTold.2.1 36 = .ok (.aload_n 0, 1) := by decide +kernel
theorem dd_X12_qPartTold_37 : decode m_X12_qPartTold.2.1 37 = .ok (.getfield 258, 3) := by decide +kernel
theorem dd_X12_qPartTold_40 : decode m_X12_qPartTold.2.1 40 = .ok (.invokevirtual 626, 3) := by decide +kernel
theorem dd_X12_qPartTold_43 : decode m_X12_qPartTold.2.1 43 = .ok (.aload_n 0, 1) := by decide +kernel
theorem dd_X12_qPartTold_44 : decode m_X12_qPartTold.2.1 44 = .ok (.dup, 1) := by decide +kernel
theorem dd_X12_qPartTold_45 : decode m_X12_qPartTold.2.1 45 = .ok (.getfield 258, 3) := by decide +kernel
theorem dd_X12_qPartTold_48 : decode m_X12_qPartTold.2.1 48 = .ok (.iconst 1, 1) := by decide +kernel
theorem dd_X12_qPartTold_49 : decode m_X12_qPartTold.2.1 49 = .ok (.iadd, 1) := by decide +kernel
theorem dd_X12_qPartTold_50 : decode m_X12_qPartTold.2.1 50 = .ok (.putfield 258, 3) := by decide +kernel
theorem dd_X12_qPartTold_53 : decode m_X12_qPartTold.2.1 53 = .ok (.goto 130, 3) := by decide +kernel
theorem dd_X12_qPartTold_56 : decode m_X12_qPartTold.2.1 56 = .ok (.aload_n 0, 1) := by decide +kernel
theorem dd_X12_qPartTold_57 : decode m_X12_qPartTold.2.1 57 = .ok (.aload_n 0, 1) := by decide +kernel
theorem dd_X12_qPartTold_58 : decode m_X12_qPartTold.2.1 58 = .ok (.getfield 192, 3) := by decide +kernel
theorem dd_X12_qPartTold_61 : decode m_X12_qPartTold.2.1 61 = .ok (.invokevirtual 275, 3) := by decide +kernel
theorem dd_X12_qPartTold_64 : decode m_X12_qPartTold.2.1 64 = .ok (.ifCond .ne 14, 3) := by decide +kernel
theorem dd_X12_qPartTold_67 : decode m_X12_qPartTold.2.1 67 = .ok (.aload_n 0, 1) := by decide +kernel
theorem dd_X12_qPartTold_68 : decode m_X12_qPartTold.2.1 68 = .ok (.aload_n 0, 1) := by decide +kernel
theorem dd_X12_qPartTold_69 : decode m_X12_qPartTold.2.1 69 = .ok (.getfield 195, 3) := by decide +kernel
theorem dd_X12_qPartTold_72 : decode m_X12_qPartTold.2.1 72 = .ok (.invokevirtual 275, 3) := by decide +kernel
theorem dd_X12_qPartTold_75 : decode m_X12_qPartTold.2.1 75 = .ok (.ifCond .eq 78, 3) := by decide +kernel
theorem dd_X12_qPartTold_78 : decode m_X12_qPartTold.2.1 78 = .ok (.aload_n 0, 1) := by decide +kernel
theorem dd_X12_qPartTold_79 : decode m_X12_qPartTold.2.1 79 = .ok (.aload_n 0, 1) := by decide +kernel
theorem dd_X12_qPartTold_80 : decode m_X12_qPartTold.2.1 80 = .ok (.getfield 192, 3) := by decide +kernel
theorem dd_X12_qPartTold_83 : decode m_X12_qPartTold.2.1 83 = .ok (.invokevirtual 279, 3) := by decide +kernel
theorem dd_X12_qPartTold_86 : decode m_X12_qPartTold.2.1 86 = .ok (.istore 4, 2) := by decide +kernel
theorem dd_X12_qPartTold_88 : decode m_X12_qPartTold.2.1 88 = .ok (.iload 4, 2) := by decide +kernel
theorem dd_X12_qPartTold_90 : decode m_X12_qPartTold.2.1 90 = .ok (.ifCond .ne 11, 3) := by decide +kernel
theorem dd_X12_qPartTold_93 : decode m_X12_qPartTold.2.1 93 = .ok (.aload_n 0, 1) := by decide +kernel
theorem dd_X12_qPartTold_94 : decode m_X12_qPartTold.2.1 94 = .ok (.aload_n 0, 1) := by decide +kernel
theorem dd_X12_qPartTold_95 : decode m_X12_qPartTold.2.1 95 = .ok (.getfield 195, 3) := by decide +kernel
theorem dd_X12_qPartTold_98 : decode m_X12_qPartTold.2.1 98 = .ok (.invokevirtual 323, 3) := by decide +kernel
theorem dd_X12_qPartTold_101 : decode m_X12_qPartTold.2.1 101 = .ok (.aload_n 0, 1) := by decide +kernel
theorem dd_X12_qPartTold_102 : decode m_X12_qPartTold.2.1 102 = .ok (.invokevirtual 264, 3) := by decide +kernel
theorem dd_X12_qPartTold_105 : decode m_X12_qPartTold.2.1 105 = .ok (.bipush 40, 2) := by decide +kernel
theorem dd_X12_qPartTold_107 : decode m_X12_qPartTold.2.1 107 = .ok (.if_icmp .ne 10, 3) := by decide +kernel
theorem dd_X12_qPartTold_110 : decode m_X12_qPartTold.2.1 110 = .ok (.aload_n 0, 1) := by decide +kernel
theorem dd_X12_qPartTold_111 : decode m_X12_qPartTold.2.1 111 = .ok (.getfield 258, 3) := by decide +kernel
theorem dd_X12_qPartTold_114 : decode m_X12_qPartTold.2.1 114 = .ok (.goto 4, 3) := by decide +kernel
theorem dd_X12_qPartTold_117 : decode m_X12_qPartTold.2.1 117 = .ok (.iconst (-1), 1) := by decide +kernel
theorem dd_X12_qPartTold_118 : decode m_X12_qPartTold.2.1 118 = .ok (.istore 5, 2) := by decide +kernel
theorem dd_X12_qPartTold_120 : decode m_X12_qPartTold.2.1 120 = .ok (.iload 5, 2) := by decide +kernel
theorem dd_X12_qPartTold_122 : decode m_X12_qPartTold.2.1 122 = .ok (.iconst (-1), 1) := by decide +kernel
theorem dd_X12_qPartTold_123 : decode m_X12_qPartTold.2.1 123 = .ok (.if_icmp .eq 21, 3) := by decide +kernel
theorem dd_X12_qPartTold_126 : decode m_X12_qPartTold.2.1 126 = .ok (.aload_n 0, 1) := by decide +kernel
theorem dd_X12_qPartTold_127 : decode m_X12_qPartTold.2.1 127 = .ok (.iload 4, 2) := by decide +kernel
theorem dd_X12_qPartTold_129 : decode m_X12_qPartTold.2.1 129 = .ok (.ifCond .eq 8, 3) := by decide +kernel
theorem dd_X12_qPartTold_132 : decode m_X12_qPartTold.2.1 132 = .ok (.bipush 21, 2) := by decide +kernel
theorem dd_X12_qPartTold_134 : decode m_X12_qPartTold.2.1 134 = .ok (.goto 5, 3) := by decide +kernel
theorem dd_X12_qPartTold_137 : decode m_X12_qPartTold.2.1 137 = .ok (.bipush 22, 2) := by decide +kernel
theorem dd_X12_qPartTold_139 : decode m_X12_qPartTold.2.1 139 = .ok (.iload 5, 2) := by decide +kernel
theorem dd_X12_qPartTold_141 : decode m_X12_qPartTold.2.1 141 = .ok (.invokevirtual 626, 3) := by decide +kernel
theorem dd_X12_qPartTold_144 : decode m_X12_qPartTold.2.1 144 = .ok (.aload_n 0, 1) := by decide +kernel
theorem dd_X12_qPartTold_145 : decode m_X12_qPartTold.2.1 145 = .ok (.bipush 40, 2) := by decide +kernel
theorem dd_X12_qPartTold_147 : decode m_X12_qPartTold.2.1 147 = .ok (.invokevirtual 334, 3) := by decide +kernel
theorem dd_X12_qPartTold_150 : decode m_X12_qPartTold.2.1 150 = .ok (.goto 33, 3) := by decide +kernel
theorem dd_X12_qPartTold_153 : decode m_X12_qPartTold.2.1 153 = .ok (.iload_n 3, 1) := by decide +kernel
theorem dd_X12_qPartTold_154 : decode m_X12_qPartTold.2.1 154 = .ok (.iconst (-1), 1) := by decide +kernel
theorem dd_X12_qPartTold_155 : decode m_X12_qPartTold.2.1 155 = .ok (.if_icmp .eq 26, 3) := by decide +kernel
theorem dd_X12_qPartTold_158 : decode m_X12_qPartTold.2.1 158 = .ok (.aload_n 0, 1) := by decide +kernel
theorem dd_X12_qPartTold_159 : decode m_X12_qPartTold.2.1 159 = .ok (.bipush 60, 2) := by decide +kernel
theorem dd_X12_qPartTold_161 : decode m_X12_qPartTold.2.1 161 = .ok (.iload_n 3, 1) := by decide +kernel
theorem dd_X12_qPartTold_162 : decode m_X12_qPartTold.2.1 162 = .ok (.iadd, 1) := by decide +kernel
theorem dd_X12_qPartTold_163 : decode m_X12_qPartTold.2.1 163 = .ok (.bipush 11, 2) := by decide +kernel
theorem dd_X12_qPartTold_165 : decode m_X12_qPartTold.2.1 165 = .ok (.isub, 1) := by decide +kernel
theorem dd_X12_qPartTold_166 : decode m_X12_qPartTold.2.1 166 = .ok (.aload_n 0, 1) := by decide +kernel
theorem dd_X12_qPartTold_167 : decode m_X12_qPartTold.2.1 167 = .ok (.getfield 258, 3) := by decide +kernel
theorem dd_X12_qPartTold_170 : decode m_X12_qPartTold.2.1 170 = .ok (.invokevirtual 626, 3) := by decide +kernel
theorem dd_X12_qPartTold_173 : decode m_X12_qPartTold.2.1 173 = .ok (.aload_n 0, 1) := by decide +kernel
theorem dd_X12_qPartTold_174 : decode m_X12_qPartTold.2.1 174 = .ok (.iload_n 3, 1) := by decide +kernel
theorem dd_X12_qPartTold_175 : decode m_X12_qPartTold.2.1 175 = .ok (.invokevirtual 629, 3) := by decide +kernel
theorem dd_X12_qPartTold_178 : decode m_X12_qPartTold.2.1 178 = .ok (.goto 5, 3) := by decide +kernel
theorem dd_X12_qPartTold_181 : decode m_X12_qPartTold.2.1 181 = .ok (.iconst 0, 1) := by decide +kernel
theorem dd_X12_qPartTold_182 : decode m_X12_qPartTold.2.1 182 = .ok (.istore_n 1, 1) := by decide +kernel
theorem dd_X12_qPartTold_183 : decode m_X12_qPartTold.2.1 183 = .ok (.goto (-181), 3) := by decide +kernel
theorem dd_X12_qPartTold_186 : decode m_X12_qPartTold.2.1 186 = .ok (.aload_n 0, 1) := by decide +kernel
theorem dd_X12_qPartTold_187 : decode m_X12_qPartTold.2.1 187 = .ok (.getfield 252, 3) := by decide +kernel
theorem dd_X12_qPartTold_190 : decode m_X12_qPartTold.2.1 190 = .ok (.ifCond .eq 4, 3) := by decide +kernel
theorem dd_X12_qPartTold_193 : decode m_X12_qPartTold.2.1 193 = .ok (.return_, 1) := by decide +kernel
theorem dd_X12_qPartTold_194 : decode m_X12_qPartTold.2.1 194 = .ok (.aload_n 0, 1) := by decide +kernel
theorem dd_X12_qPartTold_195 : decode m_X12_qPartTold.2.1 195 = .ok (.iconst 0, 1) := by decide +kernel
theorem dd_X12_qPartTold_196 : decode m_X12_qPartTold.2.1 196 = .ok (.bipush 11, 2) := by decide +kernel
theorem dd_X12_qPartTold_198 : decode m_X12_qPartTold.2.1 198 = .ok (.invokevirtual 623, 3) := by decide +kernel
theorem dd_X12_qPartTold_201 : decode m_X12_qPartTold.2.1 201 = .ok (.istore_n 2, 1) := by decide +kernel
theorem dd_X12_qPartTold_202 : decode m_X12_qPartTold.2.1 202 = .ok (.iload_n 2, 1) := by decide +kernel
theorem dd_X12_qPartTold_203 : decode m_X12_qPartTold.2.1 203 = .ok (.iconst (-1), 1) := by decide +kernel
theorem dd_X12_qPartTold_204 : decode m_X12_qPartTold.2.1 204 = .ok (.if_icmp .eq 8, 3) := by decide +kernel
theorem dd_X12_qPartTold_207 : decode m_X12_qPartTold.2.1 207 = .ok (.aload_n 0, 1) := by decide +kernel
theorem dd_X12_qPartTold_208 : decode m_X12_qPartTold.2.1 208 = .ok (.iload_n 2, 1) := by decide +kernel
theorem dd_X12_qPartTold_209 : decode m_X12_qPartTold.2.1 209 = .ok (.invokevirtual 629, 3) := by decide +kernel
theorem dd_X12_qPartTold_212 : decode m_X12_qPartTold.2.1 212 = .ok (.aload_n 0, 1) := by decide +kernel
theorem dd_X12_qPartTold_213 : decode m_X12_qPartTold.2.1 213 = .ok (.iload_n 2, 1) := by decide +kernel
theorem dd_X12_qPartTold_214 : decode m_X12_qPartTold.2.1 214 = .ok (.iconst (-1), 1) := by decide +kernel
theorem dd_X12_qPartTold_215 : decode m_X12_qPartTold.2.1 215 = .ok (.if_icmp .eq 10, 3) := by decide +kernel
theorem dd_X12_qPartTold_218 : decode m_X12_qPartTold.2.1 218 = .ok (.bipush 40, 2) := by decide +kernel
theorem dd_X12_qPartTold_220 : decode m_X12_qPartTold.2.1 220 = .ok (.iload_n 2, 1) := by decide +kernel
theorem dd_X12_qPartTold_221 : decode m_X12_qPartTold.2.1 221 = .ok (.iadd, 1) := by decide +kernel
theorem dd_X12_qPartTold_222 : decode m_X12_qPartTold.2.1 222 = .ok (.goto 15, 3) := by decide +kernel
theorem dd_X12_qPartTold_225 : decode m_X12_qPartTold.2.1 225 = .ok (.sipush 1000, 3) := by decide +kernel
theorem dd_X12_qPartTold_228 : decode m_X12_qPartTold.2.1 228 = .ok (.aload_n 0, 1) := by decide +kernel
theorem dd_X12_qPartTold_229 : decode m_X12_qPartTold.2.1 229 = .ok (.iconst 0, 1) := by decide +kernel
theorem dd_X12_qPartTold_230 : decode m_X12_qPartTold.2.1 230 = .ok (.sipush 9999, 3) := by decide +kernel
theorem dd_X12_qPartTold_233 : decode m_X12_qPartTold.2.1 233 = .ok (.invokevirtual 330, 3) := by decide +kernel
theorem dd_X12_qPartTold_236 : decode m_X12_qPartTold.2.1 236 = .ok (.iadd, 1) := by decide +kernel
theorem dd_X12_qPartTold_237 : decode m_X12_qPartTold.2.1 237 = .ok (.invokevirtual 608, 3) := by decide +kernel
theorem dd_X12_qPartTold_240 : decode m_X12_qPartTold.2.1 240 = .ok (.aload_n 0, 1) := by decide +kernel
theorem dd_X12_qPartTold_241 : decode m_X12_qPartTold.2.1 241 = .ok (.invokevirtual 632, 3) := by decide +kernel
theorem dd_X12_qPartTold_244 : decode m_X12_qPartTold.2.1 244 = .ok (.return_, 1) := by decide +kernel
def nd_X12_qPartTold_237   (Q : fz_s → Prop) (u0 : Int32) (s : fz_s) : Prop :=
  wp_X12_qCode u0 s (fun s2 => wp_X12_qEndsPart  s2 (fun s4 => Q s4))
def nd_X12_qPartTold_212   (Q : fz_s → Prop) (v2 : Int32) (s : fz_s) : Prop :=
  ((v2 = (-1) → wp_X12_number 0 9999 s (fun r1 s2 => nd_X12_qPartTold_237   Q (1000 + r1) s2)) ∧ (¬ v2 = (-1) → nd_X12_qPartTold_237   Q (40 + v2) s))
def nd_X12_qPartTold_186   (Q : fz_s → Prop)  (s : fz_s) : Prop :=
  (((s.1 196 5) = 0 → wp_X12_qWordOf 0 11 s (fun r1 s2 => ((r1 = (-1) → nd_X12_qPartTold_212   Q r1 s2) ∧ (¬ r1 = (-1) → wp_X12_qAsksWord r1 s2 (fun s4 => nd_X12_qPartTold_212   Q r1 s4))))) ∧ (¬ (s.1 196 5) = 0 → Q s))
def nd_X12_qPartTold_144  (K2 : Bool → fz_s → Prop) (Q : fz_s → Prop) (v1 : Bool) (s : fz_s) : Prop :=
  wp_X12_asksSign 40 s (fun s2 => K2 v1 s2)
def nd_X12_qPartTold_139  (K2 : Bool → fz_s → Prop) (Q : fz_s → Prop) (v1 : Bool) (v5 : Int32) (u0 : Int32) (s : fz_s) : Prop :=
  wp_X12_qOpens u0 v5 s (fun s2 => nd_X12_qPartTold_144  K2 Q v1 s2)
def nd_X12_qPartTold_118  (K2 : Bool → fz_s → Prop) (Q : fz_s → Prop) (v1 : Bool) (v4 : Bool) (u0 : Int32) (s : fz_s) : Prop :=
  ((u0 = (-1) → nd_X12_qPartTold_144  K2 Q v1 s) ∧ (¬ u0 = (-1) → ((v4 = false → nd_X12_qPartTold_139  K2 Q v1 u0 22 s) ∧ (v4 = true → nd_X12_qPartTold_139  K2 Q v1 u0 21 s))))
def nd_X12_qPartTold_101  (K2 : Bool → fz_s → Prop) (Q : fz_s → Prop) (v1 : Bool) (v4 : Bool) (s : fz_s) : Prop :=
  wp_X12_look  s (fun r1 s2 => ((¬ r1 = 40 → nd_X12_qPartTold_118  K2 Q v1 v4 (-1) s2) ∧ (r1 = 40 → nd_X12_qPartTold_118  K2 Q v1 v4 (s2.1 196 2) s2)))
def nd_X12_qPartTold_78  (K2 : Bool → fz_s → Prop) (Q : fz_s → Prop) (v1 : Bool) (s : fz_s) : Prop :=
  wp_X12_takes 254 3 s (fun r1 s2 => ((r1 = true → nd_X12_qPartTold_101  K2 Q v1 r1 s2) ∧ (r1 = false → wp_X12_asks 255 3 s2 (fun s4 => nd_X12_qPartTold_101  K2 Q v1 r1 s4))))
def nd_X12_qPartTold_2  (K2 : Bool → fz_s → Prop) (Q : fz_s → Prop) (v1 : Bool) (s : fz_s) : Prop :=
  ((v1 = false → nd_X12_qPartTold_186   Q  s) ∧ (v1 = true → ((¬ (s.1 196 5) = 0 → nd_X12_qPartTold_186   Q  s) ∧ ((s.1 196 5) = 0 → wp_X12_look  s (fun r1 s2 => wp_X12_qWordOf 11 13 s2 (fun r3 s4 => ((¬ r1 = 40 → wp_X12_isHere 254 3 s4 (fun r5 s6 => ((r5 = true → nd_X12_qPartTold_78  K2 Q v1 s6) ∧ (r5 = false → wp_X12_isHere 255 3 s6 (fun r7 s8 => ((r7 = false → ((r3 = (-1) → K2 false s8) ∧ (¬ r3 = (-1) → wp_X12_qOpens ((60 + r3) - 11) (s8.1 196 2) s8 (fun s10 => wp_X12_qAsksWord r3 s10 (fun s12 => K2 v1 s12))))) ∧ (r7 = true → nd_X12_qPartTold_78  K2 Q v1 s8))))))) ∧ (r1 = 40 → wp_X12_qOpens 20 (s4.1 196 2) s4 (fun s14 => ∀ s15 : fz_s, s15 = si s14 196 2 ((s14.1 196 2) + 1) → K2 v1 s15)))))))))
def lp_X12_qPartTold_2   (Q : fz_s → Prop) : Nat → Bool → fz_s → Prop
  | 0 => fun _ _ => False
  | n + 1 => nd_X12_qPartTold_2  (lp_X12_qPartTold_2   Q n) Q
def wp_X12_qPartTold  (s : fz_s) (Q : fz_s → Prop) : Prop :=
  lp_X12_qPartTold_2   Q 2048 true s
set_option maxRecDepth 100000 in
set_option maxHeartbeats 4000000 in
theorem V_nd_X12_qPartTold_237 {g : fz_G} {l : Launch} {d : Nat} (hD : 5 ≤ d)    {Q : fz_s → Prop} {u0 : Int32} {s : fz_s}  (H : nd_X12_qPartTold_237   Q u0 s) : fs_V g l m_X12_qPartTold d false 237 [.ref 196, fz_J, fz_J, fz_J, fz_J, fz_J] [.int u0, .ref 196] s (rV Q) := by
  obtain ⟨d, rfl⟩ : ∃ e, d = e + 1 := ⟨d - 1, by omega⟩
  unfold nd_X12_qPartTold_237 at H
  refine fs_callV (y := m_X12_qCode) (as := [.int u0]) dd_X12_qPartTold_237 me_X12_qCode lk_X12_608 in_X12_qCode se_X12_qCode ca_196 rfl rfl rfl (Nat.le_of_ble_eq_true rfl) (Nat.le_of_ble_eq_true rfl) rfl (V_X12_qCode (by omega)  H) (k2_V fun s2 H => ?_)
  refine fs_aload_n (k0 := 0) (i := 0) dd_X12_qPartTold_240 rfl rfl ?_
  refine fs_callV (y := m_X12_qEndsPart) (as := []) dd_X12_qPartTold_241 me_X12_qEndsPart lk_X12_632 in_X12_qEndsPart se_X12_qEndsPart ca_196 rfl rfl rfl (Nat.le_of_ble_eq_true rfl) (Nat.le_of_ble_eq_true rfl) rfl (V_X12_qEndsPart (by omega)  H) (k2_V fun s4 H => ?_)
  exact fs_vret dd_X12_qPartTold_244 rfl H
set_option maxRecDepth 100000 in
set_option maxHeartbeats 4000000 in
theorem V_nd_X12_qPartTold_212 {g : fz_G} {l : Launch} {d : Nat} (hD : 5 ≤ d)    {Q : fz_s → Prop} {v2 : Int32} {s : fz_s}  (H : nd_X12_qPartTold_212   Q v2 s) : fs_V g l m_X12_qPartTold d false 212 [.ref 196, fz_J, .int v2, fz_J, fz_J, fz_J] [] s (rV Q) := by
  obtain ⟨d, rfl⟩ : ∃ e, d = e + 1 := ⟨d - 1, by omega⟩
  unfold nd_X12_qPartTold_212 at H
  refine fs_aload_n (k0 := 0) (i := 0) dd_X12_qPartTold_212 rfl rfl ?_
  refine fs_iload_n (k0 := 2) (i := 2) dd_X12_qPartTold_213 rfl rfl ?_
  refine fs_iconst (n := -1) (v := -1) dd_X12_qPartTold_214 (by decide) ?_
  refine fs_icmp_eq (tgt := 225) dd_X12_qPartTold_215 (by decide) (fun hc => ?_) (fun hc => ?_)
  · replace H := H.1 hc
    refine fs_sipush (n := 1000) (v := 1000) dd_X12_qPartTold_225 (by decide) ?_
    refine fs_aload_n (k0 := 0) (i := 0) dd_X12_qPartTold_228 rfl rfl ?_
    refine fs_iconst (n := 0) (v := 0) dd_X12_qPartTold_229 (by decide) ?_
    refine fs_sipush (n := 9999) (v := 9999) dd_X12_qPartTold_230 (by decide) ?_
    refine fs_callV (y := m_X12_number) (as := [.int 0, .int 9999]) dd_X12_qPartTold_233 me_X12_number lk_X12_330 in_X12_number se_X12_number ca_196 rfl rfl rfl (Nat.le_of_ble_eq_true rfl) (Nat.le_of_ble_eq_true rfl) rfl (V_X12_number (by omega)  H) (k2_I fun r1 s2 H => ?_)
    refine fs_iadd dd_X12_qPartTold_236 ?_
    refine fs_weak (ls2 := [.ref 196, fz_J, fz_J, fz_J, fz_J, fz_J]) (fz_le_e (fz_le_j (fz_le_j (fz_le_j (fz_le_j (fz_le_j fz_le_n)))))) ?_
    exact V_nd_X12_qPartTold_237 hD    H
  · replace H := H.2 hc
    refine fs_bipush (n := 40) (v := 40) dd_X12_qPartTold_218 (by decide) ?_
    refine fs_iload_n (k0 := 2) (i := 2) dd_X12_qPartTold_220 rfl rfl ?_
    refine fs_iadd dd_X12_qPartTold_221 ?_
    refine fs_goto (tgt := 237) dd_X12_qPartTold_222 (by decide) ?_
    refine fs_weak (ls2 := [.ref 196, fz_J, fz_J, fz_J, fz_J, fz_J]) (fz_le_e (fz_le_j (fz_le_j (fz_le_j (fz_le_j (fz_le_j fz_le_n)))))) ?_
    exact V_nd_X12_qPartTold_237 hD    H
set_option maxRecDepth 100000 in
set_option maxHeartbeats 4000000 in
theorem V_nd_X12_qPartTold_186 {g : fz_G} {l : Launch} {d : Nat} (hD : 5 ≤ d)    {Q : fz_s → Prop}  {s : fz_s}  (H : nd_X12_qPartTold_186   Q  s) : fs_V g l m_X12_qPartTold d false 186 [.ref 196, fz_J, fz_J, fz_J, fz_J, fz_J] [] s (rV Q) := by
  obtain ⟨d, rfl⟩ : ∃ e, d = e + 1 := ⟨d - 1, by omega⟩
  unfold nd_X12_qPartTold_186 at H
  refine fs_aload_n (k0 := 0) (i := 0) dd_X12_qPartTold_186 rfl rfl ?_
  refine fs_geti (ci := 12) (j := 5) dd_X12_qPartTold_187 fl_X12_252 ca_196 rfl (Or.inl rfl) ?_
  refine fs_if_eq (tgt := 194) dd_X12_qPartTold_190 (by decide) (fun hc => ?_) (fun hc => ?_)
  · replace H := H.1 hc
    refine fs_aload_n (k0 := 0) (i := 0) dd_X12_qPartTold_194 rfl rfl ?_
    refine fs_iconst (n := 0) (v := 0) dd_X12_qPartTold_195 (by decide) ?_
    refine fs_bipush (n := 11) (v := 11) dd_X12_qPartTold_196 (by decide) ?_
    refine fs_callV (y := m_X12_qWordOf) (as := [.int 0, .int 11]) dd_X12_qPartTold_198 me_X12_qWordOf lk_X12_623 in_X12_qWordOf se_X12_qWordOf ca_196 rfl rfl rfl (Nat.le_of_ble_eq_true rfl) (Nat.le_of_ble_eq_true rfl) rfl (V_X12_qWordOf (by omega)  H) (k2_I fun r1 s2 H => ?_)
    refine fs_istore_n (k0 := 2) (i := 2) dd_X12_qPartTold_201 rfl (by decide) ?_
    refine fs_iload_n (k0 := 2) (i := 2) dd_X12_qPartTold_202 rfl rfl ?_
    refine fs_iconst (n := -1) (v := -1) dd_X12_qPartTold_203 (by decide) ?_
    refine fs_icmp_eq (tgt := 212) dd_X12_qPartTold_204 (by decide) (fun hc => ?_) (fun hc => ?_)
    · replace H := H.1 hc
      refine fs_weak (ls2 := [.ref 196, fz_J, .int r1, fz_J, fz_J, fz_J]) (fz_le_e (fz_le_j (fz_le_e (fz_le_j (fz_le_j (fz_le_j fz_le_n)))))) ?_
      exact V_nd_X12_qPartTold_212 hD    H
    · replace H := H.2 hc
      refine fs_aload_n (k0 := 0) (i := 0) dd_X12_qPartTold_207 rfl rfl ?_
      refine fs_iload_n (k0 := 2) (i := 2) dd_X12_qPartTold_208 rfl rfl ?_
      refine fs_callV (y := m_X12_qAsksWord) (as := [.int r1]) dd_X12_qPartTold_209 me_X12_qAsksWord lk_X12_629 in_X12_qAsksWord se_X12_qAsksWord ca_196 rfl rfl rfl (Nat.le_of_ble_eq_true rfl) (Nat.le_of_ble_eq_true rfl) rfl (V_X12_qAsksWord (by omega)  H) (k2_V fun s4 H => ?_)
      refine fs_weak (ls2 := [.ref 196, fz_J, .int r1, fz_J, fz_J, fz_J]) (fz_le_e (fz_le_j (fz_le_e (fz_le_j (fz_le_j (fz_le_j fz_le_n)))))) ?_
      exact V_nd_X12_qPartTold_212 hD    H
  · replace H := H.2 hc
    exact fs_vret dd_X12_qPartTold_193 rfl H
set_option maxRecDepth 100000 in
set_option maxHeartbeats 4000000 in
theorem V_nd_X12_qPartTold_144 {g : fz_G} {l : Launch} {d : Nat} (hD : 5 ≤ d)   {K2 : Bool → fz_s → Prop} {Q : fz_s → Prop} {v1 : Bool} {s : fz_s} (hK2 : ∀ {v1 : Bool} {s : fz_s}, K2 v1 s → fs_V g l m_X12_qPartTold d false 2 [.ref 196, .int (bi v1), fz_J, fz_J, fz_J, fz_J] [] s (rV Q)) (H : nd_X12_qPartTold_144  K2 Q v1 s) : fs_V g l m_X12_qPartTold d false 144 [.ref 196, .int (bi v1), fz_J, fz_J, fz_J, fz_J] [] s (rV Q) := by
  obtain ⟨d, rfl⟩ : ∃ e, d = e + 1 := ⟨d - 1, by omega⟩
  unfold nd_X12_qPartTold_144 at H
  refine fs_aload_n (k0 := 0) (i := 0) dd_X12_qPartTold_144 rfl rfl ?_
  refine fs_bipush (n := 40) (v := 40) dd_X12_qPartTold_145 (by decide) ?_
  refine fs_callV (y := m_X12_asksSign) (as := [.int 40]) dd_X12_qPartTold_147 me_X12_asksSign lk_X12_334 in_X12_asksSign se_X12_asksSign ca_196 rfl rfl rfl (Nat.le_of_ble_eq_true rfl) (Nat.le_of_ble_eq_true rfl) rfl (V_X12_asksSign (by omega)  H) (k2_V fun s2 H => ?_)
  refine fs_goto (tgt := 183) dd_X12_qPartTold_150 (by decide) ?_
  refine fs_goto (tgt := 2) dd_X12_qPartTold_183 (by decide) ?_
  refine fs_weak (ls2 := [.ref 196, .int (bi v1), fz_J, fz_J, fz_J, fz_J]) (fz_le_e (fz_le_e (fz_le_j (fz_le_j (fz_le_j (fz_le_j fz_le_n)))))) ?_
  exact hK2 H
set_option maxRecDepth 100000 in
set_option maxHeartbeats 4000000 in
theorem V_nd_X12_qPartTold_139 {g : fz_G} {l : Launch} {d : Nat} (hD : 5 ≤ d)   {K2 : Bool → fz_s → Prop} {Q : fz_s → Prop} {v1 : Bool} {v5 : Int32} {u0 : Int32} {s : fz_s} (hK2 : ∀ {v1 : Bool} {s : fz_s}, K2 v1 s → fs_V g l m_X12_qPartTold d false 2 [.ref 196, .int (bi v1), fz_J, fz_J, fz_J, fz_J] [] s (rV Q)) (H : nd_X12_qPartTold_139  K2 Q v1 v5 u0 s) : fs_V g l m_X12_qPartTold d false 139 [.ref 196, .int (bi v1), fz_J, fz_J, fz_J, .int v5] [.int u0, .ref 196] s (rV Q) := by
  obtain ⟨d, rfl⟩ : ∃ e, d = e + 1 := ⟨d - 1, by omega⟩
  unfold nd_X12_qPartTold_139 at H
  refine fs_iload (i := 5) dd_X12_qPartTold_139 rfl ?_
  refine fs_callV (y := m_X12_qOpens) (as := [.int u0, .int v5]) dd_X12_qPartTold_141 me_X12_qOpens lk_X12_626 in_X12_qOpens se_X12_qOpens ca_196 rfl rfl rfl (Nat.le_of_ble_eq_true rfl) (Nat.le_of_ble_eq_true rfl) rfl (V_X12_qOpens (by omega)  H) (k2_V fun s2 H => ?_)
  refine fs_weak (ls2 := [.ref 196, .int (bi v1), fz_J, fz_J, fz_J, fz_J]) (fz_le_e (fz_le_e (fz_le_j (fz_le_j (fz_le_j (fz_le_j fz_le_n)))))) ?_
  exact V_nd_X12_qPartTold_144 hD   hK2 H
set_option maxRecDepth 100000 in
set_option maxHeartbeats 4000000 in
theorem V_nd_X12_qPartTold_118 {g : fz_G} {l : Launch} {d : Nat} (hD : 5 ≤ d)   {K2 : Bool → fz_s → Prop} {Q : fz_s → Prop} {v1 : Bool} {v4 : Bool} {u0 : Int32} {s : fz_s} (hK2 : ∀ {v1 : Bool} {s : fz_s}, K2 v1 s → fs_V g l m_X12_qPartTold d false 2 [.ref 196, .int (bi v1), fz_J, fz_J, fz_J, fz_J] [] s (rV Q)) (H : nd_X12_qPartTold_118  K2 Q v1 v4 u0 s) : fs_V g l m_X12_qPartTold d false 118 [.ref 196, .int (bi v1), fz_J, fz_J, .int (bi v4), fz_J] [.int u0] s (rV Q) := by
  obtain ⟨d, rfl⟩ : ∃ e, d = e + 1 := ⟨d - 1, by omega⟩
  unfold nd_X12_qPartTold_118 at H
  refine fs_istore (i := 5) dd_X12_qPartTold_118 (by decide) ?_
  refine fs_iload (i := 5) dd_X12_qPartTold_120 rfl ?_
  refine fs_iconst (n := -1) (v := -1) dd_X12_qPartTold_122 (by decide) ?_
  refine fs_icmp_eq (tgt := 144) dd_X12_qPartTold_123 (by decide) (fun hc => ?_) (fun hc => ?_)
  · replace H := H.1 hc
    refine fs_weak (ls2 := [.ref 196, .int (bi v1), fz_J, fz_J, fz_J, fz_J]) (fz_le_e (fz_le_e (fz_le_j (fz_le_j (fz_le_j (fz_le_j fz_le_n)))))) ?_
    exact V_nd_X12_qPartTold_144 hD   hK2 H
  · replace H := H.2 hc
    refine fs_aload_n (k0 := 0) (i := 0) dd_X12_qPartTold_126 rfl rfl ?_
    refine fs_iload (i := 4) dd_X12_qPartTold_127 rfl ?_
    refine fs_if_eq (tgt := 137) dd_X12_qPartTold_129 (by decide) (fun hc => ?_) (fun hc => ?_)
    · replace H := H.1 (bi_0 hc)
      refine fs_bipush (n := 22) (v := 22) dd_X12_qPartTold_137 (by decide) ?_
      refine fs_weak (ls2 := [.ref 196, .int (bi v1), fz_J, fz_J, fz_J, .int u0]) (fz_le_e (fz_le_e (fz_le_j (fz_le_j (fz_le_j (fz_le_e fz_le_n)))))) ?_
      exact V_nd_X12_qPartTold_139 hD   hK2 H
    · replace H := H.2 (bi_1 hc)
      refine fs_bipush (n := 21) (v := 21) dd_X12_qPartTold_132 (by decide) ?_
      refine fs_goto (tgt := 139) dd_X12_qPartTold_134 (by decide) ?_
      refine fs_weak (ls2 := [.ref 196, .int (bi v1), fz_J, fz_J, fz_J, .int u0]) (fz_le_e (fz_le_e (fz_le_j (fz_le_j (fz_le_j (fz_le_e fz_le_n)))))) ?_
      exact V_nd_X12_qPartTold_139 hD   hK2 H
set_option maxRecDepth 100000 in
set_option maxHeartbeats 4000000 in
theorem V_nd_X12_qPartTold_101 {g : fz_G} {l : Launch} {d : Nat} (hD : 5 ≤ d)   {K2 : Bool → fz_s → Prop} {Q : fz_s → Prop} {v1 : Bool} {v4 : Bool} {s : fz_s} (hK2 : ∀ {v1 : Bool} {s : fz_s}, K2 v1 s → fs_V g l m_X12_qPartTold d false 2 [.ref 196, .int (bi v1), fz_J, fz_J, fz_J, fz_J] [] s (rV Q)) (H : nd_X12_qPartTold_101  K2 Q v1 v4 s) : fs_V g l m_X12_qPartTold d false 101 [.ref 196, .int (bi v1), fz_J, fz_J, .int (bi v4), fz_J] [] s (rV Q) := by
  obtain ⟨d, rfl⟩ : ∃ e, d = e + 1 := ⟨d - 1, by omega⟩
  unfold nd_X12_qPartTold_101 at H
  refine fs_aload_n (k0 := 0) (i := 0) dd_X12_qPartTold_101 rfl rfl ?_
  refine fs_callV (y := m_X12_look) (as := []) dd_X12_qPartTold_102 me_X12_look lk_X12_264 in_X12_look se_X12_look ca_196 rfl rfl rfl (Nat.le_of_ble_eq_true rfl) (Nat.le_of_ble_eq_true rfl) rfl (V_X12_look (by omega)  H) (k2_I fun r1 s2 H => ?_)
  refine fs_bipush (n := 40) (v := 40) dd_X12_qPartTold_105 (by decide) ?_
  refine fs_icmp_ne (tgt := 117) dd_X12_qPartTold_107 (by decide) (fun hc => ?_) (fun hc => ?_)
  · replace H := H.1 hc
    refine fs_iconst (n := -1) (v := -1) dd_X12_qPartTold_117 (by decide) ?_
    refine fs_weak (ls2 := [.ref 196, .int (bi v1), fz_J, fz_J, .int (bi v4), fz_J]) (fz_le_e (fz_le_e (fz_le_j (fz_le_j (fz_le_e (fz_le_j fz_le_n)))))) ?_
    exact V_nd_X12_qPartTold_118 hD   hK2 H
  · replace H := H.2 hc
    refine fs_aload_n (k0 := 0) (i := 0) dd_X12_qPartTold_110 rfl rfl ?_
    refine fs_geti (ci := 12) (j := 2) dd_X12_qPartTold_111 fl_X12_258 ca_196 rfl (Or.inl rfl) ?_
    refine fs_goto (tgt := 118) dd_X12_qPartTold_114 (by decide) ?_
    refine fs_weak (ls2 := [.ref 196, .int (bi v1), fz_J, fz_J, .int (bi v4), fz_J]) (fz_le_e (fz_le_e (fz_le_j (fz_le_j (fz_le_e (fz_le_j fz_le_n)))))) ?_
    exact V_nd_X12_qPartTold_118 hD   hK2 H
set_option maxRecDepth 100000 in
set_option maxHeartbeats 4000000 in
theorem V_nd_X12_qPartTold_78 {g : fz_G} {l : Launch} {d : Nat} (hD : 5 ≤ d)   {K2 : Bool → fz_s → Prop} {Q : fz_s → Prop} {v1 : Bool} {s : fz_s} (hK2 : ∀ {v1 : Bool} {s : fz_s}, K2 v1 s → fs_V g l m_X12_qPartTold d false 2 [.ref 196, .int (bi v1), fz_J, fz_J, fz_J, fz_J] [] s (rV Q)) (H : nd_X12_qPartTold_78  K2 Q v1 s) : fs_V g l m_X12_qPartTold d false 78 [.ref 196, .int (bi v1), fz_J, fz_J, fz_J, fz_J] [] s (rV Q) := by
  obtain ⟨d, rfl⟩ : ∃ e, d = e + 1 := ⟨d - 1, by omega⟩
  unfold nd_X12_qPartTold_78 at H
  refine fs_aload_n (k0 := 0) (i := 0) dd_X12_qPartTold_78 rfl rfl ?_
  refine fs_aload_n (k0 := 0) (i := 0) dd_X12_qPartTold_79 rfl rfl ?_
  refine fs_getr (ci := 12) (j := 85) (q := 254) dd_X12_qPartTold_80 fl_X12_192 ca_196 rfl (Or.inr ⟨_, rfl⟩) rfl (by decide) ?_
  refine fs_callV (y := m_X12_takes) (as := [.ref 254]) dd_X12_qPartTold_83 me_X12_takes lk_X12_279 in_X12_takes se_X12_takes ca_196 rfl rfl rfl (Nat.le_of_ble_eq_true rfl) (Nat.le_of_ble_eq_true rfl) rfl (V_X12_takes (by omega) ca_254 H) (k2_Z fun r1 s2 H => ?_)
  refine fs_istore (i := 4) dd_X12_qPartTold_86 (by decide) ?_
  refine fs_iload (i := 4) dd_X12_qPartTold_88 rfl ?_
  refine fs_if_ne (tgt := 101) dd_X12_qPartTold_90 (by decide) (fun hc => ?_) (fun hc => ?_)
  · replace H := H.1 (bi_1 hc)
    refine fs_weak (ls2 := [.ref 196, .int (bi v1), fz_J, fz_J, .int (bi r1), fz_J]) (fz_le_e (fz_le_e (fz_le_j (fz_le_j (fz_le_e (fz_le_j fz_le_n)))))) ?_
    exact V_nd_X12_qPartTold_101 hD   hK2 H
  · replace H := H.2 (bi_0 hc)
    refine fs_aload_n (k0 := 0) (i := 0) dd_X12_qPartTold_93 rfl rfl ?_
    refine fs_aload_n (k0 := 0) (i := 0) dd_X12_qPartTold_94 rfl rfl ?_
    refine fs_getr (ci := 12) (j := 86) (q := 255) dd_X12_qPartTold_95 fl_X12_195 ca_196 rfl (Or.inr ⟨_, rfl⟩) rfl (by decide) ?_
    refine fs_callV (y := m_X12_asks) (as := [.ref 255]) dd_X12_qPartTold_98 me_X12_asks lk_X12_323 in_X12_asks se_X12_asks ca_196 rfl rfl rfl (Nat.le_of_ble_eq_true rfl) (Nat.le_of_ble_eq_true rfl) rfl (V_X12_asks (by omega) ca_255 H) (k2_V fun s4 H => ?_)
    refine fs_weak (ls2 := [.ref 196, .int (bi v1), fz_J, fz_J, .int (bi r1), fz_J]) (fz_le_e (fz_le_e (fz_le_j (fz_le_j (fz_le_e (fz_le_j fz_le_n)))))) ?_
    exact V_nd_X12_qPartTold_101 hD   hK2 H
set_option maxRecDepth 100000 in
set_option maxHeartbeats 4000000 in
theorem V_nd_X12_qPartTold_2 {g : fz_G} {l : Launch} {d : Nat} (hD : 5 ≤ d)   {K2 : Bool → fz_s → Prop} {Q : fz_s → Prop} {v1 : Bool} {s : fz_s} (hK2 : ∀ {v1 : Bool} {s : fz_s}, K2 v1 s → fs_V g l m_X12_qPartTold d false 2 [.ref 196, .int (bi v1), fz_J, fz_J, fz_J, fz_J] [] s (rV Q)) (H : nd_X12_qPartTold_2  K2 Q v1 s) : fs_V g l m_X12_qPartTold d false 2 [.ref 196, .int (bi v1), fz_J, fz_J, fz_J, fz_J] [] s (rV Q) := by
  obtain ⟨d, rfl⟩ : ∃ e, d = e + 1 := ⟨d - 1, by omega⟩
  unfold nd_X12_qPartTold_2 at H
  refine fs_iload_n (k0 := 1) (i := 1) dd_X12_qPartTold_2 rfl rfl ?_
  refine fs_if_eq (tgt := 186) dd_X12_qPartTold_3 (by decide) (fun hc => ?_) (fun hc => ?_)
  · replace H := H.1 (bi_0 hc)
    refine fs_weak (ls2 := [.ref 196, fz_J, fz_J, fz_J, fz_J, fz_J]) (fz_le_e (fz_le_j (fz_le_j (fz_le_j (fz_le_j (fz_le_j fz_le_n)))))) ?_
    exact V_nd_X12_qPartTold_186 hD    H
  · replace H := H.2 (bi_1 hc)
    refine fs_aload_n (k0 := 0) (i := 0) dd_X12_qPartTold_6 rfl rfl ?_
    refine fs_geti (ci := 12) (j := 5) dd_X12_qPartTold_7 fl_X12_252 ca_196 rfl (Or.inl rfl) ?_
    refine fs_if_ne (tgt := 186) dd_X12_qPartTold_10 (by decide) (fun hc => ?_) (fun hc => ?_)
    · replace H := H.1 hc
      refine fs_weak (ls2 := [.ref 196, fz_J, fz_J, fz_J, fz_J, fz_J]) (fz_le_e (fz_le_j (fz_le_j (fz_le_j (fz_le_j (fz_le_j fz_le_n)))))) ?_
      exact V_nd_X12_qPartTold_186 hD    H
    · replace H := H.2 hc
      refine fs_aload_n (k0 := 0) (i := 0) dd_X12_qPartTold_13 rfl rfl ?_
      refine fs_callV (y := m_X12_look) (as := []) dd_X12_qPartTold_14 me_X12_look lk_X12_264 in_X12_look se_X12_look ca_196 rfl rfl rfl (Nat.le_of_ble_eq_true rfl) (Nat.le_of_ble_eq_true rfl) rfl (V_X12_look (by omega)  H) (k2_I fun r1 s2 H => ?_)
      refine fs_istore_n (k0 := 2) (i := 2) dd_X12_qPartTold_17 rfl (by decide) ?_
      refine fs_aload_n (k0 := 0) (i := 0) dd_X12_qPartTold_18 rfl rfl ?_
      refine fs_bipush (n := 11) (v := 11) dd_X12_qPartTold_19 (by decide) ?_
      refine fs_bipush (n := 13) (v := 13) dd_X12_qPartTold_21 (by decide) ?_
      refine fs_callV (y := m_X12_qWordOf) (as := [.int 11, .int 13]) dd_X12_qPartTold_23 me_X12_qWordOf lk_X12_623 in_X12_qWordOf se_X12_qWordOf ca_196 rfl rfl rfl (Nat.le_of_ble_eq_true rfl) (Nat.le_of_ble_eq_true rfl) rfl (V_X12_qWordOf (by omega)  H) (k2_I fun r3 s4 H => ?_)
      refine fs_istore_n (k0 := 3) (i := 3) dd_X12_qPartTold_26 rfl (by decide) ?_
      refine fs_iload_n (k0 := 2) (i := 2) dd_X12_qPartTold_27 rfl rfl ?_
      refine fs_bipush (n := 40) (v := 40) dd_X12_qPartTold_28 (by decide) ?_
      refine fs_icmp_ne (tgt := 56) dd_X12_qPartTold_30 (by decide) (fun hc => ?_) (fun hc => ?_)
      · replace H := H.1 hc
        refine fs_aload_n (k0 := 0) (i := 0) dd_X12_qPartTold_56 rfl rfl ?_
        refine fs_aload_n (k0 := 0) (i := 0) dd_X12_qPartTold_57 rfl rfl ?_
        refine fs_getr (ci := 12) (j := 85) (q := 254) dd_X12_qPartTold_58 fl_X12_192 ca_196 rfl (Or.inr ⟨_, rfl⟩) rfl (by decide) ?_
        refine fs_callV (y := m_X12_isHere) (as := [.ref 254]) dd_X12_qPartTold_61 me_X12_isHere lk_X12_275 in_X12_isHere se_X12_isHere ca_196 rfl rfl rfl (Nat.le_of_ble_eq_true rfl) (Nat.le_of_ble_eq_true rfl) rfl (V_X12_isHere (by omega) ca_254 H) (k2_Z fun r5 s6 H => ?_)
        refine fs_if_ne (tgt := 78) dd_X12_qPartTold_64 (by decide) (fun hc => ?_) (fun hc => ?_)
        · replace H := H.1 (bi_1 hc)
          refine fs_weak (ls2 := [.ref 196, .int (bi v1), fz_J, fz_J, fz_J, fz_J]) (fz_le_e (fz_le_e (fz_le_j (fz_le_j (fz_le_j (fz_le_j fz_le_n)))))) ?_
          exact V_nd_X12_qPartTold_78 hD   hK2 H
        · replace H := H.2 (bi_0 hc)
          refine fs_aload_n (k0 := 0) (i := 0) dd_X12_qPartTold_67 rfl rfl ?_
          refine fs_aload_n (k0 := 0) (i := 0) dd_X12_qPartTold_68 rfl rfl ?_
          refine fs_getr (ci := 12) (j := 86) (q := 255) dd_X12_qPartTold_69 fl_X12_195 ca_196 rfl (Or.inr ⟨_, rfl⟩) rfl (by decide) ?_
          refine fs_callV (y := m_X12_isHere) (as := [.ref 255]) dd_X12_qPartTold_72 me_X12_isHere lk_X12_275 in_X12_isHere se_X12_isHere ca_196 rfl rfl rfl (Nat.le_of_ble_eq_true rfl) (Nat.le_of_ble_eq_true rfl) rfl (V_X12_isHere (by omega) ca_255 H) (k2_Z fun r7 s8 H => ?_)
          refine fs_if_eq (tgt := 153) dd_X12_qPartTold_75 (by decide) (fun hc => ?_) (fun hc => ?_)
          · replace H := H.1 (bi_0 hc)
            refine fs_iload_n (k0 := 3) (i := 3) dd_X12_qPartTold_153 rfl rfl ?_
            refine fs_iconst (n := -1) (v := -1) dd_X12_qPartTold_154 (by decide) ?_
            refine fs_icmp_eq (tgt := 181) dd_X12_qPartTold_155 (by decide) (fun hc => ?_) (fun hc => ?_)
            · replace H := H.1 hc
              refine fs_iconst (n := 0) (v := 0) dd_X12_qPartTold_181 (by decide) ?_
              refine fs_istore_n (k0 := 1) (i := 1) dd_X12_qPartTold_182 rfl (by decide) ?_
              refine fs_goto (tgt := 2) dd_X12_qPartTold_183 (by decide) ?_
              refine fs_weak (ls2 := [.ref 196, .int (bi false), fz_J, fz_J, fz_J, fz_J]) (fz_le_e (fz_le_e (fz_le_j (fz_le_j (fz_le_j (fz_le_j fz_le_n)))))) ?_
              exact hK2 H
            · replace H := H.2 hc
              refine fs_aload_n (k0 := 0) (i := 0) dd_X12_qPartTold_158 rfl rfl ?_
              refine fs_bipush (n := 60) (v := 60) dd_X12_qPartTold_159 (by decide) ?_
              refine fs_iload_n (k0 := 3) (i := 3) dd_X12_qPartTold_161 rfl rfl ?_
              refine fs_iadd dd_X12_qPartTold_162 ?_
              refine fs_bipush (n := 11) (v := 11) dd_X12_qPartTold_163 (by decide) ?_
              refine fs_isub dd_X12_qPartTold_165 ?_
              refine fs_aload_n (k0 := 0) (i := 0) dd_X12_qPartTold_166 rfl rfl ?_
              refine fs_geti (ci := 12) (j := 2) dd_X12_qPartTold_167 fl_X12_258 ca_196 rfl (Or.inl rfl) ?_
              refine fs_callV (y := m_X12_qOpens) (as := [.int ((60 + r3) - 11), .int (s8.1 196 2)]) dd_X12_qPartTold_170 me_X12_qOpens lk_X12_626 in_X12_qOpens se_X12_qOpens ca_196 rfl rfl rfl (Nat.le_of_ble_eq_true rfl) (Nat.le_of_ble_eq_true rfl) rfl (V_X12_qOpens (by omega)  H) (k2_V fun s10 H => ?_)
              refine fs_aload_n (k0 := 0) (i := 0) dd_X12_qPartTold_173 rfl rfl ?_
              refine fs_iload_n (k0 := 3) (i := 3) dd_X12_qPartTold_174 rfl rfl ?_
              refine fs_callV (y := m_X12_qAsksWord) (as := [.int r3]) dd_X12_qPartTold_175 me_X12_qAsksWord lk_X12_629 in_X12_qAsksWord se_X12_qAsksWord ca_196 rfl rfl rfl (Nat.le_of_ble_eq_true rfl) (Nat.le_of_ble_eq_true rfl) rfl (V_X12_qAsksWord (by omega)  H) (k2_V fun s12 H => ?_)
              refine fs_goto (tgt := 183) dd_X12_qPartTold_178 (by decide) ?_
              refine fs_goto (tgt := 2) dd_X12_qPartTold_183 (by decide) ?_
              refine fs_weak (ls2 := [.ref 196, .int (bi v1), fz_J, fz_J, fz_J, fz_J]) (fz_le_e (fz_le_e (fz_le_j (fz_le_j (fz_le_j (fz_le_j fz_le_n)))))) ?_
              exact hK2 H
          · replace H := H.2 (bi_1 hc)
            refine fs_weak (ls2 := [.ref 196, .int (bi v1), fz_J, fz_J, fz_J, fz_J]) (fz_le_e (fz_le_e (fz_le_j (fz_le_j (fz_le_j (fz_le_j fz_le_n)))))) ?_
            exact V_nd_X12_qPartTold_78 hD   hK2 H
      · replace H := H.2 hc
        refine fs_aload_n (k0 := 0) (i := 0) dd_X12_qPartTold_33 rfl rfl ?_
        refine fs_bipush (n := 20) (v := 20) dd_X12_qPartTold_34 (by decide) ?_
        refine fs_aload_n (k0 := 0) (i := 0) dd_X12_qPartTold_36 rfl rfl ?_
        refine fs_geti (ci := 12) (j := 2) dd_X12_qPartTold_37 fl_X12_258 ca_196 rfl (Or.inl rfl) ?_
        refine fs_callV (y := m_X12_qOpens) (as := [.int 20, .int (s4.1 196 2)]) dd_X12_qPartTold_40 me_X12_qOpens lk_X12_626 in_X12_qOpens se_X12_qOpens ca_196 rfl rfl rfl (Nat.le_of_ble_eq_true rfl) (Nat.le_of_ble_eq_true rfl) rfl (V_X12_qOpens (by omega)  H) (k2_V fun s14 H => ?_)
        refine fs_aload_n (k0 := 0) (i := 0) dd_X12_qPartTold_43 rfl rfl ?_
        refine fs_dup dd_X12_qPartTold_44 rfl ?_
        refine fs_geti (ci := 12) (j := 2) dd_X12_qPartTold_45 fl_X12_258 ca_196 rfl (Or.inl rfl) ?_
        refine fs_iconst (n := 1) (v := 1) dd_X12_qPartTold_48 (by decide) ?_
        refine fs_iadd dd_X12_qPartTold_49 ?_
        refine fs_puti (ci := 12) (j := 2) dd_X12_qPartTold_50 fl_X12_258 (fun _ _ _ h => by cases h; rfl) ca_196 rfl (Or.inl rfl) ?_
        refine fs_tops (fun s15 hs15 => ?_)
        replace H := H s15 hs15
        refine fs_goto (tgt := 183) dd_X12_qPartTold_53 (by decide) ?_
        refine fs_goto (tgt := 2) dd_X12_qPartTold_183 (by decide) ?_
        refine fs_weak (ls2 := [.ref 196, .int (bi v1), fz_J, fz_J, fz_J, fz_J]) (fz_le_e (fz_le_e (fz_le_j (fz_le_j (fz_le_j (fz_le_j fz_le_n)))))) ?_
        exact hK2 H
set_option maxRecDepth 100000 in
set_option maxHeartbeats 4000000 in
theorem V_lp_X12_qPartTold_2 {g : fz_G} {l : Launch} {d : Nat} (hD : 5 ≤ d)    {Q : fz_s → Prop}  (n : Nat) : ∀ {v1 : Bool} {s : fz_s}, lp_X12_qPartTold_2   Q n v1 s → fs_V g l m_X12_qPartTold d false 2 [.ref 196, .int (bi v1), fz_J, fz_J, fz_J, fz_J] [] s (rV Q) := by
  induction n with
  | zero => intro v1 s H; exact H.elim
  | succ n ih => intro v1 s H; exact V_nd_X12_qPartTold_2 hD  (fun H => ih H) H
set_option maxRecDepth 100000 in
set_option maxHeartbeats 4000000 in
theorem V_X12_qPartTold {g : fz_G} {l : Launch} {d : Nat} (hD : 5 ≤ d)   {s : fz_s} {Q : fz_s → Prop} (H : wp_X12_qPartTold  s Q) : fs_V g l m_X12_qPartTold d false 0 (fz_en [.ref 196] 6) [] s (rV Q) := by
  obtain ⟨d, rfl⟩ : ∃ e, d = e + 1 := ⟨d - 1, by omega⟩
  unfold wp_X12_qPartTold at H
  refine fs_iconst (n := 1) (v := 1) dd_X12_qPartTold_0 (by decide) ?_
  refine fs_istore_n (k0 := 1) (i := 1) dd_X12_qPartTold_1 rfl (by decide) ?_
  refine fs_weak (ls2 := [.ref 196, .int (bi true), fz_J, fz_J, fz_J, fz_J]) (fz_le_e (fz_le_e (fz_le_j (fz_le_j (fz_le_j (fz_le_j fz_le_n)))))) ?_
  exact V_lp_X12_qPartTold_2 hD    2048 H
theorem dd_X12_qIsBracket_0 : decode m_X12_qIsBracket.2.1 0 = .ok (.iload_n 0, 1) := by decide +kernel
theorem dd_X12_qIsBracket_1 : decode m_X12_qIsBracket.2.1 1 = .ok (.bipush 20, 2) := by decide +kernel
theorem dd_X12_qIsBracket_3 : decode m_X12_qIsBracket.2.1 3 = .ok (.if_icmp .lt 13, 3) := by decide +kernel
theorem dd_X12_qIsBracket_6 : decode m_X12_qIsBracket.2.1 6 = .ok (.iload_n 0, 1) := by decide +kernel
theorem dd_X12_qIsBracket_7 : decode m_X12_qIsBracket.2.1 7 = .ok (.bipush 24, 2) := by decide +kernel
theorem dd_X12_qIsBracket_9 : decode m_X12_qIsBracket.2.1 9 = .ok (.if_icmp .gt 7, 3) := by decide +kernel
theorem dd_X12_qIsBracket_12 : decode m_X12_qIsBracket.2.1 12 = .ok (.iconst 1, 1) := by decide +kernel
theorem dd_X12_qIsBracket_13 : decode m_X12_qIsBracket.2.1 13 = .ok (.goto 4, 3) := by decide +kernel
theorem dd_X12_qIsBracket_16 : decode m_X12_qIsBracket.2.1 16 = .ok (.iconst 0, 1) := by decide +kernel
theorem dd_X12_qIsBracket_17 : decode m_X12_qIsBracket.2.1 17 = .ok (.ireturn, 1) := by decide +kernel
def wp_X12_qIsBracket (p0 : Int32) (s : fz_s) (Q : Bool → fz_s → Prop) : Prop :=
  ((p0 < 20 → Q false s) ∧ (¬ p0 < 20 → ((24 < p0 → Q false s) ∧ (¬ 24 < p0 → Q true s))))
set_option maxRecDepth 100000 in
set_option maxHeartbeats 4000000 in
theorem V_X12_qIsBracket {g : fz_G} {l : Launch} {d : Nat} (hD : 0 ≤ d) {p0 : Int32}  {s : fz_s} {Q : Bool → fz_s → Prop} (H : wp_X12_qIsBracket p0 s Q) : fs_V g l m_X12_qIsBracket d false 0 (fz_en [.int p0] 1) [] s (rZ Q) := by
  unfold wp_X12_qIsBracket at H
  refine fs_iload_n (k0 := 0) (i := 0) dd_X12_qIsBracket_0 rfl rfl ?_
  refine fs_bipush (n := 20) (v := 20) dd_X12_qIsBracket_1 (by decide) ?_
  refine fs_icmp_lt (tgt := 16) dd_X12_qIsBracket_3 (by decide) (fun hc => ?_) (fun hc => ?_)
  · replace H := H.1 hc
    refine fs_iconst (n := 0) (v := 0) dd_X12_qIsBracket_16 (by decide) ?_
    exact fs_zret false dd_X12_qIsBracket_17 rfl rfl H
  · replace H := H.2 hc
    refine fs_iload_n (k0 := 0) (i := 0) dd_X12_qIsBracket_6 rfl rfl ?_
    refine fs_bipush (n := 24) (v := 24) dd_X12_qIsBracket_7 (by decide) ?_
    refine fs_icmp_gt (tgt := 16) dd_X12_qIsBracket_9 (by decide) (fun hc => ?_) (fun hc => ?_)
    · replace H := H.1 hc
      refine fs_iconst (n := 0) (v := 0) dd_X12_qIsBracket_16 (by decide) ?_
      exact fs_zret false dd_X12_qIsBracket_17 rfl rfl H
    · replace H := H.2 hc
      refine fs_iconst (n := 1) (v := 1) dd_X12_qIsBracket_12 (by decide) ?_
      refine fs_goto (tgt := 17) dd_X12_qIsBracket_13 (by decide) ?_
      exact fs_zret true dd_X12_qIsBracket_17 rfl rfl H
theorem dd_X12_qBracket_0 : decode m_X12_qBracket.2.1 0 = .ok (.aload_n 0, 1) := by decide +kernel
theorem dd_X12_qBracket_1 : decode m_X12_qBracket.2.1 1 = .ok (.getfield 341, 3) := by decide +kernel
theorem dd_X12_qBracket_4 : decode m_X12_qBracket.2.1 4 = .ok (.iconst 1, 1) := by decide +kernel
theorem dd_X12_qBracket_5 : decode m_X12_qBracket.2.1 5 = .ok (.isub, 1) := by decide +kernel
theorem dd_X12_qBracket_6 : decode m_X12_qBracket.2.1 6 = .ok (.istore_n 1, 1) := by decide +kernel
theorem dd_X12_qBracket_7 : decode m_X12_qBracket.2.1 7 = .ok (.iload_n 1, 1) := by decide +kernel
theorem dd_X12_qBracket_8 : decode m_X12_qBracket.2.1 8 = .ok (.aload_n 0, 1) := by decide +kernel
theorem dd_X12_qBracket_9 : decode m_X12_qBracket.2.1 9 = .ok (.getfield 347, 3) := by decide +kernel
theorem dd_X12_qBracket_12 : decode m_X12_qBracket.2.1 12 = .ok (.if_icmp .lt 21, 3) := by decide +kernel
theorem dd_X12_qBracket_15 : decode m_X12_qBracket.2.1 15 = .ok (.aload_n 0, 1) := by decide +kernel
theorem dd_X12_qBracket_16 : decode m_X12_qBracket.2.1 16 = .ok (.getfield 240, 3) := by decide +kernel
theorem dd_X12_qBracket_19 : decode m_X12_qBracket.2.1 19 = .ok (.iload_n 1, 1) := by decide +kernel
theorem dd_X12_qBracket_20 : decode m_X12_qBracket.2.1 20 = .ok (.iaload, 1) := by decide +kernel
theorem dd_X12_qBracket_21 : decode m_X12_qBracket.2.1 21 = .ok (.invokestatic 611, 3) := by decide +kernel
theorem dd_X12_qBracket_24 : decode m_X12_qBracket.2.1 24 = .ok (.ifCond .ne 9, 3) := by decide +kernel
theorem dd_X12_qBracket_27 : decode m_X12_qBracket.2.1 27 = .ok (.iinc 1 (-1), 3) := by decide +kernel
theorem dd_X12_qBracket_30 : decode m_X12_qBracket.2.1 30 = .ok (.goto (-23), 3) := by decide +kernel
theorem dd_X12_qBracket_33 : decode m_X12_qBracket.2.1 33 = .ok (.iload_n 1, 1) := by decide +kernel
theorem dd_X12_qBracket_34 : decode m_X12_qBracket.2.1 34 = .ok (.aload_n 0, 1) := by decide +kernel
theorem dd_X12_qBracket_35 : decode m_X12_qBracket.2.1 35 = .ok (.getfield 347, 3) := by decide +kernel
theorem dd_X12_qBracket_38 : decode m_X12_qBracket.2.1 38 = .ok (.if_icmp .lt 12, 3) := by decide +kernel
theorem dd_X12_qBracket_41 : decode m_X12_qBracket.2.1 41 = .ok (.aload_n 0, 1) := by decide +kernel
theorem dd_X12_qBracket_42 : decode m_X12_qBracket.2.1 42 = .ok (.getfield 240, 3) := by decide +kernel
theorem dd_X12_qBracket_45 : decode m_X12_qBracket.2.1 45 = .ok (.iload_n 1, 1) := by decide +kernel
theorem dd_X12_qBracket_46 : decode m_X12_qBracket.2.1 46 = .ok (.iaload, 1) := by decide +kernel
theorem dd_X12_qBracket_47 : decode m_X12_qBracket.2.1 47 = .ok (.goto 4, 3) := by decide +kernel
theorem dd_X12_qBracket_50 : decode m_X12_qBracket.2.1 50 = .ok (.iconst (-1), 1) := by decide +kernel
theorem dd_X12_qBracket_51 : decode m_X12_qBracket.2.1 51 = .ok (.ireturn, 1) := by decide +kernel
def nd_X12_qBracket_33   (Q : Int32 → fz_s → Prop) (v1 : Int32) (s : fz_s) : Prop :=
  ((v1 < (s.1 196 105) → Q (-1) s) ∧ (¬ v1 < (s.1 196 105) → vp_in v1 1700 ∧ Q (s.1 270 v1.toNatClampNeg) s))
def nd_X12_qBracket_7  (K7 : Int32 → fz_s → Prop) (Q : Int32 → fz_s → Prop) (v1 : Int32) (s : fz_s) : Prop :=
  ((v1 < (s.1 196 105) → nd_X12_qBracket_33   Q v1 s) ∧ (¬ v1 < (s.1 196 105) → vp_in v1 1700 ∧ wp_X12_qIsBracket (s.1 270 v1.toNatClampNeg) s (fun r1 s2 => ((r1 = true → nd_X12_qBracket_33   Q v1 s2) ∧ (r1 = false → ∀ x3 : Int32, x3 = v1 + (-1) → K7 x3 s2)))))
def lp_X12_qBracket_7   (Q : Int32 → fz_s → Prop) : Nat → Int32 → fz_s → Prop
  | 0 => fun _ _ => False
  | n + 1 => nd_X12_qBracket_7  (lp_X12_qBracket_7   Q n) Q
def wp_X12_qBracket  (s : fz_s) (Q : Int32 → fz_s → Prop) : Prop :=
  ∀ x1 : Int32, x1 = ((s.1 196 103) - 1) → lp_X12_qBracket_7   Q 2048 x1 s
set_option maxRecDepth 100000 in
set_option maxHeartbeats 4000000 in
theorem V_nd_X12_qBracket_33 {g : fz_G} {l : Launch} {d : Nat} (hD : 1 ≤ d)    {Q : Int32 → fz_s → Prop} {v1 : Int32} {s : fz_s}  (H : nd_X12_qBracket_33   Q v1 s) : fs_V g l m_X12_qBracket d false 33 [.ref 196, .int v1] [] s (rI Q) := by
  obtain ⟨d, rfl⟩ : ∃ e, d = e + 1 := ⟨d - 1, by omega⟩
  unfold nd_X12_qBracket_33 at H
  refine fs_iload_n (k0 := 1) (i := 1) dd_X12_qBracket_33 rfl rfl ?_
  refine fs_aload_n (k0 := 0) (i := 0) dd_X12_qBracket_34 rfl rfl ?_
  refine fs_geti (ci := 12) (j := 105) dd_X12_qBracket_35 fl_X12_347 ca_196 rfl (Or.inl rfl) ?_
  refine fs_icmp_lt (tgt := 50) dd_X12_qBracket_38 (by decide) (fun hc => ?_) (fun hc => ?_)
  · replace H := H.1 hc
    refine fs_iconst (n := -1) (v := -1) dd_X12_qBracket_50 (by decide) ?_
    exact fs_iret dd_X12_qBracket_51 rfl H
  · replace H := H.2 hc
    refine fs_aload_n (k0 := 0) (i := 0) dd_X12_qBracket_41 rfl rfl ?_
    refine fs_getr (ci := 12) (j := 102) (q := 270) dd_X12_qBracket_42 fl_X12_240 ca_196 rfl (Or.inr ⟨_, rfl⟩) rfl (by decide) ?_
    refine fs_iload_n (k0 := 1) (i := 1) dd_X12_qBracket_45 rfl rfl ?_
    have hb := H.1
    replace H := H.2
    refine fs_iald dd_X12_qBracket_46 ca_270 hb ?_
    refine fs_goto (tgt := 51) dd_X12_qBracket_47 (by decide) ?_
    exact fs_iret dd_X12_qBracket_51 rfl H
set_option maxRecDepth 100000 in
set_option maxHeartbeats 4000000 in
theorem V_nd_X12_qBracket_7 {g : fz_G} {l : Launch} {d : Nat} (hD : 1 ≤ d)   {K7 : Int32 → fz_s → Prop} {Q : Int32 → fz_s → Prop} {v1 : Int32} {s : fz_s} (hK7 : ∀ {v1 : Int32} {s : fz_s}, K7 v1 s → fs_V g l m_X12_qBracket d false 7 [.ref 196, .int v1] [] s (rI Q)) (H : nd_X12_qBracket_7  K7 Q v1 s) : fs_V g l m_X12_qBracket d false 7 [.ref 196, .int v1] [] s (rI Q) := by
  obtain ⟨d, rfl⟩ : ∃ e, d = e + 1 := ⟨d - 1, by omega⟩
  unfold nd_X12_qBracket_7 at H
  refine fs_iload_n (k0 := 1) (i := 1) dd_X12_qBracket_7 rfl rfl ?_
  refine fs_aload_n (k0 := 0) (i := 0) dd_X12_qBracket_8 rfl rfl ?_
  refine fs_geti (ci := 12) (j := 105) dd_X12_qBracket_9 fl_X12_347 ca_196 rfl (Or.inl rfl) ?_
  refine fs_icmp_lt (tgt := 33) dd_X12_qBracket_12 (by decide) (fun hc => ?_) (fun hc => ?_)
  · replace H := H.1 hc
    refine fs_weak (ls2 := [.ref 196, .int v1]) (fz_le_e (fz_le_e fz_le_n)) ?_
    exact V_nd_X12_qBracket_33 hD    H
  · replace H := H.2 hc
    refine fs_aload_n (k0 := 0) (i := 0) dd_X12_qBracket_15 rfl rfl ?_
    refine fs_getr (ci := 12) (j := 102) (q := 270) dd_X12_qBracket_16 fl_X12_240 ca_196 rfl (Or.inr ⟨_, rfl⟩) rfl (by decide) ?_
    refine fs_iload_n (k0 := 1) (i := 1) dd_X12_qBracket_19 rfl rfl ?_
    have hb := H.1
    replace H := H.2
    refine fs_iald dd_X12_qBracket_20 ca_270 hb ?_
    refine fs_callS (y := m_X12_qIsBracket) (as := [.int (s.1 270 v1.toNatClampNeg)]) dd_X12_qBracket_21 me_X12_qIsBracket (Or.inl lk_X12_611) st_X12_qIsBracket rfl (Nat.le_of_ble_eq_true rfl) (Nat.le_of_ble_eq_true rfl) rfl (V_X12_qIsBracket (by omega)  H) (k2_Z fun r1 s2 H => ?_)
    refine fs_if_ne (tgt := 33) dd_X12_qBracket_24 (by decide) (fun hc => ?_) (fun hc => ?_)
    · replace H := H.1 (bi_1 hc)
      refine fs_weak (ls2 := [.ref 196, .int v1]) (fz_le_e (fz_le_e fz_le_n)) ?_
      exact V_nd_X12_qBracket_33 hD    H
    · replace H := H.2 (bi_0 hc)
      refine fs_iincN (i := 1) (m := -1) (c := -1) dd_X12_qBracket_27 rfl (by decide) (by decide) (fun x3 hx3 => ?_)
      replace H := H x3 hx3
      refine fs_goto (tgt := 7) dd_X12_qBracket_30 (by decide) ?_
      refine fs_weak (ls2 := [.ref 196, .int x3]) (fz_le_e (fz_le_e fz_le_n)) ?_
      exact hK7 H
set_option maxRecDepth 100000 in
set_option maxHeartbeats 4000000 in
theorem V_lp_X12_qBracket_7 {g : fz_G} {l : Launch} {d : Nat} (hD : 1 ≤ d)    {Q : Int32 → fz_s → Prop}  (n : Nat) : ∀ {v1 : Int32} {s : fz_s}, lp_X12_qBracket_7   Q n v1 s → fs_V g l m_X12_qBracket d false 7 [.ref 196, .int v1] [] s (rI Q) := by
  induction n with
  | zero => intro v1 s H; exact H.elim
  | succ n ih => intro v1 s H; exact V_nd_X12_qBracket_7 hD  (fun H => ih H) H
set_option maxRecDepth 100000 in
set_option maxHeartbeats 4000000 in
theorem V_X12_qBracket {g : fz_G} {l : Launch} {d : Nat} (hD : 1 ≤ d)   {s : fz_s} {Q : Int32 → fz_s → Prop} (H : wp_X12_qBracket  s Q) : fs_V g l m_X12_qBracket d false 0 (fz_en [.ref 196] 2) [] s (rI Q) := by
  obtain ⟨d, rfl⟩ : ∃ e, d = e + 1 := ⟨d - 1, by omega⟩
  unfold wp_X12_qBracket at H
  refine fs_aload_n (k0 := 0) (i := 0) dd_X12_qBracket_0 rfl rfl ?_
  refine fs_geti (ci := 12) (j := 103) dd_X12_qBracket_1 fl_X12_341 ca_196 rfl (Or.inl rfl) ?_
  refine fs_iconst (n := 1) (v := 1) dd_X12_qBracket_4 (by decide) ?_
  refine fs_isub dd_X12_qBracket_5 ?_
  refine fs_topi (fun x1 hx1 => ?_)
  replace H := H x1 hx1
  refine fs_istore_n (k0 := 1) (i := 1) dd_X12_qBracket_6 rfl (by decide) ?_
  refine fs_weak (ls2 := [.ref 196, .int x1]) (fz_le_e (fz_le_e fz_le_n)) ?_
  exact V_lp_X12_qBracket_7 hD    2048 H
theorem dd_X12_qDropsToBracket_0 : decode m_X12_qDropsToBracket.2.1 0 = .ok (.aload_n 0, 1) := by decide +kernel
theorem dd_X12_qDropsToBracket_1 : decode m_X12_qDropsToBracket.2.1 1 = .ok (.getfield 341, 3) := by decide +kernel
theorem dd_X12_qDropsToBracket_4 : decode m_X12_qDropsToBracket.2.1 4 = .ok (.aload_n 0, 1) := by decide +kernel
theorem dd_X12_qDropsToBracket_5 : decode m_X12_qDropsToBracket.2.1 5 = .ok (.getfield 347, 3) := by decide +kernel
theorem dd_X12_qDropsToBracket_8 : decode m_X12_qDropsToBracket.2.1 8 = .ok (.if_icmp .le 27, 3) := by decide +kernel
theorem dd_X12_qDropsToBracket_11 : decode m_X12_qDropsToBracket.2.1 11 = .ok (.aload_n 0, 1) := by decide +kernel
theorem dd_X12_qDropsToBracket_12 : decode m_X12_qDropsToBracket.2.1 12 = .ok (.getfield 240, 3) := by decide +kernel
theorem dd_X12_qDropsToBracket_15 : decode m_X12_qDropsToBracket.2.1 15 = .ok (.aload_n 0, 1) := by decide +kernel
theorem dd_X12_qDropsToBracket_16 : decode m_X12_qDropsToBracket.2.1 16 = .ok (.getfield 341, 3) := by decide +kernel
theorem dd_X12_qDropsToBracket_19 : decode m_X12_qDropsToBracket.2.1 19 = .ok (.iconst 1, 1) := by decide +kernel
theorem dd_X12_qDropsToBracket_20 : decode m_X12_qDropsToBracket.2.1 20 = .ok (.isub, 1) := by decide +kernel
theorem dd_X12_qDropsToBracket_21 : decode m_X12_qDropsToBracket.2.1 21 = .ok (.iaload, 1) := by decide +kernel
theorem dd_X12_qDropsToBracket_22 : decode m_X12_qDropsToBracket.2.1 22 = .ok (.invokestatic 611, 3) := by decide +kernel
theorem dd_X12_qDropsToBracket_25 : decode m_X12_qDropsToBracket.2.1 25 = .ok (.ifCond .ne 10, 3) := by decide +kernel
theorem dd_X12_qDropsToBracket_28 : decode m_X12_qDropsToBracket.2.1 28 = .ok (.aload_n 0, 1) := by decide +kernel
theorem dd_X12_qDropsToBracket_29 : decode m_X12_qDropsToBracket.2.1 29 = .ok (.invokevirtual 614, 3) := by decide +kernel
theorem dd_X12_qDropsToBracket_32 : decode m_X12_qDropsToBracket.2.1 32 = .ok (.goto (-32), 3) := by decide +kernel
theorem dd_X12_qDropsToBracket_35 : decode m_X12_qDropsToBracket.2.1 35 = .ok (.return_, 1) := by decide +kernel
def nd_X12_qDropsToBracket_0  (K0 : fz_s → Prop) (Q : fz_s → Prop)  (s : fz_s) : Prop :=
  (((s.1 196 103) ≤ (s.1 196 105) → Q s) ∧ (¬ (s.1 196 103) ≤ (s.1 196 105) → vp_in ((s.1 196 103) - 1) 1700 ∧ wp_X12_qIsBracket (s.1 270 ((s.1 196 103) - 1).toNatClampNeg) s (fun r1 s2 => ((r1 = true → Q s2) ∧ (r1 = false → wp_X12_qDrops  s2 (fun s4 => K0  s4))))))
def lp_X12_qDropsToBracket_0   (Q : fz_s → Prop) : Nat → fz_s → Prop
  | 0 => fun  _ => False
  | n + 1 => nd_X12_qDropsToBracket_0  (lp_X12_qDropsToBracket_0   Q n) Q
def wp_X12_qDropsToBracket  (s : fz_s) (Q : fz_s → Prop) : Prop :=
  lp_X12_qDropsToBracket_0   Q 2048  s
set_option maxRecDepth 100000 in
set_option maxHeartbeats 4000000 in
theorem V_nd_X12_qDropsToBracket_0 {g : fz_G} {l : Launch} {d : Nat} (hD : 2 ≤ d)   {K0 : fz_s → Prop} {Q : fz_s → Prop}  {s : fz_s} (hK0 : ∀ {s : fz_s}, K0 s → fs_V g l m_X12_qDropsToBracket d false 0 [.ref 196] [] s (rV Q)) (H : nd_X12_qDropsToBracket_0  K0 Q  s) : fs_V g l m_X12_qDropsToBracket d false 0 [.ref 196] [] s (rV Q) := by
  obtain ⟨d, rfl⟩ : ∃ e, d = e + 1 := ⟨d - 1, by omega⟩
  unfold nd_X12_qDropsToBracket_0 at H
  refine fs_aload_n (k0 := 0) (i := 0) dd_X12_qDropsToBracket_0 rfl rfl ?_
  refine fs_geti (ci := 12) (j := 103) dd_X12_qDropsToBracket_1 fl_X12_341 ca_196 rfl (Or.inl rfl) ?_
  refine fs_aload_n (k0 := 0) (i := 0) dd_X12_qDropsToBracket_4 rfl rfl ?_
  refine fs_geti (ci := 12) (j := 105) dd_X12_qDropsToBracket_5 fl_X12_347 ca_196 rfl (Or.inl rfl) ?_
  refine fs_icmp_le (tgt := 35) dd_X12_qDropsToBracket_8 (by decide) (fun hc => ?_) (fun hc => ?_)
  · replace H := H.1 hc
    exact fs_vret dd_X12_qDropsToBracket_35 rfl H
  · replace H := H.2 hc
    refine fs_aload_n (k0 := 0) (i := 0) dd_X12_qDropsToBracket_11 rfl rfl ?_
    refine fs_getr (ci := 12) (j := 102) (q := 270) dd_X12_qDropsToBracket_12 fl_X12_240 ca_196 rfl (Or.inr ⟨_, rfl⟩) rfl (by decide) ?_
    refine fs_aload_n (k0 := 0) (i := 0) dd_X12_qDropsToBracket_15 rfl rfl ?_
    refine fs_geti (ci := 12) (j := 103) dd_X12_qDropsToBracket_16 fl_X12_341 ca_196 rfl (Or.inl rfl) ?_
    refine fs_iconst (n := 1) (v := 1) dd_X12_qDropsToBracket_19 (by decide) ?_
    refine fs_isub dd_X12_qDropsToBracket_20 ?_
    have hb := H.1
    replace H := H.2
    refine fs_iald dd_X12_qDropsToBracket_21 ca_270 hb ?_
    refine fs_callS (y := m_X12_qIsBracket) (as := [.int (s.1 270 ((s.1 196 103) - 1).toNatClampNeg)]) dd_X12_qDropsToBracket_22 me_X12_qIsBracket (Or.inl lk_X12_611) st_X12_qIsBracket rfl (Nat.le_of_ble_eq_true rfl) (Nat.le_of_ble_eq_true rfl) rfl (V_X12_qIsBracket (by omega)  H) (k2_Z fun r1 s2 H => ?_)
    refine fs_if_ne (tgt := 35) dd_X12_qDropsToBracket_25 (by decide) (fun hc => ?_) (fun hc => ?_)
    · replace H := H.1 (bi_1 hc)
      exact fs_vret dd_X12_qDropsToBracket_35 rfl H
    · replace H := H.2 (bi_0 hc)
      refine fs_aload_n (k0 := 0) (i := 0) dd_X12_qDropsToBracket_28 rfl rfl ?_
      refine fs_callV (y := m_X12_qDrops) (as := []) dd_X12_qDropsToBracket_29 me_X12_qDrops lk_X12_614 in_X12_qDrops se_X12_qDrops ca_196 rfl rfl rfl (Nat.le_of_ble_eq_true rfl) (Nat.le_of_ble_eq_true rfl) rfl (V_X12_qDrops (by omega)  H) (k2_V fun s4 H => ?_)
      refine fs_goto (tgt := 0) dd_X12_qDropsToBracket_32 (by decide) ?_
      refine fs_weak (ls2 := [.ref 196]) (fz_le_e fz_le_n) ?_
      exact hK0 H
set_option maxRecDepth 100000 in
set_option maxHeartbeats 4000000 in
theorem V_lp_X12_qDropsToBracket_0 {g : fz_G} {l : Launch} {d : Nat} (hD : 2 ≤ d)    {Q : fz_s → Prop}  (n : Nat) : ∀ {s : fz_s}, lp_X12_qDropsToBracket_0   Q n  s → fs_V g l m_X12_qDropsToBracket d false 0 [.ref 196] [] s (rV Q) := by
  induction n with
  | zero => intro  s H; exact H.elim
  | succ n ih => intro  s H; exact V_nd_X12_qDropsToBracket_0 hD  (fun H => ih H) H
set_option maxRecDepth 100000 in
set_option maxHeartbeats 4000000 in
theorem V_X12_qDropsToBracket {g : fz_G} {l : Launch} {d : Nat} (hD : 2 ≤ d)   {s : fz_s} {Q : fz_s → Prop} (H : wp_X12_qDropsToBracket  s Q) : fs_V g l m_X12_qDropsToBracket d false 0 (fz_en [.ref 196] 1) [] s (rV Q) := by
  obtain ⟨d, rfl⟩ : ∃ e, d = e + 1 := ⟨d - 1, by omega⟩
  unfold wp_X12_qDropsToBracket at H
  refine fs_weak (ls2 := [.ref 196]) (fz_le_e fz_le_n) ?_
  exact V_lp_X12_qDropsToBracket_0 hD    2048 H
theorem dd_X12_qIsOn_0 : decode m_X12_qIsOn.2.1 0 = .ok (.aload_n 0, 1) := by decide +kernel
theorem dd_X12_qIsOn_1 : decode m_X12_qIsOn.2.1 1 = .ok (.getfield 341, 3) := by decide +kernel
theorem dd_X12_qIsOn_4 : decode m_X12_qIsOn.2.1 4 = .ok (.ifCond .le 22, 3) := by decide +kernel
theorem dd_X12_qIsOn_7 : decode m_X12_qIsOn.2.1 7 = .ok (.aload_n 0, 1) := by decide +kernel
theorem dd_X12_qIsOn_8 : decode m_X12_qIsOn.2.1 8 = .ok (.getfield 240, 3) := by decide +kernel
theorem dd_X12_qIsOn_11 : decode m_X12_qIsOn.2.1 11 = .ok (.aload_n 0, 1) := by decide +kernel
theorem dd_X12_qIsOn_12 : decode m_X12_qIsOn.2.1 12 = .ok (.getfield 341, 3) := by decide +kernel
theorem dd_X12_qIsOn_15 : decode m_X12_qIsOn.2.1 15 = .ok (.iconst 1, 1) := by decide +kernel
theorem dd_X12_qIsOn_16 : decode m_X12_qIsOn.2.1 16 = .ok (.isub, 1) := by decide +kernel
theorem dd_X12_qIsOn_17 : decode m_X12_qIsOn.2.1 17 = .ok (.iaload, 1) := by decide +kernel
theorem dd_X12_qIsOn_18 : decode m_X12_qIsOn.2.1 18 = .ok (.iload_n 1, 1) := by decide +kernel
theorem dd_X12_qIsOn_19 : decode m_X12_qIsOn.2.1 19 = .ok (.if_icmp .ne 7, 3) := by decide +kernel
theorem dd_X12_qIsOn_22 : decode m_X12_qIsOn.2.1 22 = .ok (.iconst 1, 1) := by decide +kernel
theorem dd_X12_qIsOn_23 : decode m_X12_qIsOn.2.1 23 = .ok (.goto 4, 3) := by decide +kernel
theorem dd_X12_qIsOn_26 : decode m_X12_qIsOn.2.1 26 = .ok (.iconst 0, 1) := by decide +kernel
theorem dd_X12_qIsOn_27 : decode m_X12_qIsOn.2.1 27 = .ok (.ireturn, 1) := by decide +kernel
def wp_X12_qIsOn (p0 : Int32) (s : fz_s) (Q : Bool → fz_s → Prop) : Prop :=
  (((s.1 196 103) ≤ 0 → Q false s) ∧ (¬ (s.1 196 103) ≤ 0 → vp_in ((s.1 196 103) - 1) 1700 ∧ ((¬ (s.1 270 ((s.1 196 103) - 1).toNatClampNeg) = p0 → Q false s) ∧ ((s.1 270 ((s.1 196 103) - 1).toNatClampNeg) = p0 → Q true s))))
set_option maxRecDepth 100000 in
set_option maxHeartbeats 4000000 in
theorem V_X12_qIsOn {g : fz_G} {l : Launch} {d : Nat} (hD : 0 ≤ d) {p0 : Int32}  {s : fz_s} {Q : Bool → fz_s → Prop} (H : wp_X12_qIsOn p0 s Q) : fs_V g l m_X12_qIsOn d false 0 (fz_en [.ref 196, .int p0] 2) [] s (rZ Q) := by
  unfold wp_X12_qIsOn at H
  refine fs_aload_n (k0 := 0) (i := 0) dd_X12_qIsOn_0 rfl rfl ?_
  refine fs_geti (ci := 12) (j := 103) dd_X12_qIsOn_1 fl_X12_341 ca_196 rfl (Or.inl rfl) ?_
  refine fs_if_le (tgt := 26) dd_X12_qIsOn_4 (by decide) (fun hc => ?_) (fun hc => ?_)
  · replace H := H.1 hc
    refine fs_iconst (n := 0) (v := 0) dd_X12_qIsOn_26 (by decide) ?_
    exact fs_zret false dd_X12_qIsOn_27 rfl rfl H
  · replace H := H.2 hc
    refine fs_aload_n (k0 := 0) (i := 0) dd_X12_qIsOn_7 rfl rfl ?_
    refine fs_getr (ci := 12) (j := 102) (q := 270) dd_X12_qIsOn_8 fl_X12_240 ca_196 rfl (Or.inr ⟨_, rfl⟩) rfl (by decide) ?_
    refine fs_aload_n (k0 := 0) (i := 0) dd_X12_qIsOn_11 rfl rfl ?_
    refine fs_geti (ci := 12) (j := 103) dd_X12_qIsOn_12 fl_X12_341 ca_196 rfl (Or.inl rfl) ?_
    refine fs_iconst (n := 1) (v := 1) dd_X12_qIsOn_15 (by decide) ?_
    refine fs_isub dd_X12_qIsOn_16 ?_
    have hb := H.1
    replace H := H.2
    refine fs_iald dd_X12_qIsOn_17 ca_270 hb ?_
    refine fs_iload_n (k0 := 1) (i := 1) dd_X12_qIsOn_18 rfl rfl ?_
    refine fs_icmp_ne (tgt := 26) dd_X12_qIsOn_19 (by decide) (fun hc => ?_) (fun hc => ?_)
    · replace H := H.1 hc
      refine fs_iconst (n := 0) (v := 0) dd_X12_qIsOn_26 (by decide) ?_
      exact fs_zret false dd_X12_qIsOn_27 rfl rfl H
    · replace H := H.2 hc
      refine fs_iconst (n := 1) (v := 1) dd_X12_qIsOn_22 (by decide) ?_
      refine fs_goto (tgt := 27) dd_X12_qIsOn_23 (by decide) ?_
      exact fs_zret true dd_X12_qIsOn_27 rfl rfl H

theorem dd_X12_goesAway_0 : decode m_X12_goesAway.2.1 0 = .ok (.aload_n 0, 1) := by decide +kernel
theorem dd_X12_goesAway_1 : decode m_X12_goesAway.2.1 1 = .ok (.getfield 121, 3) := by decide +kernel
theorem dd_X12_goesAway_4 : decode m_X12_goesAway.2.1 4 = .ok (.bipush 6, 2) := by decide +kernel
theorem dd_X12_goesAway_6 : decode m_X12_goesAway.2.1 6 = .ok (.iconst 3, 1) := by decide +kernel
theorem dd_X12_goesAway_7 : decode m_X12_goesAway.2.1 7 = .ok (.iload_n 1, 1) := by decide +kernel
theorem dd_X12_goesAway_8 : decode m_X12_goesAway.2.1 8 = .ok (.imul, 1) := by decide +kernel
theorem dd_X12_goesAway_9 : decode m_X12_goesAway.2.1 9 = .ok (.iadd, 1) := by decide +kernel
theorem dd_X12_goesAway_10 : decode m_X12_goesAway.2.1 10 = .ok (.iconst 1, 1) := by decide +kernel
theorem dd_X12_goesAway_11 : decode m_X12_goesAway.2.1 11 = .ok (.iastore, 1) := by decide +kernel
theorem dd_X12_goesAway_12 : decode m_X12_goesAway.2.1 12 = .ok (.aload_n 0, 1) := by decide +kernel
theorem dd_X12_goesAway_13 : decode m_X12_goesAway.2.1 13 = .ok (.getfield 121, 3) := by decide +kernel
theorem dd_X12_goesAway_16 : decode m_X12_goesAway.2.1 16 = .ok (.bipush 7, 2) := by decide +kernel
theorem dd_X12_goesAway_18 : decode m_X12_goesAway.2.1 18 = .ok (.iconst 3, 1) := by decide +kernel
theorem dd_X12_goesAway_19 : decode m_X12_goesAway.2.1 19 = .ok (.iload_n 1, 1) := by decide +kernel
theorem dd_X12_goesAway_20 : decode m_X12_goesAway.2.1 20 = .ok (.imul, 1) := by decide +kernel
theorem dd_X12_goesAway_21 : decode m_X12_goesAway.2.1 21 = .ok (.iadd, 1) := by decide +kernel
theorem dd_X12_goesAway_22 : decode m_X12_goesAway.2.1 22 = .ok (.iconst 0, 1) := by decide +kernel
theorem dd_X12_goesAway_23 : decode m_X12_goesAway.2.1 23 = .ok (.iastore, 1) := by decide +kernel
theorem dd_X12_goesAway_24 : decode m_X12_goesAway.2.1 24 = .ok (.return_, 1) := by decide +kernel
def wp_X12_goesAway (p0 : Int32) (s : fz_s) (Q : fz_s → Prop) : Prop :=
  vp_in (6 + (3 * p0)) 150 ∧ ∀ s1 : fz_s, s1 = si s 232 (6 + (3 * p0)).toNatClampNeg 1 → vp_in (7 + (3 * p0)) 150 ∧ ∀ s2 : fz_s, s2 = si s1 232 (7 + (3 * p0)).toNatClampNeg 0 → Q s2
set_option maxRecDepth 100000 in
set_option maxHeartbeats 4000000 in
theorem V_X12_goesAway {g : fz_G} {l : Launch} {d : Nat} (hD : 0 ≤ d) {p0 : Int32}  {s : fz_s} {Q : fz_s → Prop} (H : wp_X12_goesAway p0 s Q) : fs_V g l m_X12_goesAway d false 0 (fz_en [.ref 196, .int p0] 2) [] s (rV Q) := by
  unfold wp_X12_goesAway at H
  refine fs_aload_n (k0 := 0) (i := 0) dd_X12_goesAway_0 rfl rfl ?_
  refine fs_getr (ci := 12) (j := 54) (q := 232) dd_X12_goesAway_1 fl_X12_121 ca_196 rfl (Or.inr ⟨_, rfl⟩) rfl (by decide) ?_
  refine fs_bipush (n := 6) (v := 6) dd_X12_goesAway_4 (by decide) ?_
  refine fs_iconst (n := 3) (v := 3) dd_X12_goesAway_6 (by decide) ?_
  refine fs_iload_n (k0 := 1) (i := 1) dd_X12_goesAway_7 rfl rfl ?_
  refine fs_imul dd_X12_goesAway_8 ?_
  refine fs_iadd dd_X12_goesAway_9 ?_
  refine fs_iconst (n := 1) (v := 1) dd_X12_goesAway_10 (by decide) ?_
  have hb := H.1
  replace H := H.2
  refine fs_iast dd_X12_goesAway_11 ca_232 hb ?_
  refine fs_tops (fun s1 hs1 => ?_)
  replace H := H s1 hs1
  refine fs_aload_n (k0 := 0) (i := 0) dd_X12_goesAway_12 rfl rfl ?_
  refine fs_getr (ci := 12) (j := 54) (q := 232) dd_X12_goesAway_13 fl_X12_121 ca_196 rfl (Or.inr ⟨_, rfl⟩) rfl (by decide) ?_
  refine fs_bipush (n := 7) (v := 7) dd_X12_goesAway_16 (by decide) ?_
  refine fs_iconst (n := 3) (v := 3) dd_X12_goesAway_18 (by decide) ?_
  refine fs_iload_n (k0 := 1) (i := 1) dd_X12_goesAway_19 rfl rfl ?_
  refine fs_imul dd_X12_goesAway_20 ?_
  refine fs_iadd dd_X12_goesAway_21 ?_
  refine fs_iconst (n := 0) (v := 0) dd_X12_goesAway_22 (by decide) ?_
  have hb := H.1
  replace H := H.2
  refine fs_iast dd_X12_goesAway_23 ca_232 hb ?_
  refine fs_tops (fun s2 hs2 => ?_)
  replace H := H s2 hs2
  exact fs_vret dd_X12_goesAway_24 rfl H
theorem dd_X12_comesHome_0 : decode m_X12_comesHome.2.1 0 = .ok (.aload_n 0, 1) := by decide +kernel
theorem dd_X12_comesHome_1 : decode m_X12_comesHome.2.1 1 = .ok (.getfield 121, 3) := by decide +kernel
theorem dd_X12_comesHome_4 : decode m_X12_comesHome.2.1 4 = .ok (.bipush 6, 2) := by decide +kernel
theorem dd_X12_comesHome_6 : decode m_X12_comesHome.2.1 6 = .ok (.iconst 3, 1) := by decide +kernel
theorem dd_X12_comesHome_7 : decode m_X12_comesHome.2.1 7 = .ok (.iload_n 1, 1) := by decide +kernel
theorem dd_X12_comesHome_8 : decode m_X12_comesHome.2.1 8 = .ok (.imul, 1) := by decide +kernel
theorem dd_X12_comesHome_9 : decode m_X12_comesHome.2.1 9 = .ok (.iadd, 1) := by decide +kernel
theorem dd_X12_comesHome_10 : decode m_X12_comesHome.2.1 10 = .ok (.iconst 0, 1) := by decide +kernel
theorem dd_X12_comesHome_11 : decode m_X12_comesHome.2.1 11 = .ok (.iastore, 1) := by decide +kernel
theorem dd_X12_comesHome_12 : decode m_X12_comesHome.2.1 12 = .ok (.aload_n 0, 1) := by decide +kernel
theorem dd_X12_comesHome_13 : decode m_X12_comesHome.2.1 13 = .ok (.getfield 121, 3) := by decide +kernel
theorem dd_X12_comesHome_16 : decode m_X12_comesHome.2.1 16 = .ok (.bipush 7, 2) := by decide +kernel
theorem dd_X12_comesHome_18 : decode m_X12_comesHome.2.1 18 = .ok (.iconst 3, 1) := by decide +kernel
theorem dd_X12_comesHome_19 : decode m_X12_comesHome.2.1 19 = .ok (.iload_n 1, 1) := by decide +kernel
theorem dd_X12_comesHome_20 : decode m_X12_comesHome.2.1 20 = .ok (.imul, 1) := by decide +kernel
theorem dd_X12_comesHome_21 : decode m_X12_comesHome.2.1 21 = .ok (.iadd, 1) := by decide +kernel
theorem dd_X12_comesHome_22 : decode m_X12_comesHome.2.1 22 = .ok (.iconst 0, 1) := by decide +kernel
theorem dd_X12_comesHome_23 : decode m_X12_comesHome.2.1 23 = .ok (.iastore, 1) := by decide +kernel
theorem dd_X12_comesHome_24 : decode m_X12_comesHome.2.1 24 = .ok (.return_, 1) := by decide +kernel
def wp_X12_comesHome (p0 : Int32) (s : fz_s) (Q : fz_s → Prop) : Prop :=
  vp_in (6 + (3 * p0)) 150 ∧ ∀ s1 : fz_s, s1 = si s 232 (6 + (3 * p0)).toNatClampNeg 0 → vp_in (7 + (3 * p0)) 150 ∧ ∀ s2 : fz_s, s2 = si s1 232 (7 + (3 * p0)).toNatClampNeg 0 → Q s2
set_option maxRecDepth 100000 in
set_option maxHeartbeats 4000000 in
theorem V_X12_comesHome {g : fz_G} {l : Launch} {d : Nat} (hD : 0 ≤ d) {p0 : Int32}  {s : fz_s} {Q : fz_s → Prop} (H : wp_X12_comesHome p0 s Q) : fs_V g l m_X12_comesHome d false 0 (fz_en [.ref 196, .int p0] 2) [] s (rV Q) := by
  unfold wp_X12_comesHome at H
  refine fs_aload_n (k0 := 0) (i := 0) dd_X12_comesHome_0 rfl rfl ?_
  refine fs_getr (ci := 12) (j := 54) (q := 232) dd_X12_comesHome_1 fl_X12_121 ca_196 rfl (Or.inr ⟨_, rfl⟩) rfl (by decide) ?_
  refine fs_bipush (n := 6) (v := 6) dd_X12_comesHome_4 (by decide) ?_
  refine fs_iconst (n := 3) (v := 3) dd_X12_comesHome_6 (by decide) ?_
  refine fs_iload_n (k0 := 1) (i := 1) dd_X12_comesHome_7 rfl rfl ?_
  refine fs_imul dd_X12_comesHome_8 ?_
  refine fs_iadd dd_X12_comesHome_9 ?_
  refine fs_iconst (n := 0) (v := 0) dd_X12_comesHome_10 (by decide) ?_
  have hb := H.1
  replace H := H.2
  refine fs_iast dd_X12_comesHome_11 ca_232 hb ?_
  refine fs_tops (fun s1 hs1 => ?_)
  replace H := H s1 hs1
  refine fs_aload_n (k0 := 0) (i := 0) dd_X12_comesHome_12 rfl rfl ?_
  refine fs_getr (ci := 12) (j := 54) (q := 232) dd_X12_comesHome_13 fl_X12_121 ca_196 rfl (Or.inr ⟨_, rfl⟩) rfl (by decide) ?_
  refine fs_bipush (n := 7) (v := 7) dd_X12_comesHome_16 (by decide) ?_
  refine fs_iconst (n := 3) (v := 3) dd_X12_comesHome_18 (by decide) ?_
  refine fs_iload_n (k0 := 1) (i := 1) dd_X12_comesHome_19 rfl rfl ?_
  refine fs_imul dd_X12_comesHome_20 ?_
  refine fs_iadd dd_X12_comesHome_21 ?_
  refine fs_iconst (n := 0) (v := 0) dd_X12_comesHome_22 (by decide) ?_
  have hb := H.1
  replace H := H.2
  refine fs_iast dd_X12_comesHome_23 ca_232 hb ?_
  refine fs_tops (fun s2 hs2 => ?_)
  replace H := H s2 hs2
  exact fs_vret dd_X12_comesHome_24 rfl H
theorem dd_X12_summer_0 : decode m_X12_summer.2.1 0 = .ok (.iconst 0, 1) := by decide +kernel
theorem dd_X12_summer_1 : decode m_X12_summer.2.1 1 = .ok (.istore_n 1, 1) := by decide +kernel
theorem dd_X12_summer_2 : decode m_X12_summer.2.1 2 = .ok (.iload_n 1, 1) := by decide +kernel
theorem dd_X12_summer_3 : decode m_X12_summer.2.1 3 = .ok (.iconst 2, 1) := by decide +kernel
theorem dd_X12_summer_4 : decode m_X12_summer.2.1 4 = .ok (.if_icmp .ge 74, 3) := by decide +kernel
theorem dd_X12_summer_7 : decode m_X12_summer.2.1 7 = .ok (.lconst 0, 1) := by decide +kernel
theorem dd_X12_summer_8 : decode m_X12_summer.2.1 8 = .ok (.lstore_n 2, 1) := by decide +kernel
theorem dd_X12_summer_9 : decode m_X12_summer.2.1 9 = .ok (.iconst 0, 1) := by decide +kernel
theorem dd_X12_summer_10 : decode m_X12_summer.2.1 10 = .ok (.istore 4, 2) := by decide +kernel
theorem dd_X12_summer_12 : decode m_X12_summer.2.1 12 = .ok (.iload 4, 2) := by decide +kernel
theorem dd_X12_summer_14 : decode m_X12_summer.2.1 14 = .ok (.aload_n 0, 1) := by decide +kernel
theorem dd_X12_summer_15 : decode m_X12_summer.2.1 15 = .ok (.invokevirtual 402, 3) := by decide +kernel
theorem dd_X12_summer_18 : decode m_X12_summer.2.1 18 = .ok (.if_icmp .ge 29, 3) := by decide +kernel
theorem dd_X12_summer_21 : decode m_X12_summer.2.1 21 = .ok (.aload_n 0, 1) := by decide +kernel
theorem dd_X12_summer_22 : decode m_X12_summer.2.1 22 = .ok (.iload 4, 2) := by decide +kernel
theorem dd_X12_summer_24 : decode m_X12_summer.2.1 24 = .ok (.invokevirtual 412, 3) := by decide +kernel
theorem dd_X12_summer_27 : decode m_X12_summer.2.1 27 = .ok (.iload_n 1, 1) := by decide +kernel
theorem dd_X12_summer_28 : decode m_X12_summer.2.1 28 = .ok (.if_icmp .ne 13, 3) := by decide +kernel
theorem dd_X12_summer_31 : decode m_X12_summer.2.1 31 = .ok (.lload_n 2, 1) := by decide +kernel
theorem dd_X12_summer_32 : decode m_X12_summer.2.1 32 = .ok (.aload_n 0, 1) := by decide +kernel
theorem dd_X12_summer_33 : decode m_X12_summer.2.1 33 = .ok (.iload 4, 2) := by decide +kernel
theorem dd_X12_summer_35 : decode m_X12_summer.2.1 35 = .ok (.iload_n 1, 1) := by decide +kernel
theorem dd_X12_summer_36 : decode m_X12_summer.2.1 36 = .ok (.invokevirtual 456, 3) := by decide +kernel
theorem dd_X12_summer_39 : decode m_X12_summer.2.1 39 = .ok (.ladd, 1) := by decide +kernel
theorem dd_X12_summer_40 : decode m_X12_summer.2.1 40 = .ok (.lstore_n 2, 1) := by decide +kernel
theorem dd_X12_summer_41 : decode m_X12_summer.2.1 41 = .ok (.iinc 4 1, 3) := by decide +kernel
theorem dd_X12_summer_44 : decode m_X12_summer.2.1 44 = .ok (.goto (-32), 3) := by decide +kernel
theorem dd_X12_summer_47 : decode m_X12_summer.2.1 47 = .ok (.aload_n 0, 1) := by decide +kernel
theorem dd_X12_summer_48 : decode m_X12_summer.2.1 48 = .ok (.getfield 130, 3) := by decide +kernel
theorem dd_X12_summer_51 : decode m_X12_summer.2.1 51 = .ok (.iload_n 1, 1) := by decide +kernel
theorem dd_X12_summer_52 : decode m_X12_summer.2.1 52 = .ok (.aload_n 0, 1) := by decide +kernel
theorem dd_X12_summer_53 : decode m_X12_summer.2.1 53 = .ok (.getfield 121, 3) := by decide +kernel
theorem dd_X12_summer_56 : decode m_X12_summer.2.1 56 = .ok (.iconst 1, 1) := by decide +kernel
theorem dd_X12_summer_57 : decode m_X12_summer.2.1 57 = .ok (.iconst 2, 1) := by decide +kernel
theorem dd_X12_summer_58 : decode m_X12_summer.2.1 58 = .ok (.iload_n 1, 1) := by decide +kernel
theorem dd_X12_summer_59 : decode m_X12_summer.2.1 59 = .ok (.imul, 1) := by decide +kernel
theorem dd_X12_summer_60 : decode m_X12_summer.2.1 60 = .ok (.iadd, 1) := by decide +kernel
theorem dd_X12_summer_61 : decode m_X12_summer.2.1 61 = .ok (.iaload, 1) := by decide +kernel
theorem dd_X12_summer_62 : decode m_X12_summer.2.1 62 = .ok (.i2l, 1) := by decide +kernel
theorem dd_X12_summer_63 : decode m_X12_summer.2.1 63 = .ok (.lload_n 2, 1) := by decide +kernel
theorem dd_X12_summer_64 : decode m_X12_summer.2.1 64 = .ok (.ladd, 1) := by decide +kernel
theorem dd_X12_summer_65 : decode m_X12_summer.2.1 65 = .ok (.sipush 999, 3) := by decide +kernel
theorem dd_X12_summer_68 : decode m_X12_summer.2.1 68 = .ok (.invokestatic 459, 3) := by decide +kernel
theorem dd_X12_summer_71 : decode m_X12_summer.2.1 71 = .ok (.iastore, 1) := by decide +kernel
theorem dd_X12_summer_72 : decode m_X12_summer.2.1 72 = .ok (.iinc 1 1, 3) := by decide +kernel
theorem dd_X12_summer_75 : decode m_X12_summer.2.1 75 = .ok (.goto (-73), 3) := by decide +kernel
theorem dd_X12_summer_78 : decode m_X12_summer.2.1 78 = .ok (.iconst 0, 1) := by decide +kernel
theorem dd_X12_summer_79 : decode m_X12_summer.2.1 79 = .ok (.istore_n 1, 1) := by decide +kernel
theorem dd_X12_summer_80 : decode m_X12_summer.2.1 80 = .ok (.iload_n 1, 1) := by decide +kernel
theorem dd_X12_summer_81 : decode m_X12_summer.2.1 81 = .ok (.iconst 2, 1) := by decide +kernel
theorem dd_X12_summer_82 : decode m_X12_summer.2.1 82 = .ok (.if_icmp .ge 55, 3) := by decide +kernel
theorem dd_X12_summer_85 : decode m_X12_summer.2.1 85 = .ok (.aload_n 0, 1) := by decide +kernel
theorem dd_X12_summer_86 : decode m_X12_summer.2.1 86 = .ok (.getfield 121, 3) := by decide +kernel
theorem dd_X12_summer_89 : decode m_X12_summer.2.1 89 = .ok (.iconst 1, 1) := by decide +kernel
theorem dd_X12_summer_90 : decode m_X12_summer.2.1 90 = .ok (.iconst 2, 1) := by decide +kernel
theorem dd_X12_summer_91 : decode m_X12_summer.2.1 91 = .ok (.iload_n 1, 1) := by decide +kernel
theorem dd_X12_summer_92 : decode m_X12_summer.2.1 92 = .ok (.imul, 1) := by decide +kernel
theorem dd_X12_summer_93 : decode m_X12_summer.2.1 93 = .ok (.iadd, 1) := by decide +kernel
theorem dd_X12_summer_94 : decode m_X12_summer.2.1 94 = .ok (.aload_n 0, 1) := by decide +kernel
theorem dd_X12_summer_95 : decode m_X12_summer.2.1 95 = .ok (.getfield 130, 3) := by decide +kernel
theorem dd_X12_summer_98 : decode m_X12_summer.2.1 98 = .ok (.iload_n 1, 1) := by decide +kernel
theorem dd_X12_summer_99 : decode m_X12_summer.2.1 99 = .ok (.iaload, 1) := by decide +kernel
theorem dd_X12_summer_100 : decode m_X12_summer.2.1 100 = .ok (.iastore, 1) := by decide +kernel
theorem dd_X12_summer_101 : decode m_X12_summer.2.1 101 = .ok (.aload_n 0, 1) := by decide +kernel
theorem dd_X12_summer_102 : decode m_X12_summer.2.1 102 = .ok (.iconst 3, 1) := by decide +kernel
theorem dd_X12_summer_103 : decode m_X12_summer.2.1 103 = .ok (.invokevirtual 435, 3) := by decide +kernel
theorem dd_X12_summer_106 : decode m_X12_summer.2.1 106 = .ok (.ifCond .eq 25, 3) := by decide +kernel
theorem dd_X12_summer_109 : decode m_X12_summer.2.1 109 = .ok (.aload_n 0, 1) := by decide +kernel
theorem dd_X12_summer_110 : decode m_X12_summer.2.1 110 = .ok (.getfield 121, 3) := by decide +kernel
theorem dd_X12_summer_113 : decode m_X12_summer.2.1 113 = .ok (.iconst 2, 1) := by decide +kernel
theorem dd_X12_summer_114 : decode m_X12_summer.2.1 114 = .ok (.iconst 2, 1) := by decide +kernel
theorem dd_X12_summer_115 : decode m_X12_summer.2.1 115 = .ok (.iload_n 1, 1) := by decide +kernel
theorem dd_X12_summer_116 : decode m_X12_summer.2.1 116 = .ok (.imul, 1) := by decide +kernel
theorem dd_X12_summer_117 : decode m_X12_summer.2.1 117 = .ok (.iadd, 1) := by decide +kernel
theorem dd_X12_summer_118 : decode m_X12_summer.2.1 118 = .ok (.aload_n 0, 1) := by decide +kernel
theorem dd_X12_summer_119 : decode m_X12_summer.2.1 119 = .ok (.iconst 3, 1) := by decide +kernel
theorem dd_X12_summer_120 : decode m_X12_summer.2.1 120 = .ok (.iconst 0, 1) := by decide +kernel
theorem dd_X12_summer_121 : decode m_X12_summer.2.1 121 = .ok (.iload_n 1, 1) := by decide +kernel
theorem dd_X12_summer_122 : decode m_X12_summer.2.1 122 = .ok (.invokevirtual 438, 3) := by decide +kernel
theorem dd_X12_summer_125 : decode m_X12_summer.2.1 125 = .ok (.bipush 99, 2) := by decide +kernel
theorem dd_X12_summer_127 : decode m_X12_summer.2.1 127 = .ok (.invokestatic 459, 3) := by decide +kernel
theorem dd_X12_summer_130 : decode m_X12_summer.2.1 130 = .ok (.iastore, 1) := by decide +kernel
theorem dd_X12_summer_131 : decode m_X12_summer.2.1 131 = .ok (.iinc 1 1, 3) := by decide +kernel
theorem dd_X12_summer_134 : decode m_X12_summer.2.1 134 = .ok (.goto (-54), 3) := by decide +kernel
theorem dd_X12_summer_137 : decode m_X12_summer.2.1 137 = .ok (.return_, 1) := by decide +kernel
def nd_X12_summer_80  (K80 : Int32 → fz_s → Prop) (Q : fz_s → Prop) (v1 : Int32) (s : fz_s) : Prop :=
  ((2 ≤ v1 → Q s) ∧ (¬ 2 ≤ v1 → vp_in v1 2 ∧ vp_in (1 + (2 * v1)) 150 ∧ ∀ s1 : fz_s, s1 = si s 232 (1 + (2 * v1)).toNatClampNeg (s.1 235 v1.toNatClampNeg) → wp_X12_isTold 3 s1 (fun r2 s3 => ((r2 = false → ∀ x4 : Int32, x4 = v1 + 1 → K80 x4 s3) ∧ (r2 = true → wp_X12_codesTell 3 0 v1 s3 (fun r5 s6 => wp_X12_cut r5 99 s6 (fun r7 s8 => vp_in (2 + (2 * v1)) 150 ∧ ∀ s9 : fz_s, s9 = si s8 232 (2 + (2 * v1)).toNatClampNeg r7 → ∀ x10 : Int32, x10 = v1 + 1 → K80 x10 s9)))))))
def lp_X12_summer_80   (Q : fz_s → Prop) : Nat → Int32 → fz_s → Prop
  | 0 => fun _ _ => False
  | n + 1 => nd_X12_summer_80  (lp_X12_summer_80   Q n) Q
def nd_X12_summer_12  (K2 : Int32 → fz_s → Prop) (K12 : Int32 → Int64 → Int32 → fz_s → Prop) (Q : fz_s → Prop) (v1 : Int32) (v2 : Int64) (v4 : Int32) (s : fz_s) : Prop :=
  wp_X12_personMany  s (fun r1 s2 => ((r1 ≤ v4 → vp_in (1 + (2 * v1)) 150 ∧ wp_X12_cut (((s2.1 232 (1 + (2 * v1)).toNatClampNeg).toInt64) + v2) 999 s2 (fun r3 s4 => vp_in v1 2 ∧ ∀ s5 : fz_s, s5 = si s4 235 v1.toNatClampNeg r3 → ∀ x6 : Int32, x6 = v1 + 1 → K2 x6 s5)) ∧ (¬ r1 ≤ v4 → wp_X12_livesIn v4 s2 (fun r7 s8 => ((¬ r7 = v1 → ∀ x9 : Int32, x9 = v4 + 1 → K12 v1 v2 x9 s8) ∧ (r7 = v1 → wp_X12_doesIn v4 v1 s8 (fun r10 s11 => ∀ x12 : Int64, x12 = (v2 + r10) → ∀ x13 : Int32, x13 = v4 + 1 → K12 v1 x12 x13 s11)))))))
def lp_X12_summer_12  (K2 : Int32 → fz_s → Prop) (Q : fz_s → Prop) : Nat → Int32 → Int64 → Int32 → fz_s → Prop
  | 0 => fun _ _ _ _ => False
  | n + 1 => nd_X12_summer_12  K2 (lp_X12_summer_12  K2 Q n) Q
def nd_X12_summer_2  (K2 : Int32 → fz_s → Prop) (Q : fz_s → Prop) (v1 : Int32) (s : fz_s) : Prop :=
  ((2 ≤ v1 → lp_X12_summer_80   Q 2048 0 s) ∧ (¬ 2 ≤ v1 → lp_X12_summer_12  K2 Q 2048 v1 0 0 s))
def lp_X12_summer_2   (Q : fz_s → Prop) : Nat → Int32 → fz_s → Prop
  | 0 => fun _ _ => False
  | n + 1 => nd_X12_summer_2  (lp_X12_summer_2   Q n) Q
def wp_X12_summer  (s : fz_s) (Q : fz_s → Prop) : Prop :=
  lp_X12_summer_2   Q 2048 0 s
set_option maxRecDepth 100000 in
set_option maxHeartbeats 4000000 in
theorem V_nd_X12_summer_80 {g : fz_G} {l : Launch} {d : Nat} (hD : 6 ≤ d)   {K80 : Int32 → fz_s → Prop} {Q : fz_s → Prop} {v1 : Int32} {s : fz_s} (hK80 : ∀ {v1 : Int32} {s : fz_s}, K80 v1 s → fs_V g l m_X12_summer d false 80 [.ref 196, .int v1, fz_J, fz_J, fz_J] [] s (rV Q)) (H : nd_X12_summer_80  K80 Q v1 s) : fs_V g l m_X12_summer d false 80 [.ref 196, .int v1, fz_J, fz_J, fz_J] [] s (rV Q) := by
  obtain ⟨d, rfl⟩ : ∃ e, d = e + 1 := ⟨d - 1, by omega⟩
  unfold nd_X12_summer_80 at H
  refine fs_iload_n (k0 := 1) (i := 1) dd_X12_summer_80 rfl rfl ?_
  refine fs_iconst (n := 2) (v := 2) dd_X12_summer_81 (by decide) ?_
  refine fs_icmp_ge (tgt := 137) dd_X12_summer_82 (by decide) (fun hc => ?_) (fun hc => ?_)
  · replace H := H.1 hc
    exact fs_vret dd_X12_summer_137 rfl H
  · replace H := H.2 hc
    refine fs_aload_n (k0 := 0) (i := 0) dd_X12_summer_85 rfl rfl ?_
    refine fs_getr (ci := 12) (j := 54) (q := 232) dd_X12_summer_86 fl_X12_121 ca_196 rfl (Or.inr ⟨_, rfl⟩) rfl (by decide) ?_
    refine fs_iconst (n := 1) (v := 1) dd_X12_summer_89 (by decide) ?_
    refine fs_iconst (n := 2) (v := 2) dd_X12_summer_90 (by decide) ?_
    refine fs_iload_n (k0 := 1) (i := 1) dd_X12_summer_91 rfl rfl ?_
    refine fs_imul dd_X12_summer_92 ?_
    refine fs_iadd dd_X12_summer_93 ?_
    refine fs_aload_n (k0 := 0) (i := 0) dd_X12_summer_94 rfl rfl ?_
    refine fs_getr (ci := 12) (j := 60) (q := 235) dd_X12_summer_95 fl_X12_130 ca_196 rfl (Or.inr ⟨_, rfl⟩) rfl (by decide) ?_
    refine fs_iload_n (k0 := 1) (i := 1) dd_X12_summer_98 rfl rfl ?_
    have hb := H.1
    replace H := H.2
    refine fs_iald dd_X12_summer_99 ca_235 hb ?_
    have hb := H.1
    replace H := H.2
    refine fs_iast dd_X12_summer_100 ca_232 hb ?_
    refine fs_tops (fun s1 hs1 => ?_)
    replace H := H s1 hs1
    refine fs_aload_n (k0 := 0) (i := 0) dd_X12_summer_101 rfl rfl ?_
    refine fs_iconst (n := 3) (v := 3) dd_X12_summer_102 (by decide) ?_
    refine fs_callV (y := m_X12_isTold) (as := [.int 3]) dd_X12_summer_103 me_X12_isTold lk_X12_435 in_X12_isTold se_X12_isTold ca_196 rfl rfl rfl (Nat.le_of_ble_eq_true rfl) (Nat.le_of_ble_eq_true rfl) rfl (V_X12_isTold (by omega)  H) (k2_Z fun r2 s3 H => ?_)
    refine fs_if_eq (tgt := 131) dd_X12_summer_106 (by decide) (fun hc => ?_) (fun hc => ?_)
    · replace H := H.1 (bi_0 hc)
      refine fs_iincN (i := 1) (m := 1) (c := 1) dd_X12_summer_131 rfl (by decide) (by decide) (fun x4 hx4 => ?_)
      replace H := H x4 hx4
      refine fs_goto (tgt := 80) dd_X12_summer_134 (by decide) ?_
      refine fs_weak (ls2 := [.ref 196, .int x4, fz_J, fz_J, fz_J]) (fz_le_e (fz_le_e (fz_le_j (fz_le_j (fz_le_j fz_le_n))))) ?_
      exact hK80 H
    · replace H := H.2 (bi_1 hc)
      refine fs_aload_n (k0 := 0) (i := 0) dd_X12_summer_109 rfl rfl ?_
      refine fs_getr (ci := 12) (j := 54) (q := 232) dd_X12_summer_110 fl_X12_121 ca_196 rfl (Or.inr ⟨_, rfl⟩) rfl (by decide) ?_
      refine fs_iconst (n := 2) (v := 2) dd_X12_summer_113 (by decide) ?_
      refine fs_iconst (n := 2) (v := 2) dd_X12_summer_114 (by decide) ?_
      refine fs_iload_n (k0 := 1) (i := 1) dd_X12_summer_115 rfl rfl ?_
      refine fs_imul dd_X12_summer_116 ?_
      refine fs_iadd dd_X12_summer_117 ?_
      refine fs_aload_n (k0 := 0) (i := 0) dd_X12_summer_118 rfl rfl ?_
      refine fs_iconst (n := 3) (v := 3) dd_X12_summer_119 (by decide) ?_
      refine fs_iconst (n := 0) (v := 0) dd_X12_summer_120 (by decide) ?_
      refine fs_iload_n (k0 := 1) (i := 1) dd_X12_summer_121 rfl rfl ?_
      refine fs_callV (y := m_X12_codesTell) (as := [.int 3, .int 0, .int v1]) dd_X12_summer_122 me_X12_codesTell lk_X12_438 in_X12_codesTell se_X12_codesTell ca_196 rfl rfl rfl (Nat.le_of_ble_eq_true rfl) (Nat.le_of_ble_eq_true rfl) rfl (V_X12_codesTell (by omega)  H) (k2_L fun r5 s6 H => ?_)
      refine fs_bipush (n := 99) (v := 99) dd_X12_summer_125 (by decide) ?_
      refine fs_callS (y := m_X12_cut) (as := [.long r5, .int 99]) dd_X12_summer_127 me_X12_cut (Or.inl lk_X12_459) st_X12_cut rfl (Nat.le_of_ble_eq_true rfl) (Nat.le_of_ble_eq_true rfl) rfl (V_X12_cut (by omega)  H) (k2_I fun r7 s8 H => ?_)
      have hb := H.1
      replace H := H.2
      refine fs_iast dd_X12_summer_130 ca_232 hb ?_
      refine fs_tops (fun s9 hs9 => ?_)
      replace H := H s9 hs9
      refine fs_iincN (i := 1) (m := 1) (c := 1) dd_X12_summer_131 rfl (by decide) (by decide) (fun x10 hx10 => ?_)
      replace H := H x10 hx10
      refine fs_goto (tgt := 80) dd_X12_summer_134 (by decide) ?_
      refine fs_weak (ls2 := [.ref 196, .int x10, fz_J, fz_J, fz_J]) (fz_le_e (fz_le_e (fz_le_j (fz_le_j (fz_le_j fz_le_n))))) ?_
      exact hK80 H
set_option maxRecDepth 100000 in
set_option maxHeartbeats 4000000 in
theorem V_lp_X12_summer_80 {g : fz_G} {l : Launch} {d : Nat} (hD : 6 ≤ d)    {Q : fz_s → Prop}  (n : Nat) : ∀ {v1 : Int32} {s : fz_s}, lp_X12_summer_80   Q n v1 s → fs_V g l m_X12_summer d false 80 [.ref 196, .int v1, fz_J, fz_J, fz_J] [] s (rV Q) := by
  induction n with
  | zero => intro v1 s H; exact H.elim
  | succ n ih => intro v1 s H; exact V_nd_X12_summer_80 hD  (fun H => ih H) H
set_option maxRecDepth 100000 in
set_option maxHeartbeats 4000000 in
theorem V_nd_X12_summer_12 {g : fz_G} {l : Launch} {d : Nat} (hD : 6 ≤ d)   {K2 : Int32 → fz_s → Prop} {K12 : Int32 → Int64 → Int32 → fz_s → Prop} {Q : fz_s → Prop} {v1 : Int32} {v2 : Int64} {v4 : Int32} {s : fz_s} (hK2 : ∀ {v1 : Int32} {s : fz_s}, K2 v1 s → fs_V g l m_X12_summer d false 2 [.ref 196, .int v1, fz_J, fz_J, fz_J] [] s (rV Q)) (hK12 : ∀ {v1 : Int32} {v2 : Int64} {v4 : Int32} {s : fz_s}, K12 v1 v2 v4 s → fs_V g l m_X12_summer d false 12 [.ref 196, .int v1, .long v2, fz_J, .int v4] [] s (rV Q)) (H : nd_X12_summer_12  K2 K12 Q v1 v2 v4 s) : fs_V g l m_X12_summer d false 12 [.ref 196, .int v1, .long v2, fz_J, .int v4] [] s (rV Q) := by
  obtain ⟨d, rfl⟩ : ∃ e, d = e + 1 := ⟨d - 1, by omega⟩
  unfold nd_X12_summer_12 at H
  refine fs_iload (i := 4) dd_X12_summer_12 rfl ?_
  refine fs_aload_n (k0 := 0) (i := 0) dd_X12_summer_14 rfl rfl ?_
  refine fs_callV (y := m_X12_personMany) (as := []) dd_X12_summer_15 me_X12_personMany lk_X12_402 in_X12_personMany se_X12_personMany ca_196 rfl rfl rfl (Nat.le_of_ble_eq_true rfl) (Nat.le_of_ble_eq_true rfl) rfl (V_X12_personMany (by omega)  H) (k2_I fun r1 s2 H => ?_)
  refine fs_icmp_ge (tgt := 47) dd_X12_summer_18 (by decide) (fun hc => ?_) (fun hc => ?_)
  · replace H := H.1 hc
    refine fs_aload_n (k0 := 0) (i := 0) dd_X12_summer_47 rfl rfl ?_
    refine fs_getr (ci := 12) (j := 60) (q := 235) dd_X12_summer_48 fl_X12_130 ca_196 rfl (Or.inr ⟨_, rfl⟩) rfl (by decide) ?_
    refine fs_iload_n (k0 := 1) (i := 1) dd_X12_summer_51 rfl rfl ?_
    refine fs_aload_n (k0 := 0) (i := 0) dd_X12_summer_52 rfl rfl ?_
    refine fs_getr (ci := 12) (j := 54) (q := 232) dd_X12_summer_53 fl_X12_121 ca_196 rfl (Or.inr ⟨_, rfl⟩) rfl (by decide) ?_
    refine fs_iconst (n := 1) (v := 1) dd_X12_summer_56 (by decide) ?_
    refine fs_iconst (n := 2) (v := 2) dd_X12_summer_57 (by decide) ?_
    refine fs_iload_n (k0 := 1) (i := 1) dd_X12_summer_58 rfl rfl ?_
    refine fs_imul dd_X12_summer_59 ?_
    refine fs_iadd dd_X12_summer_60 ?_
    have hb := H.1
    replace H := H.2
    refine fs_iald dd_X12_summer_61 ca_232 hb ?_
    refine fs_i2l dd_X12_summer_62 ?_
    refine fs_lload_n (k0 := 2) (i := 2) dd_X12_summer_63 rfl rfl ?_
    refine fs_ladd dd_X12_summer_64 ?_
    refine fs_sipush (n := 999) (v := 999) dd_X12_summer_65 (by decide) ?_
    refine fs_callS (y := m_X12_cut) (as := [.long (((s2.1 232 (1 + (2 * v1)).toNatClampNeg).toInt64) + v2), .int 999]) dd_X12_summer_68 me_X12_cut (Or.inl lk_X12_459) st_X12_cut rfl (Nat.le_of_ble_eq_true rfl) (Nat.le_of_ble_eq_true rfl) rfl (V_X12_cut (by omega)  H) (k2_I fun r3 s4 H => ?_)
    have hb := H.1
    replace H := H.2
    refine fs_iast dd_X12_summer_71 ca_235 hb ?_
    refine fs_tops (fun s5 hs5 => ?_)
    replace H := H s5 hs5
    refine fs_iincN (i := 1) (m := 1) (c := 1) dd_X12_summer_72 rfl (by decide) (by decide) (fun x6 hx6 => ?_)
    replace H := H x6 hx6
    refine fs_goto (tgt := 2) dd_X12_summer_75 (by decide) ?_
    refine fs_weak (ls2 := [.ref 196, .int x6, fz_J, fz_J, fz_J]) (fz_le_e (fz_le_e (fz_le_j (fz_le_j (fz_le_j fz_le_n))))) ?_
    exact hK2 H
  · replace H := H.2 hc
    refine fs_aload_n (k0 := 0) (i := 0) dd_X12_summer_21 rfl rfl ?_
    refine fs_iload (i := 4) dd_X12_summer_22 rfl ?_
    refine fs_callV (y := m_X12_livesIn) (as := [.int v4]) dd_X12_summer_24 me_X12_livesIn lk_X12_412 in_X12_livesIn se_X12_livesIn ca_196 rfl rfl rfl (Nat.le_of_ble_eq_true rfl) (Nat.le_of_ble_eq_true rfl) rfl (V_X12_livesIn (by omega)  H) (k2_I fun r7 s8 H => ?_)
    refine fs_iload_n (k0 := 1) (i := 1) dd_X12_summer_27 rfl rfl ?_
    refine fs_icmp_ne (tgt := 41) dd_X12_summer_28 (by decide) (fun hc => ?_) (fun hc => ?_)
    · replace H := H.1 hc
      refine fs_iincN (i := 4) (m := 1) (c := 1) dd_X12_summer_41 rfl (by decide) (by decide) (fun x9 hx9 => ?_)
      replace H := H x9 hx9
      refine fs_goto (tgt := 12) dd_X12_summer_44 (by decide) ?_
      refine fs_weak (ls2 := [.ref 196, .int v1, .long v2, fz_J, .int x9]) (fz_le_e (fz_le_e (fz_le_e (fz_le_j (fz_le_e fz_le_n))))) ?_
      exact hK12 H
    · replace H := H.2 hc
      refine fs_lload_n (k0 := 2) (i := 2) dd_X12_summer_31 rfl rfl ?_
      refine fs_aload_n (k0 := 0) (i := 0) dd_X12_summer_32 rfl rfl ?_
      refine fs_iload (i := 4) dd_X12_summer_33 rfl ?_
      refine fs_iload_n (k0 := 1) (i := 1) dd_X12_summer_35 rfl rfl ?_
      refine fs_callV (y := m_X12_doesIn) (as := [.int v4, .int v1]) dd_X12_summer_36 me_X12_doesIn lk_X12_456 in_X12_doesIn se_X12_doesIn ca_196 rfl rfl rfl (Nat.le_of_ble_eq_true rfl) (Nat.le_of_ble_eq_true rfl) rfl (V_X12_doesIn (by omega)  H) (k2_L fun r10 s11 H => ?_)
      refine fs_ladd dd_X12_summer_39 ?_
      refine fs_topl (fun x12 hx12 => ?_)
      replace H := H x12 hx12
      refine fs_lstore_n (k0 := 2) (i := 2) dd_X12_summer_40 rfl (by decide) ?_
      refine fs_iincN (i := 4) (m := 1) (c := 1) dd_X12_summer_41 rfl (by decide) (by decide) (fun x13 hx13 => ?_)
      replace H := H x13 hx13
      refine fs_goto (tgt := 12) dd_X12_summer_44 (by decide) ?_
      refine fs_weak (ls2 := [.ref 196, .int v1, .long x12, fz_J, .int x13]) (fz_le_e (fz_le_e (fz_le_e (fz_le_j (fz_le_e fz_le_n))))) ?_
      exact hK12 H
set_option maxRecDepth 100000 in
set_option maxHeartbeats 4000000 in
theorem V_lp_X12_summer_12 {g : fz_G} {l : Launch} {d : Nat} (hD : 6 ≤ d)   {K2 : Int32 → fz_s → Prop} {Q : fz_s → Prop} (hK2 : ∀ {v1 : Int32} {s : fz_s}, K2 v1 s → fs_V g l m_X12_summer d false 2 [.ref 196, .int v1, fz_J, fz_J, fz_J] [] s (rV Q)) (n : Nat) : ∀ {v1 : Int32} {v2 : Int64} {v4 : Int32} {s : fz_s}, lp_X12_summer_12  K2 Q n v1 v2 v4 s → fs_V g l m_X12_summer d false 12 [.ref 196, .int v1, .long v2, fz_J, .int v4] [] s (rV Q) := by
  induction n with
  | zero => intro v1 v2 v4 s H; exact H.elim
  | succ n ih => intro v1 v2 v4 s H; exact V_nd_X12_summer_12 hD  hK2 (fun H => ih H) H
set_option maxRecDepth 100000 in
set_option maxHeartbeats 4000000 in
theorem V_nd_X12_summer_2 {g : fz_G} {l : Launch} {d : Nat} (hD : 6 ≤ d)   {K2 : Int32 → fz_s → Prop} {Q : fz_s → Prop} {v1 : Int32} {s : fz_s} (hK2 : ∀ {v1 : Int32} {s : fz_s}, K2 v1 s → fs_V g l m_X12_summer d false 2 [.ref 196, .int v1, fz_J, fz_J, fz_J] [] s (rV Q)) (H : nd_X12_summer_2  K2 Q v1 s) : fs_V g l m_X12_summer d false 2 [.ref 196, .int v1, fz_J, fz_J, fz_J] [] s (rV Q) := by
  obtain ⟨d, rfl⟩ : ∃ e, d = e + 1 := ⟨d - 1, by omega⟩
  unfold nd_X12_summer_2 at H
  refine fs_iload_n (k0 := 1) (i := 1) dd_X12_summer_2 rfl rfl ?_
  refine fs_iconst (n := 2) (v := 2) dd_X12_summer_3 (by decide) ?_
  refine fs_icmp_ge (tgt := 78) dd_X12_summer_4 (by decide) (fun hc => ?_) (fun hc => ?_)
  · replace H := H.1 hc
    refine fs_iconst (n := 0) (v := 0) dd_X12_summer_78 (by decide) ?_
    refine fs_istore_n (k0 := 1) (i := 1) dd_X12_summer_79 rfl (by decide) ?_
    refine fs_weak (ls2 := [.ref 196, .int 0, fz_J, fz_J, fz_J]) (fz_le_e (fz_le_e (fz_le_j (fz_le_j (fz_le_j fz_le_n))))) ?_
    exact V_lp_X12_summer_80 hD    2048 H
  · replace H := H.2 hc
    refine fs_lconst (n := 0) (v := 0) dd_X12_summer_7 (by decide) ?_
    refine fs_lstore_n (k0 := 2) (i := 2) dd_X12_summer_8 rfl (by decide) ?_
    refine fs_iconst (n := 0) (v := 0) dd_X12_summer_9 (by decide) ?_
    refine fs_istore (i := 4) dd_X12_summer_10 (by decide) ?_
    refine fs_weak (ls2 := [.ref 196, .int v1, .long 0, fz_J, .int 0]) (fz_le_e (fz_le_e (fz_le_e (fz_le_j (fz_le_e fz_le_n))))) ?_
    exact V_lp_X12_summer_12 hD   hK2 2048 H
set_option maxRecDepth 100000 in
set_option maxHeartbeats 4000000 in
theorem V_lp_X12_summer_2 {g : fz_G} {l : Launch} {d : Nat} (hD : 6 ≤ d)    {Q : fz_s → Prop}  (n : Nat) : ∀ {v1 : Int32} {s : fz_s}, lp_X12_summer_2   Q n v1 s → fs_V g l m_X12_summer d false 2 [.ref 196, .int v1, fz_J, fz_J, fz_J] [] s (rV Q) := by
  induction n with
  | zero => intro v1 s H; exact H.elim
  | succ n ih => intro v1 s H; exact V_nd_X12_summer_2 hD  (fun H => ih H) H
set_option maxRecDepth 100000 in
set_option maxHeartbeats 4000000 in
theorem V_X12_summer {g : fz_G} {l : Launch} {d : Nat} (hD : 6 ≤ d)   {s : fz_s} {Q : fz_s → Prop} (H : wp_X12_summer  s Q) : fs_V g l m_X12_summer d false 0 (fz_en [.ref 196] 5) [] s (rV Q) := by
  obtain ⟨d, rfl⟩ : ∃ e, d = e + 1 := ⟨d - 1, by omega⟩
  unfold wp_X12_summer at H
  refine fs_iconst (n := 0) (v := 0) dd_X12_summer_0 (by decide) ?_
  refine fs_istore_n (k0 := 1) (i := 1) dd_X12_summer_1 rfl (by decide) ?_
  refine fs_weak (ls2 := [.ref 196, .int 0, fz_J, fz_J, fz_J]) (fz_le_e (fz_le_e (fz_le_j (fz_le_j (fz_le_j fz_le_n))))) ?_
  exact V_lp_X12_summer_2 hD    2048 H
theorem dd_X12_autumn_0 : decode m_X12_autumn.2.1 0 = .ok (.iconst 0, 1) := by decide +kernel
theorem dd_X12_autumn_1 : decode m_X12_autumn.2.1 1 = .ok (.istore_n 1, 1) := by decide +kernel
theorem dd_X12_autumn_2 : decode m_X12_autumn.2.1 2 = .ok (.iload_n 1, 1) := by decide +kernel
theorem dd_X12_autumn_3 : decode m_X12_autumn.2.1 3 = .ok (.aload_n 0, 1) := by decide +kernel
theorem dd_X12_autumn_4 : decode m_X12_autumn.2.1 4 = .ok (.invokevirtual 402, 3) := by decide +kernel
theorem dd_X12_autumn_7 : decode m_X12_autumn.2.1 7 = .ok (.if_icmp .ge 61, 3) := by decide +kernel
theorem dd_X12_autumn_10 : decode m_X12_autumn.2.1 10 = .ok (.aload_n 0, 1) := by decide +kernel
theorem dd_X12_autumn_11 : decode m_X12_autumn.2.1 11 = .ok (.iload_n 1, 1) := by decide +kernel
theorem dd_X12_autumn_12 : decode m_X12_autumn.2.1 12 = .ok (.invokevirtual 405, 3) := by decide +kernel
theorem dd_X12_autumn_15 : decode m_X12_autumn.2.1 15 = .ok (.ifCond .ne 6, 3) := by decide +kernel
theorem dd_X12_autumn_18 : decode m_X12_autumn.2.1 18 = .ok (.goto 44, 3) := by decide +kernel
theorem dd_X12_autumn_21 : decode m_X12_autumn.2.1 21 = .ok (.aload_n 0, 1) := by decide +kernel
theorem dd_X12_autumn_22 : decode m_X12_autumn.2.1 22 = .ok (.iload_n 1, 1) := by decide +kernel
theorem dd_X12_autumn_23 : decode m_X12_autumn.2.1 23 = .ok (.invokevirtual 463, 3) := by decide +kernel
theorem dd_X12_autumn_26 : decode m_X12_autumn.2.1 26 = .ok (.ifCond .ne 11, 3) := by decide +kernel
theorem dd_X12_autumn_29 : decode m_X12_autumn.2.1 29 = .ok (.aload_n 0, 1) := by decide +kernel
theorem dd_X12_autumn_30 : decode m_X12_autumn.2.1 30 = .ok (.iload_n 1, 1) := by decide +kernel
theorem dd_X12_autumn_31 : decode m_X12_autumn.2.1 31 = .ok (.invokevirtual 466, 3) := by decide +kernel
theorem dd_X12_autumn_34 : decode m_X12_autumn.2.1 34 = .ok (.goto 28, 3) := by decide +kernel
theorem dd_X12_autumn_37 : decode m_X12_autumn.2.1 37 = .ok (.aload_n 0, 1) := by decide +kernel
theorem dd_X12_autumn_38 : decode m_X12_autumn.2.1 38 = .ok (.iload_n 1, 1) := by decide +kernel
theorem dd_X12_autumn_39 : decode m_X12_autumn.2.1 39 = .ok (.invokevirtual 469, 3) := by decide +kernel
theorem dd_X12_autumn_42 : decode m_X12_autumn.2.1 42 = .ok (.bipush 99, 2) := by decide +kernel
theorem dd_X12_autumn_44 : decode m_X12_autumn.2.1 44 = .ok (.if_icmp .ge 18, 3) := by decide +kernel
theorem dd_X12_autumn_47 : decode m_X12_autumn.2.1 47 = .ok (.aload_n 0, 1) := by decide +kernel
theorem dd_X12_autumn_48 : decode m_X12_autumn.2.1 48 = .ok (.getfield 121, 3) := by decide +kernel
theorem dd_X12_autumn_51 : decode m_X12_autumn.2.1 51 = .ok (.bipush 7, 2) := by decide +kernel
theorem dd_X12_autumn_53 : decode m_X12_autumn.2.1 53 = .ok (.iconst 3, 1) := by decide +kernel
theorem dd_X12_autumn_54 : decode m_X12_autumn.2.1 54 = .ok (.iload_n 1, 1) := by decide +kernel
theorem dd_X12_autumn_55 : decode m_X12_autumn.2.1 55 = .ok (.imul, 1) := by decide +kernel
theorem dd_X12_autumn_56 : decode m_X12_autumn.2.1 56 = .ok (.iadd, 1) := by decide +kernel
theorem dd_X12_autumn_57 : decode m_X12_autumn.2.1 57 = .ok (.dup2, 1) := by decide +kernel
theorem dd_X12_autumn_58 : decode m_X12_autumn.2.1 58 = .ok (.iaload, 1) := by decide +kernel
theorem dd_X12_autumn_59 : decode m_X12_autumn.2.1 59 = .ok (.iconst 1, 1) := by decide +kernel
theorem dd_X12_autumn_60 : decode m_X12_autumn.2.1 60 = .ok (.iadd, 1) := by decide +kernel
theorem dd_X12_autumn_61 : decode m_X12_autumn.2.1 61 = .ok (.iastore, 1) := by decide +kernel
theorem dd_X12_autumn_62 : decode m_X12_autumn.2.1 62 = .ok (.iinc 1 1, 3) := by decide +kernel
theorem dd_X12_autumn_65 : decode m_X12_autumn.2.1 65 = .ok (.goto (-63), 3) := by decide +kernel
theorem dd_X12_autumn_68 : decode m_X12_autumn.2.1 68 = .ok (.return_, 1) := by decide +kernel
def nd_X12_autumn_2  (K2 : Int32 → fz_s → Prop) (Q : fz_s → Prop) (v1 : Int32) (s : fz_s) : Prop :=
  wp_X12_personMany  s (fun r1 s2 => ((r1 ≤ v1 → Q s2) ∧ (¬ r1 ≤ v1 → wp_X12_isAway v1 s2 (fun r3 s4 => ((r3 = true → wp_X12_doesStay v1 s4 (fun r5 s6 => ((r5 = true → wp_X12_awayOf v1 s6 (fun r7 s8 => ((99 ≤ r7 → ∀ x9 : Int32, x9 = v1 + 1 → K2 x9 s8) ∧ (¬ 99 ≤ r7 → vp_in (7 + (3 * v1)) 150 ∧ vp_in (7 + (3 * v1)) 150 ∧ ∀ s10 : fz_s, s10 = si s8 232 (7 + (3 * v1)).toNatClampNeg ((s8.1 232 (7 + (3 * v1)).toNatClampNeg) + 1) → ∀ x11 : Int32, x11 = v1 + 1 → K2 x11 s10)))) ∧ (r5 = false → wp_X12_comesHome v1 s6 (fun s13 => ∀ x14 : Int32, x14 = v1 + 1 → K2 x14 s13))))) ∧ (r3 = false → ∀ x15 : Int32, x15 = v1 + 1 → K2 x15 s4))))))
def lp_X12_autumn_2   (Q : fz_s → Prop) : Nat → Int32 → fz_s → Prop
  | 0 => fun _ _ => False
  | n + 1 => nd_X12_autumn_2  (lp_X12_autumn_2   Q n) Q
def wp_X12_autumn  (s : fz_s) (Q : fz_s → Prop) : Prop :=
  lp_X12_autumn_2   Q 2048 0 s
set_option maxRecDepth 100000 in
set_option maxHeartbeats 4000000 in
theorem V_nd_X12_autumn_2 {g : fz_G} {l : Launch} {d : Nat} (hD : 6 ≤ d)   {K2 : Int32 → fz_s → Prop} {Q : fz_s → Prop} {v1 : Int32} {s : fz_s} (hK2 : ∀ {v1 : Int32} {s : fz_s}, K2 v1 s → fs_V g l m_X12_autumn d false 2 [.ref 196, .int v1] [] s (rV Q)) (H : nd_X12_autumn_2  K2 Q v1 s) : fs_V g l m_X12_autumn d false 2 [.ref 196, .int v1] [] s (rV Q) := by
  obtain ⟨d, rfl⟩ : ∃ e, d = e + 1 := ⟨d - 1, by omega⟩
  unfold nd_X12_autumn_2 at H
  refine fs_iload_n (k0 := 1) (i := 1) dd_X12_autumn_2 rfl rfl ?_
  refine fs_aload_n (k0 := 0) (i := 0) dd_X12_autumn_3 rfl rfl ?_
  refine fs_callV (y := m_X12_personMany) (as := []) dd_X12_autumn_4 me_X12_personMany lk_X12_402 in_X12_personMany se_X12_personMany ca_196 rfl rfl rfl (Nat.le_of_ble_eq_true rfl) (Nat.le_of_ble_eq_true rfl) rfl (V_X12_personMany (by omega)  H) (k2_I fun r1 s2 H => ?_)
  refine fs_icmp_ge (tgt := 68) dd_X12_autumn_7 (by decide) (fun hc => ?_) (fun hc => ?_)
  · replace H := H.1 hc
    exact fs_vret dd_X12_autumn_68 rfl H
  · replace H := H.2 hc
    refine fs_aload_n (k0 := 0) (i := 0) dd_X12_autumn_10 rfl rfl ?_
    refine fs_iload_n (k0 := 1) (i := 1) dd_X12_autumn_11 rfl rfl ?_
    refine fs_callV (y := m_X12_isAway) (as := [.int v1]) dd_X12_autumn_12 me_X12_isAway lk_X12_405 in_X12_isAway se_X12_isAway ca_196 rfl rfl rfl (Nat.le_of_ble_eq_true rfl) (Nat.le_of_ble_eq_true rfl) rfl (V_X12_isAway (by omega)  H) (k2_Z fun r3 s4 H => ?_)
    refine fs_if_ne (tgt := 21) dd_X12_autumn_15 (by decide) (fun hc => ?_) (fun hc => ?_)
    · replace H := H.1 (bi_1 hc)
      refine fs_aload_n (k0 := 0) (i := 0) dd_X12_autumn_21 rfl rfl ?_
      refine fs_iload_n (k0 := 1) (i := 1) dd_X12_autumn_22 rfl rfl ?_
      refine fs_callV (y := m_X12_doesStay) (as := [.int v1]) dd_X12_autumn_23 me_X12_doesStay lk_X12_463 in_X12_doesStay se_X12_doesStay ca_196 rfl rfl rfl (Nat.le_of_ble_eq_true rfl) (Nat.le_of_ble_eq_true rfl) rfl (V_X12_doesStay (by omega)  H) (k2_Z fun r5 s6 H => ?_)
      refine fs_if_ne (tgt := 37) dd_X12_autumn_26 (by decide) (fun hc => ?_) (fun hc => ?_)
      · replace H := H.1 (bi_1 hc)
        refine fs_aload_n (k0 := 0) (i := 0) dd_X12_autumn_37 rfl rfl ?_
        refine fs_iload_n (k0 := 1) (i := 1) dd_X12_autumn_38 rfl rfl ?_
        refine fs_callV (y := m_X12_awayOf) (as := [.int v1]) dd_X12_autumn_39 me_X12_awayOf lk_X12_469 in_X12_awayOf se_X12_awayOf ca_196 rfl rfl rfl (Nat.le_of_ble_eq_true rfl) (Nat.le_of_ble_eq_true rfl) rfl (V_X12_awayOf (by omega)  H) (k2_I fun r7 s8 H => ?_)
        refine fs_bipush (n := 99) (v := 99) dd_X12_autumn_42 (by decide) ?_
        refine fs_icmp_ge (tgt := 62) dd_X12_autumn_44 (by decide) (fun hc => ?_) (fun hc => ?_)
        · replace H := H.1 hc
          refine fs_iincN (i := 1) (m := 1) (c := 1) dd_X12_autumn_62 rfl (by decide) (by decide) (fun x9 hx9 => ?_)
          replace H := H x9 hx9
          refine fs_goto (tgt := 2) dd_X12_autumn_65 (by decide) ?_
          refine fs_weak (ls2 := [.ref 196, .int x9]) (fz_le_e (fz_le_e fz_le_n)) ?_
          exact hK2 H
        · replace H := H.2 hc
          refine fs_aload_n (k0 := 0) (i := 0) dd_X12_autumn_47 rfl rfl ?_
          refine fs_getr (ci := 12) (j := 54) (q := 232) dd_X12_autumn_48 fl_X12_121 ca_196 rfl (Or.inr ⟨_, rfl⟩) rfl (by decide) ?_
          refine fs_bipush (n := 7) (v := 7) dd_X12_autumn_51 (by decide) ?_
          refine fs_iconst (n := 3) (v := 3) dd_X12_autumn_53 (by decide) ?_
          refine fs_iload_n (k0 := 1) (i := 1) dd_X12_autumn_54 rfl rfl ?_
          refine fs_imul dd_X12_autumn_55 ?_
          refine fs_iadd dd_X12_autumn_56 ?_
          refine fs_dup2 dd_X12_autumn_57 rfl rfl ?_
          have hb := H.1
          replace H := H.2
          refine fs_iald dd_X12_autumn_58 ca_232 hb ?_
          refine fs_iconst (n := 1) (v := 1) dd_X12_autumn_59 (by decide) ?_
          refine fs_iadd dd_X12_autumn_60 ?_
          have hb := H.1
          replace H := H.2
          refine fs_iast dd_X12_autumn_61 ca_232 hb ?_
          refine fs_tops (fun s10 hs10 => ?_)
          replace H := H s10 hs10
          refine fs_iincN (i := 1) (m := 1) (c := 1) dd_X12_autumn_62 rfl (by decide) (by decide) (fun x11 hx11 => ?_)
          replace H := H x11 hx11
          refine fs_goto (tgt := 2) dd_X12_autumn_65 (by decide) ?_
          refine fs_weak (ls2 := [.ref 196, .int x11]) (fz_le_e (fz_le_e fz_le_n)) ?_
          exact hK2 H
      · replace H := H.2 (bi_0 hc)
        refine fs_aload_n (k0 := 0) (i := 0) dd_X12_autumn_29 rfl rfl ?_
        refine fs_iload_n (k0 := 1) (i := 1) dd_X12_autumn_30 rfl rfl ?_
        refine fs_callV (y := m_X12_comesHome) (as := [.int v1]) dd_X12_autumn_31 me_X12_comesHome lk_X12_466 in_X12_comesHome se_X12_comesHome ca_196 rfl rfl rfl (Nat.le_of_ble_eq_true rfl) (Nat.le_of_ble_eq_true rfl) rfl (V_X12_comesHome (by omega)  H) (k2_V fun s13 H => ?_)
        refine fs_goto (tgt := 62) dd_X12_autumn_34 (by decide) ?_
        refine fs_iincN (i := 1) (m := 1) (c := 1) dd_X12_autumn_62 rfl (by decide) (by decide) (fun x14 hx14 => ?_)
        replace H := H x14 hx14
        refine fs_goto (tgt := 2) dd_X12_autumn_65 (by decide) ?_
        refine fs_weak (ls2 := [.ref 196, .int x14]) (fz_le_e (fz_le_e fz_le_n)) ?_
        exact hK2 H
    · replace H := H.2 (bi_0 hc)
      refine fs_goto (tgt := 62) dd_X12_autumn_18 (by decide) ?_
      refine fs_iincN (i := 1) (m := 1) (c := 1) dd_X12_autumn_62 rfl (by decide) (by decide) (fun x15 hx15 => ?_)
      replace H := H x15 hx15
      refine fs_goto (tgt := 2) dd_X12_autumn_65 (by decide) ?_
      refine fs_weak (ls2 := [.ref 196, .int x15]) (fz_le_e (fz_le_e fz_le_n)) ?_
      exact hK2 H
set_option maxRecDepth 100000 in
set_option maxHeartbeats 4000000 in
theorem V_lp_X12_autumn_2 {g : fz_G} {l : Launch} {d : Nat} (hD : 6 ≤ d)    {Q : fz_s → Prop}  (n : Nat) : ∀ {v1 : Int32} {s : fz_s}, lp_X12_autumn_2   Q n v1 s → fs_V g l m_X12_autumn d false 2 [.ref 196, .int v1] [] s (rV Q) := by
  induction n with
  | zero => intro v1 s H; exact H.elim
  | succ n ih => intro v1 s H; exact V_nd_X12_autumn_2 hD  (fun H => ih H) H
set_option maxRecDepth 100000 in
set_option maxHeartbeats 4000000 in
theorem V_X12_autumn {g : fz_G} {l : Launch} {d : Nat} (hD : 6 ≤ d)   {s : fz_s} {Q : fz_s → Prop} (H : wp_X12_autumn  s Q) : fs_V g l m_X12_autumn d false 0 (fz_en [.ref 196] 2) [] s (rV Q) := by
  obtain ⟨d, rfl⟩ : ∃ e, d = e + 1 := ⟨d - 1, by omega⟩
  unfold wp_X12_autumn at H
  refine fs_iconst (n := 0) (v := 0) dd_X12_autumn_0 (by decide) ?_
  refine fs_istore_n (k0 := 1) (i := 1) dd_X12_autumn_1 rfl (by decide) ?_
  refine fs_weak (ls2 := [.ref 196, .int 0]) (fz_le_e (fz_le_e fz_le_n)) ?_
  exact V_lp_X12_autumn_2 hD    2048 H
theorem dd_X12_yearWith_0 : decode m_X12_yearWith.2.1 0 = .ok (.iload_n 1, 1) := by decide +kernel
theorem dd_X12_yearWith_1 : decode m_X12_yearWith.2.1 1 = .ok (.iconst (-1), 1) := by decide +kernel
theorem dd_X12_yearWith_2 : decode m_X12_yearWith.2.1 2 = .ok (.if_icmp .eq 13, 3) := by decide +kernel
theorem dd_X12_yearWith_5 : decode m_X12_yearWith.2.1 5 = .ok (.aload_n 0, 1) := by decide +kernel
theorem dd_X12_yearWith_6 : decode m_X12_yearWith.2.1 6 = .ok (.iload_n 1, 1) := by decide +kernel
theorem dd_X12_yearWith_7 : decode m_X12_yearWith.2.1 7 = .ok (.invokevirtual 472, 3) := by decide +kernel
theorem dd_X12_yearWith_10 : decode m_X12_yearWith.2.1 10 = .ok (.aload_n 0, 1) := by decide +kernel
theorem dd_X12_yearWith_11 : decode m_X12_yearWith.2.1 11 = .ok (.iload_n 2, 1) := by decide +kernel
theorem dd_X12_yearWith_12 : decode m_X12_yearWith.2.1 12 = .ok (.invokevirtual 472, 3) := by decide +kernel
theorem dd_X12_yearWith_15 : decode m_X12_yearWith.2.1 15 = .ok (.aload_n 0, 1) := by decide +kernel
theorem dd_X12_yearWith_16 : decode m_X12_yearWith.2.1 16 = .ok (.invokevirtual 475, 3) := by decide +kernel
theorem dd_X12_yearWith_19 : decode m_X12_yearWith.2.1 19 = .ok (.iload_n 3, 1) := by decide +kernel
theorem dd_X12_yearWith_20 : decode m_X12_yearWith.2.1 20 = .ok (.ifCond .ne 7, 3) := by decide +kernel
theorem dd_X12_yearWith_23 : decode m_X12_yearWith.2.1 23 = .ok (.aload_n 0, 1) := by decide +kernel
theorem dd_X12_yearWith_24 : decode m_X12_yearWith.2.1 24 = .ok (.invokevirtual 478, 3) := by decide +kernel
theorem dd_X12_yearWith_27 : decode m_X12_yearWith.2.1 27 = .ok (.aload_n 0, 1) := by decide +kernel
theorem dd_X12_yearWith_28 : decode m_X12_yearWith.2.1 28 = .ok (.iload_n 1, 1) := by decide +kernel
theorem dd_X12_yearWith_29 : decode m_X12_yearWith.2.1 29 = .ok (.iload_n 2, 1) := by decide +kernel
theorem dd_X12_yearWith_30 : decode m_X12_yearWith.2.1 30 = .ok (.invokevirtual 481, 3) := by decide +kernel
theorem dd_X12_yearWith_33 : decode m_X12_yearWith.2.1 33 = .ok (.aload_n 0, 1) := by decide +kernel
theorem dd_X12_yearWith_34 : decode m_X12_yearWith.2.1 34 = .ok (.getfield 121, 3) := by decide +kernel
theorem dd_X12_yearWith_37 : decode m_X12_yearWith.2.1 37 = .ok (.iconst 0, 1) := by decide +kernel
theorem dd_X12_yearWith_38 : decode m_X12_yearWith.2.1 38 = .ok (.dup2, 1) := by decide +kernel
theorem dd_X12_yearWith_39 : decode m_X12_yearWith.2.1 39 = .ok (.iaload, 1) := by decide +kernel
theorem dd_X12_yearWith_40 : decode m_X12_yearWith.2.1 40 = .ok (.iconst 1, 1) := by decide +kernel
theorem dd_X12_yearWith_41 : decode m_X12_yearWith.2.1 41 = .ok (.iadd, 1) := by decide +kernel
theorem dd_X12_yearWith_42 : decode m_X12_yearWith.2.1 42 = .ok (.iastore, 1) := by decide +kernel
theorem dd_X12_yearWith_43 : decode m_X12_yearWith.2.1 43 = .ok (.return_, 1) := by decide +kernel
def nd_X12_yearWith_27   (Q : fz_s → Prop) (v1 : Int32) (v2 : Int32) (s : fz_s) : Prop :=
  wp_X12_isKept v1 v2 s (fun s2 => ∀ s3 : fz_s, s3 = si s2 232 (0 : Int32).toNatClampNeg ((s2.1 232 (0 : Int32).toNatClampNeg) + 1) → Q s3)
def nd_X12_yearWith_15   (Q : fz_s → Prop) (v1 : Int32) (v2 : Int32) (v3 : Bool) (s : fz_s) : Prop :=
  wp_X12_summer  s (fun s2 => ((v3 = true → nd_X12_yearWith_27   Q v1 v2 s2) ∧ (v3 = false → wp_X12_autumn  s2 (fun s4 => nd_X12_yearWith_27   Q v1 v2 s4))))
def wp_X12_yearWith (p0 : Int32) (p1 : Int32) (p2 : Bool) (s : fz_s) (Q : fz_s → Prop) : Prop :=
  ((p0 = (-1) → nd_X12_yearWith_15   Q p0 p1 p2 s) ∧ (¬ p0 = (-1) → wp_X12_goesAway p0 s (fun s2 => wp_X12_goesAway p1 s2 (fun s4 => nd_X12_yearWith_15   Q p0 p1 p2 s4))))
set_option maxRecDepth 100000 in
set_option maxHeartbeats 4000000 in
theorem V_nd_X12_yearWith_27 {g : fz_G} {l : Launch} {d : Nat} (hD : 7 ≤ d)    {Q : fz_s → Prop} {v1 : Int32} {v2 : Int32} {s : fz_s}  (H : nd_X12_yearWith_27   Q v1 v2 s) : fs_V g l m_X12_yearWith d false 27 [.ref 196, .int v1, .int v2, fz_J] [] s (rV Q) := by
  obtain ⟨d, rfl⟩ : ∃ e, d = e + 1 := ⟨d - 1, by omega⟩
  unfold nd_X12_yearWith_27 at H
  refine fs_aload_n (k0 := 0) (i := 0) dd_X12_yearWith_27 rfl rfl ?_
  refine fs_iload_n (k0 := 1) (i := 1) dd_X12_yearWith_28 rfl rfl ?_
  refine fs_iload_n (k0 := 2) (i := 2) dd_X12_yearWith_29 rfl rfl ?_
  refine fs_callV (y := m_X12_isKept) (as := [.int v1, .int v2]) dd_X12_yearWith_30 me_X12_isKept lk_X12_481 in_X12_isKept se_X12_isKept ca_196 rfl rfl rfl (Nat.le_of_ble_eq_true rfl) (Nat.le_of_ble_eq_true rfl) rfl (V_X12_isKept (by omega)  H) (k2_V fun s2 H => ?_)
  refine fs_aload_n (k0 := 0) (i := 0) dd_X12_yearWith_33 rfl rfl ?_
  refine fs_getr (ci := 12) (j := 54) (q := 232) dd_X12_yearWith_34 fl_X12_121 ca_196 rfl (Or.inr ⟨_, rfl⟩) rfl (by decide) ?_
  refine fs_iconst (n := 0) (v := 0) dd_X12_yearWith_37 (by decide) ?_
  refine fs_dup2 dd_X12_yearWith_38 rfl rfl ?_
  refine fs_iald dd_X12_yearWith_39 ca_232 (vp_in_nI (n := 0) (by decide) (by decide)) ?_
  refine fs_iconst (n := 1) (v := 1) dd_X12_yearWith_40 (by decide) ?_
  refine fs_iadd dd_X12_yearWith_41 ?_
  refine fs_iast dd_X12_yearWith_42 ca_232 (vp_in_nI (n := 0) (by decide) (by decide)) ?_
  refine fs_tops (fun s3 hs3 => ?_)
  replace H := H s3 hs3
  exact fs_vret dd_X12_yearWith_43 rfl H
set_option maxRecDepth 100000 in
set_option maxHeartbeats 4000000 in
theorem V_nd_X12_yearWith_15 {g : fz_G} {l : Launch} {d : Nat} (hD : 7 ≤ d)    {Q : fz_s → Prop} {v1 : Int32} {v2 : Int32} {v3 : Bool} {s : fz_s}  (H : nd_X12_yearWith_15   Q v1 v2 v3 s) : fs_V g l m_X12_yearWith d false 15 [.ref 196, .int v1, .int v2, .int (bi v3)] [] s (rV Q) := by
  obtain ⟨d, rfl⟩ : ∃ e, d = e + 1 := ⟨d - 1, by omega⟩
  unfold nd_X12_yearWith_15 at H
  refine fs_aload_n (k0 := 0) (i := 0) dd_X12_yearWith_15 rfl rfl ?_
  refine fs_callV (y := m_X12_summer) (as := []) dd_X12_yearWith_16 me_X12_summer lk_X12_475 in_X12_summer se_X12_summer ca_196 rfl rfl rfl (Nat.le_of_ble_eq_true rfl) (Nat.le_of_ble_eq_true rfl) rfl (V_X12_summer (by omega)  H) (k2_V fun s2 H => ?_)
  refine fs_iload_n (k0 := 3) (i := 3) dd_X12_yearWith_19 rfl rfl ?_
  refine fs_if_ne (tgt := 27) dd_X12_yearWith_20 (by decide) (fun hc => ?_) (fun hc => ?_)
  · replace H := H.1 (bi_1 hc)
    refine fs_weak (ls2 := [.ref 196, .int v1, .int v2, fz_J]) (fz_le_e (fz_le_e (fz_le_e (fz_le_j fz_le_n)))) ?_
    exact V_nd_X12_yearWith_27 hD    H
  · replace H := H.2 (bi_0 hc)
    refine fs_aload_n (k0 := 0) (i := 0) dd_X12_yearWith_23 rfl rfl ?_
    refine fs_callV (y := m_X12_autumn) (as := []) dd_X12_yearWith_24 me_X12_autumn lk_X12_478 in_X12_autumn se_X12_autumn ca_196 rfl rfl rfl (Nat.le_of_ble_eq_true rfl) (Nat.le_of_ble_eq_true rfl) rfl (V_X12_autumn (by omega)  H) (k2_V fun s4 H => ?_)
    refine fs_weak (ls2 := [.ref 196, .int v1, .int v2, fz_J]) (fz_le_e (fz_le_e (fz_le_e (fz_le_j fz_le_n)))) ?_
    exact V_nd_X12_yearWith_27 hD    H
set_option maxRecDepth 100000 in
set_option maxHeartbeats 4000000 in
theorem V_X12_yearWith {g : fz_G} {l : Launch} {d : Nat} (hD : 7 ≤ d) {p0 : Int32} {p1 : Int32} {p2 : Bool}  {s : fz_s} {Q : fz_s → Prop} (H : wp_X12_yearWith p0 p1 p2 s Q) : fs_V g l m_X12_yearWith d false 0 (fz_en [.ref 196, .int p0, .int p1, .int (bi p2)] 4) [] s (rV Q) := by
  obtain ⟨d, rfl⟩ : ∃ e, d = e + 1 := ⟨d - 1, by omega⟩
  unfold wp_X12_yearWith at H
  refine fs_iload_n (k0 := 1) (i := 1) dd_X12_yearWith_0 rfl rfl ?_
  refine fs_iconst (n := -1) (v := -1) dd_X12_yearWith_1 (by decide) ?_
  refine fs_icmp_eq (tgt := 15) dd_X12_yearWith_2 (by decide) (fun hc => ?_) (fun hc => ?_)
  · replace H := H.1 hc
    refine fs_weak (ls2 := [.ref 196, .int p0, .int p1, .int (bi p2)]) (fz_le_e (fz_le_e (fz_le_e (fz_le_e fz_le_n)))) ?_
    exact V_nd_X12_yearWith_15 hD    H
  · replace H := H.2 hc
    refine fs_aload_n (k0 := 0) (i := 0) dd_X12_yearWith_5 rfl rfl ?_
    refine fs_iload_n (k0 := 1) (i := 1) dd_X12_yearWith_6 rfl rfl ?_
    refine fs_callV (y := m_X12_goesAway) (as := [.int p0]) dd_X12_yearWith_7 me_X12_goesAway lk_X12_472 in_X12_goesAway se_X12_goesAway ca_196 rfl rfl rfl (Nat.le_of_ble_eq_true rfl) (Nat.le_of_ble_eq_true rfl) rfl (V_X12_goesAway (by omega)  H) (k2_V fun s2 H => ?_)
    refine fs_aload_n (k0 := 0) (i := 0) dd_X12_yearWith_10 rfl rfl ?_
    refine fs_iload_n (k0 := 2) (i := 2) dd_X12_yearWith_11 rfl rfl ?_
    refine fs_callV (y := m_X12_goesAway) (as := [.int p1]) dd_X12_yearWith_12 me_X12_goesAway lk_X12_472 in_X12_goesAway se_X12_goesAway ca_196 rfl rfl rfl (Nat.le_of_ble_eq_true rfl) (Nat.le_of_ble_eq_true rfl) rfl (V_X12_goesAway (by omega)  H) (k2_V fun s4 H => ?_)
    refine fs_weak (ls2 := [.ref 196, .int p0, .int p1, .int (bi p2)]) (fz_le_e (fz_le_e (fz_le_e (fz_le_e fz_le_n)))) ?_
    exact V_nd_X12_yearWith_15 hD    H
theorem dd_X12_yearGoes_0 : decode m_X12_yearGoes.2.1 0 = .ok (.aload_n 0, 1) := by decide +kernel
theorem dd_X12_yearGoes_1 : decode m_X12_yearGoes.2.1 1 = .ok (.iconst 0, 1) := by decide +kernel
theorem dd_X12_yearGoes_2 : decode m_X12_yearGoes.2.1 2 = .ok (.invokevirtual 484, 3) := by decide +kernel
theorem dd_X12_yearGoes_5 : decode m_X12_yearGoes.2.1 5 = .ok (.istore_n 1, 1) := by decide +kernel
theorem dd_X12_yearGoes_6 : decode m_X12_yearGoes.2.1 6 = .ok (.aload_n 0, 1) := by decide +kernel
theorem dd_X12_yearGoes_7 : decode m_X12_yearGoes.2.1 7 = .ok (.iconst 1, 1) := by decide +kernel
theorem dd_X12_yearGoes_8 : decode m_X12_yearGoes.2.1 8 = .ok (.invokevirtual 484, 3) := by decide +kernel
theorem dd_X12_yearGoes_11 : decode m_X12_yearGoes.2.1 11 = .ok (.istore_n 2, 1) := by decide +kernel
theorem dd_X12_yearGoes_12 : decode m_X12_yearGoes.2.1 12 = .ok (.iload_n 1, 1) := by decide +kernel
theorem dd_X12_yearGoes_13 : decode m_X12_yearGoes.2.1 13 = .ok (.iconst (-1), 1) := by decide +kernel
theorem dd_X12_yearGoes_14 : decode m_X12_yearGoes.2.1 14 = .ok (.if_icmp .eq 28, 3) := by decide +kernel
theorem dd_X12_yearGoes_17 : decode m_X12_yearGoes.2.1 17 = .ok (.iload_n 2, 1) := by decide +kernel
theorem dd_X12_yearGoes_18 : decode m_X12_yearGoes.2.1 18 = .ok (.iconst (-1), 1) := by decide +kernel
theorem dd_X12_yearGoes_19 : decode m_X12_yearGoes.2.1 19 = .ok (.if_icmp .eq 23, 3) := by decide +kernel
theorem dd_X12_yearGoes_22 : decode m_X12_yearGoes.2.1 22 = .ok (.aload_n 0, 1) := by decide +kernel
theorem dd_X12_yearGoes_23 : decode m_X12_yearGoes.2.1 23 = .ok (.iload_n 1, 1) := by decide +kernel
theorem dd_X12_yearGoes_24 : decode m_X12_yearGoes.2.1 24 = .ok (.invokevirtual 487, 3) := by decide +kernel
theorem dd_X12_yearGoes_27 : decode m_X12_yearGoes.2.1 27 = .ok (.ifCond .eq 15, 3) := by decide +kernel
theorem dd_X12_yearGoes_30 : decode m_X12_yearGoes.2.1 30 = .ok (.aload_n 0, 1) := by decide +kernel
theorem dd_X12_yearGoes_31 : decode m_X12_yearGoes.2.1 31 = .ok (.iload_n 2, 1) := by decide +kernel
theorem dd_X12_yearGoes_32 : decode m_X12_yearGoes.2.1 32 = .ok (.invokevirtual 487, 3) := by decide +kernel
theorem dd_X12_yearGoes_35 : decode m_X12_yearGoes.2.1 35 = .ok (.ifCond .eq 7, 3) := by decide +kernel
theorem dd_X12_yearGoes_38 : decode m_X12_yearGoes.2.1 38 = .ok (.iconst 1, 1) := by decide +kernel
theorem dd_X12_yearGoes_39 : decode m_X12_yearGoes.2.1 39 = .ok (.goto 4, 3) := by decide +kernel
theorem dd_X12_yearGoes_42 : decode m_X12_yearGoes.2.1 42 = .ok (.iconst 0, 1) := by decide +kernel
theorem dd_X12_yearGoes_43 : decode m_X12_yearGoes.2.1 43 = .ok (.istore_n 3, 1) := by decide +kernel
theorem dd_X12_yearGoes_44 : decode m_X12_yearGoes.2.1 44 = .ok (.iload_n 3, 1) := by decide +kernel
theorem dd_X12_yearGoes_45 : decode m_X12_yearGoes.2.1 45 = .ok (.ifCond .eq 13, 3) := by decide +kernel
theorem dd_X12_yearGoes_48 : decode m_X12_yearGoes.2.1 48 = .ok (.aload_n 0, 1) := by decide +kernel
theorem dd_X12_yearGoes_49 : decode m_X12_yearGoes.2.1 49 = .ok (.dup, 1) := by decide +kernel
theorem dd_X12_yearGoes_50 : decode m_X12_yearGoes.2.1 50 = .ok (.getfield 490, 3) := by decide +kernel
theorem dd_X12_yearGoes_53 : decode m_X12_yearGoes.2.1 53 = .ok (.iconst 1, 1) := by decide +kernel
theorem dd_X12_yearGoes_54 : decode m_X12_yearGoes.2.1 54 = .ok (.iadd, 1) := by decide +kernel
theorem dd_X12_yearGoes_55 : decode m_X12_yearGoes.2.1 55 = .ok (.putfield 490, 3) := by decide +kernel
theorem dd_X12_yearGoes_58 : decode m_X12_yearGoes.2.1 58 = .ok (.aload_n 0, 1) := by decide +kernel
theorem dd_X12_yearGoes_59 : decode m_X12_yearGoes.2.1 59 = .ok (.iload_n 3, 1) := by decide +kernel
theorem dd_X12_yearGoes_60 : decode m_X12_yearGoes.2.1 60 = .ok (.ifCond .eq 7, 3) := by decide +kernel
theorem dd_X12_yearGoes_63 : decode m_X12_yearGoes.2.1 63 = .ok (.iload_n 1, 1) := by decide +kernel
theorem dd_X12_yearGoes_64 : decode m_X12_yearGoes.2.1 64 = .ok (.goto 4, 3) := by decide +kernel
theorem dd_X12_yearGoes_67 : decode m_X12_yearGoes.2.1 67 = .ok (.iconst (-1), 1) := by decide +kernel
theorem dd_X12_yearGoes_68 : decode m_X12_yearGoes.2.1 68 = .ok (.iload_n 3, 1) := by decide +kernel
theorem dd_X12_yearGoes_69 : decode m_X12_yearGoes.2.1 69 = .ok (.ifCond .eq 7, 3) := by decide +kernel
theorem dd_X12_yearGoes_72 : decode m_X12_yearGoes.2.1 72 = .ok (.iload_n 2, 1) := by decide +kernel
theorem dd_X12_yearGoes_73 : decode m_X12_yearGoes.2.1 73 = .ok (.goto 4, 3) := by decide +kernel
theorem dd_X12_yearGoes_76 : decode m_X12_yearGoes.2.1 76 = .ok (.iconst (-1), 1) := by decide +kernel
theorem dd_X12_yearGoes_77 : decode m_X12_yearGoes.2.1 77 = .ok (.iconst 0, 1) := by decide +kernel
theorem dd_X12_yearGoes_78 : decode m_X12_yearGoes.2.1 78 = .ok (.invokevirtual 493, 3) := by decide +kernel
theorem dd_X12_yearGoes_81 : decode m_X12_yearGoes.2.1 81 = .ok (.return_, 1) := by decide +kernel
def nd_X12_yearGoes_77   (Q : fz_s → Prop) (u0 : Int32) (u1 : Int32) (s : fz_s) : Prop :=
  wp_X12_yearWith u1 u0 false s (fun s2 => Q s2)
def nd_X12_yearGoes_68   (Q : fz_s → Prop) (v2 : Int32) (v3 : Bool) (u0 : Int32) (s : fz_s) : Prop :=
  ((v3 = false → nd_X12_yearGoes_77   Q (-1) u0 s) ∧ (v3 = true → nd_X12_yearGoes_77   Q v2 u0 s))
def nd_X12_yearGoes_58   (Q : fz_s → Prop) (v1 : Int32) (v2 : Int32) (v3 : Bool) (s : fz_s) : Prop :=
  ((v3 = false → nd_X12_yearGoes_68   Q v2 v3 (-1) s) ∧ (v3 = true → nd_X12_yearGoes_68   Q v2 v3 v1 s))
def nd_X12_yearGoes_43   (Q : fz_s → Prop) (v1 : Int32) (v2 : Int32) (u0 : Bool) (s : fz_s) : Prop :=
  ((u0 = false → nd_X12_yearGoes_58   Q v1 v2 u0 s) ∧ (u0 = true → ∀ s1 : fz_s, s1 = si s 196 59 ((s.1 196 59) + 1) → nd_X12_yearGoes_58   Q v1 v2 u0 s1))
def wp_X12_yearGoes  (s : fz_s) (Q : fz_s → Prop) : Prop :=
  wp_X12_sentOf 0 s (fun r1 s2 => wp_X12_sentOf 1 s2 (fun r3 s4 => ((r1 = (-1) → nd_X12_yearGoes_43   Q r1 r3 false s4) ∧ (¬ r1 = (-1) → ((r3 = (-1) → nd_X12_yearGoes_43   Q r1 r3 false s4) ∧ (¬ r3 = (-1) → wp_X12_doesPass r1 s4 (fun r5 s6 => ((r5 = false → nd_X12_yearGoes_43   Q r1 r3 false s6) ∧ (r5 = true → wp_X12_doesPass r3 s6 (fun r7 s8 => ((r7 = false → nd_X12_yearGoes_43   Q r1 r3 false s8) ∧ (r7 = true → nd_X12_yearGoes_43   Q r1 r3 true s8))))))))))))
set_option maxRecDepth 100000 in
set_option maxHeartbeats 4000000 in
theorem V_nd_X12_yearGoes_77 {g : fz_G} {l : Launch} {d : Nat} (hD : 8 ≤ d)    {Q : fz_s → Prop} {u0 : Int32} {u1 : Int32} {s : fz_s}  (H : nd_X12_yearGoes_77   Q u0 u1 s) : fs_V g l m_X12_yearGoes d false 77 [fz_J, fz_J, fz_J, fz_J] [.int u0, .int u1, .ref 196] s (rV Q) := by
  obtain ⟨d, rfl⟩ : ∃ e, d = e + 1 := ⟨d - 1, by omega⟩
  unfold nd_X12_yearGoes_77 at H
  refine fs_iconst (n := 0) (v := 0) dd_X12_yearGoes_77 (by decide) ?_
  refine fs_callV (y := m_X12_yearWith) (as := [.int u1, .int u0, .int 0]) dd_X12_yearGoes_78 me_X12_yearWith lk_X12_493 in_X12_yearWith se_X12_yearWith ca_196 rfl rfl rfl (Nat.le_of_ble_eq_true rfl) (Nat.le_of_ble_eq_true rfl) rfl (V_X12_yearWith (by omega)  H) (k2_V fun s2 H => ?_)
  exact fs_vret dd_X12_yearGoes_81 rfl H
set_option maxRecDepth 100000 in
set_option maxHeartbeats 4000000 in
theorem V_nd_X12_yearGoes_68 {g : fz_G} {l : Launch} {d : Nat} (hD : 8 ≤ d)    {Q : fz_s → Prop} {v2 : Int32} {v3 : Bool} {u0 : Int32} {s : fz_s}  (H : nd_X12_yearGoes_68   Q v2 v3 u0 s) : fs_V g l m_X12_yearGoes d false 68 [fz_J, fz_J, .int v2, .int (bi v3)] [.int u0, .ref 196] s (rV Q) := by
  obtain ⟨d, rfl⟩ : ∃ e, d = e + 1 := ⟨d - 1, by omega⟩
  unfold nd_X12_yearGoes_68 at H
  refine fs_iload_n (k0 := 3) (i := 3) dd_X12_yearGoes_68 rfl rfl ?_
  refine fs_if_eq (tgt := 76) dd_X12_yearGoes_69 (by decide) (fun hc => ?_) (fun hc => ?_)
  · replace H := H.1 (bi_0 hc)
    refine fs_iconst (n := -1) (v := -1) dd_X12_yearGoes_76 (by decide) ?_
    refine fs_weak (ls2 := [fz_J, fz_J, fz_J, fz_J]) (fz_le_j (fz_le_j (fz_le_j (fz_le_j fz_le_n)))) ?_
    exact V_nd_X12_yearGoes_77 hD    H
  · replace H := H.2 (bi_1 hc)
    refine fs_iload_n (k0 := 2) (i := 2) dd_X12_yearGoes_72 rfl rfl ?_
    refine fs_goto (tgt := 77) dd_X12_yearGoes_73 (by decide) ?_
    refine fs_weak (ls2 := [fz_J, fz_J, fz_J, fz_J]) (fz_le_j (fz_le_j (fz_le_j (fz_le_j fz_le_n)))) ?_
    exact V_nd_X12_yearGoes_77 hD    H
set_option maxRecDepth 100000 in
set_option maxHeartbeats 4000000 in
theorem V_nd_X12_yearGoes_58 {g : fz_G} {l : Launch} {d : Nat} (hD : 8 ≤ d)    {Q : fz_s → Prop} {v1 : Int32} {v2 : Int32} {v3 : Bool} {s : fz_s}  (H : nd_X12_yearGoes_58   Q v1 v2 v3 s) : fs_V g l m_X12_yearGoes d false 58 [.ref 196, .int v1, .int v2, .int (bi v3)] [] s (rV Q) := by
  obtain ⟨d, rfl⟩ : ∃ e, d = e + 1 := ⟨d - 1, by omega⟩
  unfold nd_X12_yearGoes_58 at H
  refine fs_aload_n (k0 := 0) (i := 0) dd_X12_yearGoes_58 rfl rfl ?_
  refine fs_iload_n (k0 := 3) (i := 3) dd_X12_yearGoes_59 rfl rfl ?_
  refine fs_if_eq (tgt := 67) dd_X12_yearGoes_60 (by decide) (fun hc => ?_) (fun hc => ?_)
  · replace H := H.1 (bi_0 hc)
    refine fs_iconst (n := -1) (v := -1) dd_X12_yearGoes_67 (by decide) ?_
    refine fs_weak (ls2 := [fz_J, fz_J, .int v2, .int (bi v3)]) (fz_le_j (fz_le_j (fz_le_e (fz_le_e fz_le_n)))) ?_
    exact V_nd_X12_yearGoes_68 hD    H
  · replace H := H.2 (bi_1 hc)
    refine fs_iload_n (k0 := 1) (i := 1) dd_X12_yearGoes_63 rfl rfl ?_
    refine fs_goto (tgt := 68) dd_X12_yearGoes_64 (by decide) ?_
    refine fs_weak (ls2 := [fz_J, fz_J, .int v2, .int (bi v3)]) (fz_le_j (fz_le_j (fz_le_e (fz_le_e fz_le_n)))) ?_
    exact V_nd_X12_yearGoes_68 hD    H
set_option maxRecDepth 100000 in
set_option maxHeartbeats 4000000 in
theorem V_nd_X12_yearGoes_43 {g : fz_G} {l : Launch} {d : Nat} (hD : 8 ≤ d)    {Q : fz_s → Prop} {v1 : Int32} {v2 : Int32} {u0 : Bool} {s : fz_s}  (H : nd_X12_yearGoes_43   Q v1 v2 u0 s) : fs_V g l m_X12_yearGoes d false 43 [.ref 196, .int v1, .int v2, fz_J] [.int (bi u0)] s (rV Q) := by
  obtain ⟨d, rfl⟩ : ∃ e, d = e + 1 := ⟨d - 1, by omega⟩
  unfold nd_X12_yearGoes_43 at H
  refine fs_istore_n (k0 := 3) (i := 3) dd_X12_yearGoes_43 rfl (by decide) ?_
  refine fs_iload_n (k0 := 3) (i := 3) dd_X12_yearGoes_44 rfl rfl ?_
  refine fs_if_eq (tgt := 58) dd_X12_yearGoes_45 (by decide) (fun hc => ?_) (fun hc => ?_)
  · replace H := H.1 (bi_0 hc)
    refine fs_weak (ls2 := [.ref 196, .int v1, .int v2, .int (bi u0)]) (fz_le_e (fz_le_e (fz_le_e (fz_le_e fz_le_n)))) ?_
    exact V_nd_X12_yearGoes_58 hD    H
  · replace H := H.2 (bi_1 hc)
    refine fs_aload_n (k0 := 0) (i := 0) dd_X12_yearGoes_48 rfl rfl ?_
    refine fs_dup dd_X12_yearGoes_49 rfl ?_
    refine fs_geti (ci := 12) (j := 59) dd_X12_yearGoes_50 fl_X12_490 ca_196 rfl (Or.inl rfl) ?_
    refine fs_iconst (n := 1) (v := 1) dd_X12_yearGoes_53 (by decide) ?_
    refine fs_iadd dd_X12_yearGoes_54 ?_
    refine fs_puti (ci := 12) (j := 59) dd_X12_yearGoes_55 fl_X12_490 (fun _ _ _ h => by cases h; rfl) ca_196 rfl (Or.inl rfl) ?_
    refine fs_tops (fun s1 hs1 => ?_)
    replace H := H s1 hs1
    refine fs_weak (ls2 := [.ref 196, .int v1, .int v2, .int (bi u0)]) (fz_le_e (fz_le_e (fz_le_e (fz_le_e fz_le_n)))) ?_
    exact V_nd_X12_yearGoes_58 hD    H
set_option maxRecDepth 100000 in
set_option maxHeartbeats 4000000 in
theorem V_X12_yearGoes {g : fz_G} {l : Launch} {d : Nat} (hD : 8 ≤ d)   {s : fz_s} {Q : fz_s → Prop} (H : wp_X12_yearGoes  s Q) : fs_V g l m_X12_yearGoes d false 0 (fz_en [.ref 196] 4) [] s (rV Q) := by
  obtain ⟨d, rfl⟩ : ∃ e, d = e + 1 := ⟨d - 1, by omega⟩
  unfold wp_X12_yearGoes at H
  refine fs_aload_n (k0 := 0) (i := 0) dd_X12_yearGoes_0 rfl rfl ?_
  refine fs_iconst (n := 0) (v := 0) dd_X12_yearGoes_1 (by decide) ?_
  refine fs_callV (y := m_X12_sentOf) (as := [.int 0]) dd_X12_yearGoes_2 me_X12_sentOf lk_X12_484 in_X12_sentOf se_X12_sentOf ca_196 rfl rfl rfl (Nat.le_of_ble_eq_true rfl) (Nat.le_of_ble_eq_true rfl) rfl (V_X12_sentOf (by omega)  H) (k2_I fun r1 s2 H => ?_)
  refine fs_istore_n (k0 := 1) (i := 1) dd_X12_yearGoes_5 rfl (by decide) ?_
  refine fs_aload_n (k0 := 0) (i := 0) dd_X12_yearGoes_6 rfl rfl ?_
  refine fs_iconst (n := 1) (v := 1) dd_X12_yearGoes_7 (by decide) ?_
  refine fs_callV (y := m_X12_sentOf) (as := [.int 1]) dd_X12_yearGoes_8 me_X12_sentOf lk_X12_484 in_X12_sentOf se_X12_sentOf ca_196 rfl rfl rfl (Nat.le_of_ble_eq_true rfl) (Nat.le_of_ble_eq_true rfl) rfl (V_X12_sentOf (by omega)  H) (k2_I fun r3 s4 H => ?_)
  refine fs_istore_n (k0 := 2) (i := 2) dd_X12_yearGoes_11 rfl (by decide) ?_
  refine fs_iload_n (k0 := 1) (i := 1) dd_X12_yearGoes_12 rfl rfl ?_
  refine fs_iconst (n := -1) (v := -1) dd_X12_yearGoes_13 (by decide) ?_
  refine fs_icmp_eq (tgt := 42) dd_X12_yearGoes_14 (by decide) (fun hc => ?_) (fun hc => ?_)
  · replace H := H.1 hc
    refine fs_iconst (n := 0) (v := 0) dd_X12_yearGoes_42 (by decide) ?_
    refine fs_weak (ls2 := [.ref 196, .int r1, .int r3, fz_J]) (fz_le_e (fz_le_e (fz_le_e (fz_le_j fz_le_n)))) ?_
    exact V_nd_X12_yearGoes_43 hD    H
  · replace H := H.2 hc
    refine fs_iload_n (k0 := 2) (i := 2) dd_X12_yearGoes_17 rfl rfl ?_
    refine fs_iconst (n := -1) (v := -1) dd_X12_yearGoes_18 (by decide) ?_
    refine fs_icmp_eq (tgt := 42) dd_X12_yearGoes_19 (by decide) (fun hc => ?_) (fun hc => ?_)
    · replace H := H.1 hc
      refine fs_iconst (n := 0) (v := 0) dd_X12_yearGoes_42 (by decide) ?_
      refine fs_weak (ls2 := [.ref 196, .int r1, .int r3, fz_J]) (fz_le_e (fz_le_e (fz_le_e (fz_le_j fz_le_n)))) ?_
      exact V_nd_X12_yearGoes_43 hD    H
    · replace H := H.2 hc
      refine fs_aload_n (k0 := 0) (i := 0) dd_X12_yearGoes_22 rfl rfl ?_
      refine fs_iload_n (k0 := 1) (i := 1) dd_X12_yearGoes_23 rfl rfl ?_
      refine fs_callV (y := m_X12_doesPass) (as := [.int r1]) dd_X12_yearGoes_24 me_X12_doesPass lk_X12_487 in_X12_doesPass se_X12_doesPass ca_196 rfl rfl rfl (Nat.le_of_ble_eq_true rfl) (Nat.le_of_ble_eq_true rfl) rfl (V_X12_doesPass (by omega)  H) (k2_Z fun r5 s6 H => ?_)
      refine fs_if_eq (tgt := 42) dd_X12_yearGoes_27 (by decide) (fun hc => ?_) (fun hc => ?_)
      · replace H := H.1 (bi_0 hc)
        refine fs_iconst (n := 0) (v := 0) dd_X12_yearGoes_42 (by decide) ?_
        refine fs_weak (ls2 := [.ref 196, .int r1, .int r3, fz_J]) (fz_le_e (fz_le_e (fz_le_e (fz_le_j fz_le_n)))) ?_
        exact V_nd_X12_yearGoes_43 hD    H
      · replace H := H.2 (bi_1 hc)
        refine fs_aload_n (k0 := 0) (i := 0) dd_X12_yearGoes_30 rfl rfl ?_
        refine fs_iload_n (k0 := 2) (i := 2) dd_X12_yearGoes_31 rfl rfl ?_
        refine fs_callV (y := m_X12_doesPass) (as := [.int r3]) dd_X12_yearGoes_32 me_X12_doesPass lk_X12_487 in_X12_doesPass se_X12_doesPass ca_196 rfl rfl rfl (Nat.le_of_ble_eq_true rfl) (Nat.le_of_ble_eq_true rfl) rfl (V_X12_doesPass (by omega)  H) (k2_Z fun r7 s8 H => ?_)
        refine fs_if_eq (tgt := 42) dd_X12_yearGoes_35 (by decide) (fun hc => ?_) (fun hc => ?_)
        · replace H := H.1 (bi_0 hc)
          refine fs_iconst (n := 0) (v := 0) dd_X12_yearGoes_42 (by decide) ?_
          refine fs_weak (ls2 := [.ref 196, .int r1, .int r3, fz_J]) (fz_le_e (fz_le_e (fz_le_e (fz_le_j fz_le_n)))) ?_
          exact V_nd_X12_yearGoes_43 hD    H
        · replace H := H.2 (bi_1 hc)
          refine fs_iconst (n := 1) (v := 1) dd_X12_yearGoes_38 (by decide) ?_
          refine fs_goto (tgt := 43) dd_X12_yearGoes_39 (by decide) ?_
          refine fs_weak (ls2 := [.ref 196, .int r1, .int r3, fz_J]) (fz_le_e (fz_le_e (fz_le_e (fz_le_j fz_le_n)))) ?_
          exact V_nd_X12_yearGoes_43 hD    H
theorem dd_X12_yearsGo_0 : decode m_X12_yearsGo.2.1 0 = .ok (.iconst 0, 1) := by decide +kernel
theorem dd_X12_yearsGo_1 : decode m_X12_yearsGo.2.1 1 = .ok (.istore_n 2, 1) := by decide +kernel
theorem dd_X12_yearsGo_2 : decode m_X12_yearsGo.2.1 2 = .ok (.iload_n 2, 1) := by decide +kernel
theorem dd_X12_yearsGo_3 : decode m_X12_yearsGo.2.1 3 = .ok (.iload_n 1, 1) := by decide +kernel
theorem dd_X12_yearsGo_4 : decode m_X12_yearsGo.2.1 4 = .ok (.if_icmp .ge 13, 3) := by decide +kernel
theorem dd_X12_yearsGo_7 : decode m_X12_yearsGo.2.1 7 = .ok (.aload_n 0, 1) := by decide +kernel
theorem dd_X12_yearsGo_8 : decode m_X12_yearsGo.2.1 8 = .ok (.invokevirtual 497, 3) := by decide +kernel
theorem dd_X12_yearsGo_11 : decode m_X12_yearsGo.2.1 11 = .ok (.iinc 2 1, 3) := by decide +kernel
theorem dd_X12_yearsGo_14 : decode m_X12_yearsGo.2.1 14 = .ok (.goto (-12), 3) := by decide +kernel
theorem dd_X12_yearsGo_17 : decode m_X12_yearsGo.2.1 17 = .ok (.return_, 1) := by decide +kernel
def nd_X12_yearsGo_2  (K2 : Int32 → Int32 → fz_s → Prop) (Q : fz_s → Prop) (v1 : Int32) (v2 : Int32) (s : fz_s) : Prop :=
  ((v1 ≤ v2 → Q s) ∧ (¬ v1 ≤ v2 → wp_X12_yearGoes  s (fun s2 => ∀ x3 : Int32, x3 = v2 + 1 → K2 v1 x3 s2)))
def lp_X12_yearsGo_2   (Q : fz_s → Prop) : Nat → Int32 → Int32 → fz_s → Prop
  | 0 => fun _ _ _ => False
  | n + 1 => nd_X12_yearsGo_2  (lp_X12_yearsGo_2   Q n) Q
def wp_X12_yearsGo (p0 : Int32) (s : fz_s) (Q : fz_s → Prop) : Prop :=
  lp_X12_yearsGo_2   Q 2048 p0 0 s
set_option maxRecDepth 100000 in
set_option maxHeartbeats 4000000 in
theorem V_nd_X12_yearsGo_2 {g : fz_G} {l : Launch} {d : Nat} (hD : 9 ≤ d)   {K2 : Int32 → Int32 → fz_s → Prop} {Q : fz_s → Prop} {v1 : Int32} {v2 : Int32} {s : fz_s} (hK2 : ∀ {v1 : Int32} {v2 : Int32} {s : fz_s}, K2 v1 v2 s → fs_V g l m_X12_yearsGo d false 2 [.ref 196, .int v1, .int v2] [] s (rV Q)) (H : nd_X12_yearsGo_2  K2 Q v1 v2 s) : fs_V g l m_X12_yearsGo d false 2 [.ref 196, .int v1, .int v2] [] s (rV Q) := by
  obtain ⟨d, rfl⟩ : ∃ e, d = e + 1 := ⟨d - 1, by omega⟩
  unfold nd_X12_yearsGo_2 at H
  refine fs_iload_n (k0 := 2) (i := 2) dd_X12_yearsGo_2 rfl rfl ?_
  refine fs_iload_n (k0 := 1) (i := 1) dd_X12_yearsGo_3 rfl rfl ?_
  refine fs_icmp_ge (tgt := 17) dd_X12_yearsGo_4 (by decide) (fun hc => ?_) (fun hc => ?_)
  · replace H := H.1 hc
    exact fs_vret dd_X12_yearsGo_17 rfl H
  · replace H := H.2 hc
    refine fs_aload_n (k0 := 0) (i := 0) dd_X12_yearsGo_7 rfl rfl ?_
    refine fs_callV (y := m_X12_yearGoes) (as := []) dd_X12_yearsGo_8 me_X12_yearGoes lk_X12_497 in_X12_yearGoes se_X12_yearGoes ca_196 rfl rfl rfl (Nat.le_of_ble_eq_true rfl) (Nat.le_of_ble_eq_true rfl) rfl (V_X12_yearGoes (by omega)  H) (k2_V fun s2 H => ?_)
    refine fs_iincN (i := 2) (m := 1) (c := 1) dd_X12_yearsGo_11 rfl (by decide) (by decide) (fun x3 hx3 => ?_)
    replace H := H x3 hx3
    refine fs_goto (tgt := 2) dd_X12_yearsGo_14 (by decide) ?_
    refine fs_weak (ls2 := [.ref 196, .int v1, .int x3]) (fz_le_e (fz_le_e (fz_le_e fz_le_n))) ?_
    exact hK2 H
set_option maxRecDepth 100000 in
set_option maxHeartbeats 4000000 in
theorem V_lp_X12_yearsGo_2 {g : fz_G} {l : Launch} {d : Nat} (hD : 9 ≤ d)    {Q : fz_s → Prop}  (n : Nat) : ∀ {v1 : Int32} {v2 : Int32} {s : fz_s}, lp_X12_yearsGo_2   Q n v1 v2 s → fs_V g l m_X12_yearsGo d false 2 [.ref 196, .int v1, .int v2] [] s (rV Q) := by
  induction n with
  | zero => intro v1 v2 s H; exact H.elim
  | succ n ih => intro v1 v2 s H; exact V_nd_X12_yearsGo_2 hD  (fun H => ih H) H
set_option maxRecDepth 100000 in
set_option maxHeartbeats 4000000 in
theorem V_X12_yearsGo {g : fz_G} {l : Launch} {d : Nat} (hD : 9 ≤ d) {p0 : Int32}  {s : fz_s} {Q : fz_s → Prop} (H : wp_X12_yearsGo p0 s Q) : fs_V g l m_X12_yearsGo d false 0 (fz_en [.ref 196, .int p0] 3) [] s (rV Q) := by
  obtain ⟨d, rfl⟩ : ∃ e, d = e + 1 := ⟨d - 1, by omega⟩
  unfold wp_X12_yearsGo at H
  refine fs_iconst (n := 0) (v := 0) dd_X12_yearsGo_0 (by decide) ?_
  refine fs_istore_n (k0 := 2) (i := 2) dd_X12_yearsGo_1 rfl (by decide) ?_
  refine fs_weak (ls2 := [.ref 196, .int p0, .int 0]) (fz_le_e (fz_le_e (fz_le_e fz_le_n))) ?_
  exact V_lp_X12_yearsGo_2 hD    2048 H
theorem dd_X12_putsAside_0 : decode m_X12_putsAside.2.1 0 = .ok (.aload_n 0, 1) := by decide +kernel
theorem dd_X12_putsAside_1 : decode m_X12_putsAside.2.1 1 = .ok (.iconst 1, 1) := by decide +kernel
theorem dd_X12_putsAside_2 : decode m_X12_putsAside.2.1 2 = .ok (.putfield 453, 3) := by decide +kernel
theorem dd_X12_putsAside_5 : decode m_X12_putsAside.2.1 5 = .ok (.iconst 0, 1) := by decide +kernel
theorem dd_X12_putsAside_6 : decode m_X12_putsAside.2.1 6 = .ok (.istore_n 1, 1) := by decide +kernel
theorem dd_X12_putsAside_7 : decode m_X12_putsAside.2.1 7 = .ok (.iload_n 1, 1) := by decide +kernel
theorem dd_X12_putsAside_8 : decode m_X12_putsAside.2.1 8 = .ok (.bipush 29, 2) := by decide +kernel
theorem dd_X12_putsAside_10 : decode m_X12_putsAside.2.1 10 = .ok (.if_icmp .ge 21, 3) := by decide +kernel
theorem dd_X12_putsAside_13 : decode m_X12_putsAside.2.1 13 = .ok (.aload_n 0, 1) := by decide +kernel
theorem dd_X12_putsAside_14 : decode m_X12_putsAside.2.1 14 = .ok (.getfield 124, 3) := by decide +kernel
theorem dd_X12_putsAside_17 : decode m_X12_putsAside.2.1 17 = .ok (.iload_n 1, 1) := by decide +kernel
theorem dd_X12_putsAside_18 : decode m_X12_putsAside.2.1 18 = .ok (.aload_n 0, 1) := by decide +kernel
theorem dd_X12_putsAside_19 : decode m_X12_putsAside.2.1 19 = .ok (.getfield 121, 3) := by decide +kernel
theorem dd_X12_putsAside_22 : decode m_X12_putsAside.2.1 22 = .ok (.iload_n 1, 1) := by decide +kernel
theorem dd_X12_putsAside_23 : decode m_X12_putsAside.2.1 23 = .ok (.iaload, 1) := by decide +kernel
theorem dd_X12_putsAside_24 : decode m_X12_putsAside.2.1 24 = .ok (.iastore, 1) := by decide +kernel
theorem dd_X12_putsAside_25 : decode m_X12_putsAside.2.1 25 = .ok (.iinc 1 1, 3) := by decide +kernel
theorem dd_X12_putsAside_28 : decode m_X12_putsAside.2.1 28 = .ok (.goto (-21), 3) := by decide +kernel
theorem dd_X12_putsAside_31 : decode m_X12_putsAside.2.1 31 = .ok (.return_, 1) := by decide +kernel
def nd_X12_putsAside_7  (K7 : Int32 → fz_s → Prop) (Q : fz_s → Prop) (v1 : Int32) (s : fz_s) : Prop :=
  ((29 ≤ v1 → Q s) ∧ (¬ 29 ≤ v1 → vp_in v1 150 ∧ vp_in v1 29 ∧ ∀ s1 : fz_s, s1 = si s 233 v1.toNatClampNeg (s.1 232 v1.toNatClampNeg) → ∀ x2 : Int32, x2 = v1 + 1 → K7 x2 s1))
def lp_X12_putsAside_7   (Q : fz_s → Prop) : Nat → Int32 → fz_s → Prop
  | 0 => fun _ _ => False
  | n + 1 => nd_X12_putsAside_7  (lp_X12_putsAside_7   Q n) Q
def wp_X12_putsAside  (s : fz_s) (Q : fz_s → Prop) : Prop :=
  ∀ s1 : fz_s, s1 = si s 196 58 1 → lp_X12_putsAside_7   Q 2048 0 s1
set_option maxRecDepth 100000 in
set_option maxHeartbeats 4000000 in
theorem V_nd_X12_putsAside_7 {g : fz_G} {l : Launch} {d : Nat} (hD : 0 ≤ d)   {K7 : Int32 → fz_s → Prop} {Q : fz_s → Prop} {v1 : Int32} {s : fz_s} (hK7 : ∀ {v1 : Int32} {s : fz_s}, K7 v1 s → fs_V g l m_X12_putsAside d false 7 [.ref 196, .int v1] [] s (rV Q)) (H : nd_X12_putsAside_7  K7 Q v1 s) : fs_V g l m_X12_putsAside d false 7 [.ref 196, .int v1] [] s (rV Q) := by
  unfold nd_X12_putsAside_7 at H
  refine fs_iload_n (k0 := 1) (i := 1) dd_X12_putsAside_7 rfl rfl ?_
  refine fs_bipush (n := 29) (v := 29) dd_X12_putsAside_8 (by decide) ?_
  refine fs_icmp_ge (tgt := 31) dd_X12_putsAside_10 (by decide) (fun hc => ?_) (fun hc => ?_)
  · replace H := H.1 hc
    exact fs_vret dd_X12_putsAside_31 rfl H
  · replace H := H.2 hc
    refine fs_aload_n (k0 := 0) (i := 0) dd_X12_putsAside_13 rfl rfl ?_
    refine fs_getr (ci := 12) (j := 55) (q := 233) dd_X12_putsAside_14 fl_X12_124 ca_196 rfl (Or.inr ⟨_, rfl⟩) rfl (by decide) ?_
    refine fs_iload_n (k0 := 1) (i := 1) dd_X12_putsAside_17 rfl rfl ?_
    refine fs_aload_n (k0 := 0) (i := 0) dd_X12_putsAside_18 rfl rfl ?_
    refine fs_getr (ci := 12) (j := 54) (q := 232) dd_X12_putsAside_19 fl_X12_121 ca_196 rfl (Or.inr ⟨_, rfl⟩) rfl (by decide) ?_
    refine fs_iload_n (k0 := 1) (i := 1) dd_X12_putsAside_22 rfl rfl ?_
    have hb := H.1
    replace H := H.2
    refine fs_iald dd_X12_putsAside_23 ca_232 hb ?_
    have hb := H.1
    replace H := H.2
    refine fs_iast dd_X12_putsAside_24 ca_233 hb ?_
    refine fs_tops (fun s1 hs1 => ?_)
    replace H := H s1 hs1
    refine fs_iincN (i := 1) (m := 1) (c := 1) dd_X12_putsAside_25 rfl (by decide) (by decide) (fun x2 hx2 => ?_)
    replace H := H x2 hx2
    refine fs_goto (tgt := 7) dd_X12_putsAside_28 (by decide) ?_
    refine fs_weak (ls2 := [.ref 196, .int x2]) (fz_le_e (fz_le_e fz_le_n)) ?_
    exact hK7 H
set_option maxRecDepth 100000 in
set_option maxHeartbeats 4000000 in
theorem V_lp_X12_putsAside_7 {g : fz_G} {l : Launch} {d : Nat} (hD : 0 ≤ d)    {Q : fz_s → Prop}  (n : Nat) : ∀ {v1 : Int32} {s : fz_s}, lp_X12_putsAside_7   Q n v1 s → fs_V g l m_X12_putsAside d false 7 [.ref 196, .int v1] [] s (rV Q) := by
  induction n with
  | zero => intro v1 s H; exact H.elim
  | succ n ih => intro v1 s H; exact V_nd_X12_putsAside_7 hD  (fun H => ih H) H
set_option maxRecDepth 100000 in
set_option maxHeartbeats 4000000 in
theorem V_X12_putsAside {g : fz_G} {l : Launch} {d : Nat} (hD : 0 ≤ d)   {s : fz_s} {Q : fz_s → Prop} (H : wp_X12_putsAside  s Q) : fs_V g l m_X12_putsAside d false 0 (fz_en [.ref 196] 2) [] s (rV Q) := by
  unfold wp_X12_putsAside at H
  refine fs_aload_n (k0 := 0) (i := 0) dd_X12_putsAside_0 rfl rfl ?_
  refine fs_iconst (n := 1) (v := 1) dd_X12_putsAside_1 (by decide) ?_
  refine fs_puti (ci := 12) (j := 58) dd_X12_putsAside_2 fl_X12_453 (fun _ _ _ h => by cases h; rfl) ca_196 rfl (Or.inr ⟨rfl, Or.inr rfl⟩) ?_
  refine fs_tops (fun s1 hs1 => ?_)
  replace H := H s1 hs1
  refine fs_iconst (n := 0) (v := 0) dd_X12_putsAside_5 (by decide) ?_
  refine fs_istore_n (k0 := 1) (i := 1) dd_X12_putsAside_6 rfl (by decide) ?_
  refine fs_weak (ls2 := [.ref 196, .int 0]) (fz_le_e (fz_le_e fz_le_n)) ?_
  exact V_lp_X12_putsAside_7 hD    2048 H
theorem dd_X12_triesAnew_0 : decode m_X12_triesAnew.2.1 0 = .ok (.iconst 0, 1) := by decide +kernel
theorem dd_X12_triesAnew_1 : decode m_X12_triesAnew.2.1 1 = .ok (.istore_n 1, 1) := by decide +kernel
theorem dd_X12_triesAnew_2 : decode m_X12_triesAnew.2.1 2 = .ok (.iload_n 1, 1) := by decide +kernel
theorem dd_X12_triesAnew_3 : decode m_X12_triesAnew.2.1 3 = .ok (.bipush 29, 2) := by decide +kernel
theorem dd_X12_triesAnew_5 : decode m_X12_triesAnew.2.1 5 = .ok (.if_icmp .ge 21, 3) := by decide +kernel
theorem dd_X12_triesAnew_8 : decode m_X12_triesAnew.2.1 8 = .ok (.aload_n 0, 1) := by decide +kernel
theorem dd_X12_triesAnew_9 : decode m_X12_triesAnew.2.1 9 = .ok (.getfield 121, 3) := by decide +kernel
theorem dd_X12_triesAnew_12 : decode m_X12_triesAnew.2.1 12 = .ok (.iload_n 1, 1) := by decide +kernel
theorem dd_X12_triesAnew_13 : decode m_X12_triesAnew.2.1 13 = .ok (.aload_n 0, 1) := by decide +kernel
theorem dd_X12_triesAnew_14 : decode m_X12_triesAnew.2.1 14 = .ok (.getfield 124, 3) := by decide +kernel
theorem dd_X12_triesAnew_17 : decode m_X12_triesAnew.2.1 17 = .ok (.iload_n 1, 1) := by decide +kernel
theorem dd_X12_triesAnew_18 : decode m_X12_triesAnew.2.1 18 = .ok (.iaload, 1) := by decide +kernel
theorem dd_X12_triesAnew_19 : decode m_X12_triesAnew.2.1 19 = .ok (.iastore, 1) := by decide +kernel
theorem dd_X12_triesAnew_20 : decode m_X12_triesAnew.2.1 20 = .ok (.iinc 1 1, 3) := by decide +kernel
theorem dd_X12_triesAnew_23 : decode m_X12_triesAnew.2.1 23 = .ok (.goto (-21), 3) := by decide +kernel
theorem dd_X12_triesAnew_26 : decode m_X12_triesAnew.2.1 26 = .ok (.return_, 1) := by decide +kernel
def nd_X12_triesAnew_2  (K2 : Int32 → fz_s → Prop) (Q : fz_s → Prop) (v1 : Int32) (s : fz_s) : Prop :=
  ((29 ≤ v1 → Q s) ∧ (¬ 29 ≤ v1 → vp_in v1 29 ∧ vp_in v1 150 ∧ ∀ s1 : fz_s, s1 = si s 232 v1.toNatClampNeg (s.1 233 v1.toNatClampNeg) → ∀ x2 : Int32, x2 = v1 + 1 → K2 x2 s1))
def lp_X12_triesAnew_2   (Q : fz_s → Prop) : Nat → Int32 → fz_s → Prop
  | 0 => fun _ _ => False
  | n + 1 => nd_X12_triesAnew_2  (lp_X12_triesAnew_2   Q n) Q
def wp_X12_triesAnew  (s : fz_s) (Q : fz_s → Prop) : Prop :=
  lp_X12_triesAnew_2   Q 2048 0 s
set_option maxRecDepth 100000 in
set_option maxHeartbeats 4000000 in
theorem V_nd_X12_triesAnew_2 {g : fz_G} {l : Launch} {d : Nat} (hD : 0 ≤ d)   {K2 : Int32 → fz_s → Prop} {Q : fz_s → Prop} {v1 : Int32} {s : fz_s} (hK2 : ∀ {v1 : Int32} {s : fz_s}, K2 v1 s → fs_V g l m_X12_triesAnew d false 2 [.ref 196, .int v1] [] s (rV Q)) (H : nd_X12_triesAnew_2  K2 Q v1 s) : fs_V g l m_X12_triesAnew d false 2 [.ref 196, .int v1] [] s (rV Q) := by
  unfold nd_X12_triesAnew_2 at H
  refine fs_iload_n (k0 := 1) (i := 1) dd_X12_triesAnew_2 rfl rfl ?_
  refine fs_bipush (n := 29) (v := 29) dd_X12_triesAnew_3 (by decide) ?_
  refine fs_icmp_ge (tgt := 26) dd_X12_triesAnew_5 (by decide) (fun hc => ?_) (fun hc => ?_)
  · replace H := H.1 hc
    exact fs_vret dd_X12_triesAnew_26 rfl H
  · replace H := H.2 hc
    refine fs_aload_n (k0 := 0) (i := 0) dd_X12_triesAnew_8 rfl rfl ?_
    refine fs_getr (ci := 12) (j := 54) (q := 232) dd_X12_triesAnew_9 fl_X12_121 ca_196 rfl (Or.inr ⟨_, rfl⟩) rfl (by decide) ?_
    refine fs_iload_n (k0 := 1) (i := 1) dd_X12_triesAnew_12 rfl rfl ?_
    refine fs_aload_n (k0 := 0) (i := 0) dd_X12_triesAnew_13 rfl rfl ?_
    refine fs_getr (ci := 12) (j := 55) (q := 233) dd_X12_triesAnew_14 fl_X12_124 ca_196 rfl (Or.inr ⟨_, rfl⟩) rfl (by decide) ?_
    refine fs_iload_n (k0 := 1) (i := 1) dd_X12_triesAnew_17 rfl rfl ?_
    have hb := H.1
    replace H := H.2
    refine fs_iald dd_X12_triesAnew_18 ca_233 hb ?_
    have hb := H.1
    replace H := H.2
    refine fs_iast dd_X12_triesAnew_19 ca_232 hb ?_
    refine fs_tops (fun s1 hs1 => ?_)
    replace H := H s1 hs1
    refine fs_iincN (i := 1) (m := 1) (c := 1) dd_X12_triesAnew_20 rfl (by decide) (by decide) (fun x2 hx2 => ?_)
    replace H := H x2 hx2
    refine fs_goto (tgt := 2) dd_X12_triesAnew_23 (by decide) ?_
    refine fs_weak (ls2 := [.ref 196, .int x2]) (fz_le_e (fz_le_e fz_le_n)) ?_
    exact hK2 H
set_option maxRecDepth 100000 in
set_option maxHeartbeats 4000000 in
theorem V_lp_X12_triesAnew_2 {g : fz_G} {l : Launch} {d : Nat} (hD : 0 ≤ d)    {Q : fz_s → Prop}  (n : Nat) : ∀ {v1 : Int32} {s : fz_s}, lp_X12_triesAnew_2   Q n v1 s → fs_V g l m_X12_triesAnew d false 2 [.ref 196, .int v1] [] s (rV Q) := by
  induction n with
  | zero => intro v1 s H; exact H.elim
  | succ n ih => intro v1 s H; exact V_nd_X12_triesAnew_2 hD  (fun H => ih H) H
set_option maxRecDepth 100000 in
set_option maxHeartbeats 4000000 in
theorem V_X12_triesAnew {g : fz_G} {l : Launch} {d : Nat} (hD : 0 ≤ d)   {s : fz_s} {Q : fz_s → Prop} (H : wp_X12_triesAnew  s Q) : fs_V g l m_X12_triesAnew d false 0 (fz_en [.ref 196] 2) [] s (rV Q) := by
  unfold wp_X12_triesAnew at H
  refine fs_iconst (n := 0) (v := 0) dd_X12_triesAnew_0 (by decide) ?_
  refine fs_istore_n (k0 := 1) (i := 1) dd_X12_triesAnew_1 rfl (by decide) ?_
  refine fs_weak (ls2 := [.ref 196, .int 0]) (fz_le_e (fz_le_e fz_le_n)) ?_
  exact V_lp_X12_triesAnew_2 hD    2048 H
theorem dd_X12_takesBack_0 : decode m_X12_takesBack.2.1 0 = .ok (.aload_n 0, 1) := by decide +kernel
theorem dd_X12_takesBack_1 : decode m_X12_takesBack.2.1 1 = .ok (.invokevirtual 500, 3) := by decide +kernel
theorem dd_X12_takesBack_4 : decode m_X12_takesBack.2.1 4 = .ok (.aload_n 0, 1) := by decide +kernel
theorem dd_X12_takesBack_5 : decode m_X12_takesBack.2.1 5 = .ok (.iconst 0, 1) := by decide +kernel
theorem dd_X12_takesBack_6 : decode m_X12_takesBack.2.1 6 = .ok (.putfield 453, 3) := by decide +kernel
theorem dd_X12_takesBack_9 : decode m_X12_takesBack.2.1 9 = .ok (.return_, 1) := by decide +kernel
def wp_X12_takesBack  (s : fz_s) (Q : fz_s → Prop) : Prop :=
  wp_X12_triesAnew  s (fun s2 => ∀ s3 : fz_s, s3 = si s2 196 58 0 → Q s3)
set_option maxRecDepth 100000 in
set_option maxHeartbeats 4000000 in
theorem V_X12_takesBack {g : fz_G} {l : Launch} {d : Nat} (hD : 1 ≤ d)   {s : fz_s} {Q : fz_s → Prop} (H : wp_X12_takesBack  s Q) : fs_V g l m_X12_takesBack d false 0 (fz_en [.ref 196] 1) [] s (rV Q) := by
  obtain ⟨d, rfl⟩ : ∃ e, d = e + 1 := ⟨d - 1, by omega⟩
  unfold wp_X12_takesBack at H
  refine fs_aload_n (k0 := 0) (i := 0) dd_X12_takesBack_0 rfl rfl ?_
  refine fs_callV (y := m_X12_triesAnew) (as := []) dd_X12_takesBack_1 me_X12_triesAnew lk_X12_500 in_X12_triesAnew se_X12_triesAnew ca_196 rfl rfl rfl (Nat.le_of_ble_eq_true rfl) (Nat.le_of_ble_eq_true rfl) rfl (V_X12_triesAnew (by omega)  H) (k2_V fun s2 H => ?_)
  refine fs_aload_n (k0 := 0) (i := 0) dd_X12_takesBack_4 rfl rfl ?_
  refine fs_iconst (n := 0) (v := 0) dd_X12_takesBack_5 (by decide) ?_
  refine fs_puti (ci := 12) (j := 58) dd_X12_takesBack_6 fl_X12_453 (fun _ _ _ h => by cases h; rfl) ca_196 rfl (Or.inr ⟨rfl, Or.inl rfl⟩) ?_
  refine fs_tops (fun s3 hs3 => ?_)
  replace H := H s3 hs3
  exact fs_vret dd_X12_takesBack_9 rfl H
theorem dd_X12_isAhead_0 : decode m_X12_isAhead.2.1 0 = .ok (.aload_n 0, 1) := by decide +kernel
theorem dd_X12_isAhead_1 : decode m_X12_isAhead.2.1 1 = .ok (.getfield 386, 3) := by decide +kernel
theorem dd_X12_isAhead_4 : decode m_X12_isAhead.2.1 4 = .ok (.ifCond .eq 33, 3) := by decide +kernel
theorem dd_X12_isAhead_7 : decode m_X12_isAhead.2.1 7 = .ok (.iload_n 1, 1) := by decide +kernel
theorem dd_X12_isAhead_8 : decode m_X12_isAhead.2.1 8 = .ok (.i2l, 1) := by decide +kernel
theorem dd_X12_isAhead_9 : decode m_X12_isAhead.2.1 9 = .ok (.iload_n 2, 1) := by decide +kernel
theorem dd_X12_isAhead_10 : decode m_X12_isAhead.2.1 10 = .ok (.i2l, 1) := by decide +kernel
theorem dd_X12_isAhead_11 : decode m_X12_isAhead.2.1 11 = .ok (.iload_n 3, 1) := by decide +kernel
theorem dd_X12_isAhead_12 : decode m_X12_isAhead.2.1 12 = .ok (.i2l, 1) := by decide +kernel
theorem dd_X12_isAhead_13 : decode m_X12_isAhead.2.1 13 = .ok (.invokestatic 295, 3) := by decide +kernel
theorem dd_X12_isAhead_16 : decode m_X12_isAhead.2.1 16 = .ok (.ifCond .eq 21, 3) := by decide +kernel
theorem dd_X12_isAhead_19 : decode m_X12_isAhead.2.1 19 = .ok (.aload_n 0, 1) := by decide +kernel
theorem dd_X12_isAhead_20 : decode m_X12_isAhead.2.1 20 = .ok (.getfield 121, 3) := by decide +kernel
theorem dd_X12_isAhead_23 : decode m_X12_isAhead.2.1 23 = .ok (.iconst 0, 1) := by decide +kernel
theorem dd_X12_isAhead_24 : decode m_X12_isAhead.2.1 24 = .ok (.iaload, 1) := by decide +kernel
theorem dd_X12_isAhead_25 : decode m_X12_isAhead.2.1 25 = .ok (.iload_n 1, 1) := by decide +kernel
theorem dd_X12_isAhead_26 : decode m_X12_isAhead.2.1 26 = .ok (.iadd, 1) := by decide +kernel
theorem dd_X12_isAhead_27 : decode m_X12_isAhead.2.1 27 = .ok (.sipush 999, 3) := by decide +kernel
theorem dd_X12_isAhead_30 : decode m_X12_isAhead.2.1 30 = .ok (.if_icmp .gt 7, 3) := by decide +kernel
theorem dd_X12_isAhead_33 : decode m_X12_isAhead.2.1 33 = .ok (.iconst 1, 1) := by decide +kernel
theorem dd_X12_isAhead_34 : decode m_X12_isAhead.2.1 34 = .ok (.goto 4, 3) := by decide +kernel
theorem dd_X12_isAhead_37 : decode m_X12_isAhead.2.1 37 = .ok (.iconst 0, 1) := by decide +kernel
theorem dd_X12_isAhead_38 : decode m_X12_isAhead.2.1 38 = .ok (.ireturn, 1) := by decide +kernel
def wp_X12_isAhead (p0 : Int32) (p1 : Int32) (p2 : Int32) (s : fz_s) (Q : Bool → fz_s → Prop) : Prop :=
  (((s.1 196 52) = 0 → Q false s) ∧ (¬ (s.1 196 52) = 0 → wp_X12_isIn p0.toInt64 p1.toInt64 p2.toInt64 s (fun r1 s2 => ((r1 = false → Q false s2) ∧ (r1 = true → ((999 < ((s2.1 232 (0 : Int32).toNatClampNeg) + p0) → Q false s2) ∧ (¬ 999 < ((s2.1 232 (0 : Int32).toNatClampNeg) + p0) → Q true s2)))))))
set_option maxRecDepth 100000 in
set_option maxHeartbeats 4000000 in
theorem V_X12_isAhead {g : fz_G} {l : Launch} {d : Nat} (hD : 1 ≤ d) {p0 : Int32} {p1 : Int32} {p2 : Int32}  {s : fz_s} {Q : Bool → fz_s → Prop} (H : wp_X12_isAhead p0 p1 p2 s Q) : fs_V g l m_X12_isAhead d false 0 (fz_en [.ref 196, .int p0, .int p1, .int p2] 4) [] s (rZ Q) := by
  obtain ⟨d, rfl⟩ : ∃ e, d = e + 1 := ⟨d - 1, by omega⟩
  unfold wp_X12_isAhead at H
  refine fs_aload_n (k0 := 0) (i := 0) dd_X12_isAhead_0 rfl rfl ?_
  refine fs_geti (ci := 12) (j := 52) dd_X12_isAhead_1 fl_X12_386 ca_196 rfl (Or.inr rfl) ?_
  refine fs_if_eq (tgt := 37) dd_X12_isAhead_4 (by decide) (fun hc => ?_) (fun hc => ?_)
  · replace H := H.1 hc
    refine fs_iconst (n := 0) (v := 0) dd_X12_isAhead_37 (by decide) ?_
    exact fs_zret false dd_X12_isAhead_38 rfl rfl H
  · replace H := H.2 hc
    refine fs_iload_n (k0 := 1) (i := 1) dd_X12_isAhead_7 rfl rfl ?_
    refine fs_i2l dd_X12_isAhead_8 ?_
    refine fs_iload_n (k0 := 2) (i := 2) dd_X12_isAhead_9 rfl rfl ?_
    refine fs_i2l dd_X12_isAhead_10 ?_
    refine fs_iload_n (k0 := 3) (i := 3) dd_X12_isAhead_11 rfl rfl ?_
    refine fs_i2l dd_X12_isAhead_12 ?_
    refine fs_callS (y := m_X12_isIn) (as := [.long p0.toInt64, .long p1.toInt64, .long p2.toInt64]) dd_X12_isAhead_13 me_X12_isIn (Or.inl lk_X12_295) st_X12_isIn rfl (Nat.le_of_ble_eq_true rfl) (Nat.le_of_ble_eq_true rfl) rfl (V_X12_isIn (by omega)  H) (k2_Z fun r1 s2 H => ?_)
    refine fs_if_eq (tgt := 37) dd_X12_isAhead_16 (by decide) (fun hc => ?_) (fun hc => ?_)
    · replace H := H.1 (bi_0 hc)
      refine fs_iconst (n := 0) (v := 0) dd_X12_isAhead_37 (by decide) ?_
      exact fs_zret false dd_X12_isAhead_38 rfl rfl H
    · replace H := H.2 (bi_1 hc)
      refine fs_aload_n (k0 := 0) (i := 0) dd_X12_isAhead_19 rfl rfl ?_
      refine fs_getr (ci := 12) (j := 54) (q := 232) dd_X12_isAhead_20 fl_X12_121 ca_196 rfl (Or.inr ⟨_, rfl⟩) rfl (by decide) ?_
      refine fs_iconst (n := 0) (v := 0) dd_X12_isAhead_23 (by decide) ?_
      refine fs_iald dd_X12_isAhead_24 ca_232 (vp_in_nI (n := 0) (by decide) (by decide)) ?_
      refine fs_iload_n (k0 := 1) (i := 1) dd_X12_isAhead_25 rfl rfl ?_
      refine fs_iadd dd_X12_isAhead_26 ?_
      refine fs_sipush (n := 999) (v := 999) dd_X12_isAhead_27 (by decide) ?_
      refine fs_icmp_gt (tgt := 37) dd_X12_isAhead_30 (by decide) (fun hc => ?_) (fun hc => ?_)
      · replace H := H.1 hc
        refine fs_iconst (n := 0) (v := 0) dd_X12_isAhead_37 (by decide) ?_
        exact fs_zret false dd_X12_isAhead_38 rfl rfl H
      · replace H := H.2 hc
        refine fs_iconst (n := 1) (v := 1) dd_X12_isAhead_33 (by decide) ?_
        refine fs_goto (tgt := 38) dd_X12_isAhead_34 (by decide) ?_
        exact fs_zret true dd_X12_isAhead_38 rfl rfl H
theorem dd_X12_awayMany_0 : decode m_X12_awayMany.2.1 0 = .ok (.iconst 0, 1) := by decide +kernel
theorem dd_X12_awayMany_1 : decode m_X12_awayMany.2.1 1 = .ok (.istore_n 1, 1) := by decide +kernel
theorem dd_X12_awayMany_2 : decode m_X12_awayMany.2.1 2 = .ok (.iconst 0, 1) := by decide +kernel
theorem dd_X12_awayMany_3 : decode m_X12_awayMany.2.1 3 = .ok (.istore_n 2, 1) := by decide +kernel
theorem dd_X12_awayMany_4 : decode m_X12_awayMany.2.1 4 = .ok (.iload_n 2, 1) := by decide +kernel
theorem dd_X12_awayMany_5 : decode m_X12_awayMany.2.1 5 = .ok (.aload_n 0, 1) := by decide +kernel
theorem dd_X12_awayMany_6 : decode m_X12_awayMany.2.1 6 = .ok (.invokevirtual 402, 3) := by decide +kernel
theorem dd_X12_awayMany_9 : decode m_X12_awayMany.2.1 9 = .ok (.if_icmp .ge 20, 3) := by decide +kernel
theorem dd_X12_awayMany_12 : decode m_X12_awayMany.2.1 12 = .ok (.aload_n 0, 1) := by decide +kernel
theorem dd_X12_awayMany_13 : decode m_X12_awayMany.2.1 13 = .ok (.iload_n 2, 1) := by decide +kernel
theorem dd_X12_awayMany_14 : decode m_X12_awayMany.2.1 14 = .ok (.invokevirtual 405, 3) := by decide +kernel
theorem dd_X12_awayMany_17 : decode m_X12_awayMany.2.1 17 = .ok (.ifCond .eq 6, 3) := by decide +kernel
theorem dd_X12_awayMany_20 : decode m_X12_awayMany.2.1 20 = .ok (.iinc 1 1, 3) := by decide +kernel
theorem dd_X12_awayMany_23 : decode m_X12_awayMany.2.1 23 = .ok (.iinc 2 1, 3) := by decide +kernel
theorem dd_X12_awayMany_26 : decode m_X12_awayMany.2.1 26 = .ok (.goto (-22), 3) := by decide +kernel
theorem dd_X12_awayMany_29 : decode m_X12_awayMany.2.1 29 = .ok (.iload_n 1, 1) := by decide +kernel
theorem dd_X12_awayMany_30 : decode m_X12_awayMany.2.1 30 = .ok (.ireturn, 1) := by decide +kernel
def nd_X12_awayMany_4  (K4 : Int32 → Int32 → fz_s → Prop) (Q : Int32 → fz_s → Prop) (v1 : Int32) (v2 : Int32) (s : fz_s) : Prop :=
  wp_X12_personMany  s (fun r1 s2 => ((r1 ≤ v2 → Q v1 s2) ∧ (¬ r1 ≤ v2 → wp_X12_isAway v2 s2 (fun r3 s4 => ((r3 = false → ∀ x5 : Int32, x5 = v2 + 1 → K4 v1 x5 s4) ∧ (r3 = true → ∀ x6 : Int32, x6 = v1 + 1 → ∀ x7 : Int32, x7 = v2 + 1 → K4 x6 x7 s4))))))
def lp_X12_awayMany_4   (Q : Int32 → fz_s → Prop) : Nat → Int32 → Int32 → fz_s → Prop
  | 0 => fun _ _ _ => False
  | n + 1 => nd_X12_awayMany_4  (lp_X12_awayMany_4   Q n) Q
def wp_X12_awayMany  (s : fz_s) (Q : Int32 → fz_s → Prop) : Prop :=
  lp_X12_awayMany_4   Q 2048 0 0 s
set_option maxRecDepth 100000 in
set_option maxHeartbeats 4000000 in
theorem V_nd_X12_awayMany_4 {g : fz_G} {l : Launch} {d : Nat} (hD : 1 ≤ d)   {K4 : Int32 → Int32 → fz_s → Prop} {Q : Int32 → fz_s → Prop} {v1 : Int32} {v2 : Int32} {s : fz_s} (hK4 : ∀ {v1 : Int32} {v2 : Int32} {s : fz_s}, K4 v1 v2 s → fs_V g l m_X12_awayMany d false 4 [.ref 196, .int v1, .int v2] [] s (rI Q)) (H : nd_X12_awayMany_4  K4 Q v1 v2 s) : fs_V g l m_X12_awayMany d false 4 [.ref 196, .int v1, .int v2] [] s (rI Q) := by
  obtain ⟨d, rfl⟩ : ∃ e, d = e + 1 := ⟨d - 1, by omega⟩
  unfold nd_X12_awayMany_4 at H
  refine fs_iload_n (k0 := 2) (i := 2) dd_X12_awayMany_4 rfl rfl ?_
  refine fs_aload_n (k0 := 0) (i := 0) dd_X12_awayMany_5 rfl rfl ?_
  refine fs_callV (y := m_X12_personMany) (as := []) dd_X12_awayMany_6 me_X12_personMany lk_X12_402 in_X12_personMany se_X12_personMany ca_196 rfl rfl rfl (Nat.le_of_ble_eq_true rfl) (Nat.le_of_ble_eq_true rfl) rfl (V_X12_personMany (by omega)  H) (k2_I fun r1 s2 H => ?_)
  refine fs_icmp_ge (tgt := 29) dd_X12_awayMany_9 (by decide) (fun hc => ?_) (fun hc => ?_)
  · replace H := H.1 hc
    refine fs_iload_n (k0 := 1) (i := 1) dd_X12_awayMany_29 rfl rfl ?_
    exact fs_iret dd_X12_awayMany_30 rfl H
  · replace H := H.2 hc
    refine fs_aload_n (k0 := 0) (i := 0) dd_X12_awayMany_12 rfl rfl ?_
    refine fs_iload_n (k0 := 2) (i := 2) dd_X12_awayMany_13 rfl rfl ?_
    refine fs_callV (y := m_X12_isAway) (as := [.int v2]) dd_X12_awayMany_14 me_X12_isAway lk_X12_405 in_X12_isAway se_X12_isAway ca_196 rfl rfl rfl (Nat.le_of_ble_eq_true rfl) (Nat.le_of_ble_eq_true rfl) rfl (V_X12_isAway (by omega)  H) (k2_Z fun r3 s4 H => ?_)
    refine fs_if_eq (tgt := 23) dd_X12_awayMany_17 (by decide) (fun hc => ?_) (fun hc => ?_)
    · replace H := H.1 (bi_0 hc)
      refine fs_iincN (i := 2) (m := 1) (c := 1) dd_X12_awayMany_23 rfl (by decide) (by decide) (fun x5 hx5 => ?_)
      replace H := H x5 hx5
      refine fs_goto (tgt := 4) dd_X12_awayMany_26 (by decide) ?_
      refine fs_weak (ls2 := [.ref 196, .int v1, .int x5]) (fz_le_e (fz_le_e (fz_le_e fz_le_n))) ?_
      exact hK4 H
    · replace H := H.2 (bi_1 hc)
      refine fs_iincN (i := 1) (m := 1) (c := 1) dd_X12_awayMany_20 rfl (by decide) (by decide) (fun x6 hx6 => ?_)
      replace H := H x6 hx6
      refine fs_iincN (i := 2) (m := 1) (c := 1) dd_X12_awayMany_23 rfl (by decide) (by decide) (fun x7 hx7 => ?_)
      replace H := H x7 hx7
      refine fs_goto (tgt := 4) dd_X12_awayMany_26 (by decide) ?_
      refine fs_weak (ls2 := [.ref 196, .int x6, .int x7]) (fz_le_e (fz_le_e (fz_le_e fz_le_n))) ?_
      exact hK4 H
set_option maxRecDepth 100000 in
set_option maxHeartbeats 4000000 in
theorem V_lp_X12_awayMany_4 {g : fz_G} {l : Launch} {d : Nat} (hD : 1 ≤ d)    {Q : Int32 → fz_s → Prop}  (n : Nat) : ∀ {v1 : Int32} {v2 : Int32} {s : fz_s}, lp_X12_awayMany_4   Q n v1 v2 s → fs_V g l m_X12_awayMany d false 4 [.ref 196, .int v1, .int v2] [] s (rI Q) := by
  induction n with
  | zero => intro v1 v2 s H; exact H.elim
  | succ n ih => intro v1 v2 s H; exact V_nd_X12_awayMany_4 hD  (fun H => ih H) H
set_option maxRecDepth 100000 in
set_option maxHeartbeats 4000000 in
theorem V_X12_awayMany {g : fz_G} {l : Launch} {d : Nat} (hD : 1 ≤ d)   {s : fz_s} {Q : Int32 → fz_s → Prop} (H : wp_X12_awayMany  s Q) : fs_V g l m_X12_awayMany d false 0 (fz_en [.ref 196] 3) [] s (rI Q) := by
  obtain ⟨d, rfl⟩ : ∃ e, d = e + 1 := ⟨d - 1, by omega⟩
  unfold wp_X12_awayMany at H
  refine fs_iconst (n := 0) (v := 0) dd_X12_awayMany_0 (by decide) ?_
  refine fs_istore_n (k0 := 1) (i := 1) dd_X12_awayMany_1 rfl (by decide) ?_
  refine fs_iconst (n := 0) (v := 0) dd_X12_awayMany_2 (by decide) ?_
  refine fs_istore_n (k0 := 2) (i := 2) dd_X12_awayMany_3 rfl (by decide) ?_
  refine fs_weak (ls2 := [.ref 196, .int 0, .int 0]) (fz_le_e (fz_le_e (fz_le_e fz_le_n))) ?_
  exact V_lp_X12_awayMany_4 hD    2048 H
theorem dd_X12_passMany_0 : decode m_X12_passMany.2.1 0 = .ok (.iconst 0, 1) := by decide +kernel
theorem dd_X12_passMany_1 : decode m_X12_passMany.2.1 1 = .ok (.istore_n 1, 1) := by decide +kernel
theorem dd_X12_passMany_2 : decode m_X12_passMany.2.1 2 = .ok (.iconst 0, 1) := by decide +kernel
theorem dd_X12_passMany_3 : decode m_X12_passMany.2.1 3 = .ok (.istore_n 2, 1) := by decide +kernel
theorem dd_X12_passMany_4 : decode m_X12_passMany.2.1 4 = .ok (.iload_n 2, 1) := by decide +kernel
theorem dd_X12_passMany_5 : decode m_X12_passMany.2.1 5 = .ok (.aload_n 0, 1) := by decide +kernel
theorem dd_X12_passMany_6 : decode m_X12_passMany.2.1 6 = .ok (.invokevirtual 402, 3) := by decide +kernel
theorem dd_X12_passMany_9 : decode m_X12_passMany.2.1 9 = .ok (.if_icmp .ge 20, 3) := by decide +kernel
theorem dd_X12_passMany_12 : decode m_X12_passMany.2.1 12 = .ok (.aload_n 0, 1) := by decide +kernel
theorem dd_X12_passMany_13 : decode m_X12_passMany.2.1 13 = .ok (.iload_n 2, 1) := by decide +kernel
theorem dd_X12_passMany_14 : decode m_X12_passMany.2.1 14 = .ok (.invokevirtual 487, 3) := by decide +kernel
theorem dd_X12_passMany_17 : decode m_X12_passMany.2.1 17 = .ok (.ifCond .eq 6, 3) := by decide +kernel
theorem dd_X12_passMany_20 : decode m_X12_passMany.2.1 20 = .ok (.iinc 1 1, 3) := by decide +kernel
theorem dd_X12_passMany_23 : decode m_X12_passMany.2.1 23 = .ok (.iinc 2 1, 3) := by decide +kernel
theorem dd_X12_passMany_26 : decode m_X12_passMany.2.1 26 = .ok (.goto (-22), 3) := by decide +kernel
theorem dd_X12_passMany_29 : decode m_X12_passMany.2.1 29 = .ok (.iload_n 1, 1) := by decide +kernel
theorem dd_X12_passMany_30 : decode m_X12_passMany.2.1 30 = .ok (.ireturn, 1) := by decide +kernel
def nd_X12_passMany_4  (K4 : Int32 → Int32 → fz_s → Prop) (Q : Int32 → fz_s → Prop) (v1 : Int32) (v2 : Int32) (s : fz_s) : Prop :=
  wp_X12_personMany  s (fun r1 s2 => ((r1 ≤ v2 → Q v1 s2) ∧ (¬ r1 ≤ v2 → wp_X12_doesPass v2 s2 (fun r3 s4 => ((r3 = false → ∀ x5 : Int32, x5 = v2 + 1 → K4 v1 x5 s4) ∧ (r3 = true → ∀ x6 : Int32, x6 = v1 + 1 → ∀ x7 : Int32, x7 = v2 + 1 → K4 x6 x7 s4))))))
def lp_X12_passMany_4   (Q : Int32 → fz_s → Prop) : Nat → Int32 → Int32 → fz_s → Prop
  | 0 => fun _ _ _ => False
  | n + 1 => nd_X12_passMany_4  (lp_X12_passMany_4   Q n) Q
def wp_X12_passMany  (s : fz_s) (Q : Int32 → fz_s → Prop) : Prop :=
  lp_X12_passMany_4   Q 2048 0 0 s
set_option maxRecDepth 100000 in
set_option maxHeartbeats 4000000 in
theorem V_nd_X12_passMany_4 {g : fz_G} {l : Launch} {d : Nat} (hD : 6 ≤ d)   {K4 : Int32 → Int32 → fz_s → Prop} {Q : Int32 → fz_s → Prop} {v1 : Int32} {v2 : Int32} {s : fz_s} (hK4 : ∀ {v1 : Int32} {v2 : Int32} {s : fz_s}, K4 v1 v2 s → fs_V g l m_X12_passMany d false 4 [.ref 196, .int v1, .int v2] [] s (rI Q)) (H : nd_X12_passMany_4  K4 Q v1 v2 s) : fs_V g l m_X12_passMany d false 4 [.ref 196, .int v1, .int v2] [] s (rI Q) := by
  obtain ⟨d, rfl⟩ : ∃ e, d = e + 1 := ⟨d - 1, by omega⟩
  unfold nd_X12_passMany_4 at H
  refine fs_iload_n (k0 := 2) (i := 2) dd_X12_passMany_4 rfl rfl ?_
  refine fs_aload_n (k0 := 0) (i := 0) dd_X12_passMany_5 rfl rfl ?_
  refine fs_callV (y := m_X12_personMany) (as := []) dd_X12_passMany_6 me_X12_personMany lk_X12_402 in_X12_personMany se_X12_personMany ca_196 rfl rfl rfl (Nat.le_of_ble_eq_true rfl) (Nat.le_of_ble_eq_true rfl) rfl (V_X12_personMany (by omega)  H) (k2_I fun r1 s2 H => ?_)
  refine fs_icmp_ge (tgt := 29) dd_X12_passMany_9 (by decide) (fun hc => ?_) (fun hc => ?_)
  · replace H := H.1 hc
    refine fs_iload_n (k0 := 1) (i := 1) dd_X12_passMany_29 rfl rfl ?_
    exact fs_iret dd_X12_passMany_30 rfl H
  · replace H := H.2 hc
    refine fs_aload_n (k0 := 0) (i := 0) dd_X12_passMany_12 rfl rfl ?_
    refine fs_iload_n (k0 := 2) (i := 2) dd_X12_passMany_13 rfl rfl ?_
    refine fs_callV (y := m_X12_doesPass) (as := [.int v2]) dd_X12_passMany_14 me_X12_doesPass lk_X12_487 in_X12_doesPass se_X12_doesPass ca_196 rfl rfl rfl (Nat.le_of_ble_eq_true rfl) (Nat.le_of_ble_eq_true rfl) rfl (V_X12_doesPass (by omega)  H) (k2_Z fun r3 s4 H => ?_)
    refine fs_if_eq (tgt := 23) dd_X12_passMany_17 (by decide) (fun hc => ?_) (fun hc => ?_)
    · replace H := H.1 (bi_0 hc)
      refine fs_iincN (i := 2) (m := 1) (c := 1) dd_X12_passMany_23 rfl (by decide) (by decide) (fun x5 hx5 => ?_)
      replace H := H x5 hx5
      refine fs_goto (tgt := 4) dd_X12_passMany_26 (by decide) ?_
      refine fs_weak (ls2 := [.ref 196, .int v1, .int x5]) (fz_le_e (fz_le_e (fz_le_e fz_le_n))) ?_
      exact hK4 H
    · replace H := H.2 (bi_1 hc)
      refine fs_iincN (i := 1) (m := 1) (c := 1) dd_X12_passMany_20 rfl (by decide) (by decide) (fun x6 hx6 => ?_)
      replace H := H x6 hx6
      refine fs_iincN (i := 2) (m := 1) (c := 1) dd_X12_passMany_23 rfl (by decide) (by decide) (fun x7 hx7 => ?_)
      replace H := H x7 hx7
      refine fs_goto (tgt := 4) dd_X12_passMany_26 (by decide) ?_
      refine fs_weak (ls2 := [.ref 196, .int x6, .int x7]) (fz_le_e (fz_le_e (fz_le_e fz_le_n))) ?_
      exact hK4 H
set_option maxRecDepth 100000 in
set_option maxHeartbeats 4000000 in
theorem V_lp_X12_passMany_4 {g : fz_G} {l : Launch} {d : Nat} (hD : 6 ≤ d)    {Q : Int32 → fz_s → Prop}  (n : Nat) : ∀ {v1 : Int32} {v2 : Int32} {s : fz_s}, lp_X12_passMany_4   Q n v1 v2 s → fs_V g l m_X12_passMany d false 4 [.ref 196, .int v1, .int v2] [] s (rI Q) := by
  induction n with
  | zero => intro v1 v2 s H; exact H.elim
  | succ n ih => intro v1 v2 s H; exact V_nd_X12_passMany_4 hD  (fun H => ih H) H
set_option maxRecDepth 100000 in
set_option maxHeartbeats 4000000 in
theorem V_X12_passMany {g : fz_G} {l : Launch} {d : Nat} (hD : 6 ≤ d)   {s : fz_s} {Q : Int32 → fz_s → Prop} (H : wp_X12_passMany  s Q) : fs_V g l m_X12_passMany d false 0 (fz_en [.ref 196] 3) [] s (rI Q) := by
  obtain ⟨d, rfl⟩ : ∃ e, d = e + 1 := ⟨d - 1, by omega⟩
  unfold wp_X12_passMany at H
  refine fs_iconst (n := 0) (v := 0) dd_X12_passMany_0 (by decide) ?_
  refine fs_istore_n (k0 := 1) (i := 1) dd_X12_passMany_1 rfl (by decide) ?_
  refine fs_iconst (n := 0) (v := 0) dd_X12_passMany_2 (by decide) ?_
  refine fs_istore_n (k0 := 2) (i := 2) dd_X12_passMany_3 rfl (by decide) ?_
  refine fs_weak (ls2 := [.ref 196, .int 0, .int 0]) (fz_le_e (fz_le_e (fz_le_e fz_le_n))) ?_
  exact V_lp_X12_passMany_4 hD    2048 H
theorem dd_X12_has_0 : decode m_X12_has.2.1 0 = .ok (.iload_n 1, 1) := by decide +kernel
theorem dd_X12_has_1 : decode m_X12_has.2.1 1 = .ok (.tableswitch 100 0 7 #[47, 60, 65, 72, 77, 82, 90, 95], 47) := by decide +kernel
theorem dd_X12_has_48 : decode m_X12_has.2.1 48 = .ok (.aload_n 0, 1) := by decide +kernel
theorem dd_X12_has_49 : decode m_X12_has.2.1 49 = .ok (.getfield 386, 3) := by decide +kernel
theorem dd_X12_has_52 : decode m_X12_has.2.1 52 = .ok (.ifCond .eq 7, 3) := by decide +kernel
theorem dd_X12_has_55 : decode m_X12_has.2.1 55 = .ok (.iconst 2, 1) := by decide +kernel
theorem dd_X12_has_56 : decode m_X12_has.2.1 56 = .ok (.goto 4, 3) := by decide +kernel
theorem dd_X12_has_59 : decode m_X12_has.2.1 59 = .ok (.iconst 0, 1) := by decide +kernel
theorem dd_X12_has_60 : decode m_X12_has.2.1 60 = .ok (.ireturn, 1) := by decide +kernel
theorem dd_X12_has_61 : decode m_X12_has.2.1 61 = .ok (.aload_n 0, 1) := by decide +kernel
theorem dd_X12_has_62 : decode m_X12_has.2.1 62 = .ok (.invokevirtual 402, 3) := by decide +kernel
theorem dd_X12_has_65 : decode m_X12_has.2.1 65 = .ok (.ireturn, 1) := by decide +kernel
theorem dd_X12_has_66 : decode m_X12_has.2.1 66 = .ok (.aload_n 0, 1) := by decide +kernel
theorem dd_X12_has_67 : decode m_X12_has.2.1 67 = .ok (.getfield 121, 3) := by decide +kernel
theorem dd_X12_has_70 : decode m_X12_has.2.1 70 = .ok (.iconst 0, 1) := by decide +kernel
theorem dd_X12_has_71 : decode m_X12_has.2.1 71 = .ok (.iaload, 1) := by decide +kernel
theorem dd_X12_has_72 : decode m_X12_has.2.1 72 = .ok (.ireturn, 1) := by decide +kernel
theorem dd_X12_has_73 : decode m_X12_has.2.1 73 = .ok (.aload_n 0, 1) := by decide +kernel
theorem dd_X12_has_74 : decode m_X12_has.2.1 74 = .ok (.invokevirtual 503, 3) := by decide +kernel
theorem dd_X12_has_77 : decode m_X12_has.2.1 77 = .ok (.ireturn, 1) := by decide +kernel
theorem dd_X12_has_78 : decode m_X12_has.2.1 78 = .ok (.aload_n 0, 1) := by decide +kernel
theorem dd_X12_has_79 : decode m_X12_has.2.1 79 = .ok (.invokevirtual 506, 3) := by decide +kernel
theorem dd_X12_has_82 : decode m_X12_has.2.1 82 = .ok (.ireturn, 1) := by decide +kernel
theorem dd_X12_has_83 : decode m_X12_has.2.1 83 = .ok (.aload_n 0, 1) := by decide +kernel
theorem dd_X12_has_84 : decode m_X12_has.2.1 84 = .ok (.getfield 121, 3) := by decide +kernel
theorem dd_X12_has_87 : decode m_X12_has.2.1 87 = .ok (.bipush 29, 2) := by decide +kernel
theorem dd_X12_has_89 : decode m_X12_has.2.1 89 = .ok (.iaload, 1) := by decide +kernel
theorem dd_X12_has_90 : decode m_X12_has.2.1 90 = .ok (.ireturn, 1) := by decide +kernel
theorem dd_X12_has_91 : decode m_X12_has.2.1 91 = .ok (.aload_n 0, 1) := by decide +kernel
theorem dd_X12_has_92 : decode m_X12_has.2.1 92 = .ok (.getfield 399, 3) := by decide +kernel
theorem dd_X12_has_95 : decode m_X12_has.2.1 95 = .ok (.ireturn, 1) := by decide +kernel
theorem dd_X12_has_96 : decode m_X12_has.2.1 96 = .ok (.aload_n 0, 1) := by decide +kernel
theorem dd_X12_has_97 : decode m_X12_has.2.1 97 = .ok (.getfield 396, 3) := by decide +kernel
theorem dd_X12_has_100 : decode m_X12_has.2.1 100 = .ok (.ireturn, 1) := by decide +kernel
theorem dd_X12_has_101 : decode m_X12_has.2.1 101 = .ok (.iconst (-1), 1) := by decide +kernel
theorem dd_X12_has_102 : decode m_X12_has.2.1 102 = .ok (.ireturn, 1) := by decide +kernel
def wp_X12_has (p0 : Int32) (s : fz_s) (Q : Int32 → fz_s → Prop) : Prop :=
  ((p0 = 0 → (((s.1 196 52) = 0 → Q 0 s) ∧ (¬ (s.1 196 52) = 0 → Q 2 s))) ∧ (p0 = 1 → wp_X12_personMany  s (fun r1 s2 => Q r1 s2)) ∧ (p0 = 2 → Q (s.1 232 (0 : Int32).toNatClampNeg) s) ∧ (p0 = 3 → wp_X12_awayMany  s (fun r3 s4 => Q r3 s4)) ∧ (p0 = 4 → wp_X12_passMany  s (fun r5 s6 => Q r5 s6)) ∧ (p0 = 5 → Q (s.1 232 (29 : Int32).toNatClampNeg) s) ∧ (p0 = 6 → Q (s.1 196 66) s) ∧ (p0 = 7 → Q (s.1 196 72) s) ∧ (¬ p0 = 0 ∧ ¬ p0 = 1 ∧ ¬ p0 = 2 ∧ ¬ p0 = 3 ∧ ¬ p0 = 4 ∧ ¬ p0 = 5 ∧ ¬ p0 = 6 ∧ ¬ p0 = 7 → Q (-1) s))
set_option maxRecDepth 100000 in
set_option maxHeartbeats 4000000 in
theorem V_X12_has {g : fz_G} {l : Launch} {d : Nat} (hD : 7 ≤ d) {p0 : Int32}  {s : fz_s} {Q : Int32 → fz_s → Prop} (H : wp_X12_has p0 s Q) : fs_V g l m_X12_has d false 0 (fz_en [.ref 196, .int p0] 2) [] s (rI Q) := by
  obtain ⟨d, rfl⟩ : ∃ e, d = e + 1 := ⟨d - 1, by omega⟩
  unfold wp_X12_has at H
  refine fs_iload_n (k0 := 1) (i := 1) dd_X12_has_0 rfl rfl ?_
  by_cases hc0 : p0 = 0
  · replace H := H.1 hc0
    refine fs_tableAt (k := 0) (off := 47) (tgt := 48) hc0 dd_X12_has_1 (by decide) (by decide) rfl (by decide) ?_
    refine fs_aload_n (k0 := 0) (i := 0) dd_X12_has_48 rfl rfl ?_
    refine fs_geti (ci := 12) (j := 52) dd_X12_has_49 fl_X12_386 ca_196 rfl (Or.inr rfl) ?_
    refine fs_if_eq (tgt := 59) dd_X12_has_52 (by decide) (fun hc => ?_) (fun hc => ?_)
    · replace H := H.1 hc
      refine fs_iconst (n := 0) (v := 0) dd_X12_has_59 (by decide) ?_
      exact fs_iret dd_X12_has_60 rfl H
    · replace H := H.2 hc
      refine fs_iconst (n := 2) (v := 2) dd_X12_has_55 (by decide) ?_
      refine fs_goto (tgt := 60) dd_X12_has_56 (by decide) ?_
      exact fs_iret dd_X12_has_60 rfl H
  by_cases hc1 : p0 = 1
  · replace H := H.2.1 hc1
    refine fs_tableAt (k := 1) (off := 60) (tgt := 61) hc1 dd_X12_has_1 (by decide) (by decide) rfl (by decide) ?_
    refine fs_aload_n (k0 := 0) (i := 0) dd_X12_has_61 rfl rfl ?_
    refine fs_callV (y := m_X12_personMany) (as := []) dd_X12_has_62 me_X12_personMany lk_X12_402 in_X12_personMany se_X12_personMany ca_196 rfl rfl rfl (Nat.le_of_ble_eq_true rfl) (Nat.le_of_ble_eq_true rfl) rfl (V_X12_personMany (by omega)  H) (k2_I fun r1 s2 H => ?_)
    exact fs_iret dd_X12_has_65 rfl H
  by_cases hc2 : p0 = 2
  · replace H := H.2.2.1 hc2
    refine fs_tableAt (k := 2) (off := 65) (tgt := 66) hc2 dd_X12_has_1 (by decide) (by decide) rfl (by decide) ?_
    refine fs_aload_n (k0 := 0) (i := 0) dd_X12_has_66 rfl rfl ?_
    refine fs_getr (ci := 12) (j := 54) (q := 232) dd_X12_has_67 fl_X12_121 ca_196 rfl (Or.inr ⟨_, rfl⟩) rfl (by decide) ?_
    refine fs_iconst (n := 0) (v := 0) dd_X12_has_70 (by decide) ?_
    refine fs_iald dd_X12_has_71 ca_232 (vp_in_nI (n := 0) (by decide) (by decide)) ?_
    exact fs_iret dd_X12_has_72 rfl H
  by_cases hc3 : p0 = 3
  · replace H := H.2.2.2.1 hc3
    refine fs_tableAt (k := 3) (off := 72) (tgt := 73) hc3 dd_X12_has_1 (by decide) (by decide) rfl (by decide) ?_
    refine fs_aload_n (k0 := 0) (i := 0) dd_X12_has_73 rfl rfl ?_
    refine fs_callV (y := m_X12_awayMany) (as := []) dd_X12_has_74 me_X12_awayMany lk_X12_503 in_X12_awayMany se_X12_awayMany ca_196 rfl rfl rfl (Nat.le_of_ble_eq_true rfl) (Nat.le_of_ble_eq_true rfl) rfl (V_X12_awayMany (by omega)  H) (k2_I fun r3 s4 H => ?_)
    exact fs_iret dd_X12_has_77 rfl H
  by_cases hc4 : p0 = 4
  · replace H := H.2.2.2.2.1 hc4
    refine fs_tableAt (k := 4) (off := 77) (tgt := 78) hc4 dd_X12_has_1 (by decide) (by decide) rfl (by decide) ?_
    refine fs_aload_n (k0 := 0) (i := 0) dd_X12_has_78 rfl rfl ?_
    refine fs_callV (y := m_X12_passMany) (as := []) dd_X12_has_79 me_X12_passMany lk_X12_506 in_X12_passMany se_X12_passMany ca_196 rfl rfl rfl (Nat.le_of_ble_eq_true rfl) (Nat.le_of_ble_eq_true rfl) rfl (V_X12_passMany (by omega)  H) (k2_I fun r5 s6 H => ?_)
    exact fs_iret dd_X12_has_82 rfl H
  by_cases hc5 : p0 = 5
  · replace H := H.2.2.2.2.2.1 hc5
    refine fs_tableAt (k := 5) (off := 82) (tgt := 83) hc5 dd_X12_has_1 (by decide) (by decide) rfl (by decide) ?_
    refine fs_aload_n (k0 := 0) (i := 0) dd_X12_has_83 rfl rfl ?_
    refine fs_getr (ci := 12) (j := 54) (q := 232) dd_X12_has_84 fl_X12_121 ca_196 rfl (Or.inr ⟨_, rfl⟩) rfl (by decide) ?_
    refine fs_bipush (n := 29) (v := 29) dd_X12_has_87 (by decide) ?_
    refine fs_iald dd_X12_has_89 ca_232 (vp_in_nI (n := 29) (by decide) (by decide)) ?_
    exact fs_iret dd_X12_has_90 rfl H
  by_cases hc6 : p0 = 6
  · replace H := H.2.2.2.2.2.2.1 hc6
    refine fs_tableAt (k := 6) (off := 90) (tgt := 91) hc6 dd_X12_has_1 (by decide) (by decide) rfl (by decide) ?_
    refine fs_aload_n (k0 := 0) (i := 0) dd_X12_has_91 rfl rfl ?_
    refine fs_geti (ci := 12) (j := 66) dd_X12_has_92 fl_X12_399 ca_196 rfl (Or.inl rfl) ?_
    exact fs_iret dd_X12_has_95 rfl H
  by_cases hc7 : p0 = 7
  · replace H := H.2.2.2.2.2.2.2.1 hc7
    refine fs_tableAt (k := 7) (off := 95) (tgt := 96) hc7 dd_X12_has_1 (by decide) (by decide) rfl (by decide) ?_
    refine fs_aload_n (k0 := 0) (i := 0) dd_X12_has_96 rfl rfl ?_
    refine fs_geti (ci := 12) (j := 72) dd_X12_has_97 fl_X12_396 ca_196 rfl (Or.inl rfl) ?_
    exact fs_iret dd_X12_has_100 rfl H
  replace H := H.2.2.2.2.2.2.2.2 ⟨hc0, hc1, hc2, hc3, hc4, hc5, hc6, hc7⟩
  refine fs_tableOut' (ks := [0, 1, 2, 3, 4, 5, 6, 7]) (tgt := 101) (by simp only [List.forall_mem_cons]; exact ⟨hc0, hc1, hc2, hc3, hc4, hc5, hc6, hc7, fun _ h => by cases h⟩) dd_X12_has_1 (by decide) (by decide) ?_
  refine fs_iconst (n := -1) (v := -1) dd_X12_has_101 (by decide) ?_
  exact fs_iret dd_X12_has_102 rfl H

theorem dd_X9_take_0 : decode m_X9_take.2.1 0 = .ok (.aload_n 1, 1) := by decide +kernel
theorem dd_X9_take_1 : decode m_X9_take.2.1 1 = .ok (.getfield 9, 3) := by decide +kernel
theorem dd_X9_take_4 : decode m_X9_take.2.1 4 = .ok (.iconst 0, 1) := by decide +kernel
theorem dd_X9_take_5 : decode m_X9_take.2.1 5 = .ok (.aload_n 0, 1) := by decide +kernel
theorem dd_X9_take_6 : decode m_X9_take.2.1 6 = .ok (.getfield 9, 3) := by decide +kernel
theorem dd_X9_take_9 : decode m_X9_take.2.1 9 = .ok (.iconst 0, 1) := by decide +kernel
theorem dd_X9_take_10 : decode m_X9_take.2.1 10 = .ok (.aload_n 0, 1) := by decide +kernel
theorem dd_X9_take_11 : decode m_X9_take.2.1 11 = .ok (.getfield 9, 3) := by decide +kernel
theorem dd_X9_take_14 : decode m_X9_take.2.1 14 = .ok (.arraylength, 1) := by decide +kernel
theorem dd_X9_take_15 : decode m_X9_take.2.1 15 = .ok (.invokestatic 42, 3) := by decide +kernel
theorem dd_X9_take_18 : decode m_X9_take.2.1 18 = .ok (.aload_n 1, 1) := by decide +kernel
theorem dd_X9_take_19 : decode m_X9_take.2.1 19 = .ok (.getfield 15, 3) := by decide +kernel
theorem dd_X9_take_22 : decode m_X9_take.2.1 22 = .ok (.iconst 0, 1) := by decide +kernel
theorem dd_X9_take_23 : decode m_X9_take.2.1 23 = .ok (.aload_n 0, 1) := by decide +kernel
theorem dd_X9_take_24 : decode m_X9_take.2.1 24 = .ok (.getfield 15, 3) := by decide +kernel
theorem dd_X9_take_27 : decode m_X9_take.2.1 27 = .ok (.iconst 0, 1) := by decide +kernel
theorem dd_X9_take_28 : decode m_X9_take.2.1 28 = .ok (.iconst 2, 1) := by decide +kernel
theorem dd_X9_take_29 : decode m_X9_take.2.1 29 = .ok (.invokestatic 42, 3) := by decide +kernel
theorem dd_X9_take_32 : decode m_X9_take.2.1 32 = .ok (.aload_n 1, 1) := by decide +kernel
theorem dd_X9_take_33 : decode m_X9_take.2.1 33 = .ok (.getfield 18, 3) := by decide +kernel
theorem dd_X9_take_36 : decode m_X9_take.2.1 36 = .ok (.iconst 0, 1) := by decide +kernel
theorem dd_X9_take_37 : decode m_X9_take.2.1 37 = .ok (.aload_n 0, 1) := by decide +kernel
theorem dd_X9_take_38 : decode m_X9_take.2.1 38 = .ok (.getfield 18, 3) := by decide +kernel
theorem dd_X9_take_41 : decode m_X9_take.2.1 41 = .ok (.iconst 0, 1) := by decide +kernel
theorem dd_X9_take_42 : decode m_X9_take.2.1 42 = .ok (.iconst 2, 1) := by decide +kernel
theorem dd_X9_take_43 : decode m_X9_take.2.1 43 = .ok (.invokestatic 42, 3) := by decide +kernel
theorem dd_X9_take_46 : decode m_X9_take.2.1 46 = .ok (.aload_n 1, 1) := by decide +kernel
theorem dd_X9_take_47 : decode m_X9_take.2.1 47 = .ok (.getfield 21, 3) := by decide +kernel
theorem dd_X9_take_50 : decode m_X9_take.2.1 50 = .ok (.iconst 0, 1) := by decide +kernel
theorem dd_X9_take_51 : decode m_X9_take.2.1 51 = .ok (.aload_n 0, 1) := by decide +kernel
theorem dd_X9_take_52 : decode m_X9_take.2.1 52 = .ok (.getfield 21, 3) := by decide +kernel
theorem dd_X9_take_55 : decode m_X9_take.2.1 55 = .ok (.iconst 0, 1) := by decide +kernel
theorem dd_X9_take_56 : decode m_X9_take.2.1 56 = .ok (.bipush 8, 2) := by decide +kernel
theorem dd_X9_take_58 : decode m_X9_take.2.1 58 = .ok (.invokestatic 42, 3) := by decide +kernel
theorem dd_X9_take_61 : decode m_X9_take.2.1 61 = .ok (.aload_n 1, 1) := by decide +kernel
theorem dd_X9_take_62 : decode m_X9_take.2.1 62 = .ok (.getfield 24, 3) := by decide +kernel
theorem dd_X9_take_65 : decode m_X9_take.2.1 65 = .ok (.iconst 0, 1) := by decide +kernel
theorem dd_X9_take_66 : decode m_X9_take.2.1 66 = .ok (.aload_n 0, 1) := by decide +kernel
theorem dd_X9_take_67 : decode m_X9_take.2.1 67 = .ok (.getfield 24, 3) := by decide +kernel
theorem dd_X9_take_70 : decode m_X9_take.2.1 70 = .ok (.iconst 0, 1) := by decide +kernel
theorem dd_X9_take_71 : decode m_X9_take.2.1 71 = .ok (.bipush 8, 2) := by decide +kernel
theorem dd_X9_take_73 : decode m_X9_take.2.1 73 = .ok (.invokestatic 42, 3) := by decide +kernel
theorem dd_X9_take_76 : decode m_X9_take.2.1 76 = .ok (.aload_n 1, 1) := by decide +kernel
theorem dd_X9_take_77 : decode m_X9_take.2.1 77 = .ok (.getfield 27, 3) := by decide +kernel
theorem dd_X9_take_80 : decode m_X9_take.2.1 80 = .ok (.iconst 0, 1) := by decide +kernel
theorem dd_X9_take_81 : decode m_X9_take.2.1 81 = .ok (.aload_n 0, 1) := by decide +kernel
theorem dd_X9_take_82 : decode m_X9_take.2.1 82 = .ok (.getfield 27, 3) := by decide +kernel
theorem dd_X9_take_85 : decode m_X9_take.2.1 85 = .ok (.iconst 0, 1) := by decide +kernel
theorem dd_X9_take_86 : decode m_X9_take.2.1 86 = .ok (.bipush 8, 2) := by decide +kernel
theorem dd_X9_take_88 : decode m_X9_take.2.1 88 = .ok (.invokestatic 42, 3) := by decide +kernel
theorem dd_X9_take_91 : decode m_X9_take.2.1 91 = .ok (.aload_n 1, 1) := by decide +kernel
theorem dd_X9_take_92 : decode m_X9_take.2.1 92 = .ok (.getfield 30, 3) := by decide +kernel
theorem dd_X9_take_95 : decode m_X9_take.2.1 95 = .ok (.iconst 0, 1) := by decide +kernel
theorem dd_X9_take_96 : decode m_X9_take.2.1 96 = .ok (.aload_n 0, 1) := by decide +kernel
theorem dd_X9_take_97 : decode m_X9_take.2.1 97 = .ok (.getfield 30, 3) := by decide +kernel
theorem dd_X9_take_100 : decode m_X9_take.2.1 100 = .ok (.iconst 0, 1) := by decide +kernel
theorem dd_X9_take_101 : decode m_X9_take.2.1 101 = .ok (.bipush 8, 2) := by decide +kernel
theorem dd_X9_take_103 : decode m_X9_take.2.1 103 = .ok (.invokestatic 42, 3) := by decide +kernel
theorem dd_X9_take_106 : decode m_X9_take.2.1 106 = .ok (.aload_n 1, 1) := by decide +kernel
theorem dd_X9_take_107 : decode m_X9_take.2.1 107 = .ok (.getfield 33, 3) := by decide +kernel
theorem dd_X9_take_110 : decode m_X9_take.2.1 110 = .ok (.iconst 0, 1) := by decide +kernel
theorem dd_X9_take_111 : decode m_X9_take.2.1 111 = .ok (.aload_n 0, 1) := by decide +kernel
theorem dd_X9_take_112 : decode m_X9_take.2.1 112 = .ok (.getfield 33, 3) := by decide +kernel
theorem dd_X9_take_115 : decode m_X9_take.2.1 115 = .ok (.iconst 0, 1) := by decide +kernel
theorem dd_X9_take_116 : decode m_X9_take.2.1 116 = .ok (.sipush 1632, 3) := by decide +kernel
theorem dd_X9_take_119 : decode m_X9_take.2.1 119 = .ok (.invokestatic 42, 3) := by decide +kernel
theorem dd_X9_take_122 : decode m_X9_take.2.1 122 = .ok (.aload_n 1, 1) := by decide +kernel
theorem dd_X9_take_123 : decode m_X9_take.2.1 123 = .ok (.getfield 36, 3) := by decide +kernel
theorem dd_X9_take_126 : decode m_X9_take.2.1 126 = .ok (.iconst 0, 1) := by decide +kernel
theorem dd_X9_take_127 : decode m_X9_take.2.1 127 = .ok (.aload_n 0, 1) := by decide +kernel
theorem dd_X9_take_128 : decode m_X9_take.2.1 128 = .ok (.getfield 36, 3) := by decide +kernel
theorem dd_X9_take_131 : decode m_X9_take.2.1 131 = .ok (.iconst 0, 1) := by decide +kernel
theorem dd_X9_take_132 : decode m_X9_take.2.1 132 = .ok (.iconst 5, 1) := by decide +kernel
theorem dd_X9_take_133 : decode m_X9_take.2.1 133 = .ok (.invokestatic 42, 3) := by decide +kernel
theorem dd_X9_take_136 : decode m_X9_take.2.1 136 = .ok (.aload_n 1, 1) := by decide +kernel
theorem dd_X9_take_137 : decode m_X9_take.2.1 137 = .ok (.getfield 39, 3) := by decide +kernel
theorem dd_X9_take_140 : decode m_X9_take.2.1 140 = .ok (.iconst 0, 1) := by decide +kernel
theorem dd_X9_take_141 : decode m_X9_take.2.1 141 = .ok (.aload_n 0, 1) := by decide +kernel
theorem dd_X9_take_142 : decode m_X9_take.2.1 142 = .ok (.getfield 39, 3) := by decide +kernel
theorem dd_X9_take_145 : decode m_X9_take.2.1 145 = .ok (.iconst 0, 1) := by decide +kernel
theorem dd_X9_take_146 : decode m_X9_take.2.1 146 = .ok (.iconst 5, 1) := by decide +kernel
theorem dd_X9_take_147 : decode m_X9_take.2.1 147 = .ok (.invokestatic 42, 3) := by decide +kernel
theorem dd_X9_take_150 : decode m_X9_take.2.1 150 = .ok (.aload_n 0, 1) := by decide +kernel
theorem dd_X9_take_151 : decode m_X9_take.2.1 151 = .ok (.aload_n 1, 1) := by decide +kernel
theorem dd_X9_take_152 : decode m_X9_take.2.1 152 = .ok (.getfield 48, 3) := by decide +kernel
theorem dd_X9_take_155 : decode m_X9_take.2.1 155 = .ok (.putfield 48, 3) := by decide +kernel
theorem dd_X9_take_158 : decode m_X9_take.2.1 158 = .ok (.aload_n 0, 1) := by decide +kernel
theorem dd_X9_take_159 : decode m_X9_take.2.1 159 = .ok (.aload_n 1, 1) := by decide +kernel
theorem dd_X9_take_160 : decode m_X9_take.2.1 160 = .ok (.getfield 52, 3) := by decide +kernel
theorem dd_X9_take_163 : decode m_X9_take.2.1 163 = .ok (.putfield 52, 3) := by decide +kernel
theorem dd_X9_take_166 : decode m_X9_take.2.1 166 = .ok (.aload_n 0, 1) := by decide +kernel
theorem dd_X9_take_167 : decode m_X9_take.2.1 167 = .ok (.aload_n 1, 1) := by decide +kernel
theorem dd_X9_take_168 : decode m_X9_take.2.1 168 = .ok (.getfield 55, 3) := by decide +kernel
theorem dd_X9_take_171 : decode m_X9_take.2.1 171 = .ok (.putfield 55, 3) := by decide +kernel
theorem dd_X9_take_174 : decode m_X9_take.2.1 174 = .ok (.aload_n 0, 1) := by decide +kernel
theorem dd_X9_take_175 : decode m_X9_take.2.1 175 = .ok (.aload_n 1, 1) := by decide +kernel
theorem dd_X9_take_176 : decode m_X9_take.2.1 176 = .ok (.getfield 58, 3) := by decide +kernel
theorem dd_X9_take_179 : decode m_X9_take.2.1 179 = .ok (.putfield 58, 3) := by decide +kernel
theorem dd_X9_take_182 : decode m_X9_take.2.1 182 = .ok (.aload_n 0, 1) := by decide +kernel
theorem dd_X9_take_183 : decode m_X9_take.2.1 183 = .ok (.aload_n 1, 1) := by decide +kernel
theorem dd_X9_take_184 : decode m_X9_take.2.1 184 = .ok (.getfield 61, 3) := by decide +kernel
theorem dd_X9_take_187 : decode m_X9_take.2.1 187 = .ok (.putfield 61, 3) := by decide +kernel
theorem dd_X9_take_190 : decode m_X9_take.2.1 190 = .ok (.return_, 1) := by decide +kernel
def wp_X9_take_6_17  (s : fz_s) (Q : fz_s → Prop) : Prop :=
  (¬ (nI 60) < 0) ∧ ((0 : Int32).toNatClampNeg + (nI 60).toNatClampNeg ≤ 60) ∧ ((0 : Int32).toNatClampNeg + (nI 60).toNatClampNeg ≤ 60) ∧ ∀ s4 : fz_s, s4 = sa s 7 (va_cpy (s.1 18) (s.1 7) (0 : Int32).toNatClampNeg (0 : Int32).toNatClampNeg (nI 60).toNatClampNeg) → ∀ s5 : fz_s, s5 = sa s4 8 (va_cpy (s4.1 19) (s4.1 8) (0 : Int32).toNatClampNeg (0 : Int32).toNatClampNeg (2 : Int32).toNatClampNeg) → ∀ s6 : fz_s, s6 = sa s5 9 (va_cpy (s5.1 20) (s5.1 9) (0 : Int32).toNatClampNeg (0 : Int32).toNatClampNeg (2 : Int32).toNatClampNeg) → ∀ s7 : fz_s, s7 = sa s6 10 (va_cpy (s6.1 21) (s6.1 10) (0 : Int32).toNatClampNeg (0 : Int32).toNatClampNeg (8 : Int32).toNatClampNeg) → ∀ s8 : fz_s, s8 = sa s7 11 (va_cpy (s7.1 22) (s7.1 11) (0 : Int32).toNatClampNeg (0 : Int32).toNatClampNeg (8 : Int32).toNatClampNeg) → ∀ s9 : fz_s, s9 = sa s8 12 (va_cpy (s8.1 23) (s8.1 12) (0 : Int32).toNatClampNeg (0 : Int32).toNatClampNeg (8 : Int32).toNatClampNeg) → ∀ s10 : fz_s, s10 = sa s9 13 (va_cpy (s9.1 24) (s9.1 13) (0 : Int32).toNatClampNeg (0 : Int32).toNatClampNeg (8 : Int32).toNatClampNeg) → ∀ s11 : fz_s, s11 = sa s10 14 (va_cpy (s10.1 25) (s10.1 14) (0 : Int32).toNatClampNeg (0 : Int32).toNatClampNeg (1632 : Int32).toNatClampNeg) → ∀ s12 : fz_s, s12 = sa s11 15 (va_cpy (s11.1 26) (s11.1 15) (0 : Int32).toNatClampNeg (0 : Int32).toNatClampNeg (5 : Int32).toNatClampNeg) → ∀ s13 : fz_s, s13 = sa s12 16 (va_cpy (s12.1 27) (s12.1 16) (0 : Int32).toNatClampNeg (0 : Int32).toNatClampNeg (5 : Int32).toNatClampNeg) → ∀ s14 : fz_s, s14 = si s13 6 10 (s13.1 17 10) → ∀ s15 : fz_s, s15 = si s14 6 11 (s14.1 17 11) → ∀ s16 : fz_s, s16 = si s15 6 12 (s15.1 17 12) → ∀ s17 : fz_s, s17 = si s16 6 13 (s16.1 17 13) → ∀ s18 : fz_s, s18 = si s17 6 14 (s17.1 17 14) → Q s18
set_option maxRecDepth 100000 in
set_option maxHeartbeats 4000000 in
theorem V_X9_take_6_17 {g : fz_G} {l : Launch} {d : Nat} (hD : 1 ≤ d)   {s : fz_s} {Q : fz_s → Prop} (H : wp_X9_take_6_17  s Q) : fs_V g l m_X9_take d true 0 (fz_en [.ref 6, .ref 17] 2) [] s (rV Q) := by
  obtain ⟨d, rfl⟩ : ∃ e, d = e + 1 := ⟨d - 1, by omega⟩
  unfold wp_X9_take_6_17 at H
  refine fs_aload_n (k0 := 1) (i := 1) dd_X9_take_0 rfl rfl ?_
  refine fs_getr (ci := 9) (j := 0) (q := 18) dd_X9_take_1 fl_X9_9 ca_17 rfl (Or.inr ⟨_, rfl⟩) rfl (by decide) ?_
  refine fs_iconst (n := 0) (v := 0) dd_X9_take_4 (by decide) ?_
  refine fs_aload_n (k0 := 0) (i := 0) dd_X9_take_5 rfl rfl ?_
  refine fs_getr (ci := 9) (j := 0) (q := 7) dd_X9_take_6 fl_X9_9 ca_6 rfl (Or.inr ⟨_, rfl⟩) rfl (by decide) ?_
  refine fs_iconst (n := 0) (v := 0) dd_X9_take_9 (by decide) ?_
  refine fs_aload_n (k0 := 0) (i := 0) dd_X9_take_10 rfl rfl ?_
  refine fs_getr (ci := 9) (j := 0) (q := 7) dd_X9_take_11 fl_X9_9 ca_6 rfl (Or.inr ⟨_, rfl⟩) rfl (by decide) ?_
  refine fs_alen dd_X9_take_14 ca_7 ?_
  have hc1 := H.1
  replace H := H.2
  have hc2 := H.1
  replace H := H.2
  have hc3 := H.1
  replace H := H.2
  refine fs_copy dd_X9_take_15 lk_X9_42 ca_18 ca_7 (by decide) (by decide) hc1 hc2 hc3 (Nat.le_of_ble_eq_true rfl) ?_
  refine fs_tops (fun s4 hs4 => ?_)
  replace H := H s4 hs4
  refine fs_aload_n (k0 := 1) (i := 1) dd_X9_take_18 rfl rfl ?_
  refine fs_getr (ci := 9) (j := 1) (q := 19) dd_X9_take_19 fl_X9_15 ca_17 rfl (Or.inr ⟨_, rfl⟩) rfl (by decide) ?_
  refine fs_iconst (n := 0) (v := 0) dd_X9_take_22 (by decide) ?_
  refine fs_aload_n (k0 := 0) (i := 0) dd_X9_take_23 rfl rfl ?_
  refine fs_getr (ci := 9) (j := 1) (q := 8) dd_X9_take_24 fl_X9_15 ca_6 rfl (Or.inr ⟨_, rfl⟩) rfl (by decide) ?_
  refine fs_iconst (n := 0) (v := 0) dd_X9_take_27 (by decide) ?_
  refine fs_iconst (n := 2) (v := 2) dd_X9_take_28 (by decide) ?_
  refine fs_copy dd_X9_take_29 lk_X9_42 ca_19 ca_8 (by decide) (by decide) (by decide) (by decide) (by decide) (Nat.le_of_ble_eq_true rfl) ?_
  refine fs_tops (fun s5 hs5 => ?_)
  replace H := H s5 hs5
  refine fs_aload_n (k0 := 1) (i := 1) dd_X9_take_32 rfl rfl ?_
  refine fs_getr (ci := 9) (j := 2) (q := 20) dd_X9_take_33 fl_X9_18 ca_17 rfl (Or.inr ⟨_, rfl⟩) rfl (by decide) ?_
  refine fs_iconst (n := 0) (v := 0) dd_X9_take_36 (by decide) ?_
  refine fs_aload_n (k0 := 0) (i := 0) dd_X9_take_37 rfl rfl ?_
  refine fs_getr (ci := 9) (j := 2) (q := 9) dd_X9_take_38 fl_X9_18 ca_6 rfl (Or.inr ⟨_, rfl⟩) rfl (by decide) ?_
  refine fs_iconst (n := 0) (v := 0) dd_X9_take_41 (by decide) ?_
  refine fs_iconst (n := 2) (v := 2) dd_X9_take_42 (by decide) ?_
  refine fs_copy dd_X9_take_43 lk_X9_42 ca_20 ca_9 (by decide) (by decide) (by decide) (by decide) (by decide) (Nat.le_of_ble_eq_true rfl) ?_
  refine fs_tops (fun s6 hs6 => ?_)
  replace H := H s6 hs6
  refine fs_aload_n (k0 := 1) (i := 1) dd_X9_take_46 rfl rfl ?_
  refine fs_getr (ci := 9) (j := 3) (q := 21) dd_X9_take_47 fl_X9_21 ca_17 rfl (Or.inr ⟨_, rfl⟩) rfl (by decide) ?_
  refine fs_iconst (n := 0) (v := 0) dd_X9_take_50 (by decide) ?_
  refine fs_aload_n (k0 := 0) (i := 0) dd_X9_take_51 rfl rfl ?_
  refine fs_getr (ci := 9) (j := 3) (q := 10) dd_X9_take_52 fl_X9_21 ca_6 rfl (Or.inr ⟨_, rfl⟩) rfl (by decide) ?_
  refine fs_iconst (n := 0) (v := 0) dd_X9_take_55 (by decide) ?_
  refine fs_bipush (n := 8) (v := 8) dd_X9_take_56 (by decide) ?_
  refine fs_copy dd_X9_take_58 lk_X9_42 ca_21 ca_10 (by decide) (by decide) (by decide) (by decide) (by decide) (Nat.le_of_ble_eq_true rfl) ?_
  refine fs_tops (fun s7 hs7 => ?_)
  replace H := H s7 hs7
  refine fs_aload_n (k0 := 1) (i := 1) dd_X9_take_61 rfl rfl ?_
  refine fs_getr (ci := 9) (j := 4) (q := 22) dd_X9_take_62 fl_X9_24 ca_17 rfl (Or.inr ⟨_, rfl⟩) rfl (by decide) ?_
  refine fs_iconst (n := 0) (v := 0) dd_X9_take_65 (by decide) ?_
  refine fs_aload_n (k0 := 0) (i := 0) dd_X9_take_66 rfl rfl ?_
  refine fs_getr (ci := 9) (j := 4) (q := 11) dd_X9_take_67 fl_X9_24 ca_6 rfl (Or.inr ⟨_, rfl⟩) rfl (by decide) ?_
  refine fs_iconst (n := 0) (v := 0) dd_X9_take_70 (by decide) ?_
  refine fs_bipush (n := 8) (v := 8) dd_X9_take_71 (by decide) ?_
  refine fs_copy dd_X9_take_73 lk_X9_42 ca_22 ca_11 (by decide) (by decide) (by decide) (by decide) (by decide) (Nat.le_of_ble_eq_true rfl) ?_
  refine fs_tops (fun s8 hs8 => ?_)
  replace H := H s8 hs8
  refine fs_aload_n (k0 := 1) (i := 1) dd_X9_take_76 rfl rfl ?_
  refine fs_getr (ci := 9) (j := 5) (q := 23) dd_X9_take_77 fl_X9_27 ca_17 rfl (Or.inr ⟨_, rfl⟩) rfl (by decide) ?_
  refine fs_iconst (n := 0) (v := 0) dd_X9_take_80 (by decide) ?_
  refine fs_aload_n (k0 := 0) (i := 0) dd_X9_take_81 rfl rfl ?_
  refine fs_getr (ci := 9) (j := 5) (q := 12) dd_X9_take_82 fl_X9_27 ca_6 rfl (Or.inr ⟨_, rfl⟩) rfl (by decide) ?_
  refine fs_iconst (n := 0) (v := 0) dd_X9_take_85 (by decide) ?_
  refine fs_bipush (n := 8) (v := 8) dd_X9_take_86 (by decide) ?_
  refine fs_copy dd_X9_take_88 lk_X9_42 ca_23 ca_12 (by decide) (by decide) (by decide) (by decide) (by decide) (Nat.le_of_ble_eq_true rfl) ?_
  refine fs_tops (fun s9 hs9 => ?_)
  replace H := H s9 hs9
  refine fs_aload_n (k0 := 1) (i := 1) dd_X9_take_91 rfl rfl ?_
  refine fs_getr (ci := 9) (j := 6) (q := 24) dd_X9_take_92 fl_X9_30 ca_17 rfl (Or.inr ⟨_, rfl⟩) rfl (by decide) ?_
  refine fs_iconst (n := 0) (v := 0) dd_X9_take_95 (by decide) ?_
  refine fs_aload_n (k0 := 0) (i := 0) dd_X9_take_96 rfl rfl ?_
  refine fs_getr (ci := 9) (j := 6) (q := 13) dd_X9_take_97 fl_X9_30 ca_6 rfl (Or.inr ⟨_, rfl⟩) rfl (by decide) ?_
  refine fs_iconst (n := 0) (v := 0) dd_X9_take_100 (by decide) ?_
  refine fs_bipush (n := 8) (v := 8) dd_X9_take_101 (by decide) ?_
  refine fs_copy dd_X9_take_103 lk_X9_42 ca_24 ca_13 (by decide) (by decide) (by decide) (by decide) (by decide) (Nat.le_of_ble_eq_true rfl) ?_
  refine fs_tops (fun s10 hs10 => ?_)
  replace H := H s10 hs10
  refine fs_aload_n (k0 := 1) (i := 1) dd_X9_take_106 rfl rfl ?_
  refine fs_getr (ci := 9) (j := 7) (q := 25) dd_X9_take_107 fl_X9_33 ca_17 rfl (Or.inr ⟨_, rfl⟩) rfl (by decide) ?_
  refine fs_iconst (n := 0) (v := 0) dd_X9_take_110 (by decide) ?_
  refine fs_aload_n (k0 := 0) (i := 0) dd_X9_take_111 rfl rfl ?_
  refine fs_getr (ci := 9) (j := 7) (q := 14) dd_X9_take_112 fl_X9_33 ca_6 rfl (Or.inr ⟨_, rfl⟩) rfl (by decide) ?_
  refine fs_iconst (n := 0) (v := 0) dd_X9_take_115 (by decide) ?_
  refine fs_sipush (n := 1632) (v := 1632) dd_X9_take_116 (by decide) ?_
  refine fs_copy dd_X9_take_119 lk_X9_42 ca_25 ca_14 (by decide) (by decide) (by decide) (by decide) (by decide) (Nat.le_of_ble_eq_true rfl) ?_
  refine fs_tops (fun s11 hs11 => ?_)
  replace H := H s11 hs11
  refine fs_aload_n (k0 := 1) (i := 1) dd_X9_take_122 rfl rfl ?_
  refine fs_getr (ci := 9) (j := 8) (q := 26) dd_X9_take_123 fl_X9_36 ca_17 rfl (Or.inr ⟨_, rfl⟩) rfl (by decide) ?_
  refine fs_iconst (n := 0) (v := 0) dd_X9_take_126 (by decide) ?_
  refine fs_aload_n (k0 := 0) (i := 0) dd_X9_take_127 rfl rfl ?_
  refine fs_getr (ci := 9) (j := 8) (q := 15) dd_X9_take_128 fl_X9_36 ca_6 rfl (Or.inr ⟨_, rfl⟩) rfl (by decide) ?_
  refine fs_iconst (n := 0) (v := 0) dd_X9_take_131 (by decide) ?_
  refine fs_iconst (n := 5) (v := 5) dd_X9_take_132 (by decide) ?_
  refine fs_copy dd_X9_take_133 lk_X9_42 ca_26 ca_15 (by decide) (by decide) (by decide) (by decide) (by decide) (Nat.le_of_ble_eq_true rfl) ?_
  refine fs_tops (fun s12 hs12 => ?_)
  replace H := H s12 hs12
  refine fs_aload_n (k0 := 1) (i := 1) dd_X9_take_136 rfl rfl ?_
  refine fs_getr (ci := 9) (j := 9) (q := 27) dd_X9_take_137 fl_X9_39 ca_17 rfl (Or.inr ⟨_, rfl⟩) rfl (by decide) ?_
  refine fs_iconst (n := 0) (v := 0) dd_X9_take_140 (by decide) ?_
  refine fs_aload_n (k0 := 0) (i := 0) dd_X9_take_141 rfl rfl ?_
  refine fs_getr (ci := 9) (j := 9) (q := 16) dd_X9_take_142 fl_X9_39 ca_6 rfl (Or.inr ⟨_, rfl⟩) rfl (by decide) ?_
  refine fs_iconst (n := 0) (v := 0) dd_X9_take_145 (by decide) ?_
  refine fs_iconst (n := 5) (v := 5) dd_X9_take_146 (by decide) ?_
  refine fs_copy dd_X9_take_147 lk_X9_42 ca_27 ca_16 (by decide) (by decide) (by decide) (by decide) (by decide) (Nat.le_of_ble_eq_true rfl) ?_
  refine fs_tops (fun s13 hs13 => ?_)
  replace H := H s13 hs13
  refine fs_aload_n (k0 := 0) (i := 0) dd_X9_take_150 rfl rfl ?_
  refine fs_aload_n (k0 := 1) (i := 1) dd_X9_take_151 rfl rfl ?_
  refine fs_geti (ci := 9) (j := 10) dd_X9_take_152 fl_X9_48 ca_17 rfl (Or.inl rfl) ?_
  refine fs_puti (ci := 9) (j := 10) dd_X9_take_155 fl_X9_48 (fun _ _ _ h => by cases h; rfl) ca_6 rfl (Or.inl rfl) ?_
  refine fs_tops (fun s14 hs14 => ?_)
  replace H := H s14 hs14
  refine fs_aload_n (k0 := 0) (i := 0) dd_X9_take_158 rfl rfl ?_
  refine fs_aload_n (k0 := 1) (i := 1) dd_X9_take_159 rfl rfl ?_
  refine fs_geti (ci := 9) (j := 11) dd_X9_take_160 fl_X9_52 ca_17 rfl (Or.inl rfl) ?_
  refine fs_puti (ci := 9) (j := 11) dd_X9_take_163 fl_X9_52 (fun _ _ _ h => by cases h; rfl) ca_6 rfl (Or.inl rfl) ?_
  refine fs_tops (fun s15 hs15 => ?_)
  replace H := H s15 hs15
  refine fs_aload_n (k0 := 0) (i := 0) dd_X9_take_166 rfl rfl ?_
  refine fs_aload_n (k0 := 1) (i := 1) dd_X9_take_167 rfl rfl ?_
  refine fs_geti (ci := 9) (j := 12) dd_X9_take_168 fl_X9_55 ca_17 rfl (Or.inl rfl) ?_
  refine fs_puti (ci := 9) (j := 12) dd_X9_take_171 fl_X9_55 (fun _ _ _ h => by cases h; rfl) ca_6 rfl (Or.inl rfl) ?_
  refine fs_tops (fun s16 hs16 => ?_)
  replace H := H s16 hs16
  refine fs_aload_n (k0 := 0) (i := 0) dd_X9_take_174 rfl rfl ?_
  refine fs_aload_n (k0 := 1) (i := 1) dd_X9_take_175 rfl rfl ?_
  refine fs_geti (ci := 9) (j := 13) dd_X9_take_176 fl_X9_58 ca_17 rfl (Or.inl rfl) ?_
  refine fs_puti (ci := 9) (j := 13) dd_X9_take_179 fl_X9_58 (fun _ _ _ h => by cases h; rfl) ca_6 rfl (Or.inl rfl) ?_
  refine fs_tops (fun s17 hs17 => ?_)
  replace H := H s17 hs17
  refine fs_aload_n (k0 := 0) (i := 0) dd_X9_take_182 rfl rfl ?_
  refine fs_aload_n (k0 := 1) (i := 1) dd_X9_take_183 rfl rfl ?_
  refine fs_geti (ci := 9) (j := 14) dd_X9_take_184 fl_X9_61 ca_17 rfl (Or.inl rfl) ?_
  refine fs_puti (ci := 9) (j := 14) dd_X9_take_187 fl_X9_61 (fun _ _ _ h => by cases h; rfl) ca_6 rfl (Or.inl rfl) ?_
  refine fs_tops (fun s18 hs18 => ?_)
  replace H := H s18 hs18
  exact fs_vret dd_X9_take_190 rfl H
theorem dd_X10_begin_0 : decode m_X10_begin.2.1 0 = .ok (.aload_n 1, 1) := by decide +kernel
theorem dd_X10_begin_1 : decode m_X10_begin.2.1 1 = .ok (.getfield 40, 3) := by decide +kernel
theorem dd_X10_begin_4 : decode m_X10_begin.2.1 4 = .ok (.iconst 0, 1) := by decide +kernel
theorem dd_X10_begin_5 : decode m_X10_begin.2.1 5 = .ok (.aload_n 0, 1) := by decide +kernel
theorem dd_X10_begin_6 : decode m_X10_begin.2.1 6 = .ok (.getfield 9, 3) := by decide +kernel
theorem dd_X10_begin_9 : decode m_X10_begin.2.1 9 = .ok (.iconst 0, 1) := by decide +kernel
theorem dd_X10_begin_10 : decode m_X10_begin.2.1 10 = .ok (.iconst 2, 1) := by decide +kernel
theorem dd_X10_begin_11 : decode m_X10_begin.2.1 11 = .ok (.invokestatic 27, 3) := by decide +kernel
theorem dd_X10_begin_14 : decode m_X10_begin.2.1 14 = .ok (.aload_n 1, 1) := by decide +kernel
theorem dd_X10_begin_15 : decode m_X10_begin.2.1 15 = .ok (.getfield 43, 3) := by decide +kernel
theorem dd_X10_begin_18 : decode m_X10_begin.2.1 18 = .ok (.iconst 0, 1) := by decide +kernel
theorem dd_X10_begin_19 : decode m_X10_begin.2.1 19 = .ok (.aload_n 0, 1) := by decide +kernel
theorem dd_X10_begin_20 : decode m_X10_begin.2.1 20 = .ok (.getfield 15, 3) := by decide +kernel
theorem dd_X10_begin_23 : decode m_X10_begin.2.1 23 = .ok (.iconst 0, 1) := by decide +kernel
theorem dd_X10_begin_24 : decode m_X10_begin.2.1 24 = .ok (.iconst 2, 1) := by decide +kernel
theorem dd_X10_begin_25 : decode m_X10_begin.2.1 25 = .ok (.invokestatic 27, 3) := by decide +kernel
theorem dd_X10_begin_28 : decode m_X10_begin.2.1 28 = .ok (.aload_n 1, 1) := by decide +kernel
theorem dd_X10_begin_29 : decode m_X10_begin.2.1 29 = .ok (.getfield 44, 3) := by decide +kernel
theorem dd_X10_begin_32 : decode m_X10_begin.2.1 32 = .ok (.iconst 0, 1) := by decide +kernel
theorem dd_X10_begin_33 : decode m_X10_begin.2.1 33 = .ok (.aload_n 0, 1) := by decide +kernel
theorem dd_X10_begin_34 : decode m_X10_begin.2.1 34 = .ok (.getfield 18, 3) := by decide +kernel
theorem dd_X10_begin_37 : decode m_X10_begin.2.1 37 = .ok (.iconst 0, 1) := by decide +kernel
theorem dd_X10_begin_38 : decode m_X10_begin.2.1 38 = .ok (.bipush 8, 2) := by decide +kernel
theorem dd_X10_begin_40 : decode m_X10_begin.2.1 40 = .ok (.invokestatic 27, 3) := by decide +kernel
theorem dd_X10_begin_43 : decode m_X10_begin.2.1 43 = .ok (.aload_n 1, 1) := by decide +kernel
theorem dd_X10_begin_44 : decode m_X10_begin.2.1 44 = .ok (.getfield 45, 3) := by decide +kernel
theorem dd_X10_begin_47 : decode m_X10_begin.2.1 47 = .ok (.iconst 0, 1) := by decide +kernel
theorem dd_X10_begin_48 : decode m_X10_begin.2.1 48 = .ok (.aload_n 0, 1) := by decide +kernel
theorem dd_X10_begin_49 : decode m_X10_begin.2.1 49 = .ok (.getfield 21, 3) := by decide +kernel
theorem dd_X10_begin_52 : decode m_X10_begin.2.1 52 = .ok (.iconst 0, 1) := by decide +kernel
theorem dd_X10_begin_53 : decode m_X10_begin.2.1 53 = .ok (.bipush 8, 2) := by decide +kernel
theorem dd_X10_begin_55 : decode m_X10_begin.2.1 55 = .ok (.invokestatic 27, 3) := by decide +kernel
theorem dd_X10_begin_58 : decode m_X10_begin.2.1 58 = .ok (.iconst 0, 1) := by decide +kernel
theorem dd_X10_begin_59 : decode m_X10_begin.2.1 59 = .ok (.istore_n 2, 1) := by decide +kernel
theorem dd_X10_begin_60 : decode m_X10_begin.2.1 60 = .ok (.iload_n 2, 1) := by decide +kernel
theorem dd_X10_begin_61 : decode m_X10_begin.2.1 61 = .ok (.bipush 8, 2) := by decide +kernel
theorem dd_X10_begin_63 : decode m_X10_begin.2.1 63 = .ok (.if_icmp .ge 16, 3) := by decide +kernel
theorem dd_X10_begin_66 : decode m_X10_begin.2.1 66 = .ok (.aload_n 0, 1) := by decide +kernel
theorem dd_X10_begin_67 : decode m_X10_begin.2.1 67 = .ok (.getfield 24, 3) := by decide +kernel
theorem dd_X10_begin_70 : decode m_X10_begin.2.1 70 = .ok (.iload_n 2, 1) := by decide +kernel
theorem dd_X10_begin_71 : decode m_X10_begin.2.1 71 = .ok (.iconst 0, 1) := by decide +kernel
theorem dd_X10_begin_72 : decode m_X10_begin.2.1 72 = .ok (.iastore, 1) := by decide +kernel
theorem dd_X10_begin_73 : decode m_X10_begin.2.1 73 = .ok (.iinc 2 1, 3) := by decide +kernel
theorem dd_X10_begin_76 : decode m_X10_begin.2.1 76 = .ok (.goto (-16), 3) := by decide +kernel
theorem dd_X10_begin_79 : decode m_X10_begin.2.1 79 = .ok (.aload_n 0, 1) := by decide +kernel
theorem dd_X10_begin_80 : decode m_X10_begin.2.1 80 = .ok (.iconst 0, 1) := by decide +kernel
theorem dd_X10_begin_81 : decode m_X10_begin.2.1 81 = .ok (.putfield 33, 3) := by decide +kernel
theorem dd_X10_begin_84 : decode m_X10_begin.2.1 84 = .ok (.aload_n 0, 1) := by decide +kernel
theorem dd_X10_begin_85 : decode m_X10_begin.2.1 85 = .ok (.iconst 0, 1) := by decide +kernel
theorem dd_X10_begin_86 : decode m_X10_begin.2.1 86 = .ok (.putfield 37, 3) := by decide +kernel
theorem dd_X10_begin_89 : decode m_X10_begin.2.1 89 = .ok (.return_, 1) := by decide +kernel
def nd_X10_begin_6_60 (w : Nat) (K60 : Int32 → fz_s → Prop) (Q : fz_s → Prop) (v2 : Int32) (s : fz_s) : Prop :=
  ((8 ≤ v2 → ∀ s1 : fz_s, s1 = si s w 5 0 → ∀ s2 : fz_s, s2 = si s1 w 6 0 → Q s2) ∧ (¬ 8 ≤ v2 → vp_in v2 8 ∧ ∀ s3 : fz_s, s3 = si s (w + 1 + 4) v2.toNatClampNeg 0 → ∀ x4 : Int32, x4 = v2 + 1 → K60 x4 s3))
def lp_X10_begin_6_60 (w : Nat)  (Q : fz_s → Prop) : Nat → Int32 → fz_s → Prop
  | 0 => fun _ _ => False
  | n + 1 => nd_X10_begin_6_60 w (lp_X10_begin_6_60 w  Q n) Q
def wp_X10_begin_6 (w : Nat) (s : fz_s) (Q : fz_s → Prop) : Prop :=
  ∀ s1 : fz_s, s1 = sa s (w + 1 + 0) (va_cpy (s.1 8) (s.1 (w + 1 + 0)) (0 : Int32).toNatClampNeg (0 : Int32).toNatClampNeg (2 : Int32).toNatClampNeg) → ∀ s2 : fz_s, s2 = sa s1 (w + 1 + 1) (va_cpy (s1.1 9) (s1.1 (w + 1 + 1)) (0 : Int32).toNatClampNeg (0 : Int32).toNatClampNeg (2 : Int32).toNatClampNeg) → ∀ s3 : fz_s, s3 = sa s2 (w + 1 + 2) (va_cpy (s2.1 11) (s2.1 (w + 1 + 2)) (0 : Int32).toNatClampNeg (0 : Int32).toNatClampNeg (8 : Int32).toNatClampNeg) → ∀ s4 : fz_s, s4 = sa s3 (w + 1 + 3) (va_cpy (s3.1 10) (s3.1 (w + 1 + 3)) (0 : Int32).toNatClampNeg (0 : Int32).toNatClampNeg (8 : Int32).toNatClampNeg) → lp_X10_begin_6_60 w  Q 2048 0 s4
set_option maxRecDepth 100000 in
set_option maxHeartbeats 4000000 in
theorem V_nd_X10_begin_6_60 {g : fz_G} {l : Launch} {d : Nat} (hD : 1 ≤ d) {w : Nat} (hw : fz_at true w 10 7) {K60 : Int32 → fz_s → Prop} {Q : fz_s → Prop} {v2 : Int32} {s : fz_s} (hK60 : ∀ {v2 : Int32} {s : fz_s}, K60 v2 s → fs_V g l m_X10_begin d true 60 [.ref w, fz_J, .int v2] [] s (rV Q)) (H : nd_X10_begin_6_60 w K60 Q v2 s) : fs_V g l m_X10_begin d true 60 [.ref w, fz_J, .int v2] [] s (rV Q) := by
  obtain ⟨d, rfl⟩ : ∃ e, d = e + 1 := ⟨d - 1, by omega⟩
  unfold nd_X10_begin_6_60 at H
  refine fs_iload_n (k0 := 2) (i := 2) dd_X10_begin_60 rfl rfl ?_
  refine fs_bipush (n := 8) (v := 8) dd_X10_begin_61 (by decide) ?_
  refine fs_icmp_ge (tgt := 79) dd_X10_begin_63 (by decide) (fun hc => ?_) (fun hc => ?_)
  · replace H := H.1 hc
    refine fs_aload_n (k0 := 0) (i := 0) dd_X10_begin_79 rfl rfl ?_
    refine fs_iconst (n := 0) (v := 0) dd_X10_begin_80 (by decide) ?_
    refine fs_puti (ci := 10) (j := 5) dd_X10_begin_81 fl_X10_33 (fun _ _ _ h => by cases h; rfl) hw rfl (Or.inl rfl) ?_
    refine fs_tops (fun s1 hs1 => ?_)
    replace H := H s1 hs1
    refine fs_aload_n (k0 := 0) (i := 0) dd_X10_begin_84 rfl rfl ?_
    refine fs_iconst (n := 0) (v := 0) dd_X10_begin_85 (by decide) ?_
    refine fs_puti (ci := 10) (j := 6) dd_X10_begin_86 fl_X10_37 (fun _ _ _ h => by cases h; rfl) hw rfl (Or.inl rfl) ?_
    refine fs_tops (fun s2 hs2 => ?_)
    replace H := H s2 hs2
    exact fs_vret dd_X10_begin_89 rfl H
  · replace H := H.2 hc
    refine fs_aload_n (k0 := 0) (i := 0) dd_X10_begin_66 rfl rfl ?_
    refine fs_getr (ci := 10) (j := 4) (q := (w + 1 + 4)) dd_X10_begin_67 fl_X10_24 hw rfl (Or.inr ⟨_, rfl⟩) ((fz_W hw).1 4 (by decide)) (fun q => (fz_W hw).2.2.2 q.1) ?_
    refine fs_iload_n (k0 := 2) (i := 2) dd_X10_begin_70 rfl rfl ?_
    refine fs_iconst (n := 0) (v := 0) dd_X10_begin_71 (by decide) ?_
    have hb := H.1
    replace H := H.2
    refine fs_iast dd_X10_begin_72 ((fz_W hw).2.2.1 4 (by decide) (by decide)) hb ?_
    refine fs_tops (fun s3 hs3 => ?_)
    replace H := H s3 hs3
    refine fs_iincN (i := 2) (m := 1) (c := 1) dd_X10_begin_73 rfl (by decide) (by decide) (fun x4 hx4 => ?_)
    replace H := H x4 hx4
    refine fs_goto (tgt := 60) dd_X10_begin_76 (by decide) ?_
    refine fs_weak (ls2 := [.ref w, fz_J, .int x4]) (fz_le_e (fz_le_j (fz_le_e fz_le_n))) ?_
    exact hK60 H
set_option maxRecDepth 100000 in
set_option maxHeartbeats 4000000 in
theorem V_lp_X10_begin_6_60 {g : fz_G} {l : Launch} {d : Nat} (hD : 1 ≤ d) {w : Nat} (hw : fz_at true w 10 7)  {Q : fz_s → Prop}  (n : Nat) : ∀ {v2 : Int32} {s : fz_s}, lp_X10_begin_6_60 w  Q n v2 s → fs_V g l m_X10_begin d true 60 [.ref w, fz_J, .int v2] [] s (rV Q) := by
  induction n with
  | zero => intro v2 s H; exact H.elim
  | succ n ih => intro v2 s H; exact V_nd_X10_begin_6_60 hD hw (fun H => ih H) H
set_option maxRecDepth 100000 in
set_option maxHeartbeats 4000000 in
theorem V_X10_begin_6 {g : fz_G} {l : Launch} {d : Nat} (hD : 1 ≤ d) {w : Nat} (hw : fz_at true w 10 7) {s : fz_s} {Q : fz_s → Prop} (H : wp_X10_begin_6 w s Q) : fs_V g l m_X10_begin d true 0 (fz_en [.ref w, .ref 6] 3) [] s (rV Q) := by
  obtain ⟨d, rfl⟩ : ∃ e, d = e + 1 := ⟨d - 1, by omega⟩
  unfold wp_X10_begin_6 at H
  refine fs_aload_n (k0 := 1) (i := 1) dd_X10_begin_0 rfl rfl ?_
  refine fs_getr (ci := 9) (j := 1) (q := 8) dd_X10_begin_1 fl_X10_40 ca_6 rfl (Or.inr ⟨_, rfl⟩) rfl (by decide) ?_
  refine fs_iconst (n := 0) (v := 0) dd_X10_begin_4 (by decide) ?_
  refine fs_aload_n (k0 := 0) (i := 0) dd_X10_begin_5 rfl rfl ?_
  refine fs_getr (ci := 10) (j := 0) (q := (w + 1 + 0)) dd_X10_begin_6 fl_X10_9 hw rfl (Or.inr ⟨_, rfl⟩) ((fz_W hw).1 0 (by decide)) (fun q => (fz_W hw).2.2.2 q.1) ?_
  refine fs_iconst (n := 0) (v := 0) dd_X10_begin_9 (by decide) ?_
  refine fs_iconst (n := 2) (v := 2) dd_X10_begin_10 (by decide) ?_
  refine fs_copy dd_X10_begin_11 lk_X10_27 ca_8 ((fz_W hw).2.1 0 (by decide)) (by decide) (by decide) (by decide) (by decide) (by decide) (Nat.le_of_ble_eq_true rfl) ?_
  refine fs_tops (fun s1 hs1 => ?_)
  replace H := H s1 hs1
  refine fs_aload_n (k0 := 1) (i := 1) dd_X10_begin_14 rfl rfl ?_
  refine fs_getr (ci := 9) (j := 2) (q := 9) dd_X10_begin_15 fl_X10_43 ca_6 rfl (Or.inr ⟨_, rfl⟩) rfl (by decide) ?_
  refine fs_iconst (n := 0) (v := 0) dd_X10_begin_18 (by decide) ?_
  refine fs_aload_n (k0 := 0) (i := 0) dd_X10_begin_19 rfl rfl ?_
  refine fs_getr (ci := 10) (j := 1) (q := (w + 1 + 1)) dd_X10_begin_20 fl_X10_15 hw rfl (Or.inr ⟨_, rfl⟩) ((fz_W hw).1 1 (by decide)) (fun q => (fz_W hw).2.2.2 q.1) ?_
  refine fs_iconst (n := 0) (v := 0) dd_X10_begin_23 (by decide) ?_
  refine fs_iconst (n := 2) (v := 2) dd_X10_begin_24 (by decide) ?_
  refine fs_copy dd_X10_begin_25 lk_X10_27 ca_9 ((fz_W hw).2.1 1 (by decide)) (by decide) (by decide) (by decide) (by decide) (by decide) (Nat.le_of_ble_eq_true rfl) ?_
  refine fs_tops (fun s2 hs2 => ?_)
  replace H := H s2 hs2
  refine fs_aload_n (k0 := 1) (i := 1) dd_X10_begin_28 rfl rfl ?_
  refine fs_getr (ci := 9) (j := 4) (q := 11) dd_X10_begin_29 fl_X10_44 ca_6 rfl (Or.inr ⟨_, rfl⟩) rfl (by decide) ?_
  refine fs_iconst (n := 0) (v := 0) dd_X10_begin_32 (by decide) ?_
  refine fs_aload_n (k0 := 0) (i := 0) dd_X10_begin_33 rfl rfl ?_
  refine fs_getr (ci := 10) (j := 2) (q := (w + 1 + 2)) dd_X10_begin_34 fl_X10_18 hw rfl (Or.inr ⟨_, rfl⟩) ((fz_W hw).1 2 (by decide)) (fun q => (fz_W hw).2.2.2 q.1) ?_
  refine fs_iconst (n := 0) (v := 0) dd_X10_begin_37 (by decide) ?_
  refine fs_bipush (n := 8) (v := 8) dd_X10_begin_38 (by decide) ?_
  refine fs_copy dd_X10_begin_40 lk_X10_27 ca_11 ((fz_W hw).2.2.1 2 (by decide) (by decide)) (by decide) (by decide) (by decide) (by decide) (by decide) (Nat.le_of_ble_eq_true rfl) ?_
  refine fs_tops (fun s3 hs3 => ?_)
  replace H := H s3 hs3
  refine fs_aload_n (k0 := 1) (i := 1) dd_X10_begin_43 rfl rfl ?_
  refine fs_getr (ci := 9) (j := 3) (q := 10) dd_X10_begin_44 fl_X10_45 ca_6 rfl (Or.inr ⟨_, rfl⟩) rfl (by decide) ?_
  refine fs_iconst (n := 0) (v := 0) dd_X10_begin_47 (by decide) ?_
  refine fs_aload_n (k0 := 0) (i := 0) dd_X10_begin_48 rfl rfl ?_
  refine fs_getr (ci := 10) (j := 3) (q := (w + 1 + 3)) dd_X10_begin_49 fl_X10_21 hw rfl (Or.inr ⟨_, rfl⟩) ((fz_W hw).1 3 (by decide)) (fun q => (fz_W hw).2.2.2 q.1) ?_
  refine fs_iconst (n := 0) (v := 0) dd_X10_begin_52 (by decide) ?_
  refine fs_bipush (n := 8) (v := 8) dd_X10_begin_53 (by decide) ?_
  refine fs_copy dd_X10_begin_55 lk_X10_27 ca_10 ((fz_W hw).2.2.1 3 (by decide) (by decide)) (by decide) (by decide) (by decide) (by decide) (by decide) (Nat.le_of_ble_eq_true rfl) ?_
  refine fs_tops (fun s4 hs4 => ?_)
  replace H := H s4 hs4
  refine fs_iconst (n := 0) (v := 0) dd_X10_begin_58 (by decide) ?_
  refine fs_istore_n (k0 := 2) (i := 2) dd_X10_begin_59 rfl (by decide) ?_
  refine fs_weak (ls2 := [.ref w, fz_J, .int 0]) (fz_le_e (fz_le_j (fz_le_e fz_le_n))) ?_
  exact V_lp_X10_begin_6_60 hD  hw  2048 H
theorem dd_X4_forget_0 : decode m_X4_forget.2.1 0 = .ok (.aload_n 0, 1) := by decide +kernel
theorem dd_X4_forget_1 : decode m_X4_forget.2.1 1 = .ok (.iconst 0, 1) := by decide +kernel
theorem dd_X4_forget_2 : decode m_X4_forget.2.1 2 = .ok (.putfield 28, 3) := by decide +kernel
theorem dd_X4_forget_5 : decode m_X4_forget.2.1 5 = .ok (.aload_n 0, 1) := by decide +kernel
theorem dd_X4_forget_6 : decode m_X4_forget.2.1 6 = .ok (.iconst 0, 1) := by decide +kernel
theorem dd_X4_forget_7 : decode m_X4_forget.2.1 7 = .ok (.putfield 32, 3) := by decide +kernel
theorem dd_X4_forget_10 : decode m_X4_forget.2.1 10 = .ok (.return_, 1) := by decide +kernel
def wp_X4_forget  (s : fz_s) (Q : fz_s → Prop) : Prop :=
  ∀ s1 : fz_s, s1 = si s 47 5 0 → ∀ s2 : fz_s, s2 = si s1 47 4 0 → Q s2
set_option maxRecDepth 100000 in
set_option maxHeartbeats 4000000 in
theorem V_X4_forget {g : fz_G} {l : Launch} {d : Nat} (hD : 0 ≤ d)   {s : fz_s} {Q : fz_s → Prop} (H : wp_X4_forget  s Q) : fs_V g l m_X4_forget d true 0 (fz_en [.ref 47] 1) [] s (rV Q) := by
  unfold wp_X4_forget at H
  refine fs_aload_n (k0 := 0) (i := 0) dd_X4_forget_0 rfl rfl ?_
  refine fs_iconst (n := 0) (v := 0) dd_X4_forget_1 (by decide) ?_
  refine fs_puti (ci := 4) (j := 5) dd_X4_forget_2 fl_X4_28 (fun _ _ _ h => by cases h; rfl) ca_47 rfl (Or.inl rfl) ?_
  refine fs_tops (fun s1 hs1 => ?_)
  replace H := H s1 hs1
  refine fs_aload_n (k0 := 0) (i := 0) dd_X4_forget_5 rfl rfl ?_
  refine fs_iconst (n := 0) (v := 0) dd_X4_forget_6 (by decide) ?_
  refine fs_puti (ci := 4) (j := 4) dd_X4_forget_7 fl_X4_32 (fun _ _ _ h => by cases h; rfl) ca_47 rfl (Or.inl rfl) ?_
  refine fs_tops (fun s2 hs2 => ?_)
  replace H := H s2 hs2
  exact fs_vret dd_X4_forget_10 rfl H
theorem dd_X6_forget_0 : decode m_X6_forget.2.1 0 = .ok (.aload_n 0, 1) := by decide +kernel
theorem dd_X6_forget_1 : decode m_X6_forget.2.1 1 = .ok (.iconst 0, 1) := by decide +kernel
theorem dd_X6_forget_2 : decode m_X6_forget.2.1 2 = .ok (.putfield 32, 3) := by decide +kernel
theorem dd_X6_forget_5 : decode m_X6_forget.2.1 5 = .ok (.return_, 1) := by decide +kernel
def wp_X6_forget  (s : fz_s) (Q : fz_s → Prop) : Prop :=
  ∀ s1 : fz_s, s1 = si s 184 5 0 → Q s1
set_option maxRecDepth 100000 in
set_option maxHeartbeats 4000000 in
theorem V_X6_forget {g : fz_G} {l : Launch} {d : Nat} (hD : 0 ≤ d)   {s : fz_s} {Q : fz_s → Prop} (H : wp_X6_forget  s Q) : fs_V g l m_X6_forget d true 0 (fz_en [.ref 184] 1) [] s (rV Q) := by
  unfold wp_X6_forget at H
  refine fs_aload_n (k0 := 0) (i := 0) dd_X6_forget_0 rfl rfl ?_
  refine fs_iconst (n := 0) (v := 0) dd_X6_forget_1 (by decide) ?_
  refine fs_puti (ci := 6) (j := 5) dd_X6_forget_2 fl_X6_32 (fun _ _ _ h => by cases h; rfl) ca_184 rfl (Or.inl rfl) ?_
  refine fs_tops (fun s1 hs1 => ?_)
  replace H := H s1 hs1
  exact fs_vret dd_X6_forget_5 rfl H
theorem dd_X11_fault_0 : decode m_X11_fault.2.1 0 = .ok (.iload_n 1, 1) := by decide +kernel
theorem dd_X11_fault_1 : decode m_X11_fault.2.1 1 = .ok (.ifCond .ne 8, 3) := by decide +kernel
theorem dd_X11_fault_4 : decode m_X11_fault.2.1 4 = .ok (.aload_n 0, 1) := by decide +kernel
theorem dd_X11_fault_5 : decode m_X11_fault.2.1 5 = .ok (.getfield 153, 3) := by decide +kernel
theorem dd_X11_fault_8 : decode m_X11_fault.2.1 8 = .ok (.ireturn, 1) := by decide +kernel
theorem dd_X11_fault_9 : decode m_X11_fault.2.1 9 = .ok (.iload_n 1, 1) := by decide +kernel
theorem dd_X11_fault_10 : decode m_X11_fault.2.1 10 = .ok (.iconst 1, 1) := by decide +kernel
theorem dd_X11_fault_11 : decode m_X11_fault.2.1 11 = .ok (.if_icmp .ne 10, 3) := by decide +kernel
theorem dd_X11_fault_14 : decode m_X11_fault.2.1 14 = .ok (.aload_n 0, 1) := by decide +kernel
theorem dd_X11_fault_15 : decode m_X11_fault.2.1 15 = .ok (.getfield 112, 3) := by decide +kernel
theorem dd_X11_fault_18 : decode m_X11_fault.2.1 18 = .ok (.goto 4, 3) := by decide +kernel
theorem dd_X11_fault_21 : decode m_X11_fault.2.1 21 = .ok (.iconst (-1), 1) := by decide +kernel
theorem dd_X11_fault_22 : decode m_X11_fault.2.1 22 = .ok (.ireturn, 1) := by decide +kernel
def wp_X11_fault (p0 : Int32) (s : fz_s) (Q : Int32 → fz_s → Prop) : Prop :=
  ((¬ p0 = 0 → ((¬ p0 = 1 → Q (-1) s) ∧ (p0 = 1 → Q (s.1 2 19) s))) ∧ (p0 = 0 → Q (s.1 2 18) s))
set_option maxRecDepth 100000 in
set_option maxHeartbeats 4000000 in
theorem V_X11_fault {g : fz_G} {l : Launch} {d : Nat} (hD : 0 ≤ d) {p0 : Int32}  {s : fz_s} {Q : Int32 → fz_s → Prop} (H : wp_X11_fault p0 s Q) : fs_V g l m_X11_fault d true 0 (fz_en [.ref 2, .int p0] 2) [] s (rI Q) := by
  unfold wp_X11_fault at H
  refine fs_iload_n (k0 := 1) (i := 1) dd_X11_fault_0 rfl rfl ?_
  refine fs_if_ne (tgt := 9) dd_X11_fault_1 (by decide) (fun hc => ?_) (fun hc => ?_)
  · replace H := H.1 hc
    refine fs_iload_n (k0 := 1) (i := 1) dd_X11_fault_9 rfl rfl ?_
    refine fs_iconst (n := 1) (v := 1) dd_X11_fault_10 (by decide) ?_
    refine fs_icmp_ne (tgt := 21) dd_X11_fault_11 (by decide) (fun hc => ?_) (fun hc => ?_)
    · replace H := H.1 hc
      refine fs_iconst (n := -1) (v := -1) dd_X11_fault_21 (by decide) ?_
      exact fs_iret dd_X11_fault_22 rfl H
    · replace H := H.2 hc
      refine fs_aload_n (k0 := 0) (i := 0) dd_X11_fault_14 rfl rfl ?_
      refine fs_geti (ci := 11) (j := 19) dd_X11_fault_15 fl_X11_112 ca_2 rfl (Or.inl rfl) ?_
      refine fs_goto (tgt := 22) dd_X11_fault_18 (by decide) ?_
      exact fs_iret dd_X11_fault_22 rfl H
  · replace H := H.2 hc
    refine fs_aload_n (k0 := 0) (i := 0) dd_X11_fault_4 rfl rfl ?_
    refine fs_geti (ci := 11) (j := 18) dd_X11_fault_5 fl_X11_153 ca_2 rfl (Or.inl rfl) ?_
    exact fs_iret dd_X11_fault_8 rfl H
theorem dd_X11_bit_0 : decode m_X11_bit.2.1 0 = .ok (.iload_n 0, 1) := by decide +kernel
theorem dd_X11_bit_1 : decode m_X11_bit.2.1 1 = .ok (.ifCond .eq 7, 3) := by decide +kernel
theorem dd_X11_bit_4 : decode m_X11_bit.2.1 4 = .ok (.iconst 1, 1) := by decide +kernel
theorem dd_X11_bit_5 : decode m_X11_bit.2.1 5 = .ok (.goto 4, 3) := by decide +kernel
theorem dd_X11_bit_8 : decode m_X11_bit.2.1 8 = .ok (.iconst 0, 1) := by decide +kernel
theorem dd_X11_bit_9 : decode m_X11_bit.2.1 9 = .ok (.ireturn, 1) := by decide +kernel
def wp_X11_bit (p0 : Bool) (s : fz_s) (Q : Int32 → fz_s → Prop) : Prop :=
  ((p0 = false → Q 0 s) ∧ (p0 = true → Q 1 s))
set_option maxRecDepth 100000 in
set_option maxHeartbeats 4000000 in
theorem V_X11_bit {g : fz_G} {l : Launch} {d : Nat} (hD : 0 ≤ d) {p0 : Bool}  {s : fz_s} {Q : Int32 → fz_s → Prop} (H : wp_X11_bit p0 s Q) : fs_V g l m_X11_bit d true 0 (fz_en [.int (bi p0)] 1) [] s (rI Q) := by
  unfold wp_X11_bit at H
  refine fs_iload_n (k0 := 0) (i := 0) dd_X11_bit_0 rfl rfl ?_
  refine fs_if_eq (tgt := 8) dd_X11_bit_1 (by decide) (fun hc => ?_) (fun hc => ?_)
  · replace H := H.1 (bi_0 hc)
    refine fs_iconst (n := 0) (v := 0) dd_X11_bit_8 (by decide) ?_
    exact fs_iret dd_X11_bit_9 rfl H
  · replace H := H.2 (bi_1 hc)
    refine fs_iconst (n := 1) (v := 1) dd_X11_bit_4 (by decide) ?_
    refine fs_goto (tgt := 9) dd_X11_bit_5 (by decide) ?_
    exact fs_iret dd_X11_bit_9 rfl H
theorem dd_X0_countAway_0 : decode m_X0_countAway.2.1 0 = .ok (.iconst 0, 1) := by decide +kernel
theorem dd_X0_countAway_1 : decode m_X0_countAway.2.1 1 = .ok (.istore_n 2, 1) := by decide +kernel
theorem dd_X0_countAway_2 : decode m_X0_countAway.2.1 2 = .ok (.iconst 0, 1) := by decide +kernel
theorem dd_X0_countAway_3 : decode m_X0_countAway.2.1 3 = .ok (.istore_n 3, 1) := by decide +kernel
theorem dd_X0_countAway_4 : decode m_X0_countAway.2.1 4 = .ok (.iload_n 3, 1) := by decide +kernel
theorem dd_X0_countAway_5 : decode m_X0_countAway.2.1 5 = .ok (.aload_n 0, 1) := by decide +kernel
theorem dd_X0_countAway_6 : decode m_X0_countAway.2.1 6 = .ok (.getfield 15, 3) := by decide +kernel
theorem dd_X0_countAway_9 : decode m_X0_countAway.2.1 9 = .ok (.getfield 77, 3) := by decide +kernel
theorem dd_X0_countAway_12 : decode m_X0_countAway.2.1 12 = .ok (.if_icmp .ge 38, 3) := by decide +kernel
theorem dd_X0_countAway_15 : decode m_X0_countAway.2.1 15 = .ok (.iload_n 2, 1) := by decide +kernel
theorem dd_X0_countAway_16 : decode m_X0_countAway.2.1 16 = .ok (.aload_n 1, 1) := by decide +kernel
theorem dd_X0_countAway_17 : decode m_X0_countAway.2.1 17 = .ok (.getfield 71, 3) := by decide +kernel
theorem dd_X0_countAway_20 : decode m_X0_countAway.2.1 20 = .ok (.iload_n 3, 1) := by decide +kernel
theorem dd_X0_countAway_21 : decode m_X0_countAway.2.1 21 = .ok (.iaload, 1) := by decide +kernel
theorem dd_X0_countAway_22 : decode m_X0_countAway.2.1 22 = .ok (.aload_n 0, 1) := by decide +kernel
theorem dd_X0_countAway_23 : decode m_X0_countAway.2.1 23 = .ok (.getfield 15, 3) := by decide +kernel
theorem dd_X0_countAway_26 : decode m_X0_countAway.2.1 26 = .ok (.getfield 74, 3) := by decide +kernel
theorem dd_X0_countAway_29 : decode m_X0_countAway.2.1 29 = .ok (.iload_n 3, 1) := by decide +kernel
theorem dd_X0_countAway_30 : decode m_X0_countAway.2.1 30 = .ok (.iaload, 1) := by decide +kernel
theorem dd_X0_countAway_31 : decode m_X0_countAway.2.1 31 = .ok (.if_icmp .eq 7, 3) := by decide +kernel
theorem dd_X0_countAway_34 : decode m_X0_countAway.2.1 34 = .ok (.iconst 1, 1) := by decide +kernel
theorem dd_X0_countAway_35 : decode m_X0_countAway.2.1 35 = .ok (.goto 4, 3) := by decide +kernel
theorem dd_X0_countAway_38 : decode m_X0_countAway.2.1 38 = .ok (.iconst 0, 1) := by decide +kernel
theorem dd_X0_countAway_39 : decode m_X0_countAway.2.1 39 = .ok (.invokestatic 84, 3) := by decide +kernel
theorem dd_X0_countAway_42 : decode m_X0_countAway.2.1 42 = .ok (.iadd, 1) := by decide +kernel
theorem dd_X0_countAway_43 : decode m_X0_countAway.2.1 43 = .ok (.istore_n 2, 1) := by decide +kernel
theorem dd_X0_countAway_44 : decode m_X0_countAway.2.1 44 = .ok (.iinc 3 1, 3) := by decide +kernel
theorem dd_X0_countAway_47 : decode m_X0_countAway.2.1 47 = .ok (.goto (-43), 3) := by decide +kernel
theorem dd_X0_countAway_50 : decode m_X0_countAway.2.1 50 = .ok (.iload_n 2, 1) := by decide +kernel
theorem dd_X0_countAway_51 : decode m_X0_countAway.2.1 51 = .ok (.ireturn, 1) := by decide +kernel
def nd_X0_countAway_39 (w0 : Nat) (K4 : Int32 → Int32 → fz_s → Prop) (Q : Int32 → fz_s → Prop) (v3 : Int32) (u0 : Bool) (u1 : Int32) (s : fz_s) : Prop :=
  wp_X11_bit u0 s (fun r1 s2 => ∀ x3 : Int32, x3 = (u1 + r1) → ∀ x4 : Int32, x4 = v3 + 1 → K4 x3 x4 s2)
def nd_X0_countAway_4 (w0 : Nat) (K4 : Int32 → Int32 → fz_s → Prop) (Q : Int32 → fz_s → Prop) (v2 : Int32) (v3 : Int32) (s : fz_s) : Prop :=
  (((s.1 6 12) ≤ v3 → Q v2 s) ∧ (¬ (s.1 6 12) ≤ v3 → vp_in v3 8 ∧ vp_in v3 8 ∧ (((s.1 (w0 + 1 + 3) v3.toNatClampNeg) = (s.1 10 v3.toNatClampNeg) → nd_X0_countAway_39 w0 K4 Q v3 false v2 s) ∧ (¬ (s.1 (w0 + 1 + 3) v3.toNatClampNeg) = (s.1 10 v3.toNatClampNeg) → nd_X0_countAway_39 w0 K4 Q v3 true v2 s))))
def lp_X0_countAway_4 (w0 : Nat)  (Q : Int32 → fz_s → Prop) : Nat → Int32 → Int32 → fz_s → Prop
  | 0 => fun _ _ _ => False
  | n + 1 => nd_X0_countAway_4 w0 (lp_X0_countAway_4 w0  Q n) Q
def wp_X0_countAway (w0 : Nat) (s : fz_s) (Q : Int32 → fz_s → Prop) : Prop :=
  lp_X0_countAway_4 w0  Q 2048 0 0 s
set_option maxRecDepth 100000 in
set_option maxHeartbeats 4000000 in
theorem V_nd_X0_countAway_39 {g : fz_G} {l : Launch} {d : Nat} (hD : 1 ≤ d) {w0 : Nat} (hw0 : fz_at true w0 10 7) {K4 : Int32 → Int32 → fz_s → Prop} {Q : Int32 → fz_s → Prop} {v3 : Int32} {u0 : Bool} {u1 : Int32} {s : fz_s} (hK4 : ∀ {v2 : Int32} {v3 : Int32} {s : fz_s}, K4 v2 v3 s → fs_V g l m_X0_countAway d true 4 [.ref 30, .ref w0, .int v2, .int v3] [] s (rI Q)) (H : nd_X0_countAway_39 w0 K4 Q v3 u0 u1 s) : fs_V g l m_X0_countAway d true 39 [.ref 30, .ref w0, fz_J, .int v3] [.int (bi u0), .int u1] s (rI Q) := by
  obtain ⟨d, rfl⟩ : ∃ e, d = e + 1 := ⟨d - 1, by omega⟩
  unfold nd_X0_countAway_39 at H
  refine fs_callS (y := m_X11_bit) (as := [.int (bi u0)]) dd_X0_countAway_39 me_X11_bit (Or.inr ⟨_, ln_X0_84⟩) st_X11_bit rfl (Nat.le_of_ble_eq_true rfl) (Nat.le_of_ble_eq_true rfl) rfl (V_X11_bit (by omega)  H) (k2_I fun r1 s2 H => ?_)
  refine fs_iadd dd_X0_countAway_42 ?_
  refine fs_topi (fun x3 hx3 => ?_)
  replace H := H x3 hx3
  refine fs_istore_n (k0 := 2) (i := 2) dd_X0_countAway_43 rfl (by decide) ?_
  refine fs_iincN (i := 3) (m := 1) (c := 1) dd_X0_countAway_44 rfl (by decide) (by decide) (fun x4 hx4 => ?_)
  replace H := H x4 hx4
  refine fs_goto (tgt := 4) dd_X0_countAway_47 (by decide) ?_
  refine fs_weak (ls2 := [.ref 30, .ref w0, .int x3, .int x4]) (fz_le_e (fz_le_e (fz_le_e (fz_le_e fz_le_n)))) ?_
  exact hK4 H
set_option maxRecDepth 100000 in
set_option maxHeartbeats 4000000 in
theorem V_nd_X0_countAway_4 {g : fz_G} {l : Launch} {d : Nat} (hD : 1 ≤ d) {w0 : Nat} (hw0 : fz_at true w0 10 7) {K4 : Int32 → Int32 → fz_s → Prop} {Q : Int32 → fz_s → Prop} {v2 : Int32} {v3 : Int32} {s : fz_s} (hK4 : ∀ {v2 : Int32} {v3 : Int32} {s : fz_s}, K4 v2 v3 s → fs_V g l m_X0_countAway d true 4 [.ref 30, .ref w0, .int v2, .int v3] [] s (rI Q)) (H : nd_X0_countAway_4 w0 K4 Q v2 v3 s) : fs_V g l m_X0_countAway d true 4 [.ref 30, .ref w0, .int v2, .int v3] [] s (rI Q) := by
  obtain ⟨d, rfl⟩ : ∃ e, d = e + 1 := ⟨d - 1, by omega⟩
  unfold nd_X0_countAway_4 at H
  refine fs_iload_n (k0 := 3) (i := 3) dd_X0_countAway_4 rfl rfl ?_
  refine fs_aload_n (k0 := 0) (i := 0) dd_X0_countAway_5 rfl rfl ?_
  refine fs_getr (ci := 0) (j := 0) (q := 6) dd_X0_countAway_6 fl_X0_15 ca_30 rfl (Or.inl ⟨_, rfl⟩) rfl (by decide) ?_
  refine fs_geti (ci := 9) (j := 12) dd_X0_countAway_9 fl_X0_77 ca_6 rfl (Or.inl rfl) ?_
  refine fs_icmp_ge (tgt := 50) dd_X0_countAway_12 (by decide) (fun hc => ?_) (fun hc => ?_)
  · replace H := H.1 hc
    refine fs_iload_n (k0 := 2) (i := 2) dd_X0_countAway_50 rfl rfl ?_
    exact fs_iret dd_X0_countAway_51 rfl H
  · replace H := H.2 hc
    refine fs_iload_n (k0 := 2) (i := 2) dd_X0_countAway_15 rfl rfl ?_
    refine fs_aload_n (k0 := 1) (i := 1) dd_X0_countAway_16 rfl rfl ?_
    refine fs_getr (ci := 10) (j := 3) (q := (w0 + 1 + 3)) dd_X0_countAway_17 fl_X0_71 hw0 rfl (Or.inr ⟨_, rfl⟩) ((fz_W hw0).1 3 (by decide)) (fun q => (fz_W hw0).2.2.2 q.1) ?_
    refine fs_iload_n (k0 := 3) (i := 3) dd_X0_countAway_20 rfl rfl ?_
    have hb := H.1
    replace H := H.2
    refine fs_iald dd_X0_countAway_21 ((fz_W hw0).2.2.1 3 (by decide) (by decide)) hb ?_
    refine fs_aload_n (k0 := 0) (i := 0) dd_X0_countAway_22 rfl rfl ?_
    refine fs_getr (ci := 0) (j := 0) (q := 6) dd_X0_countAway_23 fl_X0_15 ca_30 rfl (Or.inl ⟨_, rfl⟩) rfl (by decide) ?_
    refine fs_getr (ci := 9) (j := 3) (q := 10) dd_X0_countAway_26 fl_X0_74 ca_6 rfl (Or.inr ⟨_, rfl⟩) rfl (by decide) ?_
    refine fs_iload_n (k0 := 3) (i := 3) dd_X0_countAway_29 rfl rfl ?_
    have hb := H.1
    replace H := H.2
    refine fs_iald dd_X0_countAway_30 ca_10 hb ?_
    refine fs_icmp_eq (tgt := 38) dd_X0_countAway_31 (by decide) (fun hc => ?_) (fun hc => ?_)
    · replace H := H.1 hc
      refine fs_iconst (n := 0) (v := 0) dd_X0_countAway_38 (by decide) ?_
      refine fs_weak (ls2 := [.ref 30, .ref w0, fz_J, .int v3]) (fz_le_e (fz_le_e (fz_le_j (fz_le_e fz_le_n)))) ?_
      exact V_nd_X0_countAway_39 hD  hw0 hK4 H
    · replace H := H.2 hc
      refine fs_iconst (n := 1) (v := 1) dd_X0_countAway_34 (by decide) ?_
      refine fs_goto (tgt := 39) dd_X0_countAway_35 (by decide) ?_
      refine fs_weak (ls2 := [.ref 30, .ref w0, fz_J, .int v3]) (fz_le_e (fz_le_e (fz_le_j (fz_le_e fz_le_n)))) ?_
      exact V_nd_X0_countAway_39 hD  hw0 hK4 H
set_option maxRecDepth 100000 in
set_option maxHeartbeats 4000000 in
theorem V_lp_X0_countAway_4 {g : fz_G} {l : Launch} {d : Nat} (hD : 1 ≤ d) {w0 : Nat} (hw0 : fz_at true w0 10 7)  {Q : Int32 → fz_s → Prop}  (n : Nat) : ∀ {v2 : Int32} {v3 : Int32} {s : fz_s}, lp_X0_countAway_4 w0  Q n v2 v3 s → fs_V g l m_X0_countAway d true 4 [.ref 30, .ref w0, .int v2, .int v3] [] s (rI Q) := by
  induction n with
  | zero => intro v2 v3 s H; exact H.elim
  | succ n ih => intro v2 v3 s H; exact V_nd_X0_countAway_4 hD hw0 (fun H => ih H) H
set_option maxRecDepth 100000 in
set_option maxHeartbeats 4000000 in
theorem V_X0_countAway {g : fz_G} {l : Launch} {d : Nat} (hD : 1 ≤ d) {w0 : Nat} (hw0 : fz_at true w0 10 7) {s : fz_s} {Q : Int32 → fz_s → Prop} (H : wp_X0_countAway w0 s Q) : fs_V g l m_X0_countAway d true 0 (fz_en [.ref 30, .ref w0] 4) [] s (rI Q) := by
  obtain ⟨d, rfl⟩ : ∃ e, d = e + 1 := ⟨d - 1, by omega⟩
  unfold wp_X0_countAway at H
  refine fs_iconst (n := 0) (v := 0) dd_X0_countAway_0 (by decide) ?_
  refine fs_istore_n (k0 := 2) (i := 2) dd_X0_countAway_1 rfl (by decide) ?_
  refine fs_iconst (n := 0) (v := 0) dd_X0_countAway_2 (by decide) ?_
  refine fs_istore_n (k0 := 3) (i := 3) dd_X0_countAway_3 rfl (by decide) ?_
  refine fs_weak (ls2 := [.ref 30, .ref w0, .int 0, .int 0]) (fz_le_e (fz_le_e (fz_le_e (fz_le_e fz_le_n)))) ?_
  exact V_lp_X0_countAway_4 hD  hw0  2048 H
theorem dd_X7_slotValue_0 : decode m_X7_slotValue.2.1 0 = .ok (.iload_n 1, 1) := by decide +kernel
theorem dd_X7_slotValue_1 : decode m_X7_slotValue.2.1 1 = .ok (.ifCond .lt 9, 3) := by decide +kernel
theorem dd_X7_slotValue_4 : decode m_X7_slotValue.2.1 4 = .ok (.iload_n 1, 1) := by decide +kernel
theorem dd_X7_slotValue_5 : decode m_X7_slotValue.2.1 5 = .ok (.bipush 15, 2) := by decide +kernel
theorem dd_X7_slotValue_7 : decode m_X7_slotValue.2.1 7 = .ok (.if_icmp .lt 7, 3) := by decide +kernel
theorem dd_X7_slotValue_10 : decode m_X7_slotValue.2.1 10 = .ok (.iconst 0, 1) := by decide +kernel
theorem dd_X7_slotValue_11 : decode m_X7_slotValue.2.1 11 = .ok (.goto 9, 3) := by decide +kernel
theorem dd_X7_slotValue_14 : decode m_X7_slotValue.2.1 14 = .ok (.aload_n 0, 1) := by decide +kernel
theorem dd_X7_slotValue_15 : decode m_X7_slotValue.2.1 15 = .ok (.getfield 9, 3) := by decide +kernel
theorem dd_X7_slotValue_18 : decode m_X7_slotValue.2.1 18 = .ok (.iload_n 1, 1) := by decide +kernel
theorem dd_X7_slotValue_19 : decode m_X7_slotValue.2.1 19 = .ok (.iaload, 1) := by decide +kernel
theorem dd_X7_slotValue_20 : decode m_X7_slotValue.2.1 20 = .ok (.ireturn, 1) := by decide +kernel
def wp_X7_slotValue (p0 : Int32) (s : fz_s) (Q : Int32 → fz_s → Prop) : Prop :=
  ((p0 < 0 → Q 0 s) ∧ (¬ p0 < 0 → ((p0 < 15 → vp_in p0 15 ∧ Q (s.1 32 p0.toNatClampNeg) s) ∧ (¬ p0 < 15 → Q 0 s))))
set_option maxRecDepth 100000 in
set_option maxHeartbeats 4000000 in
theorem V_X7_slotValue {g : fz_G} {l : Launch} {d : Nat} (hD : 0 ≤ d) {p0 : Int32}  {s : fz_s} {Q : Int32 → fz_s → Prop} (H : wp_X7_slotValue p0 s Q) : fs_V g l m_X7_slotValue d true 0 (fz_en [.ref 31, .int p0] 2) [] s (rI Q) := by
  unfold wp_X7_slotValue at H
  refine fs_iload_n (k0 := 1) (i := 1) dd_X7_slotValue_0 rfl rfl ?_
  refine fs_if_lt (tgt := 10) dd_X7_slotValue_1 (by decide) (fun hc => ?_) (fun hc => ?_)
  · replace H := H.1 hc
    refine fs_iconst (n := 0) (v := 0) dd_X7_slotValue_10 (by decide) ?_
    refine fs_goto (tgt := 20) dd_X7_slotValue_11 (by decide) ?_
    exact fs_iret dd_X7_slotValue_20 rfl H
  · replace H := H.2 hc
    refine fs_iload_n (k0 := 1) (i := 1) dd_X7_slotValue_4 rfl rfl ?_
    refine fs_bipush (n := 15) (v := 15) dd_X7_slotValue_5 (by decide) ?_
    refine fs_icmp_lt (tgt := 14) dd_X7_slotValue_7 (by decide) (fun hc => ?_) (fun hc => ?_)
    · replace H := H.1 hc
      refine fs_aload_n (k0 := 0) (i := 0) dd_X7_slotValue_14 rfl rfl ?_
      refine fs_getr (ci := 7) (j := 0) (q := 32) dd_X7_slotValue_15 fl_X7_9 ca_31 rfl (Or.inr ⟨_, rfl⟩) rfl (by decide) ?_
      refine fs_iload_n (k0 := 1) (i := 1) dd_X7_slotValue_18 rfl rfl ?_
      have hb := H.1
      replace H := H.2
      refine fs_iald dd_X7_slotValue_19 ca_32 hb ?_
      exact fs_iret dd_X7_slotValue_20 rfl H
    · replace H := H.2 hc
      refine fs_iconst (n := 0) (v := 0) dd_X7_slotValue_10 (by decide) ?_
      refine fs_goto (tgt := 20) dd_X7_slotValue_11 (by decide) ?_
      exact fs_iret dd_X7_slotValue_20 rfl H
theorem dd_X7_ofOne_0 : decode m_X7_ofOne.2.1 0 = .ok (.iload_n 1, 1) := by decide +kernel
theorem dd_X7_ofOne_1 : decode m_X7_ofOne.2.1 1 = .ok (.sipush 20000, 3) := by decide +kernel
theorem dd_X7_ofOne_4 : decode m_X7_ofOne.2.1 4 = .ok (.if_icmp .ne 13, 3) := by decide +kernel
theorem dd_X7_ofOne_7 : decode m_X7_ofOne.2.1 7 = .ok (.iload_n 2, 1) := by decide +kernel
theorem dd_X7_ofOne_8 : decode m_X7_ofOne.2.1 8 = .ok (.ifCond .ne 7, 3) := by decide +kernel
theorem dd_X7_ofOne_11 : decode m_X7_ofOne.2.1 11 = .ok (.iconst 1, 1) := by decide +kernel
theorem dd_X7_ofOne_12 : decode m_X7_ofOne.2.1 12 = .ok (.goto 4, 3) := by decide +kernel
theorem dd_X7_ofOne_15 : decode m_X7_ofOne.2.1 15 = .ok (.iconst 0, 1) := by decide +kernel
theorem dd_X7_ofOne_16 : decode m_X7_ofOne.2.1 16 = .ok (.ireturn, 1) := by decide +kernel
theorem dd_X7_ofOne_17 : decode m_X7_ofOne.2.1 17 = .ok (.iload_n 2, 1) := by decide +kernel
theorem dd_X7_ofOne_18 : decode m_X7_ofOne.2.1 18 = .ok (.ifCond .lt 8, 3) := by decide +kernel
theorem dd_X7_ofOne_21 : decode m_X7_ofOne.2.1 21 = .ok (.iload_n 2, 1) := by decide +kernel
theorem dd_X7_ofOne_22 : decode m_X7_ofOne.2.1 22 = .ok (.iconst 2, 1) := by decide +kernel
theorem dd_X7_ofOne_23 : decode m_X7_ofOne.2.1 23 = .ok (.if_icmp .lt 5, 3) := by decide +kernel
theorem dd_X7_ofOne_26 : decode m_X7_ofOne.2.1 26 = .ok (.iconst 0, 1) := by decide +kernel
theorem dd_X7_ofOne_27 : decode m_X7_ofOne.2.1 27 = .ok (.ireturn, 1) := by decide +kernel
theorem dd_X7_ofOne_28 : decode m_X7_ofOne.2.1 28 = .ok (.aload_n 0, 1) := by decide +kernel
theorem dd_X7_ofOne_29 : decode m_X7_ofOne.2.1 29 = .ok (.getfield 9, 3) := by decide +kernel
theorem dd_X7_ofOne_32 : decode m_X7_ofOne.2.1 32 = .ok (.iload_n 1, 1) := by decide +kernel
theorem dd_X7_ofOne_33 : decode m_X7_ofOne.2.1 33 = .ok (.sipush 20001, 3) := by decide +kernel
theorem dd_X7_ofOne_36 : decode m_X7_ofOne.2.1 36 = .ok (.if_icmp .ne 8, 3) := by decide +kernel
theorem dd_X7_ofOne_39 : decode m_X7_ofOne.2.1 39 = .ok (.bipush 11, 2) := by decide +kernel
theorem dd_X7_ofOne_41 : decode m_X7_ofOne.2.1 41 = .ok (.goto 5, 3) := by decide +kernel
theorem dd_X7_ofOne_44 : decode m_X7_ofOne.2.1 44 = .ok (.bipush 13, 2) := by decide +kernel
theorem dd_X7_ofOne_46 : decode m_X7_ofOne.2.1 46 = .ok (.iload_n 2, 1) := by decide +kernel
theorem dd_X7_ofOne_47 : decode m_X7_ofOne.2.1 47 = .ok (.iadd, 1) := by decide +kernel
theorem dd_X7_ofOne_48 : decode m_X7_ofOne.2.1 48 = .ok (.iaload, 1) := by decide +kernel
theorem dd_X7_ofOne_49 : decode m_X7_ofOne.2.1 49 = .ok (.ireturn, 1) := by decide +kernel
def wp_X7_ofOne (p0 : Int32) (p1 : Int32) (s : fz_s) (Q : Int32 → fz_s → Prop) : Prop :=
  ((¬ p0 = 20000 → ((p1 < 0 → Q 0 s) ∧ (¬ p1 < 0 → ((p1 < 2 → ((¬ p0 = 20001 → vp_in (13 + p1) 15 ∧ Q (s.1 32 (13 + p1).toNatClampNeg) s) ∧ (p0 = 20001 → vp_in (11 + p1) 15 ∧ Q (s.1 32 (11 + p1).toNatClampNeg) s))) ∧ (¬ p1 < 2 → Q 0 s))))) ∧ (p0 = 20000 → ((¬ p1 = 0 → Q 0 s) ∧ (p1 = 0 → Q 1 s))))
set_option maxRecDepth 100000 in
set_option maxHeartbeats 4000000 in
theorem V_X7_ofOne {g : fz_G} {l : Launch} {d : Nat} (hD : 0 ≤ d) {p0 : Int32} {p1 : Int32}  {s : fz_s} {Q : Int32 → fz_s → Prop} (H : wp_X7_ofOne p0 p1 s Q) : fs_V g l m_X7_ofOne d true 0 (fz_en [.ref 31, .int p0, .int p1] 3) [] s (rI Q) := by
  unfold wp_X7_ofOne at H
  refine fs_iload_n (k0 := 1) (i := 1) dd_X7_ofOne_0 rfl rfl ?_
  refine fs_sipush (n := 20000) (v := 20000) dd_X7_ofOne_1 (by decide) ?_
  refine fs_icmp_ne (tgt := 17) dd_X7_ofOne_4 (by decide) (fun hc => ?_) (fun hc => ?_)
  · replace H := H.1 hc
    refine fs_iload_n (k0 := 2) (i := 2) dd_X7_ofOne_17 rfl rfl ?_
    refine fs_if_lt (tgt := 26) dd_X7_ofOne_18 (by decide) (fun hc => ?_) (fun hc => ?_)
    · replace H := H.1 hc
      refine fs_iconst (n := 0) (v := 0) dd_X7_ofOne_26 (by decide) ?_
      exact fs_iret dd_X7_ofOne_27 rfl H
    · replace H := H.2 hc
      refine fs_iload_n (k0 := 2) (i := 2) dd_X7_ofOne_21 rfl rfl ?_
      refine fs_iconst (n := 2) (v := 2) dd_X7_ofOne_22 (by decide) ?_
      refine fs_icmp_lt (tgt := 28) dd_X7_ofOne_23 (by decide) (fun hc => ?_) (fun hc => ?_)
      · replace H := H.1 hc
        refine fs_aload_n (k0 := 0) (i := 0) dd_X7_ofOne_28 rfl rfl ?_
        refine fs_getr (ci := 7) (j := 0) (q := 32) dd_X7_ofOne_29 fl_X7_9 ca_31 rfl (Or.inr ⟨_, rfl⟩) rfl (by decide) ?_
        refine fs_iload_n (k0 := 1) (i := 1) dd_X7_ofOne_32 rfl rfl ?_
        refine fs_sipush (n := 20001) (v := 20001) dd_X7_ofOne_33 (by decide) ?_
        refine fs_icmp_ne (tgt := 44) dd_X7_ofOne_36 (by decide) (fun hc => ?_) (fun hc => ?_)
        · replace H := H.1 hc
          refine fs_bipush (n := 13) (v := 13) dd_X7_ofOne_44 (by decide) ?_
          refine fs_iload_n (k0 := 2) (i := 2) dd_X7_ofOne_46 rfl rfl ?_
          refine fs_iadd dd_X7_ofOne_47 ?_
          have hb := H.1
          replace H := H.2
          refine fs_iald dd_X7_ofOne_48 ca_32 hb ?_
          exact fs_iret dd_X7_ofOne_49 rfl H
        · replace H := H.2 hc
          refine fs_bipush (n := 11) (v := 11) dd_X7_ofOne_39 (by decide) ?_
          refine fs_goto (tgt := 46) dd_X7_ofOne_41 (by decide) ?_
          refine fs_iload_n (k0 := 2) (i := 2) dd_X7_ofOne_46 rfl rfl ?_
          refine fs_iadd dd_X7_ofOne_47 ?_
          have hb := H.1
          replace H := H.2
          refine fs_iald dd_X7_ofOne_48 ca_32 hb ?_
          exact fs_iret dd_X7_ofOne_49 rfl H
      · replace H := H.2 hc
        refine fs_iconst (n := 0) (v := 0) dd_X7_ofOne_26 (by decide) ?_
        exact fs_iret dd_X7_ofOne_27 rfl H
  · replace H := H.2 hc
    refine fs_iload_n (k0 := 2) (i := 2) dd_X7_ofOne_7 rfl rfl ?_
    refine fs_if_ne (tgt := 15) dd_X7_ofOne_8 (by decide) (fun hc => ?_) (fun hc => ?_)
    · replace H := H.1 hc
      refine fs_iconst (n := 0) (v := 0) dd_X7_ofOne_15 (by decide) ?_
      exact fs_iret dd_X7_ofOne_16 rfl H
    · replace H := H.2 hc
      refine fs_iconst (n := 1) (v := 1) dd_X7_ofOne_11 (by decide) ?_
      refine fs_goto (tgt := 16) dd_X7_ofOne_12 (by decide) ?_
      exact fs_iret dd_X7_ofOne_16 rfl H
theorem dd_J9_floorDiv_7cf53_0 : decode m_J9_floorDiv_7cf53.2.1 0 = .ok (.iload_n 0, 1) := by decide +kernel
theorem dd_J9_floorDiv_7cf53_1 : decode m_J9_floorDiv_7cf53.2.1 1 = .ok (.iload_n 1, 1) := by decide +kernel
theorem dd_J9_floorDiv_7cf53_2 : decode m_J9_floorDiv_7cf53.2.1 2 = .ok (.idiv, 1) := by decide +kernel
theorem dd_J9_floorDiv_7cf53_3 : decode m_J9_floorDiv_7cf53.2.1 3 = .ok (.istore_n 2, 1) := by decide +kernel
theorem dd_J9_floorDiv_7cf53_4 : decode m_J9_floorDiv_7cf53.2.1 4 = .ok (.iload_n 0, 1) := by decide +kernel
theorem dd_J9_floorDiv_7cf53_5 : decode m_J9_floorDiv_7cf53.2.1 5 = .ok (.iload_n 1, 1) := by decide +kernel
theorem dd_J9_floorDiv_7cf53_6 : decode m_J9_floorDiv_7cf53.2.1 6 = .ok (.ixor, 1) := by decide +kernel
theorem dd_J9_floorDiv_7cf53_7 : decode m_J9_floorDiv_7cf53.2.1 7 = .ok (.ifCond .ge 14, 3) := by decide +kernel
theorem dd_J9_floorDiv_7cf53_10 : decode m_J9_floorDiv_7cf53.2.1 10 = .ok (.iload_n 2, 1) := by decide +kernel
theorem dd_J9_floorDiv_7cf53_11 : decode m_J9_floorDiv_7cf53.2.1 11 = .ok (.iload_n 1, 1) := by decide +kernel
theorem dd_J9_floorDiv_7cf53_12 : decode m_J9_floorDiv_7cf53.2.1 12 = .ok (.imul, 1) := by decide +kernel
theorem dd_J9_floorDiv_7cf53_13 : decode m_J9_floorDiv_7cf53.2.1 13 = .ok (.iload_n 0, 1) := by decide +kernel
theorem dd_J9_floorDiv_7cf53_14 : decode m_J9_floorDiv_7cf53.2.1 14 = .ok (.if_icmp .eq 7, 3) := by decide +kernel
theorem dd_J9_floorDiv_7cf53_17 : decode m_J9_floorDiv_7cf53.2.1 17 = .ok (.iload_n 2, 1) := by decide +kernel
theorem dd_J9_floorDiv_7cf53_18 : decode m_J9_floorDiv_7cf53.2.1 18 = .ok (.iconst 1, 1) := by decide +kernel
theorem dd_J9_floorDiv_7cf53_19 : decode m_J9_floorDiv_7cf53.2.1 19 = .ok (.isub, 1) := by decide +kernel
theorem dd_J9_floorDiv_7cf53_20 : decode m_J9_floorDiv_7cf53.2.1 20 = .ok (.ireturn, 1) := by decide +kernel
theorem dd_J9_floorDiv_7cf53_21 : decode m_J9_floorDiv_7cf53.2.1 21 = .ok (.iload_n 2, 1) := by decide +kernel
theorem dd_J9_floorDiv_7cf53_22 : decode m_J9_floorDiv_7cf53.2.1 22 = .ok (.ireturn, 1) := by decide +kernel
def wp_J9_floorDiv_7cf53 (p0 : Int32) (p1 : Int32) (s : fz_s) (Q : Int32 → fz_s → Prop) : Prop :=
  (¬ p1 = 0) ∧ ∀ x1 : Int32, x1 = (p0 / p1) → ((0 ≤ (p0 ^^^ p1) → Q x1 s) ∧ (¬ 0 ≤ (p0 ^^^ p1) → (((x1 * p1) = p0 → Q x1 s) ∧ (¬ (x1 * p1) = p0 → Q (x1 - 1) s))))
set_option maxRecDepth 100000 in
set_option maxHeartbeats 4000000 in
theorem V_J9_floorDiv_7cf53 {g : fz_G} {l : Launch} {b : Bool} {d : Nat} (hD : 0 ≤ d) {p0 : Int32} {p1 : Int32}  {s : fz_s} {Q : Int32 → fz_s → Prop} (H : wp_J9_floorDiv_7cf53 p0 p1 s Q) : fs_V g l m_J9_floorDiv_7cf53 d b 0 (fz_en [.int p0, .int p1] 3) [] s (rI Q) := by
  unfold wp_J9_floorDiv_7cf53 at H
  refine fs_iload_n (k0 := 0) (i := 0) dd_J9_floorDiv_7cf53_0 rfl rfl ?_
  refine fs_iload_n (k0 := 1) (i := 1) dd_J9_floorDiv_7cf53_1 rfl rfl ?_
  have hz := H.1
  replace H := H.2
  refine fs_idiv dd_J9_floorDiv_7cf53_2 hz ?_
  refine fs_topi (fun x1 hx1 => ?_)
  replace H := H x1 hx1
  refine fs_istore_n (k0 := 2) (i := 2) dd_J9_floorDiv_7cf53_3 rfl (by decide) ?_
  refine fs_iload_n (k0 := 0) (i := 0) dd_J9_floorDiv_7cf53_4 rfl rfl ?_
  refine fs_iload_n (k0 := 1) (i := 1) dd_J9_floorDiv_7cf53_5 rfl rfl ?_
  refine fs_ixor dd_J9_floorDiv_7cf53_6 ?_
  refine fs_if_ge (tgt := 21) dd_J9_floorDiv_7cf53_7 (by decide) (fun hc => ?_) (fun hc => ?_)
  · replace H := H.1 hc
    refine fs_iload_n (k0 := 2) (i := 2) dd_J9_floorDiv_7cf53_21 rfl rfl ?_
    exact fs_iret dd_J9_floorDiv_7cf53_22 rfl H
  · replace H := H.2 hc
    refine fs_iload_n (k0 := 2) (i := 2) dd_J9_floorDiv_7cf53_10 rfl rfl ?_
    refine fs_iload_n (k0 := 1) (i := 1) dd_J9_floorDiv_7cf53_11 rfl rfl ?_
    refine fs_imul dd_J9_floorDiv_7cf53_12 ?_
    refine fs_iload_n (k0 := 0) (i := 0) dd_J9_floorDiv_7cf53_13 rfl rfl ?_
    refine fs_icmp_eq (tgt := 21) dd_J9_floorDiv_7cf53_14 (by decide) (fun hc => ?_) (fun hc => ?_)
    · replace H := H.1 hc
      refine fs_iload_n (k0 := 2) (i := 2) dd_J9_floorDiv_7cf53_21 rfl rfl ?_
      exact fs_iret dd_J9_floorDiv_7cf53_22 rfl H
    · replace H := H.2 hc
      refine fs_iload_n (k0 := 2) (i := 2) dd_J9_floorDiv_7cf53_17 rfl rfl ?_
      refine fs_iconst (n := 1) (v := 1) dd_J9_floorDiv_7cf53_18 (by decide) ?_
      refine fs_isub dd_J9_floorDiv_7cf53_19 ?_
      exact fs_iret dd_J9_floorDiv_7cf53_20 rfl H
theorem dd_X7_ofTwo_0 : decode m_X7_ofTwo.2.1 0 = .ok (.lconst 0, 1) := by decide +kernel
theorem dd_X7_ofTwo_1 : decode m_X7_ofTwo.2.1 1 = .ok (.lstore_n 3, 1) := by decide +kernel
theorem dd_X7_ofTwo_2 : decode m_X7_ofTwo.2.1 2 = .ok (.iload_n 0, 1) := by decide +kernel
theorem dd_X7_ofTwo_3 : decode m_X7_ofTwo.2.1 3 = .ok (.tableswitch 180 20003 20013 #[57, 66, 75, 84, 102, 112, 122, 136, 150, 164, 172], 57) := by decide +kernel
theorem dd_X7_ofTwo_60 : decode m_X7_ofTwo.2.1 60 = .ok (.iload_n 1, 1) := by decide +kernel
theorem dd_X7_ofTwo_61 : decode m_X7_ofTwo.2.1 61 = .ok (.i2l, 1) := by decide +kernel
theorem dd_X7_ofTwo_62 : decode m_X7_ofTwo.2.1 62 = .ok (.iload_n 2, 1) := by decide +kernel
theorem dd_X7_ofTwo_63 : decode m_X7_ofTwo.2.1 63 = .ok (.i2l, 1) := by decide +kernel
theorem dd_X7_ofTwo_64 : decode m_X7_ofTwo.2.1 64 = .ok (.ladd, 1) := by decide +kernel
theorem dd_X7_ofTwo_65 : decode m_X7_ofTwo.2.1 65 = .ok (.lstore_n 3, 1) := by decide +kernel
theorem dd_X7_ofTwo_66 : decode m_X7_ofTwo.2.1 66 = .ok (.goto 117, 3) := by decide +kernel
theorem dd_X7_ofTwo_69 : decode m_X7_ofTwo.2.1 69 = .ok (.iload_n 1, 1) := by decide +kernel
theorem dd_X7_ofTwo_70 : decode m_X7_ofTwo.2.1 70 = .ok (.i2l, 1) := by decide +kernel
theorem dd_X7_ofTwo_71 : decode m_X7_ofTwo.2.1 71 = .ok (.iload_n 2, 1) := by decide +kernel
theorem dd_X7_ofTwo_72 : decode m_X7_ofTwo.2.1 72 = .ok (.i2l, 1) := by decide +kernel
theorem dd_X7_ofTwo_73 : decode m_X7_ofTwo.2.1 73 = .ok (.lsub, 1) := by decide +kernel
theorem dd_X7_ofTwo_74 : decode m_X7_ofTwo.2.1 74 = .ok (.lstore_n 3, 1) := by decide +kernel
theorem dd_X7_ofTwo_75 : decode m_X7_ofTwo.2.1 75 = .ok (.goto 108, 3) := by decide +kernel
theorem dd_X7_ofTwo_78 : decode m_X7_ofTwo.2.1 78 = .ok (.iload_n 1, 1) := by decide +kernel
theorem dd_X7_ofTwo_79 : decode m_X7_ofTwo.2.1 79 = .ok (.i2l, 1) := by decide +kernel
theorem dd_X7_ofTwo_80 : decode m_X7_ofTwo.2.1 80 = .ok (.iload_n 2, 1) := by decide +kernel
theorem dd_X7_ofTwo_81 : decode m_X7_ofTwo.2.1 81 = .ok (.i2l, 1) := by decide +kernel
theorem dd_X7_ofTwo_82 : decode m_X7_ofTwo.2.1 82 = .ok (.lmul, 1) := by decide +kernel
theorem dd_X7_ofTwo_83 : decode m_X7_ofTwo.2.1 83 = .ok (.lstore_n 3, 1) := by decide +kernel
theorem dd_X7_ofTwo_84 : decode m_X7_ofTwo.2.1 84 = .ok (.goto 99, 3) := by decide +kernel
theorem dd_X7_ofTwo_87 : decode m_X7_ofTwo.2.1 87 = .ok (.iload_n 2, 1) := by decide +kernel
theorem dd_X7_ofTwo_88 : decode m_X7_ofTwo.2.1 88 = .ok (.ifCond .ne 7, 3) := by decide +kernel
theorem dd_X7_ofTwo_91 : decode m_X7_ofTwo.2.1 91 = .ok (.lconst 0, 1) := by decide +kernel
theorem dd_X7_ofTwo_92 : decode m_X7_ofTwo.2.1 92 = .ok (.goto 9, 3) := by decide +kernel
theorem dd_X7_ofTwo_95 : decode m_X7_ofTwo.2.1 95 = .ok (.iload_n 1, 1) := by decide +kernel
theorem dd_X7_ofTwo_96 : decode m_X7_ofTwo.2.1 96 = .ok (.iload_n 2, 1) := by decide +kernel
theorem dd_X7_ofTwo_97 : decode m_X7_ofTwo.2.1 97 = .ok (.invokestatic 38, 3) := by decide +kernel
theorem dd_X7_ofTwo_100 : decode m_X7_ofTwo.2.1 100 = .ok (.i2l, 1) := by decide +kernel
theorem dd_X7_ofTwo_101 : decode m_X7_ofTwo.2.1 101 = .ok (.lstore_n 3, 1) := by decide +kernel
theorem dd_X7_ofTwo_102 : decode m_X7_ofTwo.2.1 102 = .ok (.goto 81, 3) := by decide +kernel
theorem dd_X7_ofTwo_105 : decode m_X7_ofTwo.2.1 105 = .ok (.iload_n 1, 1) := by decide +kernel
theorem dd_X7_ofTwo_106 : decode m_X7_ofTwo.2.1 106 = .ok (.iload_n 2, 1) := by decide +kernel
theorem dd_X7_ofTwo_107 : decode m_X7_ofTwo.2.1 107 = .ok (.invokestatic 18, 3) := by decide +kernel
theorem dd_X7_ofTwo_110 : decode m_X7_ofTwo.2.1 110 = .ok (.i2l, 1) := by decide +kernel
theorem dd_X7_ofTwo_111 : decode m_X7_ofTwo.2.1 111 = .ok (.lstore_n 3, 1) := by decide +kernel
theorem dd_X7_ofTwo_112 : decode m_X7_ofTwo.2.1 112 = .ok (.goto 71, 3) := by decide +kernel
theorem dd_X7_ofTwo_115 : decode m_X7_ofTwo.2.1 115 = .ok (.iload_n 1, 1) := by decide +kernel
theorem dd_X7_ofTwo_116 : decode m_X7_ofTwo.2.1 116 = .ok (.iload_n 2, 1) := by decide +kernel
theorem dd_X7_ofTwo_117 : decode m_X7_ofTwo.2.1 117 = .ok (.invokestatic 24, 3) := by decide +kernel
theorem dd_X7_ofTwo_120 : decode m_X7_ofTwo.2.1 120 = .ok (.i2l, 1) := by decide +kernel
theorem dd_X7_ofTwo_121 : decode m_X7_ofTwo.2.1 121 = .ok (.lstore_n 3, 1) := by decide +kernel
theorem dd_X7_ofTwo_122 : decode m_X7_ofTwo.2.1 122 = .ok (.goto 61, 3) := by decide +kernel
theorem dd_X7_ofTwo_125 : decode m_X7_ofTwo.2.1 125 = .ok (.iload_n 1, 1) := by decide +kernel
theorem dd_X7_ofTwo_126 : decode m_X7_ofTwo.2.1 126 = .ok (.iload_n 2, 1) := by decide +kernel
theorem dd_X7_ofTwo_127 : decode m_X7_ofTwo.2.1 127 = .ok (.if_icmp .ge 7, 3) := by decide +kernel
theorem dd_X7_ofTwo_130 : decode m_X7_ofTwo.2.1 130 = .ok (.lconst 1, 1) := by decide +kernel
theorem dd_X7_ofTwo_131 : decode m_X7_ofTwo.2.1 131 = .ok (.goto 4, 3) := by decide +kernel
theorem dd_X7_ofTwo_134 : decode m_X7_ofTwo.2.1 134 = .ok (.lconst 0, 1) := by decide +kernel
theorem dd_X7_ofTwo_135 : decode m_X7_ofTwo.2.1 135 = .ok (.lstore_n 3, 1) := by decide +kernel
theorem dd_X7_ofTwo_136 : decode m_X7_ofTwo.2.1 136 = .ok (.goto 47, 3) := by decide +kernel
theorem dd_X7_ofTwo_139 : decode m_X7_ofTwo.2.1 139 = .ok (.iload_n 1, 1) := by decide +kernel
theorem dd_X7_ofTwo_140 : decode m_X7_ofTwo.2.1 140 = .ok (.iload_n 2, 1) := by decide +kernel
theorem dd_X7_ofTwo_141 : decode m_X7_ofTwo.2.1 141 = .ok (.if_icmp .le 7, 3) := by decide +kernel
theorem dd_X7_ofTwo_144 : decode m_X7_ofTwo.2.1 144 = .ok (.lconst 1, 1) := by decide +kernel
theorem dd_X7_ofTwo_145 : decode m_X7_ofTwo.2.1 145 = .ok (.goto 4, 3) := by decide +kernel
theorem dd_X7_ofTwo_148 : decode m_X7_ofTwo.2.1 148 = .ok (.lconst 0, 1) := by decide +kernel
theorem dd_X7_ofTwo_149 : decode m_X7_ofTwo.2.1 149 = .ok (.lstore_n 3, 1) := by decide +kernel
theorem dd_X7_ofTwo_150 : decode m_X7_ofTwo.2.1 150 = .ok (.goto 33, 3) := by decide +kernel
theorem dd_X7_ofTwo_153 : decode m_X7_ofTwo.2.1 153 = .ok (.iload_n 1, 1) := by decide +kernel
theorem dd_X7_ofTwo_154 : decode m_X7_ofTwo.2.1 154 = .ok (.iload_n 2, 1) := by decide +kernel
theorem dd_X7_ofTwo_155 : decode m_X7_ofTwo.2.1 155 = .ok (.if_icmp .ne 7, 3) := by decide +kernel
theorem dd_X7_ofTwo_158 : decode m_X7_ofTwo.2.1 158 = .ok (.lconst 1, 1) := by decide +kernel
theorem dd_X7_ofTwo_159 : decode m_X7_ofTwo.2.1 159 = .ok (.goto 4, 3) := by decide +kernel
theorem dd_X7_ofTwo_162 : decode m_X7_ofTwo.2.1 162 = .ok (.lconst 0, 1) := by decide +kernel
theorem dd_X7_ofTwo_163 : decode m_X7_ofTwo.2.1 163 = .ok (.lstore_n 3, 1) := by decide +kernel
theorem dd_X7_ofTwo_164 : decode m_X7_ofTwo.2.1 164 = .ok (.goto 19, 3) := by decide +kernel
theorem dd_X7_ofTwo_167 : decode m_X7_ofTwo.2.1 167 = .ok (.iload_n 1, 1) := by decide +kernel
theorem dd_X7_ofTwo_168 : decode m_X7_ofTwo.2.1 168 = .ok (.iload_n 2, 1) := by decide +kernel
theorem dd_X7_ofTwo_169 : decode m_X7_ofTwo.2.1 169 = .ok (.iand, 1) := by decide +kernel
theorem dd_X7_ofTwo_170 : decode m_X7_ofTwo.2.1 170 = .ok (.i2l, 1) := by decide +kernel
theorem dd_X7_ofTwo_171 : decode m_X7_ofTwo.2.1 171 = .ok (.lstore_n 3, 1) := by decide +kernel
theorem dd_X7_ofTwo_172 : decode m_X7_ofTwo.2.1 172 = .ok (.goto 11, 3) := by decide +kernel
theorem dd_X7_ofTwo_175 : decode m_X7_ofTwo.2.1 175 = .ok (.iload_n 1, 1) := by decide +kernel
theorem dd_X7_ofTwo_176 : decode m_X7_ofTwo.2.1 176 = .ok (.iload_n 2, 1) := by decide +kernel
theorem dd_X7_ofTwo_177 : decode m_X7_ofTwo.2.1 177 = .ok (.ior, 1) := by decide +kernel
theorem dd_X7_ofTwo_178 : decode m_X7_ofTwo.2.1 178 = .ok (.i2l, 1) := by decide +kernel
theorem dd_X7_ofTwo_179 : decode m_X7_ofTwo.2.1 179 = .ok (.lstore_n 3, 1) := by decide +kernel
theorem dd_X7_ofTwo_180 : decode m_X7_ofTwo.2.1 180 = .ok (.goto 3, 3) := by decide +kernel
theorem dd_X7_ofTwo_183 : decode m_X7_ofTwo.2.1 183 = .ok (.ldc2_w 41, 3) := by decide +kernel
theorem dd_X7_ofTwo_186 : decode m_X7_ofTwo.2.1 186 = .ok (.ldc2_w 43, 3) := by decide +kernel
theorem dd_X7_ofTwo_189 : decode m_X7_ofTwo.2.1 189 = .ok (.lload_n 3, 1) := by decide +kernel
theorem dd_X7_ofTwo_190 : decode m_X7_ofTwo.2.1 190 = .ok (.invokestatic 45, 3) := by decide +kernel
theorem dd_X7_ofTwo_193 : decode m_X7_ofTwo.2.1 193 = .ok (.invokestatic 48, 3) := by decide +kernel
theorem dd_X7_ofTwo_196 : decode m_X7_ofTwo.2.1 196 = .ok (.l2i, 1) := by decide +kernel
theorem dd_X7_ofTwo_197 : decode m_X7_ofTwo.2.1 197 = .ok (.ireturn, 1) := by decide +kernel
def nd_X7_ofTwo_183   (Q : Int32 → fz_s → Prop) (v3 : Int64) (s : fz_s) : Prop :=
  Q ((if (if v3 < 1000000 then v3 else 1000000) < (-1000000) then (-1000000) else (if v3 < 1000000 then v3 else 1000000)).toInt32) s
def wp_X7_ofTwo (p0 : Int32) (p1 : Int32) (p2 : Int32) (s : fz_s) (Q : Int32 → fz_s → Prop) : Prop :=
  ((p0 = 20003 → ∀ x1 : Int64, x1 = (p1.toInt64 + p2.toInt64) → nd_X7_ofTwo_183   Q x1 s) ∧ (p0 = 20004 → ∀ x2 : Int64, x2 = (p1.toInt64 - p2.toInt64) → nd_X7_ofTwo_183   Q x2 s) ∧ (p0 = 20005 → ∀ x3 : Int64, x3 = (p1.toInt64 * p2.toInt64) → nd_X7_ofTwo_183   Q x3 s) ∧ (p0 = 20006 → ((¬ p2 = 0 → wp_J9_floorDiv_7cf53 p1 p2 s (fun r4 s5 => ∀ x6 : Int64, x6 = r4.toInt64 → nd_X7_ofTwo_183   Q x6 s5)) ∧ (p2 = 0 → nd_X7_ofTwo_183   Q 0 s))) ∧ (p0 = 20007 → ∀ x7 : Int64, x7 = (if p2 < p1 then p2 else p1).toInt64 → nd_X7_ofTwo_183   Q x7 s) ∧ (p0 = 20008 → ∀ x8 : Int64, x8 = (if p1 < p2 then p2 else p1).toInt64 → nd_X7_ofTwo_183   Q x8 s) ∧ (p0 = 20009 → ((p2 ≤ p1 → nd_X7_ofTwo_183   Q 0 s) ∧ (¬ p2 ≤ p1 → nd_X7_ofTwo_183   Q 1 s))) ∧ (p0 = 20010 → ((p1 ≤ p2 → nd_X7_ofTwo_183   Q 0 s) ∧ (¬ p1 ≤ p2 → nd_X7_ofTwo_183   Q 1 s))) ∧ (p0 = 20011 → ((¬ p1 = p2 → nd_X7_ofTwo_183   Q 0 s) ∧ (p1 = p2 → nd_X7_ofTwo_183   Q 1 s))) ∧ (p0 = 20012 → ∀ x9 : Int64, x9 = (p1 &&& p2).toInt64 → nd_X7_ofTwo_183   Q x9 s) ∧ (p0 = 20013 → ∀ x10 : Int64, x10 = (p1 ||| p2).toInt64 → nd_X7_ofTwo_183   Q x10 s) ∧ (¬ p0 = 20003 ∧ ¬ p0 = 20004 ∧ ¬ p0 = 20005 ∧ ¬ p0 = 20006 ∧ ¬ p0 = 20007 ∧ ¬ p0 = 20008 ∧ ¬ p0 = 20009 ∧ ¬ p0 = 20010 ∧ ¬ p0 = 20011 ∧ ¬ p0 = 20012 ∧ ¬ p0 = 20013 → nd_X7_ofTwo_183   Q 0 s))
set_option maxRecDepth 100000 in
set_option maxHeartbeats 4000000 in
theorem V_nd_X7_ofTwo_183 {g : fz_G} {l : Launch} {d : Nat} (hD : 1 ≤ d)    {Q : Int32 → fz_s → Prop} {v3 : Int64} {s : fz_s}  (H : nd_X7_ofTwo_183   Q v3 s) : fs_V g l m_X7_ofTwo d true 183 [fz_J, fz_J, fz_J, .long v3, fz_J] [] s (rI Q) := by
  obtain ⟨d, rfl⟩ : ∃ e, d = e + 1 := ⟨d - 1, by omega⟩
  unfold nd_X7_ofTwo_183 at H
  refine fs_ldc2 (idx := 41) (v := -1000000) dd_X7_ofTwo_183 cl_X7_41 ?_
  refine fs_ldc2 (idx := 43) (v := 1000000) dd_X7_ofTwo_186 cl_X7_43 ?_
  refine fs_lload_n (k0 := 3) (i := 3) dd_X7_ofTwo_189 rfl rfl ?_
  refine fs_lmin dd_X7_ofTwo_190 lk_X7_45 (Nat.le_of_ble_eq_true rfl) ?_
  refine fs_lmax dd_X7_ofTwo_193 lk_X7_48 (Nat.le_of_ble_eq_true rfl) ?_
  refine fs_l2i dd_X7_ofTwo_196 ?_
  exact fs_iret dd_X7_ofTwo_197 rfl H
set_option maxRecDepth 100000 in
set_option maxHeartbeats 4000000 in
theorem V_X7_ofTwo {g : fz_G} {l : Launch} {d : Nat} (hD : 1 ≤ d) {p0 : Int32} {p1 : Int32} {p2 : Int32}  {s : fz_s} {Q : Int32 → fz_s → Prop} (H : wp_X7_ofTwo p0 p1 p2 s Q) : fs_V g l m_X7_ofTwo d true 0 (fz_en [.int p0, .int p1, .int p2] 5) [] s (rI Q) := by
  obtain ⟨d, rfl⟩ : ∃ e, d = e + 1 := ⟨d - 1, by omega⟩
  unfold wp_X7_ofTwo at H
  refine fs_lconst (n := 0) (v := 0) dd_X7_ofTwo_0 (by decide) ?_
  refine fs_lstore_n (k0 := 3) (i := 3) dd_X7_ofTwo_1 rfl (by decide) ?_
  refine fs_iload_n (k0 := 0) (i := 0) dd_X7_ofTwo_2 rfl rfl ?_
  by_cases hc20003 : p0 = 20003
  · replace H := H.1 hc20003
    refine fs_tableAt (k := 20003) (off := 57) (tgt := 60) hc20003 dd_X7_ofTwo_3 (by decide) (by decide) rfl (by decide) ?_
    refine fs_iload_n (k0 := 1) (i := 1) dd_X7_ofTwo_60 rfl rfl ?_
    refine fs_i2l dd_X7_ofTwo_61 ?_
    refine fs_iload_n (k0 := 2) (i := 2) dd_X7_ofTwo_62 rfl rfl ?_
    refine fs_i2l dd_X7_ofTwo_63 ?_
    refine fs_ladd dd_X7_ofTwo_64 ?_
    refine fs_topl (fun x1 hx1 => ?_)
    replace H := H x1 hx1
    refine fs_lstore_n (k0 := 3) (i := 3) dd_X7_ofTwo_65 rfl (by decide) ?_
    refine fs_goto (tgt := 183) dd_X7_ofTwo_66 (by decide) ?_
    refine fs_weak (ls2 := [fz_J, fz_J, fz_J, .long x1, fz_J]) (fz_le_j (fz_le_j (fz_le_j (fz_le_e (fz_le_j fz_le_n))))) ?_
    exact V_nd_X7_ofTwo_183 hD    H
  by_cases hc20004 : p0 = 20004
  · replace H := H.2.1 hc20004
    refine fs_tableAt (k := 20004) (off := 66) (tgt := 69) hc20004 dd_X7_ofTwo_3 (by decide) (by decide) rfl (by decide) ?_
    refine fs_iload_n (k0 := 1) (i := 1) dd_X7_ofTwo_69 rfl rfl ?_
    refine fs_i2l dd_X7_ofTwo_70 ?_
    refine fs_iload_n (k0 := 2) (i := 2) dd_X7_ofTwo_71 rfl rfl ?_
    refine fs_i2l dd_X7_ofTwo_72 ?_
    refine fs_lsub dd_X7_ofTwo_73 ?_
    refine fs_topl (fun x2 hx2 => ?_)
    replace H := H x2 hx2
    refine fs_lstore_n (k0 := 3) (i := 3) dd_X7_ofTwo_74 rfl (by decide) ?_
    refine fs_goto (tgt := 183) dd_X7_ofTwo_75 (by decide) ?_
    refine fs_weak (ls2 := [fz_J, fz_J, fz_J, .long x2, fz_J]) (fz_le_j (fz_le_j (fz_le_j (fz_le_e (fz_le_j fz_le_n))))) ?_
    exact V_nd_X7_ofTwo_183 hD    H
  by_cases hc20005 : p0 = 20005
  · replace H := H.2.2.1 hc20005
    refine fs_tableAt (k := 20005) (off := 75) (tgt := 78) hc20005 dd_X7_ofTwo_3 (by decide) (by decide) rfl (by decide) ?_
    refine fs_iload_n (k0 := 1) (i := 1) dd_X7_ofTwo_78 rfl rfl ?_
    refine fs_i2l dd_X7_ofTwo_79 ?_
    refine fs_iload_n (k0 := 2) (i := 2) dd_X7_ofTwo_80 rfl rfl ?_
    refine fs_i2l dd_X7_ofTwo_81 ?_
    refine fs_lmul dd_X7_ofTwo_82 ?_
    refine fs_topl (fun x3 hx3 => ?_)
    replace H := H x3 hx3
    refine fs_lstore_n (k0 := 3) (i := 3) dd_X7_ofTwo_83 rfl (by decide) ?_
    refine fs_goto (tgt := 183) dd_X7_ofTwo_84 (by decide) ?_
    refine fs_weak (ls2 := [fz_J, fz_J, fz_J, .long x3, fz_J]) (fz_le_j (fz_le_j (fz_le_j (fz_le_e (fz_le_j fz_le_n))))) ?_
    exact V_nd_X7_ofTwo_183 hD    H
  by_cases hc20006 : p0 = 20006
  · replace H := H.2.2.2.1 hc20006
    refine fs_tableAt (k := 20006) (off := 84) (tgt := 87) hc20006 dd_X7_ofTwo_3 (by decide) (by decide) rfl (by decide) ?_
    refine fs_iload_n (k0 := 2) (i := 2) dd_X7_ofTwo_87 rfl rfl ?_
    refine fs_if_ne (tgt := 95) dd_X7_ofTwo_88 (by decide) (fun hc => ?_) (fun hc => ?_)
    · replace H := H.1 hc
      refine fs_iload_n (k0 := 1) (i := 1) dd_X7_ofTwo_95 rfl rfl ?_
      refine fs_iload_n (k0 := 2) (i := 2) dd_X7_ofTwo_96 rfl rfl ?_
      refine fs_callS (y := m_J9_floorDiv_7cf53) (as := [.int p1, .int p2]) dd_X7_ofTwo_97 me_J9_floorDiv_7cf53 (Or.inl lk_X7_38) st_J9_floorDiv_7cf53 rfl (Nat.le_of_ble_eq_true rfl) (Nat.le_of_ble_eq_true rfl) rfl (V_J9_floorDiv_7cf53 (by omega)  H) (k2_I fun r4 s5 H => ?_)
      refine fs_i2l dd_X7_ofTwo_100 ?_
      refine fs_topl (fun x6 hx6 => ?_)
      replace H := H x6 hx6
      refine fs_lstore_n (k0 := 3) (i := 3) dd_X7_ofTwo_101 rfl (by decide) ?_
      refine fs_goto (tgt := 183) dd_X7_ofTwo_102 (by decide) ?_
      refine fs_weak (ls2 := [fz_J, fz_J, fz_J, .long x6, fz_J]) (fz_le_j (fz_le_j (fz_le_j (fz_le_e (fz_le_j fz_le_n))))) ?_
      exact V_nd_X7_ofTwo_183 hD    H
    · replace H := H.2 hc
      refine fs_lconst (n := 0) (v := 0) dd_X7_ofTwo_91 (by decide) ?_
      refine fs_goto (tgt := 101) dd_X7_ofTwo_92 (by decide) ?_
      refine fs_lstore_n (k0 := 3) (i := 3) dd_X7_ofTwo_101 rfl (by decide) ?_
      refine fs_goto (tgt := 183) dd_X7_ofTwo_102 (by decide) ?_
      refine fs_weak (ls2 := [fz_J, fz_J, fz_J, .long 0, fz_J]) (fz_le_j (fz_le_j (fz_le_j (fz_le_e (fz_le_j fz_le_n))))) ?_
      exact V_nd_X7_ofTwo_183 hD    H
  by_cases hc20007 : p0 = 20007
  · replace H := H.2.2.2.2.1 hc20007
    refine fs_tableAt (k := 20007) (off := 102) (tgt := 105) hc20007 dd_X7_ofTwo_3 (by decide) (by decide) rfl (by decide) ?_
    refine fs_iload_n (k0 := 1) (i := 1) dd_X7_ofTwo_105 rfl rfl ?_
    refine fs_iload_n (k0 := 2) (i := 2) dd_X7_ofTwo_106 rfl rfl ?_
    refine fs_mmin dd_X7_ofTwo_107 lk_X7_18 (Nat.le_of_ble_eq_true rfl) ?_
    refine fs_i2l dd_X7_ofTwo_110 ?_
    refine fs_topl (fun x7 hx7 => ?_)
    replace H := H x7 hx7
    refine fs_lstore_n (k0 := 3) (i := 3) dd_X7_ofTwo_111 rfl (by decide) ?_
    refine fs_goto (tgt := 183) dd_X7_ofTwo_112 (by decide) ?_
    refine fs_weak (ls2 := [fz_J, fz_J, fz_J, .long x7, fz_J]) (fz_le_j (fz_le_j (fz_le_j (fz_le_e (fz_le_j fz_le_n))))) ?_
    exact V_nd_X7_ofTwo_183 hD    H
  by_cases hc20008 : p0 = 20008
  · replace H := H.2.2.2.2.2.1 hc20008
    refine fs_tableAt (k := 20008) (off := 112) (tgt := 115) hc20008 dd_X7_ofTwo_3 (by decide) (by decide) rfl (by decide) ?_
    refine fs_iload_n (k0 := 1) (i := 1) dd_X7_ofTwo_115 rfl rfl ?_
    refine fs_iload_n (k0 := 2) (i := 2) dd_X7_ofTwo_116 rfl rfl ?_
    refine fs_mmax dd_X7_ofTwo_117 lk_X7_24 (Nat.le_of_ble_eq_true rfl) ?_
    refine fs_i2l dd_X7_ofTwo_120 ?_
    refine fs_topl (fun x8 hx8 => ?_)
    replace H := H x8 hx8
    refine fs_lstore_n (k0 := 3) (i := 3) dd_X7_ofTwo_121 rfl (by decide) ?_
    refine fs_goto (tgt := 183) dd_X7_ofTwo_122 (by decide) ?_
    refine fs_weak (ls2 := [fz_J, fz_J, fz_J, .long x8, fz_J]) (fz_le_j (fz_le_j (fz_le_j (fz_le_e (fz_le_j fz_le_n))))) ?_
    exact V_nd_X7_ofTwo_183 hD    H
  by_cases hc20009 : p0 = 20009
  · replace H := H.2.2.2.2.2.2.1 hc20009
    refine fs_tableAt (k := 20009) (off := 122) (tgt := 125) hc20009 dd_X7_ofTwo_3 (by decide) (by decide) rfl (by decide) ?_
    refine fs_iload_n (k0 := 1) (i := 1) dd_X7_ofTwo_125 rfl rfl ?_
    refine fs_iload_n (k0 := 2) (i := 2) dd_X7_ofTwo_126 rfl rfl ?_
    refine fs_icmp_ge (tgt := 134) dd_X7_ofTwo_127 (by decide) (fun hc => ?_) (fun hc => ?_)
    · replace H := H.1 hc
      refine fs_lconst (n := 0) (v := 0) dd_X7_ofTwo_134 (by decide) ?_
      refine fs_lstore_n (k0 := 3) (i := 3) dd_X7_ofTwo_135 rfl (by decide) ?_
      refine fs_goto (tgt := 183) dd_X7_ofTwo_136 (by decide) ?_
      refine fs_weak (ls2 := [fz_J, fz_J, fz_J, .long 0, fz_J]) (fz_le_j (fz_le_j (fz_le_j (fz_le_e (fz_le_j fz_le_n))))) ?_
      exact V_nd_X7_ofTwo_183 hD    H
    · replace H := H.2 hc
      refine fs_lconst (n := 1) (v := 1) dd_X7_ofTwo_130 (by decide) ?_
      refine fs_goto (tgt := 135) dd_X7_ofTwo_131 (by decide) ?_
      refine fs_lstore_n (k0 := 3) (i := 3) dd_X7_ofTwo_135 rfl (by decide) ?_
      refine fs_goto (tgt := 183) dd_X7_ofTwo_136 (by decide) ?_
      refine fs_weak (ls2 := [fz_J, fz_J, fz_J, .long 1, fz_J]) (fz_le_j (fz_le_j (fz_le_j (fz_le_e (fz_le_j fz_le_n))))) ?_
      exact V_nd_X7_ofTwo_183 hD    H
  by_cases hc20010 : p0 = 20010
  · replace H := H.2.2.2.2.2.2.2.1 hc20010
    refine fs_tableAt (k := 20010) (off := 136) (tgt := 139) hc20010 dd_X7_ofTwo_3 (by decide) (by decide) rfl (by decide) ?_
    refine fs_iload_n (k0 := 1) (i := 1) dd_X7_ofTwo_139 rfl rfl ?_
    refine fs_iload_n (k0 := 2) (i := 2) dd_X7_ofTwo_140 rfl rfl ?_
    refine fs_icmp_le (tgt := 148) dd_X7_ofTwo_141 (by decide) (fun hc => ?_) (fun hc => ?_)
    · replace H := H.1 hc
      refine fs_lconst (n := 0) (v := 0) dd_X7_ofTwo_148 (by decide) ?_
      refine fs_lstore_n (k0 := 3) (i := 3) dd_X7_ofTwo_149 rfl (by decide) ?_
      refine fs_goto (tgt := 183) dd_X7_ofTwo_150 (by decide) ?_
      refine fs_weak (ls2 := [fz_J, fz_J, fz_J, .long 0, fz_J]) (fz_le_j (fz_le_j (fz_le_j (fz_le_e (fz_le_j fz_le_n))))) ?_
      exact V_nd_X7_ofTwo_183 hD    H
    · replace H := H.2 hc
      refine fs_lconst (n := 1) (v := 1) dd_X7_ofTwo_144 (by decide) ?_
      refine fs_goto (tgt := 149) dd_X7_ofTwo_145 (by decide) ?_
      refine fs_lstore_n (k0 := 3) (i := 3) dd_X7_ofTwo_149 rfl (by decide) ?_
      refine fs_goto (tgt := 183) dd_X7_ofTwo_150 (by decide) ?_
      refine fs_weak (ls2 := [fz_J, fz_J, fz_J, .long 1, fz_J]) (fz_le_j (fz_le_j (fz_le_j (fz_le_e (fz_le_j fz_le_n))))) ?_
      exact V_nd_X7_ofTwo_183 hD    H
  by_cases hc20011 : p0 = 20011
  · replace H := H.2.2.2.2.2.2.2.2.1 hc20011
    refine fs_tableAt (k := 20011) (off := 150) (tgt := 153) hc20011 dd_X7_ofTwo_3 (by decide) (by decide) rfl (by decide) ?_
    refine fs_iload_n (k0 := 1) (i := 1) dd_X7_ofTwo_153 rfl rfl ?_
    refine fs_iload_n (k0 := 2) (i := 2) dd_X7_ofTwo_154 rfl rfl ?_
    refine fs_icmp_ne (tgt := 162) dd_X7_ofTwo_155 (by decide) (fun hc => ?_) (fun hc => ?_)
    · replace H := H.1 hc
      refine fs_lconst (n := 0) (v := 0) dd_X7_ofTwo_162 (by decide) ?_
      refine fs_lstore_n (k0 := 3) (i := 3) dd_X7_ofTwo_163 rfl (by decide) ?_
      refine fs_goto (tgt := 183) dd_X7_ofTwo_164 (by decide) ?_
      refine fs_weak (ls2 := [fz_J, fz_J, fz_J, .long 0, fz_J]) (fz_le_j (fz_le_j (fz_le_j (fz_le_e (fz_le_j fz_le_n))))) ?_
      exact V_nd_X7_ofTwo_183 hD    H
    · replace H := H.2 hc
      refine fs_lconst (n := 1) (v := 1) dd_X7_ofTwo_158 (by decide) ?_
      refine fs_goto (tgt := 163) dd_X7_ofTwo_159 (by decide) ?_
      refine fs_lstore_n (k0 := 3) (i := 3) dd_X7_ofTwo_163 rfl (by decide) ?_
      refine fs_goto (tgt := 183) dd_X7_ofTwo_164 (by decide) ?_
      refine fs_weak (ls2 := [fz_J, fz_J, fz_J, .long 1, fz_J]) (fz_le_j (fz_le_j (fz_le_j (fz_le_e (fz_le_j fz_le_n))))) ?_
      exact V_nd_X7_ofTwo_183 hD    H
  by_cases hc20012 : p0 = 20012
  · replace H := H.2.2.2.2.2.2.2.2.2.1 hc20012
    refine fs_tableAt (k := 20012) (off := 164) (tgt := 167) hc20012 dd_X7_ofTwo_3 (by decide) (by decide) rfl (by decide) ?_
    refine fs_iload_n (k0 := 1) (i := 1) dd_X7_ofTwo_167 rfl rfl ?_
    refine fs_iload_n (k0 := 2) (i := 2) dd_X7_ofTwo_168 rfl rfl ?_
    refine fs_iand dd_X7_ofTwo_169 ?_
    refine fs_i2l dd_X7_ofTwo_170 ?_
    refine fs_topl (fun x9 hx9 => ?_)
    replace H := H x9 hx9
    refine fs_lstore_n (k0 := 3) (i := 3) dd_X7_ofTwo_171 rfl (by decide) ?_
    refine fs_goto (tgt := 183) dd_X7_ofTwo_172 (by decide) ?_
    refine fs_weak (ls2 := [fz_J, fz_J, fz_J, .long x9, fz_J]) (fz_le_j (fz_le_j (fz_le_j (fz_le_e (fz_le_j fz_le_n))))) ?_
    exact V_nd_X7_ofTwo_183 hD    H
  by_cases hc20013 : p0 = 20013
  · replace H := H.2.2.2.2.2.2.2.2.2.2.1 hc20013
    refine fs_tableAt (k := 20013) (off := 172) (tgt := 175) hc20013 dd_X7_ofTwo_3 (by decide) (by decide) rfl (by decide) ?_
    refine fs_iload_n (k0 := 1) (i := 1) dd_X7_ofTwo_175 rfl rfl ?_
    refine fs_iload_n (k0 := 2) (i := 2) dd_X7_ofTwo_176 rfl rfl ?_
    refine fs_ior dd_X7_ofTwo_177 ?_
    refine fs_i2l dd_X7_ofTwo_178 ?_
    refine fs_topl (fun x10 hx10 => ?_)
    replace H := H x10 hx10
    refine fs_lstore_n (k0 := 3) (i := 3) dd_X7_ofTwo_179 rfl (by decide) ?_
    refine fs_goto (tgt := 183) dd_X7_ofTwo_180 (by decide) ?_
    refine fs_weak (ls2 := [fz_J, fz_J, fz_J, .long x10, fz_J]) (fz_le_j (fz_le_j (fz_le_j (fz_le_e (fz_le_j fz_le_n))))) ?_
    exact V_nd_X7_ofTwo_183 hD    H
  replace H := H.2.2.2.2.2.2.2.2.2.2.2 ⟨hc20003, hc20004, hc20005, hc20006, hc20007, hc20008, hc20009, hc20010, hc20011, hc20012, hc20013⟩
  refine fs_tableOut' (ks := [20003, 20004, 20005, 20006, 20007, 20008, 20009, 20010, 20011, 20012, 20013]) (tgt := 183) (by simp only [List.forall_mem_cons]; exact ⟨hc20003, hc20004, hc20005, hc20006, hc20007, hc20008, hc20009, hc20010, hc20011, hc20012, hc20013, fun _ h => by cases h⟩) dd_X7_ofTwo_3 (by decide) (by decide) ?_
  refine fs_weak (ls2 := [fz_J, fz_J, fz_J, .long 0, fz_J]) (fz_le_j (fz_le_j (fz_le_j (fz_le_e (fz_le_j fz_le_n))))) ?_
  exact V_nd_X7_ofTwo_183 hD    H
theorem dd_X7_value_0 : decode m_X7_value.2.1 0 = .ok (.iconst 0, 1) := by decide +kernel
theorem dd_X7_value_1 : decode m_X7_value.2.1 1 = .ok (.istore 4, 2) := by decide +kernel
theorem dd_X7_value_3 : decode m_X7_value.2.1 3 = .ok (.iload_n 3, 1) := by decide +kernel
theorem dd_X7_value_4 : decode m_X7_value.2.1 4 = .ok (.aload_n 1, 1) := by decide +kernel
theorem dd_X7_value_5 : decode m_X7_value.2.1 5 = .ok (.arraylength, 1) := by decide +kernel
theorem dd_X7_value_6 : decode m_X7_value.2.1 6 = .ok (.invokestatic 18, 3) := by decide +kernel
theorem dd_X7_value_9 : decode m_X7_value.2.1 9 = .ok (.istore 5, 2) := by decide +kernel
theorem dd_X7_value_11 : decode m_X7_value.2.1 11 = .ok (.iconst 0, 1) := by decide +kernel
theorem dd_X7_value_12 : decode m_X7_value.2.1 12 = .ok (.iload_n 2, 1) := by decide +kernel
theorem dd_X7_value_13 : decode m_X7_value.2.1 13 = .ok (.invokestatic 24, 3) := by decide +kernel
theorem dd_X7_value_16 : decode m_X7_value.2.1 16 = .ok (.istore 6, 2) := by decide +kernel
theorem dd_X7_value_18 : decode m_X7_value.2.1 18 = .ok (.iload 6, 2) := by decide +kernel
theorem dd_X7_value_20 : decode m_X7_value.2.1 20 = .ok (.iload 5, 2) := by decide +kernel
theorem dd_X7_value_22 : decode m_X7_value.2.1 22 = .ok (.if_icmp .ge 161, 3) := by decide +kernel
theorem dd_X7_value_25 : decode m_X7_value.2.1 25 = .ok (.aload_n 1, 1) := by decide +kernel
theorem dd_X7_value_26 : decode m_X7_value.2.1 26 = .ok (.iload 6, 2) := by decide +kernel
theorem dd_X7_value_28 : decode m_X7_value.2.1 28 = .ok (.iaload, 1) := by decide +kernel
theorem dd_X7_value_29 : decode m_X7_value.2.1 29 = .ok (.istore 7, 2) := by decide +kernel
theorem dd_X7_value_31 : decode m_X7_value.2.1 31 = .ok (.iload 7, 2) := by decide +kernel
theorem dd_X7_value_33 : decode m_X7_value.2.1 33 = .ok (.sipush 20000, 3) := by decide +kernel
theorem dd_X7_value_36 : decode m_X7_value.2.1 36 = .ok (.if_icmp .ge 46, 3) := by decide +kernel
theorem dd_X7_value_39 : decode m_X7_value.2.1 39 = .ok (.iload 4, 2) := by decide +kernel
theorem dd_X7_value_41 : decode m_X7_value.2.1 41 = .ok (.bipush 64, 2) := by decide +kernel
theorem dd_X7_value_43 : decode m_X7_value.2.1 43 = .ok (.if_icmp .ge 39, 3) := by decide +kernel
theorem dd_X7_value_46 : decode m_X7_value.2.1 46 = .ok (.aload_n 0, 1) := by decide +kernel
theorem dd_X7_value_47 : decode m_X7_value.2.1 47 = .ok (.getfield 15, 3) := by decide +kernel
theorem dd_X7_value_50 : decode m_X7_value.2.1 50 = .ok (.iload 4, 2) := by decide +kernel
theorem dd_X7_value_52 : decode m_X7_value.2.1 52 = .ok (.iload 7, 2) := by decide +kernel
theorem dd_X7_value_54 : decode m_X7_value.2.1 54 = .ok (.sipush 10000, 3) := by decide +kernel
theorem dd_X7_value_57 : decode m_X7_value.2.1 57 = .ok (.if_icmp .ge 8, 3) := by decide +kernel
theorem dd_X7_value_60 : decode m_X7_value.2.1 60 = .ok (.iload 7, 2) := by decide +kernel
theorem dd_X7_value_62 : decode m_X7_value.2.1 62 = .ok (.goto 13, 3) := by decide +kernel
theorem dd_X7_value_65 : decode m_X7_value.2.1 65 = .ok (.aload_n 0, 1) := by decide +kernel
theorem dd_X7_value_66 : decode m_X7_value.2.1 66 = .ok (.iload 7, 2) := by decide +kernel
theorem dd_X7_value_68 : decode m_X7_value.2.1 68 = .ok (.sipush 10000, 3) := by decide +kernel
theorem dd_X7_value_71 : decode m_X7_value.2.1 71 = .ok (.isub, 1) := by decide +kernel
theorem dd_X7_value_72 : decode m_X7_value.2.1 72 = .ok (.invokevirtual 27, 3) := by decide +kernel
theorem dd_X7_value_75 : decode m_X7_value.2.1 75 = .ok (.iastore, 1) := by decide +kernel
theorem dd_X7_value_76 : decode m_X7_value.2.1 76 = .ok (.iinc 4 1, 3) := by decide +kernel
theorem dd_X7_value_79 : decode m_X7_value.2.1 79 = .ok (.goto 98, 3) := by decide +kernel
theorem dd_X7_value_82 : decode m_X7_value.2.1 82 = .ok (.iload 7, 2) := by decide +kernel
theorem dd_X7_value_84 : decode m_X7_value.2.1 84 = .ok (.sipush 20000, 3) := by decide +kernel
theorem dd_X7_value_87 : decode m_X7_value.2.1 87 = .ok (.if_icmp .lt 43, 3) := by decide +kernel
theorem dd_X7_value_90 : decode m_X7_value.2.1 90 = .ok (.iload 7, 2) := by decide +kernel
theorem dd_X7_value_92 : decode m_X7_value.2.1 92 = .ok (.sipush 20003, 3) := by decide +kernel
theorem dd_X7_value_95 : decode m_X7_value.2.1 95 = .ok (.if_icmp .ge 35, 3) := by decide +kernel
theorem dd_X7_value_98 : decode m_X7_value.2.1 98 = .ok (.iload 4, 2) := by decide +kernel
theorem dd_X7_value_100 : decode m_X7_value.2.1 100 = .ok (.ifCond .le 30, 3) := by decide +kernel
theorem dd_X7_value_103 : decode m_X7_value.2.1 103 = .ok (.aload_n 0, 1) := by decide +kernel
theorem dd_X7_value_104 : decode m_X7_value.2.1 104 = .ok (.getfield 15, 3) := by decide +kernel
theorem dd_X7_value_107 : decode m_X7_value.2.1 107 = .ok (.iload 4, 2) := by decide +kernel
theorem dd_X7_value_109 : decode m_X7_value.2.1 109 = .ok (.iconst 1, 1) := by decide +kernel
theorem dd_X7_value_110 : decode m_X7_value.2.1 110 = .ok (.isub, 1) := by decide +kernel
theorem dd_X7_value_111 : decode m_X7_value.2.1 111 = .ok (.aload_n 0, 1) := by decide +kernel
theorem dd_X7_value_112 : decode m_X7_value.2.1 112 = .ok (.iload 7, 2) := by decide +kernel
theorem dd_X7_value_114 : decode m_X7_value.2.1 114 = .ok (.aload_n 0, 1) := by decide +kernel
theorem dd_X7_value_115 : decode m_X7_value.2.1 115 = .ok (.getfield 15, 3) := by decide +kernel
theorem dd_X7_value_118 : decode m_X7_value.2.1 118 = .ok (.iload 4, 2) := by decide +kernel
theorem dd_X7_value_120 : decode m_X7_value.2.1 120 = .ok (.iconst 1, 1) := by decide +kernel
theorem dd_X7_value_121 : decode m_X7_value.2.1 121 = .ok (.isub, 1) := by decide +kernel
theorem dd_X7_value_122 : decode m_X7_value.2.1 122 = .ok (.iaload, 1) := by decide +kernel
theorem dd_X7_value_123 : decode m_X7_value.2.1 123 = .ok (.invokevirtual 31, 3) := by decide +kernel
theorem dd_X7_value_126 : decode m_X7_value.2.1 126 = .ok (.iastore, 1) := by decide +kernel
theorem dd_X7_value_127 : decode m_X7_value.2.1 127 = .ok (.goto 50, 3) := by decide +kernel
theorem dd_X7_value_130 : decode m_X7_value.2.1 130 = .ok (.iload 7, 2) := by decide +kernel
theorem dd_X7_value_132 : decode m_X7_value.2.1 132 = .ok (.sipush 20003, 3) := by decide +kernel
theorem dd_X7_value_135 : decode m_X7_value.2.1 135 = .ok (.if_icmp .lt 42, 3) := by decide +kernel
theorem dd_X7_value_138 : decode m_X7_value.2.1 138 = .ok (.iload 4, 2) := by decide +kernel
theorem dd_X7_value_140 : decode m_X7_value.2.1 140 = .ok (.iconst 1, 1) := by decide +kernel
theorem dd_X7_value_141 : decode m_X7_value.2.1 141 = .ok (.if_icmp .le 36, 3) := by decide +kernel
theorem dd_X7_value_144 : decode m_X7_value.2.1 144 = .ok (.iinc 4 (-1), 3) := by decide +kernel
theorem dd_X7_value_147 : decode m_X7_value.2.1 147 = .ok (.aload_n 0, 1) := by decide +kernel
theorem dd_X7_value_148 : decode m_X7_value.2.1 148 = .ok (.getfield 15, 3) := by decide +kernel
theorem dd_X7_value_151 : decode m_X7_value.2.1 151 = .ok (.iload 4, 2) := by decide +kernel
theorem dd_X7_value_153 : decode m_X7_value.2.1 153 = .ok (.iconst 1, 1) := by decide +kernel
theorem dd_X7_value_154 : decode m_X7_value.2.1 154 = .ok (.isub, 1) := by decide +kernel
theorem dd_X7_value_155 : decode m_X7_value.2.1 155 = .ok (.iload 7, 2) := by decide +kernel
theorem dd_X7_value_157 : decode m_X7_value.2.1 157 = .ok (.aload_n 0, 1) := by decide +kernel
theorem dd_X7_value_158 : decode m_X7_value.2.1 158 = .ok (.getfield 15, 3) := by decide +kernel
theorem dd_X7_value_161 : decode m_X7_value.2.1 161 = .ok (.iload 4, 2) := by decide +kernel
theorem dd_X7_value_163 : decode m_X7_value.2.1 163 = .ok (.iconst 1, 1) := by decide +kernel
theorem dd_X7_value_164 : decode m_X7_value.2.1 164 = .ok (.isub, 1) := by decide +kernel
theorem dd_X7_value_165 : decode m_X7_value.2.1 165 = .ok (.iaload, 1) := by decide +kernel
theorem dd_X7_value_166 : decode m_X7_value.2.1 166 = .ok (.aload_n 0, 1) := by decide +kernel
theorem dd_X7_value_167 : decode m_X7_value.2.1 167 = .ok (.getfield 15, 3) := by decide +kernel
theorem dd_X7_value_170 : decode m_X7_value.2.1 170 = .ok (.iload 4, 2) := by decide +kernel
theorem dd_X7_value_172 : decode m_X7_value.2.1 172 = .ok (.iaload, 1) := by decide +kernel
theorem dd_X7_value_173 : decode m_X7_value.2.1 173 = .ok (.invokestatic 34, 3) := by decide +kernel
theorem dd_X7_value_176 : decode m_X7_value.2.1 176 = .ok (.iastore, 1) := by decide +kernel
theorem dd_X7_value_177 : decode m_X7_value.2.1 177 = .ok (.iinc 6 1, 3) := by decide +kernel
theorem dd_X7_value_180 : decode m_X7_value.2.1 180 = .ok (.goto (-162), 3) := by decide +kernel
theorem dd_X7_value_183 : decode m_X7_value.2.1 183 = .ok (.iload 4, 2) := by decide +kernel
theorem dd_X7_value_185 : decode m_X7_value.2.1 185 = .ok (.ifCond .le 15, 3) := by decide +kernel
theorem dd_X7_value_188 : decode m_X7_value.2.1 188 = .ok (.aload_n 0, 1) := by decide +kernel
theorem dd_X7_value_189 : decode m_X7_value.2.1 189 = .ok (.getfield 15, 3) := by decide +kernel
theorem dd_X7_value_192 : decode m_X7_value.2.1 192 = .ok (.iload 4, 2) := by decide +kernel
theorem dd_X7_value_194 : decode m_X7_value.2.1 194 = .ok (.iconst 1, 1) := by decide +kernel
theorem dd_X7_value_195 : decode m_X7_value.2.1 195 = .ok (.isub, 1) := by decide +kernel
theorem dd_X7_value_196 : decode m_X7_value.2.1 196 = .ok (.iaload, 1) := by decide +kernel
theorem dd_X7_value_197 : decode m_X7_value.2.1 197 = .ok (.goto 4, 3) := by decide +kernel
theorem dd_X7_value_200 : decode m_X7_value.2.1 200 = .ok (.iconst 0, 1) := by decide +kernel
theorem dd_X7_value_201 : decode m_X7_value.2.1 201 = .ok (.ireturn, 1) := by decide +kernel
def nd_X7_value_130 (a0 : Nat) (n0 : Nat) (K18 : Int32 → Int32 → Int32 → fz_s → Prop) (Q : Int32 → fz_s → Prop) (v4 : Int32) (v5 : Int32) (v6 : Int32) (v7 : Int32) (s : fz_s) : Prop :=
  ((v7 < 20003 → ∀ x1 : Int32, x1 = v6 + 1 → K18 v4 v5 x1 s) ∧ (¬ v7 < 20003 → ((v4 ≤ 1 → ∀ x2 : Int32, x2 = v6 + 1 → K18 v4 v5 x2 s) ∧ (¬ v4 ≤ 1 → ∀ x3 : Int32, x3 = v4 + (-1) → vp_in (x3 - 1) 64 ∧ vp_in x3 64 ∧ wp_X7_ofTwo v7 (s.1 33 (x3 - 1).toNatClampNeg) (s.1 33 x3.toNatClampNeg) s (fun r4 s5 => vp_in (x3 - 1) 64 ∧ ∀ s6 : fz_s, s6 = si s5 33 (x3 - 1).toNatClampNeg r4 → ∀ x7 : Int32, x7 = v6 + 1 → K18 x3 v5 x7 s6)))))
def nd_X7_value_82 (a0 : Nat) (n0 : Nat) (K18 : Int32 → Int32 → Int32 → fz_s → Prop) (Q : Int32 → fz_s → Prop) (v4 : Int32) (v5 : Int32) (v6 : Int32) (v7 : Int32) (s : fz_s) : Prop :=
  ((v7 < 20000 → nd_X7_value_130 a0 n0 K18 Q v4 v5 v6 v7 s) ∧ (¬ v7 < 20000 → ((20003 ≤ v7 → nd_X7_value_130 a0 n0 K18 Q v4 v5 v6 v7 s) ∧ (¬ 20003 ≤ v7 → ((v4 ≤ 0 → nd_X7_value_130 a0 n0 K18 Q v4 v5 v6 v7 s) ∧ (¬ v4 ≤ 0 → vp_in (v4 - 1) 64 ∧ wp_X7_ofOne v7 (s.1 33 (v4 - 1).toNatClampNeg) s (fun r1 s2 => vp_in (v4 - 1) 64 ∧ ∀ s3 : fz_s, s3 = si s2 33 (v4 - 1).toNatClampNeg r1 → ∀ x4 : Int32, x4 = v6 + 1 → K18 v4 v5 x4 s3)))))))
def nd_X7_value_18 (a0 : Nat) (n0 : Nat) (K18 : Int32 → Int32 → Int32 → fz_s → Prop) (Q : Int32 → fz_s → Prop) (v4 : Int32) (v5 : Int32) (v6 : Int32) (s : fz_s) : Prop :=
  ((v5 ≤ v6 → ((v4 ≤ 0 → Q 0 s) ∧ (¬ v4 ≤ 0 → vp_in (v4 - 1) 64 ∧ Q (s.1 33 (v4 - 1).toNatClampNeg) s))) ∧ (¬ v5 ≤ v6 → vp_in v6 n0 ∧ ∀ x1 : Int32, x1 = (s.1 a0 v6.toNatClampNeg) → ((20000 ≤ x1 → nd_X7_value_82 a0 n0 K18 Q v4 v5 v6 x1 s) ∧ (¬ 20000 ≤ x1 → ((64 ≤ v4 → nd_X7_value_82 a0 n0 K18 Q v4 v5 v6 x1 s) ∧ (¬ 64 ≤ v4 → ((10000 ≤ x1 → wp_X7_slotValue (x1 - 10000) s (fun r2 s3 => vp_in v4 64 ∧ ∀ s4 : fz_s, s4 = si s3 33 v4.toNatClampNeg r2 → ∀ x5 : Int32, x5 = v4 + 1 → ∀ x6 : Int32, x6 = v6 + 1 → K18 x5 v5 x6 s4)) ∧ (¬ 10000 ≤ x1 → vp_in v4 64 ∧ ∀ s7 : fz_s, s7 = si s 33 v4.toNatClampNeg x1 → ∀ x8 : Int32, x8 = v4 + 1 → ∀ x9 : Int32, x9 = v6 + 1 → K18 x8 v5 x9 s7))))))))
def lp_X7_value_18 (a0 : Nat) (n0 : Nat)  (Q : Int32 → fz_s → Prop) : Nat → Int32 → Int32 → Int32 → fz_s → Prop
  | 0 => fun _ _ _ _ => False
  | n + 1 => nd_X7_value_18 a0 n0 (lp_X7_value_18 a0 n0  Q n) Q
def wp_X7_value (a0 : Nat) (n0 : Nat) (p1 : Int32) (p2 : Int32) (s : fz_s) (Q : Int32 → fz_s → Prop) : Prop :=
  ∀ x1 : Int32, x1 = (if (nI n0) < p2 then (nI n0) else p2) → ∀ x2 : Int32, x2 = (if 0 < p1 then p1 else 0) → lp_X7_value_18 a0 n0  Q 2048 0 x1 x2 s
set_option maxRecDepth 100000 in
set_option maxHeartbeats 4000000 in
theorem V_nd_X7_value_130 {g : fz_G} {l : Launch} {d : Nat} (hD : 2 ≤ d) {a0 : Nat} {n0 : Nat} (ha0 : fz_at true a0 14 n0) {K18 : Int32 → Int32 → Int32 → fz_s → Prop} {Q : Int32 → fz_s → Prop} {v4 : Int32} {v5 : Int32} {v6 : Int32} {v7 : Int32} {s : fz_s} (hK18 : ∀ {v4 : Int32} {v5 : Int32} {v6 : Int32} {s : fz_s}, K18 v4 v5 v6 s → fs_V g l m_X7_value d true 18 [.ref 31, .ref a0, fz_J, fz_J, .int v4, .int v5, .int v6, fz_J] [] s (rI Q)) (H : nd_X7_value_130 a0 n0 K18 Q v4 v5 v6 v7 s) : fs_V g l m_X7_value d true 130 [.ref 31, .ref a0, fz_J, fz_J, .int v4, .int v5, .int v6, .int v7] [] s (rI Q) := by
  obtain ⟨d, rfl⟩ : ∃ e, d = e + 1 := ⟨d - 1, by omega⟩
  unfold nd_X7_value_130 at H
  refine fs_iload (i := 7) dd_X7_value_130 rfl ?_
  refine fs_sipush (n := 20003) (v := 20003) dd_X7_value_132 (by decide) ?_
  refine fs_icmp_lt (tgt := 177) dd_X7_value_135 (by decide) (fun hc => ?_) (fun hc => ?_)
  · replace H := H.1 hc
    refine fs_iincN (i := 6) (m := 1) (c := 1) dd_X7_value_177 rfl (by decide) (by decide) (fun x1 hx1 => ?_)
    replace H := H x1 hx1
    refine fs_goto (tgt := 18) dd_X7_value_180 (by decide) ?_
    refine fs_weak (ls2 := [.ref 31, .ref a0, fz_J, fz_J, .int v4, .int v5, .int x1, fz_J]) (fz_le_e (fz_le_e (fz_le_j (fz_le_j (fz_le_e (fz_le_e (fz_le_e (fz_le_j fz_le_n)))))))) ?_
    exact hK18 H
  · replace H := H.2 hc
    refine fs_iload (i := 4) dd_X7_value_138 rfl ?_
    refine fs_iconst (n := 1) (v := 1) dd_X7_value_140 (by decide) ?_
    refine fs_icmp_le (tgt := 177) dd_X7_value_141 (by decide) (fun hc => ?_) (fun hc => ?_)
    · replace H := H.1 hc
      refine fs_iincN (i := 6) (m := 1) (c := 1) dd_X7_value_177 rfl (by decide) (by decide) (fun x2 hx2 => ?_)
      replace H := H x2 hx2
      refine fs_goto (tgt := 18) dd_X7_value_180 (by decide) ?_
      refine fs_weak (ls2 := [.ref 31, .ref a0, fz_J, fz_J, .int v4, .int v5, .int x2, fz_J]) (fz_le_e (fz_le_e (fz_le_j (fz_le_j (fz_le_e (fz_le_e (fz_le_e (fz_le_j fz_le_n)))))))) ?_
      exact hK18 H
    · replace H := H.2 hc
      refine fs_iincN (i := 4) (m := -1) (c := -1) dd_X7_value_144 rfl (by decide) (by decide) (fun x3 hx3 => ?_)
      replace H := H x3 hx3
      refine fs_aload_n (k0 := 0) (i := 0) dd_X7_value_147 rfl rfl ?_
      refine fs_getr (ci := 7) (j := 1) (q := 33) dd_X7_value_148 fl_X7_15 ca_31 rfl (Or.inr ⟨_, rfl⟩) rfl (by decide) ?_
      refine fs_iload (i := 4) dd_X7_value_151 rfl ?_
      refine fs_iconst (n := 1) (v := 1) dd_X7_value_153 (by decide) ?_
      refine fs_isub dd_X7_value_154 ?_
      refine fs_iload (i := 7) dd_X7_value_155 rfl ?_
      refine fs_aload_n (k0 := 0) (i := 0) dd_X7_value_157 rfl rfl ?_
      refine fs_getr (ci := 7) (j := 1) (q := 33) dd_X7_value_158 fl_X7_15 ca_31 rfl (Or.inr ⟨_, rfl⟩) rfl (by decide) ?_
      refine fs_iload (i := 4) dd_X7_value_161 rfl ?_
      refine fs_iconst (n := 1) (v := 1) dd_X7_value_163 (by decide) ?_
      refine fs_isub dd_X7_value_164 ?_
      have hb := H.1
      replace H := H.2
      refine fs_iald dd_X7_value_165 ca_33 hb ?_
      refine fs_aload_n (k0 := 0) (i := 0) dd_X7_value_166 rfl rfl ?_
      refine fs_getr (ci := 7) (j := 1) (q := 33) dd_X7_value_167 fl_X7_15 ca_31 rfl (Or.inr ⟨_, rfl⟩) rfl (by decide) ?_
      refine fs_iload (i := 4) dd_X7_value_170 rfl ?_
      have hb := H.1
      replace H := H.2
      refine fs_iald dd_X7_value_172 ca_33 hb ?_
      refine fs_callS (y := m_X7_ofTwo) (as := [.int v7, .int (s.1 33 (x3 - 1).toNatClampNeg), .int (s.1 33 x3.toNatClampNeg)]) dd_X7_value_173 me_X7_ofTwo (Or.inl lk_X7_34) st_X7_ofTwo rfl (Nat.le_of_ble_eq_true rfl) (Nat.le_of_ble_eq_true rfl) rfl (V_X7_ofTwo (by omega)  H) (k2_I fun r4 s5 H => ?_)
      have hb := H.1
      replace H := H.2
      refine fs_iast dd_X7_value_176 ca_33 hb ?_
      refine fs_tops (fun s6 hs6 => ?_)
      replace H := H s6 hs6
      refine fs_iincN (i := 6) (m := 1) (c := 1) dd_X7_value_177 rfl (by decide) (by decide) (fun x7 hx7 => ?_)
      replace H := H x7 hx7
      refine fs_goto (tgt := 18) dd_X7_value_180 (by decide) ?_
      refine fs_weak (ls2 := [.ref 31, .ref a0, fz_J, fz_J, .int x3, .int v5, .int x7, fz_J]) (fz_le_e (fz_le_e (fz_le_j (fz_le_j (fz_le_e (fz_le_e (fz_le_e (fz_le_j fz_le_n)))))))) ?_
      exact hK18 H
set_option maxRecDepth 100000 in
set_option maxHeartbeats 4000000 in
theorem V_nd_X7_value_82 {g : fz_G} {l : Launch} {d : Nat} (hD : 2 ≤ d) {a0 : Nat} {n0 : Nat} (ha0 : fz_at true a0 14 n0) {K18 : Int32 → Int32 → Int32 → fz_s → Prop} {Q : Int32 → fz_s → Prop} {v4 : Int32} {v5 : Int32} {v6 : Int32} {v7 : Int32} {s : fz_s} (hK18 : ∀ {v4 : Int32} {v5 : Int32} {v6 : Int32} {s : fz_s}, K18 v4 v5 v6 s → fs_V g l m_X7_value d true 18 [.ref 31, .ref a0, fz_J, fz_J, .int v4, .int v5, .int v6, fz_J] [] s (rI Q)) (H : nd_X7_value_82 a0 n0 K18 Q v4 v5 v6 v7 s) : fs_V g l m_X7_value d true 82 [.ref 31, .ref a0, fz_J, fz_J, .int v4, .int v5, .int v6, .int v7] [] s (rI Q) := by
  obtain ⟨d, rfl⟩ : ∃ e, d = e + 1 := ⟨d - 1, by omega⟩
  unfold nd_X7_value_82 at H
  refine fs_iload (i := 7) dd_X7_value_82 rfl ?_
  refine fs_sipush (n := 20000) (v := 20000) dd_X7_value_84 (by decide) ?_
  refine fs_icmp_lt (tgt := 130) dd_X7_value_87 (by decide) (fun hc => ?_) (fun hc => ?_)
  · replace H := H.1 hc
    refine fs_weak (ls2 := [.ref 31, .ref a0, fz_J, fz_J, .int v4, .int v5, .int v6, .int v7]) (fz_le_e (fz_le_e (fz_le_j (fz_le_j (fz_le_e (fz_le_e (fz_le_e (fz_le_e fz_le_n)))))))) ?_
    exact V_nd_X7_value_130 hD  ha0 hK18 H
  · replace H := H.2 hc
    refine fs_iload (i := 7) dd_X7_value_90 rfl ?_
    refine fs_sipush (n := 20003) (v := 20003) dd_X7_value_92 (by decide) ?_
    refine fs_icmp_ge (tgt := 130) dd_X7_value_95 (by decide) (fun hc => ?_) (fun hc => ?_)
    · replace H := H.1 hc
      refine fs_weak (ls2 := [.ref 31, .ref a0, fz_J, fz_J, .int v4, .int v5, .int v6, .int v7]) (fz_le_e (fz_le_e (fz_le_j (fz_le_j (fz_le_e (fz_le_e (fz_le_e (fz_le_e fz_le_n)))))))) ?_
      exact V_nd_X7_value_130 hD  ha0 hK18 H
    · replace H := H.2 hc
      refine fs_iload (i := 4) dd_X7_value_98 rfl ?_
      refine fs_if_le (tgt := 130) dd_X7_value_100 (by decide) (fun hc => ?_) (fun hc => ?_)
      · replace H := H.1 hc
        refine fs_weak (ls2 := [.ref 31, .ref a0, fz_J, fz_J, .int v4, .int v5, .int v6, .int v7]) (fz_le_e (fz_le_e (fz_le_j (fz_le_j (fz_le_e (fz_le_e (fz_le_e (fz_le_e fz_le_n)))))))) ?_
        exact V_nd_X7_value_130 hD  ha0 hK18 H
      · replace H := H.2 hc
        refine fs_aload_n (k0 := 0) (i := 0) dd_X7_value_103 rfl rfl ?_
        refine fs_getr (ci := 7) (j := 1) (q := 33) dd_X7_value_104 fl_X7_15 ca_31 rfl (Or.inr ⟨_, rfl⟩) rfl (by decide) ?_
        refine fs_iload (i := 4) dd_X7_value_107 rfl ?_
        refine fs_iconst (n := 1) (v := 1) dd_X7_value_109 (by decide) ?_
        refine fs_isub dd_X7_value_110 ?_
        refine fs_aload_n (k0 := 0) (i := 0) dd_X7_value_111 rfl rfl ?_
        refine fs_iload (i := 7) dd_X7_value_112 rfl ?_
        refine fs_aload_n (k0 := 0) (i := 0) dd_X7_value_114 rfl rfl ?_
        refine fs_getr (ci := 7) (j := 1) (q := 33) dd_X7_value_115 fl_X7_15 ca_31 rfl (Or.inr ⟨_, rfl⟩) rfl (by decide) ?_
        refine fs_iload (i := 4) dd_X7_value_118 rfl ?_
        refine fs_iconst (n := 1) (v := 1) dd_X7_value_120 (by decide) ?_
        refine fs_isub dd_X7_value_121 ?_
        have hb := H.1
        replace H := H.2
        refine fs_iald dd_X7_value_122 ca_33 hb ?_
        refine fs_callV (y := m_X7_ofOne) (as := [.int v7, .int (s.1 33 (v4 - 1).toNatClampNeg)]) dd_X7_value_123 me_X7_ofOne lk_X7_31 in_X7_ofOne se_X7_ofOne ca_31 rfl rfl rfl (Nat.le_of_ble_eq_true rfl) (Nat.le_of_ble_eq_true rfl) rfl (V_X7_ofOne (by omega)  H) (k2_I fun r1 s2 H => ?_)
        have hb := H.1
        replace H := H.2
        refine fs_iast dd_X7_value_126 ca_33 hb ?_
        refine fs_tops (fun s3 hs3 => ?_)
        replace H := H s3 hs3
        refine fs_goto (tgt := 177) dd_X7_value_127 (by decide) ?_
        refine fs_iincN (i := 6) (m := 1) (c := 1) dd_X7_value_177 rfl (by decide) (by decide) (fun x4 hx4 => ?_)
        replace H := H x4 hx4
        refine fs_goto (tgt := 18) dd_X7_value_180 (by decide) ?_
        refine fs_weak (ls2 := [.ref 31, .ref a0, fz_J, fz_J, .int v4, .int v5, .int x4, fz_J]) (fz_le_e (fz_le_e (fz_le_j (fz_le_j (fz_le_e (fz_le_e (fz_le_e (fz_le_j fz_le_n)))))))) ?_
        exact hK18 H
set_option maxRecDepth 100000 in
set_option maxHeartbeats 4000000 in
theorem V_nd_X7_value_18 {g : fz_G} {l : Launch} {d : Nat} (hD : 2 ≤ d) {a0 : Nat} {n0 : Nat} (ha0 : fz_at true a0 14 n0) {K18 : Int32 → Int32 → Int32 → fz_s → Prop} {Q : Int32 → fz_s → Prop} {v4 : Int32} {v5 : Int32} {v6 : Int32} {s : fz_s} (hK18 : ∀ {v4 : Int32} {v5 : Int32} {v6 : Int32} {s : fz_s}, K18 v4 v5 v6 s → fs_V g l m_X7_value d true 18 [.ref 31, .ref a0, fz_J, fz_J, .int v4, .int v5, .int v6, fz_J] [] s (rI Q)) (H : nd_X7_value_18 a0 n0 K18 Q v4 v5 v6 s) : fs_V g l m_X7_value d true 18 [.ref 31, .ref a0, fz_J, fz_J, .int v4, .int v5, .int v6, fz_J] [] s (rI Q) := by
  obtain ⟨d, rfl⟩ : ∃ e, d = e + 1 := ⟨d - 1, by omega⟩
  unfold nd_X7_value_18 at H
  refine fs_iload (i := 6) dd_X7_value_18 rfl ?_
  refine fs_iload (i := 5) dd_X7_value_20 rfl ?_
  refine fs_icmp_ge (tgt := 183) dd_X7_value_22 (by decide) (fun hc => ?_) (fun hc => ?_)
  · replace H := H.1 hc
    refine fs_iload (i := 4) dd_X7_value_183 rfl ?_
    refine fs_if_le (tgt := 200) dd_X7_value_185 (by decide) (fun hc => ?_) (fun hc => ?_)
    · replace H := H.1 hc
      refine fs_iconst (n := 0) (v := 0) dd_X7_value_200 (by decide) ?_
      exact fs_iret dd_X7_value_201 rfl H
    · replace H := H.2 hc
      refine fs_aload_n (k0 := 0) (i := 0) dd_X7_value_188 rfl rfl ?_
      refine fs_getr (ci := 7) (j := 1) (q := 33) dd_X7_value_189 fl_X7_15 ca_31 rfl (Or.inr ⟨_, rfl⟩) rfl (by decide) ?_
      refine fs_iload (i := 4) dd_X7_value_192 rfl ?_
      refine fs_iconst (n := 1) (v := 1) dd_X7_value_194 (by decide) ?_
      refine fs_isub dd_X7_value_195 ?_
      have hb := H.1
      replace H := H.2
      refine fs_iald dd_X7_value_196 ca_33 hb ?_
      refine fs_goto (tgt := 201) dd_X7_value_197 (by decide) ?_
      exact fs_iret dd_X7_value_201 rfl H
  · replace H := H.2 hc
    refine fs_aload_n (k0 := 1) (i := 1) dd_X7_value_25 rfl rfl ?_
    refine fs_iload (i := 6) dd_X7_value_26 rfl ?_
    have hb := H.1
    replace H := H.2
    refine fs_iald dd_X7_value_28 ha0 hb ?_
    refine fs_topi (fun x1 hx1 => ?_)
    replace H := H x1 hx1
    refine fs_istore (i := 7) dd_X7_value_29 (by decide) ?_
    refine fs_iload (i := 7) dd_X7_value_31 rfl ?_
    refine fs_sipush (n := 20000) (v := 20000) dd_X7_value_33 (by decide) ?_
    refine fs_icmp_ge (tgt := 82) dd_X7_value_36 (by decide) (fun hc => ?_) (fun hc => ?_)
    · replace H := H.1 hc
      refine fs_weak (ls2 := [.ref 31, .ref a0, fz_J, fz_J, .int v4, .int v5, .int v6, .int x1]) (fz_le_e (fz_le_e (fz_le_j (fz_le_j (fz_le_e (fz_le_e (fz_le_e (fz_le_e fz_le_n)))))))) ?_
      exact V_nd_X7_value_82 hD  ha0 hK18 H
    · replace H := H.2 hc
      refine fs_iload (i := 4) dd_X7_value_39 rfl ?_
      refine fs_bipush (n := 64) (v := 64) dd_X7_value_41 (by decide) ?_
      refine fs_icmp_ge (tgt := 82) dd_X7_value_43 (by decide) (fun hc => ?_) (fun hc => ?_)
      · replace H := H.1 hc
        refine fs_weak (ls2 := [.ref 31, .ref a0, fz_J, fz_J, .int v4, .int v5, .int v6, .int x1]) (fz_le_e (fz_le_e (fz_le_j (fz_le_j (fz_le_e (fz_le_e (fz_le_e (fz_le_e fz_le_n)))))))) ?_
        exact V_nd_X7_value_82 hD  ha0 hK18 H
      · replace H := H.2 hc
        refine fs_aload_n (k0 := 0) (i := 0) dd_X7_value_46 rfl rfl ?_
        refine fs_getr (ci := 7) (j := 1) (q := 33) dd_X7_value_47 fl_X7_15 ca_31 rfl (Or.inr ⟨_, rfl⟩) rfl (by decide) ?_
        refine fs_iload (i := 4) dd_X7_value_50 rfl ?_
        refine fs_iload (i := 7) dd_X7_value_52 rfl ?_
        refine fs_sipush (n := 10000) (v := 10000) dd_X7_value_54 (by decide) ?_
        refine fs_icmp_ge (tgt := 65) dd_X7_value_57 (by decide) (fun hc => ?_) (fun hc => ?_)
        · replace H := H.1 hc
          refine fs_aload_n (k0 := 0) (i := 0) dd_X7_value_65 rfl rfl ?_
          refine fs_iload (i := 7) dd_X7_value_66 rfl ?_
          refine fs_sipush (n := 10000) (v := 10000) dd_X7_value_68 (by decide) ?_
          refine fs_isub dd_X7_value_71 ?_
          refine fs_callV (y := m_X7_slotValue) (as := [.int (x1 - 10000)]) dd_X7_value_72 me_X7_slotValue lk_X7_27 in_X7_slotValue se_X7_slotValue ca_31 rfl rfl rfl (Nat.le_of_ble_eq_true rfl) (Nat.le_of_ble_eq_true rfl) rfl (V_X7_slotValue (by omega)  H) (k2_I fun r2 s3 H => ?_)
          have hb := H.1
          replace H := H.2
          refine fs_iast dd_X7_value_75 ca_33 hb ?_
          refine fs_tops (fun s4 hs4 => ?_)
          replace H := H s4 hs4
          refine fs_iincN (i := 4) (m := 1) (c := 1) dd_X7_value_76 rfl (by decide) (by decide) (fun x5 hx5 => ?_)
          replace H := H x5 hx5
          refine fs_goto (tgt := 177) dd_X7_value_79 (by decide) ?_
          refine fs_iincN (i := 6) (m := 1) (c := 1) dd_X7_value_177 rfl (by decide) (by decide) (fun x6 hx6 => ?_)
          replace H := H x6 hx6
          refine fs_goto (tgt := 18) dd_X7_value_180 (by decide) ?_
          refine fs_weak (ls2 := [.ref 31, .ref a0, fz_J, fz_J, .int x5, .int v5, .int x6, fz_J]) (fz_le_e (fz_le_e (fz_le_j (fz_le_j (fz_le_e (fz_le_e (fz_le_e (fz_le_j fz_le_n)))))))) ?_
          exact hK18 H
        · replace H := H.2 hc
          refine fs_iload (i := 7) dd_X7_value_60 rfl ?_
          refine fs_goto (tgt := 75) dd_X7_value_62 (by decide) ?_
          have hb := H.1
          replace H := H.2
          refine fs_iast dd_X7_value_75 ca_33 hb ?_
          refine fs_tops (fun s7 hs7 => ?_)
          replace H := H s7 hs7
          refine fs_iincN (i := 4) (m := 1) (c := 1) dd_X7_value_76 rfl (by decide) (by decide) (fun x8 hx8 => ?_)
          replace H := H x8 hx8
          refine fs_goto (tgt := 177) dd_X7_value_79 (by decide) ?_
          refine fs_iincN (i := 6) (m := 1) (c := 1) dd_X7_value_177 rfl (by decide) (by decide) (fun x9 hx9 => ?_)
          replace H := H x9 hx9
          refine fs_goto (tgt := 18) dd_X7_value_180 (by decide) ?_
          refine fs_weak (ls2 := [.ref 31, .ref a0, fz_J, fz_J, .int x8, .int v5, .int x9, fz_J]) (fz_le_e (fz_le_e (fz_le_j (fz_le_j (fz_le_e (fz_le_e (fz_le_e (fz_le_j fz_le_n)))))))) ?_
          exact hK18 H
set_option maxRecDepth 100000 in
set_option maxHeartbeats 4000000 in
theorem V_lp_X7_value_18 {g : fz_G} {l : Launch} {d : Nat} (hD : 2 ≤ d) {a0 : Nat} {n0 : Nat} (ha0 : fz_at true a0 14 n0)  {Q : Int32 → fz_s → Prop}  (n : Nat) : ∀ {v4 : Int32} {v5 : Int32} {v6 : Int32} {s : fz_s}, lp_X7_value_18 a0 n0  Q n v4 v5 v6 s → fs_V g l m_X7_value d true 18 [.ref 31, .ref a0, fz_J, fz_J, .int v4, .int v5, .int v6, fz_J] [] s (rI Q) := by
  induction n with
  | zero => intro v4 v5 v6 s H; exact H.elim
  | succ n ih => intro v4 v5 v6 s H; exact V_nd_X7_value_18 hD ha0 (fun H => ih H) H
set_option maxRecDepth 100000 in
set_option maxHeartbeats 4000000 in
theorem V_X7_value {g : fz_G} {l : Launch} {d : Nat} (hD : 2 ≤ d) {a0 : Nat} {n0 : Nat} {p1 : Int32} {p2 : Int32} (ha0 : fz_at true a0 14 n0) {s : fz_s} {Q : Int32 → fz_s → Prop} (H : wp_X7_value a0 n0 p1 p2 s Q) : fs_V g l m_X7_value d true 0 (fz_en [.ref 31, .ref a0, .int p1, .int p2] 8) [] s (rI Q) := by
  obtain ⟨d, rfl⟩ : ∃ e, d = e + 1 := ⟨d - 1, by omega⟩
  unfold wp_X7_value at H
  refine fs_iconst (n := 0) (v := 0) dd_X7_value_0 (by decide) ?_
  refine fs_istore (i := 4) dd_X7_value_1 (by decide) ?_
  refine fs_iload_n (k0 := 3) (i := 3) dd_X7_value_3 rfl rfl ?_
  refine fs_aload_n (k0 := 1) (i := 1) dd_X7_value_4 rfl rfl ?_
  refine fs_alen dd_X7_value_5 ha0 ?_
  refine fs_mmin dd_X7_value_6 lk_X7_18 (Nat.le_of_ble_eq_true rfl) ?_
  refine fs_topi (fun x1 hx1 => ?_)
  replace H := H x1 hx1
  refine fs_istore (i := 5) dd_X7_value_9 (by decide) ?_
  refine fs_iconst (n := 0) (v := 0) dd_X7_value_11 (by decide) ?_
  refine fs_iload_n (k0 := 2) (i := 2) dd_X7_value_12 rfl rfl ?_
  refine fs_mmax dd_X7_value_13 lk_X7_24 (Nat.le_of_ble_eq_true rfl) ?_
  refine fs_topi (fun x2 hx2 => ?_)
  replace H := H x2 hx2
  refine fs_istore (i := 6) dd_X7_value_16 (by decide) ?_
  refine fs_weak (ls2 := [.ref 31, .ref a0, fz_J, fz_J, .int 0, .int x1, .int x2, fz_J]) (fz_le_e (fz_le_e (fz_le_j (fz_le_j (fz_le_e (fz_le_e (fz_le_e (fz_le_j fz_le_n)))))))) ?_
  exact V_lp_X7_value_18 hD  ha0  2048 H

theorem dd_X9_readTraits_0 : decode m_X9_readTraits.2.1 0 = .ok (.aload_n 1, 1) := by decide +kernel
theorem dd_X9_readTraits_1 : decode m_X9_readTraits.2.1 1 = .ok (.iconst 3, 1) := by decide +kernel
theorem dd_X9_readTraits_2 : decode m_X9_readTraits.2.1 2 = .ok (.bipush 9, 2) := by decide +kernel
theorem dd_X9_readTraits_4 : decode m_X9_readTraits.2.1 4 = .ok (.invokevirtual 137, 3) := by decide +kernel
theorem dd_X9_readTraits_7 : decode m_X9_readTraits.2.1 7 = .ok (.ifCond .ne 5, 3) := by decide +kernel
theorem dd_X9_readTraits_10 : decode m_X9_readTraits.2.1 10 = .ok (.iconst 0, 1) := by decide +kernel
theorem dd_X9_readTraits_11 : decode m_X9_readTraits.2.1 11 = .ok (.ireturn, 1) := by decide +kernel
theorem dd_X9_readTraits_12 : decode m_X9_readTraits.2.1 12 = .ok (.aload_n 0, 1) := by decide +kernel
theorem dd_X9_readTraits_13 : decode m_X9_readTraits.2.1 13 = .ok (.getfield 24, 3) := by decide +kernel
theorem dd_X9_readTraits_16 : decode m_X9_readTraits.2.1 16 = .ok (.aload_n 0, 1) := by decide +kernel
theorem dd_X9_readTraits_17 : decode m_X9_readTraits.2.1 17 = .ok (.getfield 55, 3) := by decide +kernel
theorem dd_X9_readTraits_20 : decode m_X9_readTraits.2.1 20 = .ok (.aload_n 1, 1) := by decide +kernel
theorem dd_X9_readTraits_21 : decode m_X9_readTraits.2.1 21 = .ok (.getfield 140, 3) := by decide +kernel
theorem dd_X9_readTraits_24 : decode m_X9_readTraits.2.1 24 = .ok (.iastore, 1) := by decide +kernel
theorem dd_X9_readTraits_25 : decode m_X9_readTraits.2.1 25 = .ok (.aload_n 1, 1) := by decide +kernel
theorem dd_X9_readTraits_26 : decode m_X9_readTraits.2.1 26 = .ok (.iconst 4, 1) := by decide +kernel
theorem dd_X9_readTraits_27 : decode m_X9_readTraits.2.1 27 = .ok (.bipush 9, 2) := by decide +kernel
theorem dd_X9_readTraits_29 : decode m_X9_readTraits.2.1 29 = .ok (.invokevirtual 137, 3) := by decide +kernel
theorem dd_X9_readTraits_32 : decode m_X9_readTraits.2.1 32 = .ok (.ifCond .ne 5, 3) := by decide +kernel
theorem dd_X9_readTraits_35 : decode m_X9_readTraits.2.1 35 = .ok (.iconst 0, 1) := by decide +kernel
theorem dd_X9_readTraits_36 : decode m_X9_readTraits.2.1 36 = .ok (.ireturn, 1) := by decide +kernel
theorem dd_X9_readTraits_37 : decode m_X9_readTraits.2.1 37 = .ok (.aload_n 0, 1) := by decide +kernel
theorem dd_X9_readTraits_38 : decode m_X9_readTraits.2.1 38 = .ok (.getfield 27, 3) := by decide +kernel
theorem dd_X9_readTraits_41 : decode m_X9_readTraits.2.1 41 = .ok (.aload_n 0, 1) := by decide +kernel
theorem dd_X9_readTraits_42 : decode m_X9_readTraits.2.1 42 = .ok (.getfield 55, 3) := by decide +kernel
theorem dd_X9_readTraits_45 : decode m_X9_readTraits.2.1 45 = .ok (.aload_n 1, 1) := by decide +kernel
theorem dd_X9_readTraits_46 : decode m_X9_readTraits.2.1 46 = .ok (.getfield 140, 3) := by decide +kernel
theorem dd_X9_readTraits_49 : decode m_X9_readTraits.2.1 49 = .ok (.iastore, 1) := by decide +kernel
theorem dd_X9_readTraits_50 : decode m_X9_readTraits.2.1 50 = .ok (.aload_n 1, 1) := by decide +kernel
theorem dd_X9_readTraits_51 : decode m_X9_readTraits.2.1 51 = .ok (.iconst 5, 1) := by decide +kernel
theorem dd_X9_readTraits_52 : decode m_X9_readTraits.2.1 52 = .ok (.bipush 9, 2) := by decide +kernel
theorem dd_X9_readTraits_54 : decode m_X9_readTraits.2.1 54 = .ok (.invokevirtual 137, 3) := by decide +kernel
theorem dd_X9_readTraits_57 : decode m_X9_readTraits.2.1 57 = .ok (.ifCond .ne 5, 3) := by decide +kernel
theorem dd_X9_readTraits_60 : decode m_X9_readTraits.2.1 60 = .ok (.iconst 0, 1) := by decide +kernel
theorem dd_X9_readTraits_61 : decode m_X9_readTraits.2.1 61 = .ok (.ireturn, 1) := by decide +kernel
theorem dd_X9_readTraits_62 : decode m_X9_readTraits.2.1 62 = .ok (.aload_n 0, 1) := by decide +kernel
theorem dd_X9_readTraits_63 : decode m_X9_readTraits.2.1 63 = .ok (.getfield 30, 3) := by decide +kernel
theorem dd_X9_readTraits_66 : decode m_X9_readTraits.2.1 66 = .ok (.aload_n 0, 1) := by decide +kernel
theorem dd_X9_readTraits_67 : decode m_X9_readTraits.2.1 67 = .ok (.getfield 55, 3) := by decide +kernel
theorem dd_X9_readTraits_70 : decode m_X9_readTraits.2.1 70 = .ok (.aload_n 1, 1) := by decide +kernel
theorem dd_X9_readTraits_71 : decode m_X9_readTraits.2.1 71 = .ok (.getfield 140, 3) := by decide +kernel
theorem dd_X9_readTraits_74 : decode m_X9_readTraits.2.1 74 = .ok (.iastore, 1) := by decide +kernel
theorem dd_X9_readTraits_75 : decode m_X9_readTraits.2.1 75 = .ok (.aload_n 0, 1) := by decide +kernel
theorem dd_X9_readTraits_76 : decode m_X9_readTraits.2.1 76 = .ok (.dup, 1) := by decide +kernel
theorem dd_X9_readTraits_77 : decode m_X9_readTraits.2.1 77 = .ok (.getfield 55, 3) := by decide +kernel
theorem dd_X9_readTraits_80 : decode m_X9_readTraits.2.1 80 = .ok (.iconst 1, 1) := by decide +kernel
theorem dd_X9_readTraits_81 : decode m_X9_readTraits.2.1 81 = .ok (.iadd, 1) := by decide +kernel
theorem dd_X9_readTraits_82 : decode m_X9_readTraits.2.1 82 = .ok (.putfield 55, 3) := by decide +kernel
theorem dd_X9_readTraits_85 : decode m_X9_readTraits.2.1 85 = .ok (.iconst 1, 1) := by decide +kernel
theorem dd_X9_readTraits_86 : decode m_X9_readTraits.2.1 86 = .ok (.ireturn, 1) := by decide +kernel
def wp_X9_readTraits_17  (s : fz_s) (Q : Bool → fz_s → Prop) : Prop :=
  wp_X8_takeWordAndNumber 3 9 s (fun r1 s2 => ((r1 = true → vp_in (s2.1 17 12) 8 ∧ ∀ s3 : fz_s, s3 = si s2 22 (s2.1 17 12).toNatClampNeg (s2.1 4 6) → wp_X8_takeWordAndNumber 4 9 s3 (fun r4 s5 => ((r4 = true → vp_in (s5.1 17 12) 8 ∧ ∀ s6 : fz_s, s6 = si s5 23 (s5.1 17 12).toNatClampNeg (s5.1 4 6) → wp_X8_takeWordAndNumber 5 9 s6 (fun r7 s8 => ((r7 = true → vp_in (s8.1 17 12) 8 ∧ ∀ s9 : fz_s, s9 = si s8 24 (s8.1 17 12).toNatClampNeg (s8.1 4 6) → ∀ s10 : fz_s, s10 = si s9 17 12 ((s9.1 17 12) + 1) → Q true s10) ∧ (r7 = false → Q false s8)))) ∧ (r4 = false → Q false s5)))) ∧ (r1 = false → Q false s2)))
set_option maxRecDepth 100000 in
set_option maxHeartbeats 4000000 in
theorem V_X9_readTraits_17 {g : fz_G} {l : Launch} {d : Nat} (hD : 12 ≤ d)   {s : fz_s} {Q : Bool → fz_s → Prop} (H : wp_X9_readTraits_17  s Q) : fs_V g l m_X9_readTraits d true 0 (fz_en [.ref 17, .ref 4] 2) [] s (rZ Q) := by
  obtain ⟨d, rfl⟩ : ∃ e, d = e + 1 := ⟨d - 1, by omega⟩
  unfold wp_X9_readTraits_17 at H
  refine fs_aload_n (k0 := 1) (i := 1) dd_X9_readTraits_0 rfl rfl ?_
  refine fs_iconst (n := 3) (v := 3) dd_X9_readTraits_1 (by decide) ?_
  refine fs_bipush (n := 9) (v := 9) dd_X9_readTraits_2 (by decide) ?_
  refine fs_callV (y := m_X8_takeWordAndNumber) (as := [.int 3, .int 9]) dd_X9_readTraits_4 me_X8_takeWordAndNumber lk_X9_137 in_X8_takeWordAndNumber se_X8_takeWordAndNumber ca_4 rfl rfl rfl (Nat.le_of_ble_eq_true rfl) (Nat.le_of_ble_eq_true rfl) rfl (V_X8_takeWordAndNumber (by omega)  H) (k2_Z fun r1 s2 H => ?_)
  refine fs_if_ne (tgt := 12) dd_X9_readTraits_7 (by decide) (fun hc => ?_) (fun hc => ?_)
  · replace H := H.1 (bi_1 hc)
    refine fs_aload_n (k0 := 0) (i := 0) dd_X9_readTraits_12 rfl rfl ?_
    refine fs_getr (ci := 9) (j := 4) (q := 22) dd_X9_readTraits_13 fl_X9_24 ca_17 rfl (Or.inr ⟨_, rfl⟩) rfl (by decide) ?_
    refine fs_aload_n (k0 := 0) (i := 0) dd_X9_readTraits_16 rfl rfl ?_
    refine fs_geti (ci := 9) (j := 12) dd_X9_readTraits_17 fl_X9_55 ca_17 rfl (Or.inl rfl) ?_
    refine fs_aload_n (k0 := 1) (i := 1) dd_X9_readTraits_20 rfl rfl ?_
    refine fs_geti (ci := 8) (j := 6) dd_X9_readTraits_21 fl_X9_140 ca_4 rfl (Or.inl rfl) ?_
    have hb := H.1
    replace H := H.2
    refine fs_iast dd_X9_readTraits_24 ca_22 hb ?_
    refine fs_tops (fun s3 hs3 => ?_)
    replace H := H s3 hs3
    refine fs_aload_n (k0 := 1) (i := 1) dd_X9_readTraits_25 rfl rfl ?_
    refine fs_iconst (n := 4) (v := 4) dd_X9_readTraits_26 (by decide) ?_
    refine fs_bipush (n := 9) (v := 9) dd_X9_readTraits_27 (by decide) ?_
    refine fs_callV (y := m_X8_takeWordAndNumber) (as := [.int 4, .int 9]) dd_X9_readTraits_29 me_X8_takeWordAndNumber lk_X9_137 in_X8_takeWordAndNumber se_X8_takeWordAndNumber ca_4 rfl rfl rfl (Nat.le_of_ble_eq_true rfl) (Nat.le_of_ble_eq_true rfl) rfl (V_X8_takeWordAndNumber (by omega)  H) (k2_Z fun r4 s5 H => ?_)
    refine fs_if_ne (tgt := 37) dd_X9_readTraits_32 (by decide) (fun hc => ?_) (fun hc => ?_)
    · replace H := H.1 (bi_1 hc)
      refine fs_aload_n (k0 := 0) (i := 0) dd_X9_readTraits_37 rfl rfl ?_
      refine fs_getr (ci := 9) (j := 5) (q := 23) dd_X9_readTraits_38 fl_X9_27 ca_17 rfl (Or.inr ⟨_, rfl⟩) rfl (by decide) ?_
      refine fs_aload_n (k0 := 0) (i := 0) dd_X9_readTraits_41 rfl rfl ?_
      refine fs_geti (ci := 9) (j := 12) dd_X9_readTraits_42 fl_X9_55 ca_17 rfl (Or.inl rfl) ?_
      refine fs_aload_n (k0 := 1) (i := 1) dd_X9_readTraits_45 rfl rfl ?_
      refine fs_geti (ci := 8) (j := 6) dd_X9_readTraits_46 fl_X9_140 ca_4 rfl (Or.inl rfl) ?_
      have hb := H.1
      replace H := H.2
      refine fs_iast dd_X9_readTraits_49 ca_23 hb ?_
      refine fs_tops (fun s6 hs6 => ?_)
      replace H := H s6 hs6
      refine fs_aload_n (k0 := 1) (i := 1) dd_X9_readTraits_50 rfl rfl ?_
      refine fs_iconst (n := 5) (v := 5) dd_X9_readTraits_51 (by decide) ?_
      refine fs_bipush (n := 9) (v := 9) dd_X9_readTraits_52 (by decide) ?_
      refine fs_callV (y := m_X8_takeWordAndNumber) (as := [.int 5, .int 9]) dd_X9_readTraits_54 me_X8_takeWordAndNumber lk_X9_137 in_X8_takeWordAndNumber se_X8_takeWordAndNumber ca_4 rfl rfl rfl (Nat.le_of_ble_eq_true rfl) (Nat.le_of_ble_eq_true rfl) rfl (V_X8_takeWordAndNumber (by omega)  H) (k2_Z fun r7 s8 H => ?_)
      refine fs_if_ne (tgt := 62) dd_X9_readTraits_57 (by decide) (fun hc => ?_) (fun hc => ?_)
      · replace H := H.1 (bi_1 hc)
        refine fs_aload_n (k0 := 0) (i := 0) dd_X9_readTraits_62 rfl rfl ?_
        refine fs_getr (ci := 9) (j := 6) (q := 24) dd_X9_readTraits_63 fl_X9_30 ca_17 rfl (Or.inr ⟨_, rfl⟩) rfl (by decide) ?_
        refine fs_aload_n (k0 := 0) (i := 0) dd_X9_readTraits_66 rfl rfl ?_
        refine fs_geti (ci := 9) (j := 12) dd_X9_readTraits_67 fl_X9_55 ca_17 rfl (Or.inl rfl) ?_
        refine fs_aload_n (k0 := 1) (i := 1) dd_X9_readTraits_70 rfl rfl ?_
        refine fs_geti (ci := 8) (j := 6) dd_X9_readTraits_71 fl_X9_140 ca_4 rfl (Or.inl rfl) ?_
        have hb := H.1
        replace H := H.2
        refine fs_iast dd_X9_readTraits_74 ca_24 hb ?_
        refine fs_tops (fun s9 hs9 => ?_)
        replace H := H s9 hs9
        refine fs_aload_n (k0 := 0) (i := 0) dd_X9_readTraits_75 rfl rfl ?_
        refine fs_dup dd_X9_readTraits_76 rfl ?_
        refine fs_geti (ci := 9) (j := 12) dd_X9_readTraits_77 fl_X9_55 ca_17 rfl (Or.inl rfl) ?_
        refine fs_iconst (n := 1) (v := 1) dd_X9_readTraits_80 (by decide) ?_
        refine fs_iadd dd_X9_readTraits_81 ?_
        refine fs_puti (ci := 9) (j := 12) dd_X9_readTraits_82 fl_X9_55 (fun _ _ _ h => by cases h; rfl) ca_17 rfl (Or.inl rfl) ?_
        refine fs_tops (fun s10 hs10 => ?_)
        replace H := H s10 hs10
        refine fs_iconst (n := 1) (v := 1) dd_X9_readTraits_85 (by decide) ?_
        exact fs_zret true dd_X9_readTraits_86 rfl rfl H
      · replace H := H.2 (bi_0 hc)
        refine fs_iconst (n := 0) (v := 0) dd_X9_readTraits_60 (by decide) ?_
        exact fs_zret false dd_X9_readTraits_61 rfl rfl H
    · replace H := H.2 (bi_0 hc)
      refine fs_iconst (n := 0) (v := 0) dd_X9_readTraits_35 (by decide) ?_
      exact fs_zret false dd_X9_readTraits_36 rfl rfl H
  · replace H := H.2 (bi_0 hc)
    refine fs_iconst (n := 0) (v := 0) dd_X9_readTraits_10 (by decide) ?_
    exact fs_zret false dd_X9_readTraits_11 rfl rfl H
theorem dd_X9_readVillage_0 : decode m_X9_readVillage.2.1 0 = .ok (.aload_n 1, 1) := by decide +kernel
theorem dd_X9_readVillage_1 : decode m_X9_readVillage.2.1 1 = .ok (.invokevirtual 130, 3) := by decide +kernel
theorem dd_X9_readVillage_4 : decode m_X9_readVillage.2.1 4 = .ok (.aload_n 0, 1) := by decide +kernel
theorem dd_X9_readVillage_5 : decode m_X9_readVillage.2.1 5 = .ok (.aload_n 1, 1) := by decide +kernel
theorem dd_X9_readVillage_6 : decode m_X9_readVillage.2.1 6 = .ok (.aload_n 0, 1) := by decide +kernel
theorem dd_X9_readVillage_7 : decode m_X9_readVillage.2.1 7 = .ok (.getfield 52, 3) := by decide +kernel
theorem dd_X9_readVillage_10 : decode m_X9_readVillage.2.1 10 = .ok (.invokevirtual 133, 3) := by decide +kernel
theorem dd_X9_readVillage_13 : decode m_X9_readVillage.2.1 13 = .ok (.ifCond .eq 14, 3) := by decide +kernel
theorem dd_X9_readVillage_16 : decode m_X9_readVillage.2.1 16 = .ok (.aload_n 1, 1) := by decide +kernel
theorem dd_X9_readVillage_17 : decode m_X9_readVillage.2.1 17 = .ok (.iconst 0, 1) := by decide +kernel
theorem dd_X9_readVillage_18 : decode m_X9_readVillage.2.1 18 = .ok (.sipush 999, 3) := by decide +kernel
theorem dd_X9_readVillage_21 : decode m_X9_readVillage.2.1 21 = .ok (.invokevirtual 137, 3) := by decide +kernel
theorem dd_X9_readVillage_24 : decode m_X9_readVillage.2.1 24 = .ok (.ifCond .ne 5, 3) := by decide +kernel
theorem dd_X9_readVillage_27 : decode m_X9_readVillage.2.1 27 = .ok (.iconst 0, 1) := by decide +kernel
theorem dd_X9_readVillage_28 : decode m_X9_readVillage.2.1 28 = .ok (.ireturn, 1) := by decide +kernel
theorem dd_X9_readVillage_29 : decode m_X9_readVillage.2.1 29 = .ok (.aload_n 0, 1) := by decide +kernel
theorem dd_X9_readVillage_30 : decode m_X9_readVillage.2.1 30 = .ok (.getfield 15, 3) := by decide +kernel
theorem dd_X9_readVillage_33 : decode m_X9_readVillage.2.1 33 = .ok (.aload_n 0, 1) := by decide +kernel
theorem dd_X9_readVillage_34 : decode m_X9_readVillage.2.1 34 = .ok (.getfield 52, 3) := by decide +kernel
theorem dd_X9_readVillage_37 : decode m_X9_readVillage.2.1 37 = .ok (.aload_n 1, 1) := by decide +kernel
theorem dd_X9_readVillage_38 : decode m_X9_readVillage.2.1 38 = .ok (.getfield 140, 3) := by decide +kernel
theorem dd_X9_readVillage_41 : decode m_X9_readVillage.2.1 41 = .ok (.iastore, 1) := by decide +kernel
theorem dd_X9_readVillage_42 : decode m_X9_readVillage.2.1 42 = .ok (.aload_n 1, 1) := by decide +kernel
theorem dd_X9_readVillage_43 : decode m_X9_readVillage.2.1 43 = .ok (.iconst 1, 1) := by decide +kernel
theorem dd_X9_readVillage_44 : decode m_X9_readVillage.2.1 44 = .ok (.bipush 99, 2) := by decide +kernel
theorem dd_X9_readVillage_46 : decode m_X9_readVillage.2.1 46 = .ok (.invokevirtual 137, 3) := by decide +kernel
theorem dd_X9_readVillage_49 : decode m_X9_readVillage.2.1 49 = .ok (.ifCond .ne 5, 3) := by decide +kernel
theorem dd_X9_readVillage_52 : decode m_X9_readVillage.2.1 52 = .ok (.iconst 0, 1) := by decide +kernel
theorem dd_X9_readVillage_53 : decode m_X9_readVillage.2.1 53 = .ok (.ireturn, 1) := by decide +kernel
theorem dd_X9_readVillage_54 : decode m_X9_readVillage.2.1 54 = .ok (.aload_n 0, 1) := by decide +kernel
theorem dd_X9_readVillage_55 : decode m_X9_readVillage.2.1 55 = .ok (.getfield 18, 3) := by decide +kernel
theorem dd_X9_readVillage_58 : decode m_X9_readVillage.2.1 58 = .ok (.aload_n 0, 1) := by decide +kernel
theorem dd_X9_readVillage_59 : decode m_X9_readVillage.2.1 59 = .ok (.getfield 52, 3) := by decide +kernel
theorem dd_X9_readVillage_62 : decode m_X9_readVillage.2.1 62 = .ok (.aload_n 1, 1) := by decide +kernel
theorem dd_X9_readVillage_63 : decode m_X9_readVillage.2.1 63 = .ok (.getfield 140, 3) := by decide +kernel
theorem dd_X9_readVillage_66 : decode m_X9_readVillage.2.1 66 = .ok (.iastore, 1) := by decide +kernel
theorem dd_X9_readVillage_67 : decode m_X9_readVillage.2.1 67 = .ok (.aload_n 0, 1) := by decide +kernel
theorem dd_X9_readVillage_68 : decode m_X9_readVillage.2.1 68 = .ok (.dup, 1) := by decide +kernel
theorem dd_X9_readVillage_69 : decode m_X9_readVillage.2.1 69 = .ok (.getfield 52, 3) := by decide +kernel
theorem dd_X9_readVillage_72 : decode m_X9_readVillage.2.1 72 = .ok (.iconst 1, 1) := by decide +kernel
theorem dd_X9_readVillage_73 : decode m_X9_readVillage.2.1 73 = .ok (.iadd, 1) := by decide +kernel
theorem dd_X9_readVillage_74 : decode m_X9_readVillage.2.1 74 = .ok (.putfield 52, 3) := by decide +kernel
theorem dd_X9_readVillage_77 : decode m_X9_readVillage.2.1 77 = .ok (.iconst 1, 1) := by decide +kernel
theorem dd_X9_readVillage_78 : decode m_X9_readVillage.2.1 78 = .ok (.ireturn, 1) := by decide +kernel
def wp_X9_readVillage_17  (s : fz_s) (Q : Bool → fz_s → Prop) : Prop :=
  wp_X8_next  s (fun s2 => wp_X9_takeNewName_17 (s2.1 17 11) s2 (fun r3 s4 => ((r3 = false → Q false s4) ∧ (r3 = true → wp_X8_takeWordAndNumber 0 999 s4 (fun r5 s6 => ((r5 = true → vp_in (s6.1 17 11) 2 ∧ ∀ s7 : fz_s, s7 = si s6 19 (s6.1 17 11).toNatClampNeg (s6.1 4 6) → wp_X8_takeWordAndNumber 1 99 s7 (fun r8 s9 => ((r8 = true → vp_in (s9.1 17 11) 2 ∧ ∀ s10 : fz_s, s10 = si s9 20 (s9.1 17 11).toNatClampNeg (s9.1 4 6) → ∀ s11 : fz_s, s11 = si s10 17 11 ((s10.1 17 11) + 1) → Q true s11) ∧ (r8 = false → Q false s9)))) ∧ (r5 = false → Q false s6)))))))
set_option maxRecDepth 100000 in
set_option maxHeartbeats 4000000 in
theorem V_X9_readVillage_17 {g : fz_G} {l : Launch} {d : Nat} (hD : 12 ≤ d)   {s : fz_s} {Q : Bool → fz_s → Prop} (H : wp_X9_readVillage_17  s Q) : fs_V g l m_X9_readVillage d true 0 (fz_en [.ref 17, .ref 4] 2) [] s (rZ Q) := by
  obtain ⟨d, rfl⟩ : ∃ e, d = e + 1 := ⟨d - 1, by omega⟩
  unfold wp_X9_readVillage_17 at H
  refine fs_aload_n (k0 := 1) (i := 1) dd_X9_readVillage_0 rfl rfl ?_
  refine fs_callV (y := m_X8_next) (as := []) dd_X9_readVillage_1 me_X8_next lk_X9_130 in_X8_next se_X8_next ca_4 rfl rfl rfl (Nat.le_of_ble_eq_true rfl) (Nat.le_of_ble_eq_true rfl) rfl (V_X8_next (by omega)  H) (k2_V fun s2 H => ?_)
  refine fs_aload_n (k0 := 0) (i := 0) dd_X9_readVillage_4 rfl rfl ?_
  refine fs_aload_n (k0 := 1) (i := 1) dd_X9_readVillage_5 rfl rfl ?_
  refine fs_aload_n (k0 := 0) (i := 0) dd_X9_readVillage_6 rfl rfl ?_
  refine fs_geti (ci := 9) (j := 11) dd_X9_readVillage_7 fl_X9_52 ca_17 rfl (Or.inl rfl) ?_
  refine fs_callV (y := m_X9_takeNewName) (as := [.ref 4, .int (s2.1 17 11)]) dd_X9_readVillage_10 me_X9_takeNewName lk_X9_133 in_X9_takeNewName se_X9_takeNewName ca_17 rfl rfl rfl (Nat.le_of_ble_eq_true rfl) (Nat.le_of_ble_eq_true rfl) rfl (V_X9_takeNewName_17 (by omega)  H) (k2_Z fun r3 s4 H => ?_)
  refine fs_if_eq (tgt := 27) dd_X9_readVillage_13 (by decide) (fun hc => ?_) (fun hc => ?_)
  · replace H := H.1 (bi_0 hc)
    refine fs_iconst (n := 0) (v := 0) dd_X9_readVillage_27 (by decide) ?_
    exact fs_zret false dd_X9_readVillage_28 rfl rfl H
  · replace H := H.2 (bi_1 hc)
    refine fs_aload_n (k0 := 1) (i := 1) dd_X9_readVillage_16 rfl rfl ?_
    refine fs_iconst (n := 0) (v := 0) dd_X9_readVillage_17 (by decide) ?_
    refine fs_sipush (n := 999) (v := 999) dd_X9_readVillage_18 (by decide) ?_
    refine fs_callV (y := m_X8_takeWordAndNumber) (as := [.int 0, .int 999]) dd_X9_readVillage_21 me_X8_takeWordAndNumber lk_X9_137 in_X8_takeWordAndNumber se_X8_takeWordAndNumber ca_4 rfl rfl rfl (Nat.le_of_ble_eq_true rfl) (Nat.le_of_ble_eq_true rfl) rfl (V_X8_takeWordAndNumber (by omega)  H) (k2_Z fun r5 s6 H => ?_)
    refine fs_if_ne (tgt := 29) dd_X9_readVillage_24 (by decide) (fun hc => ?_) (fun hc => ?_)
    · replace H := H.1 (bi_1 hc)
      refine fs_aload_n (k0 := 0) (i := 0) dd_X9_readVillage_29 rfl rfl ?_
      refine fs_getr (ci := 9) (j := 1) (q := 19) dd_X9_readVillage_30 fl_X9_15 ca_17 rfl (Or.inr ⟨_, rfl⟩) rfl (by decide) ?_
      refine fs_aload_n (k0 := 0) (i := 0) dd_X9_readVillage_33 rfl rfl ?_
      refine fs_geti (ci := 9) (j := 11) dd_X9_readVillage_34 fl_X9_52 ca_17 rfl (Or.inl rfl) ?_
      refine fs_aload_n (k0 := 1) (i := 1) dd_X9_readVillage_37 rfl rfl ?_
      refine fs_geti (ci := 8) (j := 6) dd_X9_readVillage_38 fl_X9_140 ca_4 rfl (Or.inl rfl) ?_
      have hb := H.1
      replace H := H.2
      refine fs_iast dd_X9_readVillage_41 ca_19 hb ?_
      refine fs_tops (fun s7 hs7 => ?_)
      replace H := H s7 hs7
      refine fs_aload_n (k0 := 1) (i := 1) dd_X9_readVillage_42 rfl rfl ?_
      refine fs_iconst (n := 1) (v := 1) dd_X9_readVillage_43 (by decide) ?_
      refine fs_bipush (n := 99) (v := 99) dd_X9_readVillage_44 (by decide) ?_
      refine fs_callV (y := m_X8_takeWordAndNumber) (as := [.int 1, .int 99]) dd_X9_readVillage_46 me_X8_takeWordAndNumber lk_X9_137 in_X8_takeWordAndNumber se_X8_takeWordAndNumber ca_4 rfl rfl rfl (Nat.le_of_ble_eq_true rfl) (Nat.le_of_ble_eq_true rfl) rfl (V_X8_takeWordAndNumber (by omega)  H) (k2_Z fun r8 s9 H => ?_)
      refine fs_if_ne (tgt := 54) dd_X9_readVillage_49 (by decide) (fun hc => ?_) (fun hc => ?_)
      · replace H := H.1 (bi_1 hc)
        refine fs_aload_n (k0 := 0) (i := 0) dd_X9_readVillage_54 rfl rfl ?_
        refine fs_getr (ci := 9) (j := 2) (q := 20) dd_X9_readVillage_55 fl_X9_18 ca_17 rfl (Or.inr ⟨_, rfl⟩) rfl (by decide) ?_
        refine fs_aload_n (k0 := 0) (i := 0) dd_X9_readVillage_58 rfl rfl ?_
        refine fs_geti (ci := 9) (j := 11) dd_X9_readVillage_59 fl_X9_52 ca_17 rfl (Or.inl rfl) ?_
        refine fs_aload_n (k0 := 1) (i := 1) dd_X9_readVillage_62 rfl rfl ?_
        refine fs_geti (ci := 8) (j := 6) dd_X9_readVillage_63 fl_X9_140 ca_4 rfl (Or.inl rfl) ?_
        have hb := H.1
        replace H := H.2
        refine fs_iast dd_X9_readVillage_66 ca_20 hb ?_
        refine fs_tops (fun s10 hs10 => ?_)
        replace H := H s10 hs10
        refine fs_aload_n (k0 := 0) (i := 0) dd_X9_readVillage_67 rfl rfl ?_
        refine fs_dup dd_X9_readVillage_68 rfl ?_
        refine fs_geti (ci := 9) (j := 11) dd_X9_readVillage_69 fl_X9_52 ca_17 rfl (Or.inl rfl) ?_
        refine fs_iconst (n := 1) (v := 1) dd_X9_readVillage_72 (by decide) ?_
        refine fs_iadd dd_X9_readVillage_73 ?_
        refine fs_puti (ci := 9) (j := 11) dd_X9_readVillage_74 fl_X9_52 (fun _ _ _ h => by cases h; rfl) ca_17 rfl (Or.inl rfl) ?_
        refine fs_tops (fun s11 hs11 => ?_)
        replace H := H s11 hs11
        refine fs_iconst (n := 1) (v := 1) dd_X9_readVillage_77 (by decide) ?_
        exact fs_zret true dd_X9_readVillage_78 rfl rfl H
      · replace H := H.2 (bi_0 hc)
        refine fs_iconst (n := 0) (v := 0) dd_X9_readVillage_52 (by decide) ?_
        exact fs_zret false dd_X9_readVillage_53 rfl rfl H
    · replace H := H.2 (bi_0 hc)
      refine fs_iconst (n := 0) (v := 0) dd_X9_readVillage_27 (by decide) ?_
      exact fs_zret false dd_X9_readVillage_28 rfl rfl H
theorem dd_X9_readStatement_0 : decode m_X9_readStatement.2.1 0 = .ok (.aload_n 1, 1) := by decide +kernel
theorem dd_X9_readStatement_1 : decode m_X9_readStatement.2.1 1 = .ok (.getfield 67, 3) := by decide +kernel
theorem dd_X9_readStatement_4 : decode m_X9_readStatement.2.1 4 = .ok (.iconst 1, 1) := by decide +kernel
theorem dd_X9_readStatement_5 : decode m_X9_readStatement.2.1 5 = .ok (.if_icmp .ne 10, 3) := by decide +kernel
theorem dd_X9_readStatement_8 : decode m_X9_readStatement.2.1 8 = .ok (.aload_n 1, 1) := by decide +kernel
theorem dd_X9_readStatement_9 : decode m_X9_readStatement.2.1 9 = .ok (.getfield 94, 3) := by decide +kernel
theorem dd_X9_readStatement_12 : decode m_X9_readStatement.2.1 12 = .ok (.goto 4, 3) := by decide +kernel
theorem dd_X9_readStatement_15 : decode m_X9_readStatement.2.1 15 = .ok (.iconst (-1), 1) := by decide +kernel
theorem dd_X9_readStatement_16 : decode m_X9_readStatement.2.1 16 = .ok (.istore_n 3, 1) := by decide +kernel
theorem dd_X9_readStatement_17 : decode m_X9_readStatement.2.1 17 = .ok (.iload_n 3, 1) := by decide +kernel
theorem dd_X9_readStatement_18 : decode m_X9_readStatement.2.1 18 = .ok (.bipush 16, 2) := by decide +kernel
theorem dd_X9_readStatement_20 : decode m_X9_readStatement.2.1 20 = .ok (.if_icmp .ne 7, 3) := by decide +kernel
theorem dd_X9_readStatement_23 : decode m_X9_readStatement.2.1 23 = .ok (.iconst 1, 1) := by decide +kernel
theorem dd_X9_readStatement_24 : decode m_X9_readStatement.2.1 24 = .ok (.goto 4, 3) := by decide +kernel
theorem dd_X9_readStatement_27 : decode m_X9_readStatement.2.1 27 = .ok (.iconst 0, 1) := by decide +kernel
theorem dd_X9_readStatement_28 : decode m_X9_readStatement.2.1 28 = .ok (.aload_n 0, 1) := by decide +kernel
theorem dd_X9_readStatement_29 : decode m_X9_readStatement.2.1 29 = .ok (.getfield 52, 3) := by decide +kernel
theorem dd_X9_readStatement_32 : decode m_X9_readStatement.2.1 32 = .ok (.iconst 2, 1) := by decide +kernel
theorem dd_X9_readStatement_33 : decode m_X9_readStatement.2.1 33 = .ok (.if_icmp .ge 7, 3) := by decide +kernel
theorem dd_X9_readStatement_36 : decode m_X9_readStatement.2.1 36 = .ok (.iconst 1, 1) := by decide +kernel
theorem dd_X9_readStatement_37 : decode m_X9_readStatement.2.1 37 = .ok (.goto 4, 3) := by decide +kernel
theorem dd_X9_readStatement_40 : decode m_X9_readStatement.2.1 40 = .ok (.iconst 0, 1) := by decide +kernel
theorem dd_X9_readStatement_41 : decode m_X9_readStatement.2.1 41 = .ok (.if_icmp .eq 8, 3) := by decide +kernel
theorem dd_X9_readStatement_44 : decode m_X9_readStatement.2.1 44 = .ok (.aload_n 1, 1) := by decide +kernel
theorem dd_X9_readStatement_45 : decode m_X9_readStatement.2.1 45 = .ok (.invokevirtual 75, 3) := by decide +kernel
theorem dd_X9_readStatement_48 : decode m_X9_readStatement.2.1 48 = .ok (.ireturn, 1) := by decide +kernel
theorem dd_X9_readStatement_49 : decode m_X9_readStatement.2.1 49 = .ok (.iload_n 3, 1) := by decide +kernel
theorem dd_X9_readStatement_50 : decode m_X9_readStatement.2.1 50 = .ok (.bipush 16, 2) := by decide +kernel
theorem dd_X9_readStatement_52 : decode m_X9_readStatement.2.1 52 = .ok (.if_icmp .ne 9, 3) := by decide +kernel
theorem dd_X9_readStatement_55 : decode m_X9_readStatement.2.1 55 = .ok (.aload_n 0, 1) := by decide +kernel
theorem dd_X9_readStatement_56 : decode m_X9_readStatement.2.1 56 = .ok (.aload_n 1, 1) := by decide +kernel
theorem dd_X9_readStatement_57 : decode m_X9_readStatement.2.1 57 = .ok (.invokevirtual 97, 3) := by decide +kernel
theorem dd_X9_readStatement_60 : decode m_X9_readStatement.2.1 60 = .ok (.ireturn, 1) := by decide +kernel
theorem dd_X9_readStatement_61 : decode m_X9_readStatement.2.1 61 = .ok (.iload_n 3, 1) := by decide +kernel
theorem dd_X9_readStatement_62 : decode m_X9_readStatement.2.1 62 = .ok (.bipush 17, 2) := by decide +kernel
theorem dd_X9_readStatement_64 : decode m_X9_readStatement.2.1 64 = .ok (.if_icmp .ne 25, 3) := by decide +kernel
theorem dd_X9_readStatement_67 : decode m_X9_readStatement.2.1 67 = .ok (.aload_n 0, 1) := by decide +kernel
theorem dd_X9_readStatement_68 : decode m_X9_readStatement.2.1 68 = .ok (.aload_n 1, 1) := by decide +kernel
theorem dd_X9_readStatement_69 : decode m_X9_readStatement.2.1 69 = .ok (.invokevirtual 101, 3) := by decide +kernel
theorem dd_X9_readStatement_72 : decode m_X9_readStatement.2.1 72 = .ok (.ifCond .eq 15, 3) := by decide +kernel
theorem dd_X9_readStatement_75 : decode m_X9_readStatement.2.1 75 = .ok (.aload_n 0, 1) := by decide +kernel
theorem dd_X9_readStatement_76 : decode m_X9_readStatement.2.1 76 = .ok (.aload_n 1, 1) := by decide +kernel
theorem dd_X9_readStatement_77 : decode m_X9_readStatement.2.1 77 = .ok (.invokevirtual 104, 3) := by decide +kernel
theorem dd_X9_readStatement_80 : decode m_X9_readStatement.2.1 80 = .ok (.ifCond .eq 7, 3) := by decide +kernel
theorem dd_X9_readStatement_83 : decode m_X9_readStatement.2.1 83 = .ok (.iconst 1, 1) := by decide +kernel
theorem dd_X9_readStatement_84 : decode m_X9_readStatement.2.1 84 = .ok (.goto 4, 3) := by decide +kernel
theorem dd_X9_readStatement_87 : decode m_X9_readStatement.2.1 87 = .ok (.iconst 0, 1) := by decide +kernel
theorem dd_X9_readStatement_88 : decode m_X9_readStatement.2.1 88 = .ok (.ireturn, 1) := by decide +kernel
theorem dd_X9_readStatement_89 : decode m_X9_readStatement.2.1 89 = .ok (.iload_n 3, 1) := by decide +kernel
theorem dd_X9_readStatement_90 : decode m_X9_readStatement.2.1 90 = .ok (.bipush 19, 2) := by decide +kernel
theorem dd_X9_readStatement_92 : decode m_X9_readStatement.2.1 92 = .ok (.if_icmp .ne 9, 3) := by decide +kernel
theorem dd_X9_readStatement_95 : decode m_X9_readStatement.2.1 95 = .ok (.aload_n 0, 1) := by decide +kernel
theorem dd_X9_readStatement_96 : decode m_X9_readStatement.2.1 96 = .ok (.aload_n 1, 1) := by decide +kernel
theorem dd_X9_readStatement_97 : decode m_X9_readStatement.2.1 97 = .ok (.invokevirtual 107, 3) := by decide +kernel
theorem dd_X9_readStatement_100 : decode m_X9_readStatement.2.1 100 = .ok (.ireturn, 1) := by decide +kernel
theorem dd_X9_readStatement_101 : decode m_X9_readStatement.2.1 101 = .ok (.iload_n 3, 1) := by decide +kernel
theorem dd_X9_readStatement_102 : decode m_X9_readStatement.2.1 102 = .ok (.bipush 11, 2) := by decide +kernel
theorem dd_X9_readStatement_104 : decode m_X9_readStatement.2.1 104 = .ok (.if_icmp .lt 9, 3) := by decide +kernel
theorem dd_X9_readStatement_107 : decode m_X9_readStatement.2.1 107 = .ok (.iload_n 3, 1) := by decide +kernel
theorem dd_X9_readStatement_108 : decode m_X9_readStatement.2.1 108 = .ok (.bipush 15, 2) := by decide +kernel
theorem dd_X9_readStatement_110 : decode m_X9_readStatement.2.1 110 = .ok (.if_icmp .le 8, 3) := by decide +kernel
theorem dd_X9_readStatement_113 : decode m_X9_readStatement.2.1 113 = .ok (.aload_n 1, 1) := by decide +kernel
theorem dd_X9_readStatement_114 : decode m_X9_readStatement.2.1 114 = .ok (.invokevirtual 75, 3) := by decide +kernel
theorem dd_X9_readStatement_117 : decode m_X9_readStatement.2.1 117 = .ok (.ireturn, 1) := by decide +kernel
theorem dd_X9_readStatement_118 : decode m_X9_readStatement.2.1 118 = .ok (.iload_n 3, 1) := by decide +kernel
theorem dd_X9_readStatement_119 : decode m_X9_readStatement.2.1 119 = .ok (.bipush 11, 2) := by decide +kernel
theorem dd_X9_readStatement_121 : decode m_X9_readStatement.2.1 121 = .ok (.isub, 1) := by decide +kernel
theorem dd_X9_readStatement_122 : decode m_X9_readStatement.2.1 122 = .ok (.istore 4, 2) := by decide +kernel
theorem dd_X9_readStatement_124 : decode m_X9_readStatement.2.1 124 = .ok (.aload_n 0, 1) := by decide +kernel
theorem dd_X9_readStatement_125 : decode m_X9_readStatement.2.1 125 = .ok (.aload_n 1, 1) := by decide +kernel
theorem dd_X9_readStatement_126 : decode m_X9_readStatement.2.1 126 = .ok (.aload_n 2, 1) := by decide +kernel
theorem dd_X9_readStatement_127 : decode m_X9_readStatement.2.1 127 = .ok (.iload 4, 2) := by decide +kernel
theorem dd_X9_readStatement_129 : decode m_X9_readStatement.2.1 129 = .ok (.invokevirtual 110, 3) := by decide +kernel
theorem dd_X9_readStatement_132 : decode m_X9_readStatement.2.1 132 = .ok (.ifCond .eq 44, 3) := by decide +kernel
theorem dd_X9_readStatement_135 : decode m_X9_readStatement.2.1 135 = .ok (.iload 4, 2) := by decide +kernel
theorem dd_X9_readStatement_137 : decode m_X9_readStatement.2.1 137 = .ok (.invokestatic 114, 3) := by decide +kernel
theorem dd_X9_readStatement_140 : decode m_X9_readStatement.2.1 140 = .ok (.ifCond .eq 14, 3) := by decide +kernel
theorem dd_X9_readStatement_143 : decode m_X9_readStatement.2.1 143 = .ok (.aload_n 2, 1) := by decide +kernel
theorem dd_X9_readStatement_144 : decode m_X9_readStatement.2.1 144 = .ok (.iconst 0, 1) := by decide +kernel
theorem dd_X9_readStatement_145 : decode m_X9_readStatement.2.1 145 = .ok (.invokevirtual 118, 3) := by decide +kernel
theorem dd_X9_readStatement_148 : decode m_X9_readStatement.2.1 148 = .ok (.ifCond .eq 28, 3) := by decide +kernel
theorem dd_X9_readStatement_151 : decode m_X9_readStatement.2.1 151 = .ok (.goto 11, 3) := by decide +kernel
theorem dd_X9_readStatement_154 : decode m_X9_readStatement.2.1 154 = .ok (.aload_n 2, 1) := by decide +kernel
theorem dd_X9_readStatement_155 : decode m_X9_readStatement.2.1 155 = .ok (.iconst 0, 1) := by decide +kernel
theorem dd_X9_readStatement_156 : decode m_X9_readStatement.2.1 156 = .ok (.invokevirtual 123, 3) := by decide +kernel
theorem dd_X9_readStatement_159 : decode m_X9_readStatement.2.1 159 = .ok (.ifCond .eq 17, 3) := by decide +kernel
theorem dd_X9_readStatement_162 : decode m_X9_readStatement.2.1 162 = .ok (.aload_n 0, 1) := by decide +kernel
theorem dd_X9_readStatement_163 : decode m_X9_readStatement.2.1 163 = .ok (.aload_n 2, 1) := by decide +kernel
theorem dd_X9_readStatement_164 : decode m_X9_readStatement.2.1 164 = .ok (.iload 4, 2) := by decide +kernel
theorem dd_X9_readStatement_166 : decode m_X9_readStatement.2.1 166 = .ok (.invokevirtual 126, 3) := by decide +kernel
theorem dd_X9_readStatement_169 : decode m_X9_readStatement.2.1 169 = .ok (.ifCond .eq 7, 3) := by decide +kernel
theorem dd_X9_readStatement_172 : decode m_X9_readStatement.2.1 172 = .ok (.iconst 1, 1) := by decide +kernel
theorem dd_X9_readStatement_173 : decode m_X9_readStatement.2.1 173 = .ok (.goto 4, 3) := by decide +kernel
theorem dd_X9_readStatement_176 : decode m_X9_readStatement.2.1 176 = .ok (.iconst 0, 1) := by decide +kernel
theorem dd_X9_readStatement_177 : decode m_X9_readStatement.2.1 177 = .ok (.ireturn, 1) := by decide +kernel
def nd_X9_readStatement_17_162   (Q : Bool → fz_s → Prop) (v4 : Int32) (s : fz_s) : Prop :=
  wp_X9_endRule_17 v4 s (fun r1 s2 => ((r1 = false → Q false s2) ∧ (r1 = true → Q true s2)))
def nd_X9_readStatement_17_113   (Q : Bool → fz_s → Prop)  (s : fz_s) : Prop :=
  wp_X8_failHere  s (fun r1 s2 => Q r1 s2)
def nd_X9_readStatement_17_41   (Q : Bool → fz_s → Prop) (v3 : Int32) (u0 : Bool) (u1 : Bool) (s : fz_s) : Prop :=
  (((bi u1) = (bi u0) → ((¬ v3 = 16 → ((¬ v3 = 17 → ((¬ v3 = 19 → ((v3 < 11 → nd_X9_readStatement_17_113   Q  s) ∧ (¬ v3 < 11 → ((v3 ≤ 15 → ∀ x1 : Int32, x1 = (v3 - 11) → wp_X9_beginRule_17 x1 s (fun r2 s3 => ((r2 = false → Q false s3) ∧ (r2 = true → wp_X9_isTest x1 s3 (fun r4 s5 => ((r4 = false → wp_G 64 3 0 s5 (fun r6 s7 => ((r6 = false → Q false s7) ∧ (r6 = true → nd_X9_readStatement_17_162   Q x1 s7)))) ∧ (r4 = true → wp_G 64 0 0 s5 (fun r8 s9 => ((r8 = false → Q false s9) ∧ (r8 = true → nd_X9_readStatement_17_162   Q x1 s9)))))))))) ∧ (¬ v3 ≤ 15 → nd_X9_readStatement_17_113   Q  s))))) ∧ (v3 = 19 → wp_X9_readSnow_17  s (fun r10 s11 => Q r10 s11)))) ∧ (v3 = 17 → wp_X9_readPerson_17  s (fun r12 s13 => ((r12 = false → Q false s13) ∧ (r12 = true → wp_X9_readTraits_17  s13 (fun r14 s15 => ((r14 = false → Q false s15) ∧ (r14 = true → Q true s15))))))))) ∧ (v3 = 16 → wp_X9_readVillage_17  s (fun r16 s17 => Q r16 s17)))) ∧ (¬ (bi u1) = (bi u0) → wp_X8_failHere  s (fun r18 s19 => Q r18 s19)))
def nd_X9_readStatement_17_28   (Q : Bool → fz_s → Prop) (v3 : Int32) (u0 : Bool) (s : fz_s) : Prop :=
  ((2 ≤ (s.1 17 11) → nd_X9_readStatement_17_41   Q v3 false u0 s) ∧ (¬ 2 ≤ (s.1 17 11) → nd_X9_readStatement_17_41   Q v3 true u0 s))
def nd_X9_readStatement_17_16   (Q : Bool → fz_s → Prop) (u0 : Int32) (s : fz_s) : Prop :=
  ((¬ u0 = 16 → nd_X9_readStatement_17_28   Q u0 false s) ∧ (u0 = 16 → nd_X9_readStatement_17_28   Q u0 true s))
def wp_X9_readStatement_17  (s : fz_s) (Q : Bool → fz_s → Prop) : Prop :=
  ((¬ (s.1 4 3) = 1 → nd_X9_readStatement_17_16   Q (-1) s) ∧ ((s.1 4 3) = 1 → nd_X9_readStatement_17_16   Q (s.1 4 5) s))
set_option maxRecDepth 100000 in
set_option maxHeartbeats 4000000 in
theorem V_nd_X9_readStatement_17_162 {g : fz_G} {l : Launch} {d : Nat} (hD : 76 ≤ d)    {Q : Bool → fz_s → Prop} {v4 : Int32} {s : fz_s}  (H : nd_X9_readStatement_17_162   Q v4 s) : fs_V g l m_X9_readStatement d true 162 [.ref 17, fz_J, .ref 5, fz_J, .int v4] [] s (rZ Q) := by
  obtain ⟨d, rfl⟩ : ∃ e, d = e + 1 := ⟨d - 1, by omega⟩
  unfold nd_X9_readStatement_17_162 at H
  refine fs_aload_n (k0 := 0) (i := 0) dd_X9_readStatement_162 rfl rfl ?_
  refine fs_aload_n (k0 := 2) (i := 2) dd_X9_readStatement_163 rfl rfl ?_
  refine fs_iload (i := 4) dd_X9_readStatement_164 rfl ?_
  refine fs_callV (y := m_X9_endRule) (as := [.ref 5, .int v4]) dd_X9_readStatement_166 me_X9_endRule lk_X9_126 in_X9_endRule se_X9_endRule ca_17 rfl rfl rfl (Nat.le_of_ble_eq_true rfl) (Nat.le_of_ble_eq_true rfl) rfl (V_X9_endRule_17 (by omega)  H) (k2_Z fun r1 s2 H => ?_)
  refine fs_if_eq (tgt := 176) dd_X9_readStatement_169 (by decide) (fun hc => ?_) (fun hc => ?_)
  · replace H := H.1 (bi_0 hc)
    refine fs_iconst (n := 0) (v := 0) dd_X9_readStatement_176 (by decide) ?_
    exact fs_zret false dd_X9_readStatement_177 rfl rfl H
  · replace H := H.2 (bi_1 hc)
    refine fs_iconst (n := 1) (v := 1) dd_X9_readStatement_172 (by decide) ?_
    refine fs_goto (tgt := 177) dd_X9_readStatement_173 (by decide) ?_
    exact fs_zret true dd_X9_readStatement_177 rfl rfl H
set_option maxRecDepth 100000 in
set_option maxHeartbeats 4000000 in
theorem V_nd_X9_readStatement_17_113 {g : fz_G} {l : Launch} {d : Nat} (hD : 76 ≤ d)    {Q : Bool → fz_s → Prop}  {s : fz_s}  (H : nd_X9_readStatement_17_113   Q  s) : fs_V g l m_X9_readStatement d true 113 [fz_J, .ref 4, fz_J, fz_J, fz_J] [] s (rZ Q) := by
  obtain ⟨d, rfl⟩ : ∃ e, d = e + 1 := ⟨d - 1, by omega⟩
  unfold nd_X9_readStatement_17_113 at H
  refine fs_aload_n (k0 := 1) (i := 1) dd_X9_readStatement_113 rfl rfl ?_
  refine fs_callV (y := m_X8_failHere) (as := []) dd_X9_readStatement_114 me_X8_failHere lk_X9_75 in_X8_failHere se_X8_failHere ca_4 rfl rfl rfl (Nat.le_of_ble_eq_true rfl) (Nat.le_of_ble_eq_true rfl) rfl (V_X8_failHere (by omega)  H) (k2_Z fun r1 s2 H => ?_)
  exact fs_zret r1 dd_X9_readStatement_117 rfl rfl H
set_option maxRecDepth 100000 in
set_option maxHeartbeats 4000000 in
theorem V_nd_X9_readStatement_17_41 {g : fz_G} {l : Launch} {d : Nat} (hD : 76 ≤ d)    {Q : Bool → fz_s → Prop} {v3 : Int32} {u0 : Bool} {u1 : Bool} {s : fz_s}  (H : nd_X9_readStatement_17_41   Q v3 u0 u1 s) : fs_V g l m_X9_readStatement d true 41 [.ref 17, .ref 4, .ref 5, .int v3, fz_J] [.int (bi u0), .int (bi u1)] s (rZ Q) := by
  obtain ⟨d, rfl⟩ : ∃ e, d = e + 1 := ⟨d - 1, by omega⟩
  unfold nd_X9_readStatement_17_41 at H
  refine fs_icmp_eq (tgt := 49) dd_X9_readStatement_41 (by decide) (fun hc => ?_) (fun hc => ?_)
  · replace H := H.1 hc
    refine fs_iload_n (k0 := 3) (i := 3) dd_X9_readStatement_49 rfl rfl ?_
    refine fs_bipush (n := 16) (v := 16) dd_X9_readStatement_50 (by decide) ?_
    refine fs_icmp_ne (tgt := 61) dd_X9_readStatement_52 (by decide) (fun hc => ?_) (fun hc => ?_)
    · replace H := H.1 hc
      refine fs_iload_n (k0 := 3) (i := 3) dd_X9_readStatement_61 rfl rfl ?_
      refine fs_bipush (n := 17) (v := 17) dd_X9_readStatement_62 (by decide) ?_
      refine fs_icmp_ne (tgt := 89) dd_X9_readStatement_64 (by decide) (fun hc => ?_) (fun hc => ?_)
      · replace H := H.1 hc
        refine fs_iload_n (k0 := 3) (i := 3) dd_X9_readStatement_89 rfl rfl ?_
        refine fs_bipush (n := 19) (v := 19) dd_X9_readStatement_90 (by decide) ?_
        refine fs_icmp_ne (tgt := 101) dd_X9_readStatement_92 (by decide) (fun hc => ?_) (fun hc => ?_)
        · replace H := H.1 hc
          refine fs_iload_n (k0 := 3) (i := 3) dd_X9_readStatement_101 rfl rfl ?_
          refine fs_bipush (n := 11) (v := 11) dd_X9_readStatement_102 (by decide) ?_
          refine fs_icmp_lt (tgt := 113) dd_X9_readStatement_104 (by decide) (fun hc => ?_) (fun hc => ?_)
          · replace H := H.1 hc
            refine fs_weak (ls2 := [fz_J, .ref 4, fz_J, fz_J, fz_J]) (fz_le_j (fz_le_e (fz_le_j (fz_le_j (fz_le_j fz_le_n))))) ?_
            exact V_nd_X9_readStatement_17_113 hD    H
          · replace H := H.2 hc
            refine fs_iload_n (k0 := 3) (i := 3) dd_X9_readStatement_107 rfl rfl ?_
            refine fs_bipush (n := 15) (v := 15) dd_X9_readStatement_108 (by decide) ?_
            refine fs_icmp_le (tgt := 118) dd_X9_readStatement_110 (by decide) (fun hc => ?_) (fun hc => ?_)
            · replace H := H.1 hc
              refine fs_iload_n (k0 := 3) (i := 3) dd_X9_readStatement_118 rfl rfl ?_
              refine fs_bipush (n := 11) (v := 11) dd_X9_readStatement_119 (by decide) ?_
              refine fs_isub dd_X9_readStatement_121 ?_
              refine fs_topi (fun x1 hx1 => ?_)
              replace H := H x1 hx1
              refine fs_istore (i := 4) dd_X9_readStatement_122 (by decide) ?_
              refine fs_aload_n (k0 := 0) (i := 0) dd_X9_readStatement_124 rfl rfl ?_
              refine fs_aload_n (k0 := 1) (i := 1) dd_X9_readStatement_125 rfl rfl ?_
              refine fs_aload_n (k0 := 2) (i := 2) dd_X9_readStatement_126 rfl rfl ?_
              refine fs_iload (i := 4) dd_X9_readStatement_127 rfl ?_
              refine fs_callV (y := m_X9_beginRule) (as := [.ref 4, .ref 5, .int x1]) dd_X9_readStatement_129 me_X9_beginRule lk_X9_110 in_X9_beginRule se_X9_beginRule ca_17 rfl rfl rfl (Nat.le_of_ble_eq_true rfl) (Nat.le_of_ble_eq_true rfl) rfl (V_X9_beginRule_17 (by omega)  H) (k2_Z fun r2 s3 H => ?_)
              refine fs_if_eq (tgt := 176) dd_X9_readStatement_132 (by decide) (fun hc => ?_) (fun hc => ?_)
              · replace H := H.1 (bi_0 hc)
                refine fs_iconst (n := 0) (v := 0) dd_X9_readStatement_176 (by decide) ?_
                exact fs_zret false dd_X9_readStatement_177 rfl rfl H
              · replace H := H.2 (bi_1 hc)
                refine fs_iload (i := 4) dd_X9_readStatement_135 rfl ?_
                refine fs_callS (y := m_X9_isTest) (as := [.int x1]) dd_X9_readStatement_137 me_X9_isTest (Or.inl lk_X9_114) st_X9_isTest rfl (Nat.le_of_ble_eq_true rfl) (Nat.le_of_ble_eq_true rfl) rfl (V_X9_isTest (by omega)  H) (k2_Z fun r4 s5 H => ?_)
                refine fs_if_eq (tgt := 154) dd_X9_readStatement_140 (by decide) (fun hc => ?_) (fun hc => ?_)
                · replace H := H.1 (bi_0 hc)
                  refine fs_aload_n (k0 := 2) (i := 2) dd_X9_readStatement_154 rfl rfl ?_
                  refine fs_iconst (n := 0) (v := 0) dd_X9_readStatement_155 (by decide) ?_
                  refine fs_callV (y := m_X2_readSum) (as := [.int 0]) dd_X9_readStatement_156 me_X2_readSum lk_X9_123 in_X2_readSum se_X2_readSum ca_5 rfl rfl rfl (Nat.le_of_ble_eq_true rfl) (Nat.le_of_ble_eq_true rfl) rfl (V_G 64 3 (by omega) H) (k2_Z fun r6 s7 H => ?_)
                  refine fs_if_eq (tgt := 176) dd_X9_readStatement_159 (by decide) (fun hc => ?_) (fun hc => ?_)
                  · replace H := H.1 (bi_0 hc)
                    refine fs_iconst (n := 0) (v := 0) dd_X9_readStatement_176 (by decide) ?_
                    exact fs_zret false dd_X9_readStatement_177 rfl rfl H
                  · replace H := H.2 (bi_1 hc)
                    refine fs_weak (ls2 := [.ref 17, fz_J, .ref 5, fz_J, .int x1]) (fz_le_e (fz_le_j (fz_le_e (fz_le_j (fz_le_e fz_le_n))))) ?_
                    exact V_nd_X9_readStatement_17_162 hD    H
                · replace H := H.2 (bi_1 hc)
                  refine fs_aload_n (k0 := 2) (i := 2) dd_X9_readStatement_143 rfl rfl ?_
                  refine fs_iconst (n := 0) (v := 0) dd_X9_readStatement_144 (by decide) ?_
                  refine fs_callV (y := m_X2_readTest) (as := [.int 0]) dd_X9_readStatement_145 me_X2_readTest lk_X9_118 in_X2_readTest se_X2_readTest ca_5 rfl rfl rfl (Nat.le_of_ble_eq_true rfl) (Nat.le_of_ble_eq_true rfl) rfl (V_G 64 0 (by omega) H) (k2_Z fun r8 s9 H => ?_)
                  refine fs_if_eq (tgt := 176) dd_X9_readStatement_148 (by decide) (fun hc => ?_) (fun hc => ?_)
                  · replace H := H.1 (bi_0 hc)
                    refine fs_iconst (n := 0) (v := 0) dd_X9_readStatement_176 (by decide) ?_
                    exact fs_zret false dd_X9_readStatement_177 rfl rfl H
                  · replace H := H.2 (bi_1 hc)
                    refine fs_goto (tgt := 162) dd_X9_readStatement_151 (by decide) ?_
                    refine fs_weak (ls2 := [.ref 17, fz_J, .ref 5, fz_J, .int x1]) (fz_le_e (fz_le_j (fz_le_e (fz_le_j (fz_le_e fz_le_n))))) ?_
                    exact V_nd_X9_readStatement_17_162 hD    H
            · replace H := H.2 hc
              refine fs_weak (ls2 := [fz_J, .ref 4, fz_J, fz_J, fz_J]) (fz_le_j (fz_le_e (fz_le_j (fz_le_j (fz_le_j fz_le_n))))) ?_
              exact V_nd_X9_readStatement_17_113 hD    H
        · replace H := H.2 hc
          refine fs_aload_n (k0 := 0) (i := 0) dd_X9_readStatement_95 rfl rfl ?_
          refine fs_aload_n (k0 := 1) (i := 1) dd_X9_readStatement_96 rfl rfl ?_
          refine fs_callV (y := m_X9_readSnow) (as := [.ref 4]) dd_X9_readStatement_97 me_X9_readSnow lk_X9_107 in_X9_readSnow se_X9_readSnow ca_17 rfl rfl rfl (Nat.le_of_ble_eq_true rfl) (Nat.le_of_ble_eq_true rfl) rfl (V_X9_readSnow_17 (by omega)  H) (k2_Z fun r10 s11 H => ?_)
          exact fs_zret r10 dd_X9_readStatement_100 rfl rfl H
      · replace H := H.2 hc
        refine fs_aload_n (k0 := 0) (i := 0) dd_X9_readStatement_67 rfl rfl ?_
        refine fs_aload_n (k0 := 1) (i := 1) dd_X9_readStatement_68 rfl rfl ?_
        refine fs_callV (y := m_X9_readPerson) (as := [.ref 4]) dd_X9_readStatement_69 me_X9_readPerson lk_X9_101 in_X9_readPerson se_X9_readPerson ca_17 rfl rfl rfl (Nat.le_of_ble_eq_true rfl) (Nat.le_of_ble_eq_true rfl) rfl (V_X9_readPerson_17 (by omega)  H) (k2_Z fun r12 s13 H => ?_)
        refine fs_if_eq (tgt := 87) dd_X9_readStatement_72 (by decide) (fun hc => ?_) (fun hc => ?_)
        · replace H := H.1 (bi_0 hc)
          refine fs_iconst (n := 0) (v := 0) dd_X9_readStatement_87 (by decide) ?_
          exact fs_zret false dd_X9_readStatement_88 rfl rfl H
        · replace H := H.2 (bi_1 hc)
          refine fs_aload_n (k0 := 0) (i := 0) dd_X9_readStatement_75 rfl rfl ?_
          refine fs_aload_n (k0 := 1) (i := 1) dd_X9_readStatement_76 rfl rfl ?_
          refine fs_callV (y := m_X9_readTraits) (as := [.ref 4]) dd_X9_readStatement_77 me_X9_readTraits lk_X9_104 in_X9_readTraits se_X9_readTraits ca_17 rfl rfl rfl (Nat.le_of_ble_eq_true rfl) (Nat.le_of_ble_eq_true rfl) rfl (V_X9_readTraits_17 (by omega)  H) (k2_Z fun r14 s15 H => ?_)
          refine fs_if_eq (tgt := 87) dd_X9_readStatement_80 (by decide) (fun hc => ?_) (fun hc => ?_)
          · replace H := H.1 (bi_0 hc)
            refine fs_iconst (n := 0) (v := 0) dd_X9_readStatement_87 (by decide) ?_
            exact fs_zret false dd_X9_readStatement_88 rfl rfl H
          · replace H := H.2 (bi_1 hc)
            refine fs_iconst (n := 1) (v := 1) dd_X9_readStatement_83 (by decide) ?_
            refine fs_goto (tgt := 88) dd_X9_readStatement_84 (by decide) ?_
            exact fs_zret true dd_X9_readStatement_88 rfl rfl H
    · replace H := H.2 hc
      refine fs_aload_n (k0 := 0) (i := 0) dd_X9_readStatement_55 rfl rfl ?_
      refine fs_aload_n (k0 := 1) (i := 1) dd_X9_readStatement_56 rfl rfl ?_
      refine fs_callV (y := m_X9_readVillage) (as := [.ref 4]) dd_X9_readStatement_57 me_X9_readVillage lk_X9_97 in_X9_readVillage se_X9_readVillage ca_17 rfl rfl rfl (Nat.le_of_ble_eq_true rfl) (Nat.le_of_ble_eq_true rfl) rfl (V_X9_readVillage_17 (by omega)  H) (k2_Z fun r16 s17 H => ?_)
      exact fs_zret r16 dd_X9_readStatement_60 rfl rfl H
  · replace H := H.2 hc
    refine fs_aload_n (k0 := 1) (i := 1) dd_X9_readStatement_44 rfl rfl ?_
    refine fs_callV (y := m_X8_failHere) (as := []) dd_X9_readStatement_45 me_X8_failHere lk_X9_75 in_X8_failHere se_X8_failHere ca_4 rfl rfl rfl (Nat.le_of_ble_eq_true rfl) (Nat.le_of_ble_eq_true rfl) rfl (V_X8_failHere (by omega)  H) (k2_Z fun r18 s19 H => ?_)
    exact fs_zret r18 dd_X9_readStatement_48 rfl rfl H
set_option maxRecDepth 100000 in
set_option maxHeartbeats 4000000 in
theorem V_nd_X9_readStatement_17_28 {g : fz_G} {l : Launch} {d : Nat} (hD : 76 ≤ d)    {Q : Bool → fz_s → Prop} {v3 : Int32} {u0 : Bool} {s : fz_s}  (H : nd_X9_readStatement_17_28   Q v3 u0 s) : fs_V g l m_X9_readStatement d true 28 [.ref 17, .ref 4, .ref 5, .int v3, fz_J] [.int (bi u0)] s (rZ Q) := by
  obtain ⟨d, rfl⟩ : ∃ e, d = e + 1 := ⟨d - 1, by omega⟩
  unfold nd_X9_readStatement_17_28 at H
  refine fs_aload_n (k0 := 0) (i := 0) dd_X9_readStatement_28 rfl rfl ?_
  refine fs_geti (ci := 9) (j := 11) dd_X9_readStatement_29 fl_X9_52 ca_17 rfl (Or.inl rfl) ?_
  refine fs_iconst (n := 2) (v := 2) dd_X9_readStatement_32 (by decide) ?_
  refine fs_icmp_ge (tgt := 40) dd_X9_readStatement_33 (by decide) (fun hc => ?_) (fun hc => ?_)
  · replace H := H.1 hc
    refine fs_iconst (n := 0) (v := 0) dd_X9_readStatement_40 (by decide) ?_
    refine fs_weak (ls2 := [.ref 17, .ref 4, .ref 5, .int v3, fz_J]) (fz_le_e (fz_le_e (fz_le_e (fz_le_e (fz_le_j fz_le_n))))) ?_
    exact V_nd_X9_readStatement_17_41 hD    H
  · replace H := H.2 hc
    refine fs_iconst (n := 1) (v := 1) dd_X9_readStatement_36 (by decide) ?_
    refine fs_goto (tgt := 41) dd_X9_readStatement_37 (by decide) ?_
    refine fs_weak (ls2 := [.ref 17, .ref 4, .ref 5, .int v3, fz_J]) (fz_le_e (fz_le_e (fz_le_e (fz_le_e (fz_le_j fz_le_n))))) ?_
    exact V_nd_X9_readStatement_17_41 hD    H
set_option maxRecDepth 100000 in
set_option maxHeartbeats 4000000 in
theorem V_nd_X9_readStatement_17_16 {g : fz_G} {l : Launch} {d : Nat} (hD : 76 ≤ d)    {Q : Bool → fz_s → Prop} {u0 : Int32} {s : fz_s}  (H : nd_X9_readStatement_17_16   Q u0 s) : fs_V g l m_X9_readStatement d true 16 [.ref 17, .ref 4, .ref 5, fz_J, fz_J] [.int u0] s (rZ Q) := by
  obtain ⟨d, rfl⟩ : ∃ e, d = e + 1 := ⟨d - 1, by omega⟩
  unfold nd_X9_readStatement_17_16 at H
  refine fs_istore_n (k0 := 3) (i := 3) dd_X9_readStatement_16 rfl (by decide) ?_
  refine fs_iload_n (k0 := 3) (i := 3) dd_X9_readStatement_17 rfl rfl ?_
  refine fs_bipush (n := 16) (v := 16) dd_X9_readStatement_18 (by decide) ?_
  refine fs_icmp_ne (tgt := 27) dd_X9_readStatement_20 (by decide) (fun hc => ?_) (fun hc => ?_)
  · replace H := H.1 hc
    refine fs_iconst (n := 0) (v := 0) dd_X9_readStatement_27 (by decide) ?_
    refine fs_weak (ls2 := [.ref 17, .ref 4, .ref 5, .int u0, fz_J]) (fz_le_e (fz_le_e (fz_le_e (fz_le_e (fz_le_j fz_le_n))))) ?_
    exact V_nd_X9_readStatement_17_28 hD    H
  · replace H := H.2 hc
    refine fs_iconst (n := 1) (v := 1) dd_X9_readStatement_23 (by decide) ?_
    refine fs_goto (tgt := 28) dd_X9_readStatement_24 (by decide) ?_
    refine fs_weak (ls2 := [.ref 17, .ref 4, .ref 5, .int u0, fz_J]) (fz_le_e (fz_le_e (fz_le_e (fz_le_e (fz_le_j fz_le_n))))) ?_
    exact V_nd_X9_readStatement_17_28 hD    H
set_option maxRecDepth 100000 in
set_option maxHeartbeats 4000000 in
theorem V_X9_readStatement_17 {g : fz_G} {l : Launch} {d : Nat} (hD : 76 ≤ d)   {s : fz_s} {Q : Bool → fz_s → Prop} (H : wp_X9_readStatement_17  s Q) : fs_V g l m_X9_readStatement d true 0 (fz_en [.ref 17, .ref 4, .ref 5] 5) [] s (rZ Q) := by
  obtain ⟨d, rfl⟩ : ∃ e, d = e + 1 := ⟨d - 1, by omega⟩
  unfold wp_X9_readStatement_17 at H
  refine fs_aload_n (k0 := 1) (i := 1) dd_X9_readStatement_0 rfl rfl ?_
  refine fs_geti (ci := 8) (j := 3) dd_X9_readStatement_1 fl_X9_67 ca_4 rfl (Or.inl rfl) ?_
  refine fs_iconst (n := 1) (v := 1) dd_X9_readStatement_4 (by decide) ?_
  refine fs_icmp_ne (tgt := 15) dd_X9_readStatement_5 (by decide) (fun hc => ?_) (fun hc => ?_)
  · replace H := H.1 hc
    refine fs_iconst (n := -1) (v := -1) dd_X9_readStatement_15 (by decide) ?_
    refine fs_weak (ls2 := [.ref 17, .ref 4, .ref 5, fz_J, fz_J]) (fz_le_e (fz_le_e (fz_le_e (fz_le_j (fz_le_j fz_le_n))))) ?_
    exact V_nd_X9_readStatement_17_16 hD    H
  · replace H := H.2 hc
    refine fs_aload_n (k0 := 1) (i := 1) dd_X9_readStatement_8 rfl rfl ?_
    refine fs_geti (ci := 8) (j := 5) dd_X9_readStatement_9 fl_X9_94 ca_4 rfl (Or.inl rfl) ?_
    refine fs_goto (tgt := 16) dd_X9_readStatement_12 (by decide) ?_
    refine fs_weak (ls2 := [.ref 17, .ref 4, .ref 5, fz_J, fz_J]) (fz_le_e (fz_le_e (fz_le_e (fz_le_j (fz_le_j fz_le_n))))) ?_
    exact V_nd_X9_readStatement_17_16 hD    H
theorem dd_X9_read_0 : decode m_X9_read.2.1 0 = .ok (.aload_n 0, 1) := by decide +kernel
theorem dd_X9_read_1 : decode m_X9_read.2.1 1 = .ok (.invokevirtual 64, 3) := by decide +kernel
theorem dd_X9_read_4 : decode m_X9_read.2.1 4 = .ok (.iconst 0, 1) := by decide +kernel
theorem dd_X9_read_5 : decode m_X9_read.2.1 5 = .ok (.istore_n 3, 1) := by decide +kernel
theorem dd_X9_read_6 : decode m_X9_read.2.1 6 = .ok (.iload_n 3, 1) := by decide +kernel
theorem dd_X9_read_7 : decode m_X9_read.2.1 7 = .ok (.bipush 80, 2) := by decide +kernel
theorem dd_X9_read_9 : decode m_X9_read.2.1 9 = .ok (.if_icmp .gt 87, 3) := by decide +kernel
theorem dd_X9_read_12 : decode m_X9_read.2.1 12 = .ok (.aload_n 1, 1) := by decide +kernel
theorem dd_X9_read_13 : decode m_X9_read.2.1 13 = .ok (.getfield 67, 3) := by decide +kernel
theorem dd_X9_read_16 : decode m_X9_read.2.1 16 = .ok (.ifCond .ne 28, 3) := by decide +kernel
theorem dd_X9_read_19 : decode m_X9_read.2.1 19 = .ok (.aload_n 0, 1) := by decide +kernel
theorem dd_X9_read_20 : decode m_X9_read.2.1 20 = .ok (.invokevirtual 72, 3) := by decide +kernel
theorem dd_X9_read_23 : decode m_X9_read.2.1 23 = .ok (.aload_n 0, 1) := by decide +kernel
theorem dd_X9_read_24 : decode m_X9_read.2.1 24 = .ok (.getfield 52, 3) := by decide +kernel
theorem dd_X9_read_27 : decode m_X9_read.2.1 27 = .ok (.iconst 2, 1) := by decide +kernel
theorem dd_X9_read_28 : decode m_X9_read.2.1 28 = .ok (.if_icmp .eq 10, 3) := by decide +kernel
theorem dd_X9_read_31 : decode m_X9_read.2.1 31 = .ok (.aload_n 1, 1) := by decide +kernel
theorem dd_X9_read_32 : decode m_X9_read.2.1 32 = .ok (.invokevirtual 75, 3) := by decide +kernel
theorem dd_X9_read_35 : decode m_X9_read.2.1 35 = .ok (.ifCond .eq 7, 3) := by decide +kernel
theorem dd_X9_read_38 : decode m_X9_read.2.1 38 = .ok (.iconst 1, 1) := by decide +kernel
theorem dd_X9_read_39 : decode m_X9_read.2.1 39 = .ok (.goto 4, 3) := by decide +kernel
theorem dd_X9_read_42 : decode m_X9_read.2.1 42 = .ok (.iconst 0, 1) := by decide +kernel
theorem dd_X9_read_43 : decode m_X9_read.2.1 43 = .ok (.ireturn, 1) := by decide +kernel
theorem dd_X9_read_44 : decode m_X9_read.2.1 44 = .ok (.iload_n 3, 1) := by decide +kernel
theorem dd_X9_read_45 : decode m_X9_read.2.1 45 = .ok (.bipush 80, 2) := by decide +kernel
theorem dd_X9_read_47 : decode m_X9_read.2.1 47 = .ok (.if_icmp .ne 13, 3) := by decide +kernel
theorem dd_X9_read_50 : decode m_X9_read.2.1 50 = .ok (.aload_n 1, 1) := by decide +kernel
theorem dd_X9_read_51 : decode m_X9_read.2.1 51 = .ok (.iconst 5, 1) := by decide +kernel
theorem dd_X9_read_52 : decode m_X9_read.2.1 52 = .ok (.aload_n 1, 1) := by decide +kernel
theorem dd_X9_read_53 : decode m_X9_read.2.1 53 = .ok (.getfield 79, 3) := by decide +kernel
theorem dd_X9_read_56 : decode m_X9_read.2.1 56 = .ok (.invokevirtual 82, 3) := by decide +kernel
theorem dd_X9_read_59 : decode m_X9_read.2.1 59 = .ok (.ireturn, 1) := by decide +kernel
theorem dd_X9_read_60 : decode m_X9_read.2.1 60 = .ok (.aload_n 0, 1) := by decide +kernel
theorem dd_X9_read_61 : decode m_X9_read.2.1 61 = .ok (.aload_n 1, 1) := by decide +kernel
theorem dd_X9_read_62 : decode m_X9_read.2.1 62 = .ok (.aload_n 2, 1) := by decide +kernel
theorem dd_X9_read_63 : decode m_X9_read.2.1 63 = .ok (.invokevirtual 86, 3) := by decide +kernel
theorem dd_X9_read_66 : decode m_X9_read.2.1 66 = .ok (.ifCond .eq 12, 3) := by decide +kernel
theorem dd_X9_read_69 : decode m_X9_read.2.1 69 = .ok (.aload_n 1, 1) := by decide +kernel
theorem dd_X9_read_70 : decode m_X9_read.2.1 70 = .ok (.bipush 59, 2) := by decide +kernel
theorem dd_X9_read_72 : decode m_X9_read.2.1 72 = .ok (.invokevirtual 90, 3) := by decide +kernel
theorem dd_X9_read_75 : decode m_X9_read.2.1 75 = .ok (.ifCond .ne 5, 3) := by decide +kernel
theorem dd_X9_read_78 : decode m_X9_read.2.1 78 = .ok (.iconst 0, 1) := by decide +kernel
theorem dd_X9_read_79 : decode m_X9_read.2.1 79 = .ok (.ireturn, 1) := by decide +kernel
theorem dd_X9_read_80 : decode m_X9_read.2.1 80 = .ok (.aload_n 0, 1) := by decide +kernel
theorem dd_X9_read_81 : decode m_X9_read.2.1 81 = .ok (.dup, 1) := by decide +kernel
theorem dd_X9_read_82 : decode m_X9_read.2.1 82 = .ok (.getfield 58, 3) := by decide +kernel
theorem dd_X9_read_85 : decode m_X9_read.2.1 85 = .ok (.iconst 1, 1) := by decide +kernel
theorem dd_X9_read_86 : decode m_X9_read.2.1 86 = .ok (.iadd, 1) := by decide +kernel
theorem dd_X9_read_87 : decode m_X9_read.2.1 87 = .ok (.putfield 58, 3) := by decide +kernel
theorem dd_X9_read_90 : decode m_X9_read.2.1 90 = .ok (.iinc 3 1, 3) := by decide +kernel
theorem dd_X9_read_93 : decode m_X9_read.2.1 93 = .ok (.goto (-87), 3) := by decide +kernel
theorem dd_X9_read_96 : decode m_X9_read.2.1 96 = .ok (.iconst 0, 1) := by decide +kernel
theorem dd_X9_read_97 : decode m_X9_read.2.1 97 = .ok (.ireturn, 1) := by decide +kernel
def nd_X9_read_17_6  (K6 : Int32 → fz_s → Prop) (Q : Bool → fz_s → Prop) (v3 : Int32) (s : fz_s) : Prop :=
  ((80 < v3 → Q false s) ∧ (¬ 80 < v3 → ((¬ (s.1 4 3) = 0 → ((¬ v3 = 80 → wp_X9_readStatement_17  s (fun r1 s2 => ((r1 = false → Q false s2) ∧ (r1 = true → wp_X8_takeSign 59 s2 (fun r3 s4 => ((r3 = true → ∀ s5 : fz_s, s5 = si s4 17 13 ((s4.1 17 13) + 1) → ∀ x6 : Int32, x6 = v3 + 1 → K6 x6 s5) ∧ (r3 = false → Q false s4))))))) ∧ (v3 = 80 → wp_X8_fail 5 (s.1 4 4) s (fun r7 s8 => Q r7 s8)))) ∧ ((s.1 4 3) = 0 → wp_X9_addDefaults_17  s (fun s10 => (((s10.1 17 11) = 2 → Q true s10) ∧ (¬ (s10.1 17 11) = 2 → wp_X8_failHere  s10 (fun r11 s12 => ((r11 = false → Q false s12) ∧ (r11 = true → Q true s12))))))))))
def lp_X9_read_17_6   (Q : Bool → fz_s → Prop) : Nat → Int32 → fz_s → Prop
  | 0 => fun _ _ => False
  | n + 1 => nd_X9_read_17_6  (lp_X9_read_17_6   Q n) Q
def wp_X9_read_17  (s : fz_s) (Q : Bool → fz_s → Prop) : Prop :=
  wp_X9_clear_17  s (fun s2 => lp_X9_read_17_6   Q 2048 0 s2)
set_option maxRecDepth 100000 in
set_option maxHeartbeats 4000000 in
theorem V_nd_X9_read_17_6 {g : fz_G} {l : Launch} {d : Nat} (hD : 77 ≤ d)   {K6 : Int32 → fz_s → Prop} {Q : Bool → fz_s → Prop} {v3 : Int32} {s : fz_s} (hK6 : ∀ {v3 : Int32} {s : fz_s}, K6 v3 s → fs_V g l m_X9_read d true 6 [.ref 17, .ref 4, .ref 5, .int v3] [] s (rZ Q)) (H : nd_X9_read_17_6  K6 Q v3 s) : fs_V g l m_X9_read d true 6 [.ref 17, .ref 4, .ref 5, .int v3] [] s (rZ Q) := by
  obtain ⟨d, rfl⟩ : ∃ e, d = e + 1 := ⟨d - 1, by omega⟩
  unfold nd_X9_read_17_6 at H
  refine fs_iload_n (k0 := 3) (i := 3) dd_X9_read_6 rfl rfl ?_
  refine fs_bipush (n := 80) (v := 80) dd_X9_read_7 (by decide) ?_
  refine fs_icmp_gt (tgt := 96) dd_X9_read_9 (by decide) (fun hc => ?_) (fun hc => ?_)
  · replace H := H.1 hc
    refine fs_iconst (n := 0) (v := 0) dd_X9_read_96 (by decide) ?_
    exact fs_zret false dd_X9_read_97 rfl rfl H
  · replace H := H.2 hc
    refine fs_aload_n (k0 := 1) (i := 1) dd_X9_read_12 rfl rfl ?_
    refine fs_geti (ci := 8) (j := 3) dd_X9_read_13 fl_X9_67 ca_4 rfl (Or.inl rfl) ?_
    refine fs_if_ne (tgt := 44) dd_X9_read_16 (by decide) (fun hc => ?_) (fun hc => ?_)
    · replace H := H.1 hc
      refine fs_iload_n (k0 := 3) (i := 3) dd_X9_read_44 rfl rfl ?_
      refine fs_bipush (n := 80) (v := 80) dd_X9_read_45 (by decide) ?_
      refine fs_icmp_ne (tgt := 60) dd_X9_read_47 (by decide) (fun hc => ?_) (fun hc => ?_)
      · replace H := H.1 hc
        refine fs_aload_n (k0 := 0) (i := 0) dd_X9_read_60 rfl rfl ?_
        refine fs_aload_n (k0 := 1) (i := 1) dd_X9_read_61 rfl rfl ?_
        refine fs_aload_n (k0 := 2) (i := 2) dd_X9_read_62 rfl rfl ?_
        refine fs_callV (y := m_X9_readStatement) (as := [.ref 4, .ref 5]) dd_X9_read_63 me_X9_readStatement lk_X9_86 in_X9_readStatement se_X9_readStatement ca_17 rfl rfl rfl (Nat.le_of_ble_eq_true rfl) (Nat.le_of_ble_eq_true rfl) rfl (V_X9_readStatement_17 (by omega)  H) (k2_Z fun r1 s2 H => ?_)
        refine fs_if_eq (tgt := 78) dd_X9_read_66 (by decide) (fun hc => ?_) (fun hc => ?_)
        · replace H := H.1 (bi_0 hc)
          refine fs_iconst (n := 0) (v := 0) dd_X9_read_78 (by decide) ?_
          exact fs_zret false dd_X9_read_79 rfl rfl H
        · replace H := H.2 (bi_1 hc)
          refine fs_aload_n (k0 := 1) (i := 1) dd_X9_read_69 rfl rfl ?_
          refine fs_bipush (n := 59) (v := 59) dd_X9_read_70 (by decide) ?_
          refine fs_callV (y := m_X8_takeSign) (as := [.int 59]) dd_X9_read_72 me_X8_takeSign lk_X9_90 in_X8_takeSign se_X8_takeSign ca_4 rfl rfl rfl (Nat.le_of_ble_eq_true rfl) (Nat.le_of_ble_eq_true rfl) rfl (V_X8_takeSign (by omega)  H) (k2_Z fun r3 s4 H => ?_)
          refine fs_if_ne (tgt := 80) dd_X9_read_75 (by decide) (fun hc => ?_) (fun hc => ?_)
          · replace H := H.1 (bi_1 hc)
            refine fs_aload_n (k0 := 0) (i := 0) dd_X9_read_80 rfl rfl ?_
            refine fs_dup dd_X9_read_81 rfl ?_
            refine fs_geti (ci := 9) (j := 13) dd_X9_read_82 fl_X9_58 ca_17 rfl (Or.inl rfl) ?_
            refine fs_iconst (n := 1) (v := 1) dd_X9_read_85 (by decide) ?_
            refine fs_iadd dd_X9_read_86 ?_
            refine fs_puti (ci := 9) (j := 13) dd_X9_read_87 fl_X9_58 (fun _ _ _ h => by cases h; rfl) ca_17 rfl (Or.inl rfl) ?_
            refine fs_tops (fun s5 hs5 => ?_)
            replace H := H s5 hs5
            refine fs_iincN (i := 3) (m := 1) (c := 1) dd_X9_read_90 rfl (by decide) (by decide) (fun x6 hx6 => ?_)
            replace H := H x6 hx6
            refine fs_goto (tgt := 6) dd_X9_read_93 (by decide) ?_
            refine fs_weak (ls2 := [.ref 17, .ref 4, .ref 5, .int x6]) (fz_le_e (fz_le_e (fz_le_e (fz_le_e fz_le_n)))) ?_
            exact hK6 H
          · replace H := H.2 (bi_0 hc)
            refine fs_iconst (n := 0) (v := 0) dd_X9_read_78 (by decide) ?_
            exact fs_zret false dd_X9_read_79 rfl rfl H
      · replace H := H.2 hc
        refine fs_aload_n (k0 := 1) (i := 1) dd_X9_read_50 rfl rfl ?_
        refine fs_iconst (n := 5) (v := 5) dd_X9_read_51 (by decide) ?_
        refine fs_aload_n (k0 := 1) (i := 1) dd_X9_read_52 rfl rfl ?_
        refine fs_geti (ci := 8) (j := 4) dd_X9_read_53 fl_X9_79 ca_4 rfl (Or.inl rfl) ?_
        refine fs_callV (y := m_X8_fail) (as := [.int 5, .int (s.1 4 4)]) dd_X9_read_56 me_X8_fail lk_X9_82 in_X8_fail se_X8_fail ca_4 rfl rfl rfl (Nat.le_of_ble_eq_true rfl) (Nat.le_of_ble_eq_true rfl) rfl (V_X8_fail (by omega)  H) (k2_Z fun r7 s8 H => ?_)
        exact fs_zret r7 dd_X9_read_59 rfl rfl H
    · replace H := H.2 hc
      refine fs_aload_n (k0 := 0) (i := 0) dd_X9_read_19 rfl rfl ?_
      refine fs_callV (y := m_X9_addDefaults) (as := []) dd_X9_read_20 me_X9_addDefaults lk_X9_72 in_X9_addDefaults se_X9_addDefaults ca_17 rfl rfl rfl (Nat.le_of_ble_eq_true rfl) (Nat.le_of_ble_eq_true rfl) rfl (V_X9_addDefaults_17 (by omega)  H) (k2_V fun s10 H => ?_)
      refine fs_aload_n (k0 := 0) (i := 0) dd_X9_read_23 rfl rfl ?_
      refine fs_geti (ci := 9) (j := 11) dd_X9_read_24 fl_X9_52 ca_17 rfl (Or.inl rfl) ?_
      refine fs_iconst (n := 2) (v := 2) dd_X9_read_27 (by decide) ?_
      refine fs_icmp_eq (tgt := 38) dd_X9_read_28 (by decide) (fun hc => ?_) (fun hc => ?_)
      · replace H := H.1 hc
        refine fs_iconst (n := 1) (v := 1) dd_X9_read_38 (by decide) ?_
        refine fs_goto (tgt := 43) dd_X9_read_39 (by decide) ?_
        exact fs_zret true dd_X9_read_43 rfl rfl H
      · replace H := H.2 hc
        refine fs_aload_n (k0 := 1) (i := 1) dd_X9_read_31 rfl rfl ?_
        refine fs_callV (y := m_X8_failHere) (as := []) dd_X9_read_32 me_X8_failHere lk_X9_75 in_X8_failHere se_X8_failHere ca_4 rfl rfl rfl (Nat.le_of_ble_eq_true rfl) (Nat.le_of_ble_eq_true rfl) rfl (V_X8_failHere (by omega)  H) (k2_Z fun r11 s12 H => ?_)
        refine fs_if_eq (tgt := 42) dd_X9_read_35 (by decide) (fun hc => ?_) (fun hc => ?_)
        · replace H := H.1 (bi_0 hc)
          refine fs_iconst (n := 0) (v := 0) dd_X9_read_42 (by decide) ?_
          exact fs_zret false dd_X9_read_43 rfl rfl H
        · replace H := H.2 (bi_1 hc)
          refine fs_iconst (n := 1) (v := 1) dd_X9_read_38 (by decide) ?_
          refine fs_goto (tgt := 43) dd_X9_read_39 (by decide) ?_
          exact fs_zret true dd_X9_read_43 rfl rfl H
set_option maxRecDepth 100000 in
set_option maxHeartbeats 4000000 in
theorem V_lp_X9_read_17_6 {g : fz_G} {l : Launch} {d : Nat} (hD : 77 ≤ d)    {Q : Bool → fz_s → Prop}  (n : Nat) : ∀ {v3 : Int32} {s : fz_s}, lp_X9_read_17_6   Q n v3 s → fs_V g l m_X9_read d true 6 [.ref 17, .ref 4, .ref 5, .int v3] [] s (rZ Q) := by
  induction n with
  | zero => intro v3 s H; exact H.elim
  | succ n ih => intro v3 s H; exact V_nd_X9_read_17_6 hD  (fun H => ih H) H
set_option maxRecDepth 100000 in
set_option maxHeartbeats 4000000 in
theorem V_X9_read_17 {g : fz_G} {l : Launch} {d : Nat} (hD : 77 ≤ d)   {s : fz_s} {Q : Bool → fz_s → Prop} (H : wp_X9_read_17  s Q) : fs_V g l m_X9_read d true 0 (fz_en [.ref 17, .ref 4, .ref 5] 4) [] s (rZ Q) := by
  obtain ⟨d, rfl⟩ : ∃ e, d = e + 1 := ⟨d - 1, by omega⟩
  unfold wp_X9_read_17 at H
  refine fs_aload_n (k0 := 0) (i := 0) dd_X9_read_0 rfl rfl ?_
  refine fs_callV (y := m_X9_clear) (as := []) dd_X9_read_1 me_X9_clear lk_X9_64 in_X9_clear se_X9_clear ca_17 rfl rfl rfl (Nat.le_of_ble_eq_true rfl) (Nat.le_of_ble_eq_true rfl) rfl (V_X9_clear_17 (by omega)  H) (k2_V fun s2 H => ?_)
  refine fs_iconst (n := 0) (v := 0) dd_X9_read_4 (by decide) ?_
  refine fs_istore_n (k0 := 3) (i := 3) dd_X9_read_5 rfl (by decide) ?_
  refine fs_weak (ls2 := [.ref 17, .ref 4, .ref 5, .int 0]) (fz_le_e (fz_le_e (fz_le_e (fz_le_e fz_le_n)))) ?_
  exact V_lp_X9_read_17_6 hD    2048 H
theorem dd_X11_treaty_0 : decode m_X11_treaty.2.1 0 = .ok (.aload_n 0, 1) := by decide +kernel
theorem dd_X11_treaty_1 : decode m_X11_treaty.2.1 1 = .ok (.getfield 18, 3) := by decide +kernel
theorem dd_X11_treaty_4 : decode m_X11_treaty.2.1 4 = .ok (.aload_n 0, 1) := by decide +kernel
theorem dd_X11_treaty_5 : decode m_X11_treaty.2.1 5 = .ok (.getfield 115, 3) := by decide +kernel
theorem dd_X11_treaty_8 : decode m_X11_treaty.2.1 8 = .ok (.invokevirtual 126, 3) := by decide +kernel
theorem dd_X11_treaty_11 : decode m_X11_treaty.2.1 11 = .ok (.aload_n 0, 1) := by decide +kernel
theorem dd_X11_treaty_12 : decode m_X11_treaty.2.1 12 = .ok (.iconst 0, 1) := by decide +kernel
theorem dd_X11_treaty_13 : decode m_X11_treaty.2.1 13 = .ok (.putfield 115, 3) := by decide +kernel
theorem dd_X11_treaty_16 : decode m_X11_treaty.2.1 16 = .ok (.aload_n 0, 1) := by decide +kernel
theorem dd_X11_treaty_17 : decode m_X11_treaty.2.1 17 = .ok (.getfield 38, 3) := by decide +kernel
theorem dd_X11_treaty_20 : decode m_X11_treaty.2.1 20 = .ok (.aload_n 0, 1) := by decide +kernel
theorem dd_X11_treaty_21 : decode m_X11_treaty.2.1 21 = .ok (.getfield 18, 3) := by decide +kernel
theorem dd_X11_treaty_24 : decode m_X11_treaty.2.1 24 = .ok (.aload_n 0, 1) := by decide +kernel
theorem dd_X11_treaty_25 : decode m_X11_treaty.2.1 25 = .ok (.getfield 27, 3) := by decide +kernel
theorem dd_X11_treaty_28 : decode m_X11_treaty.2.1 28 = .ok (.invokevirtual 129, 3) := by decide +kernel
theorem dd_X11_treaty_31 : decode m_X11_treaty.2.1 31 = .ok (.istore_n 1, 1) := by decide +kernel
theorem dd_X11_treaty_32 : decode m_X11_treaty.2.1 32 = .ok (.aload_n 0, 1) := by decide +kernel
theorem dd_X11_treaty_33 : decode m_X11_treaty.2.1 33 = .ok (.invokevirtual 133, 3) := by decide +kernel
theorem dd_X11_treaty_36 : decode m_X11_treaty.2.1 36 = .ok (.iload_n 1, 1) := by decide +kernel
theorem dd_X11_treaty_37 : decode m_X11_treaty.2.1 37 = .ok (.ifCond .ne 9, 3) := by decide +kernel
theorem dd_X11_treaty_40 : decode m_X11_treaty.2.1 40 = .ok (.aload_n 0, 1) := by decide +kernel
theorem dd_X11_treaty_41 : decode m_X11_treaty.2.1 41 = .ok (.iconst 1, 1) := by decide +kernel
theorem dd_X11_treaty_42 : decode m_X11_treaty.2.1 42 = .ok (.invokevirtual 118, 3) := by decide +kernel
theorem dd_X11_treaty_45 : decode m_X11_treaty.2.1 45 = .ok (.ireturn, 1) := by decide +kernel
theorem dd_X11_treaty_46 : decode m_X11_treaty.2.1 46 = .ok (.aload_n 0, 1) := by decide +kernel
theorem dd_X11_treaty_47 : decode m_X11_treaty.2.1 47 = .ok (.getfield 34, 3) := by decide +kernel
theorem dd_X11_treaty_50 : decode m_X11_treaty.2.1 50 = .ok (.aload_n 0, 1) := by decide +kernel
theorem dd_X11_treaty_51 : decode m_X11_treaty.2.1 51 = .ok (.getfield 38, 3) := by decide +kernel
theorem dd_X11_treaty_54 : decode m_X11_treaty.2.1 54 = .ok (.invokevirtual 136, 3) := by decide +kernel
theorem dd_X11_treaty_57 : decode m_X11_treaty.2.1 57 = .ok (.aload_n 0, 1) := by decide +kernel
theorem dd_X11_treaty_58 : decode m_X11_treaty.2.1 58 = .ok (.getfield 63, 3) := by decide +kernel
theorem dd_X11_treaty_61 : decode m_X11_treaty.2.1 61 = .ok (.aload_n 0, 1) := by decide +kernel
theorem dd_X11_treaty_62 : decode m_X11_treaty.2.1 62 = .ok (.getfield 34, 3) := by decide +kernel
theorem dd_X11_treaty_65 : decode m_X11_treaty.2.1 65 = .ok (.invokevirtual 140, 3) := by decide +kernel
theorem dd_X11_treaty_68 : decode m_X11_treaty.2.1 68 = .ok (.aload_n 0, 1) := by decide +kernel
theorem dd_X11_treaty_69 : decode m_X11_treaty.2.1 69 = .ok (.getfield 73, 3) := by decide +kernel
theorem dd_X11_treaty_72 : decode m_X11_treaty.2.1 72 = .ok (.invokevirtual 143, 3) := by decide +kernel
theorem dd_X11_treaty_75 : decode m_X11_treaty.2.1 75 = .ok (.aload_n 0, 1) := by decide +kernel
theorem dd_X11_treaty_76 : decode m_X11_treaty.2.1 76 = .ok (.getfield 98, 3) := by decide +kernel
theorem dd_X11_treaty_79 : decode m_X11_treaty.2.1 79 = .ok (.invokevirtual 146, 3) := by decide +kernel
theorem dd_X11_treaty_82 : decode m_X11_treaty.2.1 82 = .ok (.aload_n 0, 1) := by decide +kernel
theorem dd_X11_treaty_83 : decode m_X11_treaty.2.1 83 = .ok (.getfield 34, 3) := by decide +kernel
theorem dd_X11_treaty_86 : decode m_X11_treaty.2.1 86 = .ok (.getfield 147, 3) := by decide +kernel
theorem dd_X11_treaty_89 : decode m_X11_treaty.2.1 89 = .ok (.ireturn, 1) := by decide +kernel
def wp_X11_treaty  (s : fz_s) (Q : Int32 → fz_s → Prop) : Prop :=
  wp_X8_open (s.1 2 1) s (fun s2 => ∀ s3 : fz_s, s3 = si s2 2 1 0 → wp_X9_read_17  s3 (fun r4 s5 => wp_X11_takeFault  s5 (fun s7 => ((r4 = true → wp_X9_take_6_17  s7 (fun s9 => wp_X10_begin_6 35 s9 (fun s11 => wp_X4_forget  s11 (fun s13 => wp_X6_forget  s13 (fun s15 => Q (s15.1 6 13) s15))))) ∧ (r4 = false → wp_X11_refuse 1 s7 (fun r16 s17 => Q r16 s17))))))
set_option maxRecDepth 100000 in
set_option maxHeartbeats 4000000 in
theorem V_X11_treaty {g : fz_G} {l : Launch} {d : Nat} (hD : 78 ≤ d)   {s : fz_s} {Q : Int32 → fz_s → Prop} (H : wp_X11_treaty  s Q) : fs_V g l m_X11_treaty d true 0 (fz_en [.ref 2] 2) [] s (rI Q) := by
  obtain ⟨d, rfl⟩ : ∃ e, d = e + 1 := ⟨d - 1, by omega⟩
  unfold wp_X11_treaty at H
  refine fs_aload_n (k0 := 0) (i := 0) dd_X11_treaty_0 rfl rfl ?_
  refine fs_getr (ci := 11) (j := 2) (q := 4) dd_X11_treaty_1 fl_X11_18 ca_2 rfl (Or.inl ⟨_, rfl⟩) rfl (by decide) ?_
  refine fs_aload_n (k0 := 0) (i := 0) dd_X11_treaty_4 rfl rfl ?_
  refine fs_geti (ci := 11) (j := 1) dd_X11_treaty_5 fl_X11_115 ca_2 rfl (Or.inl rfl) ?_
  refine fs_callV (y := m_X8_open) (as := [.int (s.1 2 1)]) dd_X11_treaty_8 me_X8_open lk_X11_126 in_X8_open se_X8_open ca_4 rfl rfl rfl (Nat.le_of_ble_eq_true rfl) (Nat.le_of_ble_eq_true rfl) rfl (V_X8_open (by omega)  H) (k2_V fun s2 H => ?_)
  refine fs_aload_n (k0 := 0) (i := 0) dd_X11_treaty_11 rfl rfl ?_
  refine fs_iconst (n := 0) (v := 0) dd_X11_treaty_12 (by decide) ?_
  refine fs_puti (ci := 11) (j := 1) dd_X11_treaty_13 fl_X11_115 (fun _ _ _ h => by cases h; rfl) ca_2 rfl (Or.inl rfl) ?_
  refine fs_tops (fun s3 hs3 => ?_)
  replace H := H s3 hs3
  refine fs_aload_n (k0 := 0) (i := 0) dd_X11_treaty_16 rfl rfl ?_
  refine fs_getr (ci := 11) (j := 5) (q := 17) dd_X11_treaty_17 fl_X11_38 ca_2 rfl (Or.inl ⟨_, rfl⟩) rfl (by decide) ?_
  refine fs_aload_n (k0 := 0) (i := 0) dd_X11_treaty_20 rfl rfl ?_
  refine fs_getr (ci := 11) (j := 2) (q := 4) dd_X11_treaty_21 fl_X11_18 ca_2 rfl (Or.inl ⟨_, rfl⟩) rfl (by decide) ?_
  refine fs_aload_n (k0 := 0) (i := 0) dd_X11_treaty_24 rfl rfl ?_
  refine fs_getr (ci := 11) (j := 3) (q := 5) dd_X11_treaty_25 fl_X11_27 ca_2 rfl (Or.inl ⟨_, rfl⟩) rfl (by decide) ?_
  refine fs_callV (y := m_X9_read) (as := [.ref 4, .ref 5]) dd_X11_treaty_28 me_X9_read lk_X11_129 in_X9_read se_X9_read ca_17 rfl rfl rfl (Nat.le_of_ble_eq_true rfl) (Nat.le_of_ble_eq_true rfl) rfl (V_X9_read_17 (by omega)  H) (k2_Z fun r4 s5 H => ?_)
  refine fs_istore_n (k0 := 1) (i := 1) dd_X11_treaty_31 rfl (by decide) ?_
  refine fs_aload_n (k0 := 0) (i := 0) dd_X11_treaty_32 rfl rfl ?_
  refine fs_callV (y := m_X11_takeFault) (as := []) dd_X11_treaty_33 me_X11_takeFault lk_X11_133 in_X11_takeFault se_X11_takeFault ca_2 rfl rfl rfl (Nat.le_of_ble_eq_true rfl) (Nat.le_of_ble_eq_true rfl) rfl (V_X11_takeFault (by omega)  H) (k2_V fun s7 H => ?_)
  refine fs_iload_n (k0 := 1) (i := 1) dd_X11_treaty_36 rfl rfl ?_
  refine fs_if_ne (tgt := 46) dd_X11_treaty_37 (by decide) (fun hc => ?_) (fun hc => ?_)
  · replace H := H.1 (bi_1 hc)
    refine fs_aload_n (k0 := 0) (i := 0) dd_X11_treaty_46 rfl rfl ?_
    refine fs_getr (ci := 11) (j := 4) (q := 6) dd_X11_treaty_47 fl_X11_34 ca_2 rfl (Or.inl ⟨_, rfl⟩) rfl (by decide) ?_
    refine fs_aload_n (k0 := 0) (i := 0) dd_X11_treaty_50 rfl rfl ?_
    refine fs_getr (ci := 11) (j := 5) (q := 17) dd_X11_treaty_51 fl_X11_38 ca_2 rfl (Or.inl ⟨_, rfl⟩) rfl (by decide) ?_
    refine fs_callV (y := m_X9_take) (as := [.ref 17]) dd_X11_treaty_54 me_X9_take lk_X11_136 in_X9_take se_X9_take ca_6 rfl rfl rfl (Nat.le_of_ble_eq_true rfl) (Nat.le_of_ble_eq_true rfl) rfl (V_X9_take_6_17 (by omega)  H) (k2_V fun s9 H => ?_)
    refine fs_aload_n (k0 := 0) (i := 0) dd_X11_treaty_57 rfl rfl ?_
    refine fs_getr (ci := 11) (j := 8) (q := 35) dd_X11_treaty_58 fl_X11_63 ca_2 rfl (Or.inl ⟨_, rfl⟩) rfl (by decide) ?_
    refine fs_aload_n (k0 := 0) (i := 0) dd_X11_treaty_61 rfl rfl ?_
    refine fs_getr (ci := 11) (j := 4) (q := 6) dd_X11_treaty_62 fl_X11_34 ca_2 rfl (Or.inl ⟨_, rfl⟩) rfl (by decide) ?_
    refine fs_callV (y := m_X10_begin) (as := [.ref 6]) dd_X11_treaty_65 me_X10_begin lk_X11_140 in_X10_begin se_X10_begin ca_35 rfl rfl rfl (Nat.le_of_ble_eq_true rfl) (Nat.le_of_ble_eq_true rfl) rfl (V_X10_begin_6 (by omega) ca_35 H) (k2_V fun s11 H => ?_)
    refine fs_aload_n (k0 := 0) (i := 0) dd_X11_treaty_68 rfl rfl ?_
    refine fs_getr (ci := 11) (j := 10) (q := 47) dd_X11_treaty_69 fl_X11_73 ca_2 rfl (Or.inl ⟨_, rfl⟩) rfl (by decide) ?_
    refine fs_callV (y := m_X4_forget) (as := []) dd_X11_treaty_72 me_X4_forget lk_X11_143 in_X4_forget se_X4_forget ca_47 rfl rfl rfl (Nat.le_of_ble_eq_true rfl) (Nat.le_of_ble_eq_true rfl) rfl (V_X4_forget (by omega)  H) (k2_V fun s13 H => ?_)
    refine fs_aload_n (k0 := 0) (i := 0) dd_X11_treaty_75 rfl rfl ?_
    refine fs_getr (ci := 11) (j := 13) (q := 184) dd_X11_treaty_76 fl_X11_98 ca_2 rfl (Or.inl ⟨_, rfl⟩) rfl (by decide) ?_
    refine fs_callV (y := m_X6_forget) (as := []) dd_X11_treaty_79 me_X6_forget lk_X11_146 in_X6_forget se_X6_forget ca_184 rfl rfl rfl (Nat.le_of_ble_eq_true rfl) (Nat.le_of_ble_eq_true rfl) rfl (V_X6_forget (by omega)  H) (k2_V fun s15 H => ?_)
    refine fs_aload_n (k0 := 0) (i := 0) dd_X11_treaty_82 rfl rfl ?_
    refine fs_getr (ci := 11) (j := 4) (q := 6) dd_X11_treaty_83 fl_X11_34 ca_2 rfl (Or.inl ⟨_, rfl⟩) rfl (by decide) ?_
    refine fs_geti (ci := 9) (j := 13) dd_X11_treaty_86 fl_X11_147 ca_6 rfl (Or.inl rfl) ?_
    exact fs_iret dd_X11_treaty_89 rfl H
  · replace H := H.2 (bi_0 hc)
    refine fs_aload_n (k0 := 0) (i := 0) dd_X11_treaty_40 rfl rfl ?_
    refine fs_iconst (n := 1) (v := 1) dd_X11_treaty_41 (by decide) ?_
    refine fs_callV (y := m_X11_refuse) (as := [.int 1]) dd_X11_treaty_42 me_X11_refuse lk_X11_118 in_X11_refuse se_X11_refuse ca_2 rfl rfl rfl (Nat.le_of_ble_eq_true rfl) (Nat.le_of_ble_eq_true rfl) rfl (V_X11_refuse (by omega)  H) (k2_I fun r16 s17 H => ?_)
    exact fs_iret dd_X11_treaty_45 rfl H
theorem dd_X5_read_0 : decode m_X5_read.2.1 0 = .ok (.aload_n 0, 1) := by decide +kernel
theorem dd_X5_read_1 : decode m_X5_read.2.1 1 = .ok (.aload_n 1, 1) := by decide +kernel
theorem dd_X5_read_2 : decode m_X5_read.2.1 2 = .ok (.getfield 15, 3) := by decide +kernel
theorem dd_X5_read_5 : decode m_X5_read.2.1 5 = .ok (.iconst 1, 1) := by decide +kernel
theorem dd_X5_read_6 : decode m_X5_read.2.1 6 = .ok (.if_icmp .ne 10, 3) := by decide +kernel
theorem dd_X5_read_9 : decode m_X5_read.2.1 9 = .ok (.aload_n 1, 1) := by decide +kernel
theorem dd_X5_read_10 : decode m_X5_read.2.1 10 = .ok (.getfield 21, 3) := by decide +kernel
theorem dd_X5_read_13 : decode m_X5_read.2.1 13 = .ok (.goto 4, 3) := by decide +kernel
theorem dd_X5_read_16 : decode m_X5_read.2.1 16 = .ok (.iconst (-1), 1) := by decide +kernel
theorem dd_X5_read_17 : decode m_X5_read.2.1 17 = .ok (.putfield 24, 3) := by decide +kernel
theorem dd_X5_read_20 : decode m_X5_read.2.1 20 = .ok (.aload_n 0, 1) := by decide +kernel
theorem dd_X5_read_21 : decode m_X5_read.2.1 21 = .ok (.getfield 24, 3) := by decide +kernel
theorem dd_X5_read_24 : decode m_X5_read.2.1 24 = .ok (.bipush 26, 2) := by decide +kernel
theorem dd_X5_read_26 : decode m_X5_read.2.1 26 = .ok (.if_icmp .lt 12, 3) := by decide +kernel
theorem dd_X5_read_29 : decode m_X5_read.2.1 29 = .ok (.aload_n 0, 1) := by decide +kernel
theorem dd_X5_read_30 : decode m_X5_read.2.1 30 = .ok (.getfield 24, 3) := by decide +kernel
theorem dd_X5_read_33 : decode m_X5_read.2.1 33 = .ok (.bipush 31, 2) := by decide +kernel
theorem dd_X5_read_35 : decode m_X5_read.2.1 35 = .ok (.if_icmp .le 8, 3) := by decide +kernel
theorem dd_X5_read_38 : decode m_X5_read.2.1 38 = .ok (.aload_n 1, 1) := by decide +kernel
theorem dd_X5_read_39 : decode m_X5_read.2.1 39 = .ok (.invokevirtual 27, 3) := by decide +kernel
theorem dd_X5_read_42 : decode m_X5_read.2.1 42 = .ok (.ireturn, 1) := by decide +kernel
theorem dd_X5_read_43 : decode m_X5_read.2.1 43 = .ok (.aload_n 1, 1) := by decide +kernel
theorem dd_X5_read_44 : decode m_X5_read.2.1 44 = .ok (.invokevirtual 31, 3) := by decide +kernel
theorem dd_X5_read_47 : decode m_X5_read.2.1 47 = .ok (.aload_n 2, 1) := by decide +kernel
theorem dd_X5_read_48 : decode m_X5_read.2.1 48 = .ok (.aload_n 0, 1) := by decide +kernel
theorem dd_X5_read_49 : decode m_X5_read.2.1 49 = .ok (.getfield 9, 3) := by decide +kernel
theorem dd_X5_read_52 : decode m_X5_read.2.1 52 = .ok (.iconst 0, 1) := by decide +kernel
theorem dd_X5_read_53 : decode m_X5_read.2.1 53 = .ok (.sipush 1916, 3) := by decide +kernel
theorem dd_X5_read_56 : decode m_X5_read.2.1 56 = .ok (.iconst 1, 1) := by decide +kernel
theorem dd_X5_read_57 : decode m_X5_read.2.1 57 = .ok (.invokevirtual 34, 3) := by decide +kernel
theorem dd_X5_read_60 : decode m_X5_read.2.1 60 = .ok (.aload_n 0, 1) := by decide +kernel
theorem dd_X5_read_61 : decode m_X5_read.2.1 61 = .ok (.getfield 24, 3) := by decide +kernel
theorem dd_X5_read_64 : decode m_X5_read.2.1 64 = .ok (.bipush 28, 2) := by decide +kernel
theorem dd_X5_read_66 : decode m_X5_read.2.1 66 = .ok (.if_icmp .gt 11, 3) := by decide +kernel
theorem dd_X5_read_69 : decode m_X5_read.2.1 69 = .ok (.aload_n 2, 1) := by decide +kernel
theorem dd_X5_read_70 : decode m_X5_read.2.1 70 = .ok (.iconst 0, 1) := by decide +kernel
theorem dd_X5_read_71 : decode m_X5_read.2.1 71 = .ok (.invokevirtual 40, 3) := by decide +kernel
theorem dd_X5_read_74 : decode m_X5_read.2.1 74 = .ok (.goto 8, 3) := by decide +kernel
theorem dd_X5_read_77 : decode m_X5_read.2.1 77 = .ok (.aload_n 2, 1) := by decide +kernel
theorem dd_X5_read_78 : decode m_X5_read.2.1 78 = .ok (.iconst 0, 1) := by decide +kernel
theorem dd_X5_read_79 : decode m_X5_read.2.1 79 = .ok (.invokevirtual 44, 3) := by decide +kernel
theorem dd_X5_read_82 : decode m_X5_read.2.1 82 = .ok (.istore_n 3, 1) := by decide +kernel
theorem dd_X5_read_83 : decode m_X5_read.2.1 83 = .ok (.aload_n 0, 1) := by decide +kernel
theorem dd_X5_read_84 : decode m_X5_read.2.1 84 = .ok (.aload_n 2, 1) := by decide +kernel
theorem dd_X5_read_85 : decode m_X5_read.2.1 85 = .ok (.getfield 47, 3) := by decide +kernel
theorem dd_X5_read_88 : decode m_X5_read.2.1 88 = .ok (.putfield 50, 3) := by decide +kernel
theorem dd_X5_read_91 : decode m_X5_read.2.1 91 = .ok (.iload_n 3, 1) := by decide +kernel
theorem dd_X5_read_92 : decode m_X5_read.2.1 92 = .ok (.ifCond .eq 21, 3) := by decide +kernel
theorem dd_X5_read_95 : decode m_X5_read.2.1 95 = .ok (.aload_n 1, 1) := by decide +kernel
theorem dd_X5_read_96 : decode m_X5_read.2.1 96 = .ok (.getfield 15, 3) := by decide +kernel
theorem dd_X5_read_99 : decode m_X5_read.2.1 99 = .ok (.ifCond .eq 10, 3) := by decide +kernel
theorem dd_X5_read_102 : decode m_X5_read.2.1 102 = .ok (.aload_n 1, 1) := by decide +kernel
theorem dd_X5_read_103 : decode m_X5_read.2.1 103 = .ok (.invokevirtual 27, 3) := by decide +kernel
theorem dd_X5_read_106 : decode m_X5_read.2.1 106 = .ok (.ifCond .eq 7, 3) := by decide +kernel
theorem dd_X5_read_109 : decode m_X5_read.2.1 109 = .ok (.iconst 1, 1) := by decide +kernel
theorem dd_X5_read_110 : decode m_X5_read.2.1 110 = .ok (.goto 4, 3) := by decide +kernel
theorem dd_X5_read_113 : decode m_X5_read.2.1 113 = .ok (.iconst 0, 1) := by decide +kernel
theorem dd_X5_read_114 : decode m_X5_read.2.1 114 = .ok (.ireturn, 1) := by decide +kernel
def nd_X5_read_82   (Q : Bool → fz_s → Prop) (u0 : Bool) (s : fz_s) : Prop :=
  ∀ s1 : fz_s, s1 = si s 28 1 (s.1 5 4) → ((u0 = false → Q false s1) ∧ (u0 = true → (((s1.1 4 3) = 0 → Q true s1) ∧ (¬ (s1.1 4 3) = 0 → wp_X8_failHere  s1 (fun r2 s3 => ((r2 = false → Q false s3) ∧ (r2 = true → Q true s3)))))))
def nd_X5_read_38   (Q : Bool → fz_s → Prop)  (s : fz_s) : Prop :=
  wp_X8_failHere  s (fun r1 s2 => Q r1 s2)
def nd_X5_read_17   (Q : Bool → fz_s → Prop) (u0 : Int32) (s : fz_s) : Prop :=
  ∀ s1 : fz_s, s1 = si s 28 2 u0 → (((s1.1 28 2) < 26 → nd_X5_read_38   Q  s1) ∧ (¬ (s1.1 28 2) < 26 → (((s1.1 28 2) ≤ 31 → wp_X8_next  s1 (fun s3 => wp_X2_begin 29 1632 0 1916 true s3 (fun s5 => ((28 < (s5.1 28 2) → wp_G 64 3 0 s5 (fun r6 s7 => nd_X5_read_82   Q r6 s7)) ∧ (¬ 28 < (s5.1 28 2) → wp_G 64 0 0 s5 (fun r8 s9 => nd_X5_read_82   Q r8 s9)))))) ∧ (¬ (s1.1 28 2) ≤ 31 → nd_X5_read_38   Q  s1))))
def wp_X5_read  (s : fz_s) (Q : Bool → fz_s → Prop) : Prop :=
  ((¬ (s.1 4 3) = 1 → nd_X5_read_17   Q (-1) s) ∧ ((s.1 4 3) = 1 → nd_X5_read_17   Q (s.1 4 5) s))
set_option maxRecDepth 100000 in
set_option maxHeartbeats 4000000 in
theorem V_nd_X5_read_82 {g : fz_G} {l : Launch} {d : Nat} (hD : 76 ≤ d)    {Q : Bool → fz_s → Prop} {u0 : Bool} {s : fz_s}  (H : nd_X5_read_82   Q u0 s) : fs_V g l m_X5_read d true 82 [.ref 28, .ref 4, .ref 5, fz_J] [.int (bi u0)] s (rZ Q) := by
  obtain ⟨d, rfl⟩ : ∃ e, d = e + 1 := ⟨d - 1, by omega⟩
  unfold nd_X5_read_82 at H
  refine fs_istore_n (k0 := 3) (i := 3) dd_X5_read_82 rfl (by decide) ?_
  refine fs_aload_n (k0 := 0) (i := 0) dd_X5_read_83 rfl rfl ?_
  refine fs_aload_n (k0 := 2) (i := 2) dd_X5_read_84 rfl rfl ?_
  refine fs_geti (ci := 2) (j := 4) dd_X5_read_85 fl_X5_47 ca_5 rfl (Or.inl rfl) ?_
  refine fs_puti (ci := 5) (j := 1) dd_X5_read_88 fl_X5_50 (fun _ _ _ h => by cases h; rfl) ca_28 rfl (Or.inl rfl) ?_
  refine fs_tops (fun s1 hs1 => ?_)
  replace H := H s1 hs1
  refine fs_iload_n (k0 := 3) (i := 3) dd_X5_read_91 rfl rfl ?_
  refine fs_if_eq (tgt := 113) dd_X5_read_92 (by decide) (fun hc => ?_) (fun hc => ?_)
  · replace H := H.1 (bi_0 hc)
    refine fs_iconst (n := 0) (v := 0) dd_X5_read_113 (by decide) ?_
    exact fs_zret false dd_X5_read_114 rfl rfl H
  · replace H := H.2 (bi_1 hc)
    refine fs_aload_n (k0 := 1) (i := 1) dd_X5_read_95 rfl rfl ?_
    refine fs_geti (ci := 8) (j := 3) dd_X5_read_96 fl_X5_15 ca_4 rfl (Or.inl rfl) ?_
    refine fs_if_eq (tgt := 109) dd_X5_read_99 (by decide) (fun hc => ?_) (fun hc => ?_)
    · replace H := H.1 hc
      refine fs_iconst (n := 1) (v := 1) dd_X5_read_109 (by decide) ?_
      refine fs_goto (tgt := 114) dd_X5_read_110 (by decide) ?_
      exact fs_zret true dd_X5_read_114 rfl rfl H
    · replace H := H.2 hc
      refine fs_aload_n (k0 := 1) (i := 1) dd_X5_read_102 rfl rfl ?_
      refine fs_callV (y := m_X8_failHere) (as := []) dd_X5_read_103 me_X8_failHere lk_X5_27 in_X8_failHere se_X8_failHere ca_4 rfl rfl rfl (Nat.le_of_ble_eq_true rfl) (Nat.le_of_ble_eq_true rfl) rfl (V_X8_failHere (by omega)  H) (k2_Z fun r2 s3 H => ?_)
      refine fs_if_eq (tgt := 113) dd_X5_read_106 (by decide) (fun hc => ?_) (fun hc => ?_)
      · replace H := H.1 (bi_0 hc)
        refine fs_iconst (n := 0) (v := 0) dd_X5_read_113 (by decide) ?_
        exact fs_zret false dd_X5_read_114 rfl rfl H
      · replace H := H.2 (bi_1 hc)
        refine fs_iconst (n := 1) (v := 1) dd_X5_read_109 (by decide) ?_
        refine fs_goto (tgt := 114) dd_X5_read_110 (by decide) ?_
        exact fs_zret true dd_X5_read_114 rfl rfl H
set_option maxRecDepth 100000 in
set_option maxHeartbeats 4000000 in
theorem V_nd_X5_read_38 {g : fz_G} {l : Launch} {d : Nat} (hD : 76 ≤ d)    {Q : Bool → fz_s → Prop}  {s : fz_s}  (H : nd_X5_read_38   Q  s) : fs_V g l m_X5_read d true 38 [fz_J, .ref 4, fz_J, fz_J] [] s (rZ Q) := by
  obtain ⟨d, rfl⟩ : ∃ e, d = e + 1 := ⟨d - 1, by omega⟩
  unfold nd_X5_read_38 at H
  refine fs_aload_n (k0 := 1) (i := 1) dd_X5_read_38 rfl rfl ?_
  refine fs_callV (y := m_X8_failHere) (as := []) dd_X5_read_39 me_X8_failHere lk_X5_27 in_X8_failHere se_X8_failHere ca_4 rfl rfl rfl (Nat.le_of_ble_eq_true rfl) (Nat.le_of_ble_eq_true rfl) rfl (V_X8_failHere (by omega)  H) (k2_Z fun r1 s2 H => ?_)
  exact fs_zret r1 dd_X5_read_42 rfl rfl H
set_option maxRecDepth 100000 in
set_option maxHeartbeats 4000000 in
theorem V_nd_X5_read_17 {g : fz_G} {l : Launch} {d : Nat} (hD : 76 ≤ d)    {Q : Bool → fz_s → Prop} {u0 : Int32} {s : fz_s}  (H : nd_X5_read_17   Q u0 s) : fs_V g l m_X5_read d true 17 [.ref 28, .ref 4, .ref 5, fz_J] [.int u0, .ref 28] s (rZ Q) := by
  obtain ⟨d, rfl⟩ : ∃ e, d = e + 1 := ⟨d - 1, by omega⟩
  unfold nd_X5_read_17 at H
  refine fs_puti (ci := 5) (j := 2) dd_X5_read_17 fl_X5_24 (fun _ _ _ h => by cases h; rfl) ca_28 rfl (Or.inl rfl) ?_
  refine fs_tops (fun s1 hs1 => ?_)
  replace H := H s1 hs1
  refine fs_aload_n (k0 := 0) (i := 0) dd_X5_read_20 rfl rfl ?_
  refine fs_geti (ci := 5) (j := 2) dd_X5_read_21 fl_X5_24 ca_28 rfl (Or.inl rfl) ?_
  refine fs_bipush (n := 26) (v := 26) dd_X5_read_24 (by decide) ?_
  refine fs_icmp_lt (tgt := 38) dd_X5_read_26 (by decide) (fun hc => ?_) (fun hc => ?_)
  · replace H := H.1 hc
    refine fs_weak (ls2 := [fz_J, .ref 4, fz_J, fz_J]) (fz_le_j (fz_le_e (fz_le_j (fz_le_j fz_le_n)))) ?_
    exact V_nd_X5_read_38 hD    H
  · replace H := H.2 hc
    refine fs_aload_n (k0 := 0) (i := 0) dd_X5_read_29 rfl rfl ?_
    refine fs_geti (ci := 5) (j := 2) dd_X5_read_30 fl_X5_24 ca_28 rfl (Or.inl rfl) ?_
    refine fs_bipush (n := 31) (v := 31) dd_X5_read_33 (by decide) ?_
    refine fs_icmp_le (tgt := 43) dd_X5_read_35 (by decide) (fun hc => ?_) (fun hc => ?_)
    · replace H := H.1 hc
      refine fs_aload_n (k0 := 1) (i := 1) dd_X5_read_43 rfl rfl ?_
      refine fs_callV (y := m_X8_next) (as := []) dd_X5_read_44 me_X8_next lk_X5_31 in_X8_next se_X8_next ca_4 rfl rfl rfl (Nat.le_of_ble_eq_true rfl) (Nat.le_of_ble_eq_true rfl) rfl (V_X8_next (by omega)  H) (k2_V fun s3 H => ?_)
      refine fs_aload_n (k0 := 2) (i := 2) dd_X5_read_47 rfl rfl ?_
      refine fs_aload_n (k0 := 0) (i := 0) dd_X5_read_48 rfl rfl ?_
      refine fs_getr (ci := 5) (j := 0) (q := 29) dd_X5_read_49 fl_X5_9 ca_28 rfl (Or.inr ⟨_, rfl⟩) rfl (by decide) ?_
      refine fs_iconst (n := 0) (v := 0) dd_X5_read_52 (by decide) ?_
      refine fs_sipush (n := 1916) (v := 1916) dd_X5_read_53 (by decide) ?_
      refine fs_iconst (n := 1) (v := 1) dd_X5_read_56 (by decide) ?_
      refine fs_callV (y := m_X2_begin) (as := [.ref 29, .int 0, .int 1916, .int 1]) dd_X5_read_57 me_X2_begin lk_X5_34 in_X2_begin se_X2_begin ca_5 rfl rfl rfl (Nat.le_of_ble_eq_true rfl) (Nat.le_of_ble_eq_true rfl) rfl (V_X2_begin (by omega) ca_29 H) (k2_V fun s5 H => ?_)
      refine fs_aload_n (k0 := 0) (i := 0) dd_X5_read_60 rfl rfl ?_
      refine fs_geti (ci := 5) (j := 2) dd_X5_read_61 fl_X5_24 ca_28 rfl (Or.inl rfl) ?_
      refine fs_bipush (n := 28) (v := 28) dd_X5_read_64 (by decide) ?_
      refine fs_icmp_gt (tgt := 77) dd_X5_read_66 (by decide) (fun hc => ?_) (fun hc => ?_)
      · replace H := H.1 hc
        refine fs_aload_n (k0 := 2) (i := 2) dd_X5_read_77 rfl rfl ?_
        refine fs_iconst (n := 0) (v := 0) dd_X5_read_78 (by decide) ?_
        refine fs_callV (y := m_X2_readSum) (as := [.int 0]) dd_X5_read_79 me_X2_readSum lk_X5_44 in_X2_readSum se_X2_readSum ca_5 rfl rfl rfl (Nat.le_of_ble_eq_true rfl) (Nat.le_of_ble_eq_true rfl) rfl (V_G 64 3 (by omega) H) (k2_Z fun r6 s7 H => ?_)
        refine fs_weak (ls2 := [.ref 28, .ref 4, .ref 5, fz_J]) (fz_le_e (fz_le_e (fz_le_e (fz_le_j fz_le_n)))) ?_
        exact V_nd_X5_read_82 hD    H
      · replace H := H.2 hc
        refine fs_aload_n (k0 := 2) (i := 2) dd_X5_read_69 rfl rfl ?_
        refine fs_iconst (n := 0) (v := 0) dd_X5_read_70 (by decide) ?_
        refine fs_callV (y := m_X2_readTest) (as := [.int 0]) dd_X5_read_71 me_X2_readTest lk_X5_40 in_X2_readTest se_X2_readTest ca_5 rfl rfl rfl (Nat.le_of_ble_eq_true rfl) (Nat.le_of_ble_eq_true rfl) rfl (V_G 64 0 (by omega) H) (k2_Z fun r8 s9 H => ?_)
        refine fs_goto (tgt := 82) dd_X5_read_74 (by decide) ?_
        refine fs_weak (ls2 := [.ref 28, .ref 4, .ref 5, fz_J]) (fz_le_e (fz_le_e (fz_le_e (fz_le_j fz_le_n)))) ?_
        exact V_nd_X5_read_82 hD    H
    · replace H := H.2 hc
      refine fs_weak (ls2 := [fz_J, .ref 4, fz_J, fz_J]) (fz_le_j (fz_le_e (fz_le_j (fz_le_j fz_le_n)))) ?_
      exact V_nd_X5_read_38 hD    H
set_option maxRecDepth 100000 in
set_option maxHeartbeats 4000000 in
theorem V_X5_read {g : fz_G} {l : Launch} {d : Nat} (hD : 76 ≤ d)   {s : fz_s} {Q : Bool → fz_s → Prop} (H : wp_X5_read  s Q) : fs_V g l m_X5_read d true 0 (fz_en [.ref 28, .ref 4, .ref 5] 4) [] s (rZ Q) := by
  obtain ⟨d, rfl⟩ : ∃ e, d = e + 1 := ⟨d - 1, by omega⟩
  unfold wp_X5_read at H
  refine fs_aload_n (k0 := 0) (i := 0) dd_X5_read_0 rfl rfl ?_
  refine fs_aload_n (k0 := 1) (i := 1) dd_X5_read_1 rfl rfl ?_
  refine fs_geti (ci := 8) (j := 3) dd_X5_read_2 fl_X5_15 ca_4 rfl (Or.inl rfl) ?_
  refine fs_iconst (n := 1) (v := 1) dd_X5_read_5 (by decide) ?_
  refine fs_icmp_ne (tgt := 16) dd_X5_read_6 (by decide) (fun hc => ?_) (fun hc => ?_)
  · replace H := H.1 hc
    refine fs_iconst (n := -1) (v := -1) dd_X5_read_16 (by decide) ?_
    refine fs_weak (ls2 := [.ref 28, .ref 4, .ref 5, fz_J]) (fz_le_e (fz_le_e (fz_le_e (fz_le_j fz_le_n)))) ?_
    exact V_nd_X5_read_17 hD    H
  · replace H := H.2 hc
    refine fs_aload_n (k0 := 1) (i := 1) dd_X5_read_9 rfl rfl ?_
    refine fs_geti (ci := 8) (j := 5) dd_X5_read_10 fl_X5_21 ca_4 rfl (Or.inl rfl) ?_
    refine fs_goto (tgt := 17) dd_X5_read_13 (by decide) ?_
    refine fs_weak (ls2 := [.ref 28, .ref 4, .ref 5, fz_J]) (fz_le_e (fz_le_e (fz_le_e (fz_le_j fz_le_n)))) ?_
    exact V_nd_X5_read_17 hD    H
theorem dd_X11_ask_0 : decode m_X11_ask.2.1 0 = .ok (.aload_n 0, 1) := by decide +kernel
theorem dd_X11_ask_1 : decode m_X11_ask.2.1 1 = .ok (.getfield 115, 3) := by decide +kernel
theorem dd_X11_ask_4 : decode m_X11_ask.2.1 4 = .ok (.istore_n 1, 1) := by decide +kernel
theorem dd_X11_ask_5 : decode m_X11_ask.2.1 5 = .ok (.aload_n 0, 1) := by decide +kernel
theorem dd_X11_ask_6 : decode m_X11_ask.2.1 6 = .ok (.iconst 0, 1) := by decide +kernel
theorem dd_X11_ask_7 : decode m_X11_ask.2.1 7 = .ok (.putfield 115, 3) := by decide +kernel
theorem dd_X11_ask_10 : decode m_X11_ask.2.1 10 = .ok (.aload_n 0, 1) := by decide +kernel
theorem dd_X11_ask_11 : decode m_X11_ask.2.1 11 = .ok (.invokevirtual 265, 3) := by decide +kernel
theorem dd_X11_ask_14 : decode m_X11_ask.2.1 14 = .ok (.ifCond .eq 7, 3) := by decide +kernel
theorem dd_X11_ask_17 : decode m_X11_ask.2.1 17 = .ok (.ldc2_w 236, 3) := by decide +kernel
theorem dd_X11_ask_20 : decode m_X11_ask.2.1 20 = .ok (.lreturn, 1) := by decide +kernel
theorem dd_X11_ask_21 : decode m_X11_ask.2.1 21 = .ok (.aload_n 0, 1) := by decide +kernel
theorem dd_X11_ask_22 : decode m_X11_ask.2.1 22 = .ok (.getfield 18, 3) := by decide +kernel
theorem dd_X11_ask_25 : decode m_X11_ask.2.1 25 = .ok (.iload_n 1, 1) := by decide +kernel
theorem dd_X11_ask_26 : decode m_X11_ask.2.1 26 = .ok (.invokevirtual 126, 3) := by decide +kernel
theorem dd_X11_ask_29 : decode m_X11_ask.2.1 29 = .ok (.aload_n 0, 1) := by decide +kernel
theorem dd_X11_ask_30 : decode m_X11_ask.2.1 30 = .ok (.getfield 44, 3) := by decide +kernel
theorem dd_X11_ask_33 : decode m_X11_ask.2.1 33 = .ok (.aload_n 0, 1) := by decide +kernel
theorem dd_X11_ask_34 : decode m_X11_ask.2.1 34 = .ok (.getfield 18, 3) := by decide +kernel
theorem dd_X11_ask_37 : decode m_X11_ask.2.1 37 = .ok (.aload_n 0, 1) := by decide +kernel
theorem dd_X11_ask_38 : decode m_X11_ask.2.1 38 = .ok (.getfield 27, 3) := by decide +kernel
theorem dd_X11_ask_41 : decode m_X11_ask.2.1 41 = .ok (.invokevirtual 353, 3) := by decide +kernel
theorem dd_X11_ask_44 : decode m_X11_ask.2.1 44 = .ok (.istore_n 2, 1) := by decide +kernel
theorem dd_X11_ask_45 : decode m_X11_ask.2.1 45 = .ok (.aload_n 0, 1) := by decide +kernel
theorem dd_X11_ask_46 : decode m_X11_ask.2.1 46 = .ok (.invokevirtual 133, 3) := by decide +kernel
theorem dd_X11_ask_49 : decode m_X11_ask.2.1 49 = .ok (.iload_n 2, 1) := by decide +kernel
theorem dd_X11_ask_50 : decode m_X11_ask.2.1 50 = .ok (.ifCond .eq 21, 3) := by decide +kernel
theorem dd_X11_ask_53 : decode m_X11_ask.2.1 53 = .ok (.aload_n 0, 1) := by decide +kernel
theorem dd_X11_ask_54 : decode m_X11_ask.2.1 54 = .ok (.getfield 44, 3) := by decide +kernel
theorem dd_X11_ask_57 : decode m_X11_ask.2.1 57 = .ok (.aload_n 0, 1) := by decide +kernel
theorem dd_X11_ask_58 : decode m_X11_ask.2.1 58 = .ok (.getfield 56, 3) := by decide +kernel
theorem dd_X11_ask_61 : decode m_X11_ask.2.1 61 = .ok (.aload_n 0, 1) := by decide +kernel
theorem dd_X11_ask_62 : decode m_X11_ask.2.1 62 = .ok (.getfield 63, 3) := by decide +kernel
theorem dd_X11_ask_65 : decode m_X11_ask.2.1 65 = .ok (.invokevirtual 354, 3) := by decide +kernel
theorem dd_X11_ask_68 : decode m_X11_ask.2.1 68 = .ok (.goto 6, 3) := by decide +kernel
theorem dd_X11_ask_71 : decode m_X11_ask.2.1 71 = .ok (.ldc2_w 236, 3) := by decide +kernel
theorem dd_X11_ask_74 : decode m_X11_ask.2.1 74 = .ok (.lreturn, 1) := by decide +kernel
def wp_X11_ask  (s : fz_s) (Q : Int64 → fz_s → Prop) : Prop :=
  ∀ x1 : Int32, x1 = (s.1 2 1) → ∀ s2 : fz_s, s2 = si s 2 1 0 → wp_X11_noTreaty  s2 (fun r3 s4 => ((r3 = false → wp_X8_open x1 s4 (fun s6 => wp_X5_read  s6 (fun r7 s8 => wp_X11_takeFault  s8 (fun s10 => ((r7 = false → Q (-1000000000000000) s10) ∧ (r7 = true → wp_X5_answer 35 s10 (fun r11 s12 => Q r11 s12))))))) ∧ (r3 = true → Q (-1000000000000000) s4)))
set_option maxRecDepth 100000 in
set_option maxHeartbeats 4000000 in
theorem V_X11_ask {g : fz_G} {l : Launch} {d : Nat} (hD : 77 ≤ d)   {s : fz_s} {Q : Int64 → fz_s → Prop} (H : wp_X11_ask  s Q) : fs_V g l m_X11_ask d true 0 (fz_en [.ref 2] 3) [] s (rL Q) := by
  obtain ⟨d, rfl⟩ : ∃ e, d = e + 1 := ⟨d - 1, by omega⟩
  unfold wp_X11_ask at H
  refine fs_aload_n (k0 := 0) (i := 0) dd_X11_ask_0 rfl rfl ?_
  refine fs_geti (ci := 11) (j := 1) dd_X11_ask_1 fl_X11_115 ca_2 rfl (Or.inl rfl) ?_
  refine fs_topi (fun x1 hx1 => ?_)
  replace H := H x1 hx1
  refine fs_istore_n (k0 := 1) (i := 1) dd_X11_ask_4 rfl (by decide) ?_
  refine fs_aload_n (k0 := 0) (i := 0) dd_X11_ask_5 rfl rfl ?_
  refine fs_iconst (n := 0) (v := 0) dd_X11_ask_6 (by decide) ?_
  refine fs_puti (ci := 11) (j := 1) dd_X11_ask_7 fl_X11_115 (fun _ _ _ h => by cases h; rfl) ca_2 rfl (Or.inl rfl) ?_
  refine fs_tops (fun s2 hs2 => ?_)
  replace H := H s2 hs2
  refine fs_aload_n (k0 := 0) (i := 0) dd_X11_ask_10 rfl rfl ?_
  refine fs_callV (y := m_X11_noTreaty) (as := []) dd_X11_ask_11 me_X11_noTreaty lk_X11_265 in_X11_noTreaty se_X11_noTreaty ca_2 rfl rfl rfl (Nat.le_of_ble_eq_true rfl) (Nat.le_of_ble_eq_true rfl) rfl (V_X11_noTreaty (by omega)  H) (k2_Z fun r3 s4 H => ?_)
  refine fs_if_eq (tgt := 21) dd_X11_ask_14 (by decide) (fun hc => ?_) (fun hc => ?_)
  · replace H := H.1 (bi_0 hc)
    refine fs_aload_n (k0 := 0) (i := 0) dd_X11_ask_21 rfl rfl ?_
    refine fs_getr (ci := 11) (j := 2) (q := 4) dd_X11_ask_22 fl_X11_18 ca_2 rfl (Or.inl ⟨_, rfl⟩) rfl (by decide) ?_
    refine fs_iload_n (k0 := 1) (i := 1) dd_X11_ask_25 rfl rfl ?_
    refine fs_callV (y := m_X8_open) (as := [.int x1]) dd_X11_ask_26 me_X8_open lk_X11_126 in_X8_open se_X8_open ca_4 rfl rfl rfl (Nat.le_of_ble_eq_true rfl) (Nat.le_of_ble_eq_true rfl) rfl (V_X8_open (by omega)  H) (k2_V fun s6 H => ?_)
    refine fs_aload_n (k0 := 0) (i := 0) dd_X11_ask_29 rfl rfl ?_
    refine fs_getr (ci := 11) (j := 6) (q := 28) dd_X11_ask_30 fl_X11_44 ca_2 rfl (Or.inl ⟨_, rfl⟩) rfl (by decide) ?_
    refine fs_aload_n (k0 := 0) (i := 0) dd_X11_ask_33 rfl rfl ?_
    refine fs_getr (ci := 11) (j := 2) (q := 4) dd_X11_ask_34 fl_X11_18 ca_2 rfl (Or.inl ⟨_, rfl⟩) rfl (by decide) ?_
    refine fs_aload_n (k0 := 0) (i := 0) dd_X11_ask_37 rfl rfl ?_
    refine fs_getr (ci := 11) (j := 3) (q := 5) dd_X11_ask_38 fl_X11_27 ca_2 rfl (Or.inl ⟨_, rfl⟩) rfl (by decide) ?_
    refine fs_callV (y := m_X5_read) (as := [.ref 4, .ref 5]) dd_X11_ask_41 me_X5_read lk_X11_353 in_X5_read se_X5_read ca_28 rfl rfl rfl (Nat.le_of_ble_eq_true rfl) (Nat.le_of_ble_eq_true rfl) rfl (V_X5_read (by omega)  H) (k2_Z fun r7 s8 H => ?_)
    refine fs_istore_n (k0 := 2) (i := 2) dd_X11_ask_44 rfl (by decide) ?_
    refine fs_aload_n (k0 := 0) (i := 0) dd_X11_ask_45 rfl rfl ?_
    refine fs_callV (y := m_X11_takeFault) (as := []) dd_X11_ask_46 me_X11_takeFault lk_X11_133 in_X11_takeFault se_X11_takeFault ca_2 rfl rfl rfl (Nat.le_of_ble_eq_true rfl) (Nat.le_of_ble_eq_true rfl) rfl (V_X11_takeFault (by omega)  H) (k2_V fun s10 H => ?_)
    refine fs_iload_n (k0 := 2) (i := 2) dd_X11_ask_49 rfl rfl ?_
    refine fs_if_eq (tgt := 71) dd_X11_ask_50 (by decide) (fun hc => ?_) (fun hc => ?_)
    · replace H := H.1 (bi_0 hc)
      refine fs_ldc2 (idx := 236) (v := -1000000000000000) dd_X11_ask_71 cl_X11_236 ?_
      exact fs_lret dd_X11_ask_74 rfl H
    · replace H := H.2 (bi_1 hc)
      refine fs_aload_n (k0 := 0) (i := 0) dd_X11_ask_53 rfl rfl ?_
      refine fs_getr (ci := 11) (j := 6) (q := 28) dd_X11_ask_54 fl_X11_44 ca_2 rfl (Or.inl ⟨_, rfl⟩) rfl (by decide) ?_
      refine fs_aload_n (k0 := 0) (i := 0) dd_X11_ask_57 rfl rfl ?_
      refine fs_getr (ci := 11) (j := 7) (q := 30) dd_X11_ask_58 fl_X11_56 ca_2 rfl (Or.inl ⟨_, rfl⟩) rfl (by decide) ?_
      refine fs_aload_n (k0 := 0) (i := 0) dd_X11_ask_61 rfl rfl ?_
      refine fs_getr (ci := 11) (j := 8) (q := 35) dd_X11_ask_62 fl_X11_63 ca_2 rfl (Or.inl ⟨_, rfl⟩) rfl (by decide) ?_
      refine fs_callV (y := m_X5_answer) (as := [.ref 30, .ref 35]) dd_X11_ask_65 me_X5_answer lk_X11_354 in_X5_answer se_X5_answer ca_28 rfl rfl rfl (Nat.le_of_ble_eq_true rfl) (Nat.le_of_ble_eq_true rfl) rfl (V_X5_answer (by omega) ca_35 H) (k2_L fun r11 s12 H => ?_)
      refine fs_goto (tgt := 74) dd_X11_ask_68 (by decide) ?_
      exact fs_lret dd_X11_ask_74 rfl H
  · replace H := H.2 (bi_1 hc)
    refine fs_ldc2 (idx := 236) (v := -1000000000000000) dd_X11_ask_17 cl_X11_236 ?_
    exact fs_lret dd_X11_ask_20 rfl H

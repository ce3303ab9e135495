theorem dd_X0_ruled_0 : decode m_X0_ruled.2.1 0 = .ok (.aload_n 0, 1) := by decide +kernel
theorem dd_X0_ruled_1 : decode m_X0_ruled.2.1 1 = .ok (.getfield 19, 3) := by decide +kernel
theorem dd_X0_ruled_4 : decode m_X0_ruled.2.1 4 = .ok (.getfield 23, 3) := by decide +kernel
theorem dd_X0_ruled_7 : decode m_X0_ruled.2.1 7 = .ok (.astore 5, 2) := by decide +kernel
theorem dd_X0_ruled_9 : decode m_X0_ruled.2.1 9 = .ok (.aload 5, 2) := by decide +kernel
theorem dd_X0_ruled_11 : decode m_X0_ruled.2.1 11 = .ok (.iconst 0, 1) := by decide +kernel
theorem dd_X0_ruled_12 : decode m_X0_ruled.2.1 12 = .ok (.aload_n 1, 1) := by decide +kernel
theorem dd_X0_ruled_13 : decode m_X0_ruled.2.1 13 = .ok (.getfield 28, 3) := by decide +kernel
theorem dd_X0_ruled_16 : decode m_X0_ruled.2.1 16 = .ok (.iload 4, 2) := by decide +kernel
theorem dd_X0_ruled_18 : decode m_X0_ruled.2.1 18 = .ok (.iaload, 1) := by decide +kernel
theorem dd_X0_ruled_19 : decode m_X0_ruled.2.1 19 = .ok (.iastore, 1) := by decide +kernel
theorem dd_X0_ruled_20 : decode m_X0_ruled.2.1 20 = .ok (.aload 5, 2) := by decide +kernel
theorem dd_X0_ruled_22 : decode m_X0_ruled.2.1 22 = .ok (.iconst 1, 1) := by decide +kernel
theorem dd_X0_ruled_23 : decode m_X0_ruled.2.1 23 = .ok (.aload_n 1, 1) := by decide +kernel
theorem dd_X0_ruled_24 : decode m_X0_ruled.2.1 24 = .ok (.getfield 33, 3) := by decide +kernel
theorem dd_X0_ruled_27 : decode m_X0_ruled.2.1 27 = .ok (.iload 4, 2) := by decide +kernel
theorem dd_X0_ruled_29 : decode m_X0_ruled.2.1 29 = .ok (.iaload, 1) := by decide +kernel
theorem dd_X0_ruled_30 : decode m_X0_ruled.2.1 30 = .ok (.iastore, 1) := by decide +kernel
theorem dd_X0_ruled_31 : decode m_X0_ruled.2.1 31 = .ok (.aload 5, 2) := by decide +kernel
theorem dd_X0_ruled_33 : decode m_X0_ruled.2.1 33 = .ok (.iconst 2, 1) := by decide +kernel
theorem dd_X0_ruled_34 : decode m_X0_ruled.2.1 34 = .ok (.aload_n 1, 1) := by decide +kernel
theorem dd_X0_ruled_35 : decode m_X0_ruled.2.1 35 = .ok (.getfield 36, 3) := by decide +kernel
theorem dd_X0_ruled_38 : decode m_X0_ruled.2.1 38 = .ok (.iastore, 1) := by decide +kernel
theorem dd_X0_ruled_39 : decode m_X0_ruled.2.1 39 = .ok (.aload 5, 2) := by decide +kernel
theorem dd_X0_ruled_41 : decode m_X0_ruled.2.1 41 = .ok (.iconst 3, 1) := by decide +kernel
theorem dd_X0_ruled_42 : decode m_X0_ruled.2.1 42 = .ok (.aload_n 1, 1) := by decide +kernel
theorem dd_X0_ruled_43 : decode m_X0_ruled.2.1 43 = .ok (.getfield 40, 3) := by decide +kernel
theorem dd_X0_ruled_46 : decode m_X0_ruled.2.1 46 = .ok (.iload_n 3, 1) := by decide +kernel
theorem dd_X0_ruled_47 : decode m_X0_ruled.2.1 47 = .ok (.iaload, 1) := by decide +kernel
theorem dd_X0_ruled_48 : decode m_X0_ruled.2.1 48 = .ok (.iastore, 1) := by decide +kernel
theorem dd_X0_ruled_49 : decode m_X0_ruled.2.1 49 = .ok (.aload 5, 2) := by decide +kernel
theorem dd_X0_ruled_51 : decode m_X0_ruled.2.1 51 = .ok (.iconst 4, 1) := by decide +kernel
theorem dd_X0_ruled_52 : decode m_X0_ruled.2.1 52 = .ok (.aload_n 0, 1) := by decide +kernel
theorem dd_X0_ruled_53 : decode m_X0_ruled.2.1 53 = .ok (.getfield 15, 3) := by decide +kernel
theorem dd_X0_ruled_56 : decode m_X0_ruled.2.1 56 = .ok (.getfield 43, 3) := by decide +kernel
theorem dd_X0_ruled_59 : decode m_X0_ruled.2.1 59 = .ok (.iload_n 3, 1) := by decide +kernel
theorem dd_X0_ruled_60 : decode m_X0_ruled.2.1 60 = .ok (.iaload, 1) := by decide +kernel
theorem dd_X0_ruled_61 : decode m_X0_ruled.2.1 61 = .ok (.iastore, 1) := by decide +kernel
theorem dd_X0_ruled_62 : decode m_X0_ruled.2.1 62 = .ok (.aload 5, 2) := by decide +kernel
theorem dd_X0_ruled_64 : decode m_X0_ruled.2.1 64 = .ok (.iconst 5, 1) := by decide +kernel
theorem dd_X0_ruled_65 : decode m_X0_ruled.2.1 65 = .ok (.aload_n 0, 1) := by decide +kernel
theorem dd_X0_ruled_66 : decode m_X0_ruled.2.1 66 = .ok (.getfield 15, 3) := by decide +kernel
theorem dd_X0_ruled_69 : decode m_X0_ruled.2.1 69 = .ok (.getfield 48, 3) := by decide +kernel
theorem dd_X0_ruled_72 : decode m_X0_ruled.2.1 72 = .ok (.iload_n 3, 1) := by decide +kernel
theorem dd_X0_ruled_73 : decode m_X0_ruled.2.1 73 = .ok (.iaload, 1) := by decide +kernel
theorem dd_X0_ruled_74 : decode m_X0_ruled.2.1 74 = .ok (.iastore, 1) := by decide +kernel
theorem dd_X0_ruled_75 : decode m_X0_ruled.2.1 75 = .ok (.aload 5, 2) := by decide +kernel
theorem dd_X0_ruled_77 : decode m_X0_ruled.2.1 77 = .ok (.bipush 6, 2) := by decide +kernel
theorem dd_X0_ruled_79 : decode m_X0_ruled.2.1 79 = .ok (.aload_n 1, 1) := by decide +kernel
theorem dd_X0_ruled_80 : decode m_X0_ruled.2.1 80 = .ok (.getfield 51, 3) := by decide +kernel
theorem dd_X0_ruled_83 : decode m_X0_ruled.2.1 83 = .ok (.iload_n 3, 1) := by decide +kernel
theorem dd_X0_ruled_84 : decode m_X0_ruled.2.1 84 = .ok (.iaload, 1) := by decide +kernel
theorem dd_X0_ruled_85 : decode m_X0_ruled.2.1 85 = .ok (.iastore, 1) := by decide +kernel
theorem dd_X0_ruled_86 : decode m_X0_ruled.2.1 86 = .ok (.aload_n 0, 1) := by decide +kernel
theorem dd_X0_ruled_87 : decode m_X0_ruled.2.1 87 = .ok (.getfield 19, 3) := by decide +kernel
theorem dd_X0_ruled_90 : decode m_X0_ruled.2.1 90 = .ok (.aload_n 0, 1) := by decide +kernel
theorem dd_X0_ruled_91 : decode m_X0_ruled.2.1 91 = .ok (.getfield 15, 3) := by decide +kernel
theorem dd_X0_ruled_94 : decode m_X0_ruled.2.1 94 = .ok (.getfield 54, 3) := by decide +kernel
theorem dd_X0_ruled_97 : decode m_X0_ruled.2.1 97 = .ok (.aload_n 0, 1) := by decide +kernel
theorem dd_X0_ruled_98 : decode m_X0_ruled.2.1 98 = .ok (.getfield 15, 3) := by decide +kernel
theorem dd_X0_ruled_101 : decode m_X0_ruled.2.1 101 = .ok (.getfield 57, 3) := by decide +kernel
theorem dd_X0_ruled_104 : decode m_X0_ruled.2.1 104 = .ok (.iload_n 2, 1) := by decide +kernel
theorem dd_X0_ruled_105 : decode m_X0_ruled.2.1 105 = .ok (.iaload, 1) := by decide +kernel
theorem dd_X0_ruled_106 : decode m_X0_ruled.2.1 106 = .ok (.aload_n 0, 1) := by decide +kernel
theorem dd_X0_ruled_107 : decode m_X0_ruled.2.1 107 = .ok (.getfield 15, 3) := by decide +kernel
theorem dd_X0_ruled_110 : decode m_X0_ruled.2.1 110 = .ok (.getfield 60, 3) := by decide +kernel
theorem dd_X0_ruled_113 : decode m_X0_ruled.2.1 113 = .ok (.iload_n 2, 1) := by decide +kernel
theorem dd_X0_ruled_114 : decode m_X0_ruled.2.1 114 = .ok (.iaload, 1) := by decide +kernel
theorem dd_X0_ruled_115 : decode m_X0_ruled.2.1 115 = .ok (.invokevirtual 63, 3) := by decide +kernel
theorem dd_X0_ruled_118 : decode m_X0_ruled.2.1 118 = .ok (.ireturn, 1) := by decide +kernel
def wp_X0_ruled (w0 : Nat) (p1 : Int32) (p2 : Int32) (p3 : Int32) (s : fz_s) (Q : Int32 → fz_s → Prop) : Prop :=
  vp_in p3 2 ∧ ∀ s1 : fz_s, s1 = si s 32 (0 : Int32).toNatClampNeg (s.1 (w0 + 1 + 0) p3.toNatClampNeg) → vp_in p3 2 ∧ ∀ s2 : fz_s, s2 = si s1 32 (1 : Int32).toNatClampNeg (s1.1 (w0 + 1 + 1) p3.toNatClampNeg) → ∀ s3 : fz_s, s3 = si s2 32 (2 : Int32).toNatClampNeg (s2.1 w0 5) → vp_in p2 8 ∧ ∀ s4 : fz_s, s4 = si s3 32 (3 : Int32).toNatClampNeg (s3.1 (w0 + 1 + 2) p2.toNatClampNeg) → vp_in p2 8 ∧ ∀ s5 : fz_s, s5 = si s4 32 (4 : Int32).toNatClampNeg (s4.1 12 p2.toNatClampNeg) → vp_in p2 8 ∧ ∀ s6 : fz_s, s6 = si s5 32 (5 : Int32).toNatClampNeg (s5.1 13 p2.toNatClampNeg) → vp_in p2 8 ∧ ∀ s7 : fz_s, s7 = si s6 32 (6 : Int32).toNatClampNeg (s6.1 (w0 + 1 + 4) p2.toNatClampNeg) → vp_in p1 5 ∧ vp_in p1 5 ∧ wp_X7_value 14 1632 (s7.1 15 p1.toNatClampNeg) (s7.1 16 p1.toNatClampNeg) s7 (fun r8 s9 => Q r8 s9)
set_option maxRecDepth 100000 in
set_option maxHeartbeats 4000000 in
theorem V_X0_ruled {g : fz_G} {l : Launch} {d : Nat} (hD : 3 ≤ d) {w0 : Nat} {p1 : Int32} {p2 : Int32} {p3 : Int32} (hw0 : fz_at true w0 10 7) {s : fz_s} {Q : Int32 → fz_s → Prop} (H : wp_X0_ruled w0 p1 p2 p3 s Q) : fs_V g l m_X0_ruled d true 0 (fz_en [.ref 30, .ref w0, .int p1, .int p2, .int p3] 6) [] s (rI Q) := by
  obtain ⟨d, rfl⟩ : ∃ e, d = e + 1 := ⟨d - 1, by omega⟩
  unfold wp_X0_ruled at H
  refine fs_aload_n (k0 := 0) (i := 0) dd_X0_ruled_0 rfl rfl ?_
  refine fs_getr (ci := 0) (j := 1) (q := 31) dd_X0_ruled_1 fl_X0_19 ca_30 rfl (Or.inl ⟨_, rfl⟩) rfl (by decide) ?_
  refine fs_getr (ci := 7) (j := 0) (q := 32) dd_X0_ruled_4 fl_X0_23 ca_31 rfl (Or.inr ⟨_, rfl⟩) rfl (by decide) ?_
  refine fs_astore (i := 5) dd_X0_ruled_7 (by decide) ?_
  refine fs_aload (i := 5) dd_X0_ruled_9 rfl ?_
  refine fs_iconst (n := 0) (v := 0) dd_X0_ruled_11 (by decide) ?_
  refine fs_aload_n (k0 := 1) (i := 1) dd_X0_ruled_12 rfl rfl ?_
  refine fs_getr (ci := 10) (j := 0) (q := (w0 + 1 + 0)) dd_X0_ruled_13 fl_X0_28 hw0 rfl (Or.inr ⟨_, rfl⟩) ((fz_W hw0).1 0 (by decide)) (fun q => (fz_W hw0).2.2.2 q.1) ?_
  refine fs_iload (i := 4) dd_X0_ruled_16 rfl ?_
  have hb := H.1
  replace H := H.2
  refine fs_iald dd_X0_ruled_18 ((fz_W hw0).2.1 0 (by decide)) hb ?_
  refine fs_iast dd_X0_ruled_19 ca_32 (vp_in_nI (n := 0) (by decide) (by decide)) ?_
  refine fs_tops (fun s1 hs1 => ?_)
  replace H := H s1 hs1
  refine fs_aload (i := 5) dd_X0_ruled_20 rfl ?_
  refine fs_iconst (n := 1) (v := 1) dd_X0_ruled_22 (by decide) ?_
  refine fs_aload_n (k0 := 1) (i := 1) dd_X0_ruled_23 rfl rfl ?_
  refine fs_getr (ci := 10) (j := 1) (q := (w0 + 1 + 1)) dd_X0_ruled_24 fl_X0_33 hw0 rfl (Or.inr ⟨_, rfl⟩) ((fz_W hw0).1 1 (by decide)) (fun q => (fz_W hw0).2.2.2 q.1) ?_
  refine fs_iload (i := 4) dd_X0_ruled_27 rfl ?_
  have hb := H.1
  replace H := H.2
  refine fs_iald dd_X0_ruled_29 ((fz_W hw0).2.1 1 (by decide)) hb ?_
  refine fs_iast dd_X0_ruled_30 ca_32 (vp_in_nI (n := 1) (by decide) (by decide)) ?_
  refine fs_tops (fun s2 hs2 => ?_)
  replace H := H s2 hs2
  refine fs_aload (i := 5) dd_X0_ruled_31 rfl ?_
  refine fs_iconst (n := 2) (v := 2) dd_X0_ruled_33 (by decide) ?_
  refine fs_aload_n (k0 := 1) (i := 1) dd_X0_ruled_34 rfl rfl ?_
  refine fs_geti (ci := 10) (j := 5) dd_X0_ruled_35 fl_X0_36 hw0 rfl (Or.inl rfl) ?_
  refine fs_iast dd_X0_ruled_38 ca_32 (vp_in_nI (n := 2) (by decide) (by decide)) ?_
  refine fs_tops (fun s3 hs3 => ?_)
  replace H := H s3 hs3
  refine fs_aload (i := 5) dd_X0_ruled_39 rfl ?_
  refine fs_iconst (n := 3) (v := 3) dd_X0_ruled_41 (by decide) ?_
  refine fs_aload_n (k0 := 1) (i := 1) dd_X0_ruled_42 rfl rfl ?_
  refine fs_getr (ci := 10) (j := 2) (q := (w0 + 1 + 2)) dd_X0_ruled_43 fl_X0_40 hw0 rfl (Or.inr ⟨_, rfl⟩) ((fz_W hw0).1 2 (by decide)) (fun q => (fz_W hw0).2.2.2 q.1) ?_
  refine fs_iload_n (k0 := 3) (i := 3) dd_X0_ruled_46 rfl rfl ?_
  have hb := H.1
  replace H := H.2
  refine fs_iald dd_X0_ruled_47 ((fz_W hw0).2.2.1 2 (by decide) (by decide)) hb ?_
  refine fs_iast dd_X0_ruled_48 ca_32 (vp_in_nI (n := 3) (by decide) (by decide)) ?_
  refine fs_tops (fun s4 hs4 => ?_)
  replace H := H s4 hs4
  refine fs_aload (i := 5) dd_X0_ruled_49 rfl ?_
  refine fs_iconst (n := 4) (v := 4) dd_X0_ruled_51 (by decide) ?_
  refine fs_aload_n (k0 := 0) (i := 0) dd_X0_ruled_52 rfl rfl ?_
  refine fs_getr (ci := 0) (j := 0) (q := 6) dd_X0_ruled_53 fl_X0_15 ca_30 rfl (Or.inl ⟨_, rfl⟩) rfl (by decide) ?_
  refine fs_getr (ci := 9) (j := 5) (q := 12) dd_X0_ruled_56 fl_X0_43 ca_6 rfl (Or.inr ⟨_, rfl⟩) rfl (by decide) ?_
  refine fs_iload_n (k0 := 3) (i := 3) dd_X0_ruled_59 rfl rfl ?_
  have hb := H.1
  replace H := H.2
  refine fs_iald dd_X0_ruled_60 ca_12 hb ?_
  refine fs_iast dd_X0_ruled_61 ca_32 (vp_in_nI (n := 4) (by decide) (by decide)) ?_
  refine fs_tops (fun s5 hs5 => ?_)
  replace H := H s5 hs5
  refine fs_aload (i := 5) dd_X0_ruled_62 rfl ?_
  refine fs_iconst (n := 5) (v := 5) dd_X0_ruled_64 (by decide) ?_
  refine fs_aload_n (k0 := 0) (i := 0) dd_X0_ruled_65 rfl rfl ?_
  refine fs_getr (ci := 0) (j := 0) (q := 6) dd_X0_ruled_66 fl_X0_15 ca_30 rfl (Or.inl ⟨_, rfl⟩) rfl (by decide) ?_
  refine fs_getr (ci := 9) (j := 6) (q := 13) dd_X0_ruled_69 fl_X0_48 ca_6 rfl (Or.inr ⟨_, rfl⟩) rfl (by decide) ?_
  refine fs_iload_n (k0 := 3) (i := 3) dd_X0_ruled_72 rfl rfl ?_
  have hb := H.1
  replace H := H.2
  refine fs_iald dd_X0_ruled_73 ca_13 hb ?_
  refine fs_iast dd_X0_ruled_74 ca_32 (vp_in_nI (n := 5) (by decide) (by decide)) ?_
  refine fs_tops (fun s6 hs6 => ?_)
  replace H := H s6 hs6
  refine fs_aload (i := 5) dd_X0_ruled_75 rfl ?_
  refine fs_bipush (n := 6) (v := 6) dd_X0_ruled_77 (by decide) ?_
  refine fs_aload_n (k0 := 1) (i := 1) dd_X0_ruled_79 rfl rfl ?_
  refine fs_getr (ci := 10) (j := 4) (q := (w0 + 1 + 4)) dd_X0_ruled_80 fl_X0_51 hw0 rfl (Or.inr ⟨_, rfl⟩) ((fz_W hw0).1 4 (by decide)) (fun q => (fz_W hw0).2.2.2 q.1) ?_
  refine fs_iload_n (k0 := 3) (i := 3) dd_X0_ruled_83 rfl rfl ?_
  have hb := H.1
  replace H := H.2
  refine fs_iald dd_X0_ruled_84 ((fz_W hw0).2.2.1 4 (by decide) (by decide)) hb ?_
  refine fs_iast dd_X0_ruled_85 ca_32 (vp_in_nI (n := 6) (by decide) (by decide)) ?_
  refine fs_tops (fun s7 hs7 => ?_)
  replace H := H s7 hs7
  refine fs_aload_n (k0 := 0) (i := 0) dd_X0_ruled_86 rfl rfl ?_
  refine fs_getr (ci := 0) (j := 1) (q := 31) dd_X0_ruled_87 fl_X0_19 ca_30 rfl (Or.inl ⟨_, rfl⟩) rfl (by decide) ?_
  refine fs_aload_n (k0 := 0) (i := 0) dd_X0_ruled_90 rfl rfl ?_
  refine fs_getr (ci := 0) (j := 0) (q := 6) dd_X0_ruled_91 fl_X0_15 ca_30 rfl (Or.inl ⟨_, rfl⟩) rfl (by decide) ?_
  refine fs_getr (ci := 9) (j := 7) (q := 14) dd_X0_ruled_94 fl_X0_54 ca_6 rfl (Or.inr ⟨_, rfl⟩) rfl (by decide) ?_
  refine fs_aload_n (k0 := 0) (i := 0) dd_X0_ruled_97 rfl rfl ?_
  refine fs_getr (ci := 0) (j := 0) (q := 6) dd_X0_ruled_98 fl_X0_15 ca_30 rfl (Or.inl ⟨_, rfl⟩) rfl (by decide) ?_
  refine fs_getr (ci := 9) (j := 8) (q := 15) dd_X0_ruled_101 fl_X0_57 ca_6 rfl (Or.inr ⟨_, rfl⟩) rfl (by decide) ?_
  refine fs_iload_n (k0 := 2) (i := 2) dd_X0_ruled_104 rfl rfl ?_
  have hb := H.1
  replace H := H.2
  refine fs_iald dd_X0_ruled_105 ca_15 hb ?_
  refine fs_aload_n (k0 := 0) (i := 0) dd_X0_ruled_106 rfl rfl ?_
  refine fs_getr (ci := 0) (j := 0) (q := 6) dd_X0_ruled_107 fl_X0_15 ca_30 rfl (Or.inl ⟨_, rfl⟩) rfl (by decide) ?_
  refine fs_getr (ci := 9) (j := 9) (q := 16) dd_X0_ruled_110 fl_X0_60 ca_6 rfl (Or.inr ⟨_, rfl⟩) rfl (by decide) ?_
  refine fs_iload_n (k0 := 2) (i := 2) dd_X0_ruled_113 rfl rfl ?_
  have hb := H.1
  replace H := H.2
  refine fs_iald dd_X0_ruled_114 ca_16 hb ?_
  refine fs_callV (y := m_X7_value) (as := [.ref 14, .int (s7.1 15 p1.toNatClampNeg), .int (s7.1 16 p1.toNatClampNeg)]) dd_X0_ruled_115 me_X7_value lk_X0_63 in_X7_value se_X7_value ca_31 rfl rfl rfl (Nat.le_of_ble_eq_true rfl) (Nat.le_of_ble_eq_true rfl) rfl (V_X7_value (by omega) ca_14 H) (k2_I fun r8 s9 H => ?_)
  exact fs_iret dd_X0_ruled_118 rfl H
theorem dd_X0_wouldPass_0 : decode m_X0_wouldPass.2.1 0 = .ok (.iload_n 2, 1) := by decide +kernel
theorem dd_X0_wouldPass_1 : decode m_X0_wouldPass.2.1 1 = .ok (.ifCond .lt 34, 3) := by decide +kernel
theorem dd_X0_wouldPass_4 : decode m_X0_wouldPass.2.1 4 = .ok (.iload_n 2, 1) := by decide +kernel
theorem dd_X0_wouldPass_5 : decode m_X0_wouldPass.2.1 5 = .ok (.aload_n 0, 1) := by decide +kernel
theorem dd_X0_wouldPass_6 : decode m_X0_wouldPass.2.1 6 = .ok (.getfield 15, 3) := by decide +kernel
theorem dd_X0_wouldPass_9 : decode m_X0_wouldPass.2.1 9 = .ok (.getfield 77, 3) := by decide +kernel
theorem dd_X0_wouldPass_12 : decode m_X0_wouldPass.2.1 12 = .ok (.if_icmp .ge 23, 3) := by decide +kernel
theorem dd_X0_wouldPass_15 : decode m_X0_wouldPass.2.1 15 = .ok (.aload_n 0, 1) := by decide +kernel
theorem dd_X0_wouldPass_16 : decode m_X0_wouldPass.2.1 16 = .ok (.aload_n 1, 1) := by decide +kernel
theorem dd_X0_wouldPass_17 : decode m_X0_wouldPass.2.1 17 = .ok (.iconst 1, 1) := by decide +kernel
theorem dd_X0_wouldPass_18 : decode m_X0_wouldPass.2.1 18 = .ok (.iload_n 2, 1) := by decide +kernel
theorem dd_X0_wouldPass_19 : decode m_X0_wouldPass.2.1 19 = .ok (.aload_n 1, 1) := by decide +kernel
theorem dd_X0_wouldPass_20 : decode m_X0_wouldPass.2.1 20 = .ok (.getfield 71, 3) := by decide +kernel
theorem dd_X0_wouldPass_23 : decode m_X0_wouldPass.2.1 23 = .ok (.iload_n 2, 1) := by decide +kernel
theorem dd_X0_wouldPass_24 : decode m_X0_wouldPass.2.1 24 = .ok (.iaload, 1) := by decide +kernel
theorem dd_X0_wouldPass_25 : decode m_X0_wouldPass.2.1 25 = .ok (.invokevirtual 67, 3) := by decide +kernel
theorem dd_X0_wouldPass_28 : decode m_X0_wouldPass.2.1 28 = .ok (.ifCond .eq 7, 3) := by decide +kernel
theorem dd_X0_wouldPass_31 : decode m_X0_wouldPass.2.1 31 = .ok (.iconst 1, 1) := by decide +kernel
theorem dd_X0_wouldPass_32 : decode m_X0_wouldPass.2.1 32 = .ok (.goto 4, 3) := by decide +kernel
theorem dd_X0_wouldPass_35 : decode m_X0_wouldPass.2.1 35 = .ok (.iconst 0, 1) := by decide +kernel
theorem dd_X0_wouldPass_36 : decode m_X0_wouldPass.2.1 36 = .ok (.ireturn, 1) := by decide +kernel
def wp_X0_wouldPass (w0 : Nat) (p1 : Int32) (s : fz_s) (Q : Bool → fz_s → Prop) : Prop :=
  ((p1 < 0 → Q false s) ∧ (¬ p1 < 0 → (((s.1 6 12) ≤ p1 → Q false s) ∧ (¬ (s.1 6 12) ≤ p1 → vp_in p1 8 ∧ wp_X0_ruled w0 1 p1 (s.1 (w0 + 1 + 3) p1.toNatClampNeg) s (fun r1 s2 => ((r1 = 0 → Q false s2) ∧ (¬ r1 = 0 → Q true s2)))))))
set_option maxRecDepth 100000 in
set_option maxHeartbeats 4000000 in
theorem V_X0_wouldPass {g : fz_G} {l : Launch} {d : Nat} (hD : 4 ≤ d) {w0 : Nat} {p1 : Int32} (hw0 : fz_at true w0 10 7) {s : fz_s} {Q : Bool → fz_s → Prop} (H : wp_X0_wouldPass w0 p1 s Q) : fs_V g l m_X0_wouldPass d true 0 (fz_en [.ref 30, .ref w0, .int p1] 3) [] s (rZ Q) := by
  obtain ⟨d, rfl⟩ : ∃ e, d = e + 1 := ⟨d - 1, by omega⟩
  unfold wp_X0_wouldPass at H
  refine fs_iload_n (k0 := 2) (i := 2) dd_X0_wouldPass_0 rfl rfl ?_
  refine fs_if_lt (tgt := 35) dd_X0_wouldPass_1 (by decide) (fun hc => ?_) (fun hc => ?_)
  · replace H := H.1 hc
    refine fs_iconst (n := 0) (v := 0) dd_X0_wouldPass_35 (by decide) ?_
    exact fs_zret false dd_X0_wouldPass_36 rfl rfl H
  · replace H := H.2 hc
    refine fs_iload_n (k0 := 2) (i := 2) dd_X0_wouldPass_4 rfl rfl ?_
    refine fs_aload_n (k0 := 0) (i := 0) dd_X0_wouldPass_5 rfl rfl ?_
    refine fs_getr (ci := 0) (j := 0) (q := 6) dd_X0_wouldPass_6 fl_X0_15 ca_30 rfl (Or.inl ⟨_, rfl⟩) rfl (by decide) ?_
    refine fs_geti (ci := 9) (j := 12) dd_X0_wouldPass_9 fl_X0_77 ca_6 rfl (Or.inl rfl) ?_
    refine fs_icmp_ge (tgt := 35) dd_X0_wouldPass_12 (by decide) (fun hc => ?_) (fun hc => ?_)
    · replace H := H.1 hc
      refine fs_iconst (n := 0) (v := 0) dd_X0_wouldPass_35 (by decide) ?_
      exact fs_zret false dd_X0_wouldPass_36 rfl rfl H
    · replace H := H.2 hc
      refine fs_aload_n (k0 := 0) (i := 0) dd_X0_wouldPass_15 rfl rfl ?_
      refine fs_aload_n (k0 := 1) (i := 1) dd_X0_wouldPass_16 rfl rfl ?_
      refine fs_iconst (n := 1) (v := 1) dd_X0_wouldPass_17 (by decide) ?_
      refine fs_iload_n (k0 := 2) (i := 2) dd_X0_wouldPass_18 rfl rfl ?_
      refine fs_aload_n (k0 := 1) (i := 1) dd_X0_wouldPass_19 rfl rfl ?_
      refine fs_getr (ci := 10) (j := 3) (q := (w0 + 1 + 3)) dd_X0_wouldPass_20 fl_X0_71 hw0 rfl (Or.inr ⟨_, rfl⟩) ((fz_W hw0).1 3 (by decide)) (fun q => (fz_W hw0).2.2.2 q.1) ?_
      refine fs_iload_n (k0 := 2) (i := 2) dd_X0_wouldPass_23 rfl rfl ?_
      have hb := H.1
      replace H := H.2
      refine fs_iald dd_X0_wouldPass_24 ((fz_W hw0).2.2.1 3 (by decide) (by decide)) hb ?_
      refine fs_callV (y := m_X0_ruled) (as := [.ref w0, .int 1, .int p1, .int (s.1 (w0 + 1 + 3) p1.toNatClampNeg)]) dd_X0_wouldPass_25 me_X0_ruled lk_X0_67 in_X0_ruled se_X0_ruled ca_30 rfl rfl rfl (Nat.le_of_ble_eq_true rfl) (Nat.le_of_ble_eq_true rfl) rfl (V_X0_ruled (by omega) hw0 H) (k2_I fun r1 s2 H => ?_)
      refine fs_if_eq (tgt := 35) dd_X0_wouldPass_28 (by decide) (fun hc => ?_) (fun hc => ?_)
      · replace H := H.1 hc
        refine fs_iconst (n := 0) (v := 0) dd_X0_wouldPass_35 (by decide) ?_
        exact fs_zret false dd_X0_wouldPass_36 rfl rfl H
      · replace H := H.2 hc
        refine fs_iconst (n := 1) (v := 1) dd_X0_wouldPass_31 (by decide) ?_
        refine fs_goto (tgt := 36) dd_X0_wouldPass_32 (by decide) ?_
        exact fs_zret true dd_X0_wouldPass_36 rfl rfl H
theorem dd_X0_countPassed_0 : decode m_X0_countPassed.2.1 0 = .ok (.iconst 0, 1) := by decide +kernel
theorem dd_X0_countPassed_1 : decode m_X0_countPassed.2.1 1 = .ok (.istore_n 2, 1) := by decide +kernel
theorem dd_X0_countPassed_2 : decode m_X0_countPassed.2.1 2 = .ok (.iconst 0, 1) := by decide +kernel
theorem dd_X0_countPassed_3 : decode m_X0_countPassed.2.1 3 = .ok (.istore_n 3, 1) := by decide +kernel
theorem dd_X0_countPassed_4 : decode m_X0_countPassed.2.1 4 = .ok (.iload_n 3, 1) := by decide +kernel
theorem dd_X0_countPassed_5 : decode m_X0_countPassed.2.1 5 = .ok (.aload_n 0, 1) := by decide +kernel
theorem dd_X0_countPassed_6 : decode m_X0_countPassed.2.1 6 = .ok (.getfield 15, 3) := by decide +kernel
theorem dd_X0_countPassed_9 : decode m_X0_countPassed.2.1 9 = .ok (.getfield 77, 3) := by decide +kernel
theorem dd_X0_countPassed_12 : decode m_X0_countPassed.2.1 12 = .ok (.if_icmp .ge 21, 3) := by decide +kernel
theorem dd_X0_countPassed_15 : decode m_X0_countPassed.2.1 15 = .ok (.iload_n 2, 1) := by decide +kernel
theorem dd_X0_countPassed_16 : decode m_X0_countPassed.2.1 16 = .ok (.aload_n 0, 1) := by decide +kernel
theorem dd_X0_countPassed_17 : decode m_X0_countPassed.2.1 17 = .ok (.aload_n 1, 1) := by decide +kernel
theorem dd_X0_countPassed_18 : decode m_X0_countPassed.2.1 18 = .ok (.iload_n 3, 1) := by decide +kernel
theorem dd_X0_countPassed_19 : decode m_X0_countPassed.2.1 19 = .ok (.invokevirtual 88, 3) := by decide +kernel
theorem dd_X0_countPassed_22 : decode m_X0_countPassed.2.1 22 = .ok (.invokestatic 84, 3) := by decide +kernel
theorem dd_X0_countPassed_25 : decode m_X0_countPassed.2.1 25 = .ok (.iadd, 1) := by decide +kernel
theorem dd_X0_countPassed_26 : decode m_X0_countPassed.2.1 26 = .ok (.istore_n 2, 1) := by decide +kernel
theorem dd_X0_countPassed_27 : decode m_X0_countPassed.2.1 27 = .ok (.iinc 3 1, 3) := by decide +kernel
theorem dd_X0_countPassed_30 : decode m_X0_countPassed.2.1 30 = .ok (.goto (-26), 3) := by decide +kernel
theorem dd_X0_countPassed_33 : decode m_X0_countPassed.2.1 33 = .ok (.iload_n 2, 1) := by decide +kernel
theorem dd_X0_countPassed_34 : decode m_X0_countPassed.2.1 34 = .ok (.ireturn, 1) := by decide +kernel
def nd_X0_countPassed_4 (w0 : Nat) (K4 : Int32 → Int32 → fz_s → Prop) (Q : Int32 → fz_s → Prop) (v2 : Int32) (v3 : Int32) (s : fz_s) : Prop :=
  (((s.1 6 12) ≤ v3 → Q v2 s) ∧ (¬ (s.1 6 12) ≤ v3 → wp_X0_wouldPass w0 v3 s (fun r1 s2 => wp_X11_bit r1 s2 (fun r3 s4 => ∀ x5 : Int32, x5 = (v2 + r3) → ∀ x6 : Int32, x6 = v3 + 1 → K4 x5 x6 s4))))
def lp_X0_countPassed_4 (w0 : Nat)  (Q : Int32 → fz_s → Prop) : Nat → Int32 → Int32 → fz_s → Prop
  | 0 => fun _ _ _ => False
  | n + 1 => nd_X0_countPassed_4 w0 (lp_X0_countPassed_4 w0  Q n) Q
def wp_X0_countPassed (w0 : Nat) (s : fz_s) (Q : Int32 → fz_s → Prop) : Prop :=
  lp_X0_countPassed_4 w0  Q 2048 0 0 s
set_option maxRecDepth 100000 in
set_option maxHeartbeats 4000000 in
theorem V_nd_X0_countPassed_4 {g : fz_G} {l : Launch} {d : Nat} (hD : 5 ≤ d) {w0 : Nat} (hw0 : fz_at true w0 10 7) {K4 : Int32 → Int32 → fz_s → Prop} {Q : Int32 → fz_s → Prop} {v2 : Int32} {v3 : Int32} {s : fz_s} (hK4 : ∀ {v2 : Int32} {v3 : Int32} {s : fz_s}, K4 v2 v3 s → fs_V g l m_X0_countPassed d true 4 [.ref 30, .ref w0, .int v2, .int v3] [] s (rI Q)) (H : nd_X0_countPassed_4 w0 K4 Q v2 v3 s) : fs_V g l m_X0_countPassed d true 4 [.ref 30, .ref w0, .int v2, .int v3] [] s (rI Q) := by
  obtain ⟨d, rfl⟩ : ∃ e, d = e + 1 := ⟨d - 1, by omega⟩
  unfold nd_X0_countPassed_4 at H
  refine fs_iload_n (k0 := 3) (i := 3) dd_X0_countPassed_4 rfl rfl ?_
  refine fs_aload_n (k0 := 0) (i := 0) dd_X0_countPassed_5 rfl rfl ?_
  refine fs_getr (ci := 0) (j := 0) (q := 6) dd_X0_countPassed_6 fl_X0_15 ca_30 rfl (Or.inl ⟨_, rfl⟩) rfl (by decide) ?_
  refine fs_geti (ci := 9) (j := 12) dd_X0_countPassed_9 fl_X0_77 ca_6 rfl (Or.inl rfl) ?_
  refine fs_icmp_ge (tgt := 33) dd_X0_countPassed_12 (by decide) (fun hc => ?_) (fun hc => ?_)
  · replace H := H.1 hc
    refine fs_iload_n (k0 := 2) (i := 2) dd_X0_countPassed_33 rfl rfl ?_
    exact fs_iret dd_X0_countPassed_34 rfl H
  · replace H := H.2 hc
    refine fs_iload_n (k0 := 2) (i := 2) dd_X0_countPassed_15 rfl rfl ?_
    refine fs_aload_n (k0 := 0) (i := 0) dd_X0_countPassed_16 rfl rfl ?_
    refine fs_aload_n (k0 := 1) (i := 1) dd_X0_countPassed_17 rfl rfl ?_
    refine fs_iload_n (k0 := 3) (i := 3) dd_X0_countPassed_18 rfl rfl ?_
    refine fs_callV (y := m_X0_wouldPass) (as := [.ref w0, .int v3]) dd_X0_countPassed_19 me_X0_wouldPass lk_X0_88 in_X0_wouldPass se_X0_wouldPass ca_30 rfl rfl rfl (Nat.le_of_ble_eq_true rfl) (Nat.le_of_ble_eq_true rfl) rfl (V_X0_wouldPass (by omega) hw0 H) (k2_Z fun r1 s2 H => ?_)
    refine fs_callS (y := m_X11_bit) (as := [.int (bi r1)]) dd_X0_countPassed_22 me_X11_bit (Or.inr ⟨_, ln_X0_84⟩) st_X11_bit rfl (Nat.le_of_ble_eq_true rfl) (Nat.le_of_ble_eq_true rfl) rfl (V_X11_bit (by omega)  H) (k2_I fun r3 s4 H => ?_)
    refine fs_iadd dd_X0_countPassed_25 ?_
    refine fs_topi (fun x5 hx5 => ?_)
    replace H := H x5 hx5
    refine fs_istore_n (k0 := 2) (i := 2) dd_X0_countPassed_26 rfl (by decide) ?_
    refine fs_iincN (i := 3) (m := 1) (c := 1) dd_X0_countPassed_27 rfl (by decide) (by decide) (fun x6 hx6 => ?_)
    replace H := H x6 hx6
    refine fs_goto (tgt := 4) dd_X0_countPassed_30 (by decide) ?_
    refine fs_weak (ls2 := [.ref 30, .ref w0, .int x5, .int x6]) (fz_le_e (fz_le_e (fz_le_e (fz_le_e fz_le_n)))) ?_
    exact hK4 H
set_option maxRecDepth 100000 in
set_option maxHeartbeats 4000000 in
theorem V_lp_X0_countPassed_4 {g : fz_G} {l : Launch} {d : Nat} (hD : 5 ≤ d) {w0 : Nat} (hw0 : fz_at true w0 10 7)  {Q : Int32 → fz_s → Prop}  (n : Nat) : ∀ {v2 : Int32} {v3 : Int32} {s : fz_s}, lp_X0_countPassed_4 w0  Q n v2 v3 s → fs_V g l m_X0_countPassed d true 4 [.ref 30, .ref w0, .int v2, .int v3] [] s (rI Q) := by
  induction n with
  | zero => intro v2 v3 s H; exact H.elim
  | succ n ih => intro v2 v3 s H; exact V_nd_X0_countPassed_4 hD hw0 (fun H => ih H) H
set_option maxRecDepth 100000 in
set_option maxHeartbeats 4000000 in
theorem V_X0_countPassed {g : fz_G} {l : Launch} {d : Nat} (hD : 5 ≤ d) {w0 : Nat} (hw0 : fz_at true w0 10 7) {s : fz_s} {Q : Int32 → fz_s → Prop} (H : wp_X0_countPassed w0 s Q) : fs_V g l m_X0_countPassed d true 0 (fz_en [.ref 30, .ref w0] 4) [] s (rI Q) := by
  obtain ⟨d, rfl⟩ : ∃ e, d = e + 1 := ⟨d - 1, by omega⟩
  unfold wp_X0_countPassed at H
  refine fs_iconst (n := 0) (v := 0) dd_X0_countPassed_0 (by decide) ?_
  refine fs_istore_n (k0 := 2) (i := 2) dd_X0_countPassed_1 rfl (by decide) ?_
  refine fs_iconst (n := 0) (v := 0) dd_X0_countPassed_2 (by decide) ?_
  refine fs_istore_n (k0 := 3) (i := 3) dd_X0_countPassed_3 rfl (by decide) ?_
  refine fs_weak (ls2 := [.ref 30, .ref w0, .int 0, .int 0]) (fz_le_e (fz_le_e (fz_le_e (fz_le_e fz_le_n)))) ?_
  exact V_lp_X0_countPassed_4 hD  hw0  2048 H
theorem dd_X4_toldCount_0 : decode m_X4_toldCount.2.1 0 = .ok (.bipush 40, 2) := by decide +kernel
theorem dd_X4_toldCount_2 : decode m_X4_toldCount.2.1 2 = .ok (.aload_n 1, 1) := by decide +kernel
theorem dd_X4_toldCount_3 : decode m_X4_toldCount.2.1 3 = .ok (.getfield 39, 3) := by decide +kernel
theorem dd_X4_toldCount_6 : decode m_X4_toldCount.2.1 6 = .ok (.invokestatic 42, 3) := by decide +kernel
theorem dd_X4_toldCount_9 : decode m_X4_toldCount.2.1 9 = .ok (.ireturn, 1) := by decide +kernel
def wp_X4_toldCount (w0 : Nat) (s : fz_s) (Q : Int32 → fz_s → Prop) : Prop :=
  Q (if (s.1 w0 6) < 40 then (s.1 w0 6) else 40) s
set_option maxRecDepth 100000 in
set_option maxHeartbeats 4000000 in
theorem V_X4_toldCount {g : fz_G} {l : Launch} {d : Nat} (hD : 1 ≤ d) {w0 : Nat} (hw0 : fz_at true w0 10 7) {s : fz_s} {Q : Int32 → fz_s → Prop} (H : wp_X4_toldCount w0 s Q) : fs_V g l m_X4_toldCount d true 0 (fz_en [.ref 47, .ref w0] 2) [] s (rI Q) := by
  obtain ⟨d, rfl⟩ : ∃ e, d = e + 1 := ⟨d - 1, by omega⟩
  unfold wp_X4_toldCount at H
  refine fs_bipush (n := 40) (v := 40) dd_X4_toldCount_0 (by decide) ?_
  refine fs_aload_n (k0 := 1) (i := 1) dd_X4_toldCount_2 rfl rfl ?_
  refine fs_geti (ci := 10) (j := 6) dd_X4_toldCount_3 fl_X4_39 hw0 rfl (Or.inl rfl) ?_
  refine fs_mmin dd_X4_toldCount_6 lk_X4_42 (Nat.le_of_ble_eq_true rfl) ?_
  exact fs_iret dd_X4_toldCount_9 rfl H
theorem dd_X11_has_0 : decode m_X11_has.2.1 0 = .ok (.iload_n 1, 1) := by decide +kernel
theorem dd_X11_has_1 : decode m_X11_has.2.1 1 = .ok (.tableswitch 123 0 7 #[47, 55, 63, 71, 83, 95, 107, 115], 47) := by decide +kernel
theorem dd_X11_has_48 : decode m_X11_has.2.1 48 = .ok (.aload_n 0, 1) := by decide +kernel
theorem dd_X11_has_49 : decode m_X11_has.2.1 49 = .ok (.getfield 34, 3) := by decide +kernel
theorem dd_X11_has_52 : decode m_X11_has.2.1 52 = .ok (.getfield 159, 3) := by decide +kernel
theorem dd_X11_has_55 : decode m_X11_has.2.1 55 = .ok (.ireturn, 1) := by decide +kernel
theorem dd_X11_has_56 : decode m_X11_has.2.1 56 = .ok (.aload_n 0, 1) := by decide +kernel
theorem dd_X11_has_57 : decode m_X11_has.2.1 57 = .ok (.getfield 34, 3) := by decide +kernel
theorem dd_X11_has_60 : decode m_X11_has.2.1 60 = .ok (.getfield 162, 3) := by decide +kernel
theorem dd_X11_has_63 : decode m_X11_has.2.1 63 = .ok (.ireturn, 1) := by decide +kernel
theorem dd_X11_has_64 : decode m_X11_has.2.1 64 = .ok (.aload_n 0, 1) := by decide +kernel
theorem dd_X11_has_65 : decode m_X11_has.2.1 65 = .ok (.getfield 63, 3) := by decide +kernel
theorem dd_X11_has_68 : decode m_X11_has.2.1 68 = .ok (.getfield 165, 3) := by decide +kernel
theorem dd_X11_has_71 : decode m_X11_has.2.1 71 = .ok (.ireturn, 1) := by decide +kernel
theorem dd_X11_has_72 : decode m_X11_has.2.1 72 = .ok (.aload_n 0, 1) := by decide +kernel
theorem dd_X11_has_73 : decode m_X11_has.2.1 73 = .ok (.getfield 56, 3) := by decide +kernel
theorem dd_X11_has_76 : decode m_X11_has.2.1 76 = .ok (.aload_n 0, 1) := by decide +kernel
theorem dd_X11_has_77 : decode m_X11_has.2.1 77 = .ok (.getfield 63, 3) := by decide +kernel
theorem dd_X11_has_80 : decode m_X11_has.2.1 80 = .ok (.invokevirtual 168, 3) := by decide +kernel
theorem dd_X11_has_83 : decode m_X11_has.2.1 83 = .ok (.ireturn, 1) := by decide +kernel
theorem dd_X11_has_84 : decode m_X11_has.2.1 84 = .ok (.aload_n 0, 1) := by decide +kernel
theorem dd_X11_has_85 : decode m_X11_has.2.1 85 = .ok (.getfield 56, 3) := by decide +kernel
theorem dd_X11_has_88 : decode m_X11_has.2.1 88 = .ok (.aload_n 0, 1) := by decide +kernel
theorem dd_X11_has_89 : decode m_X11_has.2.1 89 = .ok (.getfield 63, 3) := by decide +kernel
theorem dd_X11_has_92 : decode m_X11_has.2.1 92 = .ok (.invokevirtual 172, 3) := by decide +kernel
theorem dd_X11_has_95 : decode m_X11_has.2.1 95 = .ok (.ireturn, 1) := by decide +kernel
theorem dd_X11_has_96 : decode m_X11_has.2.1 96 = .ok (.aload_n 0, 1) := by decide +kernel
theorem dd_X11_has_97 : decode m_X11_has.2.1 97 = .ok (.getfield 73, 3) := by decide +kernel
theorem dd_X11_has_100 : decode m_X11_has.2.1 100 = .ok (.aload_n 0, 1) := by decide +kernel
theorem dd_X11_has_101 : decode m_X11_has.2.1 101 = .ok (.getfield 63, 3) := by decide +kernel
theorem dd_X11_has_104 : decode m_X11_has.2.1 104 = .ok (.invokevirtual 175, 3) := by decide +kernel
theorem dd_X11_has_107 : decode m_X11_has.2.1 107 = .ok (.ireturn, 1) := by decide +kernel
theorem dd_X11_has_108 : decode m_X11_has.2.1 108 = .ok (.aload_n 0, 1) := by decide +kernel
theorem dd_X11_has_109 : decode m_X11_has.2.1 109 = .ok (.getfield 98, 3) := by decide +kernel
theorem dd_X11_has_112 : decode m_X11_has.2.1 112 = .ok (.getfield 178, 3) := by decide +kernel
theorem dd_X11_has_115 : decode m_X11_has.2.1 115 = .ok (.ireturn, 1) := by decide +kernel
theorem dd_X11_has_116 : decode m_X11_has.2.1 116 = .ok (.aload_n 0, 1) := by decide +kernel
theorem dd_X11_has_117 : decode m_X11_has.2.1 117 = .ok (.getfield 73, 3) := by decide +kernel
theorem dd_X11_has_120 : decode m_X11_has.2.1 120 = .ok (.getfield 181, 3) := by decide +kernel
theorem dd_X11_has_123 : decode m_X11_has.2.1 123 = .ok (.ireturn, 1) := by decide +kernel
theorem dd_X11_has_124 : decode m_X11_has.2.1 124 = .ok (.iconst (-1), 1) := by decide +kernel
theorem dd_X11_has_125 : decode m_X11_has.2.1 125 = .ok (.ireturn, 1) := by decide +kernel
def wp_X11_has (p0 : Int32) (s : fz_s) (Q : Int32 → fz_s → Prop) : Prop :=
  ((p0 = 0 → Q (s.1 6 11) s) ∧ (p0 = 1 → Q (s.1 6 12) s) ∧ (p0 = 2 → Q (s.1 35 5) s) ∧ (p0 = 3 → wp_X0_countAway 35 s (fun r1 s2 => Q r1 s2)) ∧ (p0 = 4 → wp_X0_countPassed 35 s (fun r3 s4 => Q r3 s4)) ∧ (p0 = 5 → wp_X4_toldCount 35 s (fun r5 s6 => Q r5 s6)) ∧ (p0 = 6 → Q (s.1 184 5) s) ∧ (p0 = 7 → Q (s.1 47 5) s) ∧ (¬ p0 = 0 ∧ ¬ p0 = 1 ∧ ¬ p0 = 2 ∧ ¬ p0 = 3 ∧ ¬ p0 = 4 ∧ ¬ p0 = 5 ∧ ¬ p0 = 6 ∧ ¬ p0 = 7 → Q (-1) s))
set_option maxRecDepth 100000 in
set_option maxHeartbeats 4000000 in
theorem V_X11_has {g : fz_G} {l : Launch} {d : Nat} (hD : 6 ≤ d) {p0 : Int32}  {s : fz_s} {Q : Int32 → fz_s → Prop} (H : wp_X11_has p0 s Q) : fs_V g l m_X11_has d true 0 (fz_en [.ref 2, .int p0] 2) [] s (rI Q) := by
  obtain ⟨d, rfl⟩ : ∃ e, d = e + 1 := ⟨d - 1, by omega⟩
  unfold wp_X11_has at H
  refine fs_iload_n (k0 := 1) (i := 1) dd_X11_has_0 rfl rfl ?_
  by_cases hc0 : p0 = 0
  · replace H := H.1 hc0
    refine fs_tableAt (k := 0) (off := 47) (tgt := 48) hc0 dd_X11_has_1 (by decide) (by decide) rfl (by decide) ?_
    refine fs_aload_n (k0 := 0) (i := 0) dd_X11_has_48 rfl rfl ?_
    refine fs_getr (ci := 11) (j := 4) (q := 6) dd_X11_has_49 fl_X11_34 ca_2 rfl (Or.inl ⟨_, rfl⟩) rfl (by decide) ?_
    refine fs_geti (ci := 9) (j := 11) dd_X11_has_52 fl_X11_159 ca_6 rfl (Or.inl rfl) ?_
    exact fs_iret dd_X11_has_55 rfl H
  by_cases hc1 : p0 = 1
  · replace H := H.2.1 hc1
    refine fs_tableAt (k := 1) (off := 55) (tgt := 56) hc1 dd_X11_has_1 (by decide) (by decide) rfl (by decide) ?_
    refine fs_aload_n (k0 := 0) (i := 0) dd_X11_has_56 rfl rfl ?_
    refine fs_getr (ci := 11) (j := 4) (q := 6) dd_X11_has_57 fl_X11_34 ca_2 rfl (Or.inl ⟨_, rfl⟩) rfl (by decide) ?_
    refine fs_geti (ci := 9) (j := 12) dd_X11_has_60 fl_X11_162 ca_6 rfl (Or.inl rfl) ?_
    exact fs_iret dd_X11_has_63 rfl H
  by_cases hc2 : p0 = 2
  · replace H := H.2.2.1 hc2
    refine fs_tableAt (k := 2) (off := 63) (tgt := 64) hc2 dd_X11_has_1 (by decide) (by decide) rfl (by decide) ?_
    refine fs_aload_n (k0 := 0) (i := 0) dd_X11_has_64 rfl rfl ?_
    refine fs_getr (ci := 11) (j := 8) (q := 35) dd_X11_has_65 fl_X11_63 ca_2 rfl (Or.inl ⟨_, rfl⟩) rfl (by decide) ?_
    refine fs_geti (ci := 10) (j := 5) dd_X11_has_68 fl_X11_165 ca_35 rfl (Or.inl rfl) ?_
    exact fs_iret dd_X11_has_71 rfl H
  by_cases hc3 : p0 = 3
  · replace H := H.2.2.2.1 hc3
    refine fs_tableAt (k := 3) (off := 71) (tgt := 72) hc3 dd_X11_has_1 (by decide) (by decide) rfl (by decide) ?_
    refine fs_aload_n (k0 := 0) (i := 0) dd_X11_has_72 rfl rfl ?_
    refine fs_getr (ci := 11) (j := 7) (q := 30) dd_X11_has_73 fl_X11_56 ca_2 rfl (Or.inl ⟨_, rfl⟩) rfl (by decide) ?_
    refine fs_aload_n (k0 := 0) (i := 0) dd_X11_has_76 rfl rfl ?_
    refine fs_getr (ci := 11) (j := 8) (q := 35) dd_X11_has_77 fl_X11_63 ca_2 rfl (Or.inl ⟨_, rfl⟩) rfl (by decide) ?_
    refine fs_callV (y := m_X0_countAway) (as := [.ref 35]) dd_X11_has_80 me_X0_countAway lk_X11_168 in_X0_countAway se_X0_countAway ca_30 rfl rfl rfl (Nat.le_of_ble_eq_true rfl) (Nat.le_of_ble_eq_true rfl) rfl (V_X0_countAway (by omega) ca_35 H) (k2_I fun r1 s2 H => ?_)
    exact fs_iret dd_X11_has_83 rfl H
  by_cases hc4 : p0 = 4
  · replace H := H.2.2.2.2.1 hc4
    refine fs_tableAt (k := 4) (off := 83) (tgt := 84) hc4 dd_X11_has_1 (by decide) (by decide) rfl (by decide) ?_
    refine fs_aload_n (k0 := 0) (i := 0) dd_X11_has_84 rfl rfl ?_
    refine fs_getr (ci := 11) (j := 7) (q := 30) dd_X11_has_85 fl_X11_56 ca_2 rfl (Or.inl ⟨_, rfl⟩) rfl (by decide) ?_
    refine fs_aload_n (k0 := 0) (i := 0) dd_X11_has_88 rfl rfl ?_
    refine fs_getr (ci := 11) (j := 8) (q := 35) dd_X11_has_89 fl_X11_63 ca_2 rfl (Or.inl ⟨_, rfl⟩) rfl (by decide) ?_
    refine fs_callV (y := m_X0_countPassed) (as := [.ref 35]) dd_X11_has_92 me_X0_countPassed lk_X11_172 in_X0_countPassed se_X0_countPassed ca_30 rfl rfl rfl (Nat.le_of_ble_eq_true rfl) (Nat.le_of_ble_eq_true rfl) rfl (V_X0_countPassed (by omega) ca_35 H) (k2_I fun r3 s4 H => ?_)
    exact fs_iret dd_X11_has_95 rfl H
  by_cases hc5 : p0 = 5
  · replace H := H.2.2.2.2.2.1 hc5
    refine fs_tableAt (k := 5) (off := 95) (tgt := 96) hc5 dd_X11_has_1 (by decide) (by decide) rfl (by decide) ?_
    refine fs_aload_n (k0 := 0) (i := 0) dd_X11_has_96 rfl rfl ?_
    refine fs_getr (ci := 11) (j := 10) (q := 47) dd_X11_has_97 fl_X11_73 ca_2 rfl (Or.inl ⟨_, rfl⟩) rfl (by decide) ?_
    refine fs_aload_n (k0 := 0) (i := 0) dd_X11_has_100 rfl rfl ?_
    refine fs_getr (ci := 11) (j := 8) (q := 35) dd_X11_has_101 fl_X11_63 ca_2 rfl (Or.inl ⟨_, rfl⟩) rfl (by decide) ?_
    refine fs_callV (y := m_X4_toldCount) (as := [.ref 35]) dd_X11_has_104 me_X4_toldCount lk_X11_175 in_X4_toldCount se_X4_toldCount ca_47 rfl rfl rfl (Nat.le_of_ble_eq_true rfl) (Nat.le_of_ble_eq_true rfl) rfl (V_X4_toldCount (by omega) ca_35 H) (k2_I fun r5 s6 H => ?_)
    exact fs_iret dd_X11_has_107 rfl H
  by_cases hc6 : p0 = 6
  · replace H := H.2.2.2.2.2.2.1 hc6
    refine fs_tableAt (k := 6) (off := 107) (tgt := 108) hc6 dd_X11_has_1 (by decide) (by decide) rfl (by decide) ?_
    refine fs_aload_n (k0 := 0) (i := 0) dd_X11_has_108 rfl rfl ?_
    refine fs_getr (ci := 11) (j := 13) (q := 184) dd_X11_has_109 fl_X11_98 ca_2 rfl (Or.inl ⟨_, rfl⟩) rfl (by decide) ?_
    refine fs_geti (ci := 6) (j := 5) dd_X11_has_112 fl_X11_178 ca_184 rfl (Or.inl rfl) ?_
    exact fs_iret dd_X11_has_115 rfl H
  by_cases hc7 : p0 = 7
  · replace H := H.2.2.2.2.2.2.2.1 hc7
    refine fs_tableAt (k := 7) (off := 115) (tgt := 116) hc7 dd_X11_has_1 (by decide) (by decide) rfl (by decide) ?_
    refine fs_aload_n (k0 := 0) (i := 0) dd_X11_has_116 rfl rfl ?_
    refine fs_getr (ci := 11) (j := 10) (q := 47) dd_X11_has_117 fl_X11_73 ca_2 rfl (Or.inl ⟨_, rfl⟩) rfl (by decide) ?_
    refine fs_geti (ci := 4) (j := 5) dd_X11_has_120 fl_X11_181 ca_47 rfl (Or.inl rfl) ?_
    exact fs_iret dd_X11_has_123 rfl H
  replace H := H.2.2.2.2.2.2.2.2 ⟨hc0, hc1, hc2, hc3, hc4, hc5, hc6, hc7⟩
  refine fs_tableOut' (ks := [0, 1, 2, 3, 4, 5, 6, 7]) (tgt := 124) (by simp only [List.forall_mem_cons]; exact ⟨hc0, hc1, hc2, hc3, hc4, hc5, hc6, hc7, fun _ h => by cases h⟩) dd_X11_has_1 (by decide) (by decide) ?_
  refine fs_iconst (n := -1) (v := -1) dd_X11_has_124 (by decide) ?_
  exact fs_iret dd_X11_has_125 rfl H
theorem dd_X11_noVillage_0 : decode m_X11_noVillage.2.1 0 = .ok (.iload_n 1, 1) := by decide +kernel
theorem dd_X11_noVillage_1 : decode m_X11_noVillage.2.1 1 = .ok (.ifCond .lt 14, 3) := by decide +kernel
theorem dd_X11_noVillage_4 : decode m_X11_noVillage.2.1 4 = .ok (.iload_n 1, 1) := by decide +kernel
theorem dd_X11_noVillage_5 : decode m_X11_noVillage.2.1 5 = .ok (.aload_n 0, 1) := by decide +kernel
theorem dd_X11_noVillage_6 : decode m_X11_noVillage.2.1 6 = .ok (.getfield 34, 3) := by decide +kernel
theorem dd_X11_noVillage_9 : decode m_X11_noVillage.2.1 9 = .ok (.getfield 159, 3) := by decide +kernel
theorem dd_X11_noVillage_12 : decode m_X11_noVillage.2.1 12 = .ok (.if_icmp .lt 7, 3) := by decide +kernel
theorem dd_X11_noVillage_15 : decode m_X11_noVillage.2.1 15 = .ok (.iconst 1, 1) := by decide +kernel
theorem dd_X11_noVillage_16 : decode m_X11_noVillage.2.1 16 = .ok (.goto 4, 3) := by decide +kernel
theorem dd_X11_noVillage_19 : decode m_X11_noVillage.2.1 19 = .ok (.iconst 0, 1) := by decide +kernel
theorem dd_X11_noVillage_20 : decode m_X11_noVillage.2.1 20 = .ok (.ireturn, 1) := by decide +kernel
def wp_X11_noVillage (p0 : Int32) (s : fz_s) (Q : Bool → fz_s → Prop) : Prop :=
  ((p0 < 0 → Q true s) ∧ (¬ p0 < 0 → ((p0 < (s.1 6 11) → Q false s) ∧ (¬ p0 < (s.1 6 11) → Q true s))))
set_option maxRecDepth 100000 in
set_option maxHeartbeats 4000000 in
theorem V_X11_noVillage {g : fz_G} {l : Launch} {d : Nat} (hD : 0 ≤ d) {p0 : Int32}  {s : fz_s} {Q : Bool → fz_s → Prop} (H : wp_X11_noVillage p0 s Q) : fs_V g l m_X11_noVillage d true 0 (fz_en [.ref 2, .int p0] 2) [] s (rZ Q) := by
  unfold wp_X11_noVillage at H
  refine fs_iload_n (k0 := 1) (i := 1) dd_X11_noVillage_0 rfl rfl ?_
  refine fs_if_lt (tgt := 15) dd_X11_noVillage_1 (by decide) (fun hc => ?_) (fun hc => ?_)
  · replace H := H.1 hc
    refine fs_iconst (n := 1) (v := 1) dd_X11_noVillage_15 (by decide) ?_
    refine fs_goto (tgt := 20) dd_X11_noVillage_16 (by decide) ?_
    exact fs_zret true dd_X11_noVillage_20 rfl rfl H
  · replace H := H.2 hc
    refine fs_iload_n (k0 := 1) (i := 1) dd_X11_noVillage_4 rfl rfl ?_
    refine fs_aload_n (k0 := 0) (i := 0) dd_X11_noVillage_5 rfl rfl ?_
    refine fs_getr (ci := 11) (j := 4) (q := 6) dd_X11_noVillage_6 fl_X11_34 ca_2 rfl (Or.inl ⟨_, rfl⟩) rfl (by decide) ?_
    refine fs_geti (ci := 9) (j := 11) dd_X11_noVillage_9 fl_X11_159 ca_6 rfl (Or.inl rfl) ?_
    refine fs_icmp_lt (tgt := 19) dd_X11_noVillage_12 (by decide) (fun hc => ?_) (fun hc => ?_)
    · replace H := H.1 hc
      refine fs_iconst (n := 0) (v := 0) dd_X11_noVillage_19 (by decide) ?_
      exact fs_zret false dd_X11_noVillage_20 rfl rfl H
    · replace H := H.2 hc
      refine fs_iconst (n := 1) (v := 1) dd_X11_noVillage_15 (by decide) ?_
      refine fs_goto (tgt := 20) dd_X11_noVillage_16 (by decide) ?_
      exact fs_zret true dd_X11_noVillage_20 rfl rfl H
theorem dd_X11_noPerson_0 : decode m_X11_noPerson.2.1 0 = .ok (.iload_n 1, 1) := by decide +kernel
theorem dd_X11_noPerson_1 : decode m_X11_noPerson.2.1 1 = .ok (.ifCond .lt 14, 3) := by decide +kernel
theorem dd_X11_noPerson_4 : decode m_X11_noPerson.2.1 4 = .ok (.iload_n 1, 1) := by decide +kernel
theorem dd_X11_noPerson_5 : decode m_X11_noPerson.2.1 5 = .ok (.aload_n 0, 1) := by decide +kernel
theorem dd_X11_noPerson_6 : decode m_X11_noPerson.2.1 6 = .ok (.getfield 34, 3) := by decide +kernel
theorem dd_X11_noPerson_9 : decode m_X11_noPerson.2.1 9 = .ok (.getfield 162, 3) := by decide +kernel
theorem dd_X11_noPerson_12 : decode m_X11_noPerson.2.1 12 = .ok (.if_icmp .lt 7, 3) := by decide +kernel
theorem dd_X11_noPerson_15 : decode m_X11_noPerson.2.1 15 = .ok (.iconst 1, 1) := by decide +kernel
theorem dd_X11_noPerson_16 : decode m_X11_noPerson.2.1 16 = .ok (.goto 4, 3) := by decide +kernel
theorem dd_X11_noPerson_19 : decode m_X11_noPerson.2.1 19 = .ok (.iconst 0, 1) := by decide +kernel
theorem dd_X11_noPerson_20 : decode m_X11_noPerson.2.1 20 = .ok (.ireturn, 1) := by decide +kernel
def wp_X11_noPerson (p0 : Int32) (s : fz_s) (Q : Bool → fz_s → Prop) : Prop :=
  ((p0 < 0 → Q true s) ∧ (¬ p0 < 0 → ((p0 < (s.1 6 12) → Q false s) ∧ (¬ p0 < (s.1 6 12) → Q true s))))
set_option maxRecDepth 100000 in
set_option maxHeartbeats 4000000 in
theorem V_X11_noPerson {g : fz_G} {l : Launch} {d : Nat} (hD : 0 ≤ d) {p0 : Int32}  {s : fz_s} {Q : Bool → fz_s → Prop} (H : wp_X11_noPerson p0 s Q) : fs_V g l m_X11_noPerson d true 0 (fz_en [.ref 2, .int p0] 2) [] s (rZ Q) := by
  unfold wp_X11_noPerson at H
  refine fs_iload_n (k0 := 1) (i := 1) dd_X11_noPerson_0 rfl rfl ?_
  refine fs_if_lt (tgt := 15) dd_X11_noPerson_1 (by decide) (fun hc => ?_) (fun hc => ?_)
  · replace H := H.1 hc
    refine fs_iconst (n := 1) (v := 1) dd_X11_noPerson_15 (by decide) ?_
    refine fs_goto (tgt := 20) dd_X11_noPerson_16 (by decide) ?_
    exact fs_zret true dd_X11_noPerson_20 rfl rfl H
  · replace H := H.2 hc
    refine fs_iload_n (k0 := 1) (i := 1) dd_X11_noPerson_4 rfl rfl ?_
    refine fs_aload_n (k0 := 0) (i := 0) dd_X11_noPerson_5 rfl rfl ?_
    refine fs_getr (ci := 11) (j := 4) (q := 6) dd_X11_noPerson_6 fl_X11_34 ca_2 rfl (Or.inl ⟨_, rfl⟩) rfl (by decide) ?_
    refine fs_geti (ci := 9) (j := 12) dd_X11_noPerson_9 fl_X11_162 ca_6 rfl (Or.inl rfl) ?_
    refine fs_icmp_lt (tgt := 19) dd_X11_noPerson_12 (by decide) (fun hc => ?_) (fun hc => ?_)
    · replace H := H.1 hc
      refine fs_iconst (n := 0) (v := 0) dd_X11_noPerson_19 (by decide) ?_
      exact fs_zret false dd_X11_noPerson_20 rfl rfl H
    · replace H := H.2 hc
      refine fs_iconst (n := 1) (v := 1) dd_X11_noPerson_15 (by decide) ?_
      refine fs_goto (tgt := 20) dd_X11_noPerson_16 (by decide) ?_
      exact fs_zret true dd_X11_noPerson_20 rfl rfl H
theorem dd_X11_noTreaty_0 : decode m_X11_noTreaty.2.1 0 = .ok (.aload_n 0, 1) := by decide +kernel
theorem dd_X11_noTreaty_1 : decode m_X11_noTreaty.2.1 1 = .ok (.getfield 34, 3) := by decide +kernel
theorem dd_X11_noTreaty_4 : decode m_X11_noTreaty.2.1 4 = .ok (.getfield 159, 3) := by decide +kernel
theorem dd_X11_noTreaty_7 : decode m_X11_noTreaty.2.1 7 = .ok (.iconst 2, 1) := by decide +kernel
theorem dd_X11_noTreaty_8 : decode m_X11_noTreaty.2.1 8 = .ok (.if_icmp .ge 7, 3) := by decide +kernel
theorem dd_X11_noTreaty_11 : decode m_X11_noTreaty.2.1 11 = .ok (.iconst 1, 1) := by decide +kernel
theorem dd_X11_noTreaty_12 : decode m_X11_noTreaty.2.1 12 = .ok (.goto 4, 3) := by decide +kernel
theorem dd_X11_noTreaty_15 : decode m_X11_noTreaty.2.1 15 = .ok (.iconst 0, 1) := by decide +kernel
theorem dd_X11_noTreaty_16 : decode m_X11_noTreaty.2.1 16 = .ok (.ireturn, 1) := by decide +kernel
def wp_X11_noTreaty  (s : fz_s) (Q : Bool → fz_s → Prop) : Prop :=
  ((2 ≤ (s.1 6 11) → Q false s) ∧ (¬ 2 ≤ (s.1 6 11) → Q true s))
set_option maxRecDepth 100000 in
set_option maxHeartbeats 4000000 in
theorem V_X11_noTreaty {g : fz_G} {l : Launch} {d : Nat} (hD : 0 ≤ d)   {s : fz_s} {Q : Bool → fz_s → Prop} (H : wp_X11_noTreaty  s Q) : fs_V g l m_X11_noTreaty d true 0 (fz_en [.ref 2] 1) [] s (rZ Q) := by
  unfold wp_X11_noTreaty at H
  refine fs_aload_n (k0 := 0) (i := 0) dd_X11_noTreaty_0 rfl rfl ?_
  refine fs_getr (ci := 11) (j := 4) (q := 6) dd_X11_noTreaty_1 fl_X11_34 ca_2 rfl (Or.inl ⟨_, rfl⟩) rfl (by decide) ?_
  refine fs_geti (ci := 9) (j := 11) dd_X11_noTreaty_4 fl_X11_159 ca_6 rfl (Or.inl rfl) ?_
  refine fs_iconst (n := 2) (v := 2) dd_X11_noTreaty_7 (by decide) ?_
  refine fs_icmp_ge (tgt := 15) dd_X11_noTreaty_8 (by decide) (fun hc => ?_) (fun hc => ?_)
  · replace H := H.1 hc
    refine fs_iconst (n := 0) (v := 0) dd_X11_noTreaty_15 (by decide) ?_
    exact fs_zret false dd_X11_noTreaty_16 rfl rfl H
  · replace H := H.2 hc
    refine fs_iconst (n := 1) (v := 1) dd_X11_noTreaty_11 (by decide) ?_
    refine fs_goto (tgt := 16) dd_X11_noTreaty_12 (by decide) ?_
    exact fs_zret true dd_X11_noTreaty_16 rfl rfl H
theorem dd_X11_beyond_0 : decode m_X11_beyond.2.1 0 = .ok (.aload_n 0, 1) := by decide +kernel
theorem dd_X11_beyond_1 : decode m_X11_beyond.2.1 1 = .ok (.getfield 63, 3) := by decide +kernel
theorem dd_X11_beyond_4 : decode m_X11_beyond.2.1 4 = .ok (.getfield 165, 3) := by decide +kernel
theorem dd_X11_beyond_7 : decode m_X11_beyond.2.1 7 = .ok (.iload_n 1, 1) := by decide +kernel
theorem dd_X11_beyond_8 : decode m_X11_beyond.2.1 8 = .ok (.iadd, 1) := by decide +kernel
theorem dd_X11_beyond_9 : decode m_X11_beyond.2.1 9 = .ok (.sipush 999, 3) := by decide +kernel
theorem dd_X11_beyond_12 : decode m_X11_beyond.2.1 12 = .ok (.if_icmp .le 7, 3) := by decide +kernel
theorem dd_X11_beyond_15 : decode m_X11_beyond.2.1 15 = .ok (.iconst 1, 1) := by decide +kernel
theorem dd_X11_beyond_16 : decode m_X11_beyond.2.1 16 = .ok (.goto 4, 3) := by decide +kernel
theorem dd_X11_beyond_19 : decode m_X11_beyond.2.1 19 = .ok (.iconst 0, 1) := by decide +kernel
theorem dd_X11_beyond_20 : decode m_X11_beyond.2.1 20 = .ok (.ireturn, 1) := by decide +kernel
def wp_X11_beyond (p0 : Int32) (s : fz_s) (Q : Bool → fz_s → Prop) : Prop :=
  ((((s.1 35 5) + p0) ≤ 999 → Q false s) ∧ (¬ ((s.1 35 5) + p0) ≤ 999 → Q true s))
set_option maxRecDepth 100000 in
set_option maxHeartbeats 4000000 in
theorem V_X11_beyond {g : fz_G} {l : Launch} {d : Nat} (hD : 0 ≤ d) {p0 : Int32}  {s : fz_s} {Q : Bool → fz_s → Prop} (H : wp_X11_beyond p0 s Q) : fs_V g l m_X11_beyond d true 0 (fz_en [.ref 2, .int p0] 2) [] s (rZ Q) := by
  unfold wp_X11_beyond at H
  refine fs_aload_n (k0 := 0) (i := 0) dd_X11_beyond_0 rfl rfl ?_
  refine fs_getr (ci := 11) (j := 8) (q := 35) dd_X11_beyond_1 fl_X11_63 ca_2 rfl (Or.inl ⟨_, rfl⟩) rfl (by decide) ?_
  refine fs_geti (ci := 10) (j := 5) dd_X11_beyond_4 fl_X11_165 ca_35 rfl (Or.inl rfl) ?_
  refine fs_iload_n (k0 := 1) (i := 1) dd_X11_beyond_7 rfl rfl ?_
  refine fs_iadd dd_X11_beyond_8 ?_
  refine fs_sipush (n := 999) (v := 999) dd_X11_beyond_9 (by decide) ?_
  refine fs_icmp_le (tgt := 19) dd_X11_beyond_12 (by decide) (fun hc => ?_) (fun hc => ?_)
  · replace H := H.1 hc
    refine fs_iconst (n := 0) (v := 0) dd_X11_beyond_19 (by decide) ?_
    exact fs_zret false dd_X11_beyond_20 rfl rfl H
  · replace H := H.2 hc
    refine fs_iconst (n := 1) (v := 1) dd_X11_beyond_15 (by decide) ?_
    refine fs_goto (tgt := 20) dd_X11_beyond_16 (by decide) ?_
    exact fs_zret true dd_X11_beyond_20 rfl rfl H
def wp_X9_letterOf_6 (p0 : Int32) (p1 : Int32) (s : fz_s) (Q : Int32 → fz_s → Prop) : Prop :=
  ∀ x1 : Int32, x1 = ((p0 * 6) + p1) → ((x1 < 0 → Q 0 s) ∧ (¬ x1 < 0 → ((x1 < (nI 60) → vp_in x1 60 ∧ Q (s.1 7 x1.toNatClampNeg) s) ∧ (¬ x1 < (nI 60) → Q 0 s))))
set_option maxRecDepth 100000 in
set_option maxHeartbeats 4000000 in
theorem V_X9_letterOf_6 {g : fz_G} {l : Launch} {d : Nat} (hD : 0 ≤ d) {p0 : Int32} {p1 : Int32}  {s : fz_s} {Q : Int32 → fz_s → Prop} (H : wp_X9_letterOf_6 p0 p1 s Q) : fs_V g l m_X9_letterOf d true 0 (fz_en [.ref 6, .int p0, .int p1] 4) [] s (rI Q) := by
  unfold wp_X9_letterOf_6 at H
  refine fs_iload_n (k0 := 1) (i := 1) dd_X9_letterOf_0 rfl rfl ?_
  refine fs_bipush (n := 6) (v := 6) dd_X9_letterOf_1 (by decide) ?_
  refine fs_imul dd_X9_letterOf_3 ?_
  refine fs_iload_n (k0 := 2) (i := 2) dd_X9_letterOf_4 rfl rfl ?_
  refine fs_iadd dd_X9_letterOf_5 ?_
  refine fs_topi (fun x1 hx1 => ?_)
  replace H := H x1 hx1
  refine fs_istore_n (k0 := 3) (i := 3) dd_X9_letterOf_6 rfl (by decide) ?_
  refine fs_iload_n (k0 := 3) (i := 3) dd_X9_letterOf_7 rfl rfl ?_
  refine fs_if_lt (tgt := 20) dd_X9_letterOf_8 (by decide) (fun hc => ?_) (fun hc => ?_)
  · replace H := H.1 hc
    refine fs_iconst (n := 0) (v := 0) dd_X9_letterOf_20 (by decide) ?_
    refine fs_goto (tgt := 30) dd_X9_letterOf_21 (by decide) ?_
    exact fs_iret dd_X9_letterOf_30 rfl H
  · replace H := H.2 hc
    refine fs_iload_n (k0 := 3) (i := 3) dd_X9_letterOf_11 rfl rfl ?_
    refine fs_aload_n (k0 := 0) (i := 0) dd_X9_letterOf_12 rfl rfl ?_
    refine fs_getr (ci := 9) (j := 0) (q := 7) dd_X9_letterOf_13 fl_X9_9 ca_6 rfl (Or.inr ⟨_, rfl⟩) rfl (by decide) ?_
    refine fs_alen dd_X9_letterOf_16 ca_7 ?_
    refine fs_icmp_lt (tgt := 24) dd_X9_letterOf_17 (by decide) (fun hc => ?_) (fun hc => ?_)
    · replace H := H.1 hc
      refine fs_aload_n (k0 := 0) (i := 0) dd_X9_letterOf_24 rfl rfl ?_
      refine fs_getr (ci := 9) (j := 0) (q := 7) dd_X9_letterOf_25 fl_X9_9 ca_6 rfl (Or.inr ⟨_, rfl⟩) rfl (by decide) ?_
      refine fs_iload_n (k0 := 3) (i := 3) dd_X9_letterOf_28 rfl rfl ?_
      have hb := H.1
      replace H := H.2
      refine fs_iald dd_X9_letterOf_29 ca_7 hb ?_
      exact fs_iret dd_X9_letterOf_30 rfl H
    · replace H := H.2 hc
      refine fs_iconst (n := 0) (v := 0) dd_X9_letterOf_20 (by decide) ?_
      refine fs_goto (tgt := 30) dd_X9_letterOf_21 (by decide) ?_
      exact fs_iret dd_X9_letterOf_30 rfl H
theorem dd_X11_letter_0 : decode m_X11_letter.2.1 0 = .ok (.iload_n 3, 1) := by decide +kernel
theorem dd_X11_letter_1 : decode m_X11_letter.2.1 1 = .ok (.ifCond .lt 9, 3) := by decide +kernel
theorem dd_X11_letter_4 : decode m_X11_letter.2.1 4 = .ok (.iload_n 3, 1) := by decide +kernel
theorem dd_X11_letter_5 : decode m_X11_letter.2.1 5 = .ok (.bipush 6, 2) := by decide +kernel
theorem dd_X11_letter_7 : decode m_X11_letter.2.1 7 = .ok (.if_icmp .lt 5, 3) := by decide +kernel
theorem dd_X11_letter_10 : decode m_X11_letter.2.1 10 = .ok (.iconst (-1), 1) := by decide +kernel
theorem dd_X11_letter_11 : decode m_X11_letter.2.1 11 = .ok (.ireturn, 1) := by decide +kernel
theorem dd_X11_letter_12 : decode m_X11_letter.2.1 12 = .ok (.iload_n 1, 1) := by decide +kernel
theorem dd_X11_letter_13 : decode m_X11_letter.2.1 13 = .ok (.ifCond .ne 21, 3) := by decide +kernel
theorem dd_X11_letter_16 : decode m_X11_letter.2.1 16 = .ok (.aload_n 0, 1) := by decide +kernel
theorem dd_X11_letter_17 : decode m_X11_letter.2.1 17 = .ok (.iload_n 2, 1) := by decide +kernel
theorem dd_X11_letter_18 : decode m_X11_letter.2.1 18 = .ok (.invokevirtual 184, 3) := by decide +kernel
theorem dd_X11_letter_21 : decode m_X11_letter.2.1 21 = .ok (.ifCond .ne 13, 3) := by decide +kernel
theorem dd_X11_letter_24 : decode m_X11_letter.2.1 24 = .ok (.aload_n 0, 1) := by decide +kernel
theorem dd_X11_letter_25 : decode m_X11_letter.2.1 25 = .ok (.getfield 34, 3) := by decide +kernel
theorem dd_X11_letter_28 : decode m_X11_letter.2.1 28 = .ok (.iload_n 2, 1) := by decide +kernel
theorem dd_X11_letter_29 : decode m_X11_letter.2.1 29 = .ok (.iload_n 3, 1) := by decide +kernel
theorem dd_X11_letter_30 : decode m_X11_letter.2.1 30 = .ok (.invokevirtual 188, 3) := by decide +kernel
theorem dd_X11_letter_33 : decode m_X11_letter.2.1 33 = .ok (.ireturn, 1) := by decide +kernel
theorem dd_X11_letter_34 : decode m_X11_letter.2.1 34 = .ok (.iload_n 1, 1) := by decide +kernel
theorem dd_X11_letter_35 : decode m_X11_letter.2.1 35 = .ok (.iconst 1, 1) := by decide +kernel
theorem dd_X11_letter_36 : decode m_X11_letter.2.1 36 = .ok (.if_icmp .ne 23, 3) := by decide +kernel
theorem dd_X11_letter_39 : decode m_X11_letter.2.1 39 = .ok (.aload_n 0, 1) := by decide +kernel
theorem dd_X11_letter_40 : decode m_X11_letter.2.1 40 = .ok (.iload_n 2, 1) := by decide +kernel
theorem dd_X11_letter_41 : decode m_X11_letter.2.1 41 = .ok (.invokevirtual 192, 3) := by decide +kernel
theorem dd_X11_letter_44 : decode m_X11_letter.2.1 44 = .ok (.ifCond .ne 15, 3) := by decide +kernel
theorem dd_X11_letter_47 : decode m_X11_letter.2.1 47 = .ok (.aload_n 0, 1) := by decide +kernel
theorem dd_X11_letter_48 : decode m_X11_letter.2.1 48 = .ok (.getfield 34, 3) := by decide +kernel
theorem dd_X11_letter_51 : decode m_X11_letter.2.1 51 = .ok (.iconst 2, 1) := by decide +kernel
theorem dd_X11_letter_52 : decode m_X11_letter.2.1 52 = .ok (.iload_n 2, 1) := by decide +kernel
theorem dd_X11_letter_53 : decode m_X11_letter.2.1 53 = .ok (.iadd, 1) := by decide +kernel
theorem dd_X11_letter_54 : decode m_X11_letter.2.1 54 = .ok (.iload_n 3, 1) := by decide +kernel
theorem dd_X11_letter_55 : decode m_X11_letter.2.1 55 = .ok (.invokevirtual 188, 3) := by decide +kernel
theorem dd_X11_letter_58 : decode m_X11_letter.2.1 58 = .ok (.ireturn, 1) := by decide +kernel
theorem dd_X11_letter_59 : decode m_X11_letter.2.1 59 = .ok (.iconst (-1), 1) := by decide +kernel
theorem dd_X11_letter_60 : decode m_X11_letter.2.1 60 = .ok (.ireturn, 1) := by decide +kernel
def nd_X11_letter_34   (Q : Int32 → fz_s → Prop) (v1 : Int32) (v2 : Int32) (v3 : Int32) (s : fz_s) : Prop :=
  ((¬ v1 = 1 → Q (-1) s) ∧ (v1 = 1 → wp_X11_noPerson v2 s (fun r1 s2 => ((r1 = true → Q (-1) s2) ∧ (r1 = false → wp_X9_letterOf_6 (2 + v2) v3 s2 (fun r3 s4 => Q r3 s4))))))
def wp_X11_letter (p0 : Int32) (p1 : Int32) (p2 : Int32) (s : fz_s) (Q : Int32 → fz_s → Prop) : Prop :=
  ((p2 < 0 → Q (-1) s) ∧ (¬ p2 < 0 → ((p2 < 6 → ((¬ p0 = 0 → nd_X11_letter_34   Q p0 p1 p2 s) ∧ (p0 = 0 → wp_X11_noVillage p1 s (fun r1 s2 => ((r1 = true → nd_X11_letter_34   Q p0 p1 p2 s2) ∧ (r1 = false → wp_X9_letterOf_6 p1 p2 s2 (fun r3 s4 => Q r3 s4))))))) ∧ (¬ p2 < 6 → Q (-1) s))))
set_option maxRecDepth 100000 in
set_option maxHeartbeats 4000000 in
theorem V_nd_X11_letter_34 {g : fz_G} {l : Launch} {d : Nat} (hD : 1 ≤ d)    {Q : Int32 → fz_s → Prop} {v1 : Int32} {v2 : Int32} {v3 : Int32} {s : fz_s}  (H : nd_X11_letter_34   Q v1 v2 v3 s) : fs_V g l m_X11_letter d true 34 [.ref 2, .int v1, .int v2, .int v3] [] s (rI Q) := by
  obtain ⟨d, rfl⟩ : ∃ e, d = e + 1 := ⟨d - 1, by omega⟩
  unfold nd_X11_letter_34 at H
  refine fs_iload_n (k0 := 1) (i := 1) dd_X11_letter_34 rfl rfl ?_
  refine fs_iconst (n := 1) (v := 1) dd_X11_letter_35 (by decide) ?_
  refine fs_icmp_ne (tgt := 59) dd_X11_letter_36 (by decide) (fun hc => ?_) (fun hc => ?_)
  · replace H := H.1 hc
    refine fs_iconst (n := -1) (v := -1) dd_X11_letter_59 (by decide) ?_
    exact fs_iret dd_X11_letter_60 rfl H
  · replace H := H.2 hc
    refine fs_aload_n (k0 := 0) (i := 0) dd_X11_letter_39 rfl rfl ?_
    refine fs_iload_n (k0 := 2) (i := 2) dd_X11_letter_40 rfl rfl ?_
    refine fs_callV (y := m_X11_noPerson) (as := [.int v2]) dd_X11_letter_41 me_X11_noPerson lk_X11_192 in_X11_noPerson se_X11_noPerson ca_2 rfl rfl rfl (Nat.le_of_ble_eq_true rfl) (Nat.le_of_ble_eq_true rfl) rfl (V_X11_noPerson (by omega)  H) (k2_Z fun r1 s2 H => ?_)
    refine fs_if_ne (tgt := 59) dd_X11_letter_44 (by decide) (fun hc => ?_) (fun hc => ?_)
    · replace H := H.1 (bi_1 hc)
      refine fs_iconst (n := -1) (v := -1) dd_X11_letter_59 (by decide) ?_
      exact fs_iret dd_X11_letter_60 rfl H
    · replace H := H.2 (bi_0 hc)
      refine fs_aload_n (k0 := 0) (i := 0) dd_X11_letter_47 rfl rfl ?_
      refine fs_getr (ci := 11) (j := 4) (q := 6) dd_X11_letter_48 fl_X11_34 ca_2 rfl (Or.inl ⟨_, rfl⟩) rfl (by decide) ?_
      refine fs_iconst (n := 2) (v := 2) dd_X11_letter_51 (by decide) ?_
      refine fs_iload_n (k0 := 2) (i := 2) dd_X11_letter_52 rfl rfl ?_
      refine fs_iadd dd_X11_letter_53 ?_
      refine fs_iload_n (k0 := 3) (i := 3) dd_X11_letter_54 rfl rfl ?_
      refine fs_callV (y := m_X9_letterOf) (as := [.int (2 + v2), .int v3]) dd_X11_letter_55 me_X9_letterOf lk_X11_188 in_X9_letterOf se_X9_letterOf ca_6 rfl rfl rfl (Nat.le_of_ble_eq_true rfl) (Nat.le_of_ble_eq_true rfl) rfl (V_X9_letterOf_6 (by omega)  H) (k2_I fun r3 s4 H => ?_)
      exact fs_iret dd_X11_letter_58 rfl H
set_option maxRecDepth 100000 in
set_option maxHeartbeats 4000000 in
theorem V_X11_letter {g : fz_G} {l : Launch} {d : Nat} (hD : 1 ≤ d) {p0 : Int32} {p1 : Int32} {p2 : Int32}  {s : fz_s} {Q : Int32 → fz_s → Prop} (H : wp_X11_letter p0 p1 p2 s Q) : fs_V g l m_X11_letter d true 0 (fz_en [.ref 2, .int p0, .int p1, .int p2] 4) [] s (rI Q) := by
  obtain ⟨d, rfl⟩ : ∃ e, d = e + 1 := ⟨d - 1, by omega⟩
  unfold wp_X11_letter at H
  refine fs_iload_n (k0 := 3) (i := 3) dd_X11_letter_0 rfl rfl ?_
  refine fs_if_lt (tgt := 10) dd_X11_letter_1 (by decide) (fun hc => ?_) (fun hc => ?_)
  · replace H := H.1 hc
    refine fs_iconst (n := -1) (v := -1) dd_X11_letter_10 (by decide) ?_
    exact fs_iret dd_X11_letter_11 rfl H
  · replace H := H.2 hc
    refine fs_iload_n (k0 := 3) (i := 3) dd_X11_letter_4 rfl rfl ?_
    refine fs_bipush (n := 6) (v := 6) dd_X11_letter_5 (by decide) ?_
    refine fs_icmp_lt (tgt := 12) dd_X11_letter_7 (by decide) (fun hc => ?_) (fun hc => ?_)
    · replace H := H.1 hc
      refine fs_iload_n (k0 := 1) (i := 1) dd_X11_letter_12 rfl rfl ?_
      refine fs_if_ne (tgt := 34) dd_X11_letter_13 (by decide) (fun hc => ?_) (fun hc => ?_)
      · replace H := H.1 hc
        refine fs_weak (ls2 := [.ref 2, .int p0, .int p1, .int p2]) (fz_le_e (fz_le_e (fz_le_e (fz_le_e fz_le_n)))) ?_
        exact V_nd_X11_letter_34 hD    H
      · replace H := H.2 hc
        refine fs_aload_n (k0 := 0) (i := 0) dd_X11_letter_16 rfl rfl ?_
        refine fs_iload_n (k0 := 2) (i := 2) dd_X11_letter_17 rfl rfl ?_
        refine fs_callV (y := m_X11_noVillage) (as := [.int p1]) dd_X11_letter_18 me_X11_noVillage lk_X11_184 in_X11_noVillage se_X11_noVillage ca_2 rfl rfl rfl (Nat.le_of_ble_eq_true rfl) (Nat.le_of_ble_eq_true rfl) rfl (V_X11_noVillage (by omega)  H) (k2_Z fun r1 s2 H => ?_)
        refine fs_if_ne (tgt := 34) dd_X11_letter_21 (by decide) (fun hc => ?_) (fun hc => ?_)
        · replace H := H.1 (bi_1 hc)
          refine fs_weak (ls2 := [.ref 2, .int p0, .int p1, .int p2]) (fz_le_e (fz_le_e (fz_le_e (fz_le_e fz_le_n)))) ?_
          exact V_nd_X11_letter_34 hD    H
        · replace H := H.2 (bi_0 hc)
          refine fs_aload_n (k0 := 0) (i := 0) dd_X11_letter_24 rfl rfl ?_
          refine fs_getr (ci := 11) (j := 4) (q := 6) dd_X11_letter_25 fl_X11_34 ca_2 rfl (Or.inl ⟨_, rfl⟩) rfl (by decide) ?_
          refine fs_iload_n (k0 := 2) (i := 2) dd_X11_letter_28 rfl rfl ?_
          refine fs_iload_n (k0 := 3) (i := 3) dd_X11_letter_29 rfl rfl ?_
          refine fs_callV (y := m_X9_letterOf) (as := [.int p1, .int p2]) dd_X11_letter_30 me_X9_letterOf lk_X11_188 in_X9_letterOf se_X9_letterOf ca_6 rfl rfl rfl (Nat.le_of_ble_eq_true rfl) (Nat.le_of_ble_eq_true rfl) rfl (V_X9_letterOf_6 (by omega)  H) (k2_I fun r3 s4 H => ?_)
          exact fs_iret dd_X11_letter_33 rfl H
    · replace H := H.2 hc
      refine fs_iconst (n := -1) (v := -1) dd_X11_letter_10 (by decide) ?_
      exact fs_iret dd_X11_letter_11 rfl H
theorem dd_X0_countLiving_0 : decode m_X0_countLiving.2.1 0 = .ok (.iconst 0, 1) := by decide +kernel
theorem dd_X0_countLiving_1 : decode m_X0_countLiving.2.1 1 = .ok (.istore_n 3, 1) := by decide +kernel
theorem dd_X0_countLiving_2 : decode m_X0_countLiving.2.1 2 = .ok (.iconst 0, 1) := by decide +kernel
theorem dd_X0_countLiving_3 : decode m_X0_countLiving.2.1 3 = .ok (.istore 4, 2) := by decide +kernel
theorem dd_X0_countLiving_5 : decode m_X0_countLiving.2.1 5 = .ok (.iload 4, 2) := by decide +kernel
theorem dd_X0_countLiving_7 : decode m_X0_countLiving.2.1 7 = .ok (.aload_n 0, 1) := by decide +kernel
theorem dd_X0_countLiving_8 : decode m_X0_countLiving.2.1 8 = .ok (.getfield 15, 3) := by decide +kernel
theorem dd_X0_countLiving_11 : decode m_X0_countLiving.2.1 11 = .ok (.getfield 77, 3) := by decide +kernel
theorem dd_X0_countLiving_14 : decode m_X0_countLiving.2.1 14 = .ok (.if_icmp .ge 31, 3) := by decide +kernel
theorem dd_X0_countLiving_17 : decode m_X0_countLiving.2.1 17 = .ok (.iload_n 3, 1) := by decide +kernel
theorem dd_X0_countLiving_18 : decode m_X0_countLiving.2.1 18 = .ok (.aload_n 1, 1) := by decide +kernel
theorem dd_X0_countLiving_19 : decode m_X0_countLiving.2.1 19 = .ok (.getfield 71, 3) := by decide +kernel
theorem dd_X0_countLiving_22 : decode m_X0_countLiving.2.1 22 = .ok (.iload 4, 2) := by decide +kernel
theorem dd_X0_countLiving_24 : decode m_X0_countLiving.2.1 24 = .ok (.iaload, 1) := by decide +kernel
theorem dd_X0_countLiving_25 : decode m_X0_countLiving.2.1 25 = .ok (.iload_n 2, 1) := by decide +kernel
theorem dd_X0_countLiving_26 : decode m_X0_countLiving.2.1 26 = .ok (.if_icmp .ne 7, 3) := by decide +kernel
theorem dd_X0_countLiving_29 : decode m_X0_countLiving.2.1 29 = .ok (.iconst 1, 1) := by decide +kernel
theorem dd_X0_countLiving_30 : decode m_X0_countLiving.2.1 30 = .ok (.goto 4, 3) := by decide +kernel
theorem dd_X0_countLiving_33 : decode m_X0_countLiving.2.1 33 = .ok (.iconst 0, 1) := by decide +kernel
theorem dd_X0_countLiving_34 : decode m_X0_countLiving.2.1 34 = .ok (.invokestatic 84, 3) := by decide +kernel
theorem dd_X0_countLiving_37 : decode m_X0_countLiving.2.1 37 = .ok (.iadd, 1) := by decide +kernel
theorem dd_X0_countLiving_38 : decode m_X0_countLiving.2.1 38 = .ok (.istore_n 3, 1) := by decide +kernel
theorem dd_X0_countLiving_39 : decode m_X0_countLiving.2.1 39 = .ok (.iinc 4 1, 3) := by decide +kernel
theorem dd_X0_countLiving_42 : decode m_X0_countLiving.2.1 42 = .ok (.goto (-37), 3) := by decide +kernel
theorem dd_X0_countLiving_45 : decode m_X0_countLiving.2.1 45 = .ok (.iload_n 3, 1) := by decide +kernel
theorem dd_X0_countLiving_46 : decode m_X0_countLiving.2.1 46 = .ok (.ireturn, 1) := by decide +kernel
def nd_X0_countLiving_34 (w0 : Nat) (K5 : Int32 → Int32 → Int32 → fz_s → Prop) (Q : Int32 → fz_s → Prop) (v2 : Int32) (v4 : Int32) (u0 : Bool) (u1 : Int32) (s : fz_s) : Prop :=
  wp_X11_bit u0 s (fun r1 s2 => ∀ x3 : Int32, x3 = (u1 + r1) → ∀ x4 : Int32, x4 = v4 + 1 → K5 v2 x3 x4 s2)
def nd_X0_countLiving_5 (w0 : Nat) (K5 : Int32 → Int32 → Int32 → fz_s → Prop) (Q : Int32 → fz_s → Prop) (v2 : Int32) (v3 : Int32) (v4 : Int32) (s : fz_s) : Prop :=
  (((s.1 6 12) ≤ v4 → Q v3 s) ∧ (¬ (s.1 6 12) ≤ v4 → vp_in v4 8 ∧ ((¬ (s.1 (w0 + 1 + 3) v4.toNatClampNeg) = v2 → nd_X0_countLiving_34 w0 K5 Q v2 v4 false v3 s) ∧ ((s.1 (w0 + 1 + 3) v4.toNatClampNeg) = v2 → nd_X0_countLiving_34 w0 K5 Q v2 v4 true v3 s))))
def lp_X0_countLiving_5 (w0 : Nat)  (Q : Int32 → fz_s → Prop) : Nat → Int32 → Int32 → Int32 → fz_s → Prop
  | 0 => fun _ _ _ _ => False
  | n + 1 => nd_X0_countLiving_5 w0 (lp_X0_countLiving_5 w0  Q n) Q
def wp_X0_countLiving (w0 : Nat) (p1 : Int32) (s : fz_s) (Q : Int32 → fz_s → Prop) : Prop :=
  lp_X0_countLiving_5 w0  Q 2048 p1 0 0 s
set_option maxRecDepth 100000 in
set_option maxHeartbeats 4000000 in
theorem V_nd_X0_countLiving_34 {g : fz_G} {l : Launch} {d : Nat} (hD : 1 ≤ d) {w0 : Nat} (hw0 : fz_at true w0 10 7) {K5 : Int32 → Int32 → Int32 → fz_s → Prop} {Q : Int32 → fz_s → Prop} {v2 : Int32} {v4 : Int32} {u0 : Bool} {u1 : Int32} {s : fz_s} (hK5 : ∀ {v2 : Int32} {v3 : Int32} {v4 : Int32} {s : fz_s}, K5 v2 v3 v4 s → fs_V g l m_X0_countLiving d true 5 [.ref 30, .ref w0, .int v2, .int v3, .int v4] [] s (rI Q)) (H : nd_X0_countLiving_34 w0 K5 Q v2 v4 u0 u1 s) : fs_V g l m_X0_countLiving d true 34 [.ref 30, .ref w0, .int v2, fz_J, .int v4] [.int (bi u0), .int u1] s (rI Q) := by
  obtain ⟨d, rfl⟩ : ∃ e, d = e + 1 := ⟨d - 1, by omega⟩
  unfold nd_X0_countLiving_34 at H
  refine fs_callS (y := m_X11_bit) (as := [.int (bi u0)]) dd_X0_countLiving_34 me_X11_bit (Or.inr ⟨_, ln_X0_84⟩) st_X11_bit rfl (Nat.le_of_ble_eq_true rfl) (Nat.le_of_ble_eq_true rfl) rfl (V_X11_bit (by omega)  H) (k2_I fun r1 s2 H => ?_)
  refine fs_iadd dd_X0_countLiving_37 ?_
  refine fs_topi (fun x3 hx3 => ?_)
  replace H := H x3 hx3
  refine fs_istore_n (k0 := 3) (i := 3) dd_X0_countLiving_38 rfl (by decide) ?_
  refine fs_iincN (i := 4) (m := 1) (c := 1) dd_X0_countLiving_39 rfl (by decide) (by decide) (fun x4 hx4 => ?_)
  replace H := H x4 hx4
  refine fs_goto (tgt := 5) dd_X0_countLiving_42 (by decide) ?_
  refine fs_weak (ls2 := [.ref 30, .ref w0, .int v2, .int x3, .int x4]) (fz_le_e (fz_le_e (fz_le_e (fz_le_e (fz_le_e fz_le_n))))) ?_
  exact hK5 H
set_option maxRecDepth 100000 in
set_option maxHeartbeats 4000000 in
theorem V_nd_X0_countLiving_5 {g : fz_G} {l : Launch} {d : Nat} (hD : 1 ≤ d) {w0 : Nat} (hw0 : fz_at true w0 10 7) {K5 : Int32 → Int32 → Int32 → fz_s → Prop} {Q : Int32 → fz_s → Prop} {v2 : Int32} {v3 : Int32} {v4 : Int32} {s : fz_s} (hK5 : ∀ {v2 : Int32} {v3 : Int32} {v4 : Int32} {s : fz_s}, K5 v2 v3 v4 s → fs_V g l m_X0_countLiving d true 5 [.ref 30, .ref w0, .int v2, .int v3, .int v4] [] s (rI Q)) (H : nd_X0_countLiving_5 w0 K5 Q v2 v3 v4 s) : fs_V g l m_X0_countLiving d true 5 [.ref 30, .ref w0, .int v2, .int v3, .int v4] [] s (rI Q) := by
  obtain ⟨d, rfl⟩ : ∃ e, d = e + 1 := ⟨d - 1, by omega⟩
  unfold nd_X0_countLiving_5 at H
  refine fs_iload (i := 4) dd_X0_countLiving_5 rfl ?_
  refine fs_aload_n (k0 := 0) (i := 0) dd_X0_countLiving_7 rfl rfl ?_
  refine fs_getr (ci := 0) (j := 0) (q := 6) dd_X0_countLiving_8 fl_X0_15 ca_30 rfl (Or.inl ⟨_, rfl⟩) rfl (by decide) ?_
  refine fs_geti (ci := 9) (j := 12) dd_X0_countLiving_11 fl_X0_77 ca_6 rfl (Or.inl rfl) ?_
  refine fs_icmp_ge (tgt := 45) dd_X0_countLiving_14 (by decide) (fun hc => ?_) (fun hc => ?_)
  · replace H := H.1 hc
    refine fs_iload_n (k0 := 3) (i := 3) dd_X0_countLiving_45 rfl rfl ?_
    exact fs_iret dd_X0_countLiving_46 rfl H
  · replace H := H.2 hc
    refine fs_iload_n (k0 := 3) (i := 3) dd_X0_countLiving_17 rfl rfl ?_
    refine fs_aload_n (k0 := 1) (i := 1) dd_X0_countLiving_18 rfl rfl ?_
    refine fs_getr (ci := 10) (j := 3) (q := (w0 + 1 + 3)) dd_X0_countLiving_19 fl_X0_71 hw0 rfl (Or.inr ⟨_, rfl⟩) ((fz_W hw0).1 3 (by decide)) (fun q => (fz_W hw0).2.2.2 q.1) ?_
    refine fs_iload (i := 4) dd_X0_countLiving_22 rfl ?_
    have hb := H.1
    replace H := H.2
    refine fs_iald dd_X0_countLiving_24 ((fz_W hw0).2.2.1 3 (by decide) (by decide)) hb ?_
    refine fs_iload_n (k0 := 2) (i := 2) dd_X0_countLiving_25 rfl rfl ?_
    refine fs_icmp_ne (tgt := 33) dd_X0_countLiving_26 (by decide) (fun hc => ?_) (fun hc => ?_)
    · replace H := H.1 hc
      refine fs_iconst (n := 0) (v := 0) dd_X0_countLiving_33 (by decide) ?_
      refine fs_weak (ls2 := [.ref 30, .ref w0, .int v2, fz_J, .int v4]) (fz_le_e (fz_le_e (fz_le_e (fz_le_j (fz_le_e fz_le_n))))) ?_
      exact V_nd_X0_countLiving_34 hD  hw0 hK5 H
    · replace H := H.2 hc
      refine fs_iconst (n := 1) (v := 1) dd_X0_countLiving_29 (by decide) ?_
      refine fs_goto (tgt := 34) dd_X0_countLiving_30 (by decide) ?_
      refine fs_weak (ls2 := [.ref 30, .ref w0, .int v2, fz_J, .int v4]) (fz_le_e (fz_le_e (fz_le_e (fz_le_j (fz_le_e fz_le_n))))) ?_
      exact V_nd_X0_countLiving_34 hD  hw0 hK5 H
set_option maxRecDepth 100000 in
set_option maxHeartbeats 4000000 in
theorem V_lp_X0_countLiving_5 {g : fz_G} {l : Launch} {d : Nat} (hD : 1 ≤ d) {w0 : Nat} (hw0 : fz_at true w0 10 7)  {Q : Int32 → fz_s → Prop}  (n : Nat) : ∀ {v2 : Int32} {v3 : Int32} {v4 : Int32} {s : fz_s}, lp_X0_countLiving_5 w0  Q n v2 v3 v4 s → fs_V g l m_X0_countLiving d true 5 [.ref 30, .ref w0, .int v2, .int v3, .int v4] [] s (rI Q) := by
  induction n with
  | zero => intro v2 v3 v4 s H; exact H.elim
  | succ n ih => intro v2 v3 v4 s H; exact V_nd_X0_countLiving_5 hD hw0 (fun H => ih H) H
set_option maxRecDepth 100000 in
set_option maxHeartbeats 4000000 in
theorem V_X0_countLiving {g : fz_G} {l : Launch} {d : Nat} (hD : 1 ≤ d) {w0 : Nat} {p1 : Int32} (hw0 : fz_at true w0 10 7) {s : fz_s} {Q : Int32 → fz_s → Prop} (H : wp_X0_countLiving w0 p1 s Q) : fs_V g l m_X0_countLiving d true 0 (fz_en [.ref 30, .ref w0, .int p1] 5) [] s (rI Q) := by
  obtain ⟨d, rfl⟩ : ∃ e, d = e + 1 := ⟨d - 1, by omega⟩
  unfold wp_X0_countLiving at H
  refine fs_iconst (n := 0) (v := 0) dd_X0_countLiving_0 (by decide) ?_
  refine fs_istore_n (k0 := 3) (i := 3) dd_X0_countLiving_1 rfl (by decide) ?_
  refine fs_iconst (n := 0) (v := 0) dd_X0_countLiving_2 (by decide) ?_
  refine fs_istore (i := 4) dd_X0_countLiving_3 (by decide) ?_
  refine fs_weak (ls2 := [.ref 30, .ref w0, .int p1, .int 0, .int 0]) (fz_le_e (fz_le_e (fz_le_e (fz_le_e (fz_le_e fz_le_n))))) ?_
  exact V_lp_X0_countLiving_5 hD  hw0  2048 H
theorem dd_X0_canSend_0 : decode m_X0_canSend.2.1 0 = .ok (.aload_n 0, 1) := by decide +kernel
theorem dd_X0_canSend_1 : decode m_X0_canSend.2.1 1 = .ok (.getfield 15, 3) := by decide +kernel
theorem dd_X0_canSend_4 : decode m_X0_canSend.2.1 4 = .ok (.getfield 74, 3) := by decide +kernel
theorem dd_X0_canSend_7 : decode m_X0_canSend.2.1 7 = .ok (.iload_n 2, 1) := by decide +kernel
theorem dd_X0_canSend_8 : decode m_X0_canSend.2.1 8 = .ok (.iaload, 1) := by decide +kernel
theorem dd_X0_canSend_9 : decode m_X0_canSend.2.1 9 = .ok (.iload_n 3, 1) := by decide +kernel
theorem dd_X0_canSend_10 : decode m_X0_canSend.2.1 10 = .ok (.if_icmp .ne 17, 3) := by decide +kernel
theorem dd_X0_canSend_13 : decode m_X0_canSend.2.1 13 = .ok (.aload_n 1, 1) := by decide +kernel
theorem dd_X0_canSend_14 : decode m_X0_canSend.2.1 14 = .ok (.getfield 71, 3) := by decide +kernel
theorem dd_X0_canSend_17 : decode m_X0_canSend.2.1 17 = .ok (.iload_n 2, 1) := by decide +kernel
theorem dd_X0_canSend_18 : decode m_X0_canSend.2.1 18 = .ok (.iaload, 1) := by decide +kernel
theorem dd_X0_canSend_19 : decode m_X0_canSend.2.1 19 = .ok (.iload_n 3, 1) := by decide +kernel
theorem dd_X0_canSend_20 : decode m_X0_canSend.2.1 20 = .ok (.if_icmp .ne 7, 3) := by decide +kernel
theorem dd_X0_canSend_23 : decode m_X0_canSend.2.1 23 = .ok (.iconst 1, 1) := by decide +kernel
theorem dd_X0_canSend_24 : decode m_X0_canSend.2.1 24 = .ok (.goto 4, 3) := by decide +kernel
theorem dd_X0_canSend_27 : decode m_X0_canSend.2.1 27 = .ok (.iconst 0, 1) := by decide +kernel
theorem dd_X0_canSend_28 : decode m_X0_canSend.2.1 28 = .ok (.ireturn, 1) := by decide +kernel
def wp_X0_canSend (w0 : Nat) (p1 : Int32) (p2 : Int32) (s : fz_s) (Q : Bool → fz_s → Prop) : Prop :=
  vp_in p1 8 ∧ ((¬ (s.1 10 p1.toNatClampNeg) = p2 → Q false s) ∧ ((s.1 10 p1.toNatClampNeg) = p2 → vp_in p1 8 ∧ ((¬ (s.1 (w0 + 1 + 3) p1.toNatClampNeg) = p2 → Q false s) ∧ ((s.1 (w0 + 1 + 3) p1.toNatClampNeg) = p2 → Q true s))))
set_option maxRecDepth 100000 in
set_option maxHeartbeats 4000000 in
theorem V_X0_canSend {g : fz_G} {l : Launch} {d : Nat} (hD : 0 ≤ d) {w0 : Nat} {p1 : Int32} {p2 : Int32} (hw0 : fz_at true w0 10 7) {s : fz_s} {Q : Bool → fz_s → Prop} (H : wp_X0_canSend w0 p1 p2 s Q) : fs_V g l m_X0_canSend d true 0 (fz_en [.ref 30, .ref w0, .int p1, .int p2] 4) [] s (rZ Q) := by
  unfold wp_X0_canSend at H
  refine fs_aload_n (k0 := 0) (i := 0) dd_X0_canSend_0 rfl rfl ?_
  refine fs_getr (ci := 0) (j := 0) (q := 6) dd_X0_canSend_1 fl_X0_15 ca_30 rfl (Or.inl ⟨_, rfl⟩) rfl (by decide) ?_
  refine fs_getr (ci := 9) (j := 3) (q := 10) dd_X0_canSend_4 fl_X0_74 ca_6 rfl (Or.inr ⟨_, rfl⟩) rfl (by decide) ?_
  refine fs_iload_n (k0 := 2) (i := 2) dd_X0_canSend_7 rfl rfl ?_
  have hb := H.1
  replace H := H.2
  refine fs_iald dd_X0_canSend_8 ca_10 hb ?_
  refine fs_iload_n (k0 := 3) (i := 3) dd_X0_canSend_9 rfl rfl ?_
  refine fs_icmp_ne (tgt := 27) dd_X0_canSend_10 (by decide) (fun hc => ?_) (fun hc => ?_)
  · replace H := H.1 hc
    refine fs_iconst (n := 0) (v := 0) dd_X0_canSend_27 (by decide) ?_
    exact fs_zret false dd_X0_canSend_28 rfl rfl H
  · replace H := H.2 hc
    refine fs_aload_n (k0 := 1) (i := 1) dd_X0_canSend_13 rfl rfl ?_
    refine fs_getr (ci := 10) (j := 3) (q := (w0 + 1 + 3)) dd_X0_canSend_14 fl_X0_71 hw0 rfl (Or.inr ⟨_, rfl⟩) ((fz_W hw0).1 3 (by decide)) (fun q => (fz_W hw0).2.2.2 q.1) ?_
    refine fs_iload_n (k0 := 2) (i := 2) dd_X0_canSend_17 rfl rfl ?_
    have hb := H.1
    replace H := H.2
    refine fs_iald dd_X0_canSend_18 ((fz_W hw0).2.2.1 3 (by decide) (by decide)) hb ?_
    refine fs_iload_n (k0 := 3) (i := 3) dd_X0_canSend_19 rfl rfl ?_
    refine fs_icmp_ne (tgt := 27) dd_X0_canSend_20 (by decide) (fun hc => ?_) (fun hc => ?_)
    · replace H := H.1 hc
      refine fs_iconst (n := 0) (v := 0) dd_X0_canSend_27 (by decide) ?_
      exact fs_zret false dd_X0_canSend_28 rfl rfl H
    · replace H := H.2 hc
      refine fs_iconst (n := 1) (v := 1) dd_X0_canSend_23 (by decide) ?_
      refine fs_goto (tgt := 28) dd_X0_canSend_24 (by decide) ?_
      exact fs_zret true dd_X0_canSend_28 rfl rfl H
theorem dd_X0_countOwn_0 : decode m_X0_countOwn.2.1 0 = .ok (.iconst 0, 1) := by decide +kernel
theorem dd_X0_countOwn_1 : decode m_X0_countOwn.2.1 1 = .ok (.istore_n 3, 1) := by decide +kernel
theorem dd_X0_countOwn_2 : decode m_X0_countOwn.2.1 2 = .ok (.iconst 0, 1) := by decide +kernel
theorem dd_X0_countOwn_3 : decode m_X0_countOwn.2.1 3 = .ok (.istore 4, 2) := by decide +kernel
theorem dd_X0_countOwn_5 : decode m_X0_countOwn.2.1 5 = .ok (.iload 4, 2) := by decide +kernel
theorem dd_X0_countOwn_7 : decode m_X0_countOwn.2.1 7 = .ok (.aload_n 0, 1) := by decide +kernel
theorem dd_X0_countOwn_8 : decode m_X0_countOwn.2.1 8 = .ok (.getfield 15, 3) := by decide +kernel
theorem dd_X0_countOwn_11 : decode m_X0_countOwn.2.1 11 = .ok (.getfield 77, 3) := by decide +kernel
theorem dd_X0_countOwn_14 : decode m_X0_countOwn.2.1 14 = .ok (.if_icmp .ge 23, 3) := by decide +kernel
theorem dd_X0_countOwn_17 : decode m_X0_countOwn.2.1 17 = .ok (.iload_n 3, 1) := by decide +kernel
theorem dd_X0_countOwn_18 : decode m_X0_countOwn.2.1 18 = .ok (.aload_n 0, 1) := by decide +kernel
theorem dd_X0_countOwn_19 : decode m_X0_countOwn.2.1 19 = .ok (.aload_n 1, 1) := by decide +kernel
theorem dd_X0_countOwn_20 : decode m_X0_countOwn.2.1 20 = .ok (.iload 4, 2) := by decide +kernel
theorem dd_X0_countOwn_22 : decode m_X0_countOwn.2.1 22 = .ok (.iload_n 2, 1) := by decide +kernel
theorem dd_X0_countOwn_23 : decode m_X0_countOwn.2.1 23 = .ok (.invokevirtual 80, 3) := by decide +kernel
theorem dd_X0_countOwn_26 : decode m_X0_countOwn.2.1 26 = .ok (.invokestatic 84, 3) := by decide +kernel
theorem dd_X0_countOwn_29 : decode m_X0_countOwn.2.1 29 = .ok (.iadd, 1) := by decide +kernel
theorem dd_X0_countOwn_30 : decode m_X0_countOwn.2.1 30 = .ok (.istore_n 3, 1) := by decide +kernel
theorem dd_X0_countOwn_31 : decode m_X0_countOwn.2.1 31 = .ok (.iinc 4 1, 3) := by decide +kernel
theorem dd_X0_countOwn_34 : decode m_X0_countOwn.2.1 34 = .ok (.goto (-29), 3) := by decide +kernel
theorem dd_X0_countOwn_37 : decode m_X0_countOwn.2.1 37 = .ok (.iload_n 3, 1) := by decide +kernel
theorem dd_X0_countOwn_38 : decode m_X0_countOwn.2.1 38 = .ok (.ireturn, 1) := by decide +kernel
def nd_X0_countOwn_5 (w0 : Nat) (K5 : Int32 → Int32 → Int32 → fz_s → Prop) (Q : Int32 → fz_s → Prop) (v2 : Int32) (v3 : Int32) (v4 : Int32) (s : fz_s) : Prop :=
  (((s.1 6 12) ≤ v4 → Q v3 s) ∧ (¬ (s.1 6 12) ≤ v4 → wp_X0_canSend w0 v4 v2 s (fun r1 s2 => wp_X11_bit r1 s2 (fun r3 s4 => ∀ x5 : Int32, x5 = (v3 + r3) → ∀ x6 : Int32, x6 = v4 + 1 → K5 v2 x5 x6 s4))))
def lp_X0_countOwn_5 (w0 : Nat)  (Q : Int32 → fz_s → Prop) : Nat → Int32 → Int32 → Int32 → fz_s → Prop
  | 0 => fun _ _ _ _ => False
  | n + 1 => nd_X0_countOwn_5 w0 (lp_X0_countOwn_5 w0  Q n) Q
def wp_X0_countOwn (w0 : Nat) (p1 : Int32) (s : fz_s) (Q : Int32 → fz_s → Prop) : Prop :=
  lp_X0_countOwn_5 w0  Q 2048 p1 0 0 s
set_option maxRecDepth 100000 in
set_option maxHeartbeats 4000000 in
theorem V_nd_X0_countOwn_5 {g : fz_G} {l : Launch} {d : Nat} (hD : 1 ≤ d) {w0 : Nat} (hw0 : fz_at true w0 10 7) {K5 : Int32 → Int32 → Int32 → fz_s → Prop} {Q : Int32 → fz_s → Prop} {v2 : Int32} {v3 : Int32} {v4 : Int32} {s : fz_s} (hK5 : ∀ {v2 : Int32} {v3 : Int32} {v4 : Int32} {s : fz_s}, K5 v2 v3 v4 s → fs_V g l m_X0_countOwn d true 5 [.ref 30, .ref w0, .int v2, .int v3, .int v4] [] s (rI Q)) (H : nd_X0_countOwn_5 w0 K5 Q v2 v3 v4 s) : fs_V g l m_X0_countOwn d true 5 [.ref 30, .ref w0, .int v2, .int v3, .int v4] [] s (rI Q) := by
  obtain ⟨d, rfl⟩ : ∃ e, d = e + 1 := ⟨d - 1, by omega⟩
  unfold nd_X0_countOwn_5 at H
  refine fs_iload (i := 4) dd_X0_countOwn_5 rfl ?_
  refine fs_aload_n (k0 := 0) (i := 0) dd_X0_countOwn_7 rfl rfl ?_
  refine fs_getr (ci := 0) (j := 0) (q := 6) dd_X0_countOwn_8 fl_X0_15 ca_30 rfl (Or.inl ⟨_, rfl⟩) rfl (by decide) ?_
  refine fs_geti (ci := 9) (j := 12) dd_X0_countOwn_11 fl_X0_77 ca_6 rfl (Or.inl rfl) ?_
  refine fs_icmp_ge (tgt := 37) dd_X0_countOwn_14 (by decide) (fun hc => ?_) (fun hc => ?_)
  · replace H := H.1 hc
    refine fs_iload_n (k0 := 3) (i := 3) dd_X0_countOwn_37 rfl rfl ?_
    exact fs_iret dd_X0_countOwn_38 rfl H
  · replace H := H.2 hc
    refine fs_iload_n (k0 := 3) (i := 3) dd_X0_countOwn_17 rfl rfl ?_
    refine fs_aload_n (k0 := 0) (i := 0) dd_X0_countOwn_18 rfl rfl ?_
    refine fs_aload_n (k0 := 1) (i := 1) dd_X0_countOwn_19 rfl rfl ?_
    refine fs_iload (i := 4) dd_X0_countOwn_20 rfl ?_
    refine fs_iload_n (k0 := 2) (i := 2) dd_X0_countOwn_22 rfl rfl ?_
    refine fs_callV (y := m_X0_canSend) (as := [.ref w0, .int v4, .int v2]) dd_X0_countOwn_23 me_X0_canSend lk_X0_80 in_X0_canSend se_X0_canSend ca_30 rfl rfl rfl (Nat.le_of_ble_eq_true rfl) (Nat.le_of_ble_eq_true rfl) rfl (V_X0_canSend (by omega) hw0 H) (k2_Z fun r1 s2 H => ?_)
    refine fs_callS (y := m_X11_bit) (as := [.int (bi r1)]) dd_X0_countOwn_26 me_X11_bit (Or.inr ⟨_, ln_X0_84⟩) st_X11_bit rfl (Nat.le_of_ble_eq_true rfl) (Nat.le_of_ble_eq_true rfl) rfl (V_X11_bit (by omega)  H) (k2_I fun r3 s4 H => ?_)
    refine fs_iadd dd_X0_countOwn_29 ?_
    refine fs_topi (fun x5 hx5 => ?_)
    replace H := H x5 hx5
    refine fs_istore_n (k0 := 3) (i := 3) dd_X0_countOwn_30 rfl (by decide) ?_
    refine fs_iincN (i := 4) (m := 1) (c := 1) dd_X0_countOwn_31 rfl (by decide) (by decide) (fun x6 hx6 => ?_)
    replace H := H x6 hx6
    refine fs_goto (tgt := 5) dd_X0_countOwn_34 (by decide) ?_
    refine fs_weak (ls2 := [.ref 30, .ref w0, .int v2, .int x5, .int x6]) (fz_le_e (fz_le_e (fz_le_e (fz_le_e (fz_le_e fz_le_n))))) ?_
    exact hK5 H
set_option maxRecDepth 100000 in
set_option maxHeartbeats 4000000 in
theorem V_lp_X0_countOwn_5 {g : fz_G} {l : Launch} {d : Nat} (hD : 1 ≤ d) {w0 : Nat} (hw0 : fz_at true w0 10 7)  {Q : Int32 → fz_s → Prop}  (n : Nat) : ∀ {v2 : Int32} {v3 : Int32} {v4 : Int32} {s : fz_s}, lp_X0_countOwn_5 w0  Q n v2 v3 v4 s → fs_V g l m_X0_countOwn d true 5 [.ref 30, .ref w0, .int v2, .int v3, .int v4] [] s (rI Q) := by
  induction n with
  | zero => intro v2 v3 v4 s H; exact H.elim
  | succ n ih => intro v2 v3 v4 s H; exact V_nd_X0_countOwn_5 hD hw0 (fun H => ih H) H
set_option maxRecDepth 100000 in
set_option maxHeartbeats 4000000 in
theorem V_X0_countOwn {g : fz_G} {l : Launch} {d : Nat} (hD : 1 ≤ d) {w0 : Nat} {p1 : Int32} (hw0 : fz_at true w0 10 7) {s : fz_s} {Q : Int32 → fz_s → Prop} (H : wp_X0_countOwn w0 p1 s Q) : fs_V g l m_X0_countOwn d true 0 (fz_en [.ref 30, .ref w0, .int p1] 5) [] s (rI Q) := by
  obtain ⟨d, rfl⟩ : ∃ e, d = e + 1 := ⟨d - 1, by omega⟩
  unfold wp_X0_countOwn at H
  refine fs_iconst (n := 0) (v := 0) dd_X0_countOwn_0 (by decide) ?_
  refine fs_istore_n (k0 := 3) (i := 3) dd_X0_countOwn_1 rfl (by decide) ?_
  refine fs_iconst (n := 0) (v := 0) dd_X0_countOwn_2 (by decide) ?_
  refine fs_istore (i := 4) dd_X0_countOwn_3 (by decide) ?_
  refine fs_weak (ls2 := [.ref 30, .ref w0, .int p1, .int 0, .int 0]) (fz_le_e (fz_le_e (fz_le_e (fz_le_e (fz_le_e fz_le_n))))) ?_
  exact V_lp_X0_countOwn_5 hD  hw0  2048 H
theorem dd_X0_toSend_0 : decode m_X0_toSend.2.1 0 = .ok (.iconst (-1), 1) := by decide +kernel
theorem dd_X0_toSend_1 : decode m_X0_toSend.2.1 1 = .ok (.istore_n 3, 1) := by decide +kernel
theorem dd_X0_toSend_2 : decode m_X0_toSend.2.1 2 = .ok (.iconst 0, 1) := by decide +kernel
theorem dd_X0_toSend_3 : decode m_X0_toSend.2.1 3 = .ok (.istore 4, 2) := by decide +kernel
theorem dd_X0_toSend_5 : decode m_X0_toSend.2.1 5 = .ok (.iconst 0, 1) := by decide +kernel
theorem dd_X0_toSend_6 : decode m_X0_toSend.2.1 6 = .ok (.istore 5, 2) := by decide +kernel
theorem dd_X0_toSend_8 : decode m_X0_toSend.2.1 8 = .ok (.iload 5, 2) := by decide +kernel
theorem dd_X0_toSend_10 : decode m_X0_toSend.2.1 10 = .ok (.aload_n 0, 1) := by decide +kernel
theorem dd_X0_toSend_11 : decode m_X0_toSend.2.1 11 = .ok (.getfield 15, 3) := by decide +kernel
theorem dd_X0_toSend_14 : decode m_X0_toSend.2.1 14 = .ok (.getfield 77, 3) := by decide +kernel
theorem dd_X0_toSend_17 : decode m_X0_toSend.2.1 17 = .ok (.if_icmp .ge 50, 3) := by decide +kernel
theorem dd_X0_toSend_20 : decode m_X0_toSend.2.1 20 = .ok (.aload_n 0, 1) := by decide +kernel
theorem dd_X0_toSend_21 : decode m_X0_toSend.2.1 21 = .ok (.aload_n 1, 1) := by decide +kernel
theorem dd_X0_toSend_22 : decode m_X0_toSend.2.1 22 = .ok (.iload 5, 2) := by decide +kernel
theorem dd_X0_toSend_24 : decode m_X0_toSend.2.1 24 = .ok (.iload_n 2, 1) := by decide +kernel
theorem dd_X0_toSend_25 : decode m_X0_toSend.2.1 25 = .ok (.invokevirtual 80, 3) := by decide +kernel
theorem dd_X0_toSend_28 : decode m_X0_toSend.2.1 28 = .ok (.ifCond .eq 33, 3) := by decide +kernel
theorem dd_X0_toSend_31 : decode m_X0_toSend.2.1 31 = .ok (.aload_n 0, 1) := by decide +kernel
theorem dd_X0_toSend_32 : decode m_X0_toSend.2.1 32 = .ok (.aload_n 1, 1) := by decide +kernel
theorem dd_X0_toSend_33 : decode m_X0_toSend.2.1 33 = .ok (.iconst 0, 1) := by decide +kernel
theorem dd_X0_toSend_34 : decode m_X0_toSend.2.1 34 = .ok (.iload 5, 2) := by decide +kernel
theorem dd_X0_toSend_36 : decode m_X0_toSend.2.1 36 = .ok (.iload_n 2, 1) := by decide +kernel
theorem dd_X0_toSend_37 : decode m_X0_toSend.2.1 37 = .ok (.invokevirtual 67, 3) := by decide +kernel
theorem dd_X0_toSend_40 : decode m_X0_toSend.2.1 40 = .ok (.istore 6, 2) := by decide +kernel
theorem dd_X0_toSend_42 : decode m_X0_toSend.2.1 42 = .ok (.iload_n 3, 1) := by decide +kernel
theorem dd_X0_toSend_43 : decode m_X0_toSend.2.1 43 = .ok (.iconst (-1), 1) := by decide +kernel
theorem dd_X0_toSend_44 : decode m_X0_toSend.2.1 44 = .ok (.if_icmp .eq 10, 3) := by decide +kernel
theorem dd_X0_toSend_47 : decode m_X0_toSend.2.1 47 = .ok (.iload 6, 2) := by decide +kernel
theorem dd_X0_toSend_49 : decode m_X0_toSend.2.1 49 = .ok (.iload 4, 2) := by decide +kernel
theorem dd_X0_toSend_51 : decode m_X0_toSend.2.1 51 = .ok (.if_icmp .le 10, 3) := by decide +kernel
theorem dd_X0_toSend_54 : decode m_X0_toSend.2.1 54 = .ok (.iload 5, 2) := by decide +kernel
theorem dd_X0_toSend_56 : decode m_X0_toSend.2.1 56 = .ok (.istore_n 3, 1) := by decide +kernel
theorem dd_X0_toSend_57 : decode m_X0_toSend.2.1 57 = .ok (.iload 6, 2) := by decide +kernel
theorem dd_X0_toSend_59 : decode m_X0_toSend.2.1 59 = .ok (.istore 4, 2) := by decide +kernel
theorem dd_X0_toSend_61 : decode m_X0_toSend.2.1 61 = .ok (.iinc 5 1, 3) := by decide +kernel
theorem dd_X0_toSend_64 : decode m_X0_toSend.2.1 64 = .ok (.goto (-56), 3) := by decide +kernel
theorem dd_X0_toSend_67 : decode m_X0_toSend.2.1 67 = .ok (.iload_n 3, 1) := by decide +kernel
theorem dd_X0_toSend_68 : decode m_X0_toSend.2.1 68 = .ok (.ireturn, 1) := by decide +kernel
def nd_X0_toSend_8 (w0 : Nat) (K8 : Int32 → Int32 → Int32 → Int32 → fz_s → Prop) (Q : Int32 → fz_s → Prop) (v2 : Int32) (v3 : Int32) (v4 : Int32) (v5 : Int32) (s : fz_s) : Prop :=
  (((s.1 6 12) ≤ v5 → Q v3 s) ∧ (¬ (s.1 6 12) ≤ v5 → wp_X0_canSend w0 v5 v2 s (fun r1 s2 => ((r1 = false → ∀ x3 : Int32, x3 = v5 + 1 → K8 v2 v3 v4 x3 s2) ∧ (r1 = true → wp_X0_ruled w0 0 v5 v2 s2 (fun r4 s5 => ((v3 = (-1) → ∀ x6 : Int32, x6 = v5 + 1 → K8 v2 v5 r4 x6 s5) ∧ (¬ v3 = (-1) → ((r4 ≤ v4 → ∀ x7 : Int32, x7 = v5 + 1 → K8 v2 v3 v4 x7 s5) ∧ (¬ r4 ≤ v4 → ∀ x8 : Int32, x8 = v5 + 1 → K8 v2 v5 r4 x8 s5))))))))))
def lp_X0_toSend_8 (w0 : Nat)  (Q : Int32 → fz_s → Prop) : Nat → Int32 → Int32 → Int32 → Int32 → fz_s → Prop
  | 0 => fun _ _ _ _ _ => False
  | n + 1 => nd_X0_toSend_8 w0 (lp_X0_toSend_8 w0  Q n) Q
def wp_X0_toSend (w0 : Nat) (p1 : Int32) (s : fz_s) (Q : Int32 → fz_s → Prop) : Prop :=
  lp_X0_toSend_8 w0  Q 2048 p1 (-1) 0 0 s
set_option maxRecDepth 100000 in
set_option maxHeartbeats 4000000 in
theorem V_nd_X0_toSend_8 {g : fz_G} {l : Launch} {d : Nat} (hD : 4 ≤ d) {w0 : Nat} (hw0 : fz_at true w0 10 7) {K8 : Int32 → Int32 → Int32 → Int32 → fz_s → Prop} {Q : Int32 → fz_s → Prop} {v2 : Int32} {v3 : Int32} {v4 : Int32} {v5 : Int32} {s : fz_s} (hK8 : ∀ {v2 : Int32} {v3 : Int32} {v4 : Int32} {v5 : Int32} {s : fz_s}, K8 v2 v3 v4 v5 s → fs_V g l m_X0_toSend d true 8 [.ref 30, .ref w0, .int v2, .int v3, .int v4, .int v5, fz_J] [] s (rI Q)) (H : nd_X0_toSend_8 w0 K8 Q v2 v3 v4 v5 s) : fs_V g l m_X0_toSend d true 8 [.ref 30, .ref w0, .int v2, .int v3, .int v4, .int v5, fz_J] [] s (rI Q) := by
  obtain ⟨d, rfl⟩ : ∃ e, d = e + 1 := ⟨d - 1, by omega⟩
  unfold nd_X0_toSend_8 at H
  refine fs_iload (i := 5) dd_X0_toSend_8 rfl ?_
  refine fs_aload_n (k0 := 0) (i := 0) dd_X0_toSend_10 rfl rfl ?_
  refine fs_getr (ci := 0) (j := 0) (q := 6) dd_X0_toSend_11 fl_X0_15 ca_30 rfl (Or.inl ⟨_, rfl⟩) rfl (by decide) ?_
  refine fs_geti (ci := 9) (j := 12) dd_X0_toSend_14 fl_X0_77 ca_6 rfl (Or.inl rfl) ?_
  refine fs_icmp_ge (tgt := 67) dd_X0_toSend_17 (by decide) (fun hc => ?_) (fun hc => ?_)
  · replace H := H.1 hc
    refine fs_iload_n (k0 := 3) (i := 3) dd_X0_toSend_67 rfl rfl ?_
    exact fs_iret dd_X0_toSend_68 rfl H
  · replace H := H.2 hc
    refine fs_aload_n (k0 := 0) (i := 0) dd_X0_toSend_20 rfl rfl ?_
    refine fs_aload_n (k0 := 1) (i := 1) dd_X0_toSend_21 rfl rfl ?_
    refine fs_iload (i := 5) dd_X0_toSend_22 rfl ?_
    refine fs_iload_n (k0 := 2) (i := 2) dd_X0_toSend_24 rfl rfl ?_
    refine fs_callV (y := m_X0_canSend) (as := [.ref w0, .int v5, .int v2]) dd_X0_toSend_25 me_X0_canSend lk_X0_80 in_X0_canSend se_X0_canSend ca_30 rfl rfl rfl (Nat.le_of_ble_eq_true rfl) (Nat.le_of_ble_eq_true rfl) rfl (V_X0_canSend (by omega) hw0 H) (k2_Z fun r1 s2 H => ?_)
    refine fs_if_eq (tgt := 61) dd_X0_toSend_28 (by decide) (fun hc => ?_) (fun hc => ?_)
    · replace H := H.1 (bi_0 hc)
      refine fs_iincN (i := 5) (m := 1) (c := 1) dd_X0_toSend_61 rfl (by decide) (by decide) (fun x3 hx3 => ?_)
      replace H := H x3 hx3
      refine fs_goto (tgt := 8) dd_X0_toSend_64 (by decide) ?_
      refine fs_weak (ls2 := [.ref 30, .ref w0, .int v2, .int v3, .int v4, .int x3, fz_J]) (fz_le_e (fz_le_e (fz_le_e (fz_le_e (fz_le_e (fz_le_e (fz_le_j fz_le_n))))))) ?_
      exact hK8 H
    · replace H := H.2 (bi_1 hc)
      refine fs_aload_n (k0 := 0) (i := 0) dd_X0_toSend_31 rfl rfl ?_
      refine fs_aload_n (k0 := 1) (i := 1) dd_X0_toSend_32 rfl rfl ?_
      refine fs_iconst (n := 0) (v := 0) dd_X0_toSend_33 (by decide) ?_
      refine fs_iload (i := 5) dd_X0_toSend_34 rfl ?_
      refine fs_iload_n (k0 := 2) (i := 2) dd_X0_toSend_36 rfl rfl ?_
      refine fs_callV (y := m_X0_ruled) (as := [.ref w0, .int 0, .int v5, .int v2]) dd_X0_toSend_37 me_X0_ruled lk_X0_67 in_X0_ruled se_X0_ruled ca_30 rfl rfl rfl (Nat.le_of_ble_eq_true rfl) (Nat.le_of_ble_eq_true rfl) rfl (V_X0_ruled (by omega) hw0 H) (k2_I fun r4 s5 H => ?_)
      refine fs_istore (i := 6) dd_X0_toSend_40 (by decide) ?_
      refine fs_iload_n (k0 := 3) (i := 3) dd_X0_toSend_42 rfl rfl ?_
      refine fs_iconst (n := -1) (v := -1) dd_X0_toSend_43 (by decide) ?_
      refine fs_icmp_eq (tgt := 54) dd_X0_toSend_44 (by decide) (fun hc => ?_) (fun hc => ?_)
      · replace H := H.1 hc
        refine fs_iload (i := 5) dd_X0_toSend_54 rfl ?_
        refine fs_istore_n (k0 := 3) (i := 3) dd_X0_toSend_56 rfl (by decide) ?_
        refine fs_iload (i := 6) dd_X0_toSend_57 rfl ?_
        refine fs_istore (i := 4) dd_X0_toSend_59 (by decide) ?_
        refine fs_iincN (i := 5) (m := 1) (c := 1) dd_X0_toSend_61 rfl (by decide) (by decide) (fun x6 hx6 => ?_)
        replace H := H x6 hx6
        refine fs_goto (tgt := 8) dd_X0_toSend_64 (by decide) ?_
        refine fs_weak (ls2 := [.ref 30, .ref w0, .int v2, .int v5, .int r4, .int x6, fz_J]) (fz_le_e (fz_le_e (fz_le_e (fz_le_e (fz_le_e (fz_le_e (fz_le_j fz_le_n))))))) ?_
        exact hK8 H
      · replace H := H.2 hc
        refine fs_iload (i := 6) dd_X0_toSend_47 rfl ?_
        refine fs_iload (i := 4) dd_X0_toSend_49 rfl ?_
        refine fs_icmp_le (tgt := 61) dd_X0_toSend_51 (by decide) (fun hc => ?_) (fun hc => ?_)
        · replace H := H.1 hc
          refine fs_iincN (i := 5) (m := 1) (c := 1) dd_X0_toSend_61 rfl (by decide) (by decide) (fun x7 hx7 => ?_)
          replace H := H x7 hx7
          refine fs_goto (tgt := 8) dd_X0_toSend_64 (by decide) ?_
          refine fs_weak (ls2 := [.ref 30, .ref w0, .int v2, .int v3, .int v4, .int x7, fz_J]) (fz_le_e (fz_le_e (fz_le_e (fz_le_e (fz_le_e (fz_le_e (fz_le_j fz_le_n))))))) ?_
          exact hK8 H
        · replace H := H.2 hc
          refine fs_iload (i := 5) dd_X0_toSend_54 rfl ?_
          refine fs_istore_n (k0 := 3) (i := 3) dd_X0_toSend_56 rfl (by decide) ?_
          refine fs_iload (i := 6) dd_X0_toSend_57 rfl ?_
          refine fs_istore (i := 4) dd_X0_toSend_59 (by decide) ?_
          refine fs_iincN (i := 5) (m := 1) (c := 1) dd_X0_toSend_61 rfl (by decide) (by decide) (fun x8 hx8 => ?_)
          replace H := H x8 hx8
          refine fs_goto (tgt := 8) dd_X0_toSend_64 (by decide) ?_
          refine fs_weak (ls2 := [.ref 30, .ref w0, .int v2, .int v5, .int r4, .int x8, fz_J]) (fz_le_e (fz_le_e (fz_le_e (fz_le_e (fz_le_e (fz_le_e (fz_le_j fz_le_n))))))) ?_
          exact hK8 H
set_option maxRecDepth 100000 in
set_option maxHeartbeats 4000000 in
theorem V_lp_X0_toSend_8 {g : fz_G} {l : Launch} {d : Nat} (hD : 4 ≤ d) {w0 : Nat} (hw0 : fz_at true w0 10 7)  {Q : Int32 → fz_s → Prop}  (n : Nat) : ∀ {v2 : Int32} {v3 : Int32} {v4 : Int32} {v5 : Int32} {s : fz_s}, lp_X0_toSend_8 w0  Q n v2 v3 v4 v5 s → fs_V g l m_X0_toSend d true 8 [.ref 30, .ref w0, .int v2, .int v3, .int v4, .int v5, fz_J] [] s (rI Q) := by
  induction n with
  | zero => intro v2 v3 v4 v5 s H; exact H.elim
  | succ n ih => intro v2 v3 v4 v5 s H; exact V_nd_X0_toSend_8 hD hw0 (fun H => ih H) H
set_option maxRecDepth 100000 in
set_option maxHeartbeats 4000000 in
theorem V_X0_toSend {g : fz_G} {l : Launch} {d : Nat} (hD : 4 ≤ d) {w0 : Nat} {p1 : Int32} (hw0 : fz_at true w0 10 7) {s : fz_s} {Q : Int32 → fz_s → Prop} (H : wp_X0_toSend w0 p1 s Q) : fs_V g l m_X0_toSend d true 0 (fz_en [.ref 30, .ref w0, .int p1] 7) [] s (rI Q) := by
  obtain ⟨d, rfl⟩ : ∃ e, d = e + 1 := ⟨d - 1, by omega⟩
  unfold wp_X0_toSend at H
  refine fs_iconst (n := -1) (v := -1) dd_X0_toSend_0 (by decide) ?_
  refine fs_istore_n (k0 := 3) (i := 3) dd_X0_toSend_1 rfl (by decide) ?_
  refine fs_iconst (n := 0) (v := 0) dd_X0_toSend_2 (by decide) ?_
  refine fs_istore (i := 4) dd_X0_toSend_3 (by decide) ?_
  refine fs_iconst (n := 0) (v := 0) dd_X0_toSend_5 (by decide) ?_
  refine fs_istore (i := 5) dd_X0_toSend_6 (by decide) ?_
  refine fs_weak (ls2 := [.ref 30, .ref w0, .int p1, .int (-1), .int 0, .int 0, fz_J]) (fz_le_e (fz_le_e (fz_le_e (fz_le_e (fz_le_e (fz_le_e (fz_le_j fz_le_n))))))) ?_
  exact V_lp_X0_toSend_8 hD  hw0  2048 H
theorem dd_X11_village_0 : decode m_X11_village.2.1 0 = .ok (.aload_n 0, 1) := by decide +kernel
theorem dd_X11_village_1 : decode m_X11_village.2.1 1 = .ok (.iload_n 1, 1) := by decide +kernel
theorem dd_X11_village_2 : decode m_X11_village.2.1 2 = .ok (.invokevirtual 184, 3) := by decide +kernel
theorem dd_X11_village_5 : decode m_X11_village.2.1 5 = .ok (.ifCond .eq 5, 3) := by decide +kernel
theorem dd_X11_village_8 : decode m_X11_village.2.1 8 = .ok (.iconst (-1), 1) := by decide +kernel
theorem dd_X11_village_9 : decode m_X11_village.2.1 9 = .ok (.ireturn, 1) := by decide +kernel
theorem dd_X11_village_10 : decode m_X11_village.2.1 10 = .ok (.iload_n 2, 1) := by decide +kernel
theorem dd_X11_village_11 : decode m_X11_village.2.1 11 = .ok (.tableswitch 123 0 5 #[37, 47, 57, 70, 83, 96], 37) := by decide +kernel
theorem dd_X11_village_48 : decode m_X11_village.2.1 48 = .ok (.aload_n 0, 1) := by decide +kernel
theorem dd_X11_village_49 : decode m_X11_village.2.1 49 = .ok (.getfield 63, 3) := by decide +kernel
theorem dd_X11_village_52 : decode m_X11_village.2.1 52 = .ok (.getfield 195, 3) := by decide +kernel
theorem dd_X11_village_55 : decode m_X11_village.2.1 55 = .ok (.iload_n 1, 1) := by decide +kernel
theorem dd_X11_village_56 : decode m_X11_village.2.1 56 = .ok (.iaload, 1) := by decide +kernel
theorem dd_X11_village_57 : decode m_X11_village.2.1 57 = .ok (.ireturn, 1) := by decide +kernel
theorem dd_X11_village_58 : decode m_X11_village.2.1 58 = .ok (.aload_n 0, 1) := by decide +kernel
theorem dd_X11_village_59 : decode m_X11_village.2.1 59 = .ok (.getfield 63, 3) := by decide +kernel
theorem dd_X11_village_62 : decode m_X11_village.2.1 62 = .ok (.getfield 198, 3) := by decide +kernel
theorem dd_X11_village_65 : decode m_X11_village.2.1 65 = .ok (.iload_n 1, 1) := by decide +kernel
theorem dd_X11_village_66 : decode m_X11_village.2.1 66 = .ok (.iaload, 1) := by decide +kernel
theorem dd_X11_village_67 : decode m_X11_village.2.1 67 = .ok (.ireturn, 1) := by decide +kernel
theorem dd_X11_village_68 : decode m_X11_village.2.1 68 = .ok (.aload_n 0, 1) := by decide +kernel
theorem dd_X11_village_69 : decode m_X11_village.2.1 69 = .ok (.getfield 56, 3) := by decide +kernel
theorem dd_X11_village_72 : decode m_X11_village.2.1 72 = .ok (.aload_n 0, 1) := by decide +kernel
theorem dd_X11_village_73 : decode m_X11_village.2.1 73 = .ok (.getfield 63, 3) := by decide +kernel
theorem dd_X11_village_76 : decode m_X11_village.2.1 76 = .ok (.iload_n 1, 1) := by decide +kernel
theorem dd_X11_village_77 : decode m_X11_village.2.1 77 = .ok (.invokevirtual 201, 3) := by decide +kernel
theorem dd_X11_village_80 : decode m_X11_village.2.1 80 = .ok (.ireturn, 1) := by decide +kernel
theorem dd_X11_village_81 : decode m_X11_village.2.1 81 = .ok (.aload_n 0, 1) := by decide +kernel
theorem dd_X11_village_82 : decode m_X11_village.2.1 82 = .ok (.getfield 56, 3) := by decide +kernel
theorem dd_X11_village_85 : decode m_X11_village.2.1 85 = .ok (.aload_n 0, 1) := by decide +kernel
theorem dd_X11_village_86 : decode m_X11_village.2.1 86 = .ok (.getfield 63, 3) := by decide +kernel
theorem dd_X11_village_89 : decode m_X11_village.2.1 89 = .ok (.iload_n 1, 1) := by decide +kernel
theorem dd_X11_village_90 : decode m_X11_village.2.1 90 = .ok (.invokevirtual 205, 3) := by decide +kernel
theorem dd_X11_village_93 : decode m_X11_village.2.1 93 = .ok (.ireturn, 1) := by decide +kernel
theorem dd_X11_village_94 : decode m_X11_village.2.1 94 = .ok (.aload_n 0, 1) := by decide +kernel
theorem dd_X11_village_95 : decode m_X11_village.2.1 95 = .ok (.getfield 56, 3) := by decide +kernel
theorem dd_X11_village_98 : decode m_X11_village.2.1 98 = .ok (.aload_n 0, 1) := by decide +kernel
theorem dd_X11_village_99 : decode m_X11_village.2.1 99 = .ok (.getfield 63, 3) := by decide +kernel
theorem dd_X11_village_102 : decode m_X11_village.2.1 102 = .ok (.iload_n 1, 1) := by decide +kernel
theorem dd_X11_village_103 : decode m_X11_village.2.1 103 = .ok (.invokevirtual 208, 3) := by decide +kernel
theorem dd_X11_village_106 : decode m_X11_village.2.1 106 = .ok (.ireturn, 1) := by decide +kernel
theorem dd_X11_village_107 : decode m_X11_village.2.1 107 = .ok (.aload_n 0, 1) := by decide +kernel
theorem dd_X11_village_108 : decode m_X11_village.2.1 108 = .ok (.getfield 56, 3) := by decide +kernel
theorem dd_X11_village_111 : decode m_X11_village.2.1 111 = .ok (.aload_n 0, 1) := by decide +kernel
theorem dd_X11_village_112 : decode m_X11_village.2.1 112 = .ok (.getfield 63, 3) := by decide +kernel
theorem dd_X11_village_115 : decode m_X11_village.2.1 115 = .ok (.aload_n 0, 1) := by decide +kernel
theorem dd_X11_village_116 : decode m_X11_village.2.1 116 = .ok (.getfield 56, 3) := by decide +kernel
theorem dd_X11_village_119 : decode m_X11_village.2.1 119 = .ok (.aload_n 0, 1) := by decide +kernel
theorem dd_X11_village_120 : decode m_X11_village.2.1 120 = .ok (.getfield 63, 3) := by decide +kernel
theorem dd_X11_village_123 : decode m_X11_village.2.1 123 = .ok (.iload_n 1, 1) := by decide +kernel
theorem dd_X11_village_124 : decode m_X11_village.2.1 124 = .ok (.invokevirtual 208, 3) := by decide +kernel
theorem dd_X11_village_127 : decode m_X11_village.2.1 127 = .ok (.invokevirtual 211, 3) := by decide +kernel
theorem dd_X11_village_130 : decode m_X11_village.2.1 130 = .ok (.invokestatic 215, 3) := by decide +kernel
theorem dd_X11_village_133 : decode m_X11_village.2.1 133 = .ok (.ireturn, 1) := by decide +kernel
theorem dd_X11_village_134 : decode m_X11_village.2.1 134 = .ok (.iconst (-1), 1) := by decide +kernel
theorem dd_X11_village_135 : decode m_X11_village.2.1 135 = .ok (.ireturn, 1) := by decide +kernel
def wp_X11_village (p0 : Int32) (p1 : Int32) (s : fz_s) (Q : Int32 → fz_s → Prop) : Prop :=
  wp_X11_noVillage p0 s (fun r1 s2 => ((r1 = false → ((p1 = 0 → vp_in p0 2 ∧ Q (s2.1 36 p0.toNatClampNeg) s2) ∧ (p1 = 1 → vp_in p0 2 ∧ Q (s2.1 37 p0.toNatClampNeg) s2) ∧ (p1 = 2 → wp_X0_countLiving 35 p0 s2 (fun r3 s4 => Q r3 s4)) ∧ (p1 = 3 → wp_X0_countOwn 35 p0 s2 (fun r5 s6 => Q r5 s6)) ∧ (p1 = 4 → wp_X0_toSend 35 p0 s2 (fun r7 s8 => Q r7 s8)) ∧ (p1 = 5 → wp_X0_toSend 35 p0 s2 (fun r9 s10 => wp_X0_wouldPass 35 r9 s10 (fun r11 s12 => wp_X11_bit r11 s12 (fun r13 s14 => Q r13 s14)))) ∧ (¬ p1 = 0 ∧ ¬ p1 = 1 ∧ ¬ p1 = 2 ∧ ¬ p1 = 3 ∧ ¬ p1 = 4 ∧ ¬ p1 = 5 → Q (-1) s2))) ∧ (r1 = true → Q (-1) s2)))
set_option maxRecDepth 100000 in
set_option maxHeartbeats 4000000 in
theorem V_X11_village {g : fz_G} {l : Launch} {d : Nat} (hD : 5 ≤ d) {p0 : Int32} {p1 : Int32}  {s : fz_s} {Q : Int32 → fz_s → Prop} (H : wp_X11_village p0 p1 s Q) : fs_V g l m_X11_village d true 0 (fz_en [.ref 2, .int p0, .int p1] 3) [] s (rI Q) := by
  obtain ⟨d, rfl⟩ : ∃ e, d = e + 1 := ⟨d - 1, by omega⟩
  unfold wp_X11_village at H
  refine fs_aload_n (k0 := 0) (i := 0) dd_X11_village_0 rfl rfl ?_
  refine fs_iload_n (k0 := 1) (i := 1) dd_X11_village_1 rfl rfl ?_
  refine fs_callV (y := m_X11_noVillage) (as := [.int p0]) dd_X11_village_2 me_X11_noVillage lk_X11_184 in_X11_noVillage se_X11_noVillage ca_2 rfl rfl rfl (Nat.le_of_ble_eq_true rfl) (Nat.le_of_ble_eq_true rfl) rfl (V_X11_noVillage (by omega)  H) (k2_Z fun r1 s2 H => ?_)
  refine fs_if_eq (tgt := 10) dd_X11_village_5 (by decide) (fun hc => ?_) (fun hc => ?_)
  · replace H := H.1 (bi_0 hc)
    refine fs_iload_n (k0 := 2) (i := 2) dd_X11_village_10 rfl rfl ?_
    by_cases hc0 : p1 = 0
    · replace H := H.1 hc0
      refine fs_tableAt (k := 0) (off := 37) (tgt := 48) hc0 dd_X11_village_11 (by decide) (by decide) rfl (by decide) ?_
      refine fs_aload_n (k0 := 0) (i := 0) dd_X11_village_48 rfl rfl ?_
      refine fs_getr (ci := 11) (j := 8) (q := 35) dd_X11_village_49 fl_X11_63 ca_2 rfl (Or.inl ⟨_, rfl⟩) rfl (by decide) ?_
      refine fs_getr (ci := 10) (j := 0) (q := 36) dd_X11_village_52 fl_X11_195 ca_35 rfl (Or.inr ⟨_, rfl⟩) rfl (by decide) ?_
      refine fs_iload_n (k0 := 1) (i := 1) dd_X11_village_55 rfl rfl ?_
      have hb := H.1
      replace H := H.2
      refine fs_iald dd_X11_village_56 ca_36 hb ?_
      exact fs_iret dd_X11_village_57 rfl H
    by_cases hc1 : p1 = 1
    · replace H := H.2.1 hc1
      refine fs_tableAt (k := 1) (off := 47) (tgt := 58) hc1 dd_X11_village_11 (by decide) (by decide) rfl (by decide) ?_
      refine fs_aload_n (k0 := 0) (i := 0) dd_X11_village_58 rfl rfl ?_
      refine fs_getr (ci := 11) (j := 8) (q := 35) dd_X11_village_59 fl_X11_63 ca_2 rfl (Or.inl ⟨_, rfl⟩) rfl (by decide) ?_
      refine fs_getr (ci := 10) (j := 1) (q := 37) dd_X11_village_62 fl_X11_198 ca_35 rfl (Or.inr ⟨_, rfl⟩) rfl (by decide) ?_
      refine fs_iload_n (k0 := 1) (i := 1) dd_X11_village_65 rfl rfl ?_
      have hb := H.1
      replace H := H.2
      refine fs_iald dd_X11_village_66 ca_37 hb ?_
      exact fs_iret dd_X11_village_67 rfl H
    by_cases hc2 : p1 = 2
    · replace H := H.2.2.1 hc2
      refine fs_tableAt (k := 2) (off := 57) (tgt := 68) hc2 dd_X11_village_11 (by decide) (by decide) rfl (by decide) ?_
      refine fs_aload_n (k0 := 0) (i := 0) dd_X11_village_68 rfl rfl ?_
      refine fs_getr (ci := 11) (j := 7) (q := 30) dd_X11_village_69 fl_X11_56 ca_2 rfl (Or.inl ⟨_, rfl⟩) rfl (by decide) ?_
      refine fs_aload_n (k0 := 0) (i := 0) dd_X11_village_72 rfl rfl ?_
      refine fs_getr (ci := 11) (j := 8) (q := 35) dd_X11_village_73 fl_X11_63 ca_2 rfl (Or.inl ⟨_, rfl⟩) rfl (by decide) ?_
      refine fs_iload_n (k0 := 1) (i := 1) dd_X11_village_76 rfl rfl ?_
      refine fs_callV (y := m_X0_countLiving) (as := [.ref 35, .int p0]) dd_X11_village_77 me_X0_countLiving lk_X11_201 in_X0_countLiving se_X0_countLiving ca_30 rfl rfl rfl (Nat.le_of_ble_eq_true rfl) (Nat.le_of_ble_eq_true rfl) rfl (V_X0_countLiving (by omega) ca_35 H) (k2_I fun r3 s4 H => ?_)
      exact fs_iret dd_X11_village_80 rfl H
    by_cases hc3 : p1 = 3
    · replace H := H.2.2.2.1 hc3
      refine fs_tableAt (k := 3) (off := 70) (tgt := 81) hc3 dd_X11_village_11 (by decide) (by decide) rfl (by decide) ?_
      refine fs_aload_n (k0 := 0) (i := 0) dd_X11_village_81 rfl rfl ?_
      refine fs_getr (ci := 11) (j := 7) (q := 30) dd_X11_village_82 fl_X11_56 ca_2 rfl (Or.inl ⟨_, rfl⟩) rfl (by decide) ?_
      refine fs_aload_n (k0 := 0) (i := 0) dd_X11_village_85 rfl rfl ?_
      refine fs_getr (ci := 11) (j := 8) (q := 35) dd_X11_village_86 fl_X11_63 ca_2 rfl (Or.inl ⟨_, rfl⟩) rfl (by decide) ?_
      refine fs_iload_n (k0 := 1) (i := 1) dd_X11_village_89 rfl rfl ?_
      refine fs_callV (y := m_X0_countOwn) (as := [.ref 35, .int p0]) dd_X11_village_90 me_X0_countOwn lk_X11_205 in_X0_countOwn se_X0_countOwn ca_30 rfl rfl rfl (Nat.le_of_ble_eq_true rfl) (Nat.le_of_ble_eq_true rfl) rfl (V_X0_countOwn (by omega) ca_35 H) (k2_I fun r5 s6 H => ?_)
      exact fs_iret dd_X11_village_93 rfl H
    by_cases hc4 : p1 = 4
    · replace H := H.2.2.2.2.1 hc4
      refine fs_tableAt (k := 4) (off := 83) (tgt := 94) hc4 dd_X11_village_11 (by decide) (by decide) rfl (by decide) ?_
      refine fs_aload_n (k0 := 0) (i := 0) dd_X11_village_94 rfl rfl ?_
      refine fs_getr (ci := 11) (j := 7) (q := 30) dd_X11_village_95 fl_X11_56 ca_2 rfl (Or.inl ⟨_, rfl⟩) rfl (by decide) ?_
      refine fs_aload_n (k0 := 0) (i := 0) dd_X11_village_98 rfl rfl ?_
      refine fs_getr (ci := 11) (j := 8) (q := 35) dd_X11_village_99 fl_X11_63 ca_2 rfl (Or.inl ⟨_, rfl⟩) rfl (by decide) ?_
      refine fs_iload_n (k0 := 1) (i := 1) dd_X11_village_102 rfl rfl ?_
      refine fs_callV (y := m_X0_toSend) (as := [.ref 35, .int p0]) dd_X11_village_103 me_X0_toSend lk_X11_208 in_X0_toSend se_X0_toSend ca_30 rfl rfl rfl (Nat.le_of_ble_eq_true rfl) (Nat.le_of_ble_eq_true rfl) rfl (V_X0_toSend (by omega) ca_35 H) (k2_I fun r7 s8 H => ?_)
      exact fs_iret dd_X11_village_106 rfl H
    by_cases hc5 : p1 = 5
    · replace H := H.2.2.2.2.2.1 hc5
      refine fs_tableAt (k := 5) (off := 96) (tgt := 107) hc5 dd_X11_village_11 (by decide) (by decide) rfl (by decide) ?_
      refine fs_aload_n (k0 := 0) (i := 0) dd_X11_village_107 rfl rfl ?_
      refine fs_getr (ci := 11) (j := 7) (q := 30) dd_X11_village_108 fl_X11_56 ca_2 rfl (Or.inl ⟨_, rfl⟩) rfl (by decide) ?_
      refine fs_aload_n (k0 := 0) (i := 0) dd_X11_village_111 rfl rfl ?_
      refine fs_getr (ci := 11) (j := 8) (q := 35) dd_X11_village_112 fl_X11_63 ca_2 rfl (Or.inl ⟨_, rfl⟩) rfl (by decide) ?_
      refine fs_aload_n (k0 := 0) (i := 0) dd_X11_village_115 rfl rfl ?_
      refine fs_getr (ci := 11) (j := 7) (q := 30) dd_X11_village_116 fl_X11_56 ca_2 rfl (Or.inl ⟨_, rfl⟩) rfl (by decide) ?_
      refine fs_aload_n (k0 := 0) (i := 0) dd_X11_village_119 rfl rfl ?_
      refine fs_getr (ci := 11) (j := 8) (q := 35) dd_X11_village_120 fl_X11_63 ca_2 rfl (Or.inl ⟨_, rfl⟩) rfl (by decide) ?_
      refine fs_iload_n (k0 := 1) (i := 1) dd_X11_village_123 rfl rfl ?_
      refine fs_callV (y := m_X0_toSend) (as := [.ref 35, .int p0]) dd_X11_village_124 me_X0_toSend lk_X11_208 in_X0_toSend se_X0_toSend ca_30 rfl rfl rfl (Nat.le_of_ble_eq_true rfl) (Nat.le_of_ble_eq_true rfl) rfl (V_X0_toSend (by omega) ca_35 H) (k2_I fun r9 s10 H => ?_)
      refine fs_callV (y := m_X0_wouldPass) (as := [.ref 35, .int r9]) dd_X11_village_127 me_X0_wouldPass lk_X11_211 in_X0_wouldPass se_X0_wouldPass ca_30 rfl rfl rfl (Nat.le_of_ble_eq_true rfl) (Nat.le_of_ble_eq_true rfl) rfl (V_X0_wouldPass (by omega) ca_35 H) (k2_Z fun r11 s12 H => ?_)
      refine fs_callS (y := m_X11_bit) (as := [.int (bi r11)]) dd_X11_village_130 me_X11_bit (Or.inl lk_X11_215) st_X11_bit rfl (Nat.le_of_ble_eq_true rfl) (Nat.le_of_ble_eq_true rfl) rfl (V_X11_bit (by omega)  H) (k2_I fun r13 s14 H => ?_)
      exact fs_iret dd_X11_village_133 rfl H
    replace H := H.2.2.2.2.2.2 ⟨hc0, hc1, hc2, hc3, hc4, hc5⟩
    refine fs_tableOut' (ks := [0, 1, 2, 3, 4, 5]) (tgt := 134) (by simp only [List.forall_mem_cons]; exact ⟨hc0, hc1, hc2, hc3, hc4, hc5, fun _ h => by cases h⟩) dd_X11_village_11 (by decide) (by decide) ?_
    refine fs_iconst (n := -1) (v := -1) dd_X11_village_134 (by decide) ?_
    exact fs_iret dd_X11_village_135 rfl H
  · replace H := H.2 (bi_1 hc)
    refine fs_iconst (n := -1) (v := -1) dd_X11_village_8 (by decide) ?_
    exact fs_iret dd_X11_village_9 rfl H
theorem dd_X11_person_0 : decode m_X11_person.2.1 0 = .ok (.aload_n 0, 1) := by decide +kernel
theorem dd_X11_person_1 : decode m_X11_person.2.1 1 = .ok (.iload_n 1, 1) := by decide +kernel
theorem dd_X11_person_2 : decode m_X11_person.2.1 2 = .ok (.invokevirtual 192, 3) := by decide +kernel
theorem dd_X11_person_5 : decode m_X11_person.2.1 5 = .ok (.ifCond .eq 5, 3) := by decide +kernel
theorem dd_X11_person_8 : decode m_X11_person.2.1 8 = .ok (.iconst (-1), 1) := by decide +kernel
theorem dd_X11_person_9 : decode m_X11_person.2.1 9 = .ok (.ireturn, 1) := by decide +kernel
theorem dd_X11_person_10 : decode m_X11_person.2.1 10 = .ok (.iload_n 2, 1) := by decide +kernel
theorem dd_X11_person_11 : decode m_X11_person.2.1 11 = .ok (.tableswitch 117 0 6 #[41, 51, 61, 71, 81, 91, 101], 41) := by decide +kernel
theorem dd_X11_person_52 : decode m_X11_person.2.1 52 = .ok (.aload_n 0, 1) := by decide +kernel
theorem dd_X11_person_53 : decode m_X11_person.2.1 53 = .ok (.getfield 34, 3) := by decide +kernel
theorem dd_X11_person_56 : decode m_X11_person.2.1 56 = .ok (.getfield 219, 3) := by decide +kernel
theorem dd_X11_person_59 : decode m_X11_person.2.1 59 = .ok (.iload_n 1, 1) := by decide +kernel
theorem dd_X11_person_60 : decode m_X11_person.2.1 60 = .ok (.iaload, 1) := by decide +kernel
theorem dd_X11_person_61 : decode m_X11_person.2.1 61 = .ok (.ireturn, 1) := by decide +kernel
theorem dd_X11_person_62 : decode m_X11_person.2.1 62 = .ok (.aload_n 0, 1) := by decide +kernel
theorem dd_X11_person_63 : decode m_X11_person.2.1 63 = .ok (.getfield 63, 3) := by decide +kernel
theorem dd_X11_person_66 : decode m_X11_person.2.1 66 = .ok (.getfield 222, 3) := by decide +kernel
theorem dd_X11_person_69 : decode m_X11_person.2.1 69 = .ok (.iload_n 1, 1) := by decide +kernel
theorem dd_X11_person_70 : decode m_X11_person.2.1 70 = .ok (.iaload, 1) := by decide +kernel
theorem dd_X11_person_71 : decode m_X11_person.2.1 71 = .ok (.ireturn, 1) := by decide +kernel
theorem dd_X11_person_72 : decode m_X11_person.2.1 72 = .ok (.aload_n 0, 1) := by decide +kernel
theorem dd_X11_person_73 : decode m_X11_person.2.1 73 = .ok (.getfield 63, 3) := by decide +kernel
theorem dd_X11_person_76 : decode m_X11_person.2.1 76 = .ok (.getfield 224, 3) := by decide +kernel
theorem dd_X11_person_79 : decode m_X11_person.2.1 79 = .ok (.iload_n 1, 1) := by decide +kernel
theorem dd_X11_person_80 : decode m_X11_person.2.1 80 = .ok (.iaload, 1) := by decide +kernel
theorem dd_X11_person_81 : decode m_X11_person.2.1 81 = .ok (.ireturn, 1) := by decide +kernel
theorem dd_X11_person_82 : decode m_X11_person.2.1 82 = .ok (.aload_n 0, 1) := by decide +kernel
theorem dd_X11_person_83 : decode m_X11_person.2.1 83 = .ok (.getfield 34, 3) := by decide +kernel
theorem dd_X11_person_86 : decode m_X11_person.2.1 86 = .ok (.getfield 227, 3) := by decide +kernel
theorem dd_X11_person_89 : decode m_X11_person.2.1 89 = .ok (.iload_n 1, 1) := by decide +kernel
theorem dd_X11_person_90 : decode m_X11_person.2.1 90 = .ok (.iaload, 1) := by decide +kernel
theorem dd_X11_person_91 : decode m_X11_person.2.1 91 = .ok (.ireturn, 1) := by decide +kernel
theorem dd_X11_person_92 : decode m_X11_person.2.1 92 = .ok (.aload_n 0, 1) := by decide +kernel
theorem dd_X11_person_93 : decode m_X11_person.2.1 93 = .ok (.getfield 34, 3) := by decide +kernel
theorem dd_X11_person_96 : decode m_X11_person.2.1 96 = .ok (.getfield 230, 3) := by decide +kernel
theorem dd_X11_person_99 : decode m_X11_person.2.1 99 = .ok (.iload_n 1, 1) := by decide +kernel
theorem dd_X11_person_100 : decode m_X11_person.2.1 100 = .ok (.iaload, 1) := by decide +kernel
theorem dd_X11_person_101 : decode m_X11_person.2.1 101 = .ok (.ireturn, 1) := by decide +kernel
theorem dd_X11_person_102 : decode m_X11_person.2.1 102 = .ok (.aload_n 0, 1) := by decide +kernel
theorem dd_X11_person_103 : decode m_X11_person.2.1 103 = .ok (.getfield 63, 3) := by decide +kernel
theorem dd_X11_person_106 : decode m_X11_person.2.1 106 = .ok (.getfield 233, 3) := by decide +kernel
theorem dd_X11_person_109 : decode m_X11_person.2.1 109 = .ok (.iload_n 1, 1) := by decide +kernel
theorem dd_X11_person_110 : decode m_X11_person.2.1 110 = .ok (.iaload, 1) := by decide +kernel
theorem dd_X11_person_111 : decode m_X11_person.2.1 111 = .ok (.ireturn, 1) := by decide +kernel
theorem dd_X11_person_112 : decode m_X11_person.2.1 112 = .ok (.aload_n 0, 1) := by decide +kernel
theorem dd_X11_person_113 : decode m_X11_person.2.1 113 = .ok (.getfield 56, 3) := by decide +kernel
theorem dd_X11_person_116 : decode m_X11_person.2.1 116 = .ok (.aload_n 0, 1) := by decide +kernel
theorem dd_X11_person_117 : decode m_X11_person.2.1 117 = .ok (.getfield 63, 3) := by decide +kernel
theorem dd_X11_person_120 : decode m_X11_person.2.1 120 = .ok (.iload_n 1, 1) := by decide +kernel
theorem dd_X11_person_121 : decode m_X11_person.2.1 121 = .ok (.invokevirtual 211, 3) := by decide +kernel
theorem dd_X11_person_124 : decode m_X11_person.2.1 124 = .ok (.invokestatic 215, 3) := by decide +kernel
theorem dd_X11_person_127 : decode m_X11_person.2.1 127 = .ok (.ireturn, 1) := by decide +kernel
theorem dd_X11_person_128 : decode m_X11_person.2.1 128 = .ok (.iconst (-1), 1) := by decide +kernel
theorem dd_X11_person_129 : decode m_X11_person.2.1 129 = .ok (.ireturn, 1) := by decide +kernel
def wp_X11_person (p0 : Int32) (p1 : Int32) (s : fz_s) (Q : Int32 → fz_s → Prop) : Prop :=
  wp_X11_noPerson p0 s (fun r1 s2 => ((r1 = false → ((p1 = 0 → vp_in p0 8 ∧ Q (s2.1 10 p0.toNatClampNeg) s2) ∧ (p1 = 1 → vp_in p0 8 ∧ Q (s2.1 39 p0.toNatClampNeg) s2) ∧ (p1 = 2 → vp_in p0 8 ∧ Q (s2.1 38 p0.toNatClampNeg) s2) ∧ (p1 = 3 → vp_in p0 8 ∧ Q (s2.1 12 p0.toNatClampNeg) s2) ∧ (p1 = 4 → vp_in p0 8 ∧ Q (s2.1 13 p0.toNatClampNeg) s2) ∧ (p1 = 5 → vp_in p0 8 ∧ Q (s2.1 40 p0.toNatClampNeg) s2) ∧ (p1 = 6 → wp_X0_wouldPass 35 p0 s2 (fun r3 s4 => wp_X11_bit r3 s4 (fun r5 s6 => Q r5 s6))) ∧ (¬ p1 = 0 ∧ ¬ p1 = 1 ∧ ¬ p1 = 2 ∧ ¬ p1 = 3 ∧ ¬ p1 = 4 ∧ ¬ p1 = 5 ∧ ¬ p1 = 6 → Q (-1) s2))) ∧ (r1 = true → Q (-1) s2)))
set_option maxRecDepth 100000 in
set_option maxHeartbeats 4000000 in
theorem V_X11_person {g : fz_G} {l : Launch} {d : Nat} (hD : 5 ≤ d) {p0 : Int32} {p1 : Int32}  {s : fz_s} {Q : Int32 → fz_s → Prop} (H : wp_X11_person p0 p1 s Q) : fs_V g l m_X11_person d true 0 (fz_en [.ref 2, .int p0, .int p1] 3) [] s (rI Q) := by
  obtain ⟨d, rfl⟩ : ∃ e, d = e + 1 := ⟨d - 1, by omega⟩
  unfold wp_X11_person at H
  refine fs_aload_n (k0 := 0) (i := 0) dd_X11_person_0 rfl rfl ?_
  refine fs_iload_n (k0 := 1) (i := 1) dd_X11_person_1 rfl rfl ?_
  refine fs_callV (y := m_X11_noPerson) (as := [.int p0]) dd_X11_person_2 me_X11_noPerson lk_X11_192 in_X11_noPerson se_X11_noPerson ca_2 rfl rfl rfl (Nat.le_of_ble_eq_true rfl) (Nat.le_of_ble_eq_true rfl) rfl (V_X11_noPerson (by omega)  H) (k2_Z fun r1 s2 H => ?_)
  refine fs_if_eq (tgt := 10) dd_X11_person_5 (by decide) (fun hc => ?_) (fun hc => ?_)
  · replace H := H.1 (bi_0 hc)
    refine fs_iload_n (k0 := 2) (i := 2) dd_X11_person_10 rfl rfl ?_
    by_cases hc0 : p1 = 0
    · replace H := H.1 hc0
      refine fs_tableAt (k := 0) (off := 41) (tgt := 52) hc0 dd_X11_person_11 (by decide) (by decide) rfl (by decide) ?_
      refine fs_aload_n (k0 := 0) (i := 0) dd_X11_person_52 rfl rfl ?_
      refine fs_getr (ci := 11) (j := 4) (q := 6) dd_X11_person_53 fl_X11_34 ca_2 rfl (Or.inl ⟨_, rfl⟩) rfl (by decide) ?_
      refine fs_getr (ci := 9) (j := 3) (q := 10) dd_X11_person_56 fl_X11_219 ca_6 rfl (Or.inr ⟨_, rfl⟩) rfl (by decide) ?_
      refine fs_iload_n (k0 := 1) (i := 1) dd_X11_person_59 rfl rfl ?_
      have hb := H.1
      replace H := H.2
      refine fs_iald dd_X11_person_60 ca_10 hb ?_
      exact fs_iret dd_X11_person_61 rfl H
    by_cases hc1 : p1 = 1
    · replace H := H.2.1 hc1
      refine fs_tableAt (k := 1) (off := 51) (tgt := 62) hc1 dd_X11_person_11 (by decide) (by decide) rfl (by decide) ?_
      refine fs_aload_n (k0 := 0) (i := 0) dd_X11_person_62 rfl rfl ?_
      refine fs_getr (ci := 11) (j := 8) (q := 35) dd_X11_person_63 fl_X11_63 ca_2 rfl (Or.inl ⟨_, rfl⟩) rfl (by decide) ?_
      refine fs_getr (ci := 10) (j := 3) (q := 39) dd_X11_person_66 fl_X11_222 ca_35 rfl (Or.inr ⟨_, rfl⟩) rfl (by decide) ?_
      refine fs_iload_n (k0 := 1) (i := 1) dd_X11_person_69 rfl rfl ?_
      have hb := H.1
      replace H := H.2
      refine fs_iald dd_X11_person_70 ca_39 hb ?_
      exact fs_iret dd_X11_person_71 rfl H
    by_cases hc2 : p1 = 2
    · replace H := H.2.2.1 hc2
      refine fs_tableAt (k := 2) (off := 61) (tgt := 72) hc2 dd_X11_person_11 (by decide) (by decide) rfl (by decide) ?_
      refine fs_aload_n (k0 := 0) (i := 0) dd_X11_person_72 rfl rfl ?_
      refine fs_getr (ci := 11) (j := 8) (q := 35) dd_X11_person_73 fl_X11_63 ca_2 rfl (Or.inl ⟨_, rfl⟩) rfl (by decide) ?_
      refine fs_getr (ci := 10) (j := 2) (q := 38) dd_X11_person_76 fl_X11_224 ca_35 rfl (Or.inr ⟨_, rfl⟩) rfl (by decide) ?_
      refine fs_iload_n (k0 := 1) (i := 1) dd_X11_person_79 rfl rfl ?_
      have hb := H.1
      replace H := H.2
      refine fs_iald dd_X11_person_80 ca_38 hb ?_
      exact fs_iret dd_X11_person_81 rfl H
    by_cases hc3 : p1 = 3
    · replace H := H.2.2.2.1 hc3
      refine fs_tableAt (k := 3) (off := 71) (tgt := 82) hc3 dd_X11_person_11 (by decide) (by decide) rfl (by decide) ?_
      refine fs_aload_n (k0 := 0) (i := 0) dd_X11_person_82 rfl rfl ?_
      refine fs_getr (ci := 11) (j := 4) (q := 6) dd_X11_person_83 fl_X11_34 ca_2 rfl (Or.inl ⟨_, rfl⟩) rfl (by decide) ?_
      refine fs_getr (ci := 9) (j := 5) (q := 12) dd_X11_person_86 fl_X11_227 ca_6 rfl (Or.inr ⟨_, rfl⟩) rfl (by decide) ?_
      refine fs_iload_n (k0 := 1) (i := 1) dd_X11_person_89 rfl rfl ?_
      have hb := H.1
      replace H := H.2
      refine fs_iald dd_X11_person_90 ca_12 hb ?_
      exact fs_iret dd_X11_person_91 rfl H
    by_cases hc4 : p1 = 4
    · replace H := H.2.2.2.2.1 hc4
      refine fs_tableAt (k := 4) (off := 81) (tgt := 92) hc4 dd_X11_person_11 (by decide) (by decide) rfl (by decide) ?_
      refine fs_aload_n (k0 := 0) (i := 0) dd_X11_person_92 rfl rfl ?_
      refine fs_getr (ci := 11) (j := 4) (q := 6) dd_X11_person_93 fl_X11_34 ca_2 rfl (Or.inl ⟨_, rfl⟩) rfl (by decide) ?_
      refine fs_getr (ci := 9) (j := 6) (q := 13) dd_X11_person_96 fl_X11_230 ca_6 rfl (Or.inr ⟨_, rfl⟩) rfl (by decide) ?_
      refine fs_iload_n (k0 := 1) (i := 1) dd_X11_person_99 rfl rfl ?_
      have hb := H.1
      replace H := H.2
      refine fs_iald dd_X11_person_100 ca_13 hb ?_
      exact fs_iret dd_X11_person_101 rfl H
    by_cases hc5 : p1 = 5
    · replace H := H.2.2.2.2.2.1 hc5
      refine fs_tableAt (k := 5) (off := 91) (tgt := 102) hc5 dd_X11_person_11 (by decide) (by decide) rfl (by decide) ?_
      refine fs_aload_n (k0 := 0) (i := 0) dd_X11_person_102 rfl rfl ?_
      refine fs_getr (ci := 11) (j := 8) (q := 35) dd_X11_person_103 fl_X11_63 ca_2 rfl (Or.inl ⟨_, rfl⟩) rfl (by decide) ?_
      refine fs_getr (ci := 10) (j := 4) (q := 40) dd_X11_person_106 fl_X11_233 ca_35 rfl (Or.inr ⟨_, rfl⟩) rfl (by decide) ?_
      refine fs_iload_n (k0 := 1) (i := 1) dd_X11_person_109 rfl rfl ?_
      have hb := H.1
      replace H := H.2
      refine fs_iald dd_X11_person_110 ca_40 hb ?_
      exact fs_iret dd_X11_person_111 rfl H
    by_cases hc6 : p1 = 6
    · replace H := H.2.2.2.2.2.2.1 hc6
      refine fs_tableAt (k := 6) (off := 101) (tgt := 112) hc6 dd_X11_person_11 (by decide) (by decide) rfl (by decide) ?_
      refine fs_aload_n (k0 := 0) (i := 0) dd_X11_person_112 rfl rfl ?_
      refine fs_getr (ci := 11) (j := 7) (q := 30) dd_X11_person_113 fl_X11_56 ca_2 rfl (Or.inl ⟨_, rfl⟩) rfl (by decide) ?_
      refine fs_aload_n (k0 := 0) (i := 0) dd_X11_person_116 rfl rfl ?_
      refine fs_getr (ci := 11) (j := 8) (q := 35) dd_X11_person_117 fl_X11_63 ca_2 rfl (Or.inl ⟨_, rfl⟩) rfl (by decide) ?_
      refine fs_iload_n (k0 := 1) (i := 1) dd_X11_person_120 rfl rfl ?_
      refine fs_callV (y := m_X0_wouldPass) (as := [.ref 35, .int p0]) dd_X11_person_121 me_X0_wouldPass lk_X11_211 in_X0_wouldPass se_X0_wouldPass ca_30 rfl rfl rfl (Nat.le_of_ble_eq_true rfl) (Nat.le_of_ble_eq_true rfl) rfl (V_X0_wouldPass (by omega) ca_35 H) (k2_Z fun r3 s4 H => ?_)
      refine fs_callS (y := m_X11_bit) (as := [.int (bi r3)]) dd_X11_person_124 me_X11_bit (Or.inl lk_X11_215) st_X11_bit rfl (Nat.le_of_ble_eq_true rfl) (Nat.le_of_ble_eq_true rfl) rfl (V_X11_bit (by omega)  H) (k2_I fun r5 s6 H => ?_)
      exact fs_iret dd_X11_person_127 rfl H
    replace H := H.2.2.2.2.2.2.2 ⟨hc0, hc1, hc2, hc3, hc4, hc5, hc6⟩
    refine fs_tableOut' (ks := [0, 1, 2, 3, 4, 5, 6]) (tgt := 128) (by simp only [List.forall_mem_cons]; exact ⟨hc0, hc1, hc2, hc3, hc4, hc5, hc6, fun _ h => by cases h⟩) dd_X11_person_11 (by decide) (by decide) ?_
    refine fs_iconst (n := -1) (v := -1) dd_X11_person_128 (by decide) ?_
    exact fs_iret dd_X11_person_129 rfl H
  · replace H := H.2 (bi_1 hc)
    refine fs_iconst (n := -1) (v := -1) dd_X11_person_8 (by decide) ?_
    exact fs_iret dd_X11_person_9 rfl H
theorem dd_X11_does_0 : decode m_X11_does.2.1 0 = .ok (.aload_n 0, 1) := by decide +kernel
theorem dd_X11_does_1 : decode m_X11_does.2.1 1 = .ok (.iload_n 1, 1) := by decide +kernel
theorem dd_X11_does_2 : decode m_X11_does.2.1 2 = .ok (.invokevirtual 192, 3) := by decide +kernel
theorem dd_X11_does_5 : decode m_X11_does.2.1 5 = .ok (.ifCond .ne 11, 3) := by decide +kernel
theorem dd_X11_does_8 : decode m_X11_does.2.1 8 = .ok (.aload_n 0, 1) := by decide +kernel
theorem dd_X11_does_9 : decode m_X11_does.2.1 9 = .ok (.iload_n 2, 1) := by decide +kernel
theorem dd_X11_does_10 : decode m_X11_does.2.1 10 = .ok (.invokevirtual 184, 3) := by decide +kernel
theorem dd_X11_does_13 : decode m_X11_does.2.1 13 = .ok (.ifCond .eq 7, 3) := by decide +kernel
theorem dd_X11_does_16 : decode m_X11_does.2.1 16 = .ok (.ldc2_w 236, 3) := by decide +kernel
theorem dd_X11_does_19 : decode m_X11_does.2.1 19 = .ok (.lreturn, 1) := by decide +kernel
theorem dd_X11_does_20 : decode m_X11_does.2.1 20 = .ok (.aload_n 0, 1) := by decide +kernel
theorem dd_X11_does_21 : decode m_X11_does.2.1 21 = .ok (.getfield 56, 3) := by decide +kernel
theorem dd_X11_does_24 : decode m_X11_does.2.1 24 = .ok (.aload_n 0, 1) := by decide +kernel
theorem dd_X11_does_25 : decode m_X11_does.2.1 25 = .ok (.getfield 63, 3) := by decide +kernel
theorem dd_X11_does_28 : decode m_X11_does.2.1 28 = .ok (.iconst 2, 1) := by decide +kernel
theorem dd_X11_does_29 : decode m_X11_does.2.1 29 = .ok (.iload_n 1, 1) := by decide +kernel
theorem dd_X11_does_30 : decode m_X11_does.2.1 30 = .ok (.iload_n 2, 1) := by decide +kernel
theorem dd_X11_does_31 : decode m_X11_does.2.1 31 = .ok (.invokevirtual 238, 3) := by decide +kernel
theorem dd_X11_does_34 : decode m_X11_does.2.1 34 = .ok (.i2l, 1) := by decide +kernel
theorem dd_X11_does_35 : decode m_X11_does.2.1 35 = .ok (.lreturn, 1) := by decide +kernel
def wp_X11_does (p0 : Int32) (p1 : Int32) (s : fz_s) (Q : Int64 → fz_s → Prop) : Prop :=
  wp_X11_noPerson p0 s (fun r1 s2 => ((r1 = true → Q (-1000000000000000) s2) ∧ (r1 = false → wp_X11_noVillage p1 s2 (fun r3 s4 => ((r3 = false → wp_X0_ruled 35 2 p0 p1 s4 (fun r5 s6 => Q r5.toInt64 s6)) ∧ (r3 = true → Q (-1000000000000000) s4))))))
set_option maxRecDepth 100000 in
set_option maxHeartbeats 4000000 in
theorem V_X11_does {g : fz_G} {l : Launch} {d : Nat} (hD : 4 ≤ d) {p0 : Int32} {p1 : Int32}  {s : fz_s} {Q : Int64 → fz_s → Prop} (H : wp_X11_does p0 p1 s Q) : fs_V g l m_X11_does d true 0 (fz_en [.ref 2, .int p0, .int p1] 3) [] s (rL Q) := by
  obtain ⟨d, rfl⟩ : ∃ e, d = e + 1 := ⟨d - 1, by omega⟩
  unfold wp_X11_does at H
  refine fs_aload_n (k0 := 0) (i := 0) dd_X11_does_0 rfl rfl ?_
  refine fs_iload_n (k0 := 1) (i := 1) dd_X11_does_1 rfl rfl ?_
  refine fs_callV (y := m_X11_noPerson) (as := [.int p0]) dd_X11_does_2 me_X11_noPerson lk_X11_192 in_X11_noPerson se_X11_noPerson ca_2 rfl rfl rfl (Nat.le_of_ble_eq_true rfl) (Nat.le_of_ble_eq_true rfl) rfl (V_X11_noPerson (by omega)  H) (k2_Z fun r1 s2 H => ?_)
  refine fs_if_ne (tgt := 16) dd_X11_does_5 (by decide) (fun hc => ?_) (fun hc => ?_)
  · replace H := H.1 (bi_1 hc)
    refine fs_ldc2 (idx := 236) (v := -1000000000000000) dd_X11_does_16 cl_X11_236 ?_
    exact fs_lret dd_X11_does_19 rfl H
  · replace H := H.2 (bi_0 hc)
    refine fs_aload_n (k0 := 0) (i := 0) dd_X11_does_8 rfl rfl ?_
    refine fs_iload_n (k0 := 2) (i := 2) dd_X11_does_9 rfl rfl ?_
    refine fs_callV (y := m_X11_noVillage) (as := [.int p1]) dd_X11_does_10 me_X11_noVillage lk_X11_184 in_X11_noVillage se_X11_noVillage ca_2 rfl rfl rfl (Nat.le_of_ble_eq_true rfl) (Nat.le_of_ble_eq_true rfl) rfl (V_X11_noVillage (by omega)  H) (k2_Z fun r3 s4 H => ?_)
    refine fs_if_eq (tgt := 20) dd_X11_does_13 (by decide) (fun hc => ?_) (fun hc => ?_)
    · replace H := H.1 (bi_0 hc)
      refine fs_aload_n (k0 := 0) (i := 0) dd_X11_does_20 rfl rfl ?_
      refine fs_getr (ci := 11) (j := 7) (q := 30) dd_X11_does_21 fl_X11_56 ca_2 rfl (Or.inl ⟨_, rfl⟩) rfl (by decide) ?_
      refine fs_aload_n (k0 := 0) (i := 0) dd_X11_does_24 rfl rfl ?_
      refine fs_getr (ci := 11) (j := 8) (q := 35) dd_X11_does_25 fl_X11_63 ca_2 rfl (Or.inl ⟨_, rfl⟩) rfl (by decide) ?_
      refine fs_iconst (n := 2) (v := 2) dd_X11_does_28 (by decide) ?_
      refine fs_iload_n (k0 := 1) (i := 1) dd_X11_does_29 rfl rfl ?_
      refine fs_iload_n (k0 := 2) (i := 2) dd_X11_does_30 rfl rfl ?_
      refine fs_callV (y := m_X0_ruled) (as := [.ref 35, .int 2, .int p0, .int p1]) dd_X11_does_31 me_X0_ruled lk_X11_238 in_X0_ruled se_X0_ruled ca_30 rfl rfl rfl (Nat.le_of_ble_eq_true rfl) (Nat.le_of_ble_eq_true rfl) rfl (V_X0_ruled (by omega) ca_35 H) (k2_I fun r5 s6 H => ?_)
      refine fs_i2l dd_X11_does_34 ?_
      exact fs_lret dd_X11_does_35 rfl H
    · replace H := H.2 (bi_1 hc)
      refine fs_ldc2 (idx := 236) (v := -1000000000000000) dd_X11_does_16 cl_X11_236 ?_
      exact fs_lret dd_X11_does_19 rfl H

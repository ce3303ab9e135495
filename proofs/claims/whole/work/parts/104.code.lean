theorem dd_X11_gain_0 : decode m_X11_gain.2.1 0 = .ok (.aload_n 0, 1) := by decide +kernel
theorem dd_X11_gain_1 : decode m_X11_gain.2.1 1 = .ok (.iload_n 3, 1) := by decide +kernel
theorem dd_X11_gain_2 : decode m_X11_gain.2.1 2 = .ok (.invokevirtual 184, 3) := by decide +kernel
theorem dd_X11_gain_5 : decode m_X11_gain.2.1 5 = .ok (.ifCond .ne 27, 3) := by decide +kernel
theorem dd_X11_gain_8 : decode m_X11_gain.2.1 8 = .ok (.aload_n 0, 1) := by decide +kernel
theorem dd_X11_gain_9 : decode m_X11_gain.2.1 9 = .ok (.iload_n 1, 1) := by decide +kernel
theorem dd_X11_gain_10 : decode m_X11_gain.2.1 10 = .ok (.invokevirtual 192, 3) := by decide +kernel
theorem dd_X11_gain_13 : decode m_X11_gain.2.1 13 = .ok (.ifCond .ne 19, 3) := by decide +kernel
theorem dd_X11_gain_16 : decode m_X11_gain.2.1 16 = .ok (.aload_n 0, 1) := by decide +kernel
theorem dd_X11_gain_17 : decode m_X11_gain.2.1 17 = .ok (.iload_n 2, 1) := by decide +kernel
theorem dd_X11_gain_18 : decode m_X11_gain.2.1 18 = .ok (.invokevirtual 192, 3) := by decide +kernel
theorem dd_X11_gain_21 : decode m_X11_gain.2.1 21 = .ok (.ifCond .ne 11, 3) := by decide +kernel
theorem dd_X11_gain_24 : decode m_X11_gain.2.1 24 = .ok (.aload_n 0, 1) := by decide +kernel
theorem dd_X11_gain_25 : decode m_X11_gain.2.1 25 = .ok (.iconst 1, 1) := by decide +kernel
theorem dd_X11_gain_26 : decode m_X11_gain.2.1 26 = .ok (.invokevirtual 249, 3) := by decide +kernel
theorem dd_X11_gain_29 : decode m_X11_gain.2.1 29 = .ok (.ifCond .eq 7, 3) := by decide +kernel
theorem dd_X11_gain_32 : decode m_X11_gain.2.1 32 = .ok (.ldc2_w 236, 3) := by decide +kernel
theorem dd_X11_gain_35 : decode m_X11_gain.2.1 35 = .ok (.lreturn, 1) := by decide +kernel
theorem dd_X11_gain_36 : decode m_X11_gain.2.1 36 = .ok (.aload_n 0, 1) := by decide +kernel
theorem dd_X11_gain_37 : decode m_X11_gain.2.1 37 = .ok (.getfield 56, 3) := by decide +kernel
theorem dd_X11_gain_40 : decode m_X11_gain.2.1 40 = .ok (.aload_n 0, 1) := by decide +kernel
theorem dd_X11_gain_41 : decode m_X11_gain.2.1 41 = .ok (.getfield 63, 3) := by decide +kernel
theorem dd_X11_gain_44 : decode m_X11_gain.2.1 44 = .ok (.iload_n 1, 1) := by decide +kernel
theorem dd_X11_gain_45 : decode m_X11_gain.2.1 45 = .ok (.iconst 0, 1) := by decide +kernel
theorem dd_X11_gain_46 : decode m_X11_gain.2.1 46 = .ok (.invokevirtual 258, 3) := by decide +kernel
theorem dd_X11_gain_49 : decode m_X11_gain.2.1 49 = .ok (.ifCond .eq 19, 3) := by decide +kernel
theorem dd_X11_gain_52 : decode m_X11_gain.2.1 52 = .ok (.aload_n 0, 1) := by decide +kernel
theorem dd_X11_gain_53 : decode m_X11_gain.2.1 53 = .ok (.getfield 56, 3) := by decide +kernel
theorem dd_X11_gain_56 : decode m_X11_gain.2.1 56 = .ok (.aload_n 0, 1) := by decide +kernel
theorem dd_X11_gain_57 : decode m_X11_gain.2.1 57 = .ok (.getfield 63, 3) := by decide +kernel
theorem dd_X11_gain_60 : decode m_X11_gain.2.1 60 = .ok (.iload_n 2, 1) := by decide +kernel
theorem dd_X11_gain_61 : decode m_X11_gain.2.1 61 = .ok (.iconst 1, 1) := by decide +kernel
theorem dd_X11_gain_62 : decode m_X11_gain.2.1 62 = .ok (.invokevirtual 258, 3) := by decide +kernel
theorem dd_X11_gain_65 : decode m_X11_gain.2.1 65 = .ok (.ifCond .ne 7, 3) := by decide +kernel
theorem dd_X11_gain_68 : decode m_X11_gain.2.1 68 = .ok (.ldc2_w 236, 3) := by decide +kernel
theorem dd_X11_gain_71 : decode m_X11_gain.2.1 71 = .ok (.lreturn, 1) := by decide +kernel
theorem dd_X11_gain_72 : decode m_X11_gain.2.1 72 = .ok (.aload_n 0, 1) := by decide +kernel
theorem dd_X11_gain_73 : decode m_X11_gain.2.1 73 = .ok (.getfield 82, 3) := by decide +kernel
theorem dd_X11_gain_76 : decode m_X11_gain.2.1 76 = .ok (.aload_n 0, 1) := by decide +kernel
theorem dd_X11_gain_77 : decode m_X11_gain.2.1 77 = .ok (.getfield 63, 3) := by decide +kernel
theorem dd_X11_gain_80 : decode m_X11_gain.2.1 80 = .ok (.iload_n 1, 1) := by decide +kernel
theorem dd_X11_gain_81 : decode m_X11_gain.2.1 81 = .ok (.iload_n 2, 1) := by decide +kernel
theorem dd_X11_gain_82 : decode m_X11_gain.2.1 82 = .ok (.iload_n 3, 1) := by decide +kernel
theorem dd_X11_gain_83 : decode m_X11_gain.2.1 83 = .ok (.invokevirtual 262, 3) := by decide +kernel
theorem dd_X11_gain_86 : decode m_X11_gain.2.1 86 = .ok (.i2l, 1) := by decide +kernel
theorem dd_X11_gain_87 : decode m_X11_gain.2.1 87 = .ok (.lreturn, 1) := by decide +kernel
def wp_X11_gain (p0 : Int32) (p1 : Int32) (p2 : Int32) (s : fz_s) (Q : Int64 → fz_s → Prop) : Prop :=
  wp_X11_noVillage p2 s (fun r1 s2 => ((r1 = true → Q (-1000000000000000) s2) ∧ (r1 = false → wp_X11_noPerson p0 s2 (fun r3 s4 => ((r3 = true → Q (-1000000000000000) s4) ∧ (r3 = false → wp_X11_noPerson p1 s4 (fun r5 s6 => ((r5 = true → Q (-1000000000000000) s6) ∧ (r5 = false → wp_X11_beyond 1 s6 (fun r7 s8 => ((r7 = false → wp_X0_canSend 35 p0 0 s8 (fun r9 s10 => ((r9 = false → Q (-1000000000000000) s10) ∧ (r9 = true → wp_X0_canSend 35 p1 1 s10 (fun r11 s12 => ((r11 = true → wp_X3_gainOf 35 p0 p1 p2 s12 (fun r13 s14 => Q r13.toInt64 s14)) ∧ (r11 = false → Q (-1000000000000000) s12))))))) ∧ (r7 = true → Q (-1000000000000000) s8))))))))))))
set_option maxRecDepth 100000 in
set_option maxHeartbeats 4000000 in
theorem V_X11_gain {g : fz_G} {l : Launch} {d : Nat} (hD : 7 ≤ d) {p0 : Int32} {p1 : Int32} {p2 : Int32}  {s : fz_s} {Q : Int64 → fz_s → Prop} (H : wp_X11_gain p0 p1 p2 s Q) : fs_V g l m_X11_gain d true 0 (fz_en [.ref 2, .int p0, .int p1, .int p2] 4) [] s (rL Q) := by
  obtain ⟨d, rfl⟩ : ∃ e, d = e + 1 := ⟨d - 1, by omega⟩
  unfold wp_X11_gain at H
  refine fs_aload_n (k0 := 0) (i := 0) dd_X11_gain_0 rfl rfl ?_
  refine fs_iload_n (k0 := 3) (i := 3) dd_X11_gain_1 rfl rfl ?_
  refine fs_callV (y := m_X11_noVillage) (as := [.int p2]) dd_X11_gain_2 me_X11_noVillage lk_X11_184 in_X11_noVillage se_X11_noVillage ca_2 rfl rfl rfl (Nat.le_of_ble_eq_true rfl) (Nat.le_of_ble_eq_true rfl) rfl (V_X11_noVillage (by omega)  H) (k2_Z fun r1 s2 H => ?_)
  refine fs_if_ne (tgt := 32) dd_X11_gain_5 (by decide) (fun hc => ?_) (fun hc => ?_)
  · replace H := H.1 (bi_1 hc)
    refine fs_ldc2 (idx := 236) (v := -1000000000000000) dd_X11_gain_32 cl_X11_236 ?_
    exact fs_lret dd_X11_gain_35 rfl H
  · replace H := H.2 (bi_0 hc)
    refine fs_aload_n (k0 := 0) (i := 0) dd_X11_gain_8 rfl rfl ?_
    refine fs_iload_n (k0 := 1) (i := 1) dd_X11_gain_9 rfl rfl ?_
    refine fs_callV (y := m_X11_noPerson) (as := [.int p0]) dd_X11_gain_10 me_X11_noPerson lk_X11_192 in_X11_noPerson se_X11_noPerson ca_2 rfl rfl rfl (Nat.le_of_ble_eq_true rfl) (Nat.le_of_ble_eq_true rfl) rfl (V_X11_noPerson (by omega)  H) (k2_Z fun r3 s4 H => ?_)
    refine fs_if_ne (tgt := 32) dd_X11_gain_13 (by decide) (fun hc => ?_) (fun hc => ?_)
    · replace H := H.1 (bi_1 hc)
      refine fs_ldc2 (idx := 236) (v := -1000000000000000) dd_X11_gain_32 cl_X11_236 ?_
      exact fs_lret dd_X11_gain_35 rfl H
    · replace H := H.2 (bi_0 hc)
      refine fs_aload_n (k0 := 0) (i := 0) dd_X11_gain_16 rfl rfl ?_
      refine fs_iload_n (k0 := 2) (i := 2) dd_X11_gain_17 rfl rfl ?_
      refine fs_callV (y := m_X11_noPerson) (as := [.int p1]) dd_X11_gain_18 me_X11_noPerson lk_X11_192 in_X11_noPerson se_X11_noPerson ca_2 rfl rfl rfl (Nat.le_of_ble_eq_true rfl) (Nat.le_of_ble_eq_true rfl) rfl (V_X11_noPerson (by omega)  H) (k2_Z fun r5 s6 H => ?_)
      refine fs_if_ne (tgt := 32) dd_X11_gain_21 (by decide) (fun hc => ?_) (fun hc => ?_)
      · replace H := H.1 (bi_1 hc)
        refine fs_ldc2 (idx := 236) (v := -1000000000000000) dd_X11_gain_32 cl_X11_236 ?_
        exact fs_lret dd_X11_gain_35 rfl H
      · replace H := H.2 (bi_0 hc)
        refine fs_aload_n (k0 := 0) (i := 0) dd_X11_gain_24 rfl rfl ?_
        refine fs_iconst (n := 1) (v := 1) dd_X11_gain_25 (by decide) ?_
        refine fs_callV (y := m_X11_beyond) (as := [.int 1]) dd_X11_gain_26 me_X11_beyond lk_X11_249 in_X11_beyond se_X11_beyond ca_2 rfl rfl rfl (Nat.le_of_ble_eq_true rfl) (Nat.le_of_ble_eq_true rfl) rfl (V_X11_beyond (by omega)  H) (k2_Z fun r7 s8 H => ?_)
        refine fs_if_eq (tgt := 36) dd_X11_gain_29 (by decide) (fun hc => ?_) (fun hc => ?_)
        · replace H := H.1 (bi_0 hc)
          refine fs_aload_n (k0 := 0) (i := 0) dd_X11_gain_36 rfl rfl ?_
          refine fs_getr (ci := 11) (j := 7) (q := 30) dd_X11_gain_37 fl_X11_56 ca_2 rfl (Or.inl ⟨_, rfl⟩) rfl (by decide) ?_
          refine fs_aload_n (k0 := 0) (i := 0) dd_X11_gain_40 rfl rfl ?_
          refine fs_getr (ci := 11) (j := 8) (q := 35) dd_X11_gain_41 fl_X11_63 ca_2 rfl (Or.inl ⟨_, rfl⟩) rfl (by decide) ?_
          refine fs_iload_n (k0 := 1) (i := 1) dd_X11_gain_44 rfl rfl ?_
          refine fs_iconst (n := 0) (v := 0) dd_X11_gain_45 (by decide) ?_
          refine fs_callV (y := m_X0_canSend) (as := [.ref 35, .int p0, .int 0]) dd_X11_gain_46 me_X0_canSend lk_X11_258 in_X0_canSend se_X0_canSend ca_30 rfl rfl rfl (Nat.le_of_ble_eq_true rfl) (Nat.le_of_ble_eq_true rfl) rfl (V_X0_canSend (by omega) ca_35 H) (k2_Z fun r9 s10 H => ?_)
          refine fs_if_eq (tgt := 68) dd_X11_gain_49 (by decide) (fun hc => ?_) (fun hc => ?_)
          · replace H := H.1 (bi_0 hc)
            refine fs_ldc2 (idx := 236) (v := -1000000000000000) dd_X11_gain_68 cl_X11_236 ?_
            exact fs_lret dd_X11_gain_71 rfl H
          · replace H := H.2 (bi_1 hc)
            refine fs_aload_n (k0 := 0) (i := 0) dd_X11_gain_52 rfl rfl ?_
            refine fs_getr (ci := 11) (j := 7) (q := 30) dd_X11_gain_53 fl_X11_56 ca_2 rfl (Or.inl ⟨_, rfl⟩) rfl (by decide) ?_
            refine fs_aload_n (k0 := 0) (i := 0) dd_X11_gain_56 rfl rfl ?_
            refine fs_getr (ci := 11) (j := 8) (q := 35) dd_X11_gain_57 fl_X11_63 ca_2 rfl (Or.inl ⟨_, rfl⟩) rfl (by decide) ?_
            refine fs_iload_n (k0 := 2) (i := 2) dd_X11_gain_60 rfl rfl ?_
            refine fs_iconst (n := 1) (v := 1) dd_X11_gain_61 (by decide) ?_
            refine fs_callV (y := m_X0_canSend) (as := [.ref 35, .int p1, .int 1]) dd_X11_gain_62 me_X0_canSend lk_X11_258 in_X0_canSend se_X0_canSend ca_30 rfl rfl rfl (Nat.le_of_ble_eq_true rfl) (Nat.le_of_ble_eq_true rfl) rfl (V_X0_canSend (by omega) ca_35 H) (k2_Z fun r11 s12 H => ?_)
            refine fs_if_ne (tgt := 72) dd_X11_gain_65 (by decide) (fun hc => ?_) (fun hc => ?_)
            · replace H := H.1 (bi_1 hc)
              refine fs_aload_n (k0 := 0) (i := 0) dd_X11_gain_72 rfl rfl ?_
              refine fs_getr (ci := 11) (j := 11) (q := 172) dd_X11_gain_73 fl_X11_82 ca_2 rfl (Or.inl ⟨_, rfl⟩) rfl (by decide) ?_
              refine fs_aload_n (k0 := 0) (i := 0) dd_X11_gain_76 rfl rfl ?_
              refine fs_getr (ci := 11) (j := 8) (q := 35) dd_X11_gain_77 fl_X11_63 ca_2 rfl (Or.inl ⟨_, rfl⟩) rfl (by decide) ?_
              refine fs_iload_n (k0 := 1) (i := 1) dd_X11_gain_80 rfl rfl ?_
              refine fs_iload_n (k0 := 2) (i := 2) dd_X11_gain_81 rfl rfl ?_
              refine fs_iload_n (k0 := 3) (i := 3) dd_X11_gain_82 rfl rfl ?_
              refine fs_callV (y := m_X3_gainOf) (as := [.ref 35, .int p0, .int p1, .int p2]) dd_X11_gain_83 me_X3_gainOf lk_X11_262 in_X3_gainOf se_X3_gainOf ca_172 rfl rfl rfl (Nat.le_of_ble_eq_true rfl) (Nat.le_of_ble_eq_true rfl) rfl (V_X3_gainOf (by omega) ca_35 H) (k2_I fun r13 s14 H => ?_)
              refine fs_i2l dd_X11_gain_86 ?_
              exact fs_lret dd_X11_gain_87 rfl H
            · replace H := H.2 (bi_0 hc)
              refine fs_ldc2 (idx := 236) (v := -1000000000000000) dd_X11_gain_68 cl_X11_236 ?_
              exact fs_lret dd_X11_gain_71 rfl H
        · replace H := H.2 (bi_1 hc)
          refine fs_ldc2 (idx := 236) (v := -1000000000000000) dd_X11_gain_32 cl_X11_236 ?_
          exact fs_lret dd_X11_gain_35 rfl H
theorem dd_X3_isPair_0 : decode m_X3_isPair.2.1 0 = .ok (.aload_n 0, 1) := by decide +kernel
theorem dd_X3_isPair_1 : decode m_X3_isPair.2.1 1 = .ok (.getfield 29, 3) := by decide +kernel
theorem dd_X3_isPair_4 : decode m_X3_isPair.2.1 4 = .ok (.aload_n 1, 1) := by decide +kernel
theorem dd_X3_isPair_5 : decode m_X3_isPair.2.1 5 = .ok (.iload_n 2, 1) := by decide +kernel
theorem dd_X3_isPair_6 : decode m_X3_isPair.2.1 6 = .ok (.iconst 0, 1) := by decide +kernel
theorem dd_X3_isPair_7 : decode m_X3_isPair.2.1 7 = .ok (.invokevirtual 33, 3) := by decide +kernel
theorem dd_X3_isPair_10 : decode m_X3_isPair.2.1 10 = .ok (.ifCond .eq 20, 3) := by decide +kernel
theorem dd_X3_isPair_13 : decode m_X3_isPair.2.1 13 = .ok (.aload_n 0, 1) := by decide +kernel
theorem dd_X3_isPair_14 : decode m_X3_isPair.2.1 14 = .ok (.getfield 29, 3) := by decide +kernel
theorem dd_X3_isPair_17 : decode m_X3_isPair.2.1 17 = .ok (.aload_n 1, 1) := by decide +kernel
theorem dd_X3_isPair_18 : decode m_X3_isPair.2.1 18 = .ok (.iload_n 3, 1) := by decide +kernel
theorem dd_X3_isPair_19 : decode m_X3_isPair.2.1 19 = .ok (.iconst 1, 1) := by decide +kernel
theorem dd_X3_isPair_20 : decode m_X3_isPair.2.1 20 = .ok (.invokevirtual 33, 3) := by decide +kernel
theorem dd_X3_isPair_23 : decode m_X3_isPair.2.1 23 = .ok (.ifCond .eq 7, 3) := by decide +kernel
theorem dd_X3_isPair_26 : decode m_X3_isPair.2.1 26 = .ok (.iconst 1, 1) := by decide +kernel
theorem dd_X3_isPair_27 : decode m_X3_isPair.2.1 27 = .ok (.goto 4, 3) := by decide +kernel
theorem dd_X3_isPair_30 : decode m_X3_isPair.2.1 30 = .ok (.iconst 0, 1) := by decide +kernel
theorem dd_X3_isPair_31 : decode m_X3_isPair.2.1 31 = .ok (.ireturn, 1) := by decide +kernel
def wp_X3_isPair (w0 : Nat) (p1 : Int32) (p2 : Int32) (s : fz_s) (Q : Bool → fz_s → Prop) : Prop :=
  wp_X0_canSend w0 p1 0 s (fun r1 s2 => ((r1 = false → Q false s2) ∧ (r1 = true → wp_X0_canSend w0 p2 1 s2 (fun r3 s4 => ((r3 = false → Q false s4) ∧ (r3 = true → Q true s4))))))
set_option maxRecDepth 100000 in
set_option maxHeartbeats 4000000 in
theorem V_X3_isPair {g : fz_G} {l : Launch} {d : Nat} (hD : 1 ≤ d) {w0 : Nat} {p1 : Int32} {p2 : Int32} (hw0 : fz_at true w0 10 7) {s : fz_s} {Q : Bool → fz_s → Prop} (H : wp_X3_isPair w0 p1 p2 s Q) : fs_V g l m_X3_isPair d true 0 (fz_en [.ref 172, .ref w0, .int p1, .int p2] 4) [] s (rZ Q) := by
  obtain ⟨d, rfl⟩ : ∃ e, d = e + 1 := ⟨d - 1, by omega⟩
  unfold wp_X3_isPair at H
  refine fs_aload_n (k0 := 0) (i := 0) dd_X3_isPair_0 rfl rfl ?_
  refine fs_getr (ci := 3) (j := 1) (q := 30) dd_X3_isPair_1 fl_X3_29 ca_172 rfl (Or.inl ⟨_, rfl⟩) rfl (by decide) ?_
  refine fs_aload_n (k0 := 1) (i := 1) dd_X3_isPair_4 rfl rfl ?_
  refine fs_iload_n (k0 := 2) (i := 2) dd_X3_isPair_5 rfl rfl ?_
  refine fs_iconst (n := 0) (v := 0) dd_X3_isPair_6 (by decide) ?_
  refine fs_callV (y := m_X0_canSend) (as := [.ref w0, .int p1, .int 0]) dd_X3_isPair_7 me_X0_canSend lk_X3_33 in_X0_canSend se_X0_canSend ca_30 rfl rfl rfl (Nat.le_of_ble_eq_true rfl) (Nat.le_of_ble_eq_true rfl) rfl (V_X0_canSend (by omega) hw0 H) (k2_Z fun r1 s2 H => ?_)
  refine fs_if_eq (tgt := 30) dd_X3_isPair_10 (by decide) (fun hc => ?_) (fun hc => ?_)
  · replace H := H.1 (bi_0 hc)
    refine fs_iconst (n := 0) (v := 0) dd_X3_isPair_30 (by decide) ?_
    exact fs_zret false dd_X3_isPair_31 rfl rfl H
  · replace H := H.2 (bi_1 hc)
    refine fs_aload_n (k0 := 0) (i := 0) dd_X3_isPair_13 rfl rfl ?_
    refine fs_getr (ci := 3) (j := 1) (q := 30) dd_X3_isPair_14 fl_X3_29 ca_172 rfl (Or.inl ⟨_, rfl⟩) rfl (by decide) ?_
    refine fs_aload_n (k0 := 1) (i := 1) dd_X3_isPair_17 rfl rfl ?_
    refine fs_iload_n (k0 := 3) (i := 3) dd_X3_isPair_18 rfl rfl ?_
    refine fs_iconst (n := 1) (v := 1) dd_X3_isPair_19 (by decide) ?_
    refine fs_callV (y := m_X0_canSend) (as := [.ref w0, .int p2, .int 1]) dd_X3_isPair_20 me_X0_canSend lk_X3_33 in_X0_canSend se_X0_canSend ca_30 rfl rfl rfl (Nat.le_of_ble_eq_true rfl) (Nat.le_of_ble_eq_true rfl) rfl (V_X0_canSend (by omega) hw0 H) (k2_Z fun r3 s4 H => ?_)
    refine fs_if_eq (tgt := 30) dd_X3_isPair_23 (by decide) (fun hc => ?_) (fun hc => ?_)
    · replace H := H.1 (bi_0 hc)
      refine fs_iconst (n := 0) (v := 0) dd_X3_isPair_30 (by decide) ?_
      exact fs_zret false dd_X3_isPair_31 rfl rfl H
    · replace H := H.2 (bi_1 hc)
      refine fs_iconst (n := 1) (v := 1) dd_X3_isPair_26 (by decide) ?_
      refine fs_goto (tgt := 31) dd_X3_isPair_27 (by decide) ?_
      exact fs_zret true dd_X3_isPair_31 rfl rfl H
theorem dd_X3_cell_0 : decode m_X3_cell.2.1 0 = .ok (.iload_n 0, 1) := by decide +kernel
theorem dd_X3_cell_1 : decode m_X3_cell.2.1 1 = .ok (.bipush 8, 2) := by decide +kernel
theorem dd_X3_cell_3 : decode m_X3_cell.2.1 3 = .ok (.imul, 1) := by decide +kernel
theorem dd_X3_cell_4 : decode m_X3_cell.2.1 4 = .ok (.iload_n 1, 1) := by decide +kernel
theorem dd_X3_cell_5 : decode m_X3_cell.2.1 5 = .ok (.iadd, 1) := by decide +kernel
theorem dd_X3_cell_6 : decode m_X3_cell.2.1 6 = .ok (.iconst 2, 1) := by decide +kernel
theorem dd_X3_cell_7 : decode m_X3_cell.2.1 7 = .ok (.imul, 1) := by decide +kernel
theorem dd_X3_cell_8 : decode m_X3_cell.2.1 8 = .ok (.iload_n 2, 1) := by decide +kernel
theorem dd_X3_cell_9 : decode m_X3_cell.2.1 9 = .ok (.iadd, 1) := by decide +kernel
theorem dd_X3_cell_10 : decode m_X3_cell.2.1 10 = .ok (.ireturn, 1) := by decide +kernel
def wp_X3_cell (p0 : Int32) (p1 : Int32) (p2 : Int32) (s : fz_s) (Q : Int32 → fz_s → Prop) : Prop :=
  Q ((((p0 * 8) + p1) * 2) + p2) s
set_option maxRecDepth 100000 in
set_option maxHeartbeats 4000000 in
theorem V_X3_cell {g : fz_G} {l : Launch} {d : Nat} (hD : 0 ≤ d) {p0 : Int32} {p1 : Int32} {p2 : Int32}  {s : fz_s} {Q : Int32 → fz_s → Prop} (H : wp_X3_cell p0 p1 p2 s Q) : fs_V g l m_X3_cell d true 0 (fz_en [.int p0, .int p1, .int p2] 3) [] s (rI Q) := by
  unfold wp_X3_cell at H
  refine fs_iload_n (k0 := 0) (i := 0) dd_X3_cell_0 rfl rfl ?_
  refine fs_bipush (n := 8) (v := 8) dd_X3_cell_1 (by decide) ?_
  refine fs_imul dd_X3_cell_3 ?_
  refine fs_iload_n (k0 := 1) (i := 1) dd_X3_cell_4 rfl rfl ?_
  refine fs_iadd dd_X3_cell_5 ?_
  refine fs_iconst (n := 2) (v := 2) dd_X3_cell_6 (by decide) ?_
  refine fs_imul dd_X3_cell_7 ?_
  refine fs_iload_n (k0 := 2) (i := 2) dd_X3_cell_8 rfl rfl ?_
  refine fs_iadd dd_X3_cell_9 ?_
  exact fs_iret dd_X3_cell_10 rfl H
theorem dd_X3_fillHarvests_0 : decode m_X3_fillHarvests.2.1 0 = .ok (.iconst 0, 1) := by decide +kernel
theorem dd_X3_fillHarvests_1 : decode m_X3_fillHarvests.2.1 1 = .ok (.istore_n 2, 1) := by decide +kernel
theorem dd_X3_fillHarvests_2 : decode m_X3_fillHarvests.2.1 2 = .ok (.iload_n 2, 1) := by decide +kernel
theorem dd_X3_fillHarvests_3 : decode m_X3_fillHarvests.2.1 3 = .ok (.aload_n 0, 1) := by decide +kernel
theorem dd_X3_fillHarvests_4 : decode m_X3_fillHarvests.2.1 4 = .ok (.getfield 25, 3) := by decide +kernel
theorem dd_X3_fillHarvests_7 : decode m_X3_fillHarvests.2.1 7 = .ok (.getfield 55, 3) := by decide +kernel
theorem dd_X3_fillHarvests_10 : decode m_X3_fillHarvests.2.1 10 = .ok (.if_icmp .ge 76, 3) := by decide +kernel
theorem dd_X3_fillHarvests_13 : decode m_X3_fillHarvests.2.1 13 = .ok (.iconst 0, 1) := by decide +kernel
theorem dd_X3_fillHarvests_14 : decode m_X3_fillHarvests.2.1 14 = .ok (.istore_n 3, 1) := by decide +kernel
theorem dd_X3_fillHarvests_15 : decode m_X3_fillHarvests.2.1 15 = .ok (.iload_n 3, 1) := by decide +kernel
theorem dd_X3_fillHarvests_16 : decode m_X3_fillHarvests.2.1 16 = .ok (.aload_n 0, 1) := by decide +kernel
theorem dd_X3_fillHarvests_17 : decode m_X3_fillHarvests.2.1 17 = .ok (.getfield 25, 3) := by decide +kernel
theorem dd_X3_fillHarvests_20 : decode m_X3_fillHarvests.2.1 20 = .ok (.getfield 55, 3) := by decide +kernel
theorem dd_X3_fillHarvests_23 : decode m_X3_fillHarvests.2.1 23 = .ok (.if_icmp .ge 57, 3) := by decide +kernel
theorem dd_X3_fillHarvests_26 : decode m_X3_fillHarvests.2.1 26 = .ok (.aload_n 0, 1) := by decide +kernel
theorem dd_X3_fillHarvests_27 : decode m_X3_fillHarvests.2.1 27 = .ok (.aload_n 1, 1) := by decide +kernel
theorem dd_X3_fillHarvests_28 : decode m_X3_fillHarvests.2.1 28 = .ok (.iload_n 2, 1) := by decide +kernel
theorem dd_X3_fillHarvests_29 : decode m_X3_fillHarvests.2.1 29 = .ok (.iload_n 3, 1) := by decide +kernel
theorem dd_X3_fillHarvests_30 : decode m_X3_fillHarvests.2.1 30 = .ok (.invokevirtual 61, 3) := by decide +kernel
theorem dd_X3_fillHarvests_33 : decode m_X3_fillHarvests.2.1 33 = .ok (.ifCond .eq 41, 3) := by decide +kernel
theorem dd_X3_fillHarvests_36 : decode m_X3_fillHarvests.2.1 36 = .ok (.aload_n 0, 1) := by decide +kernel
theorem dd_X3_fillHarvests_37 : decode m_X3_fillHarvests.2.1 37 = .ok (.getfield 18, 3) := by decide +kernel
theorem dd_X3_fillHarvests_40 : decode m_X3_fillHarvests.2.1 40 = .ok (.iload_n 2, 1) := by decide +kernel
theorem dd_X3_fillHarvests_41 : decode m_X3_fillHarvests.2.1 41 = .ok (.iload_n 3, 1) := by decide +kernel
theorem dd_X3_fillHarvests_42 : decode m_X3_fillHarvests.2.1 42 = .ok (.iconst 0, 1) := by decide +kernel
theorem dd_X3_fillHarvests_43 : decode m_X3_fillHarvests.2.1 43 = .ok (.invokestatic 64, 3) := by decide +kernel
theorem dd_X3_fillHarvests_46 : decode m_X3_fillHarvests.2.1 46 = .ok (.aload_n 0, 1) := by decide +kernel
theorem dd_X3_fillHarvests_47 : decode m_X3_fillHarvests.2.1 47 = .ok (.aload_n 1, 1) := by decide +kernel
theorem dd_X3_fillHarvests_48 : decode m_X3_fillHarvests.2.1 48 = .ok (.iload_n 2, 1) := by decide +kernel
theorem dd_X3_fillHarvests_49 : decode m_X3_fillHarvests.2.1 49 = .ok (.iload_n 3, 1) := by decide +kernel
theorem dd_X3_fillHarvests_50 : decode m_X3_fillHarvests.2.1 50 = .ok (.iconst 0, 1) := by decide +kernel
theorem dd_X3_fillHarvests_51 : decode m_X3_fillHarvests.2.1 51 = .ok (.invokevirtual 51, 3) := by decide +kernel
theorem dd_X3_fillHarvests_54 : decode m_X3_fillHarvests.2.1 54 = .ok (.iastore, 1) := by decide +kernel
theorem dd_X3_fillHarvests_55 : decode m_X3_fillHarvests.2.1 55 = .ok (.aload_n 0, 1) := by decide +kernel
theorem dd_X3_fillHarvests_56 : decode m_X3_fillHarvests.2.1 56 = .ok (.getfield 18, 3) := by decide +kernel
theorem dd_X3_fillHarvests_59 : decode m_X3_fillHarvests.2.1 59 = .ok (.iload_n 2, 1) := by decide +kernel
theorem dd_X3_fillHarvests_60 : decode m_X3_fillHarvests.2.1 60 = .ok (.iload_n 3, 1) := by decide +kernel
theorem dd_X3_fillHarvests_61 : decode m_X3_fillHarvests.2.1 61 = .ok (.iconst 1, 1) := by decide +kernel
theorem dd_X3_fillHarvests_62 : decode m_X3_fillHarvests.2.1 62 = .ok (.invokestatic 64, 3) := by decide +kernel
theorem dd_X3_fillHarvests_65 : decode m_X3_fillHarvests.2.1 65 = .ok (.aload_n 0, 1) := by decide +kernel
theorem dd_X3_fillHarvests_66 : decode m_X3_fillHarvests.2.1 66 = .ok (.aload_n 1, 1) := by decide +kernel
theorem dd_X3_fillHarvests_67 : decode m_X3_fillHarvests.2.1 67 = .ok (.iload_n 2, 1) := by decide +kernel
theorem dd_X3_fillHarvests_68 : decode m_X3_fillHarvests.2.1 68 = .ok (.iload_n 3, 1) := by decide +kernel
theorem dd_X3_fillHarvests_69 : decode m_X3_fillHarvests.2.1 69 = .ok (.iconst 1, 1) := by decide +kernel
theorem dd_X3_fillHarvests_70 : decode m_X3_fillHarvests.2.1 70 = .ok (.invokevirtual 51, 3) := by decide +kernel
theorem dd_X3_fillHarvests_73 : decode m_X3_fillHarvests.2.1 73 = .ok (.iastore, 1) := by decide +kernel
theorem dd_X3_fillHarvests_74 : decode m_X3_fillHarvests.2.1 74 = .ok (.iinc 3 1, 3) := by decide +kernel
theorem dd_X3_fillHarvests_77 : decode m_X3_fillHarvests.2.1 77 = .ok (.goto (-62), 3) := by decide +kernel
theorem dd_X3_fillHarvests_80 : decode m_X3_fillHarvests.2.1 80 = .ok (.iinc 2 1, 3) := by decide +kernel
theorem dd_X3_fillHarvests_83 : decode m_X3_fillHarvests.2.1 83 = .ok (.goto (-81), 3) := by decide +kernel
theorem dd_X3_fillHarvests_86 : decode m_X3_fillHarvests.2.1 86 = .ok (.return_, 1) := by decide +kernel
def nd_X3_fillHarvests_15 (w0 : Nat) (K2 : Int32 → fz_s → Prop) (K15 : Int32 → Int32 → fz_s → Prop) (Q : fz_s → Prop) (v2 : Int32) (v3 : Int32) (s : fz_s) : Prop :=
  (((s.1 6 12) ≤ v3 → ∀ x1 : Int32, x1 = v2 + 1 → K2 x1 s) ∧ (¬ (s.1 6 12) ≤ v3 → wp_X3_isPair w0 v2 v3 s (fun r2 s3 => ((r2 = false → ∀ x4 : Int32, x4 = v3 + 1 → K15 v2 x4 s3) ∧ (r2 = true → wp_X3_cell v2 v3 0 s3 (fun r5 s6 => wp_X3_harvestBy w0 v2 v3 0 s6 (fun r7 s8 => vp_in r5 128 ∧ ∀ s9 : fz_s, s9 = si s8 179 r5.toNatClampNeg r7 → wp_X3_cell v2 v3 1 s9 (fun r10 s11 => wp_X3_harvestBy w0 v2 v3 1 s11 (fun r12 s13 => vp_in r10 128 ∧ ∀ s14 : fz_s, s14 = si s13 179 r10.toNatClampNeg r12 → ∀ x15 : Int32, x15 = v3 + 1 → K15 v2 x15 s14)))))))))
def lp_X3_fillHarvests_15 (w0 : Nat) (K2 : Int32 → fz_s → Prop) (Q : fz_s → Prop) : Nat → Int32 → Int32 → fz_s → Prop
  | 0 => fun _ _ _ => False
  | n + 1 => nd_X3_fillHarvests_15 w0 K2 (lp_X3_fillHarvests_15 w0 K2 Q n) Q
def nd_X3_fillHarvests_2 (w0 : Nat) (K2 : Int32 → fz_s → Prop) (Q : fz_s → Prop) (v2 : Int32) (s : fz_s) : Prop :=
  (((s.1 6 12) ≤ v2 → Q s) ∧ (¬ (s.1 6 12) ≤ v2 → lp_X3_fillHarvests_15 w0 K2 Q 2048 v2 0 s))
def lp_X3_fillHarvests_2 (w0 : Nat)  (Q : fz_s → Prop) : Nat → Int32 → fz_s → Prop
  | 0 => fun _ _ => False
  | n + 1 => nd_X3_fillHarvests_2 w0 (lp_X3_fillHarvests_2 w0  Q n) Q
def wp_X3_fillHarvests (w0 : Nat) (s : fz_s) (Q : fz_s → Prop) : Prop :=
  lp_X3_fillHarvests_2 w0  Q 2048 0 s
set_option maxRecDepth 100000 in
set_option maxHeartbeats 4000000 in
theorem V_nd_X3_fillHarvests_15 {g : fz_G} {l : Launch} {d : Nat} (hD : 6 ≤ d) {w0 : Nat} (hw0 : fz_at true w0 10 7) {K2 : Int32 → fz_s → Prop} {K15 : Int32 → Int32 → fz_s → Prop} {Q : fz_s → Prop} {v2 : Int32} {v3 : Int32} {s : fz_s} (hK2 : ∀ {v2 : Int32} {s : fz_s}, K2 v2 s → fs_V g l m_X3_fillHarvests d true 2 [.ref 172, .ref w0, .int v2, fz_J] [] s (rV Q)) (hK15 : ∀ {v2 : Int32} {v3 : Int32} {s : fz_s}, K15 v2 v3 s → fs_V g l m_X3_fillHarvests d true 15 [.ref 172, .ref w0, .int v2, .int v3] [] s (rV Q)) (H : nd_X3_fillHarvests_15 w0 K2 K15 Q v2 v3 s) : fs_V g l m_X3_fillHarvests d true 15 [.ref 172, .ref w0, .int v2, .int v3] [] s (rV Q) := by
  obtain ⟨d, rfl⟩ : ∃ e, d = e + 1 := ⟨d - 1, by omega⟩
  unfold nd_X3_fillHarvests_15 at H
  refine fs_iload_n (k0 := 3) (i := 3) dd_X3_fillHarvests_15 rfl rfl ?_
  refine fs_aload_n (k0 := 0) (i := 0) dd_X3_fillHarvests_16 rfl rfl ?_
  refine fs_getr (ci := 3) (j := 0) (q := 6) dd_X3_fillHarvests_17 fl_X3_25 ca_172 rfl (Or.inl ⟨_, rfl⟩) rfl (by decide) ?_
  refine fs_geti (ci := 9) (j := 12) dd_X3_fillHarvests_20 fl_X3_55 ca_6 rfl (Or.inl rfl) ?_
  refine fs_icmp_ge (tgt := 80) dd_X3_fillHarvests_23 (by decide) (fun hc => ?_) (fun hc => ?_)
  · replace H := H.1 hc
    refine fs_iincN (i := 2) (m := 1) (c := 1) dd_X3_fillHarvests_80 rfl (by decide) (by decide) (fun x1 hx1 => ?_)
    replace H := H x1 hx1
    refine fs_goto (tgt := 2) dd_X3_fillHarvests_83 (by decide) ?_
    refine fs_weak (ls2 := [.ref 172, .ref w0, .int x1, fz_J]) (fz_le_e (fz_le_e (fz_le_e (fz_le_j fz_le_n)))) ?_
    exact hK2 H
  · replace H := H.2 hc
    refine fs_aload_n (k0 := 0) (i := 0) dd_X3_fillHarvests_26 rfl rfl ?_
    refine fs_aload_n (k0 := 1) (i := 1) dd_X3_fillHarvests_27 rfl rfl ?_
    refine fs_iload_n (k0 := 2) (i := 2) dd_X3_fillHarvests_28 rfl rfl ?_
    refine fs_iload_n (k0 := 3) (i := 3) dd_X3_fillHarvests_29 rfl rfl ?_
    refine fs_callV (y := m_X3_isPair) (as := [.ref w0, .int v2, .int v3]) dd_X3_fillHarvests_30 me_X3_isPair lk_X3_61 in_X3_isPair se_X3_isPair ca_172 rfl rfl rfl (Nat.le_of_ble_eq_true rfl) (Nat.le_of_ble_eq_true rfl) rfl (V_X3_isPair (by omega) hw0 H) (k2_Z fun r2 s3 H => ?_)
    refine fs_if_eq (tgt := 74) dd_X3_fillHarvests_33 (by decide) (fun hc => ?_) (fun hc => ?_)
    · replace H := H.1 (bi_0 hc)
      refine fs_iincN (i := 3) (m := 1) (c := 1) dd_X3_fillHarvests_74 rfl (by decide) (by decide) (fun x4 hx4 => ?_)
      replace H := H x4 hx4
      refine fs_goto (tgt := 15) dd_X3_fillHarvests_77 (by decide) ?_
      refine fs_weak (ls2 := [.ref 172, .ref w0, .int v2, .int x4]) (fz_le_e (fz_le_e (fz_le_e (fz_le_e fz_le_n)))) ?_
      exact hK15 H
    · replace H := H.2 (bi_1 hc)
      refine fs_aload_n (k0 := 0) (i := 0) dd_X3_fillHarvests_36 rfl rfl ?_
      refine fs_getr (ci := 3) (j := 3) (q := 179) dd_X3_fillHarvests_37 fl_X3_18 ca_172 rfl (Or.inr ⟨_, rfl⟩) rfl (by decide) ?_
      refine fs_iload_n (k0 := 2) (i := 2) dd_X3_fillHarvests_40 rfl rfl ?_
      refine fs_iload_n (k0 := 3) (i := 3) dd_X3_fillHarvests_41 rfl rfl ?_
      refine fs_iconst (n := 0) (v := 0) dd_X3_fillHarvests_42 (by decide) ?_
      refine fs_callS (y := m_X3_cell) (as := [.int v2, .int v3, .int 0]) dd_X3_fillHarvests_43 me_X3_cell (Or.inl lk_X3_64) st_X3_cell rfl (Nat.le_of_ble_eq_true rfl) (Nat.le_of_ble_eq_true rfl) rfl (V_X3_cell (by omega)  H) (k2_I fun r5 s6 H => ?_)
      refine fs_aload_n (k0 := 0) (i := 0) dd_X3_fillHarvests_46 rfl rfl ?_
      refine fs_aload_n (k0 := 1) (i := 1) dd_X3_fillHarvests_47 rfl rfl ?_
      refine fs_iload_n (k0 := 2) (i := 2) dd_X3_fillHarvests_48 rfl rfl ?_
      refine fs_iload_n (k0 := 3) (i := 3) dd_X3_fillHarvests_49 rfl rfl ?_
      refine fs_iconst (n := 0) (v := 0) dd_X3_fillHarvests_50 (by decide) ?_
      refine fs_callV (y := m_X3_harvestBy) (as := [.ref w0, .int v2, .int v3, .int 0]) dd_X3_fillHarvests_51 me_X3_harvestBy lk_X3_51 in_X3_harvestBy se_X3_harvestBy ca_172 rfl rfl rfl (Nat.le_of_ble_eq_true rfl) (Nat.le_of_ble_eq_true rfl) rfl (V_X3_harvestBy (by omega) hw0 H) (k2_I fun r7 s8 H => ?_)
      have hb := H.1
      replace H := H.2
      refine fs_iast dd_X3_fillHarvests_54 ca_179 hb ?_
      refine fs_tops (fun s9 hs9 => ?_)
      replace H := H s9 hs9
      refine fs_aload_n (k0 := 0) (i := 0) dd_X3_fillHarvests_55 rfl rfl ?_
      refine fs_getr (ci := 3) (j := 3) (q := 179) dd_X3_fillHarvests_56 fl_X3_18 ca_172 rfl (Or.inr ⟨_, rfl⟩) rfl (by decide) ?_
      refine fs_iload_n (k0 := 2) (i := 2) dd_X3_fillHarvests_59 rfl rfl ?_
      refine fs_iload_n (k0 := 3) (i := 3) dd_X3_fillHarvests_60 rfl rfl ?_
      refine fs_iconst (n := 1) (v := 1) dd_X3_fillHarvests_61 (by decide) ?_
      refine fs_callS (y := m_X3_cell) (as := [.int v2, .int v3, .int 1]) dd_X3_fillHarvests_62 me_X3_cell (Or.inl lk_X3_64) st_X3_cell rfl (Nat.le_of_ble_eq_true rfl) (Nat.le_of_ble_eq_true rfl) rfl (V_X3_cell (by omega)  H) (k2_I fun r10 s11 H => ?_)
      refine fs_aload_n (k0 := 0) (i := 0) dd_X3_fillHarvests_65 rfl rfl ?_
      refine fs_aload_n (k0 := 1) (i := 1) dd_X3_fillHarvests_66 rfl rfl ?_
      refine fs_iload_n (k0 := 2) (i := 2) dd_X3_fillHarvests_67 rfl rfl ?_
      refine fs_iload_n (k0 := 3) (i := 3) dd_X3_fillHarvests_68 rfl rfl ?_
      refine fs_iconst (n := 1) (v := 1) dd_X3_fillHarvests_69 (by decide) ?_
      refine fs_callV (y := m_X3_harvestBy) (as := [.ref w0, .int v2, .int v3, .int 1]) dd_X3_fillHarvests_70 me_X3_harvestBy lk_X3_51 in_X3_harvestBy se_X3_harvestBy ca_172 rfl rfl rfl (Nat.le_of_ble_eq_true rfl) (Nat.le_of_ble_eq_true rfl) rfl (V_X3_harvestBy (by omega) hw0 H) (k2_I fun r12 s13 H => ?_)
      have hb := H.1
      replace H := H.2
      refine fs_iast dd_X3_fillHarvests_73 ca_179 hb ?_
      refine fs_tops (fun s14 hs14 => ?_)
      replace H := H s14 hs14
      refine fs_iincN (i := 3) (m := 1) (c := 1) dd_X3_fillHarvests_74 rfl (by decide) (by decide) (fun x15 hx15 => ?_)
      replace H := H x15 hx15
      refine fs_goto (tgt := 15) dd_X3_fillHarvests_77 (by decide) ?_
      refine fs_weak (ls2 := [.ref 172, .ref w0, .int v2, .int x15]) (fz_le_e (fz_le_e (fz_le_e (fz_le_e fz_le_n)))) ?_
      exact hK15 H
set_option maxRecDepth 100000 in
set_option maxHeartbeats 4000000 in
theorem V_lp_X3_fillHarvests_15 {g : fz_G} {l : Launch} {d : Nat} (hD : 6 ≤ d) {w0 : Nat} (hw0 : fz_at true w0 10 7) {K2 : Int32 → fz_s → Prop} {Q : fz_s → Prop} (hK2 : ∀ {v2 : Int32} {s : fz_s}, K2 v2 s → fs_V g l m_X3_fillHarvests d true 2 [.ref 172, .ref w0, .int v2, fz_J] [] s (rV Q)) (n : Nat) : ∀ {v2 : Int32} {v3 : Int32} {s : fz_s}, lp_X3_fillHarvests_15 w0 K2 Q n v2 v3 s → fs_V g l m_X3_fillHarvests d true 15 [.ref 172, .ref w0, .int v2, .int v3] [] s (rV Q) := by
  induction n with
  | zero => intro v2 v3 s H; exact H.elim
  | succ n ih => intro v2 v3 s H; exact V_nd_X3_fillHarvests_15 hD hw0 hK2 (fun H => ih H) H
set_option maxRecDepth 100000 in
set_option maxHeartbeats 4000000 in
theorem V_nd_X3_fillHarvests_2 {g : fz_G} {l : Launch} {d : Nat} (hD : 6 ≤ d) {w0 : Nat} (hw0 : fz_at true w0 10 7) {K2 : Int32 → fz_s → Prop} {Q : fz_s → Prop} {v2 : Int32} {s : fz_s} (hK2 : ∀ {v2 : Int32} {s : fz_s}, K2 v2 s → fs_V g l m_X3_fillHarvests d true 2 [.ref 172, .ref w0, .int v2, fz_J] [] s (rV Q)) (H : nd_X3_fillHarvests_2 w0 K2 Q v2 s) : fs_V g l m_X3_fillHarvests d true 2 [.ref 172, .ref w0, .int v2, fz_J] [] s (rV Q) := by
  obtain ⟨d, rfl⟩ : ∃ e, d = e + 1 := ⟨d - 1, by omega⟩
  unfold nd_X3_fillHarvests_2 at H
  refine fs_iload_n (k0 := 2) (i := 2) dd_X3_fillHarvests_2 rfl rfl ?_
  refine fs_aload_n (k0 := 0) (i := 0) dd_X3_fillHarvests_3 rfl rfl ?_
  refine fs_getr (ci := 3) (j := 0) (q := 6) dd_X3_fillHarvests_4 fl_X3_25 ca_172 rfl (Or.inl ⟨_, rfl⟩) rfl (by decide) ?_
  refine fs_geti (ci := 9) (j := 12) dd_X3_fillHarvests_7 fl_X3_55 ca_6 rfl (Or.inl rfl) ?_
  refine fs_icmp_ge (tgt := 86) dd_X3_fillHarvests_10 (by decide) (fun hc => ?_) (fun hc => ?_)
  · replace H := H.1 hc
    exact fs_vret dd_X3_fillHarvests_86 rfl H
  · replace H := H.2 hc
    refine fs_iconst (n := 0) (v := 0) dd_X3_fillHarvests_13 (by decide) ?_
    refine fs_istore_n (k0 := 3) (i := 3) dd_X3_fillHarvests_14 rfl (by decide) ?_
    refine fs_weak (ls2 := [.ref 172, .ref w0, .int v2, .int 0]) (fz_le_e (fz_le_e (fz_le_e (fz_le_e fz_le_n)))) ?_
    exact V_lp_X3_fillHarvests_15 hD  hw0 hK2 2048 H
set_option maxRecDepth 100000 in
set_option maxHeartbeats 4000000 in
theorem V_lp_X3_fillHarvests_2 {g : fz_G} {l : Launch} {d : Nat} (hD : 6 ≤ d) {w0 : Nat} (hw0 : fz_at true w0 10 7)  {Q : fz_s → Prop}  (n : Nat) : ∀ {v2 : Int32} {s : fz_s}, lp_X3_fillHarvests_2 w0  Q n v2 s → fs_V g l m_X3_fillHarvests d true 2 [.ref 172, .ref w0, .int v2, fz_J] [] s (rV Q) := by
  induction n with
  | zero => intro v2 s H; exact H.elim
  | succ n ih => intro v2 s H; exact V_nd_X3_fillHarvests_2 hD hw0 (fun H => ih H) H
set_option maxRecDepth 100000 in
set_option maxHeartbeats 4000000 in
theorem V_X3_fillHarvests {g : fz_G} {l : Launch} {d : Nat} (hD : 6 ≤ d) {w0 : Nat} (hw0 : fz_at true w0 10 7) {s : fz_s} {Q : fz_s → Prop} (H : wp_X3_fillHarvests w0 s Q) : fs_V g l m_X3_fillHarvests d true 0 (fz_en [.ref 172, .ref w0] 4) [] s (rV Q) := by
  obtain ⟨d, rfl⟩ : ∃ e, d = e + 1 := ⟨d - 1, by omega⟩
  unfold wp_X3_fillHarvests at H
  refine fs_iconst (n := 0) (v := 0) dd_X3_fillHarvests_0 (by decide) ?_
  refine fs_istore_n (k0 := 2) (i := 2) dd_X3_fillHarvests_1 rfl (by decide) ?_
  refine fs_weak (ls2 := [.ref 172, .ref w0, .int 0, fz_J]) (fz_le_e (fz_le_e (fz_le_e (fz_le_j fz_le_n)))) ?_
  exact V_lp_X3_fillHarvests_2 hD  hw0  2048 H
theorem dd_X3_choose_0 : decode m_X3_choose.2.1 0 = .ok (.aload_n 0, 1) := by decide +kernel
theorem dd_X3_choose_1 : decode m_X3_choose.2.1 1 = .ok (.getfield 22, 3) := by decide +kernel
theorem dd_X3_choose_4 : decode m_X3_choose.2.1 4 = .ok (.iconst 0, 1) := by decide +kernel
theorem dd_X3_choose_5 : decode m_X3_choose.2.1 5 = .ok (.iload_n 1, 1) := by decide +kernel
theorem dd_X3_choose_6 : decode m_X3_choose.2.1 6 = .ok (.iastore, 1) := by decide +kernel
theorem dd_X3_choose_7 : decode m_X3_choose.2.1 7 = .ok (.aload_n 0, 1) := by decide +kernel
theorem dd_X3_choose_8 : decode m_X3_choose.2.1 8 = .ok (.getfield 22, 3) := by decide +kernel
theorem dd_X3_choose_11 : decode m_X3_choose.2.1 11 = .ok (.iconst 1, 1) := by decide +kernel
theorem dd_X3_choose_12 : decode m_X3_choose.2.1 12 = .ok (.iload_n 2, 1) := by decide +kernel
theorem dd_X3_choose_13 : decode m_X3_choose.2.1 13 = .ok (.iastore, 1) := by decide +kernel
theorem dd_X3_choose_14 : decode m_X3_choose.2.1 14 = .ok (.return_, 1) := by decide +kernel
def wp_X3_choose (p0 : Int32) (p1 : Int32) (s : fz_s) (Q : fz_s → Prop) : Prop :=
  ∀ s1 : fz_s, s1 = si s 180 (0 : Int32).toNatClampNeg p0 → ∀ s2 : fz_s, s2 = si s1 180 (1 : Int32).toNatClampNeg p1 → Q s2
set_option maxRecDepth 100000 in
set_option maxHeartbeats 4000000 in
theorem V_X3_choose {g : fz_G} {l : Launch} {d : Nat} (hD : 0 ≤ d) {p0 : Int32} {p1 : Int32}  {s : fz_s} {Q : fz_s → Prop} (H : wp_X3_choose p0 p1 s Q) : fs_V g l m_X3_choose d true 0 (fz_en [.ref 172, .int p0, .int p1] 3) [] s (rV Q) := by
  unfold wp_X3_choose at H
  refine fs_aload_n (k0 := 0) (i := 0) dd_X3_choose_0 rfl rfl ?_
  refine fs_getr (ci := 3) (j := 4) (q := 180) dd_X3_choose_1 fl_X3_22 ca_172 rfl (Or.inr ⟨_, rfl⟩) rfl (by decide) ?_
  refine fs_iconst (n := 0) (v := 0) dd_X3_choose_4 (by decide) ?_
  refine fs_iload_n (k0 := 1) (i := 1) dd_X3_choose_5 rfl rfl ?_
  refine fs_iast dd_X3_choose_6 ca_180 (vp_in_nI (n := 0) (by decide) (by decide)) ?_
  refine fs_tops (fun s1 hs1 => ?_)
  replace H := H s1 hs1
  refine fs_aload_n (k0 := 0) (i := 0) dd_X3_choose_7 rfl rfl ?_
  refine fs_getr (ci := 3) (j := 4) (q := 180) dd_X3_choose_8 fl_X3_22 ca_172 rfl (Or.inr ⟨_, rfl⟩) rfl (by decide) ?_
  refine fs_iconst (n := 1) (v := 1) dd_X3_choose_11 (by decide) ?_
  refine fs_iload_n (k0 := 2) (i := 2) dd_X3_choose_12 rfl rfl ?_
  refine fs_iast dd_X3_choose_13 ca_180 (vp_in_nI (n := 1) (by decide) (by decide)) ?_
  refine fs_tops (fun s2 hs2 => ?_)
  replace H := H s2 hs2
  exact fs_vret dd_X3_choose_14 rfl H
theorem dd_X3_findBargain_0 : decode m_X3_findBargain.2.1 0 = .ok (.aload_n 0, 1) := by decide +kernel
theorem dd_X3_findBargain_1 : decode m_X3_findBargain.2.1 1 = .ok (.aload_n 1, 1) := by decide +kernel
theorem dd_X3_findBargain_2 : decode m_X3_findBargain.2.1 2 = .ok (.invokevirtual 68, 3) := by decide +kernel
theorem dd_X3_findBargain_5 : decode m_X3_findBargain.2.1 5 = .ok (.aload_n 0, 1) := by decide +kernel
theorem dd_X3_findBargain_6 : decode m_X3_findBargain.2.1 6 = .ok (.getfield 29, 3) := by decide +kernel
theorem dd_X3_findBargain_9 : decode m_X3_findBargain.2.1 9 = .ok (.aload_n 1, 1) := by decide +kernel
theorem dd_X3_findBargain_10 : decode m_X3_findBargain.2.1 10 = .ok (.iconst 0, 1) := by decide +kernel
theorem dd_X3_findBargain_11 : decode m_X3_findBargain.2.1 11 = .ok (.invokevirtual 47, 3) := by decide +kernel
theorem dd_X3_findBargain_14 : decode m_X3_findBargain.2.1 14 = .ok (.istore_n 2, 1) := by decide +kernel
theorem dd_X3_findBargain_15 : decode m_X3_findBargain.2.1 15 = .ok (.aload_n 0, 1) := by decide +kernel
theorem dd_X3_findBargain_16 : decode m_X3_findBargain.2.1 16 = .ok (.getfield 29, 3) := by decide +kernel
theorem dd_X3_findBargain_19 : decode m_X3_findBargain.2.1 19 = .ok (.aload_n 1, 1) := by decide +kernel
theorem dd_X3_findBargain_20 : decode m_X3_findBargain.2.1 20 = .ok (.iconst 1, 1) := by decide +kernel
theorem dd_X3_findBargain_21 : decode m_X3_findBargain.2.1 21 = .ok (.invokevirtual 47, 3) := by decide +kernel
theorem dd_X3_findBargain_24 : decode m_X3_findBargain.2.1 24 = .ok (.istore_n 3, 1) := by decide +kernel
theorem dd_X3_findBargain_25 : decode m_X3_findBargain.2.1 25 = .ok (.aload_n 0, 1) := by decide +kernel
theorem dd_X3_findBargain_26 : decode m_X3_findBargain.2.1 26 = .ok (.iconst 0, 1) := by decide +kernel
theorem dd_X3_findBargain_27 : decode m_X3_findBargain.2.1 27 = .ok (.putfield 71, 3) := by decide +kernel
theorem dd_X3_findBargain_30 : decode m_X3_findBargain.2.1 30 = .ok (.iconst 0, 1) := by decide +kernel
theorem dd_X3_findBargain_31 : decode m_X3_findBargain.2.1 31 = .ok (.istore 4, 2) := by decide +kernel
theorem dd_X3_findBargain_33 : decode m_X3_findBargain.2.1 33 = .ok (.iload 4, 2) := by decide +kernel
theorem dd_X3_findBargain_35 : decode m_X3_findBargain.2.1 35 = .ok (.aload_n 0, 1) := by decide +kernel
theorem dd_X3_findBargain_36 : decode m_X3_findBargain.2.1 36 = .ok (.getfield 25, 3) := by decide +kernel
theorem dd_X3_findBargain_39 : decode m_X3_findBargain.2.1 39 = .ok (.getfield 55, 3) := by decide +kernel
theorem dd_X3_findBargain_42 : decode m_X3_findBargain.2.1 42 = .ok (.if_icmp .ge 100, 3) := by decide +kernel
theorem dd_X3_findBargain_45 : decode m_X3_findBargain.2.1 45 = .ok (.iconst 0, 1) := by decide +kernel
theorem dd_X3_findBargain_46 : decode m_X3_findBargain.2.1 46 = .ok (.istore 5, 2) := by decide +kernel
theorem dd_X3_findBargain_48 : decode m_X3_findBargain.2.1 48 = .ok (.iload 5, 2) := by decide +kernel
theorem dd_X3_findBargain_50 : decode m_X3_findBargain.2.1 50 = .ok (.aload_n 0, 1) := by decide +kernel
theorem dd_X3_findBargain_51 : decode m_X3_findBargain.2.1 51 = .ok (.getfield 25, 3) := by decide +kernel
theorem dd_X3_findBargain_54 : decode m_X3_findBargain.2.1 54 = .ok (.getfield 55, 3) := by decide +kernel
theorem dd_X3_findBargain_57 : decode m_X3_findBargain.2.1 57 = .ok (.if_icmp .ge 79, 3) := by decide +kernel
theorem dd_X3_findBargain_60 : decode m_X3_findBargain.2.1 60 = .ok (.aload_n 0, 1) := by decide +kernel
theorem dd_X3_findBargain_61 : decode m_X3_findBargain.2.1 61 = .ok (.getfield 18, 3) := by decide +kernel
theorem dd_X3_findBargain_64 : decode m_X3_findBargain.2.1 64 = .ok (.iload 4, 2) := by decide +kernel
theorem dd_X3_findBargain_66 : decode m_X3_findBargain.2.1 66 = .ok (.iload 5, 2) := by decide +kernel
theorem dd_X3_findBargain_68 : decode m_X3_findBargain.2.1 68 = .ok (.iconst 0, 1) := by decide +kernel
theorem dd_X3_findBargain_69 : decode m_X3_findBargain.2.1 69 = .ok (.invokestatic 64, 3) := by decide +kernel
theorem dd_X3_findBargain_72 : decode m_X3_findBargain.2.1 72 = .ok (.iaload, 1) := by decide +kernel
theorem dd_X3_findBargain_73 : decode m_X3_findBargain.2.1 73 = .ok (.iload_n 2, 1) := by decide +kernel
theorem dd_X3_findBargain_74 : decode m_X3_findBargain.2.1 74 = .ok (.isub, 1) := by decide +kernel
theorem dd_X3_findBargain_75 : decode m_X3_findBargain.2.1 75 = .ok (.aload_n 0, 1) := by decide +kernel
theorem dd_X3_findBargain_76 : decode m_X3_findBargain.2.1 76 = .ok (.getfield 18, 3) := by decide +kernel
theorem dd_X3_findBargain_79 : decode m_X3_findBargain.2.1 79 = .ok (.iload 4, 2) := by decide +kernel
theorem dd_X3_findBargain_81 : decode m_X3_findBargain.2.1 81 = .ok (.iload 5, 2) := by decide +kernel
theorem dd_X3_findBargain_83 : decode m_X3_findBargain.2.1 83 = .ok (.iconst 1, 1) := by decide +kernel
theorem dd_X3_findBargain_84 : decode m_X3_findBargain.2.1 84 = .ok (.invokestatic 64, 3) := by decide +kernel
theorem dd_X3_findBargain_87 : decode m_X3_findBargain.2.1 87 = .ok (.iaload, 1) := by decide +kernel
theorem dd_X3_findBargain_88 : decode m_X3_findBargain.2.1 88 = .ok (.iload_n 3, 1) := by decide +kernel
theorem dd_X3_findBargain_89 : decode m_X3_findBargain.2.1 89 = .ok (.isub, 1) := by decide +kernel
theorem dd_X3_findBargain_90 : decode m_X3_findBargain.2.1 90 = .ok (.invokestatic 74, 3) := by decide +kernel
theorem dd_X3_findBargain_93 : decode m_X3_findBargain.2.1 93 = .ok (.istore 6, 2) := by decide +kernel
theorem dd_X3_findBargain_95 : decode m_X3_findBargain.2.1 95 = .ok (.aload_n 0, 1) := by decide +kernel
theorem dd_X3_findBargain_96 : decode m_X3_findBargain.2.1 96 = .ok (.aload_n 1, 1) := by decide +kernel
theorem dd_X3_findBargain_97 : decode m_X3_findBargain.2.1 97 = .ok (.iload 4, 2) := by decide +kernel
theorem dd_X3_findBargain_99 : decode m_X3_findBargain.2.1 99 = .ok (.iload 5, 2) := by decide +kernel
theorem dd_X3_findBargain_101 : decode m_X3_findBargain.2.1 101 = .ok (.invokevirtual 61, 3) := by decide +kernel
theorem dd_X3_findBargain_104 : decode m_X3_findBargain.2.1 104 = .ok (.ifCond .eq 26, 3) := by decide +kernel
theorem dd_X3_findBargain_107 : decode m_X3_findBargain.2.1 107 = .ok (.iload 6, 2) := by decide +kernel
theorem dd_X3_findBargain_109 : decode m_X3_findBargain.2.1 109 = .ok (.aload_n 0, 1) := by decide +kernel
theorem dd_X3_findBargain_110 : decode m_X3_findBargain.2.1 110 = .ok (.getfield 71, 3) := by decide +kernel
theorem dd_X3_findBargain_113 : decode m_X3_findBargain.2.1 113 = .ok (.if_icmp .le 17, 3) := by decide +kernel
theorem dd_X3_findBargain_116 : decode m_X3_findBargain.2.1 116 = .ok (.aload_n 0, 1) := by decide +kernel
theorem dd_X3_findBargain_117 : decode m_X3_findBargain.2.1 117 = .ok (.iload 6, 2) := by decide +kernel
theorem dd_X3_findBargain_119 : decode m_X3_findBargain.2.1 119 = .ok (.putfield 71, 3) := by decide +kernel
theorem dd_X3_findBargain_122 : decode m_X3_findBargain.2.1 122 = .ok (.aload_n 0, 1) := by decide +kernel
theorem dd_X3_findBargain_123 : decode m_X3_findBargain.2.1 123 = .ok (.iload 4, 2) := by decide +kernel
theorem dd_X3_findBargain_125 : decode m_X3_findBargain.2.1 125 = .ok (.iload 5, 2) := by decide +kernel
theorem dd_X3_findBargain_127 : decode m_X3_findBargain.2.1 127 = .ok (.invokevirtual 80, 3) := by decide +kernel
theorem dd_X3_findBargain_130 : decode m_X3_findBargain.2.1 130 = .ok (.iinc 5 1, 3) := by decide +kernel
theorem dd_X3_findBargain_133 : decode m_X3_findBargain.2.1 133 = .ok (.goto (-85), 3) := by decide +kernel
theorem dd_X3_findBargain_136 : decode m_X3_findBargain.2.1 136 = .ok (.iinc 4 1, 3) := by decide +kernel
theorem dd_X3_findBargain_139 : decode m_X3_findBargain.2.1 139 = .ok (.goto (-106), 3) := by decide +kernel
theorem dd_X3_findBargain_142 : decode m_X3_findBargain.2.1 142 = .ok (.aload_n 0, 1) := by decide +kernel
theorem dd_X3_findBargain_143 : decode m_X3_findBargain.2.1 143 = .ok (.getfield 71, 3) := by decide +kernel
theorem dd_X3_findBargain_146 : decode m_X3_findBargain.2.1 146 = .ok (.ifCond .le 7, 3) := by decide +kernel
theorem dd_X3_findBargain_149 : decode m_X3_findBargain.2.1 149 = .ok (.iconst 1, 1) := by decide +kernel
theorem dd_X3_findBargain_150 : decode m_X3_findBargain.2.1 150 = .ok (.goto 4, 3) := by decide +kernel
theorem dd_X3_findBargain_153 : decode m_X3_findBargain.2.1 153 = .ok (.iconst 0, 1) := by decide +kernel
theorem dd_X3_findBargain_154 : decode m_X3_findBargain.2.1 154 = .ok (.ireturn, 1) := by decide +kernel
def nd_X3_findBargain_48 (w0 : Nat) (K33 : Int32 → Int32 → Int32 → fz_s → Prop) (K48 : Int32 → Int32 → Int32 → Int32 → fz_s → Prop) (Q : Bool → fz_s → Prop) (v2 : Int32) (v3 : Int32) (v4 : Int32) (v5 : Int32) (s : fz_s) : Prop :=
  (((s.1 6 12) ≤ v5 → ∀ x1 : Int32, x1 = v4 + 1 → K33 v2 v3 x1 s) ∧ (¬ (s.1 6 12) ≤ v5 → wp_X3_cell v4 v5 0 s (fun r2 s3 => vp_in r2 128 ∧ wp_X3_cell v4 v5 1 s3 (fun r4 s5 => vp_in r4 128 ∧ ∀ x6 : Int32, x6 = (if ((s5.1 179 r4.toNatClampNeg) - v3) < ((s3.1 179 r2.toNatClampNeg) - v2) then ((s5.1 179 r4.toNatClampNeg) - v3) else ((s3.1 179 r2.toNatClampNeg) - v2)) → wp_X3_isPair w0 v4 v5 s5 (fun r7 s8 => ((r7 = false → ∀ x9 : Int32, x9 = v5 + 1 → K48 v2 v3 v4 x9 s8) ∧ (r7 = true → ((x6 ≤ (s8.1 172 5) → ∀ x10 : Int32, x10 = v5 + 1 → K48 v2 v3 v4 x10 s8) ∧ (¬ x6 ≤ (s8.1 172 5) → ∀ s11 : fz_s, s11 = si s8 172 5 x6 → wp_X3_choose v4 v5 s11 (fun s13 => ∀ x14 : Int32, x14 = v5 + 1 → K48 v2 v3 v4 x14 s13))))))))))
def lp_X3_findBargain_48 (w0 : Nat) (K33 : Int32 → Int32 → Int32 → fz_s → Prop) (Q : Bool → fz_s → Prop) : Nat → Int32 → Int32 → Int32 → Int32 → fz_s → Prop
  | 0 => fun _ _ _ _ _ => False
  | n + 1 => nd_X3_findBargain_48 w0 K33 (lp_X3_findBargain_48 w0 K33 Q n) Q
def nd_X3_findBargain_33 (w0 : Nat) (K33 : Int32 → Int32 → Int32 → fz_s → Prop) (Q : Bool → fz_s → Prop) (v2 : Int32) (v3 : Int32) (v4 : Int32) (s : fz_s) : Prop :=
  (((s.1 6 12) ≤ v4 → (((s.1 172 5) ≤ 0 → Q false s) ∧ (¬ (s.1 172 5) ≤ 0 → Q true s))) ∧ (¬ (s.1 6 12) ≤ v4 → lp_X3_findBargain_48 w0 K33 Q 2048 v2 v3 v4 0 s))
def lp_X3_findBargain_33 (w0 : Nat)  (Q : Bool → fz_s → Prop) : Nat → Int32 → Int32 → Int32 → fz_s → Prop
  | 0 => fun _ _ _ _ => False
  | n + 1 => nd_X3_findBargain_33 w0 (lp_X3_findBargain_33 w0  Q n) Q
def wp_X3_findBargain (w0 : Nat) (s : fz_s) (Q : Bool → fz_s → Prop) : Prop :=
  wp_X3_fillHarvests w0 s (fun s2 => wp_X0_nextHarvest w0 0 s2 (fun r3 s4 => wp_X0_nextHarvest w0 1 s4 (fun r5 s6 => ∀ s7 : fz_s, s7 = si s6 172 5 0 → lp_X3_findBargain_33 w0  Q 2048 r3 r5 0 s7)))
set_option maxRecDepth 100000 in
set_option maxHeartbeats 4000000 in
theorem V_nd_X3_findBargain_48 {g : fz_G} {l : Launch} {d : Nat} (hD : 7 ≤ d) {w0 : Nat} (hw0 : fz_at true w0 10 7) {K33 : Int32 → Int32 → Int32 → fz_s → Prop} {K48 : Int32 → Int32 → Int32 → Int32 → fz_s → Prop} {Q : Bool → fz_s → Prop} {v2 : Int32} {v3 : Int32} {v4 : Int32} {v5 : Int32} {s : fz_s} (hK33 : ∀ {v2 : Int32} {v3 : Int32} {v4 : Int32} {s : fz_s}, K33 v2 v3 v4 s → fs_V g l m_X3_findBargain d true 33 [.ref 172, .ref w0, .int v2, .int v3, .int v4, fz_J, fz_J] [] s (rZ Q)) (hK48 : ∀ {v2 : Int32} {v3 : Int32} {v4 : Int32} {v5 : Int32} {s : fz_s}, K48 v2 v3 v4 v5 s → fs_V g l m_X3_findBargain d true 48 [.ref 172, .ref w0, .int v2, .int v3, .int v4, .int v5, fz_J] [] s (rZ Q)) (H : nd_X3_findBargain_48 w0 K33 K48 Q v2 v3 v4 v5 s) : fs_V g l m_X3_findBargain d true 48 [.ref 172, .ref w0, .int v2, .int v3, .int v4, .int v5, fz_J] [] s (rZ Q) := by
  obtain ⟨d, rfl⟩ : ∃ e, d = e + 1 := ⟨d - 1, by omega⟩
  unfold nd_X3_findBargain_48 at H
  refine fs_iload (i := 5) dd_X3_findBargain_48 rfl ?_
  refine fs_aload_n (k0 := 0) (i := 0) dd_X3_findBargain_50 rfl rfl ?_
  refine fs_getr (ci := 3) (j := 0) (q := 6) dd_X3_findBargain_51 fl_X3_25 ca_172 rfl (Or.inl ⟨_, rfl⟩) rfl (by decide) ?_
  refine fs_geti (ci := 9) (j := 12) dd_X3_findBargain_54 fl_X3_55 ca_6 rfl (Or.inl rfl) ?_
  refine fs_icmp_ge (tgt := 136) dd_X3_findBargain_57 (by decide) (fun hc => ?_) (fun hc => ?_)
  · replace H := H.1 hc
    refine fs_iincN (i := 4) (m := 1) (c := 1) dd_X3_findBargain_136 rfl (by decide) (by decide) (fun x1 hx1 => ?_)
    replace H := H x1 hx1
    refine fs_goto (tgt := 33) dd_X3_findBargain_139 (by decide) ?_
    refine fs_weak (ls2 := [.ref 172, .ref w0, .int v2, .int v3, .int x1, fz_J, fz_J]) (fz_le_e (fz_le_e (fz_le_e (fz_le_e (fz_le_e (fz_le_j (fz_le_j fz_le_n))))))) ?_
    exact hK33 H
  · replace H := H.2 hc
    refine fs_aload_n (k0 := 0) (i := 0) dd_X3_findBargain_60 rfl rfl ?_
    refine fs_getr (ci := 3) (j := 3) (q := 179) dd_X3_findBargain_61 fl_X3_18 ca_172 rfl (Or.inr ⟨_, rfl⟩) rfl (by decide) ?_
    refine fs_iload (i := 4) dd_X3_findBargain_64 rfl ?_
    refine fs_iload (i := 5) dd_X3_findBargain_66 rfl ?_
    refine fs_iconst (n := 0) (v := 0) dd_X3_findBargain_68 (by decide) ?_
    refine fs_callS (y := m_X3_cell) (as := [.int v4, .int v5, .int 0]) dd_X3_findBargain_69 me_X3_cell (Or.inl lk_X3_64) st_X3_cell rfl (Nat.le_of_ble_eq_true rfl) (Nat.le_of_ble_eq_true rfl) rfl (V_X3_cell (by omega)  H) (k2_I fun r2 s3 H => ?_)
    have hb := H.1
    replace H := H.2
    refine fs_iald dd_X3_findBargain_72 ca_179 hb ?_
    refine fs_iload_n (k0 := 2) (i := 2) dd_X3_findBargain_73 rfl rfl ?_
    refine fs_isub dd_X3_findBargain_74 ?_
    refine fs_aload_n (k0 := 0) (i := 0) dd_X3_findBargain_75 rfl rfl ?_
    refine fs_getr (ci := 3) (j := 3) (q := 179) dd_X3_findBargain_76 fl_X3_18 ca_172 rfl (Or.inr ⟨_, rfl⟩) rfl (by decide) ?_
    refine fs_iload (i := 4) dd_X3_findBargain_79 rfl ?_
    refine fs_iload (i := 5) dd_X3_findBargain_81 rfl ?_
    refine fs_iconst (n := 1) (v := 1) dd_X3_findBargain_83 (by decide) ?_
    refine fs_callS (y := m_X3_cell) (as := [.int v4, .int v5, .int 1]) dd_X3_findBargain_84 me_X3_cell (Or.inl lk_X3_64) st_X3_cell rfl (Nat.le_of_ble_eq_true rfl) (Nat.le_of_ble_eq_true rfl) rfl (V_X3_cell (by omega)  H) (k2_I fun r4 s5 H => ?_)
    have hb := H.1
    replace H := H.2
    refine fs_iald dd_X3_findBargain_87 ca_179 hb ?_
    refine fs_iload_n (k0 := 3) (i := 3) dd_X3_findBargain_88 rfl rfl ?_
    refine fs_isub dd_X3_findBargain_89 ?_
    refine fs_mmin dd_X3_findBargain_90 lk_X3_74 (Nat.le_of_ble_eq_true rfl) ?_
    refine fs_topi (fun x6 hx6 => ?_)
    replace H := H x6 hx6
    refine fs_istore (i := 6) dd_X3_findBargain_93 (by decide) ?_
    refine fs_aload_n (k0 := 0) (i := 0) dd_X3_findBargain_95 rfl rfl ?_
    refine fs_aload_n (k0 := 1) (i := 1) dd_X3_findBargain_96 rfl rfl ?_
    refine fs_iload (i := 4) dd_X3_findBargain_97 rfl ?_
    refine fs_iload (i := 5) dd_X3_findBargain_99 rfl ?_
    refine fs_callV (y := m_X3_isPair) (as := [.ref w0, .int v4, .int v5]) dd_X3_findBargain_101 me_X3_isPair lk_X3_61 in_X3_isPair se_X3_isPair ca_172 rfl rfl rfl (Nat.le_of_ble_eq_true rfl) (Nat.le_of_ble_eq_true rfl) rfl (V_X3_isPair (by omega) hw0 H) (k2_Z fun r7 s8 H => ?_)
    refine fs_if_eq (tgt := 130) dd_X3_findBargain_104 (by decide) (fun hc => ?_) (fun hc => ?_)
    · replace H := H.1 (bi_0 hc)
      refine fs_iincN (i := 5) (m := 1) (c := 1) dd_X3_findBargain_130 rfl (by decide) (by decide) (fun x9 hx9 => ?_)
      replace H := H x9 hx9
      refine fs_goto (tgt := 48) dd_X3_findBargain_133 (by decide) ?_
      refine fs_weak (ls2 := [.ref 172, .ref w0, .int v2, .int v3, .int v4, .int x9, fz_J]) (fz_le_e (fz_le_e (fz_le_e (fz_le_e (fz_le_e (fz_le_e (fz_le_j fz_le_n))))))) ?_
      exact hK48 H
    · replace H := H.2 (bi_1 hc)
      refine fs_iload (i := 6) dd_X3_findBargain_107 rfl ?_
      refine fs_aload_n (k0 := 0) (i := 0) dd_X3_findBargain_109 rfl rfl ?_
      refine fs_geti (ci := 3) (j := 5) dd_X3_findBargain_110 fl_X3_71 ca_172 rfl (Or.inl rfl) ?_
      refine fs_icmp_le (tgt := 130) dd_X3_findBargain_113 (by decide) (fun hc => ?_) (fun hc => ?_)
      · replace H := H.1 hc
        refine fs_iincN (i := 5) (m := 1) (c := 1) dd_X3_findBargain_130 rfl (by decide) (by decide) (fun x10 hx10 => ?_)
        replace H := H x10 hx10
        refine fs_goto (tgt := 48) dd_X3_findBargain_133 (by decide) ?_
        refine fs_weak (ls2 := [.ref 172, .ref w0, .int v2, .int v3, .int v4, .int x10, fz_J]) (fz_le_e (fz_le_e (fz_le_e (fz_le_e (fz_le_e (fz_le_e (fz_le_j fz_le_n))))))) ?_
        exact hK48 H
      · replace H := H.2 hc
        refine fs_aload_n (k0 := 0) (i := 0) dd_X3_findBargain_116 rfl rfl ?_
        refine fs_iload (i := 6) dd_X3_findBargain_117 rfl ?_
        refine fs_puti (ci := 3) (j := 5) dd_X3_findBargain_119 fl_X3_71 (fun _ _ _ h => by cases h; rfl) ca_172 rfl (Or.inl rfl) ?_
        refine fs_tops (fun s11 hs11 => ?_)
        replace H := H s11 hs11
        refine fs_aload_n (k0 := 0) (i := 0) dd_X3_findBargain_122 rfl rfl ?_
        refine fs_iload (i := 4) dd_X3_findBargain_123 rfl ?_
        refine fs_iload (i := 5) dd_X3_findBargain_125 rfl ?_
        refine fs_callV (y := m_X3_choose) (as := [.int v4, .int v5]) dd_X3_findBargain_127 me_X3_choose lk_X3_80 in_X3_choose se_X3_choose ca_172 rfl rfl rfl (Nat.le_of_ble_eq_true rfl) (Nat.le_of_ble_eq_true rfl) rfl (V_X3_choose (by omega)  H) (k2_V fun s13 H => ?_)
        refine fs_iincN (i := 5) (m := 1) (c := 1) dd_X3_findBargain_130 rfl (by decide) (by decide) (fun x14 hx14 => ?_)
        replace H := H x14 hx14
        refine fs_goto (tgt := 48) dd_X3_findBargain_133 (by decide) ?_
        refine fs_weak (ls2 := [.ref 172, .ref w0, .int v2, .int v3, .int v4, .int x14, fz_J]) (fz_le_e (fz_le_e (fz_le_e (fz_le_e (fz_le_e (fz_le_e (fz_le_j fz_le_n))))))) ?_
        exact hK48 H
set_option maxRecDepth 100000 in
set_option maxHeartbeats 4000000 in
theorem V_lp_X3_findBargain_48 {g : fz_G} {l : Launch} {d : Nat} (hD : 7 ≤ d) {w0 : Nat} (hw0 : fz_at true w0 10 7) {K33 : Int32 → Int32 → Int32 → fz_s → Prop} {Q : Bool → fz_s → Prop} (hK33 : ∀ {v2 : Int32} {v3 : Int32} {v4 : Int32} {s : fz_s}, K33 v2 v3 v4 s → fs_V g l m_X3_findBargain d true 33 [.ref 172, .ref w0, .int v2, .int v3, .int v4, fz_J, fz_J] [] s (rZ Q)) (n : Nat) : ∀ {v2 : Int32} {v3 : Int32} {v4 : Int32} {v5 : Int32} {s : fz_s}, lp_X3_findBargain_48 w0 K33 Q n v2 v3 v4 v5 s → fs_V g l m_X3_findBargain d true 48 [.ref 172, .ref w0, .int v2, .int v3, .int v4, .int v5, fz_J] [] s (rZ Q) := by
  induction n with
  | zero => intro v2 v3 v4 v5 s H; exact H.elim
  | succ n ih => intro v2 v3 v4 v5 s H; exact V_nd_X3_findBargain_48 hD hw0 hK33 (fun H => ih H) H
set_option maxRecDepth 100000 in
set_option maxHeartbeats 4000000 in
theorem V_nd_X3_findBargain_33 {g : fz_G} {l : Launch} {d : Nat} (hD : 7 ≤ d) {w0 : Nat} (hw0 : fz_at true w0 10 7) {K33 : Int32 → Int32 → Int32 → fz_s → Prop} {Q : Bool → fz_s → Prop} {v2 : Int32} {v3 : Int32} {v4 : Int32} {s : fz_s} (hK33 : ∀ {v2 : Int32} {v3 : Int32} {v4 : Int32} {s : fz_s}, K33 v2 v3 v4 s → fs_V g l m_X3_findBargain d true 33 [.ref 172, .ref w0, .int v2, .int v3, .int v4, fz_J, fz_J] [] s (rZ Q)) (H : nd_X3_findBargain_33 w0 K33 Q v2 v3 v4 s) : fs_V g l m_X3_findBargain d true 33 [.ref 172, .ref w0, .int v2, .int v3, .int v4, fz_J, fz_J] [] s (rZ Q) := by
  obtain ⟨d, rfl⟩ : ∃ e, d = e + 1 := ⟨d - 1, by omega⟩
  unfold nd_X3_findBargain_33 at H
  refine fs_iload (i := 4) dd_X3_findBargain_33 rfl ?_
  refine fs_aload_n (k0 := 0) (i := 0) dd_X3_findBargain_35 rfl rfl ?_
  refine fs_getr (ci := 3) (j := 0) (q := 6) dd_X3_findBargain_36 fl_X3_25 ca_172 rfl (Or.inl ⟨_, rfl⟩) rfl (by decide) ?_
  refine fs_geti (ci := 9) (j := 12) dd_X3_findBargain_39 fl_X3_55 ca_6 rfl (Or.inl rfl) ?_
  refine fs_icmp_ge (tgt := 142) dd_X3_findBargain_42 (by decide) (fun hc => ?_) (fun hc => ?_)
  · replace H := H.1 hc
    refine fs_aload_n (k0 := 0) (i := 0) dd_X3_findBargain_142 rfl rfl ?_
    refine fs_geti (ci := 3) (j := 5) dd_X3_findBargain_143 fl_X3_71 ca_172 rfl (Or.inl rfl) ?_
    refine fs_if_le (tgt := 153) dd_X3_findBargain_146 (by decide) (fun hc => ?_) (fun hc => ?_)
    · replace H := H.1 hc
      refine fs_iconst (n := 0) (v := 0) dd_X3_findBargain_153 (by decide) ?_
      exact fs_zret false dd_X3_findBargain_154 rfl rfl H
    · replace H := H.2 hc
      refine fs_iconst (n := 1) (v := 1) dd_X3_findBargain_149 (by decide) ?_
      refine fs_goto (tgt := 154) dd_X3_findBargain_150 (by decide) ?_
      exact fs_zret true dd_X3_findBargain_154 rfl rfl H
  · replace H := H.2 hc
    refine fs_iconst (n := 0) (v := 0) dd_X3_findBargain_45 (by decide) ?_
    refine fs_istore (i := 5) dd_X3_findBargain_46 (by decide) ?_
    refine fs_weak (ls2 := [.ref 172, .ref w0, .int v2, .int v3, .int v4, .int 0, fz_J]) (fz_le_e (fz_le_e (fz_le_e (fz_le_e (fz_le_e (fz_le_e (fz_le_j fz_le_n))))))) ?_
    exact V_lp_X3_findBargain_48 hD  hw0 hK33 2048 H
set_option maxRecDepth 100000 in
set_option maxHeartbeats 4000000 in
theorem V_lp_X3_findBargain_33 {g : fz_G} {l : Launch} {d : Nat} (hD : 7 ≤ d) {w0 : Nat} (hw0 : fz_at true w0 10 7)  {Q : Bool → fz_s → Prop}  (n : Nat) : ∀ {v2 : Int32} {v3 : Int32} {v4 : Int32} {s : fz_s}, lp_X3_findBargain_33 w0  Q n v2 v3 v4 s → fs_V g l m_X3_findBargain d true 33 [.ref 172, .ref w0, .int v2, .int v3, .int v4, fz_J, fz_J] [] s (rZ Q) := by
  induction n with
  | zero => intro v2 v3 v4 s H; exact H.elim
  | succ n ih => intro v2 v3 v4 s H; exact V_nd_X3_findBargain_33 hD hw0 (fun H => ih H) H
set_option maxRecDepth 100000 in
set_option maxHeartbeats 4000000 in
theorem V_X3_findBargain {g : fz_G} {l : Launch} {d : Nat} (hD : 7 ≤ d) {w0 : Nat} (hw0 : fz_at true w0 10 7) {s : fz_s} {Q : Bool → fz_s → Prop} (H : wp_X3_findBargain w0 s Q) : fs_V g l m_X3_findBargain d true 0 (fz_en [.ref 172, .ref w0] 7) [] s (rZ Q) := by
  obtain ⟨d, rfl⟩ : ∃ e, d = e + 1 := ⟨d - 1, by omega⟩
  unfold wp_X3_findBargain at H
  refine fs_aload_n (k0 := 0) (i := 0) dd_X3_findBargain_0 rfl rfl ?_
  refine fs_aload_n (k0 := 1) (i := 1) dd_X3_findBargain_1 rfl rfl ?_
  refine fs_callV (y := m_X3_fillHarvests) (as := [.ref w0]) dd_X3_findBargain_2 me_X3_fillHarvests lk_X3_68 in_X3_fillHarvests se_X3_fillHarvests ca_172 rfl rfl rfl (Nat.le_of_ble_eq_true rfl) (Nat.le_of_ble_eq_true rfl) rfl (V_X3_fillHarvests (by omega) hw0 H) (k2_V fun s2 H => ?_)
  refine fs_aload_n (k0 := 0) (i := 0) dd_X3_findBargain_5 rfl rfl ?_
  refine fs_getr (ci := 3) (j := 1) (q := 30) dd_X3_findBargain_6 fl_X3_29 ca_172 rfl (Or.inl ⟨_, rfl⟩) rfl (by decide) ?_
  refine fs_aload_n (k0 := 1) (i := 1) dd_X3_findBargain_9 rfl rfl ?_
  refine fs_iconst (n := 0) (v := 0) dd_X3_findBargain_10 (by decide) ?_
  refine fs_callV (y := m_X0_nextHarvest) (as := [.ref w0, .int 0]) dd_X3_findBargain_11 me_X0_nextHarvest lk_X3_47 in_X0_nextHarvest se_X0_nextHarvest ca_30 rfl rfl rfl (Nat.le_of_ble_eq_true rfl) (Nat.le_of_ble_eq_true rfl) rfl (V_X0_nextHarvest (by omega) hw0 H) (k2_I fun r3 s4 H => ?_)
  refine fs_istore_n (k0 := 2) (i := 2) dd_X3_findBargain_14 rfl (by decide) ?_
  refine fs_aload_n (k0 := 0) (i := 0) dd_X3_findBargain_15 rfl rfl ?_
  refine fs_getr (ci := 3) (j := 1) (q := 30) dd_X3_findBargain_16 fl_X3_29 ca_172 rfl (Or.inl ⟨_, rfl⟩) rfl (by decide) ?_
  refine fs_aload_n (k0 := 1) (i := 1) dd_X3_findBargain_19 rfl rfl ?_
  refine fs_iconst (n := 1) (v := 1) dd_X3_findBargain_20 (by decide) ?_
  refine fs_callV (y := m_X0_nextHarvest) (as := [.ref w0, .int 1]) dd_X3_findBargain_21 me_X0_nextHarvest lk_X3_47 in_X0_nextHarvest se_X0_nextHarvest ca_30 rfl rfl rfl (Nat.le_of_ble_eq_true rfl) (Nat.le_of_ble_eq_true rfl) rfl (V_X0_nextHarvest (by omega) hw0 H) (k2_I fun r5 s6 H => ?_)
  refine fs_istore_n (k0 := 3) (i := 3) dd_X3_findBargain_24 rfl (by decide) ?_
  refine fs_aload_n (k0 := 0) (i := 0) dd_X3_findBargain_25 rfl rfl ?_
  refine fs_iconst (n := 0) (v := 0) dd_X3_findBargain_26 (by decide) ?_
  refine fs_puti (ci := 3) (j := 5) dd_X3_findBargain_27 fl_X3_71 (fun _ _ _ h => by cases h; rfl) ca_172 rfl (Or.inl rfl) ?_
  refine fs_tops (fun s7 hs7 => ?_)
  replace H := H s7 hs7
  refine fs_iconst (n := 0) (v := 0) dd_X3_findBargain_30 (by decide) ?_
  refine fs_istore (i := 4) dd_X3_findBargain_31 (by decide) ?_
  refine fs_weak (ls2 := [.ref 172, .ref w0, .int r3, .int r5, .int 0, fz_J, fz_J]) (fz_le_e (fz_le_e (fz_le_e (fz_le_e (fz_le_e (fz_le_j (fz_le_j fz_le_n))))))) ?_
  exact V_lp_X3_findBargain_33 hD  hw0  2048 H
theorem dd_X11_bargain_0 : decode m_X11_bargain.2.1 0 = .ok (.iload_n 1, 1) := by decide +kernel
theorem dd_X11_bargain_1 : decode m_X11_bargain.2.1 1 = .ok (.ifCond .lt 37, 3) := by decide +kernel
theorem dd_X11_bargain_4 : decode m_X11_bargain.2.1 4 = .ok (.iload_n 1, 1) := by decide +kernel
theorem dd_X11_bargain_5 : decode m_X11_bargain.2.1 5 = .ok (.iconst 2, 1) := by decide +kernel
theorem dd_X11_bargain_6 : decode m_X11_bargain.2.1 6 = .ok (.if_icmp .gt 32, 3) := by decide +kernel
theorem dd_X11_bargain_9 : decode m_X11_bargain.2.1 9 = .ok (.aload_n 0, 1) := by decide +kernel
theorem dd_X11_bargain_10 : decode m_X11_bargain.2.1 10 = .ok (.invokevirtual 265, 3) := by decide +kernel
theorem dd_X11_bargain_13 : decode m_X11_bargain.2.1 13 = .ok (.ifCond .ne 25, 3) := by decide +kernel
theorem dd_X11_bargain_16 : decode m_X11_bargain.2.1 16 = .ok (.aload_n 0, 1) := by decide +kernel
theorem dd_X11_bargain_17 : decode m_X11_bargain.2.1 17 = .ok (.iconst 1, 1) := by decide +kernel
theorem dd_X11_bargain_18 : decode m_X11_bargain.2.1 18 = .ok (.invokevirtual 249, 3) := by decide +kernel
theorem dd_X11_bargain_21 : decode m_X11_bargain.2.1 21 = .ok (.ifCond .ne 17, 3) := by decide +kernel
theorem dd_X11_bargain_24 : decode m_X11_bargain.2.1 24 = .ok (.aload_n 0, 1) := by decide +kernel
theorem dd_X11_bargain_25 : decode m_X11_bargain.2.1 25 = .ok (.getfield 82, 3) := by decide +kernel
theorem dd_X11_bargain_28 : decode m_X11_bargain.2.1 28 = .ok (.aload_n 0, 1) := by decide +kernel
theorem dd_X11_bargain_29 : decode m_X11_bargain.2.1 29 = .ok (.getfield 63, 3) := by decide +kernel
theorem dd_X11_bargain_32 : decode m_X11_bargain.2.1 32 = .ok (.invokevirtual 269, 3) := by decide +kernel
theorem dd_X11_bargain_35 : decode m_X11_bargain.2.1 35 = .ok (.ifCond .ne 5, 3) := by decide +kernel
theorem dd_X11_bargain_38 : decode m_X11_bargain.2.1 38 = .ok (.iconst (-1), 1) := by decide +kernel
theorem dd_X11_bargain_39 : decode m_X11_bargain.2.1 39 = .ok (.ireturn, 1) := by decide +kernel
theorem dd_X11_bargain_40 : decode m_X11_bargain.2.1 40 = .ok (.iload_n 1, 1) := by decide +kernel
theorem dd_X11_bargain_41 : decode m_X11_bargain.2.1 41 = .ok (.iconst 2, 1) := by decide +kernel
theorem dd_X11_bargain_42 : decode m_X11_bargain.2.1 42 = .ok (.if_icmp .ne 13, 3) := by decide +kernel
theorem dd_X11_bargain_45 : decode m_X11_bargain.2.1 45 = .ok (.aload_n 0, 1) := by decide +kernel
theorem dd_X11_bargain_46 : decode m_X11_bargain.2.1 46 = .ok (.getfield 82, 3) := by decide +kernel
theorem dd_X11_bargain_49 : decode m_X11_bargain.2.1 49 = .ok (.getfield 273, 3) := by decide +kernel
theorem dd_X11_bargain_52 : decode m_X11_bargain.2.1 52 = .ok (.goto 12, 3) := by decide +kernel
theorem dd_X11_bargain_55 : decode m_X11_bargain.2.1 55 = .ok (.aload_n 0, 1) := by decide +kernel
theorem dd_X11_bargain_56 : decode m_X11_bargain.2.1 56 = .ok (.getfield 82, 3) := by decide +kernel
theorem dd_X11_bargain_59 : decode m_X11_bargain.2.1 59 = .ok (.getfield 276, 3) := by decide +kernel
theorem dd_X11_bargain_62 : decode m_X11_bargain.2.1 62 = .ok (.iload_n 1, 1) := by decide +kernel
theorem dd_X11_bargain_63 : decode m_X11_bargain.2.1 63 = .ok (.iaload, 1) := by decide +kernel
theorem dd_X11_bargain_64 : decode m_X11_bargain.2.1 64 = .ok (.ireturn, 1) := by decide +kernel
def wp_X11_bargain (p0 : Int32) (s : fz_s) (Q : Int32 → fz_s → Prop) : Prop :=
  ((p0 < 0 → Q (-1) s) ∧ (¬ p0 < 0 → ((2 < p0 → Q (-1) s) ∧ (¬ 2 < p0 → wp_X11_noTreaty  s (fun r1 s2 => ((r1 = true → Q (-1) s2) ∧ (r1 = false → wp_X11_beyond 1 s2 (fun r3 s4 => ((r3 = true → Q (-1) s4) ∧ (r3 = false → wp_X3_findBargain 35 s4 (fun r5 s6 => ((r5 = true → ((¬ p0 = 2 → vp_in p0 2 ∧ Q (s6.1 180 p0.toNatClampNeg) s6) ∧ (p0 = 2 → Q (s6.1 172 5) s6))) ∧ (r5 = false → Q (-1) s6)))))))))))))
set_option maxRecDepth 100000 in
set_option maxHeartbeats 4000000 in
theorem V_X11_bargain {g : fz_G} {l : Launch} {d : Nat} (hD : 8 ≤ d) {p0 : Int32}  {s : fz_s} {Q : Int32 → fz_s → Prop} (H : wp_X11_bargain p0 s Q) : fs_V g l m_X11_bargain d true 0 (fz_en [.ref 2, .int p0] 2) [] s (rI Q) := by
  obtain ⟨d, rfl⟩ : ∃ e, d = e + 1 := ⟨d - 1, by omega⟩
  unfold wp_X11_bargain at H
  refine fs_iload_n (k0 := 1) (i := 1) dd_X11_bargain_0 rfl rfl ?_
  refine fs_if_lt (tgt := 38) dd_X11_bargain_1 (by decide) (fun hc => ?_) (fun hc => ?_)
  · replace H := H.1 hc
    refine fs_iconst (n := -1) (v := -1) dd_X11_bargain_38 (by decide) ?_
    exact fs_iret dd_X11_bargain_39 rfl H
  · replace H := H.2 hc
    refine fs_iload_n (k0 := 1) (i := 1) dd_X11_bargain_4 rfl rfl ?_
    refine fs_iconst (n := 2) (v := 2) dd_X11_bargain_5 (by decide) ?_
    refine fs_icmp_gt (tgt := 38) dd_X11_bargain_6 (by decide) (fun hc => ?_) (fun hc => ?_)
    · replace H := H.1 hc
      refine fs_iconst (n := -1) (v := -1) dd_X11_bargain_38 (by decide) ?_
      exact fs_iret dd_X11_bargain_39 rfl H
    · replace H := H.2 hc
      refine fs_aload_n (k0 := 0) (i := 0) dd_X11_bargain_9 rfl rfl ?_
      refine fs_callV (y := m_X11_noTreaty) (as := []) dd_X11_bargain_10 me_X11_noTreaty lk_X11_265 in_X11_noTreaty se_X11_noTreaty ca_2 rfl rfl rfl (Nat.le_of_ble_eq_true rfl) (Nat.le_of_ble_eq_true rfl) rfl (V_X11_noTreaty (by omega)  H) (k2_Z fun r1 s2 H => ?_)
      refine fs_if_ne (tgt := 38) dd_X11_bargain_13 (by decide) (fun hc => ?_) (fun hc => ?_)
      · replace H := H.1 (bi_1 hc)
        refine fs_iconst (n := -1) (v := -1) dd_X11_bargain_38 (by decide) ?_
        exact fs_iret dd_X11_bargain_39 rfl H
      · replace H := H.2 (bi_0 hc)
        refine fs_aload_n (k0 := 0) (i := 0) dd_X11_bargain_16 rfl rfl ?_
        refine fs_iconst (n := 1) (v := 1) dd_X11_bargain_17 (by decide) ?_
        refine fs_callV (y := m_X11_beyond) (as := [.int 1]) dd_X11_bargain_18 me_X11_beyond lk_X11_249 in_X11_beyond se_X11_beyond ca_2 rfl rfl rfl (Nat.le_of_ble_eq_true rfl) (Nat.le_of_ble_eq_true rfl) rfl (V_X11_beyond (by omega)  H) (k2_Z fun r3 s4 H => ?_)
        refine fs_if_ne (tgt := 38) dd_X11_bargain_21 (by decide) (fun hc => ?_) (fun hc => ?_)
        · replace H := H.1 (bi_1 hc)
          refine fs_iconst (n := -1) (v := -1) dd_X11_bargain_38 (by decide) ?_
          exact fs_iret dd_X11_bargain_39 rfl H
        · replace H := H.2 (bi_0 hc)
          refine fs_aload_n (k0 := 0) (i := 0) dd_X11_bargain_24 rfl rfl ?_
          refine fs_getr (ci := 11) (j := 11) (q := 172) dd_X11_bargain_25 fl_X11_82 ca_2 rfl (Or.inl ⟨_, rfl⟩) rfl (by decide) ?_
          refine fs_aload_n (k0 := 0) (i := 0) dd_X11_bargain_28 rfl rfl ?_
          refine fs_getr (ci := 11) (j := 8) (q := 35) dd_X11_bargain_29 fl_X11_63 ca_2 rfl (Or.inl ⟨_, rfl⟩) rfl (by decide) ?_
          refine fs_callV (y := m_X3_findBargain) (as := [.ref 35]) dd_X11_bargain_32 me_X3_findBargain lk_X11_269 in_X3_findBargain se_X3_findBargain ca_172 rfl rfl rfl (Nat.le_of_ble_eq_true rfl) (Nat.le_of_ble_eq_true rfl) rfl (V_X3_findBargain (by omega) ca_35 H) (k2_Z fun r5 s6 H => ?_)
          refine fs_if_ne (tgt := 40) dd_X11_bargain_35 (by decide) (fun hc => ?_) (fun hc => ?_)
          · replace H := H.1 (bi_1 hc)
            refine fs_iload_n (k0 := 1) (i := 1) dd_X11_bargain_40 rfl rfl ?_
            refine fs_iconst (n := 2) (v := 2) dd_X11_bargain_41 (by decide) ?_
            refine fs_icmp_ne (tgt := 55) dd_X11_bargain_42 (by decide) (fun hc => ?_) (fun hc => ?_)
            · replace H := H.1 hc
              refine fs_aload_n (k0 := 0) (i := 0) dd_X11_bargain_55 rfl rfl ?_
              refine fs_getr (ci := 11) (j := 11) (q := 172) dd_X11_bargain_56 fl_X11_82 ca_2 rfl (Or.inl ⟨_, rfl⟩) rfl (by decide) ?_
              refine fs_getr (ci := 3) (j := 4) (q := 180) dd_X11_bargain_59 fl_X11_276 ca_172 rfl (Or.inr ⟨_, rfl⟩) rfl (by decide) ?_
              refine fs_iload_n (k0 := 1) (i := 1) dd_X11_bargain_62 rfl rfl ?_
              have hb := H.1
              replace H := H.2
              refine fs_iald dd_X11_bargain_63 ca_180 hb ?_
              exact fs_iret dd_X11_bargain_64 rfl H
            · replace H := H.2 hc
              refine fs_aload_n (k0 := 0) (i := 0) dd_X11_bargain_45 rfl rfl ?_
              refine fs_getr (ci := 11) (j := 11) (q := 172) dd_X11_bargain_46 fl_X11_82 ca_2 rfl (Or.inl ⟨_, rfl⟩) rfl (by decide) ?_
              refine fs_geti (ci := 3) (j := 5) dd_X11_bargain_49 fl_X11_273 ca_172 rfl (Or.inl rfl) ?_
              refine fs_goto (tgt := 64) dd_X11_bargain_52 (by decide) ?_
              exact fs_iret dd_X11_bargain_64 rfl H
          · replace H := H.2 (bi_0 hc)
            refine fs_iconst (n := -1) (v := -1) dd_X11_bargain_38 (by decide) ?_
            exact fs_iret dd_X11_bargain_39 rfl H
theorem dd_X3_rests_0 : decode m_X3_rests.2.1 0 = .ok (.iconst 0, 1) := by decide +kernel
theorem dd_X3_rests_1 : decode m_X3_rests.2.1 1 = .ok (.istore 4, 2) := by decide +kernel
theorem dd_X3_rests_3 : decode m_X3_rests.2.1 3 = .ok (.iload 4, 2) := by decide +kernel
theorem dd_X3_rests_5 : decode m_X3_rests.2.1 5 = .ok (.aload_n 0, 1) := by decide +kernel
theorem dd_X3_rests_6 : decode m_X3_rests.2.1 6 = .ok (.getfield 25, 3) := by decide +kernel
theorem dd_X3_rests_9 : decode m_X3_rests.2.1 9 = .ok (.getfield 55, 3) := by decide +kernel
theorem dd_X3_rests_12 : decode m_X3_rests.2.1 12 = .ok (.if_icmp .ge 93, 3) := by decide +kernel
theorem dd_X3_rests_15 : decode m_X3_rests.2.1 15 = .ok (.aload_n 0, 1) := by decide +kernel
theorem dd_X3_rests_16 : decode m_X3_rests.2.1 16 = .ok (.getfield 29, 3) := by decide +kernel
theorem dd_X3_rests_19 : decode m_X3_rests.2.1 19 = .ok (.aload_n 1, 1) := by decide +kernel
theorem dd_X3_rests_20 : decode m_X3_rests.2.1 20 = .ok (.iload 4, 2) := by decide +kernel
theorem dd_X3_rests_22 : decode m_X3_rests.2.1 22 = .ok (.iconst 0, 1) := by decide +kernel
theorem dd_X3_rests_23 : decode m_X3_rests.2.1 23 = .ok (.invokevirtual 33, 3) := by decide +kernel
theorem dd_X3_rests_26 : decode m_X3_rests.2.1 26 = .ok (.ifCond .eq 31, 3) := by decide +kernel
theorem dd_X3_rests_29 : decode m_X3_rests.2.1 29 = .ok (.aload_n 0, 1) := by decide +kernel
theorem dd_X3_rests_30 : decode m_X3_rests.2.1 30 = .ok (.getfield 18, 3) := by decide +kernel
theorem dd_X3_rests_33 : decode m_X3_rests.2.1 33 = .ok (.iload 4, 2) := by decide +kernel
theorem dd_X3_rests_35 : decode m_X3_rests.2.1 35 = .ok (.iload_n 3, 1) := by decide +kernel
theorem dd_X3_rests_36 : decode m_X3_rests.2.1 36 = .ok (.iconst 0, 1) := by decide +kernel
theorem dd_X3_rests_37 : decode m_X3_rests.2.1 37 = .ok (.invokestatic 64, 3) := by decide +kernel
theorem dd_X3_rests_40 : decode m_X3_rests.2.1 40 = .ok (.iaload, 1) := by decide +kernel
theorem dd_X3_rests_41 : decode m_X3_rests.2.1 41 = .ok (.aload_n 0, 1) := by decide +kernel
theorem dd_X3_rests_42 : decode m_X3_rests.2.1 42 = .ok (.getfield 18, 3) := by decide +kernel
theorem dd_X3_rests_45 : decode m_X3_rests.2.1 45 = .ok (.iload_n 2, 1) := by decide +kernel
theorem dd_X3_rests_46 : decode m_X3_rests.2.1 46 = .ok (.iload_n 3, 1) := by decide +kernel
theorem dd_X3_rests_47 : decode m_X3_rests.2.1 47 = .ok (.iconst 0, 1) := by decide +kernel
theorem dd_X3_rests_48 : decode m_X3_rests.2.1 48 = .ok (.invokestatic 64, 3) := by decide +kernel
theorem dd_X3_rests_51 : decode m_X3_rests.2.1 51 = .ok (.iaload, 1) := by decide +kernel
theorem dd_X3_rests_52 : decode m_X3_rests.2.1 52 = .ok (.if_icmp .le 5, 3) := by decide +kernel
theorem dd_X3_rests_55 : decode m_X3_rests.2.1 55 = .ok (.iconst 0, 1) := by decide +kernel
theorem dd_X3_rests_56 : decode m_X3_rests.2.1 56 = .ok (.ireturn, 1) := by decide +kernel
theorem dd_X3_rests_57 : decode m_X3_rests.2.1 57 = .ok (.aload_n 0, 1) := by decide +kernel
theorem dd_X3_rests_58 : decode m_X3_rests.2.1 58 = .ok (.getfield 29, 3) := by decide +kernel
theorem dd_X3_rests_61 : decode m_X3_rests.2.1 61 = .ok (.aload_n 1, 1) := by decide +kernel
theorem dd_X3_rests_62 : decode m_X3_rests.2.1 62 = .ok (.iload 4, 2) := by decide +kernel
theorem dd_X3_rests_64 : decode m_X3_rests.2.1 64 = .ok (.iconst 1, 1) := by decide +kernel
theorem dd_X3_rests_65 : decode m_X3_rests.2.1 65 = .ok (.invokevirtual 33, 3) := by decide +kernel
theorem dd_X3_rests_68 : decode m_X3_rests.2.1 68 = .ok (.ifCond .eq 31, 3) := by decide +kernel
theorem dd_X3_rests_71 : decode m_X3_rests.2.1 71 = .ok (.aload_n 0, 1) := by decide +kernel
theorem dd_X3_rests_72 : decode m_X3_rests.2.1 72 = .ok (.getfield 18, 3) := by decide +kernel
theorem dd_X3_rests_75 : decode m_X3_rests.2.1 75 = .ok (.iload_n 2, 1) := by decide +kernel
theorem dd_X3_rests_76 : decode m_X3_rests.2.1 76 = .ok (.iload 4, 2) := by decide +kernel
theorem dd_X3_rests_78 : decode m_X3_rests.2.1 78 = .ok (.iconst 1, 1) := by decide +kernel
theorem dd_X3_rests_79 : decode m_X3_rests.2.1 79 = .ok (.invokestatic 64, 3) := by decide +kernel
theorem dd_X3_rests_82 : decode m_X3_rests.2.1 82 = .ok (.iaload, 1) := by decide +kernel
theorem dd_X3_rests_83 : decode m_X3_rests.2.1 83 = .ok (.aload_n 0, 1) := by decide +kernel
theorem dd_X3_rests_84 : decode m_X3_rests.2.1 84 = .ok (.getfield 18, 3) := by decide +kernel
theorem dd_X3_rests_87 : decode m_X3_rests.2.1 87 = .ok (.iload_n 2, 1) := by decide +kernel
theorem dd_X3_rests_88 : decode m_X3_rests.2.1 88 = .ok (.iload_n 3, 1) := by decide +kernel
theorem dd_X3_rests_89 : decode m_X3_rests.2.1 89 = .ok (.iconst 1, 1) := by decide +kernel
theorem dd_X3_rests_90 : decode m_X3_rests.2.1 90 = .ok (.invokestatic 64, 3) := by decide +kernel
theorem dd_X3_rests_93 : decode m_X3_rests.2.1 93 = .ok (.iaload, 1) := by decide +kernel
theorem dd_X3_rests_94 : decode m_X3_rests.2.1 94 = .ok (.if_icmp .le 5, 3) := by decide +kernel
theorem dd_X3_rests_97 : decode m_X3_rests.2.1 97 = .ok (.iconst 0, 1) := by decide +kernel
theorem dd_X3_rests_98 : decode m_X3_rests.2.1 98 = .ok (.ireturn, 1) := by decide +kernel
theorem dd_X3_rests_99 : decode m_X3_rests.2.1 99 = .ok (.iinc 4 1, 3) := by decide +kernel
theorem dd_X3_rests_102 : decode m_X3_rests.2.1 102 = .ok (.goto (-99), 3) := by decide +kernel
theorem dd_X3_rests_105 : decode m_X3_rests.2.1 105 = .ok (.iconst 1, 1) := by decide +kernel
theorem dd_X3_rests_106 : decode m_X3_rests.2.1 106 = .ok (.ireturn, 1) := by decide +kernel
def nd_X3_rests_57 (w0 : Nat) (K3 : Int32 → Int32 → Int32 → fz_s → Prop) (Q : Bool → fz_s → Prop) (v2 : Int32) (v3 : Int32) (v4 : Int32) (s : fz_s) : Prop :=
  wp_X0_canSend w0 v4 1 s (fun r1 s2 => ((r1 = false → ∀ x3 : Int32, x3 = v4 + 1 → K3 v2 v3 x3 s2) ∧ (r1 = true → wp_X3_cell v2 v4 1 s2 (fun r4 s5 => vp_in r4 128 ∧ wp_X3_cell v2 v3 1 s5 (fun r6 s7 => vp_in r6 128 ∧ (((s5.1 179 r4.toNatClampNeg) ≤ (s7.1 179 r6.toNatClampNeg) → ∀ x8 : Int32, x8 = v4 + 1 → K3 v2 v3 x8 s7) ∧ (¬ (s5.1 179 r4.toNatClampNeg) ≤ (s7.1 179 r6.toNatClampNeg) → Q false s7)))))))
def nd_X3_rests_3 (w0 : Nat) (K3 : Int32 → Int32 → Int32 → fz_s → Prop) (Q : Bool → fz_s → Prop) (v2 : Int32) (v3 : Int32) (v4 : Int32) (s : fz_s) : Prop :=
  (((s.1 6 12) ≤ v4 → Q true s) ∧ (¬ (s.1 6 12) ≤ v4 → wp_X0_canSend w0 v4 0 s (fun r1 s2 => ((r1 = false → nd_X3_rests_57 w0 K3 Q v2 v3 v4 s2) ∧ (r1 = true → wp_X3_cell v4 v3 0 s2 (fun r3 s4 => vp_in r3 128 ∧ wp_X3_cell v2 v3 0 s4 (fun r5 s6 => vp_in r5 128 ∧ (((s4.1 179 r3.toNatClampNeg) ≤ (s6.1 179 r5.toNatClampNeg) → nd_X3_rests_57 w0 K3 Q v2 v3 v4 s6) ∧ (¬ (s4.1 179 r3.toNatClampNeg) ≤ (s6.1 179 r5.toNatClampNeg) → Q false s6)))))))))
def lp_X3_rests_3 (w0 : Nat)  (Q : Bool → fz_s → Prop) : Nat → Int32 → Int32 → Int32 → fz_s → Prop
  | 0 => fun _ _ _ _ => False
  | n + 1 => nd_X3_rests_3 w0 (lp_X3_rests_3 w0  Q n) Q
def wp_X3_rests (w0 : Nat) (p1 : Int32) (p2 : Int32) (s : fz_s) (Q : Bool → fz_s → Prop) : Prop :=
  lp_X3_rests_3 w0  Q 2048 p1 p2 0 s
set_option maxRecDepth 100000 in
set_option maxHeartbeats 4000000 in
theorem V_nd_X3_rests_57 {g : fz_G} {l : Launch} {d : Nat} (hD : 1 ≤ d) {w0 : Nat} (hw0 : fz_at true w0 10 7) {K3 : Int32 → Int32 → Int32 → fz_s → Prop} {Q : Bool → fz_s → Prop} {v2 : Int32} {v3 : Int32} {v4 : Int32} {s : fz_s} (hK3 : ∀ {v2 : Int32} {v3 : Int32} {v4 : Int32} {s : fz_s}, K3 v2 v3 v4 s → fs_V g l m_X3_rests d true 3 [.ref 172, .ref w0, .int v2, .int v3, .int v4] [] s (rZ Q)) (H : nd_X3_rests_57 w0 K3 Q v2 v3 v4 s) : fs_V g l m_X3_rests d true 57 [.ref 172, .ref w0, .int v2, .int v3, .int v4] [] s (rZ Q) := by
  obtain ⟨d, rfl⟩ : ∃ e, d = e + 1 := ⟨d - 1, by omega⟩
  unfold nd_X3_rests_57 at H
  refine fs_aload_n (k0 := 0) (i := 0) dd_X3_rests_57 rfl rfl ?_
  refine fs_getr (ci := 3) (j := 1) (q := 30) dd_X3_rests_58 fl_X3_29 ca_172 rfl (Or.inl ⟨_, rfl⟩) rfl (by decide) ?_
  refine fs_aload_n (k0 := 1) (i := 1) dd_X3_rests_61 rfl rfl ?_
  refine fs_iload (i := 4) dd_X3_rests_62 rfl ?_
  refine fs_iconst (n := 1) (v := 1) dd_X3_rests_64 (by decide) ?_
  refine fs_callV (y := m_X0_canSend) (as := [.ref w0, .int v4, .int 1]) dd_X3_rests_65 me_X0_canSend lk_X3_33 in_X0_canSend se_X0_canSend ca_30 rfl rfl rfl (Nat.le_of_ble_eq_true rfl) (Nat.le_of_ble_eq_true rfl) rfl (V_X0_canSend (by omega) hw0 H) (k2_Z fun r1 s2 H => ?_)
  refine fs_if_eq (tgt := 99) dd_X3_rests_68 (by decide) (fun hc => ?_) (fun hc => ?_)
  · replace H := H.1 (bi_0 hc)
    refine fs_iincN (i := 4) (m := 1) (c := 1) dd_X3_rests_99 rfl (by decide) (by decide) (fun x3 hx3 => ?_)
    replace H := H x3 hx3
    refine fs_goto (tgt := 3) dd_X3_rests_102 (by decide) ?_
    refine fs_weak (ls2 := [.ref 172, .ref w0, .int v2, .int v3, .int x3]) (fz_le_e (fz_le_e (fz_le_e (fz_le_e (fz_le_e fz_le_n))))) ?_
    exact hK3 H
  · replace H := H.2 (bi_1 hc)
    refine fs_aload_n (k0 := 0) (i := 0) dd_X3_rests_71 rfl rfl ?_
    refine fs_getr (ci := 3) (j := 3) (q := 179) dd_X3_rests_72 fl_X3_18 ca_172 rfl (Or.inr ⟨_, rfl⟩) rfl (by decide) ?_
    refine fs_iload_n (k0 := 2) (i := 2) dd_X3_rests_75 rfl rfl ?_
    refine fs_iload (i := 4) dd_X3_rests_76 rfl ?_
    refine fs_iconst (n := 1) (v := 1) dd_X3_rests_78 (by decide) ?_
    refine fs_callS (y := m_X3_cell) (as := [.int v2, .int v4, .int 1]) dd_X3_rests_79 me_X3_cell (Or.inl lk_X3_64) st_X3_cell rfl (Nat.le_of_ble_eq_true rfl) (Nat.le_of_ble_eq_true rfl) rfl (V_X3_cell (by omega)  H) (k2_I fun r4 s5 H => ?_)
    have hb := H.1
    replace H := H.2
    refine fs_iald dd_X3_rests_82 ca_179 hb ?_
    refine fs_aload_n (k0 := 0) (i := 0) dd_X3_rests_83 rfl rfl ?_
    refine fs_getr (ci := 3) (j := 3) (q := 179) dd_X3_rests_84 fl_X3_18 ca_172 rfl (Or.inr ⟨_, rfl⟩) rfl (by decide) ?_
    refine fs_iload_n (k0 := 2) (i := 2) dd_X3_rests_87 rfl rfl ?_
    refine fs_iload_n (k0 := 3) (i := 3) dd_X3_rests_88 rfl rfl ?_
    refine fs_iconst (n := 1) (v := 1) dd_X3_rests_89 (by decide) ?_
    refine fs_callS (y := m_X3_cell) (as := [.int v2, .int v3, .int 1]) dd_X3_rests_90 me_X3_cell (Or.inl lk_X3_64) st_X3_cell rfl (Nat.le_of_ble_eq_true rfl) (Nat.le_of_ble_eq_true rfl) rfl (V_X3_cell (by omega)  H) (k2_I fun r6 s7 H => ?_)
    have hb := H.1
    replace H := H.2
    refine fs_iald dd_X3_rests_93 ca_179 hb ?_
    refine fs_icmp_le (tgt := 99) dd_X3_rests_94 (by decide) (fun hc => ?_) (fun hc => ?_)
    · replace H := H.1 hc
      refine fs_iincN (i := 4) (m := 1) (c := 1) dd_X3_rests_99 rfl (by decide) (by decide) (fun x8 hx8 => ?_)
      replace H := H x8 hx8
      refine fs_goto (tgt := 3) dd_X3_rests_102 (by decide) ?_
      refine fs_weak (ls2 := [.ref 172, .ref w0, .int v2, .int v3, .int x8]) (fz_le_e (fz_le_e (fz_le_e (fz_le_e (fz_le_e fz_le_n))))) ?_
      exact hK3 H
    · replace H := H.2 hc
      refine fs_iconst (n := 0) (v := 0) dd_X3_rests_97 (by decide) ?_
      exact fs_zret false dd_X3_rests_98 rfl rfl H
set_option maxRecDepth 100000 in
set_option maxHeartbeats 4000000 in
theorem V_nd_X3_rests_3 {g : fz_G} {l : Launch} {d : Nat} (hD : 1 ≤ d) {w0 : Nat} (hw0 : fz_at true w0 10 7) {K3 : Int32 → Int32 → Int32 → fz_s → Prop} {Q : Bool → fz_s → Prop} {v2 : Int32} {v3 : Int32} {v4 : Int32} {s : fz_s} (hK3 : ∀ {v2 : Int32} {v3 : Int32} {v4 : Int32} {s : fz_s}, K3 v2 v3 v4 s → fs_V g l m_X3_rests d true 3 [.ref 172, .ref w0, .int v2, .int v3, .int v4] [] s (rZ Q)) (H : nd_X3_rests_3 w0 K3 Q v2 v3 v4 s) : fs_V g l m_X3_rests d true 3 [.ref 172, .ref w0, .int v2, .int v3, .int v4] [] s (rZ Q) := by
  obtain ⟨d, rfl⟩ : ∃ e, d = e + 1 := ⟨d - 1, by omega⟩
  unfold nd_X3_rests_3 at H
  refine fs_iload (i := 4) dd_X3_rests_3 rfl ?_
  refine fs_aload_n (k0 := 0) (i := 0) dd_X3_rests_5 rfl rfl ?_
  refine fs_getr (ci := 3) (j := 0) (q := 6) dd_X3_rests_6 fl_X3_25 ca_172 rfl (Or.inl ⟨_, rfl⟩) rfl (by decide) ?_
  refine fs_geti (ci := 9) (j := 12) dd_X3_rests_9 fl_X3_55 ca_6 rfl (Or.inl rfl) ?_
  refine fs_icmp_ge (tgt := 105) dd_X3_rests_12 (by decide) (fun hc => ?_) (fun hc => ?_)
  · replace H := H.1 hc
    refine fs_iconst (n := 1) (v := 1) dd_X3_rests_105 (by decide) ?_
    exact fs_zret true dd_X3_rests_106 rfl rfl H
  · replace H := H.2 hc
    refine fs_aload_n (k0 := 0) (i := 0) dd_X3_rests_15 rfl rfl ?_
    refine fs_getr (ci := 3) (j := 1) (q := 30) dd_X3_rests_16 fl_X3_29 ca_172 rfl (Or.inl ⟨_, rfl⟩) rfl (by decide) ?_
    refine fs_aload_n (k0 := 1) (i := 1) dd_X3_rests_19 rfl rfl ?_
    refine fs_iload (i := 4) dd_X3_rests_20 rfl ?_
    refine fs_iconst (n := 0) (v := 0) dd_X3_rests_22 (by decide) ?_
    refine fs_callV (y := m_X0_canSend) (as := [.ref w0, .int v4, .int 0]) dd_X3_rests_23 me_X0_canSend lk_X3_33 in_X0_canSend se_X0_canSend ca_30 rfl rfl rfl (Nat.le_of_ble_eq_true rfl) (Nat.le_of_ble_eq_true rfl) rfl (V_X0_canSend (by omega) hw0 H) (k2_Z fun r1 s2 H => ?_)
    refine fs_if_eq (tgt := 57) dd_X3_rests_26 (by decide) (fun hc => ?_) (fun hc => ?_)
    · replace H := H.1 (bi_0 hc)
      refine fs_weak (ls2 := [.ref 172, .ref w0, .int v2, .int v3, .int v4]) (fz_le_e (fz_le_e (fz_le_e (fz_le_e (fz_le_e fz_le_n))))) ?_
      exact V_nd_X3_rests_57 hD  hw0 hK3 H
    · replace H := H.2 (bi_1 hc)
      refine fs_aload_n (k0 := 0) (i := 0) dd_X3_rests_29 rfl rfl ?_
      refine fs_getr (ci := 3) (j := 3) (q := 179) dd_X3_rests_30 fl_X3_18 ca_172 rfl (Or.inr ⟨_, rfl⟩) rfl (by decide) ?_
      refine fs_iload (i := 4) dd_X3_rests_33 rfl ?_
      refine fs_iload_n (k0 := 3) (i := 3) dd_X3_rests_35 rfl rfl ?_
      refine fs_iconst (n := 0) (v := 0) dd_X3_rests_36 (by decide) ?_
      refine fs_callS (y := m_X3_cell) (as := [.int v4, .int v3, .int 0]) dd_X3_rests_37 me_X3_cell (Or.inl lk_X3_64) st_X3_cell rfl (Nat.le_of_ble_eq_true rfl) (Nat.le_of_ble_eq_true rfl) rfl (V_X3_cell (by omega)  H) (k2_I fun r3 s4 H => ?_)
      have hb := H.1
      replace H := H.2
      refine fs_iald dd_X3_rests_40 ca_179 hb ?_
      refine fs_aload_n (k0 := 0) (i := 0) dd_X3_rests_41 rfl rfl ?_
      refine fs_getr (ci := 3) (j := 3) (q := 179) dd_X3_rests_42 fl_X3_18 ca_172 rfl (Or.inr ⟨_, rfl⟩) rfl (by decide) ?_
      refine fs_iload_n (k0 := 2) (i := 2) dd_X3_rests_45 rfl rfl ?_
      refine fs_iload_n (k0 := 3) (i := 3) dd_X3_rests_46 rfl rfl ?_
      refine fs_iconst (n := 0) (v := 0) dd_X3_rests_47 (by decide) ?_
      refine fs_callS (y := m_X3_cell) (as := [.int v2, .int v3, .int 0]) dd_X3_rests_48 me_X3_cell (Or.inl lk_X3_64) st_X3_cell rfl (Nat.le_of_ble_eq_true rfl) (Nat.le_of_ble_eq_true rfl) rfl (V_X3_cell (by omega)  H) (k2_I fun r5 s6 H => ?_)
      have hb := H.1
      replace H := H.2
      refine fs_iald dd_X3_rests_51 ca_179 hb ?_
      refine fs_icmp_le (tgt := 57) dd_X3_rests_52 (by decide) (fun hc => ?_) (fun hc => ?_)
      · replace H := H.1 hc
        refine fs_weak (ls2 := [.ref 172, .ref w0, .int v2, .int v3, .int v4]) (fz_le_e (fz_le_e (fz_le_e (fz_le_e (fz_le_e fz_le_n))))) ?_
        exact V_nd_X3_rests_57 hD  hw0 hK3 H
      · replace H := H.2 hc
        refine fs_iconst (n := 0) (v := 0) dd_X3_rests_55 (by decide) ?_
        exact fs_zret false dd_X3_rests_56 rfl rfl H
set_option maxRecDepth 100000 in
set_option maxHeartbeats 4000000 in
theorem V_lp_X3_rests_3 {g : fz_G} {l : Launch} {d : Nat} (hD : 1 ≤ d) {w0 : Nat} (hw0 : fz_at true w0 10 7)  {Q : Bool → fz_s → Prop}  (n : Nat) : ∀ {v2 : Int32} {v3 : Int32} {v4 : Int32} {s : fz_s}, lp_X3_rests_3 w0  Q n v2 v3 v4 s → fs_V g l m_X3_rests d true 3 [.ref 172, .ref w0, .int v2, .int v3, .int v4] [] s (rZ Q) := by
  induction n with
  | zero => intro v2 v3 v4 s H; exact H.elim
  | succ n ih => intro v2 v3 v4 s H; exact V_nd_X3_rests_3 hD hw0 (fun H => ih H) H
set_option maxRecDepth 100000 in
set_option maxHeartbeats 4000000 in
theorem V_X3_rests {g : fz_G} {l : Launch} {d : Nat} (hD : 1 ≤ d) {w0 : Nat} {p1 : Int32} {p2 : Int32} (hw0 : fz_at true w0 10 7) {s : fz_s} {Q : Bool → fz_s → Prop} (H : wp_X3_rests w0 p1 p2 s Q) : fs_V g l m_X3_rests d true 0 (fz_en [.ref 172, .ref w0, .int p1, .int p2] 5) [] s (rZ Q) := by
  obtain ⟨d, rfl⟩ : ∃ e, d = e + 1 := ⟨d - 1, by omega⟩
  unfold wp_X3_rests at H
  refine fs_iconst (n := 0) (v := 0) dd_X3_rests_0 (by decide) ?_
  refine fs_istore (i := 4) dd_X3_rests_1 (by decide) ?_
  refine fs_weak (ls2 := [.ref 172, .ref w0, .int p1, .int p2, .int 0]) (fz_le_e (fz_le_e (fz_le_e (fz_le_e (fz_le_e fz_le_n))))) ?_
  exact V_lp_X3_rests_3 hD  hw0  2048 H
theorem dd_X3_findRest_0 : decode m_X3_findRest.2.1 0 = .ok (.aload_n 0, 1) := by decide +kernel
theorem dd_X3_findRest_1 : decode m_X3_findRest.2.1 1 = .ok (.aload_n 1, 1) := by decide +kernel
theorem dd_X3_findRest_2 : decode m_X3_findRest.2.1 2 = .ok (.invokevirtual 68, 3) := by decide +kernel
theorem dd_X3_findRest_5 : decode m_X3_findRest.2.1 5 = .ok (.iconst 0, 1) := by decide +kernel
theorem dd_X3_findRest_6 : decode m_X3_findRest.2.1 6 = .ok (.istore_n 2, 1) := by decide +kernel
theorem dd_X3_findRest_7 : decode m_X3_findRest.2.1 7 = .ok (.iload_n 2, 1) := by decide +kernel
theorem dd_X3_findRest_8 : decode m_X3_findRest.2.1 8 = .ok (.aload_n 0, 1) := by decide +kernel
theorem dd_X3_findRest_9 : decode m_X3_findRest.2.1 9 = .ok (.getfield 25, 3) := by decide +kernel
theorem dd_X3_findRest_12 : decode m_X3_findRest.2.1 12 = .ok (.getfield 55, 3) := by decide +kernel
theorem dd_X3_findRest_15 : decode m_X3_findRest.2.1 15 = .ok (.if_icmp .ge 56, 3) := by decide +kernel
theorem dd_X3_findRest_18 : decode m_X3_findRest.2.1 18 = .ok (.iconst 0, 1) := by decide +kernel
theorem dd_X3_findRest_19 : decode m_X3_findRest.2.1 19 = .ok (.istore_n 3, 1) := by decide +kernel
theorem dd_X3_findRest_20 : decode m_X3_findRest.2.1 20 = .ok (.iload_n 3, 1) := by decide +kernel
theorem dd_X3_findRest_21 : decode m_X3_findRest.2.1 21 = .ok (.aload_n 0, 1) := by decide +kernel
theorem dd_X3_findRest_22 : decode m_X3_findRest.2.1 22 = .ok (.getfield 25, 3) := by decide +kernel
theorem dd_X3_findRest_25 : decode m_X3_findRest.2.1 25 = .ok (.getfield 55, 3) := by decide +kernel
theorem dd_X3_findRest_28 : decode m_X3_findRest.2.1 28 = .ok (.if_icmp .ge 37, 3) := by decide +kernel
theorem dd_X3_findRest_31 : decode m_X3_findRest.2.1 31 = .ok (.aload_n 0, 1) := by decide +kernel
theorem dd_X3_findRest_32 : decode m_X3_findRest.2.1 32 = .ok (.aload_n 1, 1) := by decide +kernel
theorem dd_X3_findRest_33 : decode m_X3_findRest.2.1 33 = .ok (.iload_n 2, 1) := by decide +kernel
theorem dd_X3_findRest_34 : decode m_X3_findRest.2.1 34 = .ok (.iload_n 3, 1) := by decide +kernel
theorem dd_X3_findRest_35 : decode m_X3_findRest.2.1 35 = .ok (.invokevirtual 61, 3) := by decide +kernel
theorem dd_X3_findRest_38 : decode m_X3_findRest.2.1 38 = .ok (.ifCond .eq 21, 3) := by decide +kernel
theorem dd_X3_findRest_41 : decode m_X3_findRest.2.1 41 = .ok (.aload_n 0, 1) := by decide +kernel
theorem dd_X3_findRest_42 : decode m_X3_findRest.2.1 42 = .ok (.aload_n 1, 1) := by decide +kernel
theorem dd_X3_findRest_43 : decode m_X3_findRest.2.1 43 = .ok (.iload_n 2, 1) := by decide +kernel
theorem dd_X3_findRest_44 : decode m_X3_findRest.2.1 44 = .ok (.iload_n 3, 1) := by decide +kernel
theorem dd_X3_findRest_45 : decode m_X3_findRest.2.1 45 = .ok (.invokevirtual 84, 3) := by decide +kernel
theorem dd_X3_findRest_48 : decode m_X3_findRest.2.1 48 = .ok (.ifCond .eq 11, 3) := by decide +kernel
theorem dd_X3_findRest_51 : decode m_X3_findRest.2.1 51 = .ok (.aload_n 0, 1) := by decide +kernel
theorem dd_X3_findRest_52 : decode m_X3_findRest.2.1 52 = .ok (.iload_n 2, 1) := by decide +kernel
theorem dd_X3_findRest_53 : decode m_X3_findRest.2.1 53 = .ok (.iload_n 3, 1) := by decide +kernel
theorem dd_X3_findRest_54 : decode m_X3_findRest.2.1 54 = .ok (.invokevirtual 80, 3) := by decide +kernel
theorem dd_X3_findRest_57 : decode m_X3_findRest.2.1 57 = .ok (.iconst 1, 1) := by decide +kernel
theorem dd_X3_findRest_58 : decode m_X3_findRest.2.1 58 = .ok (.ireturn, 1) := by decide +kernel
theorem dd_X3_findRest_59 : decode m_X3_findRest.2.1 59 = .ok (.iinc 3 1, 3) := by decide +kernel
theorem dd_X3_findRest_62 : decode m_X3_findRest.2.1 62 = .ok (.goto (-42), 3) := by decide +kernel
theorem dd_X3_findRest_65 : decode m_X3_findRest.2.1 65 = .ok (.iinc 2 1, 3) := by decide +kernel
theorem dd_X3_findRest_68 : decode m_X3_findRest.2.1 68 = .ok (.goto (-61), 3) := by decide +kernel
theorem dd_X3_findRest_71 : decode m_X3_findRest.2.1 71 = .ok (.iconst 0, 1) := by decide +kernel
theorem dd_X3_findRest_72 : decode m_X3_findRest.2.1 72 = .ok (.ireturn, 1) := by decide +kernel
def nd_X3_findRest_20 (w0 : Nat) (K7 : Int32 → fz_s → Prop) (K20 : Int32 → Int32 → fz_s → Prop) (Q : Bool → fz_s → Prop) (v2 : Int32) (v3 : Int32) (s : fz_s) : Prop :=
  (((s.1 6 12) ≤ v3 → ∀ x1 : Int32, x1 = v2 + 1 → K7 x1 s) ∧ (¬ (s.1 6 12) ≤ v3 → wp_X3_isPair w0 v2 v3 s (fun r2 s3 => ((r2 = false → ∀ x4 : Int32, x4 = v3 + 1 → K20 v2 x4 s3) ∧ (r2 = true → wp_X3_rests w0 v2 v3 s3 (fun r5 s6 => ((r5 = false → ∀ x7 : Int32, x7 = v3 + 1 → K20 v2 x7 s6) ∧ (r5 = true → wp_X3_choose v2 v3 s6 (fun s9 => Q true s9)))))))))
def lp_X3_findRest_20 (w0 : Nat) (K7 : Int32 → fz_s → Prop) (Q : Bool → fz_s → Prop) : Nat → Int32 → Int32 → fz_s → Prop
  | 0 => fun _ _ _ => False
  | n + 1 => nd_X3_findRest_20 w0 K7 (lp_X3_findRest_20 w0 K7 Q n) Q
def nd_X3_findRest_7 (w0 : Nat) (K7 : Int32 → fz_s → Prop) (Q : Bool → fz_s → Prop) (v2 : Int32) (s : fz_s) : Prop :=
  (((s.1 6 12) ≤ v2 → Q false s) ∧ (¬ (s.1 6 12) ≤ v2 → lp_X3_findRest_20 w0 K7 Q 2048 v2 0 s))
def lp_X3_findRest_7 (w0 : Nat)  (Q : Bool → fz_s → Prop) : Nat → Int32 → fz_s → Prop
  | 0 => fun _ _ => False
  | n + 1 => nd_X3_findRest_7 w0 (lp_X3_findRest_7 w0  Q n) Q
def wp_X3_findRest (w0 : Nat) (s : fz_s) (Q : Bool → fz_s → Prop) : Prop :=
  wp_X3_fillHarvests w0 s (fun s2 => lp_X3_findRest_7 w0  Q 2048 0 s2)
set_option maxRecDepth 100000 in
set_option maxHeartbeats 4000000 in
theorem V_nd_X3_findRest_20 {g : fz_G} {l : Launch} {d : Nat} (hD : 7 ≤ d) {w0 : Nat} (hw0 : fz_at true w0 10 7) {K7 : Int32 → fz_s → Prop} {K20 : Int32 → Int32 → fz_s → Prop} {Q : Bool → fz_s → Prop} {v2 : Int32} {v3 : Int32} {s : fz_s} (hK7 : ∀ {v2 : Int32} {s : fz_s}, K7 v2 s → fs_V g l m_X3_findRest d true 7 [.ref 172, .ref w0, .int v2, fz_J] [] s (rZ Q)) (hK20 : ∀ {v2 : Int32} {v3 : Int32} {s : fz_s}, K20 v2 v3 s → fs_V g l m_X3_findRest d true 20 [.ref 172, .ref w0, .int v2, .int v3] [] s (rZ Q)) (H : nd_X3_findRest_20 w0 K7 K20 Q v2 v3 s) : fs_V g l m_X3_findRest d true 20 [.ref 172, .ref w0, .int v2, .int v3] [] s (rZ Q) := by
  obtain ⟨d, rfl⟩ : ∃ e, d = e + 1 := ⟨d - 1, by omega⟩
  unfold nd_X3_findRest_20 at H
  refine fs_iload_n (k0 := 3) (i := 3) dd_X3_findRest_20 rfl rfl ?_
  refine fs_aload_n (k0 := 0) (i := 0) dd_X3_findRest_21 rfl rfl ?_
  refine fs_getr (ci := 3) (j := 0) (q := 6) dd_X3_findRest_22 fl_X3_25 ca_172 rfl (Or.inl ⟨_, rfl⟩) rfl (by decide) ?_
  refine fs_geti (ci := 9) (j := 12) dd_X3_findRest_25 fl_X3_55 ca_6 rfl (Or.inl rfl) ?_
  refine fs_icmp_ge (tgt := 65) dd_X3_findRest_28 (by decide) (fun hc => ?_) (fun hc => ?_)
  · replace H := H.1 hc
    refine fs_iincN (i := 2) (m := 1) (c := 1) dd_X3_findRest_65 rfl (by decide) (by decide) (fun x1 hx1 => ?_)
    replace H := H x1 hx1
    refine fs_goto (tgt := 7) dd_X3_findRest_68 (by decide) ?_
    refine fs_weak (ls2 := [.ref 172, .ref w0, .int x1, fz_J]) (fz_le_e (fz_le_e (fz_le_e (fz_le_j fz_le_n)))) ?_
    exact hK7 H
  · replace H := H.2 hc
    refine fs_aload_n (k0 := 0) (i := 0) dd_X3_findRest_31 rfl rfl ?_
    refine fs_aload_n (k0 := 1) (i := 1) dd_X3_findRest_32 rfl rfl ?_
    refine fs_iload_n (k0 := 2) (i := 2) dd_X3_findRest_33 rfl rfl ?_
    refine fs_iload_n (k0 := 3) (i := 3) dd_X3_findRest_34 rfl rfl ?_
    refine fs_callV (y := m_X3_isPair) (as := [.ref w0, .int v2, .int v3]) dd_X3_findRest_35 me_X3_isPair lk_X3_61 in_X3_isPair se_X3_isPair ca_172 rfl rfl rfl (Nat.le_of_ble_eq_true rfl) (Nat.le_of_ble_eq_true rfl) rfl (V_X3_isPair (by omega) hw0 H) (k2_Z fun r2 s3 H => ?_)
    refine fs_if_eq (tgt := 59) dd_X3_findRest_38 (by decide) (fun hc => ?_) (fun hc => ?_)
    · replace H := H.1 (bi_0 hc)
      refine fs_iincN (i := 3) (m := 1) (c := 1) dd_X3_findRest_59 rfl (by decide) (by decide) (fun x4 hx4 => ?_)
      replace H := H x4 hx4
      refine fs_goto (tgt := 20) dd_X3_findRest_62 (by decide) ?_
      refine fs_weak (ls2 := [.ref 172, .ref w0, .int v2, .int x4]) (fz_le_e (fz_le_e (fz_le_e (fz_le_e fz_le_n)))) ?_
      exact hK20 H
    · replace H := H.2 (bi_1 hc)
      refine fs_aload_n (k0 := 0) (i := 0) dd_X3_findRest_41 rfl rfl ?_
      refine fs_aload_n (k0 := 1) (i := 1) dd_X3_findRest_42 rfl rfl ?_
      refine fs_iload_n (k0 := 2) (i := 2) dd_X3_findRest_43 rfl rfl ?_
      refine fs_iload_n (k0 := 3) (i := 3) dd_X3_findRest_44 rfl rfl ?_
      refine fs_callV (y := m_X3_rests) (as := [.ref w0, .int v2, .int v3]) dd_X3_findRest_45 me_X3_rests lk_X3_84 in_X3_rests se_X3_rests ca_172 rfl rfl rfl (Nat.le_of_ble_eq_true rfl) (Nat.le_of_ble_eq_true rfl) rfl (V_X3_rests (by omega) hw0 H) (k2_Z fun r5 s6 H => ?_)
      refine fs_if_eq (tgt := 59) dd_X3_findRest_48 (by decide) (fun hc => ?_) (fun hc => ?_)
      · replace H := H.1 (bi_0 hc)
        refine fs_iincN (i := 3) (m := 1) (c := 1) dd_X3_findRest_59 rfl (by decide) (by decide) (fun x7 hx7 => ?_)
        replace H := H x7 hx7
        refine fs_goto (tgt := 20) dd_X3_findRest_62 (by decide) ?_
        refine fs_weak (ls2 := [.ref 172, .ref w0, .int v2, .int x7]) (fz_le_e (fz_le_e (fz_le_e (fz_le_e fz_le_n)))) ?_
        exact hK20 H
      · replace H := H.2 (bi_1 hc)
        refine fs_aload_n (k0 := 0) (i := 0) dd_X3_findRest_51 rfl rfl ?_
        refine fs_iload_n (k0 := 2) (i := 2) dd_X3_findRest_52 rfl rfl ?_
        refine fs_iload_n (k0 := 3) (i := 3) dd_X3_findRest_53 rfl rfl ?_
        refine fs_callV (y := m_X3_choose) (as := [.int v2, .int v3]) dd_X3_findRest_54 me_X3_choose lk_X3_80 in_X3_choose se_X3_choose ca_172 rfl rfl rfl (Nat.le_of_ble_eq_true rfl) (Nat.le_of_ble_eq_true rfl) rfl (V_X3_choose (by omega)  H) (k2_V fun s9 H => ?_)
        refine fs_iconst (n := 1) (v := 1) dd_X3_findRest_57 (by decide) ?_
        exact fs_zret true dd_X3_findRest_58 rfl rfl H
set_option maxRecDepth 100000 in
set_option maxHeartbeats 4000000 in
theorem V_lp_X3_findRest_20 {g : fz_G} {l : Launch} {d : Nat} (hD : 7 ≤ d) {w0 : Nat} (hw0 : fz_at true w0 10 7) {K7 : Int32 → fz_s → Prop} {Q : Bool → fz_s → Prop} (hK7 : ∀ {v2 : Int32} {s : fz_s}, K7 v2 s → fs_V g l m_X3_findRest d true 7 [.ref 172, .ref w0, .int v2, fz_J] [] s (rZ Q)) (n : Nat) : ∀ {v2 : Int32} {v3 : Int32} {s : fz_s}, lp_X3_findRest_20 w0 K7 Q n v2 v3 s → fs_V g l m_X3_findRest d true 20 [.ref 172, .ref w0, .int v2, .int v3] [] s (rZ Q) := by
  induction n with
  | zero => intro v2 v3 s H; exact H.elim
  | succ n ih => intro v2 v3 s H; exact V_nd_X3_findRest_20 hD hw0 hK7 (fun H => ih H) H
set_option maxRecDepth 100000 in
set_option maxHeartbeats 4000000 in
theorem V_nd_X3_findRest_7 {g : fz_G} {l : Launch} {d : Nat} (hD : 7 ≤ d) {w0 : Nat} (hw0 : fz_at true w0 10 7) {K7 : Int32 → fz_s → Prop} {Q : Bool → fz_s → Prop} {v2 : Int32} {s : fz_s} (hK7 : ∀ {v2 : Int32} {s : fz_s}, K7 v2 s → fs_V g l m_X3_findRest d true 7 [.ref 172, .ref w0, .int v2, fz_J] [] s (rZ Q)) (H : nd_X3_findRest_7 w0 K7 Q v2 s) : fs_V g l m_X3_findRest d true 7 [.ref 172, .ref w0, .int v2, fz_J] [] s (rZ Q) := by
  obtain ⟨d, rfl⟩ : ∃ e, d = e + 1 := ⟨d - 1, by omega⟩
  unfold nd_X3_findRest_7 at H
  refine fs_iload_n (k0 := 2) (i := 2) dd_X3_findRest_7 rfl rfl ?_
  refine fs_aload_n (k0 := 0) (i := 0) dd_X3_findRest_8 rfl rfl ?_
  refine fs_getr (ci := 3) (j := 0) (q := 6) dd_X3_findRest_9 fl_X3_25 ca_172 rfl (Or.inl ⟨_, rfl⟩) rfl (by decide) ?_
  refine fs_geti (ci := 9) (j := 12) dd_X3_findRest_12 fl_X3_55 ca_6 rfl (Or.inl rfl) ?_
  refine fs_icmp_ge (tgt := 71) dd_X3_findRest_15 (by decide) (fun hc => ?_) (fun hc => ?_)
  · replace H := H.1 hc
    refine fs_iconst (n := 0) (v := 0) dd_X3_findRest_71 (by decide) ?_
    exact fs_zret false dd_X3_findRest_72 rfl rfl H
  · replace H := H.2 hc
    refine fs_iconst (n := 0) (v := 0) dd_X3_findRest_18 (by decide) ?_
    refine fs_istore_n (k0 := 3) (i := 3) dd_X3_findRest_19 rfl (by decide) ?_
    refine fs_weak (ls2 := [.ref 172, .ref w0, .int v2, .int 0]) (fz_le_e (fz_le_e (fz_le_e (fz_le_e fz_le_n)))) ?_
    exact V_lp_X3_findRest_20 hD  hw0 hK7 2048 H
set_option maxRecDepth 100000 in
set_option maxHeartbeats 4000000 in
theorem V_lp_X3_findRest_7 {g : fz_G} {l : Launch} {d : Nat} (hD : 7 ≤ d) {w0 : Nat} (hw0 : fz_at true w0 10 7)  {Q : Bool → fz_s → Prop}  (n : Nat) : ∀ {v2 : Int32} {s : fz_s}, lp_X3_findRest_7 w0  Q n v2 s → fs_V g l m_X3_findRest d true 7 [.ref 172, .ref w0, .int v2, fz_J] [] s (rZ Q) := by
  induction n with
  | zero => intro v2 s H; exact H.elim
  | succ n ih => intro v2 s H; exact V_nd_X3_findRest_7 hD hw0 (fun H => ih H) H
set_option maxRecDepth 100000 in
set_option maxHeartbeats 4000000 in
theorem V_X3_findRest {g : fz_G} {l : Launch} {d : Nat} (hD : 7 ≤ d) {w0 : Nat} (hw0 : fz_at true w0 10 7) {s : fz_s} {Q : Bool → fz_s → Prop} (H : wp_X3_findRest w0 s Q) : fs_V g l m_X3_findRest d true 0 (fz_en [.ref 172, .ref w0] 4) [] s (rZ Q) := by
  obtain ⟨d, rfl⟩ : ∃ e, d = e + 1 := ⟨d - 1, by omega⟩
  unfold wp_X3_findRest at H
  refine fs_aload_n (k0 := 0) (i := 0) dd_X3_findRest_0 rfl rfl ?_
  refine fs_aload_n (k0 := 1) (i := 1) dd_X3_findRest_1 rfl rfl ?_
  refine fs_callV (y := m_X3_fillHarvests) (as := [.ref w0]) dd_X3_findRest_2 me_X3_fillHarvests lk_X3_68 in_X3_fillHarvests se_X3_fillHarvests ca_172 rfl rfl rfl (Nat.le_of_ble_eq_true rfl) (Nat.le_of_ble_eq_true rfl) rfl (V_X3_fillHarvests (by omega) hw0 H) (k2_V fun s2 H => ?_)
  refine fs_iconst (n := 0) (v := 0) dd_X3_findRest_5 (by decide) ?_
  refine fs_istore_n (k0 := 2) (i := 2) dd_X3_findRest_6 rfl (by decide) ?_
  refine fs_weak (ls2 := [.ref 172, .ref w0, .int 0, fz_J]) (fz_le_e (fz_le_e (fz_le_e (fz_le_j fz_le_n)))) ?_
  exact V_lp_X3_findRest_7 hD  hw0  2048 H
theorem dd_X11_rest_0 : decode m_X11_rest.2.1 0 = .ok (.iload_n 1, 1) := by decide +kernel
theorem dd_X11_rest_1 : decode m_X11_rest.2.1 1 = .ok (.ifCond .lt 37, 3) := by decide +kernel
theorem dd_X11_rest_4 : decode m_X11_rest.2.1 4 = .ok (.iload_n 1, 1) := by decide +kernel
theorem dd_X11_rest_5 : decode m_X11_rest.2.1 5 = .ok (.iconst 1, 1) := by decide +kernel
theorem dd_X11_rest_6 : decode m_X11_rest.2.1 6 = .ok (.if_icmp .gt 32, 3) := by decide +kernel
theorem dd_X11_rest_9 : decode m_X11_rest.2.1 9 = .ok (.aload_n 0, 1) := by decide +kernel
theorem dd_X11_rest_10 : decode m_X11_rest.2.1 10 = .ok (.invokevirtual 265, 3) := by decide +kernel
theorem dd_X11_rest_13 : decode m_X11_rest.2.1 13 = .ok (.ifCond .ne 25, 3) := by decide +kernel
theorem dd_X11_rest_16 : decode m_X11_rest.2.1 16 = .ok (.aload_n 0, 1) := by decide +kernel
theorem dd_X11_rest_17 : decode m_X11_rest.2.1 17 = .ok (.iconst 1, 1) := by decide +kernel
theorem dd_X11_rest_18 : decode m_X11_rest.2.1 18 = .ok (.invokevirtual 249, 3) := by decide +kernel
theorem dd_X11_rest_21 : decode m_X11_rest.2.1 21 = .ok (.ifCond .ne 17, 3) := by decide +kernel
theorem dd_X11_rest_24 : decode m_X11_rest.2.1 24 = .ok (.aload_n 0, 1) := by decide +kernel
theorem dd_X11_rest_25 : decode m_X11_rest.2.1 25 = .ok (.getfield 82, 3) := by decide +kernel
theorem dd_X11_rest_28 : decode m_X11_rest.2.1 28 = .ok (.aload_n 0, 1) := by decide +kernel
theorem dd_X11_rest_29 : decode m_X11_rest.2.1 29 = .ok (.getfield 63, 3) := by decide +kernel
theorem dd_X11_rest_32 : decode m_X11_rest.2.1 32 = .ok (.invokevirtual 279, 3) := by decide +kernel
theorem dd_X11_rest_35 : decode m_X11_rest.2.1 35 = .ok (.ifCond .ne 5, 3) := by decide +kernel
theorem dd_X11_rest_38 : decode m_X11_rest.2.1 38 = .ok (.iconst (-1), 1) := by decide +kernel
theorem dd_X11_rest_39 : decode m_X11_rest.2.1 39 = .ok (.ireturn, 1) := by decide +kernel
theorem dd_X11_rest_40 : decode m_X11_rest.2.1 40 = .ok (.aload_n 0, 1) := by decide +kernel
theorem dd_X11_rest_41 : decode m_X11_rest.2.1 41 = .ok (.getfield 82, 3) := by decide +kernel
theorem dd_X11_rest_44 : decode m_X11_rest.2.1 44 = .ok (.getfield 276, 3) := by decide +kernel
theorem dd_X11_rest_47 : decode m_X11_rest.2.1 47 = .ok (.iload_n 1, 1) := by decide +kernel
theorem dd_X11_rest_48 : decode m_X11_rest.2.1 48 = .ok (.iaload, 1) := by decide +kernel
theorem dd_X11_rest_49 : decode m_X11_rest.2.1 49 = .ok (.ireturn, 1) := by decide +kernel
def wp_X11_rest (p0 : Int32) (s : fz_s) (Q : Int32 → fz_s → Prop) : Prop :=
  ((p0 < 0 → Q (-1) s) ∧ (¬ p0 < 0 → ((1 < p0 → Q (-1) s) ∧ (¬ 1 < p0 → wp_X11_noTreaty  s (fun r1 s2 => ((r1 = true → Q (-1) s2) ∧ (r1 = false → wp_X11_beyond 1 s2 (fun r3 s4 => ((r3 = true → Q (-1) s4) ∧ (r3 = false → wp_X3_findRest 35 s4 (fun r5 s6 => ((r5 = true → vp_in p0 2 ∧ Q (s6.1 180 p0.toNatClampNeg) s6) ∧ (r5 = false → Q (-1) s6)))))))))))))
set_option maxRecDepth 100000 in
set_option maxHeartbeats 4000000 in
theorem V_X11_rest {g : fz_G} {l : Launch} {d : Nat} (hD : 8 ≤ d) {p0 : Int32}  {s : fz_s} {Q : Int32 → fz_s → Prop} (H : wp_X11_rest p0 s Q) : fs_V g l m_X11_rest d true 0 (fz_en [.ref 2, .int p0] 2) [] s (rI Q) := by
  obtain ⟨d, rfl⟩ : ∃ e, d = e + 1 := ⟨d - 1, by omega⟩
  unfold wp_X11_rest at H
  refine fs_iload_n (k0 := 1) (i := 1) dd_X11_rest_0 rfl rfl ?_
  refine fs_if_lt (tgt := 38) dd_X11_rest_1 (by decide) (fun hc => ?_) (fun hc => ?_)
  · replace H := H.1 hc
    refine fs_iconst (n := -1) (v := -1) dd_X11_rest_38 (by decide) ?_
    exact fs_iret dd_X11_rest_39 rfl H
  · replace H := H.2 hc
    refine fs_iload_n (k0 := 1) (i := 1) dd_X11_rest_4 rfl rfl ?_
    refine fs_iconst (n := 1) (v := 1) dd_X11_rest_5 (by decide) ?_
    refine fs_icmp_gt (tgt := 38) dd_X11_rest_6 (by decide) (fun hc => ?_) (fun hc => ?_)
    · replace H := H.1 hc
      refine fs_iconst (n := -1) (v := -1) dd_X11_rest_38 (by decide) ?_
      exact fs_iret dd_X11_rest_39 rfl H
    · replace H := H.2 hc
      refine fs_aload_n (k0 := 0) (i := 0) dd_X11_rest_9 rfl rfl ?_
      refine fs_callV (y := m_X11_noTreaty) (as := []) dd_X11_rest_10 me_X11_noTreaty lk_X11_265 in_X11_noTreaty se_X11_noTreaty ca_2 rfl rfl rfl (Nat.le_of_ble_eq_true rfl) (Nat.le_of_ble_eq_true rfl) rfl (V_X11_noTreaty (by omega)  H) (k2_Z fun r1 s2 H => ?_)
      refine fs_if_ne (tgt := 38) dd_X11_rest_13 (by decide) (fun hc => ?_) (fun hc => ?_)
      · replace H := H.1 (bi_1 hc)
        refine fs_iconst (n := -1) (v := -1) dd_X11_rest_38 (by decide) ?_
        exact fs_iret dd_X11_rest_39 rfl H
      · replace H := H.2 (bi_0 hc)
        refine fs_aload_n (k0 := 0) (i := 0) dd_X11_rest_16 rfl rfl ?_
        refine fs_iconst (n := 1) (v := 1) dd_X11_rest_17 (by decide) ?_
        refine fs_callV (y := m_X11_beyond) (as := [.int 1]) dd_X11_rest_18 me_X11_beyond lk_X11_249 in_X11_beyond se_X11_beyond ca_2 rfl rfl rfl (Nat.le_of_ble_eq_true rfl) (Nat.le_of_ble_eq_true rfl) rfl (V_X11_beyond (by omega)  H) (k2_Z fun r3 s4 H => ?_)
        refine fs_if_ne (tgt := 38) dd_X11_rest_21 (by decide) (fun hc => ?_) (fun hc => ?_)
        · replace H := H.1 (bi_1 hc)
          refine fs_iconst (n := -1) (v := -1) dd_X11_rest_38 (by decide) ?_
          exact fs_iret dd_X11_rest_39 rfl H
        · replace H := H.2 (bi_0 hc)
          refine fs_aload_n (k0 := 0) (i := 0) dd_X11_rest_24 rfl rfl ?_
          refine fs_getr (ci := 11) (j := 11) (q := 172) dd_X11_rest_25 fl_X11_82 ca_2 rfl (Or.inl ⟨_, rfl⟩) rfl (by decide) ?_
          refine fs_aload_n (k0 := 0) (i := 0) dd_X11_rest_28 rfl rfl ?_
          refine fs_getr (ci := 11) (j := 8) (q := 35) dd_X11_rest_29 fl_X11_63 ca_2 rfl (Or.inl ⟨_, rfl⟩) rfl (by decide) ?_
          refine fs_callV (y := m_X3_findRest) (as := [.ref 35]) dd_X11_rest_32 me_X3_findRest lk_X11_279 in_X3_findRest se_X3_findRest ca_172 rfl rfl rfl (Nat.le_of_ble_eq_true rfl) (Nat.le_of_ble_eq_true rfl) rfl (V_X3_findRest (by omega) ca_35 H) (k2_Z fun r5 s6 H => ?_)
          refine fs_if_ne (tgt := 40) dd_X11_rest_35 (by decide) (fun hc => ?_) (fun hc => ?_)
          · replace H := H.1 (bi_1 hc)
            refine fs_aload_n (k0 := 0) (i := 0) dd_X11_rest_40 rfl rfl ?_
            refine fs_getr (ci := 11) (j := 11) (q := 172) dd_X11_rest_41 fl_X11_82 ca_2 rfl (Or.inl ⟨_, rfl⟩) rfl (by decide) ?_
            refine fs_getr (ci := 3) (j := 4) (q := 180) dd_X11_rest_44 fl_X11_276 ca_172 rfl (Or.inr ⟨_, rfl⟩) rfl (by decide) ?_
            refine fs_iload_n (k0 := 1) (i := 1) dd_X11_rest_47 rfl rfl ?_
            have hb := H.1
            replace H := H.2
            refine fs_iald dd_X11_rest_48 ca_180 hb ?_
            exact fs_iret dd_X11_rest_49 rfl H
          · replace H := H.2 (bi_0 hc)
            refine fs_iconst (n := -1) (v := -1) dd_X11_rest_38 (by decide) ?_
            exact fs_iret dd_X11_rest_39 rfl H
theorem dd_X1_answer_0 : decode m_X1_answer.2.1 0 = .ok (.iload_n 3, 1) := by decide +kernel
theorem dd_X1_answer_1 : decode m_X1_answer.2.1 1 = .ok (.bipush 9, 2) := by decide +kernel
theorem dd_X1_answer_3 : decode m_X1_answer.2.1 3 = .ok (.irem, 1) := by decide +kernel
theorem dd_X1_answer_4 : decode m_X1_answer.2.1 4 = .ok (.iconst 1, 1) := by decide +kernel
theorem dd_X1_answer_5 : decode m_X1_answer.2.1 5 = .ok (.iadd, 1) := by decide +kernel
theorem dd_X1_answer_6 : decode m_X1_answer.2.1 6 = .ok (.istore 4, 2) := by decide +kernel
theorem dd_X1_answer_8 : decode m_X1_answer.2.1 8 = .ok (.iload_n 3, 1) := by decide +kernel
theorem dd_X1_answer_9 : decode m_X1_answer.2.1 9 = .ok (.bipush 9, 2) := by decide +kernel
theorem dd_X1_answer_11 : decode m_X1_answer.2.1 11 = .ok (.idiv, 1) := by decide +kernel
theorem dd_X1_answer_12 : decode m_X1_answer.2.1 12 = .ok (.lookupswitch 65 #[(0, 28), (1, 45)], 28) := by decide +kernel
theorem dd_X1_answer_40 : decode m_X1_answer.2.1 40 = .ok (.aload_n 1, 1) := by decide +kernel
theorem dd_X1_answer_41 : decode m_X1_answer.2.1 41 = .ok (.getfield 66, 3) := by decide +kernel
theorem dd_X1_answer_44 : decode m_X1_answer.2.1 44 = .ok (.iload_n 2, 1) := by decide +kernel
theorem dd_X1_answer_45 : decode m_X1_answer.2.1 45 = .ok (.iaload, 1) := by decide +kernel
theorem dd_X1_answer_46 : decode m_X1_answer.2.1 46 = .ok (.iload 4, 2) := by decide +kernel
theorem dd_X1_answer_48 : decode m_X1_answer.2.1 48 = .ok (.if_icmp .ge 7, 3) := by decide +kernel
theorem dd_X1_answer_51 : decode m_X1_answer.2.1 51 = .ok (.iconst 1, 1) := by decide +kernel
theorem dd_X1_answer_52 : decode m_X1_answer.2.1 52 = .ok (.goto 4, 3) := by decide +kernel
theorem dd_X1_answer_55 : decode m_X1_answer.2.1 55 = .ok (.iconst 0, 1) := by decide +kernel
theorem dd_X1_answer_56 : decode m_X1_answer.2.1 56 = .ok (.ireturn, 1) := by decide +kernel
theorem dd_X1_answer_57 : decode m_X1_answer.2.1 57 = .ok (.aload_n 0, 1) := by decide +kernel
theorem dd_X1_answer_58 : decode m_X1_answer.2.1 58 = .ok (.getfield 19, 3) := by decide +kernel
theorem dd_X1_answer_61 : decode m_X1_answer.2.1 61 = .ok (.getfield 71, 3) := by decide +kernel
theorem dd_X1_answer_64 : decode m_X1_answer.2.1 64 = .ok (.iload_n 2, 1) := by decide +kernel
theorem dd_X1_answer_65 : decode m_X1_answer.2.1 65 = .ok (.iaload, 1) := by decide +kernel
theorem dd_X1_answer_66 : decode m_X1_answer.2.1 66 = .ok (.iload 4, 2) := by decide +kernel
theorem dd_X1_answer_68 : decode m_X1_answer.2.1 68 = .ok (.if_icmp .ge 7, 3) := by decide +kernel
theorem dd_X1_answer_71 : decode m_X1_answer.2.1 71 = .ok (.iconst 1, 1) := by decide +kernel
theorem dd_X1_answer_72 : decode m_X1_answer.2.1 72 = .ok (.goto 4, 3) := by decide +kernel
theorem dd_X1_answer_75 : decode m_X1_answer.2.1 75 = .ok (.iconst 0, 1) := by decide +kernel
theorem dd_X1_answer_76 : decode m_X1_answer.2.1 76 = .ok (.ireturn, 1) := by decide +kernel
theorem dd_X1_answer_77 : decode m_X1_answer.2.1 77 = .ok (.aload_n 0, 1) := by decide +kernel
theorem dd_X1_answer_78 : decode m_X1_answer.2.1 78 = .ok (.getfield 19, 3) := by decide +kernel
theorem dd_X1_answer_81 : decode m_X1_answer.2.1 81 = .ok (.getfield 74, 3) := by decide +kernel
theorem dd_X1_answer_84 : decode m_X1_answer.2.1 84 = .ok (.iload_n 2, 1) := by decide +kernel
theorem dd_X1_answer_85 : decode m_X1_answer.2.1 85 = .ok (.iaload, 1) := by decide +kernel
theorem dd_X1_answer_86 : decode m_X1_answer.2.1 86 = .ok (.iload 4, 2) := by decide +kernel
theorem dd_X1_answer_88 : decode m_X1_answer.2.1 88 = .ok (.if_icmp .ge 7, 3) := by decide +kernel
theorem dd_X1_answer_91 : decode m_X1_answer.2.1 91 = .ok (.iconst 1, 1) := by decide +kernel
theorem dd_X1_answer_92 : decode m_X1_answer.2.1 92 = .ok (.goto 4, 3) := by decide +kernel
theorem dd_X1_answer_95 : decode m_X1_answer.2.1 95 = .ok (.iconst 0, 1) := by decide +kernel
theorem dd_X1_answer_96 : decode m_X1_answer.2.1 96 = .ok (.ireturn, 1) := by decide +kernel
def wp_X1_answer (w0 : Nat) (p1 : Int32) (p2 : Int32) (s : fz_s) (Q : Bool → fz_s → Prop) : Prop :=
  ∀ x1 : Int32, x1 = ((p2 - p2 / 9 * 9) + 1) → (((p2 / 9) = 0 → vp_in p1 8 ∧ ((x1 ≤ (s.1 (w0 + 1 + 2) p1.toNatClampNeg) → Q false s) ∧ (¬ x1 ≤ (s.1 (w0 + 1 + 2) p1.toNatClampNeg) → Q true s))) ∧ ((p2 / 9) = 1 → vp_in p1 8 ∧ ((x1 ≤ (s.1 12 p1.toNatClampNeg) → Q false s) ∧ (¬ x1 ≤ (s.1 12 p1.toNatClampNeg) → Q true s))) ∧ (¬ (p2 / 9) = 0 ∧ ¬ (p2 / 9) = 1 → vp_in p1 8 ∧ ((x1 ≤ (s.1 13 p1.toNatClampNeg) → Q false s) ∧ (¬ x1 ≤ (s.1 13 p1.toNatClampNeg) → Q true s))))
set_option maxRecDepth 100000 in
set_option maxHeartbeats 4000000 in
theorem V_X1_answer {g : fz_G} {l : Launch} {d : Nat} (hD : 0 ≤ d) {w0 : Nat} {p1 : Int32} {p2 : Int32} (hw0 : fz_at true w0 10 7) {s : fz_s} {Q : Bool → fz_s → Prop} (H : wp_X1_answer w0 p1 p2 s Q) : fs_V g l m_X1_answer d true 0 (fz_en [.ref 181, .ref w0, .int p1, .int p2] 5) [] s (rZ Q) := by
  unfold wp_X1_answer at H
  refine fs_iload_n (k0 := 3) (i := 3) dd_X1_answer_0 rfl rfl ?_
  refine fs_bipush (n := 9) (v := 9) dd_X1_answer_1 (by decide) ?_
  refine fs_irem dd_X1_answer_3 (by decide) ?_
  refine fs_iconst (n := 1) (v := 1) dd_X1_answer_4 (by decide) ?_
  refine fs_iadd dd_X1_answer_5 ?_
  refine fs_topi (fun x1 hx1 => ?_)
  replace H := H x1 hx1
  refine fs_istore (i := 4) dd_X1_answer_6 (by decide) ?_
  refine fs_iload_n (k0 := 3) (i := 3) dd_X1_answer_8 rfl rfl ?_
  refine fs_bipush (n := 9) (v := 9) dd_X1_answer_9 (by decide) ?_
  refine fs_idiv dd_X1_answer_11 (by decide) ?_
  by_cases hc0 : (p2 / 9) = 0
  · replace H := H.1 hc0
    refine fs_lookAt (k := 0) (off := 28) (tgt := 40) hc0 dd_X1_answer_12 (by decide) (by decide) (by decide) ?_
    refine fs_aload_n (k0 := 1) (i := 1) dd_X1_answer_40 rfl rfl ?_
    refine fs_getr (ci := 10) (j := 2) (q := (w0 + 1 + 2)) dd_X1_answer_41 fl_X1_66 hw0 rfl (Or.inr ⟨_, rfl⟩) ((fz_W hw0).1 2 (by decide)) (fun q => (fz_W hw0).2.2.2 q.1) ?_
    refine fs_iload_n (k0 := 2) (i := 2) dd_X1_answer_44 rfl rfl ?_
    have hb := H.1
    replace H := H.2
    refine fs_iald dd_X1_answer_45 ((fz_W hw0).2.2.1 2 (by decide) (by decide)) hb ?_
    refine fs_iload (i := 4) dd_X1_answer_46 rfl ?_
    refine fs_icmp_ge (tgt := 55) dd_X1_answer_48 (by decide) (fun hc => ?_) (fun hc => ?_)
    · replace H := H.1 hc
      refine fs_iconst (n := 0) (v := 0) dd_X1_answer_55 (by decide) ?_
      exact fs_zret false dd_X1_answer_56 rfl rfl H
    · replace H := H.2 hc
      refine fs_iconst (n := 1) (v := 1) dd_X1_answer_51 (by decide) ?_
      refine fs_goto (tgt := 56) dd_X1_answer_52 (by decide) ?_
      exact fs_zret true dd_X1_answer_56 rfl rfl H
  by_cases hc1 : (p2 / 9) = 1
  · replace H := H.2.1 hc1
    refine fs_lookAt (k := 1) (off := 45) (tgt := 57) hc1 dd_X1_answer_12 (by decide) (by decide) (by decide) ?_
    refine fs_aload_n (k0 := 0) (i := 0) dd_X1_answer_57 rfl rfl ?_
    refine fs_getr (ci := 1) (j := 0) (q := 6) dd_X1_answer_58 fl_X1_19 ca_181 rfl (Or.inl ⟨_, rfl⟩) rfl (by decide) ?_
    refine fs_getr (ci := 9) (j := 5) (q := 12) dd_X1_answer_61 fl_X1_71 ca_6 rfl (Or.inr ⟨_, rfl⟩) rfl (by decide) ?_
    refine fs_iload_n (k0 := 2) (i := 2) dd_X1_answer_64 rfl rfl ?_
    have hb := H.1
    replace H := H.2
    refine fs_iald dd_X1_answer_65 ca_12 hb ?_
    refine fs_iload (i := 4) dd_X1_answer_66 rfl ?_
    refine fs_icmp_ge (tgt := 75) dd_X1_answer_68 (by decide) (fun hc => ?_) (fun hc => ?_)
    · replace H := H.1 hc
      refine fs_iconst (n := 0) (v := 0) dd_X1_answer_75 (by decide) ?_
      exact fs_zret false dd_X1_answer_76 rfl rfl H
    · replace H := H.2 hc
      refine fs_iconst (n := 1) (v := 1) dd_X1_answer_71 (by decide) ?_
      refine fs_goto (tgt := 76) dd_X1_answer_72 (by decide) ?_
      exact fs_zret true dd_X1_answer_76 rfl rfl H
  replace H := H.2.2 ⟨hc0, hc1⟩
  refine fs_lookOut2 (tgt := 77) hc0 hc1 dd_X1_answer_12 (by decide) ?_
  refine fs_aload_n (k0 := 0) (i := 0) dd_X1_answer_77 rfl rfl ?_
  refine fs_getr (ci := 1) (j := 0) (q := 6) dd_X1_answer_78 fl_X1_19 ca_181 rfl (Or.inl ⟨_, rfl⟩) rfl (by decide) ?_
  refine fs_getr (ci := 9) (j := 6) (q := 13) dd_X1_answer_81 fl_X1_74 ca_6 rfl (Or.inr ⟨_, rfl⟩) rfl (by decide) ?_
  refine fs_iload_n (k0 := 2) (i := 2) dd_X1_answer_84 rfl rfl ?_
  have hb := H.1
  replace H := H.2
  refine fs_iald dd_X1_answer_85 ca_13 hb ?_
  refine fs_iload (i := 4) dd_X1_answer_86 rfl ?_
  refine fs_icmp_ge (tgt := 95) dd_X1_answer_88 (by decide) (fun hc => ?_) (fun hc => ?_)
  · replace H := H.1 hc
    refine fs_iconst (n := 0) (v := 0) dd_X1_answer_95 (by decide) ?_
    exact fs_zret false dd_X1_answer_96 rfl rfl H
  · replace H := H.2 hc
    refine fs_iconst (n := 1) (v := 1) dd_X1_answer_91 (by decide) ?_
    refine fs_goto (tgt := 96) dd_X1_answer_92 (by decide) ?_
    exact fs_zret true dd_X1_answer_96 rfl rfl H
theorem dd_X1_addPair_0 : decode m_X1_addPair.2.1 0 = .ok (.lconst 1, 1) := by decide +kernel
theorem dd_X1_addPair_1 : decode m_X1_addPair.2.1 1 = .ok (.iload_n 2, 1) := by decide +kernel
theorem dd_X1_addPair_2 : decode m_X1_addPair.2.1 2 = .ok (.bipush 8, 2) := by decide +kernel
theorem dd_X1_addPair_4 : decode m_X1_addPair.2.1 4 = .ok (.imul, 1) := by decide +kernel
theorem dd_X1_addPair_5 : decode m_X1_addPair.2.1 5 = .ok (.iload_n 3, 1) := by decide +kernel
theorem dd_X1_addPair_6 : decode m_X1_addPair.2.1 6 = .ok (.iadd, 1) := by decide +kernel
theorem dd_X1_addPair_7 : decode m_X1_addPair.2.1 7 = .ok (.lshl, 1) := by decide +kernel
theorem dd_X1_addPair_8 : decode m_X1_addPair.2.1 8 = .ok (.lstore 4, 2) := by decide +kernel
theorem dd_X1_addPair_10 : decode m_X1_addPair.2.1 10 = .ok (.aload_n 0, 1) := by decide +kernel
theorem dd_X1_addPair_11 : decode m_X1_addPair.2.1 11 = .ok (.dup, 1) := by decide +kernel
theorem dd_X1_addPair_12 : decode m_X1_addPair.2.1 12 = .ok (.getfield 39, 3) := by decide +kernel
theorem dd_X1_addPair_15 : decode m_X1_addPair.2.1 15 = .ok (.lload 4, 2) := by decide +kernel
theorem dd_X1_addPair_17 : decode m_X1_addPair.2.1 17 = .ok (.lor, 1) := by decide +kernel
theorem dd_X1_addPair_18 : decode m_X1_addPair.2.1 18 = .ok (.putfield 39, 3) := by decide +kernel
theorem dd_X1_addPair_21 : decode m_X1_addPair.2.1 21 = .ok (.iconst 0, 1) := by decide +kernel
theorem dd_X1_addPair_22 : decode m_X1_addPair.2.1 22 = .ok (.istore 6, 2) := by decide +kernel
theorem dd_X1_addPair_24 : decode m_X1_addPair.2.1 24 = .ok (.iload 6, 2) := by decide +kernel
theorem dd_X1_addPair_26 : decode m_X1_addPair.2.1 26 = .ok (.bipush 27, 2) := by decide +kernel
theorem dd_X1_addPair_28 : decode m_X1_addPair.2.1 28 = .ok (.if_icmp .ge 40, 3) := by decide +kernel
theorem dd_X1_addPair_31 : decode m_X1_addPair.2.1 31 = .ok (.aload_n 0, 1) := by decide +kernel
theorem dd_X1_addPair_32 : decode m_X1_addPair.2.1 32 = .ok (.aload_n 1, 1) := by decide +kernel
theorem dd_X1_addPair_33 : decode m_X1_addPair.2.1 33 = .ok (.iload_n 2, 1) := by decide +kernel
theorem dd_X1_addPair_34 : decode m_X1_addPair.2.1 34 = .ok (.iload 6, 2) := by decide +kernel
theorem dd_X1_addPair_36 : decode m_X1_addPair.2.1 36 = .ok (.invokevirtual 62, 3) := by decide +kernel
theorem dd_X1_addPair_39 : decode m_X1_addPair.2.1 39 = .ok (.aload_n 0, 1) := by decide +kernel
theorem dd_X1_addPair_40 : decode m_X1_addPair.2.1 40 = .ok (.aload_n 1, 1) := by decide +kernel
theorem dd_X1_addPair_41 : decode m_X1_addPair.2.1 41 = .ok (.iload_n 3, 1) := by decide +kernel
theorem dd_X1_addPair_42 : decode m_X1_addPair.2.1 42 = .ok (.iload 6, 2) := by decide +kernel
theorem dd_X1_addPair_44 : decode m_X1_addPair.2.1 44 = .ok (.invokevirtual 62, 3) := by decide +kernel
theorem dd_X1_addPair_47 : decode m_X1_addPair.2.1 47 = .ok (.if_icmp .eq 15, 3) := by decide +kernel
theorem dd_X1_addPair_50 : decode m_X1_addPair.2.1 50 = .ok (.aload_n 0, 1) := by decide +kernel
theorem dd_X1_addPair_51 : decode m_X1_addPair.2.1 51 = .ok (.getfield 11, 3) := by decide +kernel
theorem dd_X1_addPair_54 : decode m_X1_addPair.2.1 54 = .ok (.iload 6, 2) := by decide +kernel
theorem dd_X1_addPair_56 : decode m_X1_addPair.2.1 56 = .ok (.dup2, 1) := by decide +kernel
theorem dd_X1_addPair_57 : decode m_X1_addPair.2.1 57 = .ok (.laload, 1) := by decide +kernel
theorem dd_X1_addPair_58 : decode m_X1_addPair.2.1 58 = .ok (.lload 4, 2) := by decide +kernel
theorem dd_X1_addPair_60 : decode m_X1_addPair.2.1 60 = .ok (.lor, 1) := by decide +kernel
theorem dd_X1_addPair_61 : decode m_X1_addPair.2.1 61 = .ok (.lastore, 1) := by decide +kernel
theorem dd_X1_addPair_62 : decode m_X1_addPair.2.1 62 = .ok (.iinc 6 1, 3) := by decide +kernel
theorem dd_X1_addPair_65 : decode m_X1_addPair.2.1 65 = .ok (.goto (-41), 3) := by decide +kernel
theorem dd_X1_addPair_68 : decode m_X1_addPair.2.1 68 = .ok (.return_, 1) := by decide +kernel
def nd_X1_addPair_24 (w0 : Nat) (K24 : Int32 → Int32 → Int64 → Int32 → fz_s → Prop) (Q : fz_s → Prop) (v2 : Int32) (v3 : Int32) (v4 : Int64) (v6 : Int32) (s : fz_s) : Prop :=
  ((27 ≤ v6 → Q s) ∧ (¬ 27 ≤ v6 → wp_X1_answer w0 v2 v6 s (fun r1 s2 => wp_X1_answer w0 v3 v6 s2 (fun r3 s4 => (((bi r1) = (bi r3) → ∀ x5 : Int32, x5 = v6 + 1 → K24 v2 v3 v4 x5 s4) ∧ (¬ (bi r1) = (bi r3) → vp_in v6 27 ∧ vp_in v6 27 ∧ ∀ s6 : fz_s, s6 = sl s4 182 v6.toNatClampNeg ((s4.2.1 182 v6.toNatClampNeg) ||| v4) → ∀ x7 : Int32, x7 = v6 + 1 → K24 v2 v3 v4 x7 s6))))))
def lp_X1_addPair_24 (w0 : Nat)  (Q : fz_s → Prop) : Nat → Int32 → Int32 → Int64 → Int32 → fz_s → Prop
  | 0 => fun _ _ _ _ _ => False
  | n + 1 => nd_X1_addPair_24 w0 (lp_X1_addPair_24 w0  Q n) Q
def wp_X1_addPair (w0 : Nat) (p1 : Int32) (p2 : Int32) (s : fz_s) (Q : fz_s → Prop) : Prop :=
  ∀ x1 : Int64, x1 = (fz_lshl 1 ((p1 * 8) + p2)) → ∀ s2 : fz_s, s2 = sl s 181 4 ((s.2.1 181 4) ||| x1) → lp_X1_addPair_24 w0  Q 2048 p1 p2 x1 0 s2
set_option maxRecDepth 100000 in
set_option maxHeartbeats 4000000 in
theorem V_nd_X1_addPair_24 {g : fz_G} {l : Launch} {d : Nat} (hD : 1 ≤ d) {w0 : Nat} (hw0 : fz_at true w0 10 7) {K24 : Int32 → Int32 → Int64 → Int32 → fz_s → Prop} {Q : fz_s → Prop} {v2 : Int32} {v3 : Int32} {v4 : Int64} {v6 : Int32} {s : fz_s} (hK24 : ∀ {v2 : Int32} {v3 : Int32} {v4 : Int64} {v6 : Int32} {s : fz_s}, K24 v2 v3 v4 v6 s → fs_V g l m_X1_addPair d true 24 [.ref 181, .ref w0, .int v2, .int v3, .long v4, fz_J, .int v6] [] s (rV Q)) (H : nd_X1_addPair_24 w0 K24 Q v2 v3 v4 v6 s) : fs_V g l m_X1_addPair d true 24 [.ref 181, .ref w0, .int v2, .int v3, .long v4, fz_J, .int v6] [] s (rV Q) := by
  obtain ⟨d, rfl⟩ : ∃ e, d = e + 1 := ⟨d - 1, by omega⟩
  unfold nd_X1_addPair_24 at H
  refine fs_iload (i := 6) dd_X1_addPair_24 rfl ?_
  refine fs_bipush (n := 27) (v := 27) dd_X1_addPair_26 (by decide) ?_
  refine fs_icmp_ge (tgt := 68) dd_X1_addPair_28 (by decide) (fun hc => ?_) (fun hc => ?_)
  · replace H := H.1 hc
    exact fs_vret dd_X1_addPair_68 rfl H
  · replace H := H.2 hc
    refine fs_aload_n (k0 := 0) (i := 0) dd_X1_addPair_31 rfl rfl ?_
    refine fs_aload_n (k0 := 1) (i := 1) dd_X1_addPair_32 rfl rfl ?_
    refine fs_iload_n (k0 := 2) (i := 2) dd_X1_addPair_33 rfl rfl ?_
    refine fs_iload (i := 6) dd_X1_addPair_34 rfl ?_
    refine fs_callV (y := m_X1_answer) (as := [.ref w0, .int v2, .int v6]) dd_X1_addPair_36 me_X1_answer lk_X1_62 in_X1_answer se_X1_answer ca_181 rfl rfl rfl (Nat.le_of_ble_eq_true rfl) (Nat.le_of_ble_eq_true rfl) rfl (V_X1_answer (by omega) hw0 H) (k2_Z fun r1 s2 H => ?_)
    refine fs_aload_n (k0 := 0) (i := 0) dd_X1_addPair_39 rfl rfl ?_
    refine fs_aload_n (k0 := 1) (i := 1) dd_X1_addPair_40 rfl rfl ?_
    refine fs_iload_n (k0 := 3) (i := 3) dd_X1_addPair_41 rfl rfl ?_
    refine fs_iload (i := 6) dd_X1_addPair_42 rfl ?_
    refine fs_callV (y := m_X1_answer) (as := [.ref w0, .int v3, .int v6]) dd_X1_addPair_44 me_X1_answer lk_X1_62 in_X1_answer se_X1_answer ca_181 rfl rfl rfl (Nat.le_of_ble_eq_true rfl) (Nat.le_of_ble_eq_true rfl) rfl (V_X1_answer (by omega) hw0 H) (k2_Z fun r3 s4 H => ?_)
    refine fs_icmp_eq (tgt := 62) dd_X1_addPair_47 (by decide) (fun hc => ?_) (fun hc => ?_)
    · replace H := H.1 hc
      refine fs_iincN (i := 6) (m := 1) (c := 1) dd_X1_addPair_62 rfl (by decide) (by decide) (fun x5 hx5 => ?_)
      replace H := H x5 hx5
      refine fs_goto (tgt := 24) dd_X1_addPair_65 (by decide) ?_
      refine fs_weak (ls2 := [.ref 181, .ref w0, .int v2, .int v3, .long v4, fz_J, .int x5]) (fz_le_e (fz_le_e (fz_le_e (fz_le_e (fz_le_e (fz_le_j (fz_le_e fz_le_n))))))) ?_
      exact hK24 H
    · replace H := H.2 hc
      refine fs_aload_n (k0 := 0) (i := 0) dd_X1_addPair_50 rfl rfl ?_
      refine fs_getr (ci := 1) (j := 2) (q := 182) dd_X1_addPair_51 fl_X1_11 ca_181 rfl (Or.inr ⟨_, rfl⟩) rfl (by decide) ?_
      refine fs_iload (i := 6) dd_X1_addPair_54 rfl ?_
      refine fs_dup2 dd_X1_addPair_56 rfl rfl ?_
      have hb := H.1
      replace H := H.2
      refine fs_lald dd_X1_addPair_57 ca_182 hb ?_
      refine fs_lload (i := 4) dd_X1_addPair_58 rfl ?_
      refine fs_lor dd_X1_addPair_60 ?_
      have hb := H.1
      replace H := H.2
      refine fs_last dd_X1_addPair_61 ca_182 hb ?_
      refine fs_tops (fun s6 hs6 => ?_)
      replace H := H s6 hs6
      refine fs_iincN (i := 6) (m := 1) (c := 1) dd_X1_addPair_62 rfl (by decide) (by decide) (fun x7 hx7 => ?_)
      replace H := H x7 hx7
      refine fs_goto (tgt := 24) dd_X1_addPair_65 (by decide) ?_
      refine fs_weak (ls2 := [.ref 181, .ref w0, .int v2, .int v3, .long v4, fz_J, .int x7]) (fz_le_e (fz_le_e (fz_le_e (fz_le_e (fz_le_e (fz_le_j (fz_le_e fz_le_n))))))) ?_
      exact hK24 H
set_option maxRecDepth 100000 in
set_option maxHeartbeats 4000000 in
theorem V_lp_X1_addPair_24 {g : fz_G} {l : Launch} {d : Nat} (hD : 1 ≤ d) {w0 : Nat} (hw0 : fz_at true w0 10 7)  {Q : fz_s → Prop}  (n : Nat) : ∀ {v2 : Int32} {v3 : Int32} {v4 : Int64} {v6 : Int32} {s : fz_s}, lp_X1_addPair_24 w0  Q n v2 v3 v4 v6 s → fs_V g l m_X1_addPair d true 24 [.ref 181, .ref w0, .int v2, .int v3, .long v4, fz_J, .int v6] [] s (rV Q) := by
  induction n with
  | zero => intro v2 v3 v4 v6 s H; exact H.elim
  | succ n ih => intro v2 v3 v4 v6 s H; exact V_nd_X1_addPair_24 hD hw0 (fun H => ih H) H
set_option maxRecDepth 100000 in
set_option maxHeartbeats 4000000 in
theorem V_X1_addPair {g : fz_G} {l : Launch} {d : Nat} (hD : 1 ≤ d) {w0 : Nat} {p1 : Int32} {p2 : Int32} (hw0 : fz_at true w0 10 7) {s : fz_s} {Q : fz_s → Prop} (H : wp_X1_addPair w0 p1 p2 s Q) : fs_V g l m_X1_addPair d true 0 (fz_en [.ref 181, .ref w0, .int p1, .int p2] 7) [] s (rV Q) := by
  obtain ⟨d, rfl⟩ : ∃ e, d = e + 1 := ⟨d - 1, by omega⟩
  unfold wp_X1_addPair at H
  refine fs_lconst (n := 1) (v := 1) dd_X1_addPair_0 (by decide) ?_
  refine fs_iload_n (k0 := 2) (i := 2) dd_X1_addPair_1 rfl rfl ?_
  refine fs_bipush (n := 8) (v := 8) dd_X1_addPair_2 (by decide) ?_
  refine fs_imul dd_X1_addPair_4 ?_
  refine fs_iload_n (k0 := 3) (i := 3) dd_X1_addPair_5 rfl rfl ?_
  refine fs_iadd dd_X1_addPair_6 ?_
  refine fs_lshl dd_X1_addPair_7 ?_
  refine fs_topl (fun x1 hx1 => ?_)
  replace H := H x1 hx1
  refine fs_lstore (i := 4) dd_X1_addPair_8 (by decide) ?_
  refine fs_aload_n (k0 := 0) (i := 0) dd_X1_addPair_10 rfl rfl ?_
  refine fs_dup dd_X1_addPair_11 rfl ?_
  refine fs_getl (ci := 1) (j := 4) dd_X1_addPair_12 fl_X1_39 ca_181 rfl rfl ?_
  refine fs_lload (i := 4) dd_X1_addPair_15 rfl ?_
  refine fs_lor dd_X1_addPair_17 ?_
  refine fs_putl (ci := 1) (j := 4) dd_X1_addPair_18 fl_X1_39 (fun _ _ _ h => by cases h; rfl) ca_181 rfl rfl ?_
  refine fs_tops (fun s2 hs2 => ?_)
  replace H := H s2 hs2
  refine fs_iconst (n := 0) (v := 0) dd_X1_addPair_21 (by decide) ?_
  refine fs_istore (i := 6) dd_X1_addPair_22 (by decide) ?_
  refine fs_weak (ls2 := [.ref 181, .ref w0, .int p1, .int p2, .long x1, fz_J, .int 0]) (fz_le_e (fz_le_e (fz_le_e (fz_le_e (fz_le_e (fz_le_j (fz_le_e fz_le_n))))))) ?_
  exact V_lp_X1_addPair_24 hD  hw0  2048 H

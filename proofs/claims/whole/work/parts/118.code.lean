theorem dd_X12_gain_0 : decode m_X12_gain.2.1 0 = .ok (.aload_n 0, 1) := by decide +kernel
theorem dd_X12_gain_1 : decode m_X12_gain.2.1 1 = .ok (.iload_n 3, 1) := by decide +kernel
theorem dd_X12_gain_2 : decode m_X12_gain.2.1 2 = .ok (.i2l, 1) := by decide +kernel
theorem dd_X12_gain_3 : decode m_X12_gain.2.1 3 = .ok (.invokevirtual 509, 3) := by decide +kernel
theorem dd_X12_gain_6 : decode m_X12_gain.2.1 6 = .ok (.ifCond .eq 31, 3) := by decide +kernel
theorem dd_X12_gain_9 : decode m_X12_gain.2.1 9 = .ok (.aload_n 0, 1) := by decide +kernel
theorem dd_X12_gain_10 : decode m_X12_gain.2.1 10 = .ok (.iconst 1, 1) := by decide +kernel
theorem dd_X12_gain_11 : decode m_X12_gain.2.1 11 = .ok (.iconst 1, 1) := by decide +kernel
theorem dd_X12_gain_12 : decode m_X12_gain.2.1 12 = .ok (.iconst 1, 1) := by decide +kernel
theorem dd_X12_gain_13 : decode m_X12_gain.2.1 13 = .ok (.invokevirtual 525, 3) := by decide +kernel
theorem dd_X12_gain_16 : decode m_X12_gain.2.1 16 = .ok (.ifCond .eq 21, 3) := by decide +kernel
theorem dd_X12_gain_19 : decode m_X12_gain.2.1 19 = .ok (.aload_n 0, 1) := by decide +kernel
theorem dd_X12_gain_20 : decode m_X12_gain.2.1 20 = .ok (.iload_n 1, 1) := by decide +kernel
theorem dd_X12_gain_21 : decode m_X12_gain.2.1 21 = .ok (.iconst 0, 1) := by decide +kernel
theorem dd_X12_gain_22 : decode m_X12_gain.2.1 22 = .ok (.invokevirtual 445, 3) := by decide +kernel
theorem dd_X12_gain_25 : decode m_X12_gain.2.1 25 = .ok (.ifCond .eq 12, 3) := by decide +kernel
theorem dd_X12_gain_28 : decode m_X12_gain.2.1 28 = .ok (.aload_n 0, 1) := by decide +kernel
theorem dd_X12_gain_29 : decode m_X12_gain.2.1 29 = .ok (.iload_n 2, 1) := by decide +kernel
theorem dd_X12_gain_30 : decode m_X12_gain.2.1 30 = .ok (.iconst 1, 1) := by decide +kernel
theorem dd_X12_gain_31 : decode m_X12_gain.2.1 31 = .ok (.invokevirtual 445, 3) := by decide +kernel
theorem dd_X12_gain_34 : decode m_X12_gain.2.1 34 = .ok (.ifCond .ne 7, 3) := by decide +kernel
theorem dd_X12_gain_37 : decode m_X12_gain.2.1 37 = .ok (.ldc2_w 521, 3) := by decide +kernel
theorem dd_X12_gain_40 : decode m_X12_gain.2.1 40 = .ok (.lreturn, 1) := by decide +kernel
theorem dd_X12_gain_41 : decode m_X12_gain.2.1 41 = .ok (.aload_n 0, 1) := by decide +kernel
theorem dd_X12_gain_42 : decode m_X12_gain.2.1 42 = .ok (.invokevirtual 541, 3) := by decide +kernel
theorem dd_X12_gain_45 : decode m_X12_gain.2.1 45 = .ok (.aload_n 0, 1) := by decide +kernel
theorem dd_X12_gain_46 : decode m_X12_gain.2.1 46 = .ok (.iload_n 1, 1) := by decide +kernel
theorem dd_X12_gain_47 : decode m_X12_gain.2.1 47 = .ok (.iload_n 2, 1) := by decide +kernel
theorem dd_X12_gain_48 : decode m_X12_gain.2.1 48 = .ok (.iload_n 3, 1) := by decide +kernel
theorem dd_X12_gain_49 : decode m_X12_gain.2.1 49 = .ok (.invokevirtual 544, 3) := by decide +kernel
theorem dd_X12_gain_52 : decode m_X12_gain.2.1 52 = .ok (.i2l, 1) := by decide +kernel
theorem dd_X12_gain_53 : decode m_X12_gain.2.1 53 = .ok (.lreturn, 1) := by decide +kernel
def wp_X12_gain (p0 : Int32) (p1 : Int32) (p2 : Int32) (s : fz_s) (Q : Int64 → fz_s → Prop) : Prop :=
  wp_X12_isVillage p2.toInt64 s (fun r1 s2 => ((r1 = false → Q (-1000000000000000) s2) ∧ (r1 = true → wp_X12_isAhead 1 1 1 s2 (fun r3 s4 => ((r3 = false → Q (-1000000000000000) s4) ∧ (r3 = true → wp_X12_isOwnIn p0 0 s4 (fun r5 s6 => ((r5 = false → Q (-1000000000000000) s6) ∧ (r5 = true → wp_X12_isOwnIn p1 1 s6 (fun r7 s8 => ((r7 = true → wp_X12_laysHarvests  s8 (fun s10 => wp_X12_gainOf p0 p1 p2 s10 (fun r11 s12 => Q r11.toInt64 s12))) ∧ (r7 = false → Q (-1000000000000000) s8))))))))))))
set_option maxRecDepth 100000 in
set_option maxHeartbeats 4000000 in
theorem V_X12_gain {g : fz_G} {l : Launch} {d : Nat} (hD : 9 ≤ d) {p0 : Int32} {p1 : Int32} {p2 : Int32}  {s : fz_s} {Q : Int64 → fz_s → Prop} (H : wp_X12_gain p0 p1 p2 s Q) : fs_V g l m_X12_gain d false 0 (fz_en [.ref 196, .int p0, .int p1, .int p2] 4) [] s (rL Q) := by
  obtain ⟨d, rfl⟩ : ∃ e, d = e + 1 := ⟨d - 1, by omega⟩
  unfold wp_X12_gain at H
  refine fs_aload_n (k0 := 0) (i := 0) dd_X12_gain_0 rfl rfl ?_
  refine fs_iload_n (k0 := 3) (i := 3) dd_X12_gain_1 rfl rfl ?_
  refine fs_i2l dd_X12_gain_2 ?_
  refine fs_callV (y := m_X12_isVillage) (as := [.long p2.toInt64]) dd_X12_gain_3 me_X12_isVillage lk_X12_509 in_X12_isVillage se_X12_isVillage ca_196 rfl rfl rfl (Nat.le_of_ble_eq_true rfl) (Nat.le_of_ble_eq_true rfl) rfl (V_X12_isVillage (by omega)  H) (k2_Z fun r1 s2 H => ?_)
  refine fs_if_eq (tgt := 37) dd_X12_gain_6 (by decide) (fun hc => ?_) (fun hc => ?_)
  · replace H := H.1 (bi_0 hc)
    refine fs_ldc2 (idx := 521) (v := -1000000000000000) dd_X12_gain_37 cl_X12_521 ?_
    exact fs_lret dd_X12_gain_40 rfl H
  · replace H := H.2 (bi_1 hc)
    refine fs_aload_n (k0 := 0) (i := 0) dd_X12_gain_9 rfl rfl ?_
    refine fs_iconst (n := 1) (v := 1) dd_X12_gain_10 (by decide) ?_
    refine fs_iconst (n := 1) (v := 1) dd_X12_gain_11 (by decide) ?_
    refine fs_iconst (n := 1) (v := 1) dd_X12_gain_12 (by decide) ?_
    refine fs_callV (y := m_X12_isAhead) (as := [.int 1, .int 1, .int 1]) dd_X12_gain_13 me_X12_isAhead lk_X12_525 in_X12_isAhead se_X12_isAhead ca_196 rfl rfl rfl (Nat.le_of_ble_eq_true rfl) (Nat.le_of_ble_eq_true rfl) rfl (V_X12_isAhead (by omega)  H) (k2_Z fun r3 s4 H => ?_)
    refine fs_if_eq (tgt := 37) dd_X12_gain_16 (by decide) (fun hc => ?_) (fun hc => ?_)
    · replace H := H.1 (bi_0 hc)
      refine fs_ldc2 (idx := 521) (v := -1000000000000000) dd_X12_gain_37 cl_X12_521 ?_
      exact fs_lret dd_X12_gain_40 rfl H
    · replace H := H.2 (bi_1 hc)
      refine fs_aload_n (k0 := 0) (i := 0) dd_X12_gain_19 rfl rfl ?_
      refine fs_iload_n (k0 := 1) (i := 1) dd_X12_gain_20 rfl rfl ?_
      refine fs_iconst (n := 0) (v := 0) dd_X12_gain_21 (by decide) ?_
      refine fs_callV (y := m_X12_isOwnIn) (as := [.int p0, .int 0]) dd_X12_gain_22 me_X12_isOwnIn lk_X12_445 in_X12_isOwnIn se_X12_isOwnIn ca_196 rfl rfl rfl (Nat.le_of_ble_eq_true rfl) (Nat.le_of_ble_eq_true rfl) rfl (V_X12_isOwnIn (by omega)  H) (k2_Z fun r5 s6 H => ?_)
      refine fs_if_eq (tgt := 37) dd_X12_gain_25 (by decide) (fun hc => ?_) (fun hc => ?_)
      · replace H := H.1 (bi_0 hc)
        refine fs_ldc2 (idx := 521) (v := -1000000000000000) dd_X12_gain_37 cl_X12_521 ?_
        exact fs_lret dd_X12_gain_40 rfl H
      · replace H := H.2 (bi_1 hc)
        refine fs_aload_n (k0 := 0) (i := 0) dd_X12_gain_28 rfl rfl ?_
        refine fs_iload_n (k0 := 2) (i := 2) dd_X12_gain_29 rfl rfl ?_
        refine fs_iconst (n := 1) (v := 1) dd_X12_gain_30 (by decide) ?_
        refine fs_callV (y := m_X12_isOwnIn) (as := [.int p1, .int 1]) dd_X12_gain_31 me_X12_isOwnIn lk_X12_445 in_X12_isOwnIn se_X12_isOwnIn ca_196 rfl rfl rfl (Nat.le_of_ble_eq_true rfl) (Nat.le_of_ble_eq_true rfl) rfl (V_X12_isOwnIn (by omega)  H) (k2_Z fun r7 s8 H => ?_)
        refine fs_if_ne (tgt := 41) dd_X12_gain_34 (by decide) (fun hc => ?_) (fun hc => ?_)
        · replace H := H.1 (bi_1 hc)
          refine fs_aload_n (k0 := 0) (i := 0) dd_X12_gain_41 rfl rfl ?_
          refine fs_callV (y := m_X12_laysHarvests) (as := []) dd_X12_gain_42 me_X12_laysHarvests lk_X12_541 in_X12_laysHarvests se_X12_laysHarvests ca_196 rfl rfl rfl (Nat.le_of_ble_eq_true rfl) (Nat.le_of_ble_eq_true rfl) rfl (V_X12_laysHarvests (by omega)  H) (k2_V fun s10 H => ?_)
          refine fs_aload_n (k0 := 0) (i := 0) dd_X12_gain_45 rfl rfl ?_
          refine fs_iload_n (k0 := 1) (i := 1) dd_X12_gain_46 rfl rfl ?_
          refine fs_iload_n (k0 := 2) (i := 2) dd_X12_gain_47 rfl rfl ?_
          refine fs_iload_n (k0 := 3) (i := 3) dd_X12_gain_48 rfl rfl ?_
          refine fs_callV (y := m_X12_gainOf) (as := [.int p0, .int p1, .int p2]) dd_X12_gain_49 me_X12_gainOf lk_X12_544 in_X12_gainOf se_X12_gainOf ca_196 rfl rfl rfl (Nat.le_of_ble_eq_true rfl) (Nat.le_of_ble_eq_true rfl) rfl (V_X12_gainOf (by omega)  H) (k2_I fun r11 s12 H => ?_)
          refine fs_i2l dd_X12_gain_52 ?_
          exact fs_lret dd_X12_gain_53 rfl H
        · replace H := H.2 (bi_0 hc)
          refine fs_ldc2 (idx := 521) (v := -1000000000000000) dd_X12_gain_37 cl_X12_521 ?_
          exact fs_lret dd_X12_gain_40 rfl H
theorem dd_X12_bargain_0 : decode m_X12_bargain.2.1 0 = .ok (.aload_n 0, 1) := by decide +kernel
theorem dd_X12_bargain_1 : decode m_X12_bargain.2.1 1 = .ok (.iconst 1, 1) := by decide +kernel
theorem dd_X12_bargain_2 : decode m_X12_bargain.2.1 2 = .ok (.iconst 1, 1) := by decide +kernel
theorem dd_X12_bargain_3 : decode m_X12_bargain.2.1 3 = .ok (.iconst 1, 1) := by decide +kernel
theorem dd_X12_bargain_4 : decode m_X12_bargain.2.1 4 = .ok (.invokevirtual 525, 3) := by decide +kernel
theorem dd_X12_bargain_7 : decode m_X12_bargain.2.1 7 = .ok (.ifCond .eq 15, 3) := by decide +kernel
theorem dd_X12_bargain_10 : decode m_X12_bargain.2.1 10 = .ok (.iload_n 1, 1) := by decide +kernel
theorem dd_X12_bargain_11 : decode m_X12_bargain.2.1 11 = .ok (.i2l, 1) := by decide +kernel
theorem dd_X12_bargain_12 : decode m_X12_bargain.2.1 12 = .ok (.lconst 0, 1) := by decide +kernel
theorem dd_X12_bargain_13 : decode m_X12_bargain.2.1 13 = .ok (.ldc2_w 523, 3) := by decide +kernel
theorem dd_X12_bargain_16 : decode m_X12_bargain.2.1 16 = .ok (.invokestatic 295, 3) := by decide +kernel
theorem dd_X12_bargain_19 : decode m_X12_bargain.2.1 19 = .ok (.ifCond .ne 5, 3) := by decide +kernel
theorem dd_X12_bargain_22 : decode m_X12_bargain.2.1 22 = .ok (.iconst (-1), 1) := by decide +kernel
theorem dd_X12_bargain_23 : decode m_X12_bargain.2.1 23 = .ok (.ireturn, 1) := by decide +kernel
theorem dd_X12_bargain_24 : decode m_X12_bargain.2.1 24 = .ok (.aload_n 0, 1) := by decide +kernel
theorem dd_X12_bargain_25 : decode m_X12_bargain.2.1 25 = .ok (.invokevirtual 541, 3) := by decide +kernel
theorem dd_X12_bargain_28 : decode m_X12_bargain.2.1 28 = .ok (.iconst (-1), 1) := by decide +kernel
theorem dd_X12_bargain_29 : decode m_X12_bargain.2.1 29 = .ok (.istore_n 2, 1) := by decide +kernel
theorem dd_X12_bargain_30 : decode m_X12_bargain.2.1 30 = .ok (.iconst (-1), 1) := by decide +kernel
theorem dd_X12_bargain_31 : decode m_X12_bargain.2.1 31 = .ok (.istore_n 3, 1) := by decide +kernel
theorem dd_X12_bargain_32 : decode m_X12_bargain.2.1 32 = .ok (.iconst 0, 1) := by decide +kernel
theorem dd_X12_bargain_33 : decode m_X12_bargain.2.1 33 = .ok (.istore 4, 2) := by decide +kernel
theorem dd_X12_bargain_35 : decode m_X12_bargain.2.1 35 = .ok (.iconst 0, 1) := by decide +kernel
theorem dd_X12_bargain_36 : decode m_X12_bargain.2.1 36 = .ok (.istore 5, 2) := by decide +kernel
theorem dd_X12_bargain_38 : decode m_X12_bargain.2.1 38 = .ok (.iload 5, 2) := by decide +kernel
theorem dd_X12_bargain_40 : decode m_X12_bargain.2.1 40 = .ok (.aload_n 0, 1) := by decide +kernel
theorem dd_X12_bargain_41 : decode m_X12_bargain.2.1 41 = .ok (.invokevirtual 402, 3) := by decide +kernel
theorem dd_X12_bargain_44 : decode m_X12_bargain.2.1 44 = .ok (.if_icmp .ge 108, 3) := by decide +kernel
theorem dd_X12_bargain_47 : decode m_X12_bargain.2.1 47 = .ok (.iconst 0, 1) := by decide +kernel
theorem dd_X12_bargain_48 : decode m_X12_bargain.2.1 48 = .ok (.istore 6, 2) := by decide +kernel
theorem dd_X12_bargain_50 : decode m_X12_bargain.2.1 50 = .ok (.iload 6, 2) := by decide +kernel
theorem dd_X12_bargain_52 : decode m_X12_bargain.2.1 52 = .ok (.aload_n 0, 1) := by decide +kernel
theorem dd_X12_bargain_53 : decode m_X12_bargain.2.1 53 = .ok (.invokevirtual 402, 3) := by decide +kernel
theorem dd_X12_bargain_56 : decode m_X12_bargain.2.1 56 = .ok (.if_icmp .ge 90, 3) := by decide +kernel
theorem dd_X12_bargain_59 : decode m_X12_bargain.2.1 59 = .ok (.aload_n 0, 1) := by decide +kernel
theorem dd_X12_bargain_60 : decode m_X12_bargain.2.1 60 = .ok (.iload 5, 2) := by decide +kernel
theorem dd_X12_bargain_62 : decode m_X12_bargain.2.1 62 = .ok (.iconst 0, 1) := by decide +kernel
theorem dd_X12_bargain_63 : decode m_X12_bargain.2.1 63 = .ok (.invokevirtual 445, 3) := by decide +kernel
theorem dd_X12_bargain_66 : decode m_X12_bargain.2.1 66 = .ok (.ifCond .eq 74, 3) := by decide +kernel
theorem dd_X12_bargain_69 : decode m_X12_bargain.2.1 69 = .ok (.aload_n 0, 1) := by decide +kernel
theorem dd_X12_bargain_70 : decode m_X12_bargain.2.1 70 = .ok (.iload 6, 2) := by decide +kernel
theorem dd_X12_bargain_72 : decode m_X12_bargain.2.1 72 = .ok (.iconst 1, 1) := by decide +kernel
theorem dd_X12_bargain_73 : decode m_X12_bargain.2.1 73 = .ok (.invokevirtual 445, 3) := by decide +kernel
theorem dd_X12_bargain_76 : decode m_X12_bargain.2.1 76 = .ok (.ifCond .ne 6, 3) := by decide +kernel
theorem dd_X12_bargain_79 : decode m_X12_bargain.2.1 79 = .ok (.goto 61, 3) := by decide +kernel
theorem dd_X12_bargain_82 : decode m_X12_bargain.2.1 82 = .ok (.aload_n 0, 1) := by decide +kernel
theorem dd_X12_bargain_83 : decode m_X12_bargain.2.1 83 = .ok (.iload 5, 2) := by decide +kernel
theorem dd_X12_bargain_85 : decode m_X12_bargain.2.1 85 = .ok (.iload 6, 2) := by decide +kernel
theorem dd_X12_bargain_87 : decode m_X12_bargain.2.1 87 = .ok (.iconst 0, 1) := by decide +kernel
theorem dd_X12_bargain_88 : decode m_X12_bargain.2.1 88 = .ok (.invokevirtual 544, 3) := by decide +kernel
theorem dd_X12_bargain_91 : decode m_X12_bargain.2.1 91 = .ok (.istore 7, 2) := by decide +kernel
theorem dd_X12_bargain_93 : decode m_X12_bargain.2.1 93 = .ok (.aload_n 0, 1) := by decide +kernel
theorem dd_X12_bargain_94 : decode m_X12_bargain.2.1 94 = .ok (.iload 5, 2) := by decide +kernel
theorem dd_X12_bargain_96 : decode m_X12_bargain.2.1 96 = .ok (.iload 6, 2) := by decide +kernel
theorem dd_X12_bargain_98 : decode m_X12_bargain.2.1 98 = .ok (.iconst 1, 1) := by decide +kernel
theorem dd_X12_bargain_99 : decode m_X12_bargain.2.1 99 = .ok (.invokevirtual 544, 3) := by decide +kernel
theorem dd_X12_bargain_102 : decode m_X12_bargain.2.1 102 = .ok (.istore 8, 2) := by decide +kernel
theorem dd_X12_bargain_104 : decode m_X12_bargain.2.1 104 = .ok (.iload 7, 2) := by decide +kernel
theorem dd_X12_bargain_106 : decode m_X12_bargain.2.1 106 = .ok (.iload 8, 2) := by decide +kernel
theorem dd_X12_bargain_108 : decode m_X12_bargain.2.1 108 = .ok (.if_icmp .ge 8, 3) := by decide +kernel
theorem dd_X12_bargain_111 : decode m_X12_bargain.2.1 111 = .ok (.iload 7, 2) := by decide +kernel
theorem dd_X12_bargain_113 : decode m_X12_bargain.2.1 113 = .ok (.goto 5, 3) := by decide +kernel
theorem dd_X12_bargain_116 : decode m_X12_bargain.2.1 116 = .ok (.iload 8, 2) := by decide +kernel
theorem dd_X12_bargain_118 : decode m_X12_bargain.2.1 118 = .ok (.istore 9, 2) := by decide +kernel
theorem dd_X12_bargain_120 : decode m_X12_bargain.2.1 120 = .ok (.iload 9, 2) := by decide +kernel
theorem dd_X12_bargain_122 : decode m_X12_bargain.2.1 122 = .ok (.iload 4, 2) := by decide +kernel
theorem dd_X12_bargain_124 : decode m_X12_bargain.2.1 124 = .ok (.if_icmp .gt 6, 3) := by decide +kernel
theorem dd_X12_bargain_127 : decode m_X12_bargain.2.1 127 = .ok (.goto 13, 3) := by decide +kernel
theorem dd_X12_bargain_130 : decode m_X12_bargain.2.1 130 = .ok (.iload 9, 2) := by decide +kernel
theorem dd_X12_bargain_132 : decode m_X12_bargain.2.1 132 = .ok (.istore 4, 2) := by decide +kernel
theorem dd_X12_bargain_134 : decode m_X12_bargain.2.1 134 = .ok (.iload 5, 2) := by decide +kernel
theorem dd_X12_bargain_136 : decode m_X12_bargain.2.1 136 = .ok (.istore_n 2, 1) := by decide +kernel
theorem dd_X12_bargain_137 : decode m_X12_bargain.2.1 137 = .ok (.iload 6, 2) := by decide +kernel
theorem dd_X12_bargain_139 : decode m_X12_bargain.2.1 139 = .ok (.istore_n 3, 1) := by decide +kernel
theorem dd_X12_bargain_140 : decode m_X12_bargain.2.1 140 = .ok (.iinc 6 1, 3) := by decide +kernel
theorem dd_X12_bargain_143 : decode m_X12_bargain.2.1 143 = .ok (.goto (-93), 3) := by decide +kernel
theorem dd_X12_bargain_146 : decode m_X12_bargain.2.1 146 = .ok (.iinc 5 1, 3) := by decide +kernel
theorem dd_X12_bargain_149 : decode m_X12_bargain.2.1 149 = .ok (.goto (-111), 3) := by decide +kernel
theorem dd_X12_bargain_152 : decode m_X12_bargain.2.1 152 = .ok (.iload_n 2, 1) := by decide +kernel
theorem dd_X12_bargain_153 : decode m_X12_bargain.2.1 153 = .ok (.iconst (-1), 1) := by decide +kernel
theorem dd_X12_bargain_154 : decode m_X12_bargain.2.1 154 = .ok (.if_icmp .ne 7, 3) := by decide +kernel
theorem dd_X12_bargain_157 : decode m_X12_bargain.2.1 157 = .ok (.iconst (-1), 1) := by decide +kernel
theorem dd_X12_bargain_158 : decode m_X12_bargain.2.1 158 = .ok (.goto 22, 3) := by decide +kernel
theorem dd_X12_bargain_161 : decode m_X12_bargain.2.1 161 = .ok (.iload_n 1, 1) := by decide +kernel
theorem dd_X12_bargain_162 : decode m_X12_bargain.2.1 162 = .ok (.ifCond .ne 7, 3) := by decide +kernel
theorem dd_X12_bargain_165 : decode m_X12_bargain.2.1 165 = .ok (.iload_n 2, 1) := by decide +kernel
theorem dd_X12_bargain_166 : decode m_X12_bargain.2.1 166 = .ok (.goto 14, 3) := by decide +kernel
theorem dd_X12_bargain_169 : decode m_X12_bargain.2.1 169 = .ok (.iload_n 1, 1) := by decide +kernel
theorem dd_X12_bargain_170 : decode m_X12_bargain.2.1 170 = .ok (.iconst 1, 1) := by decide +kernel
theorem dd_X12_bargain_171 : decode m_X12_bargain.2.1 171 = .ok (.if_icmp .ne 7, 3) := by decide +kernel
theorem dd_X12_bargain_174 : decode m_X12_bargain.2.1 174 = .ok (.iload_n 3, 1) := by decide +kernel
theorem dd_X12_bargain_175 : decode m_X12_bargain.2.1 175 = .ok (.goto 5, 3) := by decide +kernel
theorem dd_X12_bargain_178 : decode m_X12_bargain.2.1 178 = .ok (.iload 4, 2) := by decide +kernel
theorem dd_X12_bargain_180 : decode m_X12_bargain.2.1 180 = .ok (.ireturn, 1) := by decide +kernel
def nd_X12_bargain_118  (K38 : Int32 → Int32 → Int32 → Int32 → Int32 → fz_s → Prop) (K50 : Int32 → Int32 → Int32 → Int32 → Int32 → Int32 → fz_s → Prop) (Q : Int32 → fz_s → Prop) (v1 : Int32) (v2 : Int32) (v3 : Int32) (v4 : Int32) (v5 : Int32) (v6 : Int32) (u0 : Int32) (s : fz_s) : Prop :=
  ((v4 < u0 → ∀ x1 : Int32, x1 = v6 + 1 → K50 v1 v5 v6 u0 v5 x1 s) ∧ (¬ v4 < u0 → ∀ x2 : Int32, x2 = v6 + 1 → K50 v1 v2 v3 v4 v5 x2 s))
def nd_X12_bargain_50  (K38 : Int32 → Int32 → Int32 → Int32 → Int32 → fz_s → Prop) (K50 : Int32 → Int32 → Int32 → Int32 → Int32 → Int32 → fz_s → Prop) (Q : Int32 → fz_s → Prop) (v1 : Int32) (v2 : Int32) (v3 : Int32) (v4 : Int32) (v5 : Int32) (v6 : Int32) (s : fz_s) : Prop :=
  wp_X12_personMany  s (fun r1 s2 => ((r1 ≤ v6 → ∀ x3 : Int32, x3 = v5 + 1 → K38 v1 v2 v3 v4 x3 s2) ∧ (¬ r1 ≤ v6 → wp_X12_isOwnIn v5 0 s2 (fun r4 s5 => ((r4 = false → ∀ x6 : Int32, x6 = v6 + 1 → K50 v1 v2 v3 v4 v5 x6 s5) ∧ (r4 = true → wp_X12_isOwnIn v6 1 s5 (fun r7 s8 => ((r7 = true → wp_X12_gainOf v5 v6 0 s8 (fun r9 s10 => wp_X12_gainOf v5 v6 1 s10 (fun r11 s12 => ((r11 ≤ r9 → nd_X12_bargain_118  K38 K50 Q v1 v2 v3 v4 v5 v6 r11 s12) ∧ (¬ r11 ≤ r9 → nd_X12_bargain_118  K38 K50 Q v1 v2 v3 v4 v5 v6 r9 s12))))) ∧ (r7 = false → ∀ x13 : Int32, x13 = v6 + 1 → K50 v1 v2 v3 v4 v5 x13 s8)))))))))
def lp_X12_bargain_50  (K38 : Int32 → Int32 → Int32 → Int32 → Int32 → fz_s → Prop) (Q : Int32 → fz_s → Prop) : Nat → Int32 → Int32 → Int32 → Int32 → Int32 → Int32 → fz_s → Prop
  | 0 => fun _ _ _ _ _ _ _ => False
  | n + 1 => nd_X12_bargain_50  K38 (lp_X12_bargain_50  K38 Q n) Q
def nd_X12_bargain_38  (K38 : Int32 → Int32 → Int32 → Int32 → Int32 → fz_s → Prop) (Q : Int32 → fz_s → Prop) (v1 : Int32) (v2 : Int32) (v3 : Int32) (v4 : Int32) (v5 : Int32) (s : fz_s) : Prop :=
  wp_X12_personMany  s (fun r1 s2 => ((r1 ≤ v5 → ((¬ v2 = (-1) → ((¬ v1 = 0 → ((¬ v1 = 1 → Q v4 s2) ∧ (v1 = 1 → Q v3 s2))) ∧ (v1 = 0 → Q v2 s2))) ∧ (v2 = (-1) → Q (-1) s2))) ∧ (¬ r1 ≤ v5 → lp_X12_bargain_50  K38 Q 2048 v1 v2 v3 v4 v5 0 s2)))
def lp_X12_bargain_38   (Q : Int32 → fz_s → Prop) : Nat → Int32 → Int32 → Int32 → Int32 → Int32 → fz_s → Prop
  | 0 => fun _ _ _ _ _ _ => False
  | n + 1 => nd_X12_bargain_38  (lp_X12_bargain_38   Q n) Q
def wp_X12_bargain (p0 : Int32) (s : fz_s) (Q : Int32 → fz_s → Prop) : Prop :=
  wp_X12_isAhead 1 1 1 s (fun r1 s2 => ((r1 = false → Q (-1) s2) ∧ (r1 = true → wp_X12_isIn p0.toInt64 0 2 s2 (fun r3 s4 => ((r3 = true → wp_X12_laysHarvests  s4 (fun s6 => lp_X12_bargain_38   Q 2048 p0 (-1) (-1) 0 0 s6)) ∧ (r3 = false → Q (-1) s4))))))
set_option maxRecDepth 100000 in
set_option maxHeartbeats 4000000 in
theorem V_nd_X12_bargain_118 {g : fz_G} {l : Launch} {d : Nat} (hD : 9 ≤ d)   {K38 : Int32 → Int32 → Int32 → Int32 → Int32 → fz_s → Prop} {K50 : Int32 → Int32 → Int32 → Int32 → Int32 → Int32 → fz_s → Prop} {Q : Int32 → fz_s → Prop} {v1 : Int32} {v2 : Int32} {v3 : Int32} {v4 : Int32} {v5 : Int32} {v6 : Int32} {u0 : Int32} {s : fz_s} (hK38 : ∀ {v1 : Int32} {v2 : Int32} {v3 : Int32} {v4 : Int32} {v5 : Int32} {s : fz_s}, K38 v1 v2 v3 v4 v5 s → fs_V g l m_X12_bargain d false 38 [.ref 196, .int v1, .int v2, .int v3, .int v4, .int v5, fz_J, fz_J, fz_J, fz_J] [] s (rI Q)) (hK50 : ∀ {v1 : Int32} {v2 : Int32} {v3 : Int32} {v4 : Int32} {v5 : Int32} {v6 : Int32} {s : fz_s}, K50 v1 v2 v3 v4 v5 v6 s → fs_V g l m_X12_bargain d false 50 [.ref 196, .int v1, .int v2, .int v3, .int v4, .int v5, .int v6, fz_J, fz_J, fz_J] [] s (rI Q)) (H : nd_X12_bargain_118  K38 K50 Q v1 v2 v3 v4 v5 v6 u0 s) : fs_V g l m_X12_bargain d false 118 [.ref 196, .int v1, .int v2, .int v3, .int v4, .int v5, .int v6, fz_J, fz_J, fz_J] [.int u0] s (rI Q) := by
  obtain ⟨d, rfl⟩ : ∃ e, d = e + 1 := ⟨d - 1, by omega⟩
  unfold nd_X12_bargain_118 at H
  refine fs_istore (i := 9) dd_X12_bargain_118 (by decide) ?_
  refine fs_iload (i := 9) dd_X12_bargain_120 rfl ?_
  refine fs_iload (i := 4) dd_X12_bargain_122 rfl ?_
  refine fs_icmp_gt (tgt := 130) dd_X12_bargain_124 (by decide) (fun hc => ?_) (fun hc => ?_)
  · replace H := H.1 hc
    refine fs_iload (i := 9) dd_X12_bargain_130 rfl ?_
    refine fs_istore (i := 4) dd_X12_bargain_132 (by decide) ?_
    refine fs_iload (i := 5) dd_X12_bargain_134 rfl ?_
    refine fs_istore_n (k0 := 2) (i := 2) dd_X12_bargain_136 rfl (by decide) ?_
    refine fs_iload (i := 6) dd_X12_bargain_137 rfl ?_
    refine fs_istore_n (k0 := 3) (i := 3) dd_X12_bargain_139 rfl (by decide) ?_
    refine fs_iincN (i := 6) (m := 1) (c := 1) dd_X12_bargain_140 rfl (by decide) (by decide) (fun x1 hx1 => ?_)
    replace H := H x1 hx1
    refine fs_goto (tgt := 50) dd_X12_bargain_143 (by decide) ?_
    refine fs_weak (ls2 := [.ref 196, .int v1, .int v5, .int v6, .int u0, .int v5, .int x1, fz_J, fz_J, fz_J]) (fz_le_e (fz_le_e (fz_le_e (fz_le_e (fz_le_e (fz_le_e (fz_le_e (fz_le_j (fz_le_j (fz_le_j fz_le_n)))))))))) ?_
    exact hK50 H
  · replace H := H.2 hc
    refine fs_goto (tgt := 140) dd_X12_bargain_127 (by decide) ?_
    refine fs_iincN (i := 6) (m := 1) (c := 1) dd_X12_bargain_140 rfl (by decide) (by decide) (fun x2 hx2 => ?_)
    replace H := H x2 hx2
    refine fs_goto (tgt := 50) dd_X12_bargain_143 (by decide) ?_
    refine fs_weak (ls2 := [.ref 196, .int v1, .int v2, .int v3, .int v4, .int v5, .int x2, fz_J, fz_J, fz_J]) (fz_le_e (fz_le_e (fz_le_e (fz_le_e (fz_le_e (fz_le_e (fz_le_e (fz_le_j (fz_le_j (fz_le_j fz_le_n)))))))))) ?_
    exact hK50 H
set_option maxRecDepth 100000 in
set_option maxHeartbeats 4000000 in
theorem V_nd_X12_bargain_50 {g : fz_G} {l : Launch} {d : Nat} (hD : 9 ≤ d)   {K38 : Int32 → Int32 → Int32 → Int32 → Int32 → fz_s → Prop} {K50 : Int32 → Int32 → Int32 → Int32 → Int32 → Int32 → fz_s → Prop} {Q : Int32 → fz_s → Prop} {v1 : Int32} {v2 : Int32} {v3 : Int32} {v4 : Int32} {v5 : Int32} {v6 : Int32} {s : fz_s} (hK38 : ∀ {v1 : Int32} {v2 : Int32} {v3 : Int32} {v4 : Int32} {v5 : Int32} {s : fz_s}, K38 v1 v2 v3 v4 v5 s → fs_V g l m_X12_bargain d false 38 [.ref 196, .int v1, .int v2, .int v3, .int v4, .int v5, fz_J, fz_J, fz_J, fz_J] [] s (rI Q)) (hK50 : ∀ {v1 : Int32} {v2 : Int32} {v3 : Int32} {v4 : Int32} {v5 : Int32} {v6 : Int32} {s : fz_s}, K50 v1 v2 v3 v4 v5 v6 s → fs_V g l m_X12_bargain d false 50 [.ref 196, .int v1, .int v2, .int v3, .int v4, .int v5, .int v6, fz_J, fz_J, fz_J] [] s (rI Q)) (H : nd_X12_bargain_50  K38 K50 Q v1 v2 v3 v4 v5 v6 s) : fs_V g l m_X12_bargain d false 50 [.ref 196, .int v1, .int v2, .int v3, .int v4, .int v5, .int v6, fz_J, fz_J, fz_J] [] s (rI Q) := by
  obtain ⟨d, rfl⟩ : ∃ e, d = e + 1 := ⟨d - 1, by omega⟩
  unfold nd_X12_bargain_50 at H
  refine fs_iload (i := 6) dd_X12_bargain_50 rfl ?_
  refine fs_aload_n (k0 := 0) (i := 0) dd_X12_bargain_52 rfl rfl ?_
  refine fs_callV (y := m_X12_personMany) (as := []) dd_X12_bargain_53 me_X12_personMany lk_X12_402 in_X12_personMany se_X12_personMany ca_196 rfl rfl rfl (Nat.le_of_ble_eq_true rfl) (Nat.le_of_ble_eq_true rfl) rfl (V_X12_personMany (by omega)  H) (k2_I fun r1 s2 H => ?_)
  refine fs_icmp_ge (tgt := 146) dd_X12_bargain_56 (by decide) (fun hc => ?_) (fun hc => ?_)
  · replace H := H.1 hc
    refine fs_iincN (i := 5) (m := 1) (c := 1) dd_X12_bargain_146 rfl (by decide) (by decide) (fun x3 hx3 => ?_)
    replace H := H x3 hx3
    refine fs_goto (tgt := 38) dd_X12_bargain_149 (by decide) ?_
    refine fs_weak (ls2 := [.ref 196, .int v1, .int v2, .int v3, .int v4, .int x3, fz_J, fz_J, fz_J, fz_J]) (fz_le_e (fz_le_e (fz_le_e (fz_le_e (fz_le_e (fz_le_e (fz_le_j (fz_le_j (fz_le_j (fz_le_j fz_le_n)))))))))) ?_
    exact hK38 H
  · replace H := H.2 hc
    refine fs_aload_n (k0 := 0) (i := 0) dd_X12_bargain_59 rfl rfl ?_
    refine fs_iload (i := 5) dd_X12_bargain_60 rfl ?_
    refine fs_iconst (n := 0) (v := 0) dd_X12_bargain_62 (by decide) ?_
    refine fs_callV (y := m_X12_isOwnIn) (as := [.int v5, .int 0]) dd_X12_bargain_63 me_X12_isOwnIn lk_X12_445 in_X12_isOwnIn se_X12_isOwnIn ca_196 rfl rfl rfl (Nat.le_of_ble_eq_true rfl) (Nat.le_of_ble_eq_true rfl) rfl (V_X12_isOwnIn (by omega)  H) (k2_Z fun r4 s5 H => ?_)
    refine fs_if_eq (tgt := 140) dd_X12_bargain_66 (by decide) (fun hc => ?_) (fun hc => ?_)
    · replace H := H.1 (bi_0 hc)
      refine fs_iincN (i := 6) (m := 1) (c := 1) dd_X12_bargain_140 rfl (by decide) (by decide) (fun x6 hx6 => ?_)
      replace H := H x6 hx6
      refine fs_goto (tgt := 50) dd_X12_bargain_143 (by decide) ?_
      refine fs_weak (ls2 := [.ref 196, .int v1, .int v2, .int v3, .int v4, .int v5, .int x6, fz_J, fz_J, fz_J]) (fz_le_e (fz_le_e (fz_le_e (fz_le_e (fz_le_e (fz_le_e (fz_le_e (fz_le_j (fz_le_j (fz_le_j fz_le_n)))))))))) ?_
      exact hK50 H
    · replace H := H.2 (bi_1 hc)
      refine fs_aload_n (k0 := 0) (i := 0) dd_X12_bargain_69 rfl rfl ?_
      refine fs_iload (i := 6) dd_X12_bargain_70 rfl ?_
      refine fs_iconst (n := 1) (v := 1) dd_X12_bargain_72 (by decide) ?_
      refine fs_callV (y := m_X12_isOwnIn) (as := [.int v6, .int 1]) dd_X12_bargain_73 me_X12_isOwnIn lk_X12_445 in_X12_isOwnIn se_X12_isOwnIn ca_196 rfl rfl rfl (Nat.le_of_ble_eq_true rfl) (Nat.le_of_ble_eq_true rfl) rfl (V_X12_isOwnIn (by omega)  H) (k2_Z fun r7 s8 H => ?_)
      refine fs_if_ne (tgt := 82) dd_X12_bargain_76 (by decide) (fun hc => ?_) (fun hc => ?_)
      · replace H := H.1 (bi_1 hc)
        refine fs_aload_n (k0 := 0) (i := 0) dd_X12_bargain_82 rfl rfl ?_
        refine fs_iload (i := 5) dd_X12_bargain_83 rfl ?_
        refine fs_iload (i := 6) dd_X12_bargain_85 rfl ?_
        refine fs_iconst (n := 0) (v := 0) dd_X12_bargain_87 (by decide) ?_
        refine fs_callV (y := m_X12_gainOf) (as := [.int v5, .int v6, .int 0]) dd_X12_bargain_88 me_X12_gainOf lk_X12_544 in_X12_gainOf se_X12_gainOf ca_196 rfl rfl rfl (Nat.le_of_ble_eq_true rfl) (Nat.le_of_ble_eq_true rfl) rfl (V_X12_gainOf (by omega)  H) (k2_I fun r9 s10 H => ?_)
        refine fs_istore (i := 7) dd_X12_bargain_91 (by decide) ?_
        refine fs_aload_n (k0 := 0) (i := 0) dd_X12_bargain_93 rfl rfl ?_
        refine fs_iload (i := 5) dd_X12_bargain_94 rfl ?_
        refine fs_iload (i := 6) dd_X12_bargain_96 rfl ?_
        refine fs_iconst (n := 1) (v := 1) dd_X12_bargain_98 (by decide) ?_
        refine fs_callV (y := m_X12_gainOf) (as := [.int v5, .int v6, .int 1]) dd_X12_bargain_99 me_X12_gainOf lk_X12_544 in_X12_gainOf se_X12_gainOf ca_196 rfl rfl rfl (Nat.le_of_ble_eq_true rfl) (Nat.le_of_ble_eq_true rfl) rfl (V_X12_gainOf (by omega)  H) (k2_I fun r11 s12 H => ?_)
        refine fs_istore (i := 8) dd_X12_bargain_102 (by decide) ?_
        refine fs_iload (i := 7) dd_X12_bargain_104 rfl ?_
        refine fs_iload (i := 8) dd_X12_bargain_106 rfl ?_
        refine fs_icmp_ge (tgt := 116) dd_X12_bargain_108 (by decide) (fun hc => ?_) (fun hc => ?_)
        · replace H := H.1 hc
          refine fs_iload (i := 8) dd_X12_bargain_116 rfl ?_
          refine fs_weak (ls2 := [.ref 196, .int v1, .int v2, .int v3, .int v4, .int v5, .int v6, fz_J, fz_J, fz_J]) (fz_le_e (fz_le_e (fz_le_e (fz_le_e (fz_le_e (fz_le_e (fz_le_e (fz_le_j (fz_le_j (fz_le_j fz_le_n)))))))))) ?_
          exact V_nd_X12_bargain_118 hD   hK38 hK50 H
        · replace H := H.2 hc
          refine fs_iload (i := 7) dd_X12_bargain_111 rfl ?_
          refine fs_goto (tgt := 118) dd_X12_bargain_113 (by decide) ?_
          refine fs_weak (ls2 := [.ref 196, .int v1, .int v2, .int v3, .int v4, .int v5, .int v6, fz_J, fz_J, fz_J]) (fz_le_e (fz_le_e (fz_le_e (fz_le_e (fz_le_e (fz_le_e (fz_le_e (fz_le_j (fz_le_j (fz_le_j fz_le_n)))))))))) ?_
          exact V_nd_X12_bargain_118 hD   hK38 hK50 H
      · replace H := H.2 (bi_0 hc)
        refine fs_goto (tgt := 140) dd_X12_bargain_79 (by decide) ?_
        refine fs_iincN (i := 6) (m := 1) (c := 1) dd_X12_bargain_140 rfl (by decide) (by decide) (fun x13 hx13 => ?_)
        replace H := H x13 hx13
        refine fs_goto (tgt := 50) dd_X12_bargain_143 (by decide) ?_
        refine fs_weak (ls2 := [.ref 196, .int v1, .int v2, .int v3, .int v4, .int v5, .int x13, fz_J, fz_J, fz_J]) (fz_le_e (fz_le_e (fz_le_e (fz_le_e (fz_le_e (fz_le_e (fz_le_e (fz_le_j (fz_le_j (fz_le_j fz_le_n)))))))))) ?_
        exact hK50 H
set_option maxRecDepth 100000 in
set_option maxHeartbeats 4000000 in
theorem V_lp_X12_bargain_50 {g : fz_G} {l : Launch} {d : Nat} (hD : 9 ≤ d)   {K38 : Int32 → Int32 → Int32 → Int32 → Int32 → fz_s → Prop} {Q : Int32 → fz_s → Prop} (hK38 : ∀ {v1 : Int32} {v2 : Int32} {v3 : Int32} {v4 : Int32} {v5 : Int32} {s : fz_s}, K38 v1 v2 v3 v4 v5 s → fs_V g l m_X12_bargain d false 38 [.ref 196, .int v1, .int v2, .int v3, .int v4, .int v5, fz_J, fz_J, fz_J, fz_J] [] s (rI Q)) (n : Nat) : ∀ {v1 : Int32} {v2 : Int32} {v3 : Int32} {v4 : Int32} {v5 : Int32} {v6 : Int32} {s : fz_s}, lp_X12_bargain_50  K38 Q n v1 v2 v3 v4 v5 v6 s → fs_V g l m_X12_bargain d false 50 [.ref 196, .int v1, .int v2, .int v3, .int v4, .int v5, .int v6, fz_J, fz_J, fz_J] [] s (rI Q) := by
  induction n with
  | zero => intro v1 v2 v3 v4 v5 v6 s H; exact H.elim
  | succ n ih => intro v1 v2 v3 v4 v5 v6 s H; exact V_nd_X12_bargain_50 hD  hK38 (fun H => ih H) H
set_option maxRecDepth 100000 in
set_option maxHeartbeats 4000000 in
theorem V_nd_X12_bargain_38 {g : fz_G} {l : Launch} {d : Nat} (hD : 9 ≤ d)   {K38 : Int32 → Int32 → Int32 → Int32 → Int32 → fz_s → Prop} {Q : Int32 → fz_s → Prop} {v1 : Int32} {v2 : Int32} {v3 : Int32} {v4 : Int32} {v5 : Int32} {s : fz_s} (hK38 : ∀ {v1 : Int32} {v2 : Int32} {v3 : Int32} {v4 : Int32} {v5 : Int32} {s : fz_s}, K38 v1 v2 v3 v4 v5 s → fs_V g l m_X12_bargain d false 38 [.ref 196, .int v1, .int v2, .int v3, .int v4, .int v5, fz_J, fz_J, fz_J, fz_J] [] s (rI Q)) (H : nd_X12_bargain_38  K38 Q v1 v2 v3 v4 v5 s) : fs_V g l m_X12_bargain d false 38 [.ref 196, .int v1, .int v2, .int v3, .int v4, .int v5, fz_J, fz_J, fz_J, fz_J] [] s (rI Q) := by
  obtain ⟨d, rfl⟩ : ∃ e, d = e + 1 := ⟨d - 1, by omega⟩
  unfold nd_X12_bargain_38 at H
  refine fs_iload (i := 5) dd_X12_bargain_38 rfl ?_
  refine fs_aload_n (k0 := 0) (i := 0) dd_X12_bargain_40 rfl rfl ?_
  refine fs_callV (y := m_X12_personMany) (as := []) dd_X12_bargain_41 me_X12_personMany lk_X12_402 in_X12_personMany se_X12_personMany ca_196 rfl rfl rfl (Nat.le_of_ble_eq_true rfl) (Nat.le_of_ble_eq_true rfl) rfl (V_X12_personMany (by omega)  H) (k2_I fun r1 s2 H => ?_)
  refine fs_icmp_ge (tgt := 152) dd_X12_bargain_44 (by decide) (fun hc => ?_) (fun hc => ?_)
  · replace H := H.1 hc
    refine fs_iload_n (k0 := 2) (i := 2) dd_X12_bargain_152 rfl rfl ?_
    refine fs_iconst (n := -1) (v := -1) dd_X12_bargain_153 (by decide) ?_
    refine fs_icmp_ne (tgt := 161) dd_X12_bargain_154 (by decide) (fun hc => ?_) (fun hc => ?_)
    · replace H := H.1 hc
      refine fs_iload_n (k0 := 1) (i := 1) dd_X12_bargain_161 rfl rfl ?_
      refine fs_if_ne (tgt := 169) dd_X12_bargain_162 (by decide) (fun hc => ?_) (fun hc => ?_)
      · replace H := H.1 hc
        refine fs_iload_n (k0 := 1) (i := 1) dd_X12_bargain_169 rfl rfl ?_
        refine fs_iconst (n := 1) (v := 1) dd_X12_bargain_170 (by decide) ?_
        refine fs_icmp_ne (tgt := 178) dd_X12_bargain_171 (by decide) (fun hc => ?_) (fun hc => ?_)
        · replace H := H.1 hc
          refine fs_iload (i := 4) dd_X12_bargain_178 rfl ?_
          exact fs_iret dd_X12_bargain_180 rfl H
        · replace H := H.2 hc
          refine fs_iload_n (k0 := 3) (i := 3) dd_X12_bargain_174 rfl rfl ?_
          refine fs_goto (tgt := 180) dd_X12_bargain_175 (by decide) ?_
          exact fs_iret dd_X12_bargain_180 rfl H
      · replace H := H.2 hc
        refine fs_iload_n (k0 := 2) (i := 2) dd_X12_bargain_165 rfl rfl ?_
        refine fs_goto (tgt := 180) dd_X12_bargain_166 (by decide) ?_
        exact fs_iret dd_X12_bargain_180 rfl H
    · replace H := H.2 hc
      refine fs_iconst (n := -1) (v := -1) dd_X12_bargain_157 (by decide) ?_
      refine fs_goto (tgt := 180) dd_X12_bargain_158 (by decide) ?_
      exact fs_iret dd_X12_bargain_180 rfl H
  · replace H := H.2 hc
    refine fs_iconst (n := 0) (v := 0) dd_X12_bargain_47 (by decide) ?_
    refine fs_istore (i := 6) dd_X12_bargain_48 (by decide) ?_
    refine fs_weak (ls2 := [.ref 196, .int v1, .int v2, .int v3, .int v4, .int v5, .int 0, fz_J, fz_J, fz_J]) (fz_le_e (fz_le_e (fz_le_e (fz_le_e (fz_le_e (fz_le_e (fz_le_e (fz_le_j (fz_le_j (fz_le_j fz_le_n)))))))))) ?_
    exact V_lp_X12_bargain_50 hD   hK38 2048 H
set_option maxRecDepth 100000 in
set_option maxHeartbeats 4000000 in
theorem V_lp_X12_bargain_38 {g : fz_G} {l : Launch} {d : Nat} (hD : 9 ≤ d)    {Q : Int32 → fz_s → Prop}  (n : Nat) : ∀ {v1 : Int32} {v2 : Int32} {v3 : Int32} {v4 : Int32} {v5 : Int32} {s : fz_s}, lp_X12_bargain_38   Q n v1 v2 v3 v4 v5 s → fs_V g l m_X12_bargain d false 38 [.ref 196, .int v1, .int v2, .int v3, .int v4, .int v5, fz_J, fz_J, fz_J, fz_J] [] s (rI Q) := by
  induction n with
  | zero => intro v1 v2 v3 v4 v5 s H; exact H.elim
  | succ n ih => intro v1 v2 v3 v4 v5 s H; exact V_nd_X12_bargain_38 hD  (fun H => ih H) H
set_option maxRecDepth 100000 in
set_option maxHeartbeats 4000000 in
theorem V_X12_bargain {g : fz_G} {l : Launch} {d : Nat} (hD : 9 ≤ d) {p0 : Int32}  {s : fz_s} {Q : Int32 → fz_s → Prop} (H : wp_X12_bargain p0 s Q) : fs_V g l m_X12_bargain d false 0 (fz_en [.ref 196, .int p0] 10) [] s (rI Q) := by
  obtain ⟨d, rfl⟩ : ∃ e, d = e + 1 := ⟨d - 1, by omega⟩
  unfold wp_X12_bargain at H
  refine fs_aload_n (k0 := 0) (i := 0) dd_X12_bargain_0 rfl rfl ?_
  refine fs_iconst (n := 1) (v := 1) dd_X12_bargain_1 (by decide) ?_
  refine fs_iconst (n := 1) (v := 1) dd_X12_bargain_2 (by decide) ?_
  refine fs_iconst (n := 1) (v := 1) dd_X12_bargain_3 (by decide) ?_
  refine fs_callV (y := m_X12_isAhead) (as := [.int 1, .int 1, .int 1]) dd_X12_bargain_4 me_X12_isAhead lk_X12_525 in_X12_isAhead se_X12_isAhead ca_196 rfl rfl rfl (Nat.le_of_ble_eq_true rfl) (Nat.le_of_ble_eq_true rfl) rfl (V_X12_isAhead (by omega)  H) (k2_Z fun r1 s2 H => ?_)
  refine fs_if_eq (tgt := 22) dd_X12_bargain_7 (by decide) (fun hc => ?_) (fun hc => ?_)
  · replace H := H.1 (bi_0 hc)
    refine fs_iconst (n := -1) (v := -1) dd_X12_bargain_22 (by decide) ?_
    exact fs_iret dd_X12_bargain_23 rfl H
  · replace H := H.2 (bi_1 hc)
    refine fs_iload_n (k0 := 1) (i := 1) dd_X12_bargain_10 rfl rfl ?_
    refine fs_i2l dd_X12_bargain_11 ?_
    refine fs_lconst (n := 0) (v := 0) dd_X12_bargain_12 (by decide) ?_
    refine fs_ldc2 (idx := 523) (v := 2) dd_X12_bargain_13 cl_X12_523 ?_
    refine fs_callS (y := m_X12_isIn) (as := [.long p0.toInt64, .long 0, .long 2]) dd_X12_bargain_16 me_X12_isIn (Or.inl lk_X12_295) st_X12_isIn rfl (Nat.le_of_ble_eq_true rfl) (Nat.le_of_ble_eq_true rfl) rfl (V_X12_isIn (by omega)  H) (k2_Z fun r3 s4 H => ?_)
    refine fs_if_ne (tgt := 24) dd_X12_bargain_19 (by decide) (fun hc => ?_) (fun hc => ?_)
    · replace H := H.1 (bi_1 hc)
      refine fs_aload_n (k0 := 0) (i := 0) dd_X12_bargain_24 rfl rfl ?_
      refine fs_callV (y := m_X12_laysHarvests) (as := []) dd_X12_bargain_25 me_X12_laysHarvests lk_X12_541 in_X12_laysHarvests se_X12_laysHarvests ca_196 rfl rfl rfl (Nat.le_of_ble_eq_true rfl) (Nat.le_of_ble_eq_true rfl) rfl (V_X12_laysHarvests (by omega)  H) (k2_V fun s6 H => ?_)
      refine fs_iconst (n := -1) (v := -1) dd_X12_bargain_28 (by decide) ?_
      refine fs_istore_n (k0 := 2) (i := 2) dd_X12_bargain_29 rfl (by decide) ?_
      refine fs_iconst (n := -1) (v := -1) dd_X12_bargain_30 (by decide) ?_
      refine fs_istore_n (k0 := 3) (i := 3) dd_X12_bargain_31 rfl (by decide) ?_
      refine fs_iconst (n := 0) (v := 0) dd_X12_bargain_32 (by decide) ?_
      refine fs_istore (i := 4) dd_X12_bargain_33 (by decide) ?_
      refine fs_iconst (n := 0) (v := 0) dd_X12_bargain_35 (by decide) ?_
      refine fs_istore (i := 5) dd_X12_bargain_36 (by decide) ?_
      refine fs_weak (ls2 := [.ref 196, .int p0, .int (-1), .int (-1), .int 0, .int 0, fz_J, fz_J, fz_J, fz_J]) (fz_le_e (fz_le_e (fz_le_e (fz_le_e (fz_le_e (fz_le_e (fz_le_j (fz_le_j (fz_le_j (fz_le_j fz_le_n)))))))))) ?_
      exact V_lp_X12_bargain_38 hD    2048 H
    · replace H := H.2 (bi_0 hc)
      refine fs_iconst (n := -1) (v := -1) dd_X12_bargain_22 (by decide) ?_
      exact fs_iret dd_X12_bargain_23 rfl H
theorem dd_X12_isRest_0 : decode m_X12_isRest.2.1 0 = .ok (.iconst 0, 1) := by decide +kernel
theorem dd_X12_isRest_1 : decode m_X12_isRest.2.1 1 = .ok (.istore_n 3, 1) := by decide +kernel
theorem dd_X12_isRest_2 : decode m_X12_isRest.2.1 2 = .ok (.iload_n 3, 1) := by decide +kernel
theorem dd_X12_isRest_3 : decode m_X12_isRest.2.1 3 = .ok (.aload_n 0, 1) := by decide +kernel
theorem dd_X12_isRest_4 : decode m_X12_isRest.2.1 4 = .ok (.invokevirtual 402, 3) := by decide +kernel
theorem dd_X12_isRest_7 : decode m_X12_isRest.2.1 7 = .ok (.if_icmp .ge 65, 3) := by decide +kernel
theorem dd_X12_isRest_10 : decode m_X12_isRest.2.1 10 = .ok (.aload_n 0, 1) := by decide +kernel
theorem dd_X12_isRest_11 : decode m_X12_isRest.2.1 11 = .ok (.iload_n 3, 1) := by decide +kernel
theorem dd_X12_isRest_12 : decode m_X12_isRest.2.1 12 = .ok (.iconst 0, 1) := by decide +kernel
theorem dd_X12_isRest_13 : decode m_X12_isRest.2.1 13 = .ok (.invokevirtual 445, 3) := by decide +kernel
theorem dd_X12_isRest_16 : decode m_X12_isRest.2.1 16 = .ok (.ifCond .eq 22, 3) := by decide +kernel
theorem dd_X12_isRest_19 : decode m_X12_isRest.2.1 19 = .ok (.aload_n 0, 1) := by decide +kernel
theorem dd_X12_isRest_20 : decode m_X12_isRest.2.1 20 = .ok (.iload_n 3, 1) := by decide +kernel
theorem dd_X12_isRest_21 : decode m_X12_isRest.2.1 21 = .ok (.iload_n 2, 1) := by decide +kernel
theorem dd_X12_isRest_22 : decode m_X12_isRest.2.1 22 = .ok (.iconst 0, 1) := by decide +kernel
theorem dd_X12_isRest_23 : decode m_X12_isRest.2.1 23 = .ok (.invokevirtual 544, 3) := by decide +kernel
theorem dd_X12_isRest_26 : decode m_X12_isRest.2.1 26 = .ok (.aload_n 0, 1) := by decide +kernel
theorem dd_X12_isRest_27 : decode m_X12_isRest.2.1 27 = .ok (.iload_n 1, 1) := by decide +kernel
theorem dd_X12_isRest_28 : decode m_X12_isRest.2.1 28 = .ok (.iload_n 2, 1) := by decide +kernel
theorem dd_X12_isRest_29 : decode m_X12_isRest.2.1 29 = .ok (.iconst 0, 1) := by decide +kernel
theorem dd_X12_isRest_30 : decode m_X12_isRest.2.1 30 = .ok (.invokevirtual 544, 3) := by decide +kernel
theorem dd_X12_isRest_33 : decode m_X12_isRest.2.1 33 = .ok (.if_icmp .le 5, 3) := by decide +kernel
theorem dd_X12_isRest_36 : decode m_X12_isRest.2.1 36 = .ok (.iconst 0, 1) := by decide +kernel
theorem dd_X12_isRest_37 : decode m_X12_isRest.2.1 37 = .ok (.ireturn, 1) := by decide +kernel
theorem dd_X12_isRest_38 : decode m_X12_isRest.2.1 38 = .ok (.aload_n 0, 1) := by decide +kernel
theorem dd_X12_isRest_39 : decode m_X12_isRest.2.1 39 = .ok (.iload_n 3, 1) := by decide +kernel
theorem dd_X12_isRest_40 : decode m_X12_isRest.2.1 40 = .ok (.iconst 1, 1) := by decide +kernel
theorem dd_X12_isRest_41 : decode m_X12_isRest.2.1 41 = .ok (.invokevirtual 445, 3) := by decide +kernel
theorem dd_X12_isRest_44 : decode m_X12_isRest.2.1 44 = .ok (.ifCond .eq 22, 3) := by decide +kernel
theorem dd_X12_isRest_47 : decode m_X12_isRest.2.1 47 = .ok (.aload_n 0, 1) := by decide +kernel
theorem dd_X12_isRest_48 : decode m_X12_isRest.2.1 48 = .ok (.iload_n 1, 1) := by decide +kernel
theorem dd_X12_isRest_49 : decode m_X12_isRest.2.1 49 = .ok (.iload_n 3, 1) := by decide +kernel
theorem dd_X12_isRest_50 : decode m_X12_isRest.2.1 50 = .ok (.iconst 1, 1) := by decide +kernel
theorem dd_X12_isRest_51 : decode m_X12_isRest.2.1 51 = .ok (.invokevirtual 544, 3) := by decide +kernel
theorem dd_X12_isRest_54 : decode m_X12_isRest.2.1 54 = .ok (.aload_n 0, 1) := by decide +kernel
theorem dd_X12_isRest_55 : decode m_X12_isRest.2.1 55 = .ok (.iload_n 1, 1) := by decide +kernel
theorem dd_X12_isRest_56 : decode m_X12_isRest.2.1 56 = .ok (.iload_n 2, 1) := by decide +kernel
theorem dd_X12_isRest_57 : decode m_X12_isRest.2.1 57 = .ok (.iconst 1, 1) := by decide +kernel
theorem dd_X12_isRest_58 : decode m_X12_isRest.2.1 58 = .ok (.invokevirtual 544, 3) := by decide +kernel
theorem dd_X12_isRest_61 : decode m_X12_isRest.2.1 61 = .ok (.if_icmp .le 5, 3) := by decide +kernel
theorem dd_X12_isRest_64 : decode m_X12_isRest.2.1 64 = .ok (.iconst 0, 1) := by decide +kernel
theorem dd_X12_isRest_65 : decode m_X12_isRest.2.1 65 = .ok (.ireturn, 1) := by decide +kernel
theorem dd_X12_isRest_66 : decode m_X12_isRest.2.1 66 = .ok (.iinc 3 1, 3) := by decide +kernel
theorem dd_X12_isRest_69 : decode m_X12_isRest.2.1 69 = .ok (.goto (-67), 3) := by decide +kernel
theorem dd_X12_isRest_72 : decode m_X12_isRest.2.1 72 = .ok (.iconst 1, 1) := by decide +kernel
theorem dd_X12_isRest_73 : decode m_X12_isRest.2.1 73 = .ok (.ireturn, 1) := by decide +kernel
def nd_X12_isRest_38  (K2 : Int32 → Int32 → Int32 → fz_s → Prop) (Q : Bool → fz_s → Prop) (v1 : Int32) (v2 : Int32) (v3 : Int32) (s : fz_s) : Prop :=
  wp_X12_isOwnIn v3 1 s (fun r1 s2 => ((r1 = false → ∀ x3 : Int32, x3 = v3 + 1 → K2 v1 v2 x3 s2) ∧ (r1 = true → wp_X12_gainOf v1 v3 1 s2 (fun r4 s5 => wp_X12_gainOf v1 v2 1 s5 (fun r6 s7 => ((r4 ≤ r6 → ∀ x8 : Int32, x8 = v3 + 1 → K2 v1 v2 x8 s7) ∧ (¬ r4 ≤ r6 → Q false s7)))))))
def nd_X12_isRest_2  (K2 : Int32 → Int32 → Int32 → fz_s → Prop) (Q : Bool → fz_s → Prop) (v1 : Int32) (v2 : Int32) (v3 : Int32) (s : fz_s) : Prop :=
  wp_X12_personMany  s (fun r1 s2 => ((r1 ≤ v3 → Q true s2) ∧ (¬ r1 ≤ v3 → wp_X12_isOwnIn v3 0 s2 (fun r3 s4 => ((r3 = false → nd_X12_isRest_38  K2 Q v1 v2 v3 s4) ∧ (r3 = true → wp_X12_gainOf v3 v2 0 s4 (fun r5 s6 => wp_X12_gainOf v1 v2 0 s6 (fun r7 s8 => ((r5 ≤ r7 → nd_X12_isRest_38  K2 Q v1 v2 v3 s8) ∧ (¬ r5 ≤ r7 → Q false s8))))))))))
def lp_X12_isRest_2   (Q : Bool → fz_s → Prop) : Nat → Int32 → Int32 → Int32 → fz_s → Prop
  | 0 => fun _ _ _ _ => False
  | n + 1 => nd_X12_isRest_2  (lp_X12_isRest_2   Q n) Q
def wp_X12_isRest (p0 : Int32) (p1 : Int32) (s : fz_s) (Q : Bool → fz_s → Prop) : Prop :=
  lp_X12_isRest_2   Q 2048 p0 p1 0 s
set_option maxRecDepth 100000 in
set_option maxHeartbeats 4000000 in
theorem V_nd_X12_isRest_38 {g : fz_G} {l : Launch} {d : Nat} (hD : 3 ≤ d)   {K2 : Int32 → Int32 → Int32 → fz_s → Prop} {Q : Bool → fz_s → Prop} {v1 : Int32} {v2 : Int32} {v3 : Int32} {s : fz_s} (hK2 : ∀ {v1 : Int32} {v2 : Int32} {v3 : Int32} {s : fz_s}, K2 v1 v2 v3 s → fs_V g l m_X12_isRest d false 2 [.ref 196, .int v1, .int v2, .int v3] [] s (rZ Q)) (H : nd_X12_isRest_38  K2 Q v1 v2 v3 s) : fs_V g l m_X12_isRest d false 38 [.ref 196, .int v1, .int v2, .int v3] [] s (rZ Q) := by
  obtain ⟨d, rfl⟩ : ∃ e, d = e + 1 := ⟨d - 1, by omega⟩
  unfold nd_X12_isRest_38 at H
  refine fs_aload_n (k0 := 0) (i := 0) dd_X12_isRest_38 rfl rfl ?_
  refine fs_iload_n (k0 := 3) (i := 3) dd_X12_isRest_39 rfl rfl ?_
  refine fs_iconst (n := 1) (v := 1) dd_X12_isRest_40 (by decide) ?_
  refine fs_callV (y := m_X12_isOwnIn) (as := [.int v3, .int 1]) dd_X12_isRest_41 me_X12_isOwnIn lk_X12_445 in_X12_isOwnIn se_X12_isOwnIn ca_196 rfl rfl rfl (Nat.le_of_ble_eq_true rfl) (Nat.le_of_ble_eq_true rfl) rfl (V_X12_isOwnIn (by omega)  H) (k2_Z fun r1 s2 H => ?_)
  refine fs_if_eq (tgt := 66) dd_X12_isRest_44 (by decide) (fun hc => ?_) (fun hc => ?_)
  · replace H := H.1 (bi_0 hc)
    refine fs_iincN (i := 3) (m := 1) (c := 1) dd_X12_isRest_66 rfl (by decide) (by decide) (fun x3 hx3 => ?_)
    replace H := H x3 hx3
    refine fs_goto (tgt := 2) dd_X12_isRest_69 (by decide) ?_
    refine fs_weak (ls2 := [.ref 196, .int v1, .int v2, .int x3]) (fz_le_e (fz_le_e (fz_le_e (fz_le_e fz_le_n)))) ?_
    exact hK2 H
  · replace H := H.2 (bi_1 hc)
    refine fs_aload_n (k0 := 0) (i := 0) dd_X12_isRest_47 rfl rfl ?_
    refine fs_iload_n (k0 := 1) (i := 1) dd_X12_isRest_48 rfl rfl ?_
    refine fs_iload_n (k0 := 3) (i := 3) dd_X12_isRest_49 rfl rfl ?_
    refine fs_iconst (n := 1) (v := 1) dd_X12_isRest_50 (by decide) ?_
    refine fs_callV (y := m_X12_gainOf) (as := [.int v1, .int v3, .int 1]) dd_X12_isRest_51 me_X12_gainOf lk_X12_544 in_X12_gainOf se_X12_gainOf ca_196 rfl rfl rfl (Nat.le_of_ble_eq_true rfl) (Nat.le_of_ble_eq_true rfl) rfl (V_X12_gainOf (by omega)  H) (k2_I fun r4 s5 H => ?_)
    refine fs_aload_n (k0 := 0) (i := 0) dd_X12_isRest_54 rfl rfl ?_
    refine fs_iload_n (k0 := 1) (i := 1) dd_X12_isRest_55 rfl rfl ?_
    refine fs_iload_n (k0 := 2) (i := 2) dd_X12_isRest_56 rfl rfl ?_
    refine fs_iconst (n := 1) (v := 1) dd_X12_isRest_57 (by decide) ?_
    refine fs_callV (y := m_X12_gainOf) (as := [.int v1, .int v2, .int 1]) dd_X12_isRest_58 me_X12_gainOf lk_X12_544 in_X12_gainOf se_X12_gainOf ca_196 rfl rfl rfl (Nat.le_of_ble_eq_true rfl) (Nat.le_of_ble_eq_true rfl) rfl (V_X12_gainOf (by omega)  H) (k2_I fun r6 s7 H => ?_)
    refine fs_icmp_le (tgt := 66) dd_X12_isRest_61 (by decide) (fun hc => ?_) (fun hc => ?_)
    · replace H := H.1 hc
      refine fs_iincN (i := 3) (m := 1) (c := 1) dd_X12_isRest_66 rfl (by decide) (by decide) (fun x8 hx8 => ?_)
      replace H := H x8 hx8
      refine fs_goto (tgt := 2) dd_X12_isRest_69 (by decide) ?_
      refine fs_weak (ls2 := [.ref 196, .int v1, .int v2, .int x8]) (fz_le_e (fz_le_e (fz_le_e (fz_le_e fz_le_n)))) ?_
      exact hK2 H
    · replace H := H.2 hc
      refine fs_iconst (n := 0) (v := 0) dd_X12_isRest_64 (by decide) ?_
      exact fs_zret false dd_X12_isRest_65 rfl rfl H
set_option maxRecDepth 100000 in
set_option maxHeartbeats 4000000 in
theorem V_nd_X12_isRest_2 {g : fz_G} {l : Launch} {d : Nat} (hD : 3 ≤ d)   {K2 : Int32 → Int32 → Int32 → fz_s → Prop} {Q : Bool → fz_s → Prop} {v1 : Int32} {v2 : Int32} {v3 : Int32} {s : fz_s} (hK2 : ∀ {v1 : Int32} {v2 : Int32} {v3 : Int32} {s : fz_s}, K2 v1 v2 v3 s → fs_V g l m_X12_isRest d false 2 [.ref 196, .int v1, .int v2, .int v3] [] s (rZ Q)) (H : nd_X12_isRest_2  K2 Q v1 v2 v3 s) : fs_V g l m_X12_isRest d false 2 [.ref 196, .int v1, .int v2, .int v3] [] s (rZ Q) := by
  obtain ⟨d, rfl⟩ : ∃ e, d = e + 1 := ⟨d - 1, by omega⟩
  unfold nd_X12_isRest_2 at H
  refine fs_iload_n (k0 := 3) (i := 3) dd_X12_isRest_2 rfl rfl ?_
  refine fs_aload_n (k0 := 0) (i := 0) dd_X12_isRest_3 rfl rfl ?_
  refine fs_callV (y := m_X12_personMany) (as := []) dd_X12_isRest_4 me_X12_personMany lk_X12_402 in_X12_personMany se_X12_personMany ca_196 rfl rfl rfl (Nat.le_of_ble_eq_true rfl) (Nat.le_of_ble_eq_true rfl) rfl (V_X12_personMany (by omega)  H) (k2_I fun r1 s2 H => ?_)
  refine fs_icmp_ge (tgt := 72) dd_X12_isRest_7 (by decide) (fun hc => ?_) (fun hc => ?_)
  · replace H := H.1 hc
    refine fs_iconst (n := 1) (v := 1) dd_X12_isRest_72 (by decide) ?_
    exact fs_zret true dd_X12_isRest_73 rfl rfl H
  · replace H := H.2 hc
    refine fs_aload_n (k0 := 0) (i := 0) dd_X12_isRest_10 rfl rfl ?_
    refine fs_iload_n (k0 := 3) (i := 3) dd_X12_isRest_11 rfl rfl ?_
    refine fs_iconst (n := 0) (v := 0) dd_X12_isRest_12 (by decide) ?_
    refine fs_callV (y := m_X12_isOwnIn) (as := [.int v3, .int 0]) dd_X12_isRest_13 me_X12_isOwnIn lk_X12_445 in_X12_isOwnIn se_X12_isOwnIn ca_196 rfl rfl rfl (Nat.le_of_ble_eq_true rfl) (Nat.le_of_ble_eq_true rfl) rfl (V_X12_isOwnIn (by omega)  H) (k2_Z fun r3 s4 H => ?_)
    refine fs_if_eq (tgt := 38) dd_X12_isRest_16 (by decide) (fun hc => ?_) (fun hc => ?_)
    · replace H := H.1 (bi_0 hc)
      refine fs_weak (ls2 := [.ref 196, .int v1, .int v2, .int v3]) (fz_le_e (fz_le_e (fz_le_e (fz_le_e fz_le_n)))) ?_
      exact V_nd_X12_isRest_38 hD   hK2 H
    · replace H := H.2 (bi_1 hc)
      refine fs_aload_n (k0 := 0) (i := 0) dd_X12_isRest_19 rfl rfl ?_
      refine fs_iload_n (k0 := 3) (i := 3) dd_X12_isRest_20 rfl rfl ?_
      refine fs_iload_n (k0 := 2) (i := 2) dd_X12_isRest_21 rfl rfl ?_
      refine fs_iconst (n := 0) (v := 0) dd_X12_isRest_22 (by decide) ?_
      refine fs_callV (y := m_X12_gainOf) (as := [.int v3, .int v2, .int 0]) dd_X12_isRest_23 me_X12_gainOf lk_X12_544 in_X12_gainOf se_X12_gainOf ca_196 rfl rfl rfl (Nat.le_of_ble_eq_true rfl) (Nat.le_of_ble_eq_true rfl) rfl (V_X12_gainOf (by omega)  H) (k2_I fun r5 s6 H => ?_)
      refine fs_aload_n (k0 := 0) (i := 0) dd_X12_isRest_26 rfl rfl ?_
      refine fs_iload_n (k0 := 1) (i := 1) dd_X12_isRest_27 rfl rfl ?_
      refine fs_iload_n (k0 := 2) (i := 2) dd_X12_isRest_28 rfl rfl ?_
      refine fs_iconst (n := 0) (v := 0) dd_X12_isRest_29 (by decide) ?_
      refine fs_callV (y := m_X12_gainOf) (as := [.int v1, .int v2, .int 0]) dd_X12_isRest_30 me_X12_gainOf lk_X12_544 in_X12_gainOf se_X12_gainOf ca_196 rfl rfl rfl (Nat.le_of_ble_eq_true rfl) (Nat.le_of_ble_eq_true rfl) rfl (V_X12_gainOf (by omega)  H) (k2_I fun r7 s8 H => ?_)
      refine fs_icmp_le (tgt := 38) dd_X12_isRest_33 (by decide) (fun hc => ?_) (fun hc => ?_)
      · replace H := H.1 hc
        refine fs_weak (ls2 := [.ref 196, .int v1, .int v2, .int v3]) (fz_le_e (fz_le_e (fz_le_e (fz_le_e fz_le_n)))) ?_
        exact V_nd_X12_isRest_38 hD   hK2 H
      · replace H := H.2 hc
        refine fs_iconst (n := 0) (v := 0) dd_X12_isRest_36 (by decide) ?_
        exact fs_zret false dd_X12_isRest_37 rfl rfl H
set_option maxRecDepth 100000 in
set_option maxHeartbeats 4000000 in
theorem V_lp_X12_isRest_2 {g : fz_G} {l : Launch} {d : Nat} (hD : 3 ≤ d)    {Q : Bool → fz_s → Prop}  (n : Nat) : ∀ {v1 : Int32} {v2 : Int32} {v3 : Int32} {s : fz_s}, lp_X12_isRest_2   Q n v1 v2 v3 s → fs_V g l m_X12_isRest d false 2 [.ref 196, .int v1, .int v2, .int v3] [] s (rZ Q) := by
  induction n with
  | zero => intro v1 v2 v3 s H; exact H.elim
  | succ n ih => intro v1 v2 v3 s H; exact V_nd_X12_isRest_2 hD  (fun H => ih H) H
set_option maxRecDepth 100000 in
set_option maxHeartbeats 4000000 in
theorem V_X12_isRest {g : fz_G} {l : Launch} {d : Nat} (hD : 3 ≤ d) {p0 : Int32} {p1 : Int32}  {s : fz_s} {Q : Bool → fz_s → Prop} (H : wp_X12_isRest p0 p1 s Q) : fs_V g l m_X12_isRest d false 0 (fz_en [.ref 196, .int p0, .int p1] 4) [] s (rZ Q) := by
  obtain ⟨d, rfl⟩ : ∃ e, d = e + 1 := ⟨d - 1, by omega⟩
  unfold wp_X12_isRest at H
  refine fs_iconst (n := 0) (v := 0) dd_X12_isRest_0 (by decide) ?_
  refine fs_istore_n (k0 := 3) (i := 3) dd_X12_isRest_1 rfl (by decide) ?_
  refine fs_weak (ls2 := [.ref 196, .int p0, .int p1, .int 0]) (fz_le_e (fz_le_e (fz_le_e (fz_le_e fz_le_n)))) ?_
  exact V_lp_X12_isRest_2 hD    2048 H
theorem dd_X12_rest_0 : decode m_X12_rest.2.1 0 = .ok (.aload_n 0, 1) := by decide +kernel
theorem dd_X12_rest_1 : decode m_X12_rest.2.1 1 = .ok (.iconst 1, 1) := by decide +kernel
theorem dd_X12_rest_2 : decode m_X12_rest.2.1 2 = .ok (.iconst 1, 1) := by decide +kernel
theorem dd_X12_rest_3 : decode m_X12_rest.2.1 3 = .ok (.iconst 1, 1) := by decide +kernel
theorem dd_X12_rest_4 : decode m_X12_rest.2.1 4 = .ok (.invokevirtual 525, 3) := by decide +kernel
theorem dd_X12_rest_7 : decode m_X12_rest.2.1 7 = .ok (.ifCond .eq 13, 3) := by decide +kernel
theorem dd_X12_rest_10 : decode m_X12_rest.2.1 10 = .ok (.iload_n 1, 1) := by decide +kernel
theorem dd_X12_rest_11 : decode m_X12_rest.2.1 11 = .ok (.i2l, 1) := by decide +kernel
theorem dd_X12_rest_12 : decode m_X12_rest.2.1 12 = .ok (.lconst 0, 1) := by decide +kernel
theorem dd_X12_rest_13 : decode m_X12_rest.2.1 13 = .ok (.lconst 1, 1) := by decide +kernel
theorem dd_X12_rest_14 : decode m_X12_rest.2.1 14 = .ok (.invokestatic 295, 3) := by decide +kernel
theorem dd_X12_rest_17 : decode m_X12_rest.2.1 17 = .ok (.ifCond .ne 5, 3) := by decide +kernel
theorem dd_X12_rest_20 : decode m_X12_rest.2.1 20 = .ok (.iconst (-1), 1) := by decide +kernel
theorem dd_X12_rest_21 : decode m_X12_rest.2.1 21 = .ok (.ireturn, 1) := by decide +kernel
theorem dd_X12_rest_22 : decode m_X12_rest.2.1 22 = .ok (.aload_n 0, 1) := by decide +kernel
theorem dd_X12_rest_23 : decode m_X12_rest.2.1 23 = .ok (.invokevirtual 541, 3) := by decide +kernel
theorem dd_X12_rest_26 : decode m_X12_rest.2.1 26 = .ok (.iconst 0, 1) := by decide +kernel
theorem dd_X12_rest_27 : decode m_X12_rest.2.1 27 = .ok (.istore_n 2, 1) := by decide +kernel
theorem dd_X12_rest_28 : decode m_X12_rest.2.1 28 = .ok (.iload_n 2, 1) := by decide +kernel
theorem dd_X12_rest_29 : decode m_X12_rest.2.1 29 = .ok (.aload_n 0, 1) := by decide +kernel
theorem dd_X12_rest_30 : decode m_X12_rest.2.1 30 = .ok (.invokevirtual 402, 3) := by decide +kernel
theorem dd_X12_rest_33 : decode m_X12_rest.2.1 33 = .ok (.if_icmp .ge 62, 3) := by decide +kernel
theorem dd_X12_rest_36 : decode m_X12_rest.2.1 36 = .ok (.iconst 0, 1) := by decide +kernel
theorem dd_X12_rest_37 : decode m_X12_rest.2.1 37 = .ok (.istore_n 3, 1) := by decide +kernel
theorem dd_X12_rest_38 : decode m_X12_rest.2.1 38 = .ok (.iload_n 3, 1) := by decide +kernel
theorem dd_X12_rest_39 : decode m_X12_rest.2.1 39 = .ok (.aload_n 0, 1) := by decide +kernel
theorem dd_X12_rest_40 : decode m_X12_rest.2.1 40 = .ok (.invokevirtual 402, 3) := by decide +kernel
theorem dd_X12_rest_43 : decode m_X12_rest.2.1 43 = .ok (.if_icmp .ge 46, 3) := by decide +kernel
theorem dd_X12_rest_46 : decode m_X12_rest.2.1 46 = .ok (.aload_n 0, 1) := by decide +kernel
theorem dd_X12_rest_47 : decode m_X12_rest.2.1 47 = .ok (.iload_n 2, 1) := by decide +kernel
theorem dd_X12_rest_48 : decode m_X12_rest.2.1 48 = .ok (.iconst 0, 1) := by decide +kernel
theorem dd_X12_rest_49 : decode m_X12_rest.2.1 49 = .ok (.invokevirtual 445, 3) := by decide +kernel
theorem dd_X12_rest_52 : decode m_X12_rest.2.1 52 = .ok (.ifCond .eq 31, 3) := by decide +kernel
theorem dd_X12_rest_55 : decode m_X12_rest.2.1 55 = .ok (.aload_n 0, 1) := by decide +kernel
theorem dd_X12_rest_56 : decode m_X12_rest.2.1 56 = .ok (.iload_n 3, 1) := by decide +kernel
theorem dd_X12_rest_57 : decode m_X12_rest.2.1 57 = .ok (.iconst 1, 1) := by decide +kernel
theorem dd_X12_rest_58 : decode m_X12_rest.2.1 58 = .ok (.invokevirtual 445, 3) := by decide +kernel
theorem dd_X12_rest_61 : decode m_X12_rest.2.1 61 = .ok (.ifCond .eq 22, 3) := by decide +kernel
theorem dd_X12_rest_64 : decode m_X12_rest.2.1 64 = .ok (.aload_n 0, 1) := by decide +kernel
theorem dd_X12_rest_65 : decode m_X12_rest.2.1 65 = .ok (.iload_n 2, 1) := by decide +kernel
theorem dd_X12_rest_66 : decode m_X12_rest.2.1 66 = .ok (.iload_n 3, 1) := by decide +kernel
theorem dd_X12_rest_67 : decode m_X12_rest.2.1 67 = .ok (.invokevirtual 548, 3) := by decide +kernel
theorem dd_X12_rest_70 : decode m_X12_rest.2.1 70 = .ok (.ifCond .eq 13, 3) := by decide +kernel
theorem dd_X12_rest_73 : decode m_X12_rest.2.1 73 = .ok (.iload_n 1, 1) := by decide +kernel
theorem dd_X12_rest_74 : decode m_X12_rest.2.1 74 = .ok (.ifCond .ne 7, 3) := by decide +kernel
theorem dd_X12_rest_77 : decode m_X12_rest.2.1 77 = .ok (.iload_n 2, 1) := by decide +kernel
theorem dd_X12_rest_78 : decode m_X12_rest.2.1 78 = .ok (.goto 4, 3) := by decide +kernel
theorem dd_X12_rest_81 : decode m_X12_rest.2.1 81 = .ok (.iload_n 3, 1) := by decide +kernel
theorem dd_X12_rest_82 : decode m_X12_rest.2.1 82 = .ok (.ireturn, 1) := by decide +kernel
theorem dd_X12_rest_83 : decode m_X12_rest.2.1 83 = .ok (.iinc 3 1, 3) := by decide +kernel
theorem dd_X12_rest_86 : decode m_X12_rest.2.1 86 = .ok (.goto (-48), 3) := by decide +kernel
theorem dd_X12_rest_89 : decode m_X12_rest.2.1 89 = .ok (.iinc 2 1, 3) := by decide +kernel
theorem dd_X12_rest_92 : decode m_X12_rest.2.1 92 = .ok (.goto (-64), 3) := by decide +kernel
theorem dd_X12_rest_95 : decode m_X12_rest.2.1 95 = .ok (.iconst (-1), 1) := by decide +kernel
theorem dd_X12_rest_96 : decode m_X12_rest.2.1 96 = .ok (.ireturn, 1) := by decide +kernel
def nd_X12_rest_38  (K28 : Int32 → Int32 → fz_s → Prop) (K38 : Int32 → Int32 → Int32 → fz_s → Prop) (Q : Int32 → fz_s → Prop) (v1 : Int32) (v2 : Int32) (v3 : Int32) (s : fz_s) : Prop :=
  wp_X12_personMany  s (fun r1 s2 => ((r1 ≤ v3 → ∀ x3 : Int32, x3 = v2 + 1 → K28 v1 x3 s2) ∧ (¬ r1 ≤ v3 → wp_X12_isOwnIn v2 0 s2 (fun r4 s5 => ((r4 = false → ∀ x6 : Int32, x6 = v3 + 1 → K38 v1 v2 x6 s5) ∧ (r4 = true → wp_X12_isOwnIn v3 1 s5 (fun r7 s8 => ((r7 = false → ∀ x9 : Int32, x9 = v3 + 1 → K38 v1 v2 x9 s8) ∧ (r7 = true → wp_X12_isRest v2 v3 s8 (fun r10 s11 => ((r10 = false → ∀ x12 : Int32, x12 = v3 + 1 → K38 v1 v2 x12 s11) ∧ (r10 = true → ((¬ v1 = 0 → Q v3 s11) ∧ (v1 = 0 → Q v2 s11))))))))))))))
def lp_X12_rest_38  (K28 : Int32 → Int32 → fz_s → Prop) (Q : Int32 → fz_s → Prop) : Nat → Int32 → Int32 → Int32 → fz_s → Prop
  | 0 => fun _ _ _ _ => False
  | n + 1 => nd_X12_rest_38  K28 (lp_X12_rest_38  K28 Q n) Q
def nd_X12_rest_28  (K28 : Int32 → Int32 → fz_s → Prop) (Q : Int32 → fz_s → Prop) (v1 : Int32) (v2 : Int32) (s : fz_s) : Prop :=
  wp_X12_personMany  s (fun r1 s2 => ((r1 ≤ v2 → Q (-1) s2) ∧ (¬ r1 ≤ v2 → lp_X12_rest_38  K28 Q 2048 v1 v2 0 s2)))
def lp_X12_rest_28   (Q : Int32 → fz_s → Prop) : Nat → Int32 → Int32 → fz_s → Prop
  | 0 => fun _ _ _ => False
  | n + 1 => nd_X12_rest_28  (lp_X12_rest_28   Q n) Q
def wp_X12_rest (p0 : Int32) (s : fz_s) (Q : Int32 → fz_s → Prop) : Prop :=
  wp_X12_isAhead 1 1 1 s (fun r1 s2 => ((r1 = false → Q (-1) s2) ∧ (r1 = true → wp_X12_isIn p0.toInt64 0 1 s2 (fun r3 s4 => ((r3 = true → wp_X12_laysHarvests  s4 (fun s6 => lp_X12_rest_28   Q 2048 p0 0 s6)) ∧ (r3 = false → Q (-1) s4))))))
set_option maxRecDepth 100000 in
set_option maxHeartbeats 4000000 in
theorem V_nd_X12_rest_38 {g : fz_G} {l : Launch} {d : Nat} (hD : 9 ≤ d)   {K28 : Int32 → Int32 → fz_s → Prop} {K38 : Int32 → Int32 → Int32 → fz_s → Prop} {Q : Int32 → fz_s → Prop} {v1 : Int32} {v2 : Int32} {v3 : Int32} {s : fz_s} (hK28 : ∀ {v1 : Int32} {v2 : Int32} {s : fz_s}, K28 v1 v2 s → fs_V g l m_X12_rest d false 28 [.ref 196, .int v1, .int v2, fz_J] [] s (rI Q)) (hK38 : ∀ {v1 : Int32} {v2 : Int32} {v3 : Int32} {s : fz_s}, K38 v1 v2 v3 s → fs_V g l m_X12_rest d false 38 [.ref 196, .int v1, .int v2, .int v3] [] s (rI Q)) (H : nd_X12_rest_38  K28 K38 Q v1 v2 v3 s) : fs_V g l m_X12_rest d false 38 [.ref 196, .int v1, .int v2, .int v3] [] s (rI Q) := by
  obtain ⟨d, rfl⟩ : ∃ e, d = e + 1 := ⟨d - 1, by omega⟩
  unfold nd_X12_rest_38 at H
  refine fs_iload_n (k0 := 3) (i := 3) dd_X12_rest_38 rfl rfl ?_
  refine fs_aload_n (k0 := 0) (i := 0) dd_X12_rest_39 rfl rfl ?_
  refine fs_callV (y := m_X12_personMany) (as := []) dd_X12_rest_40 me_X12_personMany lk_X12_402 in_X12_personMany se_X12_personMany ca_196 rfl rfl rfl (Nat.le_of_ble_eq_true rfl) (Nat.le_of_ble_eq_true rfl) rfl (V_X12_personMany (by omega)  H) (k2_I fun r1 s2 H => ?_)
  refine fs_icmp_ge (tgt := 89) dd_X12_rest_43 (by decide) (fun hc => ?_) (fun hc => ?_)
  · replace H := H.1 hc
    refine fs_iincN (i := 2) (m := 1) (c := 1) dd_X12_rest_89 rfl (by decide) (by decide) (fun x3 hx3 => ?_)
    replace H := H x3 hx3
    refine fs_goto (tgt := 28) dd_X12_rest_92 (by decide) ?_
    refine fs_weak (ls2 := [.ref 196, .int v1, .int x3, fz_J]) (fz_le_e (fz_le_e (fz_le_e (fz_le_j fz_le_n)))) ?_
    exact hK28 H
  · replace H := H.2 hc
    refine fs_aload_n (k0 := 0) (i := 0) dd_X12_rest_46 rfl rfl ?_
    refine fs_iload_n (k0 := 2) (i := 2) dd_X12_rest_47 rfl rfl ?_
    refine fs_iconst (n := 0) (v := 0) dd_X12_rest_48 (by decide) ?_
    refine fs_callV (y := m_X12_isOwnIn) (as := [.int v2, .int 0]) dd_X12_rest_49 me_X12_isOwnIn lk_X12_445 in_X12_isOwnIn se_X12_isOwnIn ca_196 rfl rfl rfl (Nat.le_of_ble_eq_true rfl) (Nat.le_of_ble_eq_true rfl) rfl (V_X12_isOwnIn (by omega)  H) (k2_Z fun r4 s5 H => ?_)
    refine fs_if_eq (tgt := 83) dd_X12_rest_52 (by decide) (fun hc => ?_) (fun hc => ?_)
    · replace H := H.1 (bi_0 hc)
      refine fs_iincN (i := 3) (m := 1) (c := 1) dd_X12_rest_83 rfl (by decide) (by decide) (fun x6 hx6 => ?_)
      replace H := H x6 hx6
      refine fs_goto (tgt := 38) dd_X12_rest_86 (by decide) ?_
      refine fs_weak (ls2 := [.ref 196, .int v1, .int v2, .int x6]) (fz_le_e (fz_le_e (fz_le_e (fz_le_e fz_le_n)))) ?_
      exact hK38 H
    · replace H := H.2 (bi_1 hc)
      refine fs_aload_n (k0 := 0) (i := 0) dd_X12_rest_55 rfl rfl ?_
      refine fs_iload_n (k0 := 3) (i := 3) dd_X12_rest_56 rfl rfl ?_
      refine fs_iconst (n := 1) (v := 1) dd_X12_rest_57 (by decide) ?_
      refine fs_callV (y := m_X12_isOwnIn) (as := [.int v3, .int 1]) dd_X12_rest_58 me_X12_isOwnIn lk_X12_445 in_X12_isOwnIn se_X12_isOwnIn ca_196 rfl rfl rfl (Nat.le_of_ble_eq_true rfl) (Nat.le_of_ble_eq_true rfl) rfl (V_X12_isOwnIn (by omega)  H) (k2_Z fun r7 s8 H => ?_)
      refine fs_if_eq (tgt := 83) dd_X12_rest_61 (by decide) (fun hc => ?_) (fun hc => ?_)
      · replace H := H.1 (bi_0 hc)
        refine fs_iincN (i := 3) (m := 1) (c := 1) dd_X12_rest_83 rfl (by decide) (by decide) (fun x9 hx9 => ?_)
        replace H := H x9 hx9
        refine fs_goto (tgt := 38) dd_X12_rest_86 (by decide) ?_
        refine fs_weak (ls2 := [.ref 196, .int v1, .int v2, .int x9]) (fz_le_e (fz_le_e (fz_le_e (fz_le_e fz_le_n)))) ?_
        exact hK38 H
      · replace H := H.2 (bi_1 hc)
        refine fs_aload_n (k0 := 0) (i := 0) dd_X12_rest_64 rfl rfl ?_
        refine fs_iload_n (k0 := 2) (i := 2) dd_X12_rest_65 rfl rfl ?_
        refine fs_iload_n (k0 := 3) (i := 3) dd_X12_rest_66 rfl rfl ?_
        refine fs_callV (y := m_X12_isRest) (as := [.int v2, .int v3]) dd_X12_rest_67 me_X12_isRest lk_X12_548 in_X12_isRest se_X12_isRest ca_196 rfl rfl rfl (Nat.le_of_ble_eq_true rfl) (Nat.le_of_ble_eq_true rfl) rfl (V_X12_isRest (by omega)  H) (k2_Z fun r10 s11 H => ?_)
        refine fs_if_eq (tgt := 83) dd_X12_rest_70 (by decide) (fun hc => ?_) (fun hc => ?_)
        · replace H := H.1 (bi_0 hc)
          refine fs_iincN (i := 3) (m := 1) (c := 1) dd_X12_rest_83 rfl (by decide) (by decide) (fun x12 hx12 => ?_)
          replace H := H x12 hx12
          refine fs_goto (tgt := 38) dd_X12_rest_86 (by decide) ?_
          refine fs_weak (ls2 := [.ref 196, .int v1, .int v2, .int x12]) (fz_le_e (fz_le_e (fz_le_e (fz_le_e fz_le_n)))) ?_
          exact hK38 H
        · replace H := H.2 (bi_1 hc)
          refine fs_iload_n (k0 := 1) (i := 1) dd_X12_rest_73 rfl rfl ?_
          refine fs_if_ne (tgt := 81) dd_X12_rest_74 (by decide) (fun hc => ?_) (fun hc => ?_)
          · replace H := H.1 hc
            refine fs_iload_n (k0 := 3) (i := 3) dd_X12_rest_81 rfl rfl ?_
            exact fs_iret dd_X12_rest_82 rfl H
          · replace H := H.2 hc
            refine fs_iload_n (k0 := 2) (i := 2) dd_X12_rest_77 rfl rfl ?_
            refine fs_goto (tgt := 82) dd_X12_rest_78 (by decide) ?_
            exact fs_iret dd_X12_rest_82 rfl H
set_option maxRecDepth 100000 in
set_option maxHeartbeats 4000000 in
theorem V_lp_X12_rest_38 {g : fz_G} {l : Launch} {d : Nat} (hD : 9 ≤ d)   {K28 : Int32 → Int32 → fz_s → Prop} {Q : Int32 → fz_s → Prop} (hK28 : ∀ {v1 : Int32} {v2 : Int32} {s : fz_s}, K28 v1 v2 s → fs_V g l m_X12_rest d false 28 [.ref 196, .int v1, .int v2, fz_J] [] s (rI Q)) (n : Nat) : ∀ {v1 : Int32} {v2 : Int32} {v3 : Int32} {s : fz_s}, lp_X12_rest_38  K28 Q n v1 v2 v3 s → fs_V g l m_X12_rest d false 38 [.ref 196, .int v1, .int v2, .int v3] [] s (rI Q) := by
  induction n with
  | zero => intro v1 v2 v3 s H; exact H.elim
  | succ n ih => intro v1 v2 v3 s H; exact V_nd_X12_rest_38 hD  hK28 (fun H => ih H) H
set_option maxRecDepth 100000 in
set_option maxHeartbeats 4000000 in
theorem V_nd_X12_rest_28 {g : fz_G} {l : Launch} {d : Nat} (hD : 9 ≤ d)   {K28 : Int32 → Int32 → fz_s → Prop} {Q : Int32 → fz_s → Prop} {v1 : Int32} {v2 : Int32} {s : fz_s} (hK28 : ∀ {v1 : Int32} {v2 : Int32} {s : fz_s}, K28 v1 v2 s → fs_V g l m_X12_rest d false 28 [.ref 196, .int v1, .int v2, fz_J] [] s (rI Q)) (H : nd_X12_rest_28  K28 Q v1 v2 s) : fs_V g l m_X12_rest d false 28 [.ref 196, .int v1, .int v2, fz_J] [] s (rI Q) := by
  obtain ⟨d, rfl⟩ : ∃ e, d = e + 1 := ⟨d - 1, by omega⟩
  unfold nd_X12_rest_28 at H
  refine fs_iload_n (k0 := 2) (i := 2) dd_X12_rest_28 rfl rfl ?_
  refine fs_aload_n (k0 := 0) (i := 0) dd_X12_rest_29 rfl rfl ?_
  refine fs_callV (y := m_X12_personMany) (as := []) dd_X12_rest_30 me_X12_personMany lk_X12_402 in_X12_personMany se_X12_personMany ca_196 rfl rfl rfl (Nat.le_of_ble_eq_true rfl) (Nat.le_of_ble_eq_true rfl) rfl (V_X12_personMany (by omega)  H) (k2_I fun r1 s2 H => ?_)
  refine fs_icmp_ge (tgt := 95) dd_X12_rest_33 (by decide) (fun hc => ?_) (fun hc => ?_)
  · replace H := H.1 hc
    refine fs_iconst (n := -1) (v := -1) dd_X12_rest_95 (by decide) ?_
    exact fs_iret dd_X12_rest_96 rfl H
  · replace H := H.2 hc
    refine fs_iconst (n := 0) (v := 0) dd_X12_rest_36 (by decide) ?_
    refine fs_istore_n (k0 := 3) (i := 3) dd_X12_rest_37 rfl (by decide) ?_
    refine fs_weak (ls2 := [.ref 196, .int v1, .int v2, .int 0]) (fz_le_e (fz_le_e (fz_le_e (fz_le_e fz_le_n)))) ?_
    exact V_lp_X12_rest_38 hD   hK28 2048 H
set_option maxRecDepth 100000 in
set_option maxHeartbeats 4000000 in
theorem V_lp_X12_rest_28 {g : fz_G} {l : Launch} {d : Nat} (hD : 9 ≤ d)    {Q : Int32 → fz_s → Prop}  (n : Nat) : ∀ {v1 : Int32} {v2 : Int32} {s : fz_s}, lp_X12_rest_28   Q n v1 v2 s → fs_V g l m_X12_rest d false 28 [.ref 196, .int v1, .int v2, fz_J] [] s (rI Q) := by
  induction n with
  | zero => intro v1 v2 s H; exact H.elim
  | succ n ih => intro v1 v2 s H; exact V_nd_X12_rest_28 hD  (fun H => ih H) H
set_option maxRecDepth 100000 in
set_option maxHeartbeats 4000000 in
theorem V_X12_rest {g : fz_G} {l : Launch} {d : Nat} (hD : 9 ≤ d) {p0 : Int32}  {s : fz_s} {Q : Int32 → fz_s → Prop} (H : wp_X12_rest p0 s Q) : fs_V g l m_X12_rest d false 0 (fz_en [.ref 196, .int p0] 4) [] s (rI Q) := by
  obtain ⟨d, rfl⟩ : ∃ e, d = e + 1 := ⟨d - 1, by omega⟩
  unfold wp_X12_rest at H
  refine fs_aload_n (k0 := 0) (i := 0) dd_X12_rest_0 rfl rfl ?_
  refine fs_iconst (n := 1) (v := 1) dd_X12_rest_1 (by decide) ?_
  refine fs_iconst (n := 1) (v := 1) dd_X12_rest_2 (by decide) ?_
  refine fs_iconst (n := 1) (v := 1) dd_X12_rest_3 (by decide) ?_
  refine fs_callV (y := m_X12_isAhead) (as := [.int 1, .int 1, .int 1]) dd_X12_rest_4 me_X12_isAhead lk_X12_525 in_X12_isAhead se_X12_isAhead ca_196 rfl rfl rfl (Nat.le_of_ble_eq_true rfl) (Nat.le_of_ble_eq_true rfl) rfl (V_X12_isAhead (by omega)  H) (k2_Z fun r1 s2 H => ?_)
  refine fs_if_eq (tgt := 20) dd_X12_rest_7 (by decide) (fun hc => ?_) (fun hc => ?_)
  · replace H := H.1 (bi_0 hc)
    refine fs_iconst (n := -1) (v := -1) dd_X12_rest_20 (by decide) ?_
    exact fs_iret dd_X12_rest_21 rfl H
  · replace H := H.2 (bi_1 hc)
    refine fs_iload_n (k0 := 1) (i := 1) dd_X12_rest_10 rfl rfl ?_
    refine fs_i2l dd_X12_rest_11 ?_
    refine fs_lconst (n := 0) (v := 0) dd_X12_rest_12 (by decide) ?_
    refine fs_lconst (n := 1) (v := 1) dd_X12_rest_13 (by decide) ?_
    refine fs_callS (y := m_X12_isIn) (as := [.long p0.toInt64, .long 0, .long 1]) dd_X12_rest_14 me_X12_isIn (Or.inl lk_X12_295) st_X12_isIn rfl (Nat.le_of_ble_eq_true rfl) (Nat.le_of_ble_eq_true rfl) rfl (V_X12_isIn (by omega)  H) (k2_Z fun r3 s4 H => ?_)
    refine fs_if_ne (tgt := 22) dd_X12_rest_17 (by decide) (fun hc => ?_) (fun hc => ?_)
    · replace H := H.1 (bi_1 hc)
      refine fs_aload_n (k0 := 0) (i := 0) dd_X12_rest_22 rfl rfl ?_
      refine fs_callV (y := m_X12_laysHarvests) (as := []) dd_X12_rest_23 me_X12_laysHarvests lk_X12_541 in_X12_laysHarvests se_X12_laysHarvests ca_196 rfl rfl rfl (Nat.le_of_ble_eq_true rfl) (Nat.le_of_ble_eq_true rfl) rfl (V_X12_laysHarvests (by omega)  H) (k2_V fun s6 H => ?_)
      refine fs_iconst (n := 0) (v := 0) dd_X12_rest_26 (by decide) ?_
      refine fs_istore_n (k0 := 2) (i := 2) dd_X12_rest_27 rfl (by decide) ?_
      refine fs_weak (ls2 := [.ref 196, .int p0, .int 0, fz_J]) (fz_le_e (fz_le_e (fz_le_e (fz_le_j fz_le_n)))) ?_
      exact V_lp_X12_rest_28 hD    2048 H
    · replace H := H.2 (bi_0 hc)
      refine fs_iconst (n := -1) (v := -1) dd_X12_rest_20 (by decide) ?_
      exact fs_iret dd_X12_rest_21 rfl H
theorem dd_X12_laysYes_0 : decode m_X12_laysYes.2.1 0 = .ok (.aload_n 0, 1) := by decide +kernel
theorem dd_X12_laysYes_1 : decode m_X12_laysYes.2.1 1 = .ok (.iconst 0, 1) := by decide +kernel
theorem dd_X12_laysYes_2 : decode m_X12_laysYes.2.1 2 = .ok (.putfield 551, 3) := by decide +kernel
theorem dd_X12_laysYes_5 : decode m_X12_laysYes.2.1 5 = .ok (.iconst 0, 1) := by decide +kernel
theorem dd_X12_laysYes_6 : decode m_X12_laysYes.2.1 6 = .ok (.istore_n 1, 1) := by decide +kernel
theorem dd_X12_laysYes_7 : decode m_X12_laysYes.2.1 7 = .ok (.iload_n 1, 1) := by decide +kernel
theorem dd_X12_laysYes_8 : decode m_X12_laysYes.2.1 8 = .ok (.aload_n 0, 1) := by decide +kernel
theorem dd_X12_laysYes_9 : decode m_X12_laysYes.2.1 9 = .ok (.invokevirtual 402, 3) := by decide +kernel
theorem dd_X12_laysYes_12 : decode m_X12_laysYes.2.1 12 = .ok (.if_icmp .ge 29, 3) := by decide +kernel
theorem dd_X12_laysYes_15 : decode m_X12_laysYes.2.1 15 = .ok (.aload_n 0, 1) := by decide +kernel
theorem dd_X12_laysYes_16 : decode m_X12_laysYes.2.1 16 = .ok (.iload_n 1, 1) := by decide +kernel
theorem dd_X12_laysYes_17 : decode m_X12_laysYes.2.1 17 = .ok (.invokevirtual 487, 3) := by decide +kernel
theorem dd_X12_laysYes_20 : decode m_X12_laysYes.2.1 20 = .ok (.ifCond .eq 15, 3) := by decide +kernel
theorem dd_X12_laysYes_23 : decode m_X12_laysYes.2.1 23 = .ok (.aload_n 0, 1) := by decide +kernel
theorem dd_X12_laysYes_24 : decode m_X12_laysYes.2.1 24 = .ok (.dup, 1) := by decide +kernel
theorem dd_X12_laysYes_25 : decode m_X12_laysYes.2.1 25 = .ok (.getfield 551, 3) := by decide +kernel
theorem dd_X12_laysYes_28 : decode m_X12_laysYes.2.1 28 = .ok (.iconst 1, 1) := by decide +kernel
theorem dd_X12_laysYes_29 : decode m_X12_laysYes.2.1 29 = .ok (.iload_n 1, 1) := by decide +kernel
theorem dd_X12_laysYes_30 : decode m_X12_laysYes.2.1 30 = .ok (.ishl, 1) := by decide +kernel
theorem dd_X12_laysYes_31 : decode m_X12_laysYes.2.1 31 = .ok (.ior, 1) := by decide +kernel
theorem dd_X12_laysYes_32 : decode m_X12_laysYes.2.1 32 = .ok (.putfield 551, 3) := by decide +kernel
theorem dd_X12_laysYes_35 : decode m_X12_laysYes.2.1 35 = .ok (.iinc 1 1, 3) := by decide +kernel
theorem dd_X12_laysYes_38 : decode m_X12_laysYes.2.1 38 = .ok (.goto (-31), 3) := by decide +kernel
theorem dd_X12_laysYes_41 : decode m_X12_laysYes.2.1 41 = .ok (.iconst 0, 1) := by decide +kernel
theorem dd_X12_laysYes_42 : decode m_X12_laysYes.2.1 42 = .ok (.istore_n 1, 1) := by decide +kernel
theorem dd_X12_laysYes_43 : decode m_X12_laysYes.2.1 43 = .ok (.iload_n 1, 1) := by decide +kernel
theorem dd_X12_laysYes_44 : decode m_X12_laysYes.2.1 44 = .ok (.bipush 27, 2) := by decide +kernel
theorem dd_X12_laysYes_46 : decode m_X12_laysYes.2.1 46 = .ok (.if_icmp .ge 85, 3) := by decide +kernel
theorem dd_X12_laysYes_49 : decode m_X12_laysYes.2.1 49 = .ok (.aload_n 0, 1) := by decide +kernel
theorem dd_X12_laysYes_50 : decode m_X12_laysYes.2.1 50 = .ok (.getfield 139, 3) := by decide +kernel
theorem dd_X12_laysYes_53 : decode m_X12_laysYes.2.1 53 = .ok (.iload_n 1, 1) := by decide +kernel
theorem dd_X12_laysYes_54 : decode m_X12_laysYes.2.1 54 = .ok (.iconst 0, 1) := by decide +kernel
theorem dd_X12_laysYes_55 : decode m_X12_laysYes.2.1 55 = .ok (.iastore, 1) := by decide +kernel
theorem dd_X12_laysYes_56 : decode m_X12_laysYes.2.1 56 = .ok (.iconst 0, 1) := by decide +kernel
theorem dd_X12_laysYes_57 : decode m_X12_laysYes.2.1 57 = .ok (.istore_n 2, 1) := by decide +kernel
theorem dd_X12_laysYes_58 : decode m_X12_laysYes.2.1 58 = .ok (.iload_n 2, 1) := by decide +kernel
theorem dd_X12_laysYes_59 : decode m_X12_laysYes.2.1 59 = .ok (.aload_n 0, 1) := by decide +kernel
theorem dd_X12_laysYes_60 : decode m_X12_laysYes.2.1 60 = .ok (.invokevirtual 402, 3) := by decide +kernel
theorem dd_X12_laysYes_63 : decode m_X12_laysYes.2.1 63 = .ok (.if_icmp .ge 62, 3) := by decide +kernel
theorem dd_X12_laysYes_66 : decode m_X12_laysYes.2.1 66 = .ok (.iload_n 1, 1) := by decide +kernel
theorem dd_X12_laysYes_67 : decode m_X12_laysYes.2.1 67 = .ok (.bipush 9, 2) := by decide +kernel
theorem dd_X12_laysYes_69 : decode m_X12_laysYes.2.1 69 = .ok (.if_icmp .ge 11, 3) := by decide +kernel
theorem dd_X12_laysYes_72 : decode m_X12_laysYes.2.1 72 = .ok (.aload_n 0, 1) := by decide +kernel
theorem dd_X12_laysYes_73 : decode m_X12_laysYes.2.1 73 = .ok (.iload_n 2, 1) := by decide +kernel
theorem dd_X12_laysYes_74 : decode m_X12_laysYes.2.1 74 = .ok (.invokevirtual 442, 3) := by decide +kernel
theorem dd_X12_laysYes_77 : decode m_X12_laysYes.2.1 77 = .ok (.goto 19, 3) := by decide +kernel
theorem dd_X12_laysYes_80 : decode m_X12_laysYes.2.1 80 = .ok (.aload_n 0, 1) := by decide +kernel
theorem dd_X12_laysYes_81 : decode m_X12_laysYes.2.1 81 = .ok (.getfield 106, 3) := by decide +kernel
theorem dd_X12_laysYes_84 : decode m_X12_laysYes.2.1 84 = .ok (.bipush 24, 2) := by decide +kernel
theorem dd_X12_laysYes_86 : decode m_X12_laysYes.2.1 86 = .ok (.iconst 3, 1) := by decide +kernel
theorem dd_X12_laysYes_87 : decode m_X12_laysYes.2.1 87 = .ok (.iload_n 2, 1) := by decide +kernel
theorem dd_X12_laysYes_88 : decode m_X12_laysYes.2.1 88 = .ok (.imul, 1) := by decide +kernel
theorem dd_X12_laysYes_89 : decode m_X12_laysYes.2.1 89 = .ok (.iadd, 1) := by decide +kernel
theorem dd_X12_laysYes_90 : decode m_X12_laysYes.2.1 90 = .ok (.iload_n 1, 1) := by decide +kernel
theorem dd_X12_laysYes_91 : decode m_X12_laysYes.2.1 91 = .ok (.bipush 9, 2) := by decide +kernel
theorem dd_X12_laysYes_93 : decode m_X12_laysYes.2.1 93 = .ok (.idiv, 1) := by decide +kernel
theorem dd_X12_laysYes_94 : decode m_X12_laysYes.2.1 94 = .ok (.iadd, 1) := by decide +kernel
theorem dd_X12_laysYes_95 : decode m_X12_laysYes.2.1 95 = .ok (.iaload, 1) := by decide +kernel
theorem dd_X12_laysYes_96 : decode m_X12_laysYes.2.1 96 = .ok (.istore_n 3, 1) := by decide +kernel
theorem dd_X12_laysYes_97 : decode m_X12_laysYes.2.1 97 = .ok (.iload_n 3, 1) := by decide +kernel
theorem dd_X12_laysYes_98 : decode m_X12_laysYes.2.1 98 = .ok (.iload_n 1, 1) := by decide +kernel
theorem dd_X12_laysYes_99 : decode m_X12_laysYes.2.1 99 = .ok (.bipush 9, 2) := by decide +kernel
theorem dd_X12_laysYes_101 : decode m_X12_laysYes.2.1 101 = .ok (.irem, 1) := by decide +kernel
theorem dd_X12_laysYes_102 : decode m_X12_laysYes.2.1 102 = .ok (.iconst 1, 1) := by decide +kernel
theorem dd_X12_laysYes_103 : decode m_X12_laysYes.2.1 103 = .ok (.iadd, 1) := by decide +kernel
theorem dd_X12_laysYes_104 : decode m_X12_laysYes.2.1 104 = .ok (.if_icmp .ge 15, 3) := by decide +kernel
theorem dd_X12_laysYes_107 : decode m_X12_laysYes.2.1 107 = .ok (.aload_n 0, 1) := by decide +kernel
theorem dd_X12_laysYes_108 : decode m_X12_laysYes.2.1 108 = .ok (.getfield 139, 3) := by decide +kernel
theorem dd_X12_laysYes_111 : decode m_X12_laysYes.2.1 111 = .ok (.iload_n 1, 1) := by decide +kernel
theorem dd_X12_laysYes_112 : decode m_X12_laysYes.2.1 112 = .ok (.dup2, 1) := by decide +kernel
theorem dd_X12_laysYes_113 : decode m_X12_laysYes.2.1 113 = .ok (.iaload, 1) := by decide +kernel
theorem dd_X12_laysYes_114 : decode m_X12_laysYes.2.1 114 = .ok (.iconst 1, 1) := by decide +kernel
theorem dd_X12_laysYes_115 : decode m_X12_laysYes.2.1 115 = .ok (.iload_n 2, 1) := by decide +kernel
theorem dd_X12_laysYes_116 : decode m_X12_laysYes.2.1 116 = .ok (.ishl, 1) := by decide +kernel
theorem dd_X12_laysYes_117 : decode m_X12_laysYes.2.1 117 = .ok (.ior, 1) := by decide +kernel
theorem dd_X12_laysYes_118 : decode m_X12_laysYes.2.1 118 = .ok (.iastore, 1) := by decide +kernel
theorem dd_X12_laysYes_119 : decode m_X12_laysYes.2.1 119 = .ok (.iinc 2 1, 3) := by decide +kernel
theorem dd_X12_laysYes_122 : decode m_X12_laysYes.2.1 122 = .ok (.goto (-64), 3) := by decide +kernel
theorem dd_X12_laysYes_125 : decode m_X12_laysYes.2.1 125 = .ok (.iinc 1 1, 3) := by decide +kernel
theorem dd_X12_laysYes_128 : decode m_X12_laysYes.2.1 128 = .ok (.goto (-85), 3) := by decide +kernel
theorem dd_X12_laysYes_131 : decode m_X12_laysYes.2.1 131 = .ok (.return_, 1) := by decide +kernel
def nd_X12_laysYes_96  (K43 : Int32 → fz_s → Prop) (K58 : Int32 → Int32 → fz_s → Prop) (Q : fz_s → Prop) (v1 : Int32) (v2 : Int32) (u0 : Int32) (s : fz_s) : Prop :=
  ((((v1 - v1 / 9 * 9) + 1) ≤ u0 → ∀ x1 : Int32, x1 = v2 + 1 → K58 v1 x1 s) ∧ (¬ ((v1 - v1 / 9 * 9) + 1) ≤ u0 → vp_in v1 27 ∧ vp_in v1 27 ∧ ∀ s2 : fz_s, s2 = si s 238 v1.toNatClampNeg ((s.1 238 v1.toNatClampNeg) ||| (1 <<< (v2 &&& 31))) → ∀ x3 : Int32, x3 = v2 + 1 → K58 v1 x3 s2))
def nd_X12_laysYes_58  (K43 : Int32 → fz_s → Prop) (K58 : Int32 → Int32 → fz_s → Prop) (Q : fz_s → Prop) (v1 : Int32) (v2 : Int32) (s : fz_s) : Prop :=
  wp_X12_personMany  s (fun r1 s2 => ((r1 ≤ v2 → ∀ x3 : Int32, x3 = v1 + 1 → K43 x3 s2) ∧ (¬ r1 ≤ v2 → ((9 ≤ v1 → vp_in ((24 + (3 * v2)) + (v1 / 9)) 48 ∧ nd_X12_laysYes_96  K43 K58 Q v1 v2 (s2.1 227 ((24 + (3 * v2)) + (v1 / 9)).toNatClampNeg) s2) ∧ (¬ 9 ≤ v1 → wp_X12_witsOf v2 s2 (fun r4 s5 => nd_X12_laysYes_96  K43 K58 Q v1 v2 r4 s5))))))
def lp_X12_laysYes_58  (K43 : Int32 → fz_s → Prop) (Q : fz_s → Prop) : Nat → Int32 → Int32 → fz_s → Prop
  | 0 => fun _ _ _ => False
  | n + 1 => nd_X12_laysYes_58  K43 (lp_X12_laysYes_58  K43 Q n) Q
def nd_X12_laysYes_43  (K43 : Int32 → fz_s → Prop) (Q : fz_s → Prop) (v1 : Int32) (s : fz_s) : Prop :=
  ((27 ≤ v1 → Q s) ∧ (¬ 27 ≤ v1 → vp_in v1 27 ∧ ∀ s1 : fz_s, s1 = si s 238 v1.toNatClampNeg 0 → lp_X12_laysYes_58  K43 Q 2048 v1 0 s1))
def lp_X12_laysYes_43   (Q : fz_s → Prop) : Nat → Int32 → fz_s → Prop
  | 0 => fun _ _ => False
  | n + 1 => nd_X12_laysYes_43  (lp_X12_laysYes_43   Q n) Q
def nd_X12_laysYes_7  (K7 : Int32 → fz_s → Prop) (Q : fz_s → Prop) (v1 : Int32) (s : fz_s) : Prop :=
  wp_X12_personMany  s (fun r1 s2 => ((r1 ≤ v1 → lp_X12_laysYes_43   Q 2048 0 s2) ∧ (¬ r1 ≤ v1 → wp_X12_doesPass v1 s2 (fun r3 s4 => ((r3 = false → ∀ x5 : Int32, x5 = v1 + 1 → K7 x5 s4) ∧ (r3 = true → ∀ s6 : fz_s, s6 = si s4 196 64 ((s4.1 196 64) ||| (1 <<< (v1 &&& 31))) → ∀ x7 : Int32, x7 = v1 + 1 → K7 x7 s6))))))
def lp_X12_laysYes_7   (Q : fz_s → Prop) : Nat → Int32 → fz_s → Prop
  | 0 => fun _ _ => False
  | n + 1 => nd_X12_laysYes_7  (lp_X12_laysYes_7   Q n) Q
def wp_X12_laysYes  (s : fz_s) (Q : fz_s → Prop) : Prop :=
  ∀ s1 : fz_s, s1 = si s 196 64 0 → lp_X12_laysYes_7   Q 2048 0 s1
set_option maxRecDepth 100000 in
set_option maxHeartbeats 4000000 in
theorem V_nd_X12_laysYes_96 {g : fz_G} {l : Launch} {d : Nat} (hD : 6 ≤ d)   {K43 : Int32 → fz_s → Prop} {K58 : Int32 → Int32 → fz_s → Prop} {Q : fz_s → Prop} {v1 : Int32} {v2 : Int32} {u0 : Int32} {s : fz_s} (hK43 : ∀ {v1 : Int32} {s : fz_s}, K43 v1 s → fs_V g l m_X12_laysYes d false 43 [.ref 196, .int v1, fz_J, fz_J] [] s (rV Q)) (hK58 : ∀ {v1 : Int32} {v2 : Int32} {s : fz_s}, K58 v1 v2 s → fs_V g l m_X12_laysYes d false 58 [.ref 196, .int v1, .int v2, fz_J] [] s (rV Q)) (H : nd_X12_laysYes_96  K43 K58 Q v1 v2 u0 s) : fs_V g l m_X12_laysYes d false 96 [.ref 196, .int v1, .int v2, fz_J] [.int u0] s (rV Q) := by
  obtain ⟨d, rfl⟩ : ∃ e, d = e + 1 := ⟨d - 1, by omega⟩
  unfold nd_X12_laysYes_96 at H
  refine fs_istore_n (k0 := 3) (i := 3) dd_X12_laysYes_96 rfl (by decide) ?_
  refine fs_iload_n (k0 := 3) (i := 3) dd_X12_laysYes_97 rfl rfl ?_
  refine fs_iload_n (k0 := 1) (i := 1) dd_X12_laysYes_98 rfl rfl ?_
  refine fs_bipush (n := 9) (v := 9) dd_X12_laysYes_99 (by decide) ?_
  refine fs_irem dd_X12_laysYes_101 (by decide) ?_
  refine fs_iconst (n := 1) (v := 1) dd_X12_laysYes_102 (by decide) ?_
  refine fs_iadd dd_X12_laysYes_103 ?_
  refine fs_icmp_ge (tgt := 119) dd_X12_laysYes_104 (by decide) (fun hc => ?_) (fun hc => ?_)
  · replace H := H.1 hc
    refine fs_iincN (i := 2) (m := 1) (c := 1) dd_X12_laysYes_119 rfl (by decide) (by decide) (fun x1 hx1 => ?_)
    replace H := H x1 hx1
    refine fs_goto (tgt := 58) dd_X12_laysYes_122 (by decide) ?_
    refine fs_weak (ls2 := [.ref 196, .int v1, .int x1, fz_J]) (fz_le_e (fz_le_e (fz_le_e (fz_le_j fz_le_n)))) ?_
    exact hK58 H
  · replace H := H.2 hc
    refine fs_aload_n (k0 := 0) (i := 0) dd_X12_laysYes_107 rfl rfl ?_
    refine fs_getr (ci := 12) (j := 63) (q := 238) dd_X12_laysYes_108 fl_X12_139 ca_196 rfl (Or.inr ⟨_, rfl⟩) rfl (by decide) ?_
    refine fs_iload_n (k0 := 1) (i := 1) dd_X12_laysYes_111 rfl rfl ?_
    refine fs_dup2 dd_X12_laysYes_112 rfl rfl ?_
    have hb := H.1
    replace H := H.2
    refine fs_iald dd_X12_laysYes_113 ca_238 hb ?_
    refine fs_iconst (n := 1) (v := 1) dd_X12_laysYes_114 (by decide) ?_
    refine fs_iload_n (k0 := 2) (i := 2) dd_X12_laysYes_115 rfl rfl ?_
    refine fs_ishl dd_X12_laysYes_116 ?_
    refine fs_ior dd_X12_laysYes_117 ?_
    have hb := H.1
    replace H := H.2
    refine fs_iast dd_X12_laysYes_118 ca_238 hb ?_
    refine fs_tops (fun s2 hs2 => ?_)
    replace H := H s2 hs2
    refine fs_iincN (i := 2) (m := 1) (c := 1) dd_X12_laysYes_119 rfl (by decide) (by decide) (fun x3 hx3 => ?_)
    replace H := H x3 hx3
    refine fs_goto (tgt := 58) dd_X12_laysYes_122 (by decide) ?_
    refine fs_weak (ls2 := [.ref 196, .int v1, .int x3, fz_J]) (fz_le_e (fz_le_e (fz_le_e (fz_le_j fz_le_n)))) ?_
    exact hK58 H
set_option maxRecDepth 100000 in
set_option maxHeartbeats 4000000 in
theorem V_nd_X12_laysYes_58 {g : fz_G} {l : Launch} {d : Nat} (hD : 6 ≤ d)   {K43 : Int32 → fz_s → Prop} {K58 : Int32 → Int32 → fz_s → Prop} {Q : fz_s → Prop} {v1 : Int32} {v2 : Int32} {s : fz_s} (hK43 : ∀ {v1 : Int32} {s : fz_s}, K43 v1 s → fs_V g l m_X12_laysYes d false 43 [.ref 196, .int v1, fz_J, fz_J] [] s (rV Q)) (hK58 : ∀ {v1 : Int32} {v2 : Int32} {s : fz_s}, K58 v1 v2 s → fs_V g l m_X12_laysYes d false 58 [.ref 196, .int v1, .int v2, fz_J] [] s (rV Q)) (H : nd_X12_laysYes_58  K43 K58 Q v1 v2 s) : fs_V g l m_X12_laysYes d false 58 [.ref 196, .int v1, .int v2, fz_J] [] s (rV Q) := by
  obtain ⟨d, rfl⟩ : ∃ e, d = e + 1 := ⟨d - 1, by omega⟩
  unfold nd_X12_laysYes_58 at H
  refine fs_iload_n (k0 := 2) (i := 2) dd_X12_laysYes_58 rfl rfl ?_
  refine fs_aload_n (k0 := 0) (i := 0) dd_X12_laysYes_59 rfl rfl ?_
  refine fs_callV (y := m_X12_personMany) (as := []) dd_X12_laysYes_60 me_X12_personMany lk_X12_402 in_X12_personMany se_X12_personMany ca_196 rfl rfl rfl (Nat.le_of_ble_eq_true rfl) (Nat.le_of_ble_eq_true rfl) rfl (V_X12_personMany (by omega)  H) (k2_I fun r1 s2 H => ?_)
  refine fs_icmp_ge (tgt := 125) dd_X12_laysYes_63 (by decide) (fun hc => ?_) (fun hc => ?_)
  · replace H := H.1 hc
    refine fs_iincN (i := 1) (m := 1) (c := 1) dd_X12_laysYes_125 rfl (by decide) (by decide) (fun x3 hx3 => ?_)
    replace H := H x3 hx3
    refine fs_goto (tgt := 43) dd_X12_laysYes_128 (by decide) ?_
    refine fs_weak (ls2 := [.ref 196, .int x3, fz_J, fz_J]) (fz_le_e (fz_le_e (fz_le_j (fz_le_j fz_le_n)))) ?_
    exact hK43 H
  · replace H := H.2 hc
    refine fs_iload_n (k0 := 1) (i := 1) dd_X12_laysYes_66 rfl rfl ?_
    refine fs_bipush (n := 9) (v := 9) dd_X12_laysYes_67 (by decide) ?_
    refine fs_icmp_ge (tgt := 80) dd_X12_laysYes_69 (by decide) (fun hc => ?_) (fun hc => ?_)
    · replace H := H.1 hc
      refine fs_aload_n (k0 := 0) (i := 0) dd_X12_laysYes_80 rfl rfl ?_
      refine fs_getr (ci := 12) (j := 43) (q := 227) dd_X12_laysYes_81 fl_X12_106 ca_196 rfl (Or.inr ⟨_, rfl⟩) rfl (by decide) ?_
      refine fs_bipush (n := 24) (v := 24) dd_X12_laysYes_84 (by decide) ?_
      refine fs_iconst (n := 3) (v := 3) dd_X12_laysYes_86 (by decide) ?_
      refine fs_iload_n (k0 := 2) (i := 2) dd_X12_laysYes_87 rfl rfl ?_
      refine fs_imul dd_X12_laysYes_88 ?_
      refine fs_iadd dd_X12_laysYes_89 ?_
      refine fs_iload_n (k0 := 1) (i := 1) dd_X12_laysYes_90 rfl rfl ?_
      refine fs_bipush (n := 9) (v := 9) dd_X12_laysYes_91 (by decide) ?_
      refine fs_idiv dd_X12_laysYes_93 (by decide) ?_
      refine fs_iadd dd_X12_laysYes_94 ?_
      have hb := H.1
      replace H := H.2
      refine fs_iald dd_X12_laysYes_95 ca_227 hb ?_
      refine fs_weak (ls2 := [.ref 196, .int v1, .int v2, fz_J]) (fz_le_e (fz_le_e (fz_le_e (fz_le_j fz_le_n)))) ?_
      exact V_nd_X12_laysYes_96 hD   hK43 hK58 H
    · replace H := H.2 hc
      refine fs_aload_n (k0 := 0) (i := 0) dd_X12_laysYes_72 rfl rfl ?_
      refine fs_iload_n (k0 := 2) (i := 2) dd_X12_laysYes_73 rfl rfl ?_
      refine fs_callV (y := m_X12_witsOf) (as := [.int v2]) dd_X12_laysYes_74 me_X12_witsOf lk_X12_442 in_X12_witsOf se_X12_witsOf ca_196 rfl rfl rfl (Nat.le_of_ble_eq_true rfl) (Nat.le_of_ble_eq_true rfl) rfl (V_X12_witsOf (by omega)  H) (k2_I fun r4 s5 H => ?_)
      refine fs_goto (tgt := 96) dd_X12_laysYes_77 (by decide) ?_
      refine fs_weak (ls2 := [.ref 196, .int v1, .int v2, fz_J]) (fz_le_e (fz_le_e (fz_le_e (fz_le_j fz_le_n)))) ?_
      exact V_nd_X12_laysYes_96 hD   hK43 hK58 H
set_option maxRecDepth 100000 in
set_option maxHeartbeats 4000000 in
theorem V_lp_X12_laysYes_58 {g : fz_G} {l : Launch} {d : Nat} (hD : 6 ≤ d)   {K43 : Int32 → fz_s → Prop} {Q : fz_s → Prop} (hK43 : ∀ {v1 : Int32} {s : fz_s}, K43 v1 s → fs_V g l m_X12_laysYes d false 43 [.ref 196, .int v1, fz_J, fz_J] [] s (rV Q)) (n : Nat) : ∀ {v1 : Int32} {v2 : Int32} {s : fz_s}, lp_X12_laysYes_58  K43 Q n v1 v2 s → fs_V g l m_X12_laysYes d false 58 [.ref 196, .int v1, .int v2, fz_J] [] s (rV Q) := by
  induction n with
  | zero => intro v1 v2 s H; exact H.elim
  | succ n ih => intro v1 v2 s H; exact V_nd_X12_laysYes_58 hD  hK43 (fun H => ih H) H
set_option maxRecDepth 100000 in
set_option maxHeartbeats 4000000 in
theorem V_nd_X12_laysYes_43 {g : fz_G} {l : Launch} {d : Nat} (hD : 6 ≤ d)   {K43 : Int32 → fz_s → Prop} {Q : fz_s → Prop} {v1 : Int32} {s : fz_s} (hK43 : ∀ {v1 : Int32} {s : fz_s}, K43 v1 s → fs_V g l m_X12_laysYes d false 43 [.ref 196, .int v1, fz_J, fz_J] [] s (rV Q)) (H : nd_X12_laysYes_43  K43 Q v1 s) : fs_V g l m_X12_laysYes d false 43 [.ref 196, .int v1, fz_J, fz_J] [] s (rV Q) := by
  obtain ⟨d, rfl⟩ : ∃ e, d = e + 1 := ⟨d - 1, by omega⟩
  unfold nd_X12_laysYes_43 at H
  refine fs_iload_n (k0 := 1) (i := 1) dd_X12_laysYes_43 rfl rfl ?_
  refine fs_bipush (n := 27) (v := 27) dd_X12_laysYes_44 (by decide) ?_
  refine fs_icmp_ge (tgt := 131) dd_X12_laysYes_46 (by decide) (fun hc => ?_) (fun hc => ?_)
  · replace H := H.1 hc
    exact fs_vret dd_X12_laysYes_131 rfl H
  · replace H := H.2 hc
    refine fs_aload_n (k0 := 0) (i := 0) dd_X12_laysYes_49 rfl rfl ?_
    refine fs_getr (ci := 12) (j := 63) (q := 238) dd_X12_laysYes_50 fl_X12_139 ca_196 rfl (Or.inr ⟨_, rfl⟩) rfl (by decide) ?_
    refine fs_iload_n (k0 := 1) (i := 1) dd_X12_laysYes_53 rfl rfl ?_
    refine fs_iconst (n := 0) (v := 0) dd_X12_laysYes_54 (by decide) ?_
    have hb := H.1
    replace H := H.2
    refine fs_iast dd_X12_laysYes_55 ca_238 hb ?_
    refine fs_tops (fun s1 hs1 => ?_)
    replace H := H s1 hs1
    refine fs_iconst (n := 0) (v := 0) dd_X12_laysYes_56 (by decide) ?_
    refine fs_istore_n (k0 := 2) (i := 2) dd_X12_laysYes_57 rfl (by decide) ?_
    refine fs_weak (ls2 := [.ref 196, .int v1, .int 0, fz_J]) (fz_le_e (fz_le_e (fz_le_e (fz_le_j fz_le_n)))) ?_
    exact V_lp_X12_laysYes_58 hD   hK43 2048 H
set_option maxRecDepth 100000 in
set_option maxHeartbeats 4000000 in
theorem V_lp_X12_laysYes_43 {g : fz_G} {l : Launch} {d : Nat} (hD : 6 ≤ d)    {Q : fz_s → Prop}  (n : Nat) : ∀ {v1 : Int32} {s : fz_s}, lp_X12_laysYes_43   Q n v1 s → fs_V g l m_X12_laysYes d false 43 [.ref 196, .int v1, fz_J, fz_J] [] s (rV Q) := by
  induction n with
  | zero => intro v1 s H; exact H.elim
  | succ n ih => intro v1 s H; exact V_nd_X12_laysYes_43 hD  (fun H => ih H) H
set_option maxRecDepth 100000 in
set_option maxHeartbeats 4000000 in
theorem V_nd_X12_laysYes_7 {g : fz_G} {l : Launch} {d : Nat} (hD : 6 ≤ d)   {K7 : Int32 → fz_s → Prop} {Q : fz_s → Prop} {v1 : Int32} {s : fz_s} (hK7 : ∀ {v1 : Int32} {s : fz_s}, K7 v1 s → fs_V g l m_X12_laysYes d false 7 [.ref 196, .int v1, fz_J, fz_J] [] s (rV Q)) (H : nd_X12_laysYes_7  K7 Q v1 s) : fs_V g l m_X12_laysYes d false 7 [.ref 196, .int v1, fz_J, fz_J] [] s (rV Q) := by
  obtain ⟨d, rfl⟩ : ∃ e, d = e + 1 := ⟨d - 1, by omega⟩
  unfold nd_X12_laysYes_7 at H
  refine fs_iload_n (k0 := 1) (i := 1) dd_X12_laysYes_7 rfl rfl ?_
  refine fs_aload_n (k0 := 0) (i := 0) dd_X12_laysYes_8 rfl rfl ?_
  refine fs_callV (y := m_X12_personMany) (as := []) dd_X12_laysYes_9 me_X12_personMany lk_X12_402 in_X12_personMany se_X12_personMany ca_196 rfl rfl rfl (Nat.le_of_ble_eq_true rfl) (Nat.le_of_ble_eq_true rfl) rfl (V_X12_personMany (by omega)  H) (k2_I fun r1 s2 H => ?_)
  refine fs_icmp_ge (tgt := 41) dd_X12_laysYes_12 (by decide) (fun hc => ?_) (fun hc => ?_)
  · replace H := H.1 hc
    refine fs_iconst (n := 0) (v := 0) dd_X12_laysYes_41 (by decide) ?_
    refine fs_istore_n (k0 := 1) (i := 1) dd_X12_laysYes_42 rfl (by decide) ?_
    refine fs_weak (ls2 := [.ref 196, .int 0, fz_J, fz_J]) (fz_le_e (fz_le_e (fz_le_j (fz_le_j fz_le_n)))) ?_
    exact V_lp_X12_laysYes_43 hD    2048 H
  · replace H := H.2 hc
    refine fs_aload_n (k0 := 0) (i := 0) dd_X12_laysYes_15 rfl rfl ?_
    refine fs_iload_n (k0 := 1) (i := 1) dd_X12_laysYes_16 rfl rfl ?_
    refine fs_callV (y := m_X12_doesPass) (as := [.int v1]) dd_X12_laysYes_17 me_X12_doesPass lk_X12_487 in_X12_doesPass se_X12_doesPass ca_196 rfl rfl rfl (Nat.le_of_ble_eq_true rfl) (Nat.le_of_ble_eq_true rfl) rfl (V_X12_doesPass (by omega)  H) (k2_Z fun r3 s4 H => ?_)
    refine fs_if_eq (tgt := 35) dd_X12_laysYes_20 (by decide) (fun hc => ?_) (fun hc => ?_)
    · replace H := H.1 (bi_0 hc)
      refine fs_iincN (i := 1) (m := 1) (c := 1) dd_X12_laysYes_35 rfl (by decide) (by decide) (fun x5 hx5 => ?_)
      replace H := H x5 hx5
      refine fs_goto (tgt := 7) dd_X12_laysYes_38 (by decide) ?_
      refine fs_weak (ls2 := [.ref 196, .int x5, fz_J, fz_J]) (fz_le_e (fz_le_e (fz_le_j (fz_le_j fz_le_n)))) ?_
      exact hK7 H
    · replace H := H.2 (bi_1 hc)
      refine fs_aload_n (k0 := 0) (i := 0) dd_X12_laysYes_23 rfl rfl ?_
      refine fs_dup dd_X12_laysYes_24 rfl ?_
      refine fs_geti (ci := 12) (j := 64) dd_X12_laysYes_25 fl_X12_551 ca_196 rfl (Or.inl rfl) ?_
      refine fs_iconst (n := 1) (v := 1) dd_X12_laysYes_28 (by decide) ?_
      refine fs_iload_n (k0 := 1) (i := 1) dd_X12_laysYes_29 rfl rfl ?_
      refine fs_ishl dd_X12_laysYes_30 ?_
      refine fs_ior dd_X12_laysYes_31 ?_
      refine fs_puti (ci := 12) (j := 64) dd_X12_laysYes_32 fl_X12_551 (fun _ _ _ h => by cases h; rfl) ca_196 rfl (Or.inl rfl) ?_
      refine fs_tops (fun s6 hs6 => ?_)
      replace H := H s6 hs6
      refine fs_iincN (i := 1) (m := 1) (c := 1) dd_X12_laysYes_35 rfl (by decide) (by decide) (fun x7 hx7 => ?_)
      replace H := H x7 hx7
      refine fs_goto (tgt := 7) dd_X12_laysYes_38 (by decide) ?_
      refine fs_weak (ls2 := [.ref 196, .int x7, fz_J, fz_J]) (fz_le_e (fz_le_e (fz_le_j (fz_le_j fz_le_n)))) ?_
      exact hK7 H
set_option maxRecDepth 100000 in
set_option maxHeartbeats 4000000 in
theorem V_lp_X12_laysYes_7 {g : fz_G} {l : Launch} {d : Nat} (hD : 6 ≤ d)    {Q : fz_s → Prop}  (n : Nat) : ∀ {v1 : Int32} {s : fz_s}, lp_X12_laysYes_7   Q n v1 s → fs_V g l m_X12_laysYes d false 7 [.ref 196, .int v1, fz_J, fz_J] [] s (rV Q) := by
  induction n with
  | zero => intro v1 s H; exact H.elim
  | succ n ih => intro v1 s H; exact V_nd_X12_laysYes_7 hD  (fun H => ih H) H
set_option maxRecDepth 100000 in
set_option maxHeartbeats 4000000 in
theorem V_X12_laysYes {g : fz_G} {l : Launch} {d : Nat} (hD : 6 ≤ d)   {s : fz_s} {Q : fz_s → Prop} (H : wp_X12_laysYes  s Q) : fs_V g l m_X12_laysYes d false 0 (fz_en [.ref 196] 4) [] s (rV Q) := by
  obtain ⟨d, rfl⟩ : ∃ e, d = e + 1 := ⟨d - 1, by omega⟩
  unfold wp_X12_laysYes at H
  refine fs_aload_n (k0 := 0) (i := 0) dd_X12_laysYes_0 rfl rfl ?_
  refine fs_iconst (n := 0) (v := 0) dd_X12_laysYes_1 (by decide) ?_
  refine fs_puti (ci := 12) (j := 64) dd_X12_laysYes_2 fl_X12_551 (fun _ _ _ h => by cases h; rfl) ca_196 rfl (Or.inl rfl) ?_
  refine fs_tops (fun s1 hs1 => ?_)
  replace H := H s1 hs1
  refine fs_iconst (n := 0) (v := 0) dd_X12_laysYes_5 (by decide) ?_
  refine fs_istore_n (k0 := 1) (i := 1) dd_X12_laysYes_6 rfl (by decide) ?_
  refine fs_weak (ls2 := [.ref 196, .int 0, fz_J, fz_J]) (fz_le_e (fz_le_e (fz_le_j (fz_le_j fz_le_n)))) ?_
  exact V_lp_X12_laysYes_7 hD    2048 H
theorem dd_X12_doTell_0 : decode m_X12_doTell.2.1 0 = .ok (.iconst 0, 1) := by decide +kernel
theorem dd_X12_doTell_1 : decode m_X12_doTell.2.1 1 = .ok (.istore 4, 2) := by decide +kernel
theorem dd_X12_doTell_3 : decode m_X12_doTell.2.1 3 = .ok (.iload 4, 2) := by decide +kernel
theorem dd_X12_doTell_5 : decode m_X12_doTell.2.1 5 = .ok (.aload_n 0, 1) := by decide +kernel
theorem dd_X12_doTell_6 : decode m_X12_doTell.2.1 6 = .ok (.invokevirtual 402, 3) := by decide +kernel
theorem dd_X12_doTell_9 : decode m_X12_doTell.2.1 9 = .ok (.if_icmp .ge 105, 3) := by decide +kernel
theorem dd_X12_doTell_12 : decode m_X12_doTell.2.1 12 = .ok (.iconst 0, 1) := by decide +kernel
theorem dd_X12_doTell_13 : decode m_X12_doTell.2.1 13 = .ok (.istore 5, 2) := by decide +kernel
theorem dd_X12_doTell_15 : decode m_X12_doTell.2.1 15 = .ok (.iload 5, 2) := by decide +kernel
theorem dd_X12_doTell_17 : decode m_X12_doTell.2.1 17 = .ok (.iload 4, 2) := by decide +kernel
theorem dd_X12_doTell_19 : decode m_X12_doTell.2.1 19 = .ok (.if_icmp .ge 89, 3) := by decide +kernel
theorem dd_X12_doTell_22 : decode m_X12_doTell.2.1 22 = .ok (.aload_n 0, 1) := by decide +kernel
theorem dd_X12_doTell_23 : decode m_X12_doTell.2.1 23 = .ok (.getfield 551, 3) := by decide +kernel
theorem dd_X12_doTell_26 : decode m_X12_doTell.2.1 26 = .ok (.iload 4, 2) := by decide +kernel
theorem dd_X12_doTell_28 : decode m_X12_doTell.2.1 28 = .ok (.ishr, 1) := by decide +kernel
theorem dd_X12_doTell_29 : decode m_X12_doTell.2.1 29 = .ok (.iconst 1, 1) := by decide +kernel
theorem dd_X12_doTell_30 : decode m_X12_doTell.2.1 30 = .ok (.iand, 1) := by decide +kernel
theorem dd_X12_doTell_31 : decode m_X12_doTell.2.1 31 = .ok (.aload_n 0, 1) := by decide +kernel
theorem dd_X12_doTell_32 : decode m_X12_doTell.2.1 32 = .ok (.getfield 551, 3) := by decide +kernel
theorem dd_X12_doTell_35 : decode m_X12_doTell.2.1 35 = .ok (.iload 5, 2) := by decide +kernel
theorem dd_X12_doTell_37 : decode m_X12_doTell.2.1 37 = .ok (.ishr, 1) := by decide +kernel
theorem dd_X12_doTell_38 : decode m_X12_doTell.2.1 38 = .ok (.iconst 1, 1) := by decide +kernel
theorem dd_X12_doTell_39 : decode m_X12_doTell.2.1 39 = .ok (.iand, 1) := by decide +kernel
theorem dd_X12_doTell_40 : decode m_X12_doTell.2.1 40 = .ok (.if_icmp .eq 48, 3) := by decide +kernel
theorem dd_X12_doTell_43 : decode m_X12_doTell.2.1 43 = .ok (.iload_n 1, 1) := by decide +kernel
theorem dd_X12_doTell_44 : decode m_X12_doTell.2.1 44 = .ok (.iload 4, 2) := by decide +kernel
theorem dd_X12_doTell_46 : decode m_X12_doTell.2.1 46 = .ok (.ishr, 1) := by decide +kernel
theorem dd_X12_doTell_47 : decode m_X12_doTell.2.1 47 = .ok (.iconst 1, 1) := by decide +kernel
theorem dd_X12_doTell_48 : decode m_X12_doTell.2.1 48 = .ok (.iand, 1) := by decide +kernel
theorem dd_X12_doTell_49 : decode m_X12_doTell.2.1 49 = .ok (.iload_n 1, 1) := by decide +kernel
theorem dd_X12_doTell_50 : decode m_X12_doTell.2.1 50 = .ok (.iload 5, 2) := by decide +kernel
theorem dd_X12_doTell_52 : decode m_X12_doTell.2.1 52 = .ok (.ishr, 1) := by decide +kernel
theorem dd_X12_doTell_53 : decode m_X12_doTell.2.1 53 = .ok (.iconst 1, 1) := by decide +kernel
theorem dd_X12_doTell_54 : decode m_X12_doTell.2.1 54 = .ok (.iand, 1) := by decide +kernel
theorem dd_X12_doTell_55 : decode m_X12_doTell.2.1 55 = .ok (.if_icmp .ne 33, 3) := by decide +kernel
theorem dd_X12_doTell_58 : decode m_X12_doTell.2.1 58 = .ok (.iload_n 2, 1) := by decide +kernel
theorem dd_X12_doTell_59 : decode m_X12_doTell.2.1 59 = .ok (.iload 4, 2) := by decide +kernel
theorem dd_X12_doTell_61 : decode m_X12_doTell.2.1 61 = .ok (.ishr, 1) := by decide +kernel
theorem dd_X12_doTell_62 : decode m_X12_doTell.2.1 62 = .ok (.iconst 1, 1) := by decide +kernel
theorem dd_X12_doTell_63 : decode m_X12_doTell.2.1 63 = .ok (.iand, 1) := by decide +kernel
theorem dd_X12_doTell_64 : decode m_X12_doTell.2.1 64 = .ok (.iload_n 2, 1) := by decide +kernel
theorem dd_X12_doTell_65 : decode m_X12_doTell.2.1 65 = .ok (.iload 5, 2) := by decide +kernel
theorem dd_X12_doTell_67 : decode m_X12_doTell.2.1 67 = .ok (.ishr, 1) := by decide +kernel
theorem dd_X12_doTell_68 : decode m_X12_doTell.2.1 68 = .ok (.iconst 1, 1) := by decide +kernel
theorem dd_X12_doTell_69 : decode m_X12_doTell.2.1 69 = .ok (.iand, 1) := by decide +kernel
theorem dd_X12_doTell_70 : decode m_X12_doTell.2.1 70 = .ok (.if_icmp .ne 18, 3) := by decide +kernel
theorem dd_X12_doTell_73 : decode m_X12_doTell.2.1 73 = .ok (.iload_n 3, 1) := by decide +kernel
theorem dd_X12_doTell_74 : decode m_X12_doTell.2.1 74 = .ok (.iload 4, 2) := by decide +kernel
theorem dd_X12_doTell_76 : decode m_X12_doTell.2.1 76 = .ok (.ishr, 1) := by decide +kernel
theorem dd_X12_doTell_77 : decode m_X12_doTell.2.1 77 = .ok (.iconst 1, 1) := by decide +kernel
theorem dd_X12_doTell_78 : decode m_X12_doTell.2.1 78 = .ok (.iand, 1) := by decide +kernel
theorem dd_X12_doTell_79 : decode m_X12_doTell.2.1 79 = .ok (.iload_n 3, 1) := by decide +kernel
theorem dd_X12_doTell_80 : decode m_X12_doTell.2.1 80 = .ok (.iload 5, 2) := by decide +kernel
theorem dd_X12_doTell_82 : decode m_X12_doTell.2.1 82 = .ok (.ishr, 1) := by decide +kernel
theorem dd_X12_doTell_83 : decode m_X12_doTell.2.1 83 = .ok (.iconst 1, 1) := by decide +kernel
theorem dd_X12_doTell_84 : decode m_X12_doTell.2.1 84 = .ok (.iand, 1) := by decide +kernel
theorem dd_X12_doTell_85 : decode m_X12_doTell.2.1 85 = .ok (.if_icmp .eq 7, 3) := by decide +kernel
theorem dd_X12_doTell_88 : decode m_X12_doTell.2.1 88 = .ok (.iconst 1, 1) := by decide +kernel
theorem dd_X12_doTell_89 : decode m_X12_doTell.2.1 89 = .ok (.goto 4, 3) := by decide +kernel
theorem dd_X12_doTell_92 : decode m_X12_doTell.2.1 92 = .ok (.iconst 0, 1) := by decide +kernel
theorem dd_X12_doTell_93 : decode m_X12_doTell.2.1 93 = .ok (.istore 6, 2) := by decide +kernel
theorem dd_X12_doTell_95 : decode m_X12_doTell.2.1 95 = .ok (.iload 6, 2) := by decide +kernel
theorem dd_X12_doTell_97 : decode m_X12_doTell.2.1 97 = .ok (.ifCond .ne 5, 3) := by decide +kernel
theorem dd_X12_doTell_100 : decode m_X12_doTell.2.1 100 = .ok (.iconst 0, 1) := by decide +kernel
theorem dd_X12_doTell_101 : decode m_X12_doTell.2.1 101 = .ok (.ireturn, 1) := by decide +kernel
theorem dd_X12_doTell_102 : decode m_X12_doTell.2.1 102 = .ok (.iinc 5 1, 3) := by decide +kernel
theorem dd_X12_doTell_105 : decode m_X12_doTell.2.1 105 = .ok (.goto (-90), 3) := by decide +kernel
theorem dd_X12_doTell_108 : decode m_X12_doTell.2.1 108 = .ok (.iinc 4 1, 3) := by decide +kernel
theorem dd_X12_doTell_111 : decode m_X12_doTell.2.1 111 = .ok (.goto (-108), 3) := by decide +kernel
theorem dd_X12_doTell_114 : decode m_X12_doTell.2.1 114 = .ok (.iconst 1, 1) := by decide +kernel
theorem dd_X12_doTell_115 : decode m_X12_doTell.2.1 115 = .ok (.ireturn, 1) := by decide +kernel
def nd_X12_doTell_93  (K3 : Int32 → Int32 → Int32 → Int32 → fz_s → Prop) (K15 : Int32 → Int32 → Int32 → Int32 → Int32 → fz_s → Prop) (Q : Bool → fz_s → Prop) (v1 : Int32) (v2 : Int32) (v3 : Int32) (v4 : Int32) (v5 : Int32) (u0 : Bool) (s : fz_s) : Prop :=
  ((u0 = true → ∀ x1 : Int32, x1 = v5 + 1 → K15 v1 v2 v3 v4 x1 s) ∧ (u0 = false → Q false s))
def nd_X12_doTell_15  (K3 : Int32 → Int32 → Int32 → Int32 → fz_s → Prop) (K15 : Int32 → Int32 → Int32 → Int32 → Int32 → fz_s → Prop) (Q : Bool → fz_s → Prop) (v1 : Int32) (v2 : Int32) (v3 : Int32) (v4 : Int32) (v5 : Int32) (s : fz_s) : Prop :=
  ((v4 ≤ v5 → ∀ x1 : Int32, x1 = v4 + 1 → K3 v1 v2 v3 x1 s) ∧ (¬ v4 ≤ v5 → (((((s.1 196 64) >>> (v4 &&& 31)) &&& 1) = (((s.1 196 64) >>> (v5 &&& 31)) &&& 1) → nd_X12_doTell_93  K3 K15 Q v1 v2 v3 v4 v5 true s) ∧ (¬ (((s.1 196 64) >>> (v4 &&& 31)) &&& 1) = (((s.1 196 64) >>> (v5 &&& 31)) &&& 1) → ((¬ ((v1 >>> (v4 &&& 31)) &&& 1) = ((v1 >>> (v5 &&& 31)) &&& 1) → nd_X12_doTell_93  K3 K15 Q v1 v2 v3 v4 v5 true s) ∧ (((v1 >>> (v4 &&& 31)) &&& 1) = ((v1 >>> (v5 &&& 31)) &&& 1) → ((¬ ((v2 >>> (v4 &&& 31)) &&& 1) = ((v2 >>> (v5 &&& 31)) &&& 1) → nd_X12_doTell_93  K3 K15 Q v1 v2 v3 v4 v5 true s) ∧ (((v2 >>> (v4 &&& 31)) &&& 1) = ((v2 >>> (v5 &&& 31)) &&& 1) → ((((v3 >>> (v4 &&& 31)) &&& 1) = ((v3 >>> (v5 &&& 31)) &&& 1) → nd_X12_doTell_93  K3 K15 Q v1 v2 v3 v4 v5 false s) ∧ (¬ ((v3 >>> (v4 &&& 31)) &&& 1) = ((v3 >>> (v5 &&& 31)) &&& 1) → nd_X12_doTell_93  K3 K15 Q v1 v2 v3 v4 v5 true s))))))))))
def lp_X12_doTell_15  (K3 : Int32 → Int32 → Int32 → Int32 → fz_s → Prop) (Q : Bool → fz_s → Prop) : Nat → Int32 → Int32 → Int32 → Int32 → Int32 → fz_s → Prop
  | 0 => fun _ _ _ _ _ _ => False
  | n + 1 => nd_X12_doTell_15  K3 (lp_X12_doTell_15  K3 Q n) Q
def nd_X12_doTell_3  (K3 : Int32 → Int32 → Int32 → Int32 → fz_s → Prop) (Q : Bool → fz_s → Prop) (v1 : Int32) (v2 : Int32) (v3 : Int32) (v4 : Int32) (s : fz_s) : Prop :=
  wp_X12_personMany  s (fun r1 s2 => ((r1 ≤ v4 → Q true s2) ∧ (¬ r1 ≤ v4 → lp_X12_doTell_15  K3 Q 2048 v1 v2 v3 v4 0 s2)))
def lp_X12_doTell_3   (Q : Bool → fz_s → Prop) : Nat → Int32 → Int32 → Int32 → Int32 → fz_s → Prop
  | 0 => fun _ _ _ _ _ => False
  | n + 1 => nd_X12_doTell_3  (lp_X12_doTell_3   Q n) Q
def wp_X12_doTell (p0 : Int32) (p1 : Int32) (p2 : Int32) (s : fz_s) (Q : Bool → fz_s → Prop) : Prop :=
  lp_X12_doTell_3   Q 2048 p0 p1 p2 0 s
set_option maxRecDepth 100000 in
set_option maxHeartbeats 4000000 in
theorem V_nd_X12_doTell_93 {g : fz_G} {l : Launch} {d : Nat} (hD : 1 ≤ d)   {K3 : Int32 → Int32 → Int32 → Int32 → fz_s → Prop} {K15 : Int32 → Int32 → Int32 → Int32 → Int32 → fz_s → Prop} {Q : Bool → fz_s → Prop} {v1 : Int32} {v2 : Int32} {v3 : Int32} {v4 : Int32} {v5 : Int32} {u0 : Bool} {s : fz_s} (hK3 : ∀ {v1 : Int32} {v2 : Int32} {v3 : Int32} {v4 : Int32} {s : fz_s}, K3 v1 v2 v3 v4 s → fs_V g l m_X12_doTell d false 3 [.ref 196, .int v1, .int v2, .int v3, .int v4, fz_J, fz_J] [] s (rZ Q)) (hK15 : ∀ {v1 : Int32} {v2 : Int32} {v3 : Int32} {v4 : Int32} {v5 : Int32} {s : fz_s}, K15 v1 v2 v3 v4 v5 s → fs_V g l m_X12_doTell d false 15 [.ref 196, .int v1, .int v2, .int v3, .int v4, .int v5, fz_J] [] s (rZ Q)) (H : nd_X12_doTell_93  K3 K15 Q v1 v2 v3 v4 v5 u0 s) : fs_V g l m_X12_doTell d false 93 [.ref 196, .int v1, .int v2, .int v3, .int v4, .int v5, fz_J] [.int (bi u0)] s (rZ Q) := by
  obtain ⟨d, rfl⟩ : ∃ e, d = e + 1 := ⟨d - 1, by omega⟩
  unfold nd_X12_doTell_93 at H
  refine fs_istore (i := 6) dd_X12_doTell_93 (by decide) ?_
  refine fs_iload (i := 6) dd_X12_doTell_95 rfl ?_
  refine fs_if_ne (tgt := 102) dd_X12_doTell_97 (by decide) (fun hc => ?_) (fun hc => ?_)
  · replace H := H.1 (bi_1 hc)
    refine fs_iincN (i := 5) (m := 1) (c := 1) dd_X12_doTell_102 rfl (by decide) (by decide) (fun x1 hx1 => ?_)
    replace H := H x1 hx1
    refine fs_goto (tgt := 15) dd_X12_doTell_105 (by decide) ?_
    refine fs_weak (ls2 := [.ref 196, .int v1, .int v2, .int v3, .int v4, .int x1, fz_J]) (fz_le_e (fz_le_e (fz_le_e (fz_le_e (fz_le_e (fz_le_e (fz_le_j fz_le_n))))))) ?_
    exact hK15 H
  · replace H := H.2 (bi_0 hc)
    refine fs_iconst (n := 0) (v := 0) dd_X12_doTell_100 (by decide) ?_
    exact fs_zret false dd_X12_doTell_101 rfl rfl H
set_option maxRecDepth 100000 in
set_option maxHeartbeats 4000000 in
theorem V_nd_X12_doTell_15 {g : fz_G} {l : Launch} {d : Nat} (hD : 1 ≤ d)   {K3 : Int32 → Int32 → Int32 → Int32 → fz_s → Prop} {K15 : Int32 → Int32 → Int32 → Int32 → Int32 → fz_s → Prop} {Q : Bool → fz_s → Prop} {v1 : Int32} {v2 : Int32} {v3 : Int32} {v4 : Int32} {v5 : Int32} {s : fz_s} (hK3 : ∀ {v1 : Int32} {v2 : Int32} {v3 : Int32} {v4 : Int32} {s : fz_s}, K3 v1 v2 v3 v4 s → fs_V g l m_X12_doTell d false 3 [.ref 196, .int v1, .int v2, .int v3, .int v4, fz_J, fz_J] [] s (rZ Q)) (hK15 : ∀ {v1 : Int32} {v2 : Int32} {v3 : Int32} {v4 : Int32} {v5 : Int32} {s : fz_s}, K15 v1 v2 v3 v4 v5 s → fs_V g l m_X12_doTell d false 15 [.ref 196, .int v1, .int v2, .int v3, .int v4, .int v5, fz_J] [] s (rZ Q)) (H : nd_X12_doTell_15  K3 K15 Q v1 v2 v3 v4 v5 s) : fs_V g l m_X12_doTell d false 15 [.ref 196, .int v1, .int v2, .int v3, .int v4, .int v5, fz_J] [] s (rZ Q) := by
  obtain ⟨d, rfl⟩ : ∃ e, d = e + 1 := ⟨d - 1, by omega⟩
  unfold nd_X12_doTell_15 at H
  refine fs_iload (i := 5) dd_X12_doTell_15 rfl ?_
  refine fs_iload (i := 4) dd_X12_doTell_17 rfl ?_
  refine fs_icmp_ge (tgt := 108) dd_X12_doTell_19 (by decide) (fun hc => ?_) (fun hc => ?_)
  · replace H := H.1 hc
    refine fs_iincN (i := 4) (m := 1) (c := 1) dd_X12_doTell_108 rfl (by decide) (by decide) (fun x1 hx1 => ?_)
    replace H := H x1 hx1
    refine fs_goto (tgt := 3) dd_X12_doTell_111 (by decide) ?_
    refine fs_weak (ls2 := [.ref 196, .int v1, .int v2, .int v3, .int x1, fz_J, fz_J]) (fz_le_e (fz_le_e (fz_le_e (fz_le_e (fz_le_e (fz_le_j (fz_le_j fz_le_n))))))) ?_
    exact hK3 H
  · replace H := H.2 hc
    refine fs_aload_n (k0 := 0) (i := 0) dd_X12_doTell_22 rfl rfl ?_
    refine fs_geti (ci := 12) (j := 64) dd_X12_doTell_23 fl_X12_551 ca_196 rfl (Or.inl rfl) ?_
    refine fs_iload (i := 4) dd_X12_doTell_26 rfl ?_
    refine fs_ishr dd_X12_doTell_28 ?_
    refine fs_iconst (n := 1) (v := 1) dd_X12_doTell_29 (by decide) ?_
    refine fs_iand dd_X12_doTell_30 ?_
    refine fs_aload_n (k0 := 0) (i := 0) dd_X12_doTell_31 rfl rfl ?_
    refine fs_geti (ci := 12) (j := 64) dd_X12_doTell_32 fl_X12_551 ca_196 rfl (Or.inl rfl) ?_
    refine fs_iload (i := 5) dd_X12_doTell_35 rfl ?_
    refine fs_ishr dd_X12_doTell_37 ?_
    refine fs_iconst (n := 1) (v := 1) dd_X12_doTell_38 (by decide) ?_
    refine fs_iand dd_X12_doTell_39 ?_
    refine fs_icmp_eq (tgt := 88) dd_X12_doTell_40 (by decide) (fun hc => ?_) (fun hc => ?_)
    · replace H := H.1 hc
      refine fs_iconst (n := 1) (v := 1) dd_X12_doTell_88 (by decide) ?_
      refine fs_goto (tgt := 93) dd_X12_doTell_89 (by decide) ?_
      refine fs_weak (ls2 := [.ref 196, .int v1, .int v2, .int v3, .int v4, .int v5, fz_J]) (fz_le_e (fz_le_e (fz_le_e (fz_le_e (fz_le_e (fz_le_e (fz_le_j fz_le_n))))))) ?_
      exact V_nd_X12_doTell_93 hD   hK3 hK15 H
    · replace H := H.2 hc
      refine fs_iload_n (k0 := 1) (i := 1) dd_X12_doTell_43 rfl rfl ?_
      refine fs_iload (i := 4) dd_X12_doTell_44 rfl ?_
      refine fs_ishr dd_X12_doTell_46 ?_
      refine fs_iconst (n := 1) (v := 1) dd_X12_doTell_47 (by decide) ?_
      refine fs_iand dd_X12_doTell_48 ?_
      refine fs_iload_n (k0 := 1) (i := 1) dd_X12_doTell_49 rfl rfl ?_
      refine fs_iload (i := 5) dd_X12_doTell_50 rfl ?_
      refine fs_ishr dd_X12_doTell_52 ?_
      refine fs_iconst (n := 1) (v := 1) dd_X12_doTell_53 (by decide) ?_
      refine fs_iand dd_X12_doTell_54 ?_
      refine fs_icmp_ne (tgt := 88) dd_X12_doTell_55 (by decide) (fun hc => ?_) (fun hc => ?_)
      · replace H := H.1 hc
        refine fs_iconst (n := 1) (v := 1) dd_X12_doTell_88 (by decide) ?_
        refine fs_goto (tgt := 93) dd_X12_doTell_89 (by decide) ?_
        refine fs_weak (ls2 := [.ref 196, .int v1, .int v2, .int v3, .int v4, .int v5, fz_J]) (fz_le_e (fz_le_e (fz_le_e (fz_le_e (fz_le_e (fz_le_e (fz_le_j fz_le_n))))))) ?_
        exact V_nd_X12_doTell_93 hD   hK3 hK15 H
      · replace H := H.2 hc
        refine fs_iload_n (k0 := 2) (i := 2) dd_X12_doTell_58 rfl rfl ?_
        refine fs_iload (i := 4) dd_X12_doTell_59 rfl ?_
        refine fs_ishr dd_X12_doTell_61 ?_
        refine fs_iconst (n := 1) (v := 1) dd_X12_doTell_62 (by decide) ?_
        refine fs_iand dd_X12_doTell_63 ?_
        refine fs_iload_n (k0 := 2) (i := 2) dd_X12_doTell_64 rfl rfl ?_
        refine fs_iload (i := 5) dd_X12_doTell_65 rfl ?_
        refine fs_ishr dd_X12_doTell_67 ?_
        refine fs_iconst (n := 1) (v := 1) dd_X12_doTell_68 (by decide) ?_
        refine fs_iand dd_X12_doTell_69 ?_
        refine fs_icmp_ne (tgt := 88) dd_X12_doTell_70 (by decide) (fun hc => ?_) (fun hc => ?_)
        · replace H := H.1 hc
          refine fs_iconst (n := 1) (v := 1) dd_X12_doTell_88 (by decide) ?_
          refine fs_goto (tgt := 93) dd_X12_doTell_89 (by decide) ?_
          refine fs_weak (ls2 := [.ref 196, .int v1, .int v2, .int v3, .int v4, .int v5, fz_J]) (fz_le_e (fz_le_e (fz_le_e (fz_le_e (fz_le_e (fz_le_e (fz_le_j fz_le_n))))))) ?_
          exact V_nd_X12_doTell_93 hD   hK3 hK15 H
        · replace H := H.2 hc
          refine fs_iload_n (k0 := 3) (i := 3) dd_X12_doTell_73 rfl rfl ?_
          refine fs_iload (i := 4) dd_X12_doTell_74 rfl ?_
          refine fs_ishr dd_X12_doTell_76 ?_
          refine fs_iconst (n := 1) (v := 1) dd_X12_doTell_77 (by decide) ?_
          refine fs_iand dd_X12_doTell_78 ?_
          refine fs_iload_n (k0 := 3) (i := 3) dd_X12_doTell_79 rfl rfl ?_
          refine fs_iload (i := 5) dd_X12_doTell_80 rfl ?_
          refine fs_ishr dd_X12_doTell_82 ?_
          refine fs_iconst (n := 1) (v := 1) dd_X12_doTell_83 (by decide) ?_
          refine fs_iand dd_X12_doTell_84 ?_
          refine fs_icmp_eq (tgt := 92) dd_X12_doTell_85 (by decide) (fun hc => ?_) (fun hc => ?_)
          · replace H := H.1 hc
            refine fs_iconst (n := 0) (v := 0) dd_X12_doTell_92 (by decide) ?_
            refine fs_weak (ls2 := [.ref 196, .int v1, .int v2, .int v3, .int v4, .int v5, fz_J]) (fz_le_e (fz_le_e (fz_le_e (fz_le_e (fz_le_e (fz_le_e (fz_le_j fz_le_n))))))) ?_
            exact V_nd_X12_doTell_93 hD   hK3 hK15 H
          · replace H := H.2 hc
            refine fs_iconst (n := 1) (v := 1) dd_X12_doTell_88 (by decide) ?_
            refine fs_goto (tgt := 93) dd_X12_doTell_89 (by decide) ?_
            refine fs_weak (ls2 := [.ref 196, .int v1, .int v2, .int v3, .int v4, .int v5, fz_J]) (fz_le_e (fz_le_e (fz_le_e (fz_le_e (fz_le_e (fz_le_e (fz_le_j fz_le_n))))))) ?_
            exact V_nd_X12_doTell_93 hD   hK3 hK15 H
set_option maxRecDepth 100000 in
set_option maxHeartbeats 4000000 in
theorem V_lp_X12_doTell_15 {g : fz_G} {l : Launch} {d : Nat} (hD : 1 ≤ d)   {K3 : Int32 → Int32 → Int32 → Int32 → fz_s → Prop} {Q : Bool → fz_s → Prop} (hK3 : ∀ {v1 : Int32} {v2 : Int32} {v3 : Int32} {v4 : Int32} {s : fz_s}, K3 v1 v2 v3 v4 s → fs_V g l m_X12_doTell d false 3 [.ref 196, .int v1, .int v2, .int v3, .int v4, fz_J, fz_J] [] s (rZ Q)) (n : Nat) : ∀ {v1 : Int32} {v2 : Int32} {v3 : Int32} {v4 : Int32} {v5 : Int32} {s : fz_s}, lp_X12_doTell_15  K3 Q n v1 v2 v3 v4 v5 s → fs_V g l m_X12_doTell d false 15 [.ref 196, .int v1, .int v2, .int v3, .int v4, .int v5, fz_J] [] s (rZ Q) := by
  induction n with
  | zero => intro v1 v2 v3 v4 v5 s H; exact H.elim
  | succ n ih => intro v1 v2 v3 v4 v5 s H; exact V_nd_X12_doTell_15 hD  hK3 (fun H => ih H) H
set_option maxRecDepth 100000 in
set_option maxHeartbeats 4000000 in
theorem V_nd_X12_doTell_3 {g : fz_G} {l : Launch} {d : Nat} (hD : 1 ≤ d)   {K3 : Int32 → Int32 → Int32 → Int32 → fz_s → Prop} {Q : Bool → fz_s → Prop} {v1 : Int32} {v2 : Int32} {v3 : Int32} {v4 : Int32} {s : fz_s} (hK3 : ∀ {v1 : Int32} {v2 : Int32} {v3 : Int32} {v4 : Int32} {s : fz_s}, K3 v1 v2 v3 v4 s → fs_V g l m_X12_doTell d false 3 [.ref 196, .int v1, .int v2, .int v3, .int v4, fz_J, fz_J] [] s (rZ Q)) (H : nd_X12_doTell_3  K3 Q v1 v2 v3 v4 s) : fs_V g l m_X12_doTell d false 3 [.ref 196, .int v1, .int v2, .int v3, .int v4, fz_J, fz_J] [] s (rZ Q) := by
  obtain ⟨d, rfl⟩ : ∃ e, d = e + 1 := ⟨d - 1, by omega⟩
  unfold nd_X12_doTell_3 at H
  refine fs_iload (i := 4) dd_X12_doTell_3 rfl ?_
  refine fs_aload_n (k0 := 0) (i := 0) dd_X12_doTell_5 rfl rfl ?_
  refine fs_callV (y := m_X12_personMany) (as := []) dd_X12_doTell_6 me_X12_personMany lk_X12_402 in_X12_personMany se_X12_personMany ca_196 rfl rfl rfl (Nat.le_of_ble_eq_true rfl) (Nat.le_of_ble_eq_true rfl) rfl (V_X12_personMany (by omega)  H) (k2_I fun r1 s2 H => ?_)
  refine fs_icmp_ge (tgt := 114) dd_X12_doTell_9 (by decide) (fun hc => ?_) (fun hc => ?_)
  · replace H := H.1 hc
    refine fs_iconst (n := 1) (v := 1) dd_X12_doTell_114 (by decide) ?_
    exact fs_zret true dd_X12_doTell_115 rfl rfl H
  · replace H := H.2 hc
    refine fs_iconst (n := 0) (v := 0) dd_X12_doTell_12 (by decide) ?_
    refine fs_istore (i := 5) dd_X12_doTell_13 (by decide) ?_
    refine fs_weak (ls2 := [.ref 196, .int v1, .int v2, .int v3, .int v4, .int 0, fz_J]) (fz_le_e (fz_le_e (fz_le_e (fz_le_e (fz_le_e (fz_le_e (fz_le_j fz_le_n))))))) ?_
    exact V_lp_X12_doTell_15 hD   hK3 2048 H
set_option maxRecDepth 100000 in
set_option maxHeartbeats 4000000 in
theorem V_lp_X12_doTell_3 {g : fz_G} {l : Launch} {d : Nat} (hD : 1 ≤ d)    {Q : Bool → fz_s → Prop}  (n : Nat) : ∀ {v1 : Int32} {v2 : Int32} {v3 : Int32} {v4 : Int32} {s : fz_s}, lp_X12_doTell_3   Q n v1 v2 v3 v4 s → fs_V g l m_X12_doTell d false 3 [.ref 196, .int v1, .int v2, .int v3, .int v4, fz_J, fz_J] [] s (rZ Q) := by
  induction n with
  | zero => intro v1 v2 v3 v4 s H; exact H.elim
  | succ n ih => intro v1 v2 v3 v4 s H; exact V_nd_X12_doTell_3 hD  (fun H => ih H) H
set_option maxRecDepth 100000 in
set_option maxHeartbeats 4000000 in
theorem V_X12_doTell {g : fz_G} {l : Launch} {d : Nat} (hD : 1 ≤ d) {p0 : Int32} {p1 : Int32} {p2 : Int32}  {s : fz_s} {Q : Bool → fz_s → Prop} (H : wp_X12_doTell p0 p1 p2 s Q) : fs_V g l m_X12_doTell d false 0 (fz_en [.ref 196, .int p0, .int p1, .int p2] 7) [] s (rZ Q) := by
  obtain ⟨d, rfl⟩ : ∃ e, d = e + 1 := ⟨d - 1, by omega⟩
  unfold wp_X12_doTell at H
  refine fs_iconst (n := 0) (v := 0) dd_X12_doTell_0 (by decide) ?_
  refine fs_istore (i := 4) dd_X12_doTell_1 (by decide) ?_
  refine fs_weak (ls2 := [.ref 196, .int p0, .int p1, .int p2, .int 0, fz_J, fz_J]) (fz_le_e (fz_le_e (fz_le_e (fz_le_e (fz_le_e (fz_le_j (fz_le_j fz_le_n))))))) ?_
  exact V_lp_X12_doTell_3 hD    2048 H

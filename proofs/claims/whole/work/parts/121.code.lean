theorem dd_X12_years_0 : decode m_X12_years.2.1 0 = .ok (.aload_n 0, 1) := by decide +kernel
theorem dd_X12_years_1 : decode m_X12_years.2.1 1 = .ok (.iload_n 1, 1) := by decide +kernel
theorem dd_X12_years_2 : decode m_X12_years.2.1 2 = .ok (.iconst 1, 1) := by decide +kernel
theorem dd_X12_years_3 : decode m_X12_years.2.1 3 = .ok (.bipush 100, 2) := by decide +kernel
theorem dd_X12_years_5 : decode m_X12_years.2.1 5 = .ok (.invokevirtual 525, 3) := by decide +kernel
theorem dd_X12_years_8 : decode m_X12_years.2.1 8 = .ok (.ifCond .ne 9, 3) := by decide +kernel
theorem dd_X12_years_11 : decode m_X12_years.2.1 11 = .ok (.aload_n 0, 1) := by decide +kernel
theorem dd_X12_years_12 : decode m_X12_years.2.1 12 = .ok (.iconst 3, 1) := by decide +kernel
theorem dd_X12_years_13 : decode m_X12_years.2.1 13 = .ok (.invokevirtual 571, 3) := by decide +kernel
theorem dd_X12_years_16 : decode m_X12_years.2.1 16 = .ok (.ireturn, 1) := by decide +kernel
theorem dd_X12_years_17 : decode m_X12_years.2.1 17 = .ok (.aload_n 0, 1) := by decide +kernel
theorem dd_X12_years_18 : decode m_X12_years.2.1 18 = .ok (.invokevirtual 594, 3) := by decide +kernel
theorem dd_X12_years_21 : decode m_X12_years.2.1 21 = .ok (.aload_n 0, 1) := by decide +kernel
theorem dd_X12_years_22 : decode m_X12_years.2.1 22 = .ok (.iconst 0, 1) := by decide +kernel
theorem dd_X12_years_23 : decode m_X12_years.2.1 23 = .ok (.putfield 490, 3) := by decide +kernel
theorem dd_X12_years_26 : decode m_X12_years.2.1 26 = .ok (.aload_n 0, 1) := by decide +kernel
theorem dd_X12_years_27 : decode m_X12_years.2.1 27 = .ok (.iload_n 1, 1) := by decide +kernel
theorem dd_X12_years_28 : decode m_X12_years.2.1 28 = .ok (.invokevirtual 532, 3) := by decide +kernel
theorem dd_X12_years_31 : decode m_X12_years.2.1 31 = .ok (.aload_n 0, 1) := by decide +kernel
theorem dd_X12_years_32 : decode m_X12_years.2.1 32 = .ok (.getfield 490, 3) := by decide +kernel
theorem dd_X12_years_35 : decode m_X12_years.2.1 35 = .ok (.ireturn, 1) := by decide +kernel
def wp_X12_years (p0 : Int32) (s : fz_s) (Q : Int32 → fz_s → Prop) : Prop :=
  wp_X12_isAhead p0 1 100 s (fun r1 s2 => ((r1 = true → wp_X12_keeps  s2 (fun s4 => ∀ s5 : fz_s, s5 = si s4 196 59 0 → wp_X12_yearsGo p0 s5 (fun s7 => Q (s7.1 196 59) s7))) ∧ (r1 = false → wp_X12_refuses 3 s2 (fun r8 s9 => Q r8 s9))))
set_option maxRecDepth 100000 in
set_option maxHeartbeats 4000000 in
theorem V_X12_years {g : fz_G} {l : Launch} {d : Nat} (hD : 10 ≤ d) {p0 : Int32}  {s : fz_s} {Q : Int32 → fz_s → Prop} (H : wp_X12_years p0 s Q) : fs_V g l m_X12_years d false 0 (fz_en [.ref 196, .int p0] 2) [] s (rI Q) := by
  obtain ⟨d, rfl⟩ : ∃ e, d = e + 1 := ⟨d - 1, by omega⟩
  unfold wp_X12_years at H
  refine fs_aload_n (k0 := 0) (i := 0) dd_X12_years_0 rfl rfl ?_
  refine fs_iload_n (k0 := 1) (i := 1) dd_X12_years_1 rfl rfl ?_
  refine fs_iconst (n := 1) (v := 1) dd_X12_years_2 (by decide) ?_
  refine fs_bipush (n := 100) (v := 100) dd_X12_years_3 (by decide) ?_
  refine fs_callV (y := m_X12_isAhead) (as := [.int p0, .int 1, .int 100]) dd_X12_years_5 me_X12_isAhead lk_X12_525 in_X12_isAhead se_X12_isAhead ca_196 rfl rfl rfl (Nat.le_of_ble_eq_true rfl) (Nat.le_of_ble_eq_true rfl) rfl (V_X12_isAhead (by omega)  H) (k2_Z fun r1 s2 H => ?_)
  refine fs_if_ne (tgt := 17) dd_X12_years_8 (by decide) (fun hc => ?_) (fun hc => ?_)
  · replace H := H.1 (bi_1 hc)
    refine fs_aload_n (k0 := 0) (i := 0) dd_X12_years_17 rfl rfl ?_
    refine fs_callV (y := m_X12_keeps) (as := []) dd_X12_years_18 me_X12_keeps lk_X12_594 in_X12_keeps se_X12_keeps ca_196 rfl rfl rfl (Nat.le_of_ble_eq_true rfl) (Nat.le_of_ble_eq_true rfl) rfl (V_X12_keeps (by omega)  H) (k2_V fun s4 H => ?_)
    refine fs_aload_n (k0 := 0) (i := 0) dd_X12_years_21 rfl rfl ?_
    refine fs_iconst (n := 0) (v := 0) dd_X12_years_22 (by decide) ?_
    refine fs_puti (ci := 12) (j := 59) dd_X12_years_23 fl_X12_490 (fun _ _ _ h => by cases h; rfl) ca_196 rfl (Or.inl rfl) ?_
    refine fs_tops (fun s5 hs5 => ?_)
    replace H := H s5 hs5
    refine fs_aload_n (k0 := 0) (i := 0) dd_X12_years_26 rfl rfl ?_
    refine fs_iload_n (k0 := 1) (i := 1) dd_X12_years_27 rfl rfl ?_
    refine fs_callV (y := m_X12_yearsGo) (as := [.int p0]) dd_X12_years_28 me_X12_yearsGo lk_X12_532 in_X12_yearsGo se_X12_yearsGo ca_196 rfl rfl rfl (Nat.le_of_ble_eq_true rfl) (Nat.le_of_ble_eq_true rfl) rfl (V_X12_yearsGo (by omega)  H) (k2_V fun s7 H => ?_)
    refine fs_aload_n (k0 := 0) (i := 0) dd_X12_years_31 rfl rfl ?_
    refine fs_geti (ci := 12) (j := 59) dd_X12_years_32 fl_X12_490 ca_196 rfl (Or.inl rfl) ?_
    exact fs_iret dd_X12_years_35 rfl H
  · replace H := H.2 (bi_0 hc)
    refine fs_aload_n (k0 := 0) (i := 0) dd_X12_years_11 rfl rfl ?_
    refine fs_iconst (n := 3) (v := 3) dd_X12_years_12 (by decide) ?_
    refine fs_callV (y := m_X12_refuses) (as := [.int 3]) dd_X12_years_13 me_X12_refuses lk_X12_571 in_X12_refuses se_X12_refuses ca_196 rfl rfl rfl (Nat.le_of_ble_eq_true rfl) (Nat.le_of_ble_eq_true rfl) rfl (V_X12_refuses (by omega)  H) (k2_I fun r8 s9 H => ?_)
    exact fs_iret dd_X12_years_16 rfl H
theorem dd_X12_seed_0 : decode m_X12_seed.2.1 0 = .ok (.iload_n 1, 1) := by decide +kernel
theorem dd_X12_seed_1 : decode m_X12_seed.2.1 1 = .ok (.ifCond .ge 15, 3) := by decide +kernel
theorem dd_X12_seed_4 : decode m_X12_seed.2.1 4 = .ok (.aload_n 0, 1) := by decide +kernel
theorem dd_X12_seed_5 : decode m_X12_seed.2.1 5 = .ok (.getfield 17, 3) := by decide +kernel
theorem dd_X12_seed_8 : decode m_X12_seed.2.1 8 = .ok (.iconst 5, 1) := by decide +kernel
theorem dd_X12_seed_9 : decode m_X12_seed.2.1 9 = .ok (.dup2, 1) := by decide +kernel
theorem dd_X12_seed_10 : decode m_X12_seed.2.1 10 = .ok (.iaload, 1) := by decide +kernel
theorem dd_X12_seed_11 : decode m_X12_seed.2.1 11 = .ok (.iconst 1, 1) := by decide +kernel
theorem dd_X12_seed_12 : decode m_X12_seed.2.1 12 = .ok (.iadd, 1) := by decide +kernel
theorem dd_X12_seed_13 : decode m_X12_seed.2.1 13 = .ok (.iastore, 1) := by decide +kernel
theorem dd_X12_seed_14 : decode m_X12_seed.2.1 14 = .ok (.iconst 0, 1) := by decide +kernel
theorem dd_X12_seed_15 : decode m_X12_seed.2.1 15 = .ok (.ireturn, 1) := by decide +kernel
theorem dd_X12_seed_16 : decode m_X12_seed.2.1 16 = .ok (.aload_n 0, 1) := by decide +kernel
theorem dd_X12_seed_17 : decode m_X12_seed.2.1 17 = .ok (.iload_n 1, 1) := by decide +kernel
theorem dd_X12_seed_18 : decode m_X12_seed.2.1 18 = .ok (.i2l, 1) := by decide +kernel
theorem dd_X12_seed_19 : decode m_X12_seed.2.1 19 = .ok (.putfield 158, 3) := by decide +kernel
theorem dd_X12_seed_22 : decode m_X12_seed.2.1 22 = .ok (.iconst 1, 1) := by decide +kernel
theorem dd_X12_seed_23 : decode m_X12_seed.2.1 23 = .ok (.ireturn, 1) := by decide +kernel
def wp_X12_seed (p0 : Int32) (s : fz_s) (Q : Bool → fz_s → Prop) : Prop :=
  ((0 ≤ p0 → ∀ s1 : fz_s, s1 = sl s 196 74 p0.toInt64 → Q true s1) ∧ (¬ 0 ≤ p0 → ∀ s2 : fz_s, s2 = si s 198 (5 : Int32).toNatClampNeg ((s.1 198 (5 : Int32).toNatClampNeg) + 1) → Q false s2))
set_option maxRecDepth 100000 in
set_option maxHeartbeats 4000000 in
theorem V_X12_seed {g : fz_G} {l : Launch} {d : Nat} (hD : 0 ≤ d) {p0 : Int32}  {s : fz_s} {Q : Bool → fz_s → Prop} (H : wp_X12_seed p0 s Q) : fs_V g l m_X12_seed d false 0 (fz_en [.ref 196, .int p0] 2) [] s (rZ Q) := by
  unfold wp_X12_seed at H
  refine fs_iload_n (k0 := 1) (i := 1) dd_X12_seed_0 rfl rfl ?_
  refine fs_if_ge (tgt := 16) dd_X12_seed_1 (by decide) (fun hc => ?_) (fun hc => ?_)
  · replace H := H.1 hc
    refine fs_aload_n (k0 := 0) (i := 0) dd_X12_seed_16 rfl rfl ?_
    refine fs_iload_n (k0 := 1) (i := 1) dd_X12_seed_17 rfl rfl ?_
    refine fs_i2l dd_X12_seed_18 ?_
    refine fs_putl (ci := 12) (j := 74) dd_X12_seed_19 fl_X12_158 (fun _ _ _ h => by cases h; rfl) ca_196 rfl rfl ?_
    refine fs_tops (fun s1 hs1 => ?_)
    replace H := H s1 hs1
    refine fs_iconst (n := 1) (v := 1) dd_X12_seed_22 (by decide) ?_
    exact fs_zret true dd_X12_seed_23 rfl rfl H
  · replace H := H.2 hc
    refine fs_aload_n (k0 := 0) (i := 0) dd_X12_seed_4 rfl rfl ?_
    refine fs_getr (ci := 12) (j := 9) (q := 198) dd_X12_seed_5 fl_X12_17 ca_196 rfl (Or.inr ⟨_, rfl⟩) rfl (by decide) ?_
    refine fs_iconst (n := 5) (v := 5) dd_X12_seed_8 (by decide) ?_
    refine fs_dup2 dd_X12_seed_9 rfl rfl ?_
    refine fs_iald dd_X12_seed_10 ca_198 (vp_in_nI (n := 5) (by decide) (by decide)) ?_
    refine fs_iconst (n := 1) (v := 1) dd_X12_seed_11 (by decide) ?_
    refine fs_iadd dd_X12_seed_12 ?_
    refine fs_iast dd_X12_seed_13 ca_198 (vp_in_nI (n := 5) (by decide) (by decide)) ?_
    refine fs_tops (fun s2 hs2 => ?_)
    replace H := H s2 hs2
    refine fs_iconst (n := 0) (v := 0) dd_X12_seed_14 (by decide) ?_
    exact fs_zret false dd_X12_seed_15 rfl rfl H
theorem dd_X12_drawOf_0 : decode m_X12_drawOf.2.1 0 = .ok (.aload_n 0, 1) := by decide +kernel
theorem dd_X12_drawOf_1 : decode m_X12_drawOf.2.1 1 = .ok (.ldc2_w 597, 3) := by decide +kernel
theorem dd_X12_drawOf_4 : decode m_X12_drawOf.2.1 4 = .ok (.aload_n 0, 1) := by decide +kernel
theorem dd_X12_drawOf_5 : decode m_X12_drawOf.2.1 5 = .ok (.getfield 158, 3) := by decide +kernel
theorem dd_X12_drawOf_8 : decode m_X12_drawOf.2.1 8 = .ok (.lmul, 1) := by decide +kernel
theorem dd_X12_drawOf_9 : decode m_X12_drawOf.2.1 9 = .ok (.ldc2_w 599, 3) := by decide +kernel
theorem dd_X12_drawOf_12 : decode m_X12_drawOf.2.1 12 = .ok (.ladd, 1) := by decide +kernel
theorem dd_X12_drawOf_13 : decode m_X12_drawOf.2.1 13 = .ok (.ldc2_w 601, 3) := by decide +kernel
theorem dd_X12_drawOf_16 : decode m_X12_drawOf.2.1 16 = .ok (.lrem, 1) := by decide +kernel
theorem dd_X12_drawOf_17 : decode m_X12_drawOf.2.1 17 = .ok (.putfield 158, 3) := by decide +kernel
theorem dd_X12_drawOf_20 : decode m_X12_drawOf.2.1 20 = .ok (.aload_n 0, 1) := by decide +kernel
theorem dd_X12_drawOf_21 : decode m_X12_drawOf.2.1 21 = .ok (.getfield 158, 3) := by decide +kernel
theorem dd_X12_drawOf_24 : decode m_X12_drawOf.2.1 24 = .ok (.ldc2_w 603, 3) := by decide +kernel
theorem dd_X12_drawOf_27 : decode m_X12_drawOf.2.1 27 = .ok (.ldiv, 1) := by decide +kernel
theorem dd_X12_drawOf_28 : decode m_X12_drawOf.2.1 28 = .ok (.iload_n 1, 1) := by decide +kernel
theorem dd_X12_drawOf_29 : decode m_X12_drawOf.2.1 29 = .ok (.i2l, 1) := by decide +kernel
theorem dd_X12_drawOf_30 : decode m_X12_drawOf.2.1 30 = .ok (.lrem, 1) := by decide +kernel
theorem dd_X12_drawOf_31 : decode m_X12_drawOf.2.1 31 = .ok (.l2i, 1) := by decide +kernel
theorem dd_X12_drawOf_32 : decode m_X12_drawOf.2.1 32 = .ok (.ireturn, 1) := by decide +kernel
def wp_X12_drawOf (p0 : Int32) (s : fz_s) (Q : Int32 → fz_s → Prop) : Prop :=
  ∀ s1 : fz_s, s1 = sl s 196 74 (((1103515245 * (s.2.1 196 74)) + 12345) - ((1103515245 * (s.2.1 196 74)) + 12345) / 2147483648 * 2147483648) → (¬ p0.toInt64 = 0) ∧ Q ((((s1.2.1 196 74) / 64) - ((s1.2.1 196 74) / 64) / p0.toInt64 * p0.toInt64).toInt32) s1
set_option maxRecDepth 100000 in
set_option maxHeartbeats 4000000 in
theorem V_X12_drawOf {g : fz_G} {l : Launch} {d : Nat} (hD : 0 ≤ d) {p0 : Int32}  {s : fz_s} {Q : Int32 → fz_s → Prop} (H : wp_X12_drawOf p0 s Q) : fs_V g l m_X12_drawOf d false 0 (fz_en [.ref 196, .int p0] 2) [] s (rI Q) := by
  unfold wp_X12_drawOf at H
  refine fs_aload_n (k0 := 0) (i := 0) dd_X12_drawOf_0 rfl rfl ?_
  refine fs_ldc2 (idx := 597) (v := 1103515245) dd_X12_drawOf_1 cl_X12_597 ?_
  refine fs_aload_n (k0 := 0) (i := 0) dd_X12_drawOf_4 rfl rfl ?_
  refine fs_getl (ci := 12) (j := 74) dd_X12_drawOf_5 fl_X12_158 ca_196 rfl rfl ?_
  refine fs_lmul dd_X12_drawOf_8 ?_
  refine fs_ldc2 (idx := 599) (v := 12345) dd_X12_drawOf_9 cl_X12_599 ?_
  refine fs_ladd dd_X12_drawOf_12 ?_
  refine fs_ldc2 (idx := 601) (v := 2147483648) dd_X12_drawOf_13 cl_X12_601 ?_
  refine fs_lrem dd_X12_drawOf_16 (by decide) ?_
  refine fs_putl (ci := 12) (j := 74) dd_X12_drawOf_17 fl_X12_158 (fun _ _ _ h => by cases h; rfl) ca_196 rfl rfl ?_
  refine fs_tops (fun s1 hs1 => ?_)
  replace H := H s1 hs1
  refine fs_aload_n (k0 := 0) (i := 0) dd_X12_drawOf_20 rfl rfl ?_
  refine fs_getl (ci := 12) (j := 74) dd_X12_drawOf_21 fl_X12_158 ca_196 rfl rfl ?_
  refine fs_ldc2 (idx := 603) (v := 64) dd_X12_drawOf_24 cl_X12_603 ?_
  refine fs_ldiv dd_X12_drawOf_27 (by decide) ?_
  refine fs_iload_n (k0 := 1) (i := 1) dd_X12_drawOf_28 rfl rfl ?_
  refine fs_i2l dd_X12_drawOf_29 ?_
  have hz := H.1
  replace H := H.2
  refine fs_lrem dd_X12_drawOf_30 hz ?_
  refine fs_l2i dd_X12_drawOf_31 ?_
  exact fs_iret dd_X12_drawOf_32 rfl H
theorem dd_X12_chance_0 : decode m_X12_chance.2.1 0 = .ok (.aload_n 0, 1) := by decide +kernel
theorem dd_X12_chance_1 : decode m_X12_chance.2.1 1 = .ok (.iload_n 1, 1) := by decide +kernel
theorem dd_X12_chance_2 : decode m_X12_chance.2.1 2 = .ok (.iconst 1, 1) := by decide +kernel
theorem dd_X12_chance_3 : decode m_X12_chance.2.1 3 = .ok (.bipush 100, 2) := by decide +kernel
theorem dd_X12_chance_5 : decode m_X12_chance.2.1 5 = .ok (.invokevirtual 525, 3) := by decide +kernel
theorem dd_X12_chance_8 : decode m_X12_chance.2.1 8 = .ok (.ifCond .ne 9, 3) := by decide +kernel
theorem dd_X12_chance_11 : decode m_X12_chance.2.1 11 = .ok (.aload_n 0, 1) := by decide +kernel
theorem dd_X12_chance_12 : decode m_X12_chance.2.1 12 = .ok (.iconst 3, 1) := by decide +kernel
theorem dd_X12_chance_13 : decode m_X12_chance.2.1 13 = .ok (.invokevirtual 571, 3) := by decide +kernel
theorem dd_X12_chance_16 : decode m_X12_chance.2.1 16 = .ok (.ireturn, 1) := by decide +kernel
theorem dd_X12_chance_17 : decode m_X12_chance.2.1 17 = .ok (.aload_n 0, 1) := by decide +kernel
theorem dd_X12_chance_18 : decode m_X12_chance.2.1 18 = .ok (.invokevirtual 594, 3) := by decide +kernel
theorem dd_X12_chance_21 : decode m_X12_chance.2.1 21 = .ok (.iconst 0, 1) := by decide +kernel
theorem dd_X12_chance_22 : decode m_X12_chance.2.1 22 = .ok (.istore_n 2, 1) := by decide +kernel
theorem dd_X12_chance_23 : decode m_X12_chance.2.1 23 = .ok (.iconst 0, 1) := by decide +kernel
theorem dd_X12_chance_24 : decode m_X12_chance.2.1 24 = .ok (.istore_n 3, 1) := by decide +kernel
theorem dd_X12_chance_25 : decode m_X12_chance.2.1 25 = .ok (.iload_n 3, 1) := by decide +kernel
theorem dd_X12_chance_26 : decode m_X12_chance.2.1 26 = .ok (.iload_n 1, 1) := by decide +kernel
theorem dd_X12_chance_27 : decode m_X12_chance.2.1 27 = .ok (.if_icmp .ge 39, 3) := by decide +kernel
theorem dd_X12_chance_30 : decode m_X12_chance.2.1 30 = .ok (.aload_n 0, 1) := by decide +kernel
theorem dd_X12_chance_31 : decode m_X12_chance.2.1 31 = .ok (.bipush 100, 2) := by decide +kernel
theorem dd_X12_chance_33 : decode m_X12_chance.2.1 33 = .ok (.invokevirtual 605, 3) := by decide +kernel
theorem dd_X12_chance_36 : decode m_X12_chance.2.1 36 = .ok (.aload_n 0, 1) := by decide +kernel
theorem dd_X12_chance_37 : decode m_X12_chance.2.1 37 = .ok (.getfield 393, 3) := by decide +kernel
theorem dd_X12_chance_40 : decode m_X12_chance.2.1 40 = .ok (.if_icmp .ge 16, 3) := by decide +kernel
theorem dd_X12_chance_43 : decode m_X12_chance.2.1 43 = .ok (.aload_n 0, 1) := by decide +kernel
theorem dd_X12_chance_44 : decode m_X12_chance.2.1 44 = .ok (.iconst (-1), 1) := by decide +kernel
theorem dd_X12_chance_45 : decode m_X12_chance.2.1 45 = .ok (.iconst (-1), 1) := by decide +kernel
theorem dd_X12_chance_46 : decode m_X12_chance.2.1 46 = .ok (.iconst 1, 1) := by decide +kernel
theorem dd_X12_chance_47 : decode m_X12_chance.2.1 47 = .ok (.invokevirtual 493, 3) := by decide +kernel
theorem dd_X12_chance_50 : decode m_X12_chance.2.1 50 = .ok (.iinc 2 1, 3) := by decide +kernel
theorem dd_X12_chance_53 : decode m_X12_chance.2.1 53 = .ok (.goto 7, 3) := by decide +kernel
theorem dd_X12_chance_56 : decode m_X12_chance.2.1 56 = .ok (.aload_n 0, 1) := by decide +kernel
theorem dd_X12_chance_57 : decode m_X12_chance.2.1 57 = .ok (.invokevirtual 497, 3) := by decide +kernel
theorem dd_X12_chance_60 : decode m_X12_chance.2.1 60 = .ok (.iinc 3 1, 3) := by decide +kernel
theorem dd_X12_chance_63 : decode m_X12_chance.2.1 63 = .ok (.goto (-38), 3) := by decide +kernel
theorem dd_X12_chance_66 : decode m_X12_chance.2.1 66 = .ok (.iload_n 2, 1) := by decide +kernel
theorem dd_X12_chance_67 : decode m_X12_chance.2.1 67 = .ok (.ireturn, 1) := by decide +kernel
def nd_X12_chance_25  (K25 : Int32 → Int32 → Int32 → fz_s → Prop) (Q : Int32 → fz_s → Prop) (v1 : Int32) (v2 : Int32) (v3 : Int32) (s : fz_s) : Prop :=
  ((v1 ≤ v3 → Q v2 s) ∧ (¬ v1 ≤ v3 → wp_X12_drawOf 100 s (fun r1 s2 => (((s2.1 196 46) ≤ r1 → wp_X12_yearGoes  s2 (fun s4 => ∀ x5 : Int32, x5 = v3 + 1 → K25 v1 v2 x5 s4)) ∧ (¬ (s2.1 196 46) ≤ r1 → wp_X12_yearWith (-1) (-1) true s2 (fun s7 => ∀ x8 : Int32, x8 = v2 + 1 → ∀ x9 : Int32, x9 = v3 + 1 → K25 v1 x8 x9 s7))))))
def lp_X12_chance_25   (Q : Int32 → fz_s → Prop) : Nat → Int32 → Int32 → Int32 → fz_s → Prop
  | 0 => fun _ _ _ _ => False
  | n + 1 => nd_X12_chance_25  (lp_X12_chance_25   Q n) Q
def wp_X12_chance (p0 : Int32) (s : fz_s) (Q : Int32 → fz_s → Prop) : Prop :=
  wp_X12_isAhead p0 1 100 s (fun r1 s2 => ((r1 = true → wp_X12_keeps  s2 (fun s4 => lp_X12_chance_25   Q 2048 p0 0 0 s4)) ∧ (r1 = false → wp_X12_refuses 3 s2 (fun r5 s6 => Q r5 s6))))
set_option maxRecDepth 100000 in
set_option maxHeartbeats 4000000 in
theorem V_nd_X12_chance_25 {g : fz_G} {l : Launch} {d : Nat} (hD : 9 ≤ d)   {K25 : Int32 → Int32 → Int32 → fz_s → Prop} {Q : Int32 → fz_s → Prop} {v1 : Int32} {v2 : Int32} {v3 : Int32} {s : fz_s} (hK25 : ∀ {v1 : Int32} {v2 : Int32} {v3 : Int32} {s : fz_s}, K25 v1 v2 v3 s → fs_V g l m_X12_chance d false 25 [.ref 196, .int v1, .int v2, .int v3] [] s (rI Q)) (H : nd_X12_chance_25  K25 Q v1 v2 v3 s) : fs_V g l m_X12_chance d false 25 [.ref 196, .int v1, .int v2, .int v3] [] s (rI Q) := by
  obtain ⟨d, rfl⟩ : ∃ e, d = e + 1 := ⟨d - 1, by omega⟩
  unfold nd_X12_chance_25 at H
  refine fs_iload_n (k0 := 3) (i := 3) dd_X12_chance_25 rfl rfl ?_
  refine fs_iload_n (k0 := 1) (i := 1) dd_X12_chance_26 rfl rfl ?_
  refine fs_icmp_ge (tgt := 66) dd_X12_chance_27 (by decide) (fun hc => ?_) (fun hc => ?_)
  · replace H := H.1 hc
    refine fs_iload_n (k0 := 2) (i := 2) dd_X12_chance_66 rfl rfl ?_
    exact fs_iret dd_X12_chance_67 rfl H
  · replace H := H.2 hc
    refine fs_aload_n (k0 := 0) (i := 0) dd_X12_chance_30 rfl rfl ?_
    refine fs_bipush (n := 100) (v := 100) dd_X12_chance_31 (by decide) ?_
    refine fs_callV (y := m_X12_drawOf) (as := [.int 100]) dd_X12_chance_33 me_X12_drawOf lk_X12_605 in_X12_drawOf se_X12_drawOf ca_196 rfl rfl rfl (Nat.le_of_ble_eq_true rfl) (Nat.le_of_ble_eq_true rfl) rfl (V_X12_drawOf (by omega)  H) (k2_I fun r1 s2 H => ?_)
    refine fs_aload_n (k0 := 0) (i := 0) dd_X12_chance_36 rfl rfl ?_
    refine fs_geti (ci := 12) (j := 46) dd_X12_chance_37 fl_X12_393 ca_196 rfl (Or.inl rfl) ?_
    refine fs_icmp_ge (tgt := 56) dd_X12_chance_40 (by decide) (fun hc => ?_) (fun hc => ?_)
    · replace H := H.1 hc
      refine fs_aload_n (k0 := 0) (i := 0) dd_X12_chance_56 rfl rfl ?_
      refine fs_callV (y := m_X12_yearGoes) (as := []) dd_X12_chance_57 me_X12_yearGoes lk_X12_497 in_X12_yearGoes se_X12_yearGoes ca_196 rfl rfl rfl (Nat.le_of_ble_eq_true rfl) (Nat.le_of_ble_eq_true rfl) rfl (V_X12_yearGoes (by omega)  H) (k2_V fun s4 H => ?_)
      refine fs_iincN (i := 3) (m := 1) (c := 1) dd_X12_chance_60 rfl (by decide) (by decide) (fun x5 hx5 => ?_)
      replace H := H x5 hx5
      refine fs_goto (tgt := 25) dd_X12_chance_63 (by decide) ?_
      refine fs_weak (ls2 := [.ref 196, .int v1, .int v2, .int x5]) (fz_le_e (fz_le_e (fz_le_e (fz_le_e fz_le_n)))) ?_
      exact hK25 H
    · replace H := H.2 hc
      refine fs_aload_n (k0 := 0) (i := 0) dd_X12_chance_43 rfl rfl ?_
      refine fs_iconst (n := -1) (v := -1) dd_X12_chance_44 (by decide) ?_
      refine fs_iconst (n := -1) (v := -1) dd_X12_chance_45 (by decide) ?_
      refine fs_iconst (n := 1) (v := 1) dd_X12_chance_46 (by decide) ?_
      refine fs_callV (y := m_X12_yearWith) (as := [.int (-1), .int (-1), .int 1]) dd_X12_chance_47 me_X12_yearWith lk_X12_493 in_X12_yearWith se_X12_yearWith ca_196 rfl rfl rfl (Nat.le_of_ble_eq_true rfl) (Nat.le_of_ble_eq_true rfl) rfl (V_X12_yearWith (by omega)  H) (k2_V fun s7 H => ?_)
      refine fs_iincN (i := 2) (m := 1) (c := 1) dd_X12_chance_50 rfl (by decide) (by decide) (fun x8 hx8 => ?_)
      replace H := H x8 hx8
      refine fs_goto (tgt := 60) dd_X12_chance_53 (by decide) ?_
      refine fs_iincN (i := 3) (m := 1) (c := 1) dd_X12_chance_60 rfl (by decide) (by decide) (fun x9 hx9 => ?_)
      replace H := H x9 hx9
      refine fs_goto (tgt := 25) dd_X12_chance_63 (by decide) ?_
      refine fs_weak (ls2 := [.ref 196, .int v1, .int x8, .int x9]) (fz_le_e (fz_le_e (fz_le_e (fz_le_e fz_le_n)))) ?_
      exact hK25 H
set_option maxRecDepth 100000 in
set_option maxHeartbeats 4000000 in
theorem V_lp_X12_chance_25 {g : fz_G} {l : Launch} {d : Nat} (hD : 9 ≤ d)    {Q : Int32 → fz_s → Prop}  (n : Nat) : ∀ {v1 : Int32} {v2 : Int32} {v3 : Int32} {s : fz_s}, lp_X12_chance_25   Q n v1 v2 v3 s → fs_V g l m_X12_chance d false 25 [.ref 196, .int v1, .int v2, .int v3] [] s (rI Q) := by
  induction n with
  | zero => intro v1 v2 v3 s H; exact H.elim
  | succ n ih => intro v1 v2 v3 s H; exact V_nd_X12_chance_25 hD  (fun H => ih H) H
set_option maxRecDepth 100000 in
set_option maxHeartbeats 4000000 in
theorem V_X12_chance {g : fz_G} {l : Launch} {d : Nat} (hD : 9 ≤ d) {p0 : Int32}  {s : fz_s} {Q : Int32 → fz_s → Prop} (H : wp_X12_chance p0 s Q) : fs_V g l m_X12_chance d false 0 (fz_en [.ref 196, .int p0] 4) [] s (rI Q) := by
  obtain ⟨d, rfl⟩ : ∃ e, d = e + 1 := ⟨d - 1, by omega⟩
  unfold wp_X12_chance at H
  refine fs_aload_n (k0 := 0) (i := 0) dd_X12_chance_0 rfl rfl ?_
  refine fs_iload_n (k0 := 1) (i := 1) dd_X12_chance_1 rfl rfl ?_
  refine fs_iconst (n := 1) (v := 1) dd_X12_chance_2 (by decide) ?_
  refine fs_bipush (n := 100) (v := 100) dd_X12_chance_3 (by decide) ?_
  refine fs_callV (y := m_X12_isAhead) (as := [.int p0, .int 1, .int 100]) dd_X12_chance_5 me_X12_isAhead lk_X12_525 in_X12_isAhead se_X12_isAhead ca_196 rfl rfl rfl (Nat.le_of_ble_eq_true rfl) (Nat.le_of_ble_eq_true rfl) rfl (V_X12_isAhead (by omega)  H) (k2_Z fun r1 s2 H => ?_)
  refine fs_if_ne (tgt := 17) dd_X12_chance_8 (by decide) (fun hc => ?_) (fun hc => ?_)
  · replace H := H.1 (bi_1 hc)
    refine fs_aload_n (k0 := 0) (i := 0) dd_X12_chance_17 rfl rfl ?_
    refine fs_callV (y := m_X12_keeps) (as := []) dd_X12_chance_18 me_X12_keeps lk_X12_594 in_X12_keeps se_X12_keeps ca_196 rfl rfl rfl (Nat.le_of_ble_eq_true rfl) (Nat.le_of_ble_eq_true rfl) rfl (V_X12_keeps (by omega)  H) (k2_V fun s4 H => ?_)
    refine fs_iconst (n := 0) (v := 0) dd_X12_chance_21 (by decide) ?_
    refine fs_istore_n (k0 := 2) (i := 2) dd_X12_chance_22 rfl (by decide) ?_
    refine fs_iconst (n := 0) (v := 0) dd_X12_chance_23 (by decide) ?_
    refine fs_istore_n (k0 := 3) (i := 3) dd_X12_chance_24 rfl (by decide) ?_
    refine fs_weak (ls2 := [.ref 196, .int p0, .int 0, .int 0]) (fz_le_e (fz_le_e (fz_le_e (fz_le_e fz_le_n)))) ?_
    exact V_lp_X12_chance_25 hD    2048 H
  · replace H := H.2 (bi_0 hc)
    refine fs_aload_n (k0 := 0) (i := 0) dd_X12_chance_11 rfl rfl ?_
    refine fs_iconst (n := 3) (v := 3) dd_X12_chance_12 (by decide) ?_
    refine fs_callV (y := m_X12_refuses) (as := [.int 3]) dd_X12_chance_13 me_X12_refuses lk_X12_571 in_X12_refuses se_X12_refuses ca_196 rfl rfl rfl (Nat.le_of_ble_eq_true rfl) (Nat.le_of_ble_eq_true rfl) rfl (V_X12_refuses (by omega)  H) (k2_I fun r5 s6 H => ?_)
    exact fs_iret dd_X12_chance_16 rfl H
theorem dd_X12_qOf_0 : decode m_X12_qOf.2.1 0 = .ok (.iload_n 1, 1) := by decide +kernel
theorem dd_X12_qOf_1 : decode m_X12_qOf.2.1 1 = .ok (.lookupswitch 44 #[(0, 19)], 19) := by decide +kernel
theorem dd_X12_qOf_20 : decode m_X12_qOf.2.1 20 = .ok (.aload_n 0, 1) := by decide +kernel
theorem dd_X12_qOf_21 : decode m_X12_qOf.2.1 21 = .ok (.lload_n 2, 1) := by decide +kernel
theorem dd_X12_qOf_22 : decode m_X12_qOf.2.1 22 = .ok (.invokevirtual 509, 3) := by decide +kernel
theorem dd_X12_qOf_25 : decode m_X12_qOf.2.1 25 = .ok (.ifCond .eq 18, 3) := by decide +kernel
theorem dd_X12_qOf_28 : decode m_X12_qOf.2.1 28 = .ok (.aload_n 0, 1) := by decide +kernel
theorem dd_X12_qOf_29 : decode m_X12_qOf.2.1 29 = .ok (.getfield 121, 3) := by decide +kernel
theorem dd_X12_qOf_32 : decode m_X12_qOf.2.1 32 = .ok (.iconst 1, 1) := by decide +kernel
theorem dd_X12_qOf_33 : decode m_X12_qOf.2.1 33 = .ok (.iconst 2, 1) := by decide +kernel
theorem dd_X12_qOf_34 : decode m_X12_qOf.2.1 34 = .ok (.lload_n 2, 1) := by decide +kernel
theorem dd_X12_qOf_35 : decode m_X12_qOf.2.1 35 = .ok (.l2i, 1) := by decide +kernel
theorem dd_X12_qOf_36 : decode m_X12_qOf.2.1 36 = .ok (.imul, 1) := by decide +kernel
theorem dd_X12_qOf_37 : decode m_X12_qOf.2.1 37 = .ok (.iadd, 1) := by decide +kernel
theorem dd_X12_qOf_38 : decode m_X12_qOf.2.1 38 = .ok (.iaload, 1) := by decide +kernel
theorem dd_X12_qOf_39 : decode m_X12_qOf.2.1 39 = .ok (.i2l, 1) := by decide +kernel
theorem dd_X12_qOf_40 : decode m_X12_qOf.2.1 40 = .ok (.goto 4, 3) := by decide +kernel
theorem dd_X12_qOf_43 : decode m_X12_qOf.2.1 43 = .ok (.lconst 0, 1) := by decide +kernel
theorem dd_X12_qOf_44 : decode m_X12_qOf.2.1 44 = .ok (.lreturn, 1) := by decide +kernel
theorem dd_X12_qOf_45 : decode m_X12_qOf.2.1 45 = .ok (.aload_n 0, 1) := by decide +kernel
theorem dd_X12_qOf_46 : decode m_X12_qOf.2.1 46 = .ok (.lload_n 2, 1) := by decide +kernel
theorem dd_X12_qOf_47 : decode m_X12_qOf.2.1 47 = .ok (.invokevirtual 509, 3) := by decide +kernel
theorem dd_X12_qOf_50 : decode m_X12_qOf.2.1 50 = .ok (.ifCond .eq 18, 3) := by decide +kernel
theorem dd_X12_qOf_53 : decode m_X12_qOf.2.1 53 = .ok (.aload_n 0, 1) := by decide +kernel
theorem dd_X12_qOf_54 : decode m_X12_qOf.2.1 54 = .ok (.getfield 127, 3) := by decide +kernel
theorem dd_X12_qOf_57 : decode m_X12_qOf.2.1 57 = .ok (.iconst 2, 1) := by decide +kernel
theorem dd_X12_qOf_58 : decode m_X12_qOf.2.1 58 = .ok (.iload 4, 2) := by decide +kernel
theorem dd_X12_qOf_60 : decode m_X12_qOf.2.1 60 = .ok (.imul, 1) := by decide +kernel
theorem dd_X12_qOf_61 : decode m_X12_qOf.2.1 61 = .ok (.lload_n 2, 1) := by decide +kernel
theorem dd_X12_qOf_62 : decode m_X12_qOf.2.1 62 = .ok (.l2i, 1) := by decide +kernel
theorem dd_X12_qOf_63 : decode m_X12_qOf.2.1 63 = .ok (.iadd, 1) := by decide +kernel
theorem dd_X12_qOf_64 : decode m_X12_qOf.2.1 64 = .ok (.laload, 1) := by decide +kernel
theorem dd_X12_qOf_65 : decode m_X12_qOf.2.1 65 = .ok (.goto 4, 3) := by decide +kernel
theorem dd_X12_qOf_68 : decode m_X12_qOf.2.1 68 = .ok (.lconst 0, 1) := by decide +kernel
theorem dd_X12_qOf_69 : decode m_X12_qOf.2.1 69 = .ok (.lreturn, 1) := by decide +kernel
def wp_X12_qOf (p0 : Int32) (p1 : Int64) (p2 : Int32) (s : fz_s) (Q : Int64 → fz_s → Prop) : Prop :=
  ((p0 = 0 → wp_X12_isVillage p1 s (fun r1 s2 => ((r1 = false → Q 0 s2) ∧ (r1 = true → vp_in (1 + (2 * p1.toInt32)) 150 ∧ Q ((s2.1 232 (1 + (2 * p1.toInt32)).toNatClampNeg).toInt64) s2)))) ∧ (¬ p0 = 0 → wp_X12_isVillage p1 s (fun r3 s4 => ((r3 = false → Q 0 s4) ∧ (r3 = true → vp_in ((2 * p2) + p1.toInt32) 16 ∧ Q (s4.2.1 234 ((2 * p2) + p1.toInt32).toNatClampNeg) s4)))))
set_option maxRecDepth 100000 in
set_option maxHeartbeats 4000000 in
theorem V_X12_qOf {g : fz_G} {l : Launch} {d : Nat} (hD : 2 ≤ d) {p0 : Int32} {p1 : Int64} {p2 : Int32}  {s : fz_s} {Q : Int64 → fz_s → Prop} (H : wp_X12_qOf p0 p1 p2 s Q) : fs_V g l m_X12_qOf d false 0 (fz_en [.ref 196, .int p0, .long p1, .int p2] 5) [] s (rL Q) := by
  obtain ⟨d, rfl⟩ : ∃ e, d = e + 1 := ⟨d - 1, by omega⟩
  unfold wp_X12_qOf at H
  refine fs_iload_n (k0 := 1) (i := 1) dd_X12_qOf_0 rfl rfl ?_
  by_cases hc0 : p0 = 0
  · replace H := H.1 hc0
    refine fs_lookAt (k := 0) (off := 19) (tgt := 20) hc0 dd_X12_qOf_1 (by decide) (by decide) (by decide) ?_
    refine fs_aload_n (k0 := 0) (i := 0) dd_X12_qOf_20 rfl rfl ?_
    refine fs_lload_n (k0 := 2) (i := 2) dd_X12_qOf_21 rfl rfl ?_
    refine fs_callV (y := m_X12_isVillage) (as := [.long p1]) dd_X12_qOf_22 me_X12_isVillage lk_X12_509 in_X12_isVillage se_X12_isVillage ca_196 rfl rfl rfl (Nat.le_of_ble_eq_true rfl) (Nat.le_of_ble_eq_true rfl) rfl (V_X12_isVillage (by omega)  H) (k2_Z fun r1 s2 H => ?_)
    refine fs_if_eq (tgt := 43) dd_X12_qOf_25 (by decide) (fun hc => ?_) (fun hc => ?_)
    · replace H := H.1 (bi_0 hc)
      refine fs_lconst (n := 0) (v := 0) dd_X12_qOf_43 (by decide) ?_
      exact fs_lret dd_X12_qOf_44 rfl H
    · replace H := H.2 (bi_1 hc)
      refine fs_aload_n (k0 := 0) (i := 0) dd_X12_qOf_28 rfl rfl ?_
      refine fs_getr (ci := 12) (j := 54) (q := 232) dd_X12_qOf_29 fl_X12_121 ca_196 rfl (Or.inr ⟨_, rfl⟩) rfl (by decide) ?_
      refine fs_iconst (n := 1) (v := 1) dd_X12_qOf_32 (by decide) ?_
      refine fs_iconst (n := 2) (v := 2) dd_X12_qOf_33 (by decide) ?_
      refine fs_lload_n (k0 := 2) (i := 2) dd_X12_qOf_34 rfl rfl ?_
      refine fs_l2i dd_X12_qOf_35 ?_
      refine fs_imul dd_X12_qOf_36 ?_
      refine fs_iadd dd_X12_qOf_37 ?_
      have hb := H.1
      replace H := H.2
      refine fs_iald dd_X12_qOf_38 ca_232 hb ?_
      refine fs_i2l dd_X12_qOf_39 ?_
      refine fs_goto (tgt := 44) dd_X12_qOf_40 (by decide) ?_
      exact fs_lret dd_X12_qOf_44 rfl H
  replace H := H.2 hc0
  refine fs_lookOut1 (tgt := 45) hc0 dd_X12_qOf_1 (by decide) ?_
  refine fs_aload_n (k0 := 0) (i := 0) dd_X12_qOf_45 rfl rfl ?_
  refine fs_lload_n (k0 := 2) (i := 2) dd_X12_qOf_46 rfl rfl ?_
  refine fs_callV (y := m_X12_isVillage) (as := [.long p1]) dd_X12_qOf_47 me_X12_isVillage lk_X12_509 in_X12_isVillage se_X12_isVillage ca_196 rfl rfl rfl (Nat.le_of_ble_eq_true rfl) (Nat.le_of_ble_eq_true rfl) rfl (V_X12_isVillage (by omega)  H) (k2_Z fun r3 s4 H => ?_)
  refine fs_if_eq (tgt := 68) dd_X12_qOf_50 (by decide) (fun hc => ?_) (fun hc => ?_)
  · replace H := H.1 (bi_0 hc)
    refine fs_lconst (n := 0) (v := 0) dd_X12_qOf_68 (by decide) ?_
    exact fs_lret dd_X12_qOf_69 rfl H
  · replace H := H.2 (bi_1 hc)
    refine fs_aload_n (k0 := 0) (i := 0) dd_X12_qOf_53 rfl rfl ?_
    refine fs_getr (ci := 12) (j := 57) (q := 234) dd_X12_qOf_54 fl_X12_127 ca_196 rfl (Or.inr ⟨_, rfl⟩) rfl (by decide) ?_
    refine fs_iconst (n := 2) (v := 2) dd_X12_qOf_57 (by decide) ?_
    refine fs_iload (i := 4) dd_X12_qOf_58 rfl ?_
    refine fs_imul dd_X12_qOf_60 ?_
    refine fs_lload_n (k0 := 2) (i := 2) dd_X12_qOf_61 rfl rfl ?_
    refine fs_l2i dd_X12_qOf_62 ?_
    refine fs_iadd dd_X12_qOf_63 ?_
    have hb := H.1
    replace H := H.2
    refine fs_lald dd_X12_qOf_64 ca_234 hb ?_
    refine fs_goto (tgt := 69) dd_X12_qOf_65 (by decide) ?_
    exact fs_lret dd_X12_qOf_69 rfl H
theorem dd_X12_qTold_0 : decode m_X12_qTold.2.1 0 = .ok (.aload_n 0, 1) := by decide +kernel
theorem dd_X12_qTold_1 : decode m_X12_qTold.2.1 1 = .ok (.iconst 0, 1) := by decide +kernel
theorem dd_X12_qTold_2 : decode m_X12_qTold.2.1 2 = .ok (.putfield 421, 3) := by decide +kernel
theorem dd_X12_qTold_5 : decode m_X12_qTold.2.1 5 = .ok (.iconst 0, 1) := by decide +kernel
theorem dd_X12_qTold_6 : decode m_X12_qTold.2.1 6 = .ok (.istore_n 2, 1) := by decide +kernel
theorem dd_X12_qTold_7 : decode m_X12_qTold.2.1 7 = .ok (.iload_n 2, 1) := by decide +kernel
theorem dd_X12_qTold_8 : decode m_X12_qTold.2.1 8 = .ok (.aload_n 0, 1) := by decide +kernel
theorem dd_X12_qTold_9 : decode m_X12_qTold.2.1 9 = .ok (.getfield 338, 3) := by decide +kernel
theorem dd_X12_qTold_12 : decode m_X12_qTold.2.1 12 = .ok (.if_icmp .ge 156, 3) := by decide +kernel
theorem dd_X12_qTold_15 : decode m_X12_qTold.2.1 15 = .ok (.aload_n 0, 1) := by decide +kernel
theorem dd_X12_qTold_16 : decode m_X12_qTold.2.1 16 = .ok (.getfield 237, 3) := by decide +kernel
theorem dd_X12_qTold_19 : decode m_X12_qTold.2.1 19 = .ok (.iload_n 2, 1) := by decide +kernel
theorem dd_X12_qTold_20 : decode m_X12_qTold.2.1 20 = .ok (.iaload, 1) := by decide +kernel
theorem dd_X12_qTold_21 : decode m_X12_qTold.2.1 21 = .ok (.istore_n 3, 1) := by decide +kernel
theorem dd_X12_qTold_22 : decode m_X12_qTold.2.1 22 = .ok (.iload_n 3, 1) := by decide +kernel
theorem dd_X12_qTold_23 : decode m_X12_qTold.2.1 23 = .ok (.sipush 1000, 3) := by decide +kernel
theorem dd_X12_qTold_26 : decode m_X12_qTold.2.1 26 = .ok (.if_icmp .lt 16, 3) := by decide +kernel
theorem dd_X12_qTold_29 : decode m_X12_qTold.2.1 29 = .ok (.aload_n 0, 1) := by decide +kernel
theorem dd_X12_qTold_30 : decode m_X12_qTold.2.1 30 = .ok (.iload_n 3, 1) := by decide +kernel
theorem dd_X12_qTold_31 : decode m_X12_qTold.2.1 31 = .ok (.sipush 1000, 3) := by decide +kernel
theorem dd_X12_qTold_34 : decode m_X12_qTold.2.1 34 = .ok (.isub, 1) := by decide +kernel
theorem dd_X12_qTold_35 : decode m_X12_qTold.2.1 35 = .ok (.i2l, 1) := by decide +kernel
theorem dd_X12_qTold_36 : decode m_X12_qTold.2.1 36 = .ok (.invokevirtual 424, 3) := by decide +kernel
theorem dd_X12_qTold_39 : decode m_X12_qTold.2.1 39 = .ok (.goto 123, 3) := by decide +kernel
theorem dd_X12_qTold_42 : decode m_X12_qTold.2.1 42 = .ok (.iload_n 3, 1) := by decide +kernel
theorem dd_X12_qTold_43 : decode m_X12_qTold.2.1 43 = .ok (.bipush 60, 2) := by decide +kernel
theorem dd_X12_qTold_45 : decode m_X12_qTold.2.1 45 = .ok (.if_icmp .lt 40, 3) := by decide +kernel
theorem dd_X12_qTold_48 : decode m_X12_qTold.2.1 48 = .ok (.aload_n 0, 1) := by decide +kernel
theorem dd_X12_qTold_49 : decode m_X12_qTold.2.1 49 = .ok (.getfield 243, 3) := by decide +kernel
theorem dd_X12_qTold_52 : decode m_X12_qTold.2.1 52 = .ok (.aload_n 0, 1) := by decide +kernel
theorem dd_X12_qTold_53 : decode m_X12_qTold.2.1 53 = .ok (.getfield 421, 3) := by decide +kernel
theorem dd_X12_qTold_56 : decode m_X12_qTold.2.1 56 = .ok (.iconst 1, 1) := by decide +kernel
theorem dd_X12_qTold_57 : decode m_X12_qTold.2.1 57 = .ok (.isub, 1) := by decide +kernel
theorem dd_X12_qTold_58 : decode m_X12_qTold.2.1 58 = .ok (.aload_n 0, 1) := by decide +kernel
theorem dd_X12_qTold_59 : decode m_X12_qTold.2.1 59 = .ok (.iload_n 3, 1) := by decide +kernel
theorem dd_X12_qTold_60 : decode m_X12_qTold.2.1 60 = .ok (.bipush 60, 2) := by decide +kernel
theorem dd_X12_qTold_62 : decode m_X12_qTold.2.1 62 = .ok (.isub, 1) := by decide +kernel
theorem dd_X12_qTold_63 : decode m_X12_qTold.2.1 63 = .ok (.aload_n 0, 1) := by decide +kernel
theorem dd_X12_qTold_64 : decode m_X12_qTold.2.1 64 = .ok (.getfield 243, 3) := by decide +kernel
theorem dd_X12_qTold_67 : decode m_X12_qTold.2.1 67 = .ok (.aload_n 0, 1) := by decide +kernel
theorem dd_X12_qTold_68 : decode m_X12_qTold.2.1 68 = .ok (.getfield 421, 3) := by decide +kernel
theorem dd_X12_qTold_71 : decode m_X12_qTold.2.1 71 = .ok (.iconst 1, 1) := by decide +kernel
theorem dd_X12_qTold_72 : decode m_X12_qTold.2.1 72 = .ok (.isub, 1) := by decide +kernel
theorem dd_X12_qTold_73 : decode m_X12_qTold.2.1 73 = .ok (.laload, 1) := by decide +kernel
theorem dd_X12_qTold_74 : decode m_X12_qTold.2.1 74 = .ok (.iload_n 1, 1) := by decide +kernel
theorem dd_X12_qTold_75 : decode m_X12_qTold.2.1 75 = .ok (.invokevirtual 674, 3) := by decide +kernel
theorem dd_X12_qTold_78 : decode m_X12_qTold.2.1 78 = .ok (.invokestatic 666, 3) := by decide +kernel
theorem dd_X12_qTold_81 : decode m_X12_qTold.2.1 81 = .ok (.lastore, 1) := by decide +kernel
theorem dd_X12_qTold_82 : decode m_X12_qTold.2.1 82 = .ok (.goto 80, 3) := by decide +kernel
theorem dd_X12_qTold_85 : decode m_X12_qTold.2.1 85 = .ok (.iload_n 3, 1) := by decide +kernel
theorem dd_X12_qTold_86 : decode m_X12_qTold.2.1 86 = .ok (.bipush 40, 2) := by decide +kernel
theorem dd_X12_qTold_88 : decode m_X12_qTold.2.1 88 = .ok (.if_icmp .lt 22, 3) := by decide +kernel
theorem dd_X12_qTold_91 : decode m_X12_qTold.2.1 91 = .ok (.aload_n 0, 1) := by decide +kernel
theorem dd_X12_qTold_92 : decode m_X12_qTold.2.1 92 = .ok (.aload_n 0, 1) := by decide +kernel
theorem dd_X12_qTold_93 : decode m_X12_qTold.2.1 93 = .ok (.iload_n 3, 1) := by decide +kernel
theorem dd_X12_qTold_94 : decode m_X12_qTold.2.1 94 = .ok (.bipush 40, 2) := by decide +kernel
theorem dd_X12_qTold_96 : decode m_X12_qTold.2.1 96 = .ok (.isub, 1) := by decide +kernel
theorem dd_X12_qTold_97 : decode m_X12_qTold.2.1 97 = .ok (.iload_n 1, 1) := by decide +kernel
theorem dd_X12_qTold_98 : decode m_X12_qTold.2.1 98 = .ok (.invokevirtual 428, 3) := by decide +kernel
theorem dd_X12_qTold_101 : decode m_X12_qTold.2.1 101 = .ok (.invokestatic 666, 3) := by decide +kernel
theorem dd_X12_qTold_104 : decode m_X12_qTold.2.1 104 = .ok (.invokevirtual 424, 3) := by decide +kernel
theorem dd_X12_qTold_107 : decode m_X12_qTold.2.1 107 = .ok (.goto 55, 3) := by decide +kernel
theorem dd_X12_qTold_110 : decode m_X12_qTold.2.1 110 = .ok (.iload_n 3, 1) := by decide +kernel
theorem dd_X12_qTold_111 : decode m_X12_qTold.2.1 111 = .ok (.bipush 13, 2) := by decide +kernel
theorem dd_X12_qTold_113 : decode m_X12_qTold.2.1 113 = .ok (.if_icmp .ne 11, 3) := by decide +kernel
theorem dd_X12_qTold_116 : decode m_X12_qTold.2.1 116 = .ok (.aload_n 0, 1) := by decide +kernel
theorem dd_X12_qTold_117 : decode m_X12_qTold.2.1 117 = .ok (.lconst 1, 1) := by decide +kernel
theorem dd_X12_qTold_118 : decode m_X12_qTold.2.1 118 = .ok (.invokevirtual 424, 3) := by decide +kernel
theorem dd_X12_qTold_121 : decode m_X12_qTold.2.1 121 = .ok (.goto 41, 3) := by decide +kernel
theorem dd_X12_qTold_124 : decode m_X12_qTold.2.1 124 = .ok (.iload_n 3, 1) := by decide +kernel
theorem dd_X12_qTold_125 : decode m_X12_qTold.2.1 125 = .ok (.bipush 12, 2) := by decide +kernel
theorem dd_X12_qTold_127 : decode m_X12_qTold.2.1 127 = .ok (.if_icmp .ne 30, 3) := by decide +kernel
theorem dd_X12_qTold_130 : decode m_X12_qTold.2.1 130 = .ok (.aload_n 0, 1) := by decide +kernel
theorem dd_X12_qTold_131 : decode m_X12_qTold.2.1 131 = .ok (.getfield 243, 3) := by decide +kernel
theorem dd_X12_qTold_134 : decode m_X12_qTold.2.1 134 = .ok (.aload_n 0, 1) := by decide +kernel
theorem dd_X12_qTold_135 : decode m_X12_qTold.2.1 135 = .ok (.getfield 421, 3) := by decide +kernel
theorem dd_X12_qTold_138 : decode m_X12_qTold.2.1 138 = .ok (.iconst 1, 1) := by decide +kernel
theorem dd_X12_qTold_139 : decode m_X12_qTold.2.1 139 = .ok (.isub, 1) := by decide +kernel
theorem dd_X12_qTold_140 : decode m_X12_qTold.2.1 140 = .ok (.lconst 1, 1) := by decide +kernel
theorem dd_X12_qTold_141 : decode m_X12_qTold.2.1 141 = .ok (.aload_n 0, 1) := by decide +kernel
theorem dd_X12_qTold_142 : decode m_X12_qTold.2.1 142 = .ok (.getfield 243, 3) := by decide +kernel
theorem dd_X12_qTold_145 : decode m_X12_qTold.2.1 145 = .ok (.aload_n 0, 1) := by decide +kernel
theorem dd_X12_qTold_146 : decode m_X12_qTold.2.1 146 = .ok (.getfield 421, 3) := by decide +kernel
theorem dd_X12_qTold_149 : decode m_X12_qTold.2.1 149 = .ok (.iconst 1, 1) := by decide +kernel
theorem dd_X12_qTold_150 : decode m_X12_qTold.2.1 150 = .ok (.isub, 1) := by decide +kernel
theorem dd_X12_qTold_151 : decode m_X12_qTold.2.1 151 = .ok (.laload, 1) := by decide +kernel
theorem dd_X12_qTold_152 : decode m_X12_qTold.2.1 152 = .ok (.lsub, 1) := by decide +kernel
theorem dd_X12_qTold_153 : decode m_X12_qTold.2.1 153 = .ok (.lastore, 1) := by decide +kernel
theorem dd_X12_qTold_154 : decode m_X12_qTold.2.1 154 = .ok (.goto 8, 3) := by decide +kernel
theorem dd_X12_qTold_157 : decode m_X12_qTold.2.1 157 = .ok (.aload_n 0, 1) := by decide +kernel
theorem dd_X12_qTold_158 : decode m_X12_qTold.2.1 158 = .ok (.iload_n 3, 1) := by decide +kernel
theorem dd_X12_qTold_159 : decode m_X12_qTold.2.1 159 = .ok (.invokevirtual 432, 3) := by decide +kernel
theorem dd_X12_qTold_162 : decode m_X12_qTold.2.1 162 = .ok (.iinc 2 1, 3) := by decide +kernel
theorem dd_X12_qTold_165 : decode m_X12_qTold.2.1 165 = .ok (.goto (-158), 3) := by decide +kernel
theorem dd_X12_qTold_168 : decode m_X12_qTold.2.1 168 = .ok (.aload_n 0, 1) := by decide +kernel
theorem dd_X12_qTold_169 : decode m_X12_qTold.2.1 169 = .ok (.getfield 243, 3) := by decide +kernel
theorem dd_X12_qTold_172 : decode m_X12_qTold.2.1 172 = .ok (.iconst 0, 1) := by decide +kernel
theorem dd_X12_qTold_173 : decode m_X12_qTold.2.1 173 = .ok (.laload, 1) := by decide +kernel
theorem dd_X12_qTold_174 : decode m_X12_qTold.2.1 174 = .ok (.lreturn, 1) := by decide +kernel
def nd_X12_qTold_7  (K7 : Int32 → Int32 → fz_s → Prop) (Q : Int64 → fz_s → Prop) (v1 : Int32) (v2 : Int32) (s : fz_s) : Prop :=
  (((s.1 196 101) ≤ v2 → Q (s.2.1 271 (0 : Int32).toNatClampNeg) s) ∧ (¬ (s.1 196 101) ≤ v2 → vp_in v2 1700 ∧ ∀ x1 : Int32, x1 = (s.1 269 v2.toNatClampNeg) → ((x1 < 1000 → ((x1 < 60 → ((x1 < 40 → ((¬ x1 = 13 → ((¬ x1 = 12 → wp_X12_qJoins x1 s (fun s3 => ∀ x4 : Int32, x4 = v2 + 1 → K7 v1 x4 s3)) ∧ (x1 = 12 → vp_in ((s.1 196 107) - 1) 1700 ∧ vp_in ((s.1 196 107) - 1) 1700 ∧ ∀ s5 : fz_s, s5 = sl s 271 ((s.1 196 107) - 1).toNatClampNeg (1 - (s.2.1 271 ((s.1 196 107) - 1).toNatClampNeg)) → ∀ x6 : Int32, x6 = v2 + 1 → K7 v1 x6 s5))) ∧ (x1 = 13 → wp_X12_qPuts 1 s (fun s8 => ∀ x9 : Int32, x9 = v2 + 1 → K7 v1 x9 s8)))) ∧ (¬ x1 < 40 → wp_X12_qPartOf (x1 - 40) v1 s (fun r10 s11 => wp_X12_qClip r10 s11 (fun r12 s13 => wp_X12_qPuts r12 s13 (fun s15 => ∀ x16 : Int32, x16 = v2 + 1 → K7 v1 x16 s15)))))) ∧ (¬ x1 < 60 → vp_in ((s.1 196 107) - 1) 1700 ∧ wp_X12_qOf (x1 - 60) (s.2.1 271 ((s.1 196 107) - 1).toNatClampNeg) v1 s (fun r17 s18 => wp_X12_qClip r17 s18 (fun r19 s20 => vp_in ((s.1 196 107) - 1) 1700 ∧ ∀ s21 : fz_s, s21 = sl s20 271 ((s.1 196 107) - 1).toNatClampNeg r19 → ∀ x22 : Int32, x22 = v2 + 1 → K7 v1 x22 s21))))) ∧ (¬ x1 < 1000 → wp_X12_qPuts ((x1 - 1000).toInt64) s (fun s24 => ∀ x25 : Int32, x25 = v2 + 1 → K7 v1 x25 s24)))))
def lp_X12_qTold_7   (Q : Int64 → fz_s → Prop) : Nat → Int32 → Int32 → fz_s → Prop
  | 0 => fun _ _ _ => False
  | n + 1 => nd_X12_qTold_7  (lp_X12_qTold_7   Q n) Q
def wp_X12_qTold (p0 : Int32) (s : fz_s) (Q : Int64 → fz_s → Prop) : Prop :=
  ∀ s1 : fz_s, s1 = si s 196 107 0 → lp_X12_qTold_7   Q 2048 p0 0 s1
set_option maxRecDepth 100000 in
set_option maxHeartbeats 4000000 in
theorem V_nd_X12_qTold_7 {g : fz_G} {l : Launch} {d : Nat} (hD : 4 ≤ d)   {K7 : Int32 → Int32 → fz_s → Prop} {Q : Int64 → fz_s → Prop} {v1 : Int32} {v2 : Int32} {s : fz_s} (hK7 : ∀ {v1 : Int32} {v2 : Int32} {s : fz_s}, K7 v1 v2 s → fs_V g l m_X12_qTold d false 7 [.ref 196, .int v1, .int v2, fz_J] [] s (rL Q)) (H : nd_X12_qTold_7  K7 Q v1 v2 s) : fs_V g l m_X12_qTold d false 7 [.ref 196, .int v1, .int v2, fz_J] [] s (rL Q) := by
  obtain ⟨d, rfl⟩ : ∃ e, d = e + 1 := ⟨d - 1, by omega⟩
  unfold nd_X12_qTold_7 at H
  refine fs_iload_n (k0 := 2) (i := 2) dd_X12_qTold_7 rfl rfl ?_
  refine fs_aload_n (k0 := 0) (i := 0) dd_X12_qTold_8 rfl rfl ?_
  refine fs_geti (ci := 12) (j := 101) dd_X12_qTold_9 fl_X12_338 ca_196 rfl (Or.inl rfl) ?_
  refine fs_icmp_ge (tgt := 168) dd_X12_qTold_12 (by decide) (fun hc => ?_) (fun hc => ?_)
  · replace H := H.1 hc
    refine fs_aload_n (k0 := 0) (i := 0) dd_X12_qTold_168 rfl rfl ?_
    refine fs_getr (ci := 12) (j := 106) (q := 271) dd_X12_qTold_169 fl_X12_243 ca_196 rfl (Or.inr ⟨_, rfl⟩) rfl (by decide) ?_
    refine fs_iconst (n := 0) (v := 0) dd_X12_qTold_172 (by decide) ?_
    refine fs_lald dd_X12_qTold_173 ca_271 (vp_in_nI (n := 0) (by decide) (by decide)) ?_
    exact fs_lret dd_X12_qTold_174 rfl H
  · replace H := H.2 hc
    refine fs_aload_n (k0 := 0) (i := 0) dd_X12_qTold_15 rfl rfl ?_
    refine fs_getr (ci := 12) (j := 100) (q := 269) dd_X12_qTold_16 fl_X12_237 ca_196 rfl (Or.inr ⟨_, rfl⟩) rfl (by decide) ?_
    refine fs_iload_n (k0 := 2) (i := 2) dd_X12_qTold_19 rfl rfl ?_
    have hb := H.1
    replace H := H.2
    refine fs_iald dd_X12_qTold_20 ca_269 hb ?_
    refine fs_topi (fun x1 hx1 => ?_)
    replace H := H x1 hx1
    refine fs_istore_n (k0 := 3) (i := 3) dd_X12_qTold_21 rfl (by decide) ?_
    refine fs_iload_n (k0 := 3) (i := 3) dd_X12_qTold_22 rfl rfl ?_
    refine fs_sipush (n := 1000) (v := 1000) dd_X12_qTold_23 (by decide) ?_
    refine fs_icmp_lt (tgt := 42) dd_X12_qTold_26 (by decide) (fun hc => ?_) (fun hc => ?_)
    · replace H := H.1 hc
      refine fs_iload_n (k0 := 3) (i := 3) dd_X12_qTold_42 rfl rfl ?_
      refine fs_bipush (n := 60) (v := 60) dd_X12_qTold_43 (by decide) ?_
      refine fs_icmp_lt (tgt := 85) dd_X12_qTold_45 (by decide) (fun hc => ?_) (fun hc => ?_)
      · replace H := H.1 hc
        refine fs_iload_n (k0 := 3) (i := 3) dd_X12_qTold_85 rfl rfl ?_
        refine fs_bipush (n := 40) (v := 40) dd_X12_qTold_86 (by decide) ?_
        refine fs_icmp_lt (tgt := 110) dd_X12_qTold_88 (by decide) (fun hc => ?_) (fun hc => ?_)
        · replace H := H.1 hc
          refine fs_iload_n (k0 := 3) (i := 3) dd_X12_qTold_110 rfl rfl ?_
          refine fs_bipush (n := 13) (v := 13) dd_X12_qTold_111 (by decide) ?_
          refine fs_icmp_ne (tgt := 124) dd_X12_qTold_113 (by decide) (fun hc => ?_) (fun hc => ?_)
          · replace H := H.1 hc
            refine fs_iload_n (k0 := 3) (i := 3) dd_X12_qTold_124 rfl rfl ?_
            refine fs_bipush (n := 12) (v := 12) dd_X12_qTold_125 (by decide) ?_
            refine fs_icmp_ne (tgt := 157) dd_X12_qTold_127 (by decide) (fun hc => ?_) (fun hc => ?_)
            · replace H := H.1 hc
              refine fs_aload_n (k0 := 0) (i := 0) dd_X12_qTold_157 rfl rfl ?_
              refine fs_iload_n (k0 := 3) (i := 3) dd_X12_qTold_158 rfl rfl ?_
              refine fs_callV (y := m_X12_qJoins) (as := [.int x1]) dd_X12_qTold_159 me_X12_qJoins lk_X12_432 in_X12_qJoins se_X12_qJoins ca_196 rfl rfl rfl (Nat.le_of_ble_eq_true rfl) (Nat.le_of_ble_eq_true rfl) rfl (V_X12_qJoins (by omega)  H) (k2_V fun s3 H => ?_)
              refine fs_iincN (i := 2) (m := 1) (c := 1) dd_X12_qTold_162 rfl (by decide) (by decide) (fun x4 hx4 => ?_)
              replace H := H x4 hx4
              refine fs_goto (tgt := 7) dd_X12_qTold_165 (by decide) ?_
              refine fs_weak (ls2 := [.ref 196, .int v1, .int x4, fz_J]) (fz_le_e (fz_le_e (fz_le_e (fz_le_j fz_le_n)))) ?_
              exact hK7 H
            · replace H := H.2 hc
              refine fs_aload_n (k0 := 0) (i := 0) dd_X12_qTold_130 rfl rfl ?_
              refine fs_getr (ci := 12) (j := 106) (q := 271) dd_X12_qTold_131 fl_X12_243 ca_196 rfl (Or.inr ⟨_, rfl⟩) rfl (by decide) ?_
              refine fs_aload_n (k0 := 0) (i := 0) dd_X12_qTold_134 rfl rfl ?_
              refine fs_geti (ci := 12) (j := 107) dd_X12_qTold_135 fl_X12_421 ca_196 rfl (Or.inl rfl) ?_
              refine fs_iconst (n := 1) (v := 1) dd_X12_qTold_138 (by decide) ?_
              refine fs_isub dd_X12_qTold_139 ?_
              refine fs_lconst (n := 1) (v := 1) dd_X12_qTold_140 (by decide) ?_
              refine fs_aload_n (k0 := 0) (i := 0) dd_X12_qTold_141 rfl rfl ?_
              refine fs_getr (ci := 12) (j := 106) (q := 271) dd_X12_qTold_142 fl_X12_243 ca_196 rfl (Or.inr ⟨_, rfl⟩) rfl (by decide) ?_
              refine fs_aload_n (k0 := 0) (i := 0) dd_X12_qTold_145 rfl rfl ?_
              refine fs_geti (ci := 12) (j := 107) dd_X12_qTold_146 fl_X12_421 ca_196 rfl (Or.inl rfl) ?_
              refine fs_iconst (n := 1) (v := 1) dd_X12_qTold_149 (by decide) ?_
              refine fs_isub dd_X12_qTold_150 ?_
              have hb := H.1
              replace H := H.2
              refine fs_lald dd_X12_qTold_151 ca_271 hb ?_
              refine fs_lsub dd_X12_qTold_152 ?_
              have hb := H.1
              replace H := H.2
              refine fs_last dd_X12_qTold_153 ca_271 hb ?_
              refine fs_tops (fun s5 hs5 => ?_)
              replace H := H s5 hs5
              refine fs_goto (tgt := 162) dd_X12_qTold_154 (by decide) ?_
              refine fs_iincN (i := 2) (m := 1) (c := 1) dd_X12_qTold_162 rfl (by decide) (by decide) (fun x6 hx6 => ?_)
              replace H := H x6 hx6
              refine fs_goto (tgt := 7) dd_X12_qTold_165 (by decide) ?_
              refine fs_weak (ls2 := [.ref 196, .int v1, .int x6, fz_J]) (fz_le_e (fz_le_e (fz_le_e (fz_le_j fz_le_n)))) ?_
              exact hK7 H
          · replace H := H.2 hc
            refine fs_aload_n (k0 := 0) (i := 0) dd_X12_qTold_116 rfl rfl ?_
            refine fs_lconst (n := 1) (v := 1) dd_X12_qTold_117 (by decide) ?_
            refine fs_callV (y := m_X12_qPuts) (as := [.long 1]) dd_X12_qTold_118 me_X12_qPuts lk_X12_424 in_X12_qPuts se_X12_qPuts ca_196 rfl rfl rfl (Nat.le_of_ble_eq_true rfl) (Nat.le_of_ble_eq_true rfl) rfl (V_X12_qPuts (by omega)  H) (k2_V fun s8 H => ?_)
            refine fs_goto (tgt := 162) dd_X12_qTold_121 (by decide) ?_
            refine fs_iincN (i := 2) (m := 1) (c := 1) dd_X12_qTold_162 rfl (by decide) (by decide) (fun x9 hx9 => ?_)
            replace H := H x9 hx9
            refine fs_goto (tgt := 7) dd_X12_qTold_165 (by decide) ?_
            refine fs_weak (ls2 := [.ref 196, .int v1, .int x9, fz_J]) (fz_le_e (fz_le_e (fz_le_e (fz_le_j fz_le_n)))) ?_
            exact hK7 H
        · replace H := H.2 hc
          refine fs_aload_n (k0 := 0) (i := 0) dd_X12_qTold_91 rfl rfl ?_
          refine fs_aload_n (k0 := 0) (i := 0) dd_X12_qTold_92 rfl rfl ?_
          refine fs_iload_n (k0 := 3) (i := 3) dd_X12_qTold_93 rfl rfl ?_
          refine fs_bipush (n := 40) (v := 40) dd_X12_qTold_94 (by decide) ?_
          refine fs_isub dd_X12_qTold_96 ?_
          refine fs_iload_n (k0 := 1) (i := 1) dd_X12_qTold_97 rfl rfl ?_
          refine fs_callV (y := m_X12_qPartOf) (as := [.int (x1 - 40), .int v1]) dd_X12_qTold_98 me_X12_qPartOf lk_X12_428 in_X12_qPartOf se_X12_qPartOf ca_196 rfl rfl rfl (Nat.le_of_ble_eq_true rfl) (Nat.le_of_ble_eq_true rfl) rfl (V_X12_qPartOf (by omega)  H) (k2_L fun r10 s11 H => ?_)
          refine fs_callS (y := m_X12_qClip) (as := [.long r10]) dd_X12_qTold_101 me_X12_qClip (Or.inl lk_X12_666) st_X12_qClip rfl (Nat.le_of_ble_eq_true rfl) (Nat.le_of_ble_eq_true rfl) rfl (V_X12_qClip (by omega)  H) (k2_L fun r12 s13 H => ?_)
          refine fs_callV (y := m_X12_qPuts) (as := [.long r12]) dd_X12_qTold_104 me_X12_qPuts lk_X12_424 in_X12_qPuts se_X12_qPuts ca_196 rfl rfl rfl (Nat.le_of_ble_eq_true rfl) (Nat.le_of_ble_eq_true rfl) rfl (V_X12_qPuts (by omega)  H) (k2_V fun s15 H => ?_)
          refine fs_goto (tgt := 162) dd_X12_qTold_107 (by decide) ?_
          refine fs_iincN (i := 2) (m := 1) (c := 1) dd_X12_qTold_162 rfl (by decide) (by decide) (fun x16 hx16 => ?_)
          replace H := H x16 hx16
          refine fs_goto (tgt := 7) dd_X12_qTold_165 (by decide) ?_
          refine fs_weak (ls2 := [.ref 196, .int v1, .int x16, fz_J]) (fz_le_e (fz_le_e (fz_le_e (fz_le_j fz_le_n)))) ?_
          exact hK7 H
      · replace H := H.2 hc
        refine fs_aload_n (k0 := 0) (i := 0) dd_X12_qTold_48 rfl rfl ?_
        refine fs_getr (ci := 12) (j := 106) (q := 271) dd_X12_qTold_49 fl_X12_243 ca_196 rfl (Or.inr ⟨_, rfl⟩) rfl (by decide) ?_
        refine fs_aload_n (k0 := 0) (i := 0) dd_X12_qTold_52 rfl rfl ?_
        refine fs_geti (ci := 12) (j := 107) dd_X12_qTold_53 fl_X12_421 ca_196 rfl (Or.inl rfl) ?_
        refine fs_iconst (n := 1) (v := 1) dd_X12_qTold_56 (by decide) ?_
        refine fs_isub dd_X12_qTold_57 ?_
        refine fs_aload_n (k0 := 0) (i := 0) dd_X12_qTold_58 rfl rfl ?_
        refine fs_iload_n (k0 := 3) (i := 3) dd_X12_qTold_59 rfl rfl ?_
        refine fs_bipush (n := 60) (v := 60) dd_X12_qTold_60 (by decide) ?_
        refine fs_isub dd_X12_qTold_62 ?_
        refine fs_aload_n (k0 := 0) (i := 0) dd_X12_qTold_63 rfl rfl ?_
        refine fs_getr (ci := 12) (j := 106) (q := 271) dd_X12_qTold_64 fl_X12_243 ca_196 rfl (Or.inr ⟨_, rfl⟩) rfl (by decide) ?_
        refine fs_aload_n (k0 := 0) (i := 0) dd_X12_qTold_67 rfl rfl ?_
        refine fs_geti (ci := 12) (j := 107) dd_X12_qTold_68 fl_X12_421 ca_196 rfl (Or.inl rfl) ?_
        refine fs_iconst (n := 1) (v := 1) dd_X12_qTold_71 (by decide) ?_
        refine fs_isub dd_X12_qTold_72 ?_
        have hb := H.1
        replace H := H.2
        refine fs_lald dd_X12_qTold_73 ca_271 hb ?_
        refine fs_iload_n (k0 := 1) (i := 1) dd_X12_qTold_74 rfl rfl ?_
        refine fs_callV (y := m_X12_qOf) (as := [.int (x1 - 60), .long (s.2.1 271 ((s.1 196 107) - 1).toNatClampNeg), .int v1]) dd_X12_qTold_75 me_X12_qOf lk_X12_674 in_X12_qOf se_X12_qOf ca_196 rfl rfl rfl (Nat.le_of_ble_eq_true rfl) (Nat.le_of_ble_eq_true rfl) rfl (V_X12_qOf (by omega)  H) (k2_L fun r17 s18 H => ?_)
        refine fs_callS (y := m_X12_qClip) (as := [.long r17]) dd_X12_qTold_78 me_X12_qClip (Or.inl lk_X12_666) st_X12_qClip rfl (Nat.le_of_ble_eq_true rfl) (Nat.le_of_ble_eq_true rfl) rfl (V_X12_qClip (by omega)  H) (k2_L fun r19 s20 H => ?_)
        have hb := H.1
        replace H := H.2
        refine fs_last dd_X12_qTold_81 ca_271 hb ?_
        refine fs_tops (fun s21 hs21 => ?_)
        replace H := H s21 hs21
        refine fs_goto (tgt := 162) dd_X12_qTold_82 (by decide) ?_
        refine fs_iincN (i := 2) (m := 1) (c := 1) dd_X12_qTold_162 rfl (by decide) (by decide) (fun x22 hx22 => ?_)
        replace H := H x22 hx22
        refine fs_goto (tgt := 7) dd_X12_qTold_165 (by decide) ?_
        refine fs_weak (ls2 := [.ref 196, .int v1, .int x22, fz_J]) (fz_le_e (fz_le_e (fz_le_e (fz_le_j fz_le_n)))) ?_
        exact hK7 H
    · replace H := H.2 hc
      refine fs_aload_n (k0 := 0) (i := 0) dd_X12_qTold_29 rfl rfl ?_
      refine fs_iload_n (k0 := 3) (i := 3) dd_X12_qTold_30 rfl rfl ?_
      refine fs_sipush (n := 1000) (v := 1000) dd_X12_qTold_31 (by decide) ?_
      refine fs_isub dd_X12_qTold_34 ?_
      refine fs_i2l dd_X12_qTold_35 ?_
      refine fs_callV (y := m_X12_qPuts) (as := [.long (x1 - 1000).toInt64]) dd_X12_qTold_36 me_X12_qPuts lk_X12_424 in_X12_qPuts se_X12_qPuts ca_196 rfl rfl rfl (Nat.le_of_ble_eq_true rfl) (Nat.le_of_ble_eq_true rfl) rfl (V_X12_qPuts (by omega)  H) (k2_V fun s24 H => ?_)
      refine fs_goto (tgt := 162) dd_X12_qTold_39 (by decide) ?_
      refine fs_iincN (i := 2) (m := 1) (c := 1) dd_X12_qTold_162 rfl (by decide) (by decide) (fun x25 hx25 => ?_)
      replace H := H x25 hx25
      refine fs_goto (tgt := 7) dd_X12_qTold_165 (by decide) ?_
      refine fs_weak (ls2 := [.ref 196, .int v1, .int x25, fz_J]) (fz_le_e (fz_le_e (fz_le_e (fz_le_j fz_le_n)))) ?_
      exact hK7 H
set_option maxRecDepth 100000 in
set_option maxHeartbeats 4000000 in
theorem V_lp_X12_qTold_7 {g : fz_G} {l : Launch} {d : Nat} (hD : 4 ≤ d)    {Q : Int64 → fz_s → Prop}  (n : Nat) : ∀ {v1 : Int32} {v2 : Int32} {s : fz_s}, lp_X12_qTold_7   Q n v1 v2 s → fs_V g l m_X12_qTold d false 7 [.ref 196, .int v1, .int v2, fz_J] [] s (rL Q) := by
  induction n with
  | zero => intro v1 v2 s H; exact H.elim
  | succ n ih => intro v1 v2 s H; exact V_nd_X12_qTold_7 hD  (fun H => ih H) H
set_option maxRecDepth 100000 in
set_option maxHeartbeats 4000000 in
theorem V_X12_qTold {g : fz_G} {l : Launch} {d : Nat} (hD : 4 ≤ d) {p0 : Int32}  {s : fz_s} {Q : Int64 → fz_s → Prop} (H : wp_X12_qTold p0 s Q) : fs_V g l m_X12_qTold d false 0 (fz_en [.ref 196, .int p0] 4) [] s (rL Q) := by
  obtain ⟨d, rfl⟩ : ∃ e, d = e + 1 := ⟨d - 1, by omega⟩
  unfold wp_X12_qTold at H
  refine fs_aload_n (k0 := 0) (i := 0) dd_X12_qTold_0 rfl rfl ?_
  refine fs_iconst (n := 0) (v := 0) dd_X12_qTold_1 (by decide) ?_
  refine fs_puti (ci := 12) (j := 107) dd_X12_qTold_2 fl_X12_421 (fun _ _ _ h => by cases h; rfl) ca_196 rfl (Or.inl rfl) ?_
  refine fs_tops (fun s1 hs1 => ?_)
  replace H := H s1 hs1
  refine fs_iconst (n := 0) (v := 0) dd_X12_qTold_5 (by decide) ?_
  refine fs_istore_n (k0 := 2) (i := 2) dd_X12_qTold_6 rfl (by decide) ?_
  refine fs_weak (ls2 := [.ref 196, .int p0, .int 0, fz_J]) (fz_le_e (fz_le_e (fz_le_e (fz_le_j fz_le_n)))) ?_
  exact V_lp_X12_qTold_7 hD    2048 H
theorem dd_X12_qKind_0 : decode m_X12_qKind.2.1 0 = .ok (.aload_n 0, 1) := by decide +kernel
theorem dd_X12_qKind_1 : decode m_X12_qKind.2.1 1 = .ok (.aload_n 0, 1) := by decide +kernel
theorem dd_X12_qKind_2 : decode m_X12_qKind.2.1 2 = .ok (.getfield 162, 3) := by decide +kernel
theorem dd_X12_qKind_5 : decode m_X12_qKind.2.1 5 = .ok (.invokevirtual 279, 3) := by decide +kernel
theorem dd_X12_qKind_8 : decode m_X12_qKind.2.1 8 = .ok (.ifCond .eq 7, 3) := by decide +kernel
theorem dd_X12_qKind_11 : decode m_X12_qKind.2.1 11 = .ok (.iconst 0, 1) := by decide +kernel
theorem dd_X12_qKind_12 : decode m_X12_qKind.2.1 12 = .ok (.goto 64, 3) := by decide +kernel
theorem dd_X12_qKind_15 : decode m_X12_qKind.2.1 15 = .ok (.aload_n 0, 1) := by decide +kernel
theorem dd_X12_qKind_16 : decode m_X12_qKind.2.1 16 = .ok (.aload_n 0, 1) := by decide +kernel
theorem dd_X12_qKind_17 : decode m_X12_qKind.2.1 17 = .ok (.getfield 165, 3) := by decide +kernel
theorem dd_X12_qKind_20 : decode m_X12_qKind.2.1 20 = .ok (.invokevirtual 279, 3) := by decide +kernel
theorem dd_X12_qKind_23 : decode m_X12_qKind.2.1 23 = .ok (.ifCond .eq 7, 3) := by decide +kernel
theorem dd_X12_qKind_26 : decode m_X12_qKind.2.1 26 = .ok (.iconst 1, 1) := by decide +kernel
theorem dd_X12_qKind_27 : decode m_X12_qKind.2.1 27 = .ok (.goto 49, 3) := by decide +kernel
theorem dd_X12_qKind_30 : decode m_X12_qKind.2.1 30 = .ok (.aload_n 0, 1) := by decide +kernel
theorem dd_X12_qKind_31 : decode m_X12_qKind.2.1 31 = .ok (.aload_n 0, 1) := by decide +kernel
theorem dd_X12_qKind_32 : decode m_X12_qKind.2.1 32 = .ok (.getfield 168, 3) := by decide +kernel
theorem dd_X12_qKind_35 : decode m_X12_qKind.2.1 35 = .ok (.invokevirtual 279, 3) := by decide +kernel
theorem dd_X12_qKind_38 : decode m_X12_qKind.2.1 38 = .ok (.ifCond .eq 7, 3) := by decide +kernel
theorem dd_X12_qKind_41 : decode m_X12_qKind.2.1 41 = .ok (.iconst 2, 1) := by decide +kernel
theorem dd_X12_qKind_42 : decode m_X12_qKind.2.1 42 = .ok (.goto 34, 3) := by decide +kernel
theorem dd_X12_qKind_45 : decode m_X12_qKind.2.1 45 = .ok (.aload_n 0, 1) := by decide +kernel
theorem dd_X12_qKind_46 : decode m_X12_qKind.2.1 46 = .ok (.aload_n 0, 1) := by decide +kernel
theorem dd_X12_qKind_47 : decode m_X12_qKind.2.1 47 = .ok (.getfield 171, 3) := by decide +kernel
theorem dd_X12_qKind_50 : decode m_X12_qKind.2.1 50 = .ok (.invokevirtual 279, 3) := by decide +kernel
theorem dd_X12_qKind_53 : decode m_X12_qKind.2.1 53 = .ok (.ifCond .eq 7, 3) := by decide +kernel
theorem dd_X12_qKind_56 : decode m_X12_qKind.2.1 56 = .ok (.iconst 3, 1) := by decide +kernel
theorem dd_X12_qKind_57 : decode m_X12_qKind.2.1 57 = .ok (.goto 19, 3) := by decide +kernel
theorem dd_X12_qKind_60 : decode m_X12_qKind.2.1 60 = .ok (.aload_n 0, 1) := by decide +kernel
theorem dd_X12_qKind_61 : decode m_X12_qKind.2.1 61 = .ok (.aload_n 0, 1) := by decide +kernel
theorem dd_X12_qKind_62 : decode m_X12_qKind.2.1 62 = .ok (.getfield 174, 3) := by decide +kernel
theorem dd_X12_qKind_65 : decode m_X12_qKind.2.1 65 = .ok (.invokevirtual 279, 3) := by decide +kernel
theorem dd_X12_qKind_68 : decode m_X12_qKind.2.1 68 = .ok (.ifCond .eq 7, 3) := by decide +kernel
theorem dd_X12_qKind_71 : decode m_X12_qKind.2.1 71 = .ok (.iconst 4, 1) := by decide +kernel
theorem dd_X12_qKind_72 : decode m_X12_qKind.2.1 72 = .ok (.goto 4, 3) := by decide +kernel
theorem dd_X12_qKind_75 : decode m_X12_qKind.2.1 75 = .ok (.iconst 5, 1) := by decide +kernel
theorem dd_X12_qKind_76 : decode m_X12_qKind.2.1 76 = .ok (.istore_n 1, 1) := by decide +kernel
theorem dd_X12_qKind_77 : decode m_X12_qKind.2.1 77 = .ok (.iload_n 1, 1) := by decide +kernel
theorem dd_X12_qKind_78 : decode m_X12_qKind.2.1 78 = .ok (.iconst 5, 1) := by decide +kernel
theorem dd_X12_qKind_79 : decode m_X12_qKind.2.1 79 = .ok (.if_icmp .ne 11, 3) := by decide +kernel
theorem dd_X12_qKind_82 : decode m_X12_qKind.2.1 82 = .ok (.aload_n 0, 1) := by decide +kernel
theorem dd_X12_qKind_83 : decode m_X12_qKind.2.1 83 = .ok (.aload_n 0, 1) := by decide +kernel
theorem dd_X12_qKind_84 : decode m_X12_qKind.2.1 84 = .ok (.getfield 177, 3) := by decide +kernel
theorem dd_X12_qKind_87 : decode m_X12_qKind.2.1 87 = .ok (.invokevirtual 323, 3) := by decide +kernel
theorem dd_X12_qKind_90 : decode m_X12_qKind.2.1 90 = .ok (.iload_n 1, 1) := by decide +kernel
theorem dd_X12_qKind_91 : decode m_X12_qKind.2.1 91 = .ok (.ireturn, 1) := by decide +kernel
def nd_X12_qKind_76   (Q : Int32 → fz_s → Prop) (u0 : Int32) (s : fz_s) : Prop :=
  ((¬ u0 = 5 → Q u0 s) ∧ (u0 = 5 → wp_X12_asks 249 5 s (fun s2 => Q u0 s2)))
def wp_X12_qKind  (s : fz_s) (Q : Int32 → fz_s → Prop) : Prop :=
  wp_X12_takes 244 5 s (fun r1 s2 => ((r1 = false → wp_X12_takes 245 4 s2 (fun r3 s4 => ((r3 = false → wp_X12_takes 246 5 s4 (fun r5 s6 => ((r5 = false → wp_X12_takes 247 5 s6 (fun r7 s8 => ((r7 = false → wp_X12_takes 248 4 s8 (fun r9 s10 => ((r9 = false → nd_X12_qKind_76   Q 5 s10) ∧ (r9 = true → nd_X12_qKind_76   Q 4 s10)))) ∧ (r7 = true → nd_X12_qKind_76   Q 3 s8)))) ∧ (r5 = true → nd_X12_qKind_76   Q 2 s6)))) ∧ (r3 = true → nd_X12_qKind_76   Q 1 s4)))) ∧ (r1 = true → nd_X12_qKind_76   Q 0 s2)))
set_option maxRecDepth 100000 in
set_option maxHeartbeats 4000000 in
theorem V_nd_X12_qKind_76 {g : fz_G} {l : Launch} {d : Nat} (hD : 4 ≤ d)    {Q : Int32 → fz_s → Prop} {u0 : Int32} {s : fz_s}  (H : nd_X12_qKind_76   Q u0 s) : fs_V g l m_X12_qKind d false 76 [.ref 196, fz_J] [.int u0] s (rI Q) := by
  obtain ⟨d, rfl⟩ : ∃ e, d = e + 1 := ⟨d - 1, by omega⟩
  unfold nd_X12_qKind_76 at H
  refine fs_istore_n (k0 := 1) (i := 1) dd_X12_qKind_76 rfl (by decide) ?_
  refine fs_iload_n (k0 := 1) (i := 1) dd_X12_qKind_77 rfl rfl ?_
  refine fs_iconst (n := 5) (v := 5) dd_X12_qKind_78 (by decide) ?_
  refine fs_icmp_ne (tgt := 90) dd_X12_qKind_79 (by decide) (fun hc => ?_) (fun hc => ?_)
  · replace H := H.1 hc
    refine fs_iload_n (k0 := 1) (i := 1) dd_X12_qKind_90 rfl rfl ?_
    exact fs_iret dd_X12_qKind_91 rfl H
  · replace H := H.2 hc
    refine fs_aload_n (k0 := 0) (i := 0) dd_X12_qKind_82 rfl rfl ?_
    refine fs_aload_n (k0 := 0) (i := 0) dd_X12_qKind_83 rfl rfl ?_
    refine fs_getr (ci := 12) (j := 80) (q := 249) dd_X12_qKind_84 fl_X12_177 ca_196 rfl (Or.inr ⟨_, rfl⟩) rfl (by decide) ?_
    refine fs_callV (y := m_X12_asks) (as := [.ref 249]) dd_X12_qKind_87 me_X12_asks lk_X12_323 in_X12_asks se_X12_asks ca_196 rfl rfl rfl (Nat.le_of_ble_eq_true rfl) (Nat.le_of_ble_eq_true rfl) rfl (V_X12_asks (by omega) ca_249 H) (k2_V fun s2 H => ?_)
    refine fs_iload_n (k0 := 1) (i := 1) dd_X12_qKind_90 rfl rfl ?_
    exact fs_iret dd_X12_qKind_91 rfl H
set_option maxRecDepth 100000 in
set_option maxHeartbeats 4000000 in
theorem V_X12_qKind {g : fz_G} {l : Launch} {d : Nat} (hD : 4 ≤ d)   {s : fz_s} {Q : Int32 → fz_s → Prop} (H : wp_X12_qKind  s Q) : fs_V g l m_X12_qKind d false 0 (fz_en [.ref 196] 2) [] s (rI Q) := by
  obtain ⟨d, rfl⟩ : ∃ e, d = e + 1 := ⟨d - 1, by omega⟩
  unfold wp_X12_qKind at H
  refine fs_aload_n (k0 := 0) (i := 0) dd_X12_qKind_0 rfl rfl ?_
  refine fs_aload_n (k0 := 0) (i := 0) dd_X12_qKind_1 rfl rfl ?_
  refine fs_getr (ci := 12) (j := 75) (q := 244) dd_X12_qKind_2 fl_X12_162 ca_196 rfl (Or.inr ⟨_, rfl⟩) rfl (by decide) ?_
  refine fs_callV (y := m_X12_takes) (as := [.ref 244]) dd_X12_qKind_5 me_X12_takes lk_X12_279 in_X12_takes se_X12_takes ca_196 rfl rfl rfl (Nat.le_of_ble_eq_true rfl) (Nat.le_of_ble_eq_true rfl) rfl (V_X12_takes (by omega) ca_244 H) (k2_Z fun r1 s2 H => ?_)
  refine fs_if_eq (tgt := 15) dd_X12_qKind_8 (by decide) (fun hc => ?_) (fun hc => ?_)
  · replace H := H.1 (bi_0 hc)
    refine fs_aload_n (k0 := 0) (i := 0) dd_X12_qKind_15 rfl rfl ?_
    refine fs_aload_n (k0 := 0) (i := 0) dd_X12_qKind_16 rfl rfl ?_
    refine fs_getr (ci := 12) (j := 76) (q := 245) dd_X12_qKind_17 fl_X12_165 ca_196 rfl (Or.inr ⟨_, rfl⟩) rfl (by decide) ?_
    refine fs_callV (y := m_X12_takes) (as := [.ref 245]) dd_X12_qKind_20 me_X12_takes lk_X12_279 in_X12_takes se_X12_takes ca_196 rfl rfl rfl (Nat.le_of_ble_eq_true rfl) (Nat.le_of_ble_eq_true rfl) rfl (V_X12_takes (by omega) ca_245 H) (k2_Z fun r3 s4 H => ?_)
    refine fs_if_eq (tgt := 30) dd_X12_qKind_23 (by decide) (fun hc => ?_) (fun hc => ?_)
    · replace H := H.1 (bi_0 hc)
      refine fs_aload_n (k0 := 0) (i := 0) dd_X12_qKind_30 rfl rfl ?_
      refine fs_aload_n (k0 := 0) (i := 0) dd_X12_qKind_31 rfl rfl ?_
      refine fs_getr (ci := 12) (j := 77) (q := 246) dd_X12_qKind_32 fl_X12_168 ca_196 rfl (Or.inr ⟨_, rfl⟩) rfl (by decide) ?_
      refine fs_callV (y := m_X12_takes) (as := [.ref 246]) dd_X12_qKind_35 me_X12_takes lk_X12_279 in_X12_takes se_X12_takes ca_196 rfl rfl rfl (Nat.le_of_ble_eq_true rfl) (Nat.le_of_ble_eq_true rfl) rfl (V_X12_takes (by omega) ca_246 H) (k2_Z fun r5 s6 H => ?_)
      refine fs_if_eq (tgt := 45) dd_X12_qKind_38 (by decide) (fun hc => ?_) (fun hc => ?_)
      · replace H := H.1 (bi_0 hc)
        refine fs_aload_n (k0 := 0) (i := 0) dd_X12_qKind_45 rfl rfl ?_
        refine fs_aload_n (k0 := 0) (i := 0) dd_X12_qKind_46 rfl rfl ?_
        refine fs_getr (ci := 12) (j := 78) (q := 247) dd_X12_qKind_47 fl_X12_171 ca_196 rfl (Or.inr ⟨_, rfl⟩) rfl (by decide) ?_
        refine fs_callV (y := m_X12_takes) (as := [.ref 247]) dd_X12_qKind_50 me_X12_takes lk_X12_279 in_X12_takes se_X12_takes ca_196 rfl rfl rfl (Nat.le_of_ble_eq_true rfl) (Nat.le_of_ble_eq_true rfl) rfl (V_X12_takes (by omega) ca_247 H) (k2_Z fun r7 s8 H => ?_)
        refine fs_if_eq (tgt := 60) dd_X12_qKind_53 (by decide) (fun hc => ?_) (fun hc => ?_)
        · replace H := H.1 (bi_0 hc)
          refine fs_aload_n (k0 := 0) (i := 0) dd_X12_qKind_60 rfl rfl ?_
          refine fs_aload_n (k0 := 0) (i := 0) dd_X12_qKind_61 rfl rfl ?_
          refine fs_getr (ci := 12) (j := 79) (q := 248) dd_X12_qKind_62 fl_X12_174 ca_196 rfl (Or.inr ⟨_, rfl⟩) rfl (by decide) ?_
          refine fs_callV (y := m_X12_takes) (as := [.ref 248]) dd_X12_qKind_65 me_X12_takes lk_X12_279 in_X12_takes se_X12_takes ca_196 rfl rfl rfl (Nat.le_of_ble_eq_true rfl) (Nat.le_of_ble_eq_true rfl) rfl (V_X12_takes (by omega) ca_248 H) (k2_Z fun r9 s10 H => ?_)
          refine fs_if_eq (tgt := 75) dd_X12_qKind_68 (by decide) (fun hc => ?_) (fun hc => ?_)
          · replace H := H.1 (bi_0 hc)
            refine fs_iconst (n := 5) (v := 5) dd_X12_qKind_75 (by decide) ?_
            refine fs_weak (ls2 := [.ref 196, fz_J]) (fz_le_e (fz_le_j fz_le_n)) ?_
            exact V_nd_X12_qKind_76 hD    H
          · replace H := H.2 (bi_1 hc)
            refine fs_iconst (n := 4) (v := 4) dd_X12_qKind_71 (by decide) ?_
            refine fs_goto (tgt := 76) dd_X12_qKind_72 (by decide) ?_
            refine fs_weak (ls2 := [.ref 196, fz_J]) (fz_le_e (fz_le_j fz_le_n)) ?_
            exact V_nd_X12_qKind_76 hD    H
        · replace H := H.2 (bi_1 hc)
          refine fs_iconst (n := 3) (v := 3) dd_X12_qKind_56 (by decide) ?_
          refine fs_goto (tgt := 76) dd_X12_qKind_57 (by decide) ?_
          refine fs_weak (ls2 := [.ref 196, fz_J]) (fz_le_e (fz_le_j fz_le_n)) ?_
          exact V_nd_X12_qKind_76 hD    H
      · replace H := H.2 (bi_1 hc)
        refine fs_iconst (n := 2) (v := 2) dd_X12_qKind_41 (by decide) ?_
        refine fs_goto (tgt := 76) dd_X12_qKind_42 (by decide) ?_
        refine fs_weak (ls2 := [.ref 196, fz_J]) (fz_le_e (fz_le_j fz_le_n)) ?_
        exact V_nd_X12_qKind_76 hD    H
    · replace H := H.2 (bi_1 hc)
      refine fs_iconst (n := 1) (v := 1) dd_X12_qKind_26 (by decide) ?_
      refine fs_goto (tgt := 76) dd_X12_qKind_27 (by decide) ?_
      refine fs_weak (ls2 := [.ref 196, fz_J]) (fz_le_e (fz_le_j fz_le_n)) ?_
      exact V_nd_X12_qKind_76 hD    H
  · replace H := H.2 (bi_1 hc)
    refine fs_iconst (n := 0) (v := 0) dd_X12_qKind_11 (by decide) ?_
    refine fs_goto (tgt := 76) dd_X12_qKind_12 (by decide) ?_
    refine fs_weak (ls2 := [.ref 196, fz_J]) (fz_le_e (fz_le_j fz_le_n)) ?_
    exact V_nd_X12_qKind_76 hD    H
theorem dd_X12_qTakes_0 : decode m_X12_qTakes.2.1 0 = .ok (.iload_n 1, 1) := by decide +kernel
theorem dd_X12_qTakes_1 : decode m_X12_qTakes.2.1 1 = .ok (.iconst 3, 1) := by decide +kernel
theorem dd_X12_qTakes_2 : decode m_X12_qTakes.2.1 2 = .ok (.if_icmp .ge 13, 3) := by decide +kernel
theorem dd_X12_qTakes_5 : decode m_X12_qTakes.2.1 5 = .ok (.lload_n 2, 1) := by decide +kernel
theorem dd_X12_qTakes_6 : decode m_X12_qTakes.2.1 6 = .ok (.lconst 1, 1) := by decide +kernel
theorem dd_X12_qTakes_7 : decode m_X12_qTakes.2.1 7 = .ok (.lcmp, 1) := by decide +kernel
theorem dd_X12_qTakes_8 : decode m_X12_qTakes.2.1 8 = .ok (.ifCond .ne 7, 3) := by decide +kernel
theorem dd_X12_qTakes_11 : decode m_X12_qTakes.2.1 11 = .ok (.iconst 1, 1) := by decide +kernel
theorem dd_X12_qTakes_12 : decode m_X12_qTakes.2.1 12 = .ok (.goto 4, 3) := by decide +kernel
theorem dd_X12_qTakes_15 : decode m_X12_qTakes.2.1 15 = .ok (.iconst 0, 1) := by decide +kernel
theorem dd_X12_qTakes_16 : decode m_X12_qTakes.2.1 16 = .ok (.istore 5, 2) := by decide +kernel
theorem dd_X12_qTakes_18 : decode m_X12_qTakes.2.1 18 = .ok (.iload_n 1, 1) := by decide +kernel
theorem dd_X12_qTakes_19 : decode m_X12_qTakes.2.1 19 = .ok (.ifCond .ne 19, 3) := by decide +kernel
theorem dd_X12_qTakes_22 : decode m_X12_qTakes.2.1 22 = .ok (.iload 5, 2) := by decide +kernel
theorem dd_X12_qTakes_24 : decode m_X12_qTakes.2.1 24 = .ok (.ifCond .eq 14, 3) := by decide +kernel
theorem dd_X12_qTakes_27 : decode m_X12_qTakes.2.1 27 = .ok (.aload_n 0, 1) := by decide +kernel
theorem dd_X12_qTakes_28 : decode m_X12_qTakes.2.1 28 = .ok (.getfield 678, 3) := by decide +kernel
theorem dd_X12_qTakes_31 : decode m_X12_qTakes.2.1 31 = .ok (.ldc2_w 557, 3) := by decide +kernel
theorem dd_X12_qTakes_34 : decode m_X12_qTakes.2.1 34 = .ok (.lcmp, 1) := by decide +kernel
theorem dd_X12_qTakes_35 : decode m_X12_qTakes.2.1 35 = .ok (.ifCond .eq 13, 3) := by decide +kernel
theorem dd_X12_qTakes_38 : decode m_X12_qTakes.2.1 38 = .ok (.iload_n 1, 1) := by decide +kernel
theorem dd_X12_qTakes_39 : decode m_X12_qTakes.2.1 39 = .ok (.iconst 1, 1) := by decide +kernel
theorem dd_X12_qTakes_40 : decode m_X12_qTakes.2.1 40 = .ok (.if_icmp .ne 15, 3) := by decide +kernel
theorem dd_X12_qTakes_43 : decode m_X12_qTakes.2.1 43 = .ok (.iload 5, 2) := by decide +kernel
theorem dd_X12_qTakes_45 : decode m_X12_qTakes.2.1 45 = .ok (.ifCond .eq 10, 3) := by decide +kernel
theorem dd_X12_qTakes_48 : decode m_X12_qTakes.2.1 48 = .ok (.aload_n 0, 1) := by decide +kernel
theorem dd_X12_qTakes_49 : decode m_X12_qTakes.2.1 49 = .ok (.iload 4, 2) := by decide +kernel
theorem dd_X12_qTakes_51 : decode m_X12_qTakes.2.1 51 = .ok (.i2l, 1) := by decide +kernel
theorem dd_X12_qTakes_52 : decode m_X12_qTakes.2.1 52 = .ok (.putfield 678, 3) := by decide +kernel
theorem dd_X12_qTakes_55 : decode m_X12_qTakes.2.1 55 = .ok (.iload_n 1, 1) := by decide +kernel
theorem dd_X12_qTakes_56 : decode m_X12_qTakes.2.1 56 = .ok (.iconst 2, 1) := by decide +kernel
theorem dd_X12_qTakes_57 : decode m_X12_qTakes.2.1 57 = .ok (.if_icmp .ne 18, 3) := by decide +kernel
theorem dd_X12_qTakes_60 : decode m_X12_qTakes.2.1 60 = .ok (.iload 5, 2) := by decide +kernel
theorem dd_X12_qTakes_62 : decode m_X12_qTakes.2.1 62 = .ok (.ifCond .eq 13, 3) := by decide +kernel
theorem dd_X12_qTakes_65 : decode m_X12_qTakes.2.1 65 = .ok (.aload_n 0, 1) := by decide +kernel
theorem dd_X12_qTakes_66 : decode m_X12_qTakes.2.1 66 = .ok (.dup, 1) := by decide +kernel
theorem dd_X12_qTakes_67 : decode m_X12_qTakes.2.1 67 = .ok (.getfield 678, 3) := by decide +kernel
theorem dd_X12_qTakes_70 : decode m_X12_qTakes.2.1 70 = .ok (.lconst 1, 1) := by decide +kernel
theorem dd_X12_qTakes_71 : decode m_X12_qTakes.2.1 71 = .ok (.ladd, 1) := by decide +kernel
theorem dd_X12_qTakes_72 : decode m_X12_qTakes.2.1 72 = .ok (.putfield 678, 3) := by decide +kernel
theorem dd_X12_qTakes_75 : decode m_X12_qTakes.2.1 75 = .ok (.iload_n 1, 1) := by decide +kernel
theorem dd_X12_qTakes_76 : decode m_X12_qTakes.2.1 76 = .ok (.iconst 3, 1) := by decide +kernel
theorem dd_X12_qTakes_77 : decode m_X12_qTakes.2.1 77 = .ok (.if_icmp .ne 13, 3) := by decide +kernel
theorem dd_X12_qTakes_80 : decode m_X12_qTakes.2.1 80 = .ok (.aload_n 0, 1) := by decide +kernel
theorem dd_X12_qTakes_81 : decode m_X12_qTakes.2.1 81 = .ok (.dup, 1) := by decide +kernel
theorem dd_X12_qTakes_82 : decode m_X12_qTakes.2.1 82 = .ok (.getfield 678, 3) := by decide +kernel
theorem dd_X12_qTakes_85 : decode m_X12_qTakes.2.1 85 = .ok (.lload_n 2, 1) := by decide +kernel
theorem dd_X12_qTakes_86 : decode m_X12_qTakes.2.1 86 = .ok (.ladd, 1) := by decide +kernel
theorem dd_X12_qTakes_87 : decode m_X12_qTakes.2.1 87 = .ok (.putfield 678, 3) := by decide +kernel
theorem dd_X12_qTakes_90 : decode m_X12_qTakes.2.1 90 = .ok (.iload_n 1, 1) := by decide +kernel
theorem dd_X12_qTakes_91 : decode m_X12_qTakes.2.1 91 = .ok (.iconst 3, 1) := by decide +kernel
theorem dd_X12_qTakes_92 : decode m_X12_qTakes.2.1 92 = .ok (.if_icmp .le 41, 3) := by decide +kernel
theorem dd_X12_qTakes_95 : decode m_X12_qTakes.2.1 95 = .ok (.aload_n 0, 1) := by decide +kernel
theorem dd_X12_qTakes_96 : decode m_X12_qTakes.2.1 96 = .ok (.getfield 681, 3) := by decide +kernel
theorem dd_X12_qTakes_99 : decode m_X12_qTakes.2.1 99 = .ok (.ifCond .ne 29, 3) := by decide +kernel
theorem dd_X12_qTakes_102 : decode m_X12_qTakes.2.1 102 = .ok (.iload_n 1, 1) := by decide +kernel
theorem dd_X12_qTakes_103 : decode m_X12_qTakes.2.1 103 = .ok (.iconst 4, 1) := by decide +kernel
theorem dd_X12_qTakes_104 : decode m_X12_qTakes.2.1 104 = .ok (.if_icmp .ne 15, 3) := by decide +kernel
theorem dd_X12_qTakes_107 : decode m_X12_qTakes.2.1 107 = .ok (.lload_n 2, 1) := by decide +kernel
theorem dd_X12_qTakes_108 : decode m_X12_qTakes.2.1 108 = .ok (.aload_n 0, 1) := by decide +kernel
theorem dd_X12_qTakes_109 : decode m_X12_qTakes.2.1 109 = .ok (.getfield 678, 3) := by decide +kernel
theorem dd_X12_qTakes_112 : decode m_X12_qTakes.2.1 112 = .ok (.lcmp, 1) := by decide +kernel
theorem dd_X12_qTakes_113 : decode m_X12_qTakes.2.1 113 = .ok (.ifCond .le 20, 3) := by decide +kernel
theorem dd_X12_qTakes_116 : decode m_X12_qTakes.2.1 116 = .ok (.goto 12, 3) := by decide +kernel
theorem dd_X12_qTakes_119 : decode m_X12_qTakes.2.1 119 = .ok (.lload_n 2, 1) := by decide +kernel
theorem dd_X12_qTakes_120 : decode m_X12_qTakes.2.1 120 = .ok (.aload_n 0, 1) := by decide +kernel
theorem dd_X12_qTakes_121 : decode m_X12_qTakes.2.1 121 = .ok (.getfield 678, 3) := by decide +kernel
theorem dd_X12_qTakes_124 : decode m_X12_qTakes.2.1 124 = .ok (.lcmp, 1) := by decide +kernel
theorem dd_X12_qTakes_125 : decode m_X12_qTakes.2.1 125 = .ok (.ifCond .ge 8, 3) := by decide +kernel
theorem dd_X12_qTakes_128 : decode m_X12_qTakes.2.1 128 = .ok (.aload_n 0, 1) := by decide +kernel
theorem dd_X12_qTakes_129 : decode m_X12_qTakes.2.1 129 = .ok (.lload_n 2, 1) := by decide +kernel
theorem dd_X12_qTakes_130 : decode m_X12_qTakes.2.1 130 = .ok (.putfield 678, 3) := by decide +kernel
theorem dd_X12_qTakes_133 : decode m_X12_qTakes.2.1 133 = .ok (.aload_n 0, 1) := by decide +kernel
theorem dd_X12_qTakes_134 : decode m_X12_qTakes.2.1 134 = .ok (.iconst 0, 1) := by decide +kernel
theorem dd_X12_qTakes_135 : decode m_X12_qTakes.2.1 135 = .ok (.putfield 681, 3) := by decide +kernel
theorem dd_X12_qTakes_138 : decode m_X12_qTakes.2.1 138 = .ok (.return_, 1) := by decide +kernel
def nd_X12_qTakes_90   (Q : fz_s → Prop) (v1 : Int32) (v2 : Int64) (s : fz_s) : Prop :=
  ((v1 ≤ 3 → ∀ s1 : fz_s, s1 = si s 196 109 0 → Q s1) ∧ (¬ v1 ≤ 3 → ((¬ (s.1 196 109) = 0 → ∀ s2 : fz_s, s2 = sl s 196 108 v2 → ∀ s3 : fz_s, s3 = si s2 196 109 0 → Q s3) ∧ ((s.1 196 109) = 0 → ((¬ v1 = 4 → ((0 ≤ (lg_cmp v2 (s.2.1 196 108)) → ∀ s4 : fz_s, s4 = si s 196 109 0 → Q s4) ∧ (¬ 0 ≤ (lg_cmp v2 (s.2.1 196 108)) → ∀ s5 : fz_s, s5 = sl s 196 108 v2 → ∀ s6 : fz_s, s6 = si s5 196 109 0 → Q s6))) ∧ (v1 = 4 → (((lg_cmp v2 (s.2.1 196 108)) ≤ 0 → ∀ s7 : fz_s, s7 = si s 196 109 0 → Q s7) ∧ (¬ (lg_cmp v2 (s.2.1 196 108)) ≤ 0 → ∀ s8 : fz_s, s8 = sl s 196 108 v2 → ∀ s9 : fz_s, s9 = si s8 196 109 0 → Q s9))))))))
def nd_X12_qTakes_75   (Q : fz_s → Prop) (v1 : Int32) (v2 : Int64) (s : fz_s) : Prop :=
  ((¬ v1 = 3 → nd_X12_qTakes_90   Q v1 v2 s) ∧ (v1 = 3 → ∀ s1 : fz_s, s1 = sl s 196 108 ((s.2.1 196 108) + v2) → nd_X12_qTakes_90   Q v1 v2 s1))
def nd_X12_qTakes_55   (Q : fz_s → Prop) (v1 : Int32) (v2 : Int64) (v5 : Bool) (s : fz_s) : Prop :=
  ((¬ v1 = 2 → nd_X12_qTakes_75   Q v1 v2 s) ∧ (v1 = 2 → ((v5 = false → nd_X12_qTakes_75   Q v1 v2 s) ∧ (v5 = true → ∀ s1 : fz_s, s1 = sl s 196 108 ((s.2.1 196 108) + 1) → nd_X12_qTakes_75   Q v1 v2 s1))))
def nd_X12_qTakes_38   (Q : fz_s → Prop) (v1 : Int32) (v2 : Int64) (v4 : Int32) (v5 : Bool) (s : fz_s) : Prop :=
  ((¬ v1 = 1 → nd_X12_qTakes_55   Q v1 v2 v5 s) ∧ (v1 = 1 → ((v5 = false → nd_X12_qTakes_55   Q v1 v2 v5 s) ∧ (v5 = true → ∀ s1 : fz_s, s1 = sl s 196 108 v4.toInt64 → nd_X12_qTakes_55   Q v1 v2 v5 s1))))
def nd_X12_qTakes_16   (Q : fz_s → Prop) (v1 : Int32) (v2 : Int64) (v4 : Int32) (u0 : Bool) (s : fz_s) : Prop :=
  ((¬ v1 = 0 → nd_X12_qTakes_38   Q v1 v2 v4 u0 s) ∧ (v1 = 0 → ((u0 = false → nd_X12_qTakes_38   Q v1 v2 v4 u0 s) ∧ (u0 = true → (((lg_cmp (s.2.1 196 108) (-1)) = 0 → ∀ s1 : fz_s, s1 = sl s 196 108 v4.toInt64 → nd_X12_qTakes_55   Q v1 v2 u0 s1) ∧ (¬ (lg_cmp (s.2.1 196 108) (-1)) = 0 → nd_X12_qTakes_38   Q v1 v2 v4 u0 s))))))
def wp_X12_qTakes (p0 : Int32) (p1 : Int64) (p2 : Int32) (s : fz_s) (Q : fz_s → Prop) : Prop :=
  ((3 ≤ p0 → nd_X12_qTakes_16   Q p0 p1 p2 false s) ∧ (¬ 3 ≤ p0 → ((¬ (lg_cmp p1 1) = 0 → nd_X12_qTakes_16   Q p0 p1 p2 false s) ∧ ((lg_cmp p1 1) = 0 → nd_X12_qTakes_16   Q p0 p1 p2 true s))))
set_option maxRecDepth 100000 in
set_option maxHeartbeats 4000000 in
theorem V_nd_X12_qTakes_90 {g : fz_G} {l : Launch} {d : Nat} (hD : 0 ≤ d)    {Q : fz_s → Prop} {v1 : Int32} {v2 : Int64} {s : fz_s}  (H : nd_X12_qTakes_90   Q v1 v2 s) : fs_V g l m_X12_qTakes d false 90 [.ref 196, .int v1, .long v2, fz_J, fz_J, fz_J] [] s (rV Q) := by
  unfold nd_X12_qTakes_90 at H
  refine fs_iload_n (k0 := 1) (i := 1) dd_X12_qTakes_90 rfl rfl ?_
  refine fs_iconst (n := 3) (v := 3) dd_X12_qTakes_91 (by decide) ?_
  refine fs_icmp_le (tgt := 133) dd_X12_qTakes_92 (by decide) (fun hc => ?_) (fun hc => ?_)
  · replace H := H.1 hc
    refine fs_aload_n (k0 := 0) (i := 0) dd_X12_qTakes_133 rfl rfl ?_
    refine fs_iconst (n := 0) (v := 0) dd_X12_qTakes_134 (by decide) ?_
    refine fs_puti (ci := 12) (j := 109) dd_X12_qTakes_135 fl_X12_681 (fun _ _ _ h => by cases h; rfl) ca_196 rfl (Or.inr ⟨rfl, Or.inl rfl⟩) ?_
    refine fs_tops (fun s1 hs1 => ?_)
    replace H := H s1 hs1
    exact fs_vret dd_X12_qTakes_138 rfl H
  · replace H := H.2 hc
    refine fs_aload_n (k0 := 0) (i := 0) dd_X12_qTakes_95 rfl rfl ?_
    refine fs_geti (ci := 12) (j := 109) dd_X12_qTakes_96 fl_X12_681 ca_196 rfl (Or.inr rfl) ?_
    refine fs_if_ne (tgt := 128) dd_X12_qTakes_99 (by decide) (fun hc => ?_) (fun hc => ?_)
    · replace H := H.1 hc
      refine fs_aload_n (k0 := 0) (i := 0) dd_X12_qTakes_128 rfl rfl ?_
      refine fs_lload_n (k0 := 2) (i := 2) dd_X12_qTakes_129 rfl rfl ?_
      refine fs_putl (ci := 12) (j := 108) dd_X12_qTakes_130 fl_X12_678 (fun _ _ _ h => by cases h; rfl) ca_196 rfl rfl ?_
      refine fs_tops (fun s2 hs2 => ?_)
      replace H := H s2 hs2
      refine fs_aload_n (k0 := 0) (i := 0) dd_X12_qTakes_133 rfl rfl ?_
      refine fs_iconst (n := 0) (v := 0) dd_X12_qTakes_134 (by decide) ?_
      refine fs_puti (ci := 12) (j := 109) dd_X12_qTakes_135 fl_X12_681 (fun _ _ _ h => by cases h; rfl) ca_196 rfl (Or.inr ⟨rfl, Or.inl rfl⟩) ?_
      refine fs_tops (fun s3 hs3 => ?_)
      replace H := H s3 hs3
      exact fs_vret dd_X12_qTakes_138 rfl H
    · replace H := H.2 hc
      refine fs_iload_n (k0 := 1) (i := 1) dd_X12_qTakes_102 rfl rfl ?_
      refine fs_iconst (n := 4) (v := 4) dd_X12_qTakes_103 (by decide) ?_
      refine fs_icmp_ne (tgt := 119) dd_X12_qTakes_104 (by decide) (fun hc => ?_) (fun hc => ?_)
      · replace H := H.1 hc
        refine fs_lload_n (k0 := 2) (i := 2) dd_X12_qTakes_119 rfl rfl ?_
        refine fs_aload_n (k0 := 0) (i := 0) dd_X12_qTakes_120 rfl rfl ?_
        refine fs_getl (ci := 12) (j := 108) dd_X12_qTakes_121 fl_X12_678 ca_196 rfl rfl ?_
        refine fs_lcmp dd_X12_qTakes_124 ?_
        refine fs_if_ge (tgt := 133) dd_X12_qTakes_125 (by decide) (fun hc => ?_) (fun hc => ?_)
        · replace H := H.1 hc
          refine fs_aload_n (k0 := 0) (i := 0) dd_X12_qTakes_133 rfl rfl ?_
          refine fs_iconst (n := 0) (v := 0) dd_X12_qTakes_134 (by decide) ?_
          refine fs_puti (ci := 12) (j := 109) dd_X12_qTakes_135 fl_X12_681 (fun _ _ _ h => by cases h; rfl) ca_196 rfl (Or.inr ⟨rfl, Or.inl rfl⟩) ?_
          refine fs_tops (fun s4 hs4 => ?_)
          replace H := H s4 hs4
          exact fs_vret dd_X12_qTakes_138 rfl H
        · replace H := H.2 hc
          refine fs_aload_n (k0 := 0) (i := 0) dd_X12_qTakes_128 rfl rfl ?_
          refine fs_lload_n (k0 := 2) (i := 2) dd_X12_qTakes_129 rfl rfl ?_
          refine fs_putl (ci := 12) (j := 108) dd_X12_qTakes_130 fl_X12_678 (fun _ _ _ h => by cases h; rfl) ca_196 rfl rfl ?_
          refine fs_tops (fun s5 hs5 => ?_)
          replace H := H s5 hs5
          refine fs_aload_n (k0 := 0) (i := 0) dd_X12_qTakes_133 rfl rfl ?_
          refine fs_iconst (n := 0) (v := 0) dd_X12_qTakes_134 (by decide) ?_
          refine fs_puti (ci := 12) (j := 109) dd_X12_qTakes_135 fl_X12_681 (fun _ _ _ h => by cases h; rfl) ca_196 rfl (Or.inr ⟨rfl, Or.inl rfl⟩) ?_
          refine fs_tops (fun s6 hs6 => ?_)
          replace H := H s6 hs6
          exact fs_vret dd_X12_qTakes_138 rfl H
      · replace H := H.2 hc
        refine fs_lload_n (k0 := 2) (i := 2) dd_X12_qTakes_107 rfl rfl ?_
        refine fs_aload_n (k0 := 0) (i := 0) dd_X12_qTakes_108 rfl rfl ?_
        refine fs_getl (ci := 12) (j := 108) dd_X12_qTakes_109 fl_X12_678 ca_196 rfl rfl ?_
        refine fs_lcmp dd_X12_qTakes_112 ?_
        refine fs_if_le (tgt := 133) dd_X12_qTakes_113 (by decide) (fun hc => ?_) (fun hc => ?_)
        · replace H := H.1 hc
          refine fs_aload_n (k0 := 0) (i := 0) dd_X12_qTakes_133 rfl rfl ?_
          refine fs_iconst (n := 0) (v := 0) dd_X12_qTakes_134 (by decide) ?_
          refine fs_puti (ci := 12) (j := 109) dd_X12_qTakes_135 fl_X12_681 (fun _ _ _ h => by cases h; rfl) ca_196 rfl (Or.inr ⟨rfl, Or.inl rfl⟩) ?_
          refine fs_tops (fun s7 hs7 => ?_)
          replace H := H s7 hs7
          exact fs_vret dd_X12_qTakes_138 rfl H
        · replace H := H.2 hc
          refine fs_goto (tgt := 128) dd_X12_qTakes_116 (by decide) ?_
          refine fs_aload_n (k0 := 0) (i := 0) dd_X12_qTakes_128 rfl rfl ?_
          refine fs_lload_n (k0 := 2) (i := 2) dd_X12_qTakes_129 rfl rfl ?_
          refine fs_putl (ci := 12) (j := 108) dd_X12_qTakes_130 fl_X12_678 (fun _ _ _ h => by cases h; rfl) ca_196 rfl rfl ?_
          refine fs_tops (fun s8 hs8 => ?_)
          replace H := H s8 hs8
          refine fs_aload_n (k0 := 0) (i := 0) dd_X12_qTakes_133 rfl rfl ?_
          refine fs_iconst (n := 0) (v := 0) dd_X12_qTakes_134 (by decide) ?_
          refine fs_puti (ci := 12) (j := 109) dd_X12_qTakes_135 fl_X12_681 (fun _ _ _ h => by cases h; rfl) ca_196 rfl (Or.inr ⟨rfl, Or.inl rfl⟩) ?_
          refine fs_tops (fun s9 hs9 => ?_)
          replace H := H s9 hs9
          exact fs_vret dd_X12_qTakes_138 rfl H
set_option maxRecDepth 100000 in
set_option maxHeartbeats 4000000 in
theorem V_nd_X12_qTakes_75 {g : fz_G} {l : Launch} {d : Nat} (hD : 0 ≤ d)    {Q : fz_s → Prop} {v1 : Int32} {v2 : Int64} {s : fz_s}  (H : nd_X12_qTakes_75   Q v1 v2 s) : fs_V g l m_X12_qTakes d false 75 [.ref 196, .int v1, .long v2, fz_J, fz_J, fz_J] [] s (rV Q) := by
  unfold nd_X12_qTakes_75 at H
  refine fs_iload_n (k0 := 1) (i := 1) dd_X12_qTakes_75 rfl rfl ?_
  refine fs_iconst (n := 3) (v := 3) dd_X12_qTakes_76 (by decide) ?_
  refine fs_icmp_ne (tgt := 90) dd_X12_qTakes_77 (by decide) (fun hc => ?_) (fun hc => ?_)
  · replace H := H.1 hc
    refine fs_weak (ls2 := [.ref 196, .int v1, .long v2, fz_J, fz_J, fz_J]) (fz_le_e (fz_le_e (fz_le_e (fz_le_j (fz_le_j (fz_le_j fz_le_n)))))) ?_
    exact V_nd_X12_qTakes_90 hD    H
  · replace H := H.2 hc
    refine fs_aload_n (k0 := 0) (i := 0) dd_X12_qTakes_80 rfl rfl ?_
    refine fs_dup dd_X12_qTakes_81 rfl ?_
    refine fs_getl (ci := 12) (j := 108) dd_X12_qTakes_82 fl_X12_678 ca_196 rfl rfl ?_
    refine fs_lload_n (k0 := 2) (i := 2) dd_X12_qTakes_85 rfl rfl ?_
    refine fs_ladd dd_X12_qTakes_86 ?_
    refine fs_putl (ci := 12) (j := 108) dd_X12_qTakes_87 fl_X12_678 (fun _ _ _ h => by cases h; rfl) ca_196 rfl rfl ?_
    refine fs_tops (fun s1 hs1 => ?_)
    replace H := H s1 hs1
    refine fs_weak (ls2 := [.ref 196, .int v1, .long v2, fz_J, fz_J, fz_J]) (fz_le_e (fz_le_e (fz_le_e (fz_le_j (fz_le_j (fz_le_j fz_le_n)))))) ?_
    exact V_nd_X12_qTakes_90 hD    H
set_option maxRecDepth 100000 in
set_option maxHeartbeats 4000000 in
theorem V_nd_X12_qTakes_55 {g : fz_G} {l : Launch} {d : Nat} (hD : 0 ≤ d)    {Q : fz_s → Prop} {v1 : Int32} {v2 : Int64} {v5 : Bool} {s : fz_s}  (H : nd_X12_qTakes_55   Q v1 v2 v5 s) : fs_V g l m_X12_qTakes d false 55 [.ref 196, .int v1, .long v2, fz_J, fz_J, .int (bi v5)] [] s (rV Q) := by
  unfold nd_X12_qTakes_55 at H
  refine fs_iload_n (k0 := 1) (i := 1) dd_X12_qTakes_55 rfl rfl ?_
  refine fs_iconst (n := 2) (v := 2) dd_X12_qTakes_56 (by decide) ?_
  refine fs_icmp_ne (tgt := 75) dd_X12_qTakes_57 (by decide) (fun hc => ?_) (fun hc => ?_)
  · replace H := H.1 hc
    refine fs_weak (ls2 := [.ref 196, .int v1, .long v2, fz_J, fz_J, fz_J]) (fz_le_e (fz_le_e (fz_le_e (fz_le_j (fz_le_j (fz_le_j fz_le_n)))))) ?_
    exact V_nd_X12_qTakes_75 hD    H
  · replace H := H.2 hc
    refine fs_iload (i := 5) dd_X12_qTakes_60 rfl ?_
    refine fs_if_eq (tgt := 75) dd_X12_qTakes_62 (by decide) (fun hc => ?_) (fun hc => ?_)
    · replace H := H.1 (bi_0 hc)
      refine fs_weak (ls2 := [.ref 196, .int v1, .long v2, fz_J, fz_J, fz_J]) (fz_le_e (fz_le_e (fz_le_e (fz_le_j (fz_le_j (fz_le_j fz_le_n)))))) ?_
      exact V_nd_X12_qTakes_75 hD    H
    · replace H := H.2 (bi_1 hc)
      refine fs_aload_n (k0 := 0) (i := 0) dd_X12_qTakes_65 rfl rfl ?_
      refine fs_dup dd_X12_qTakes_66 rfl ?_
      refine fs_getl (ci := 12) (j := 108) dd_X12_qTakes_67 fl_X12_678 ca_196 rfl rfl ?_
      refine fs_lconst (n := 1) (v := 1) dd_X12_qTakes_70 (by decide) ?_
      refine fs_ladd dd_X12_qTakes_71 ?_
      refine fs_putl (ci := 12) (j := 108) dd_X12_qTakes_72 fl_X12_678 (fun _ _ _ h => by cases h; rfl) ca_196 rfl rfl ?_
      refine fs_tops (fun s1 hs1 => ?_)
      replace H := H s1 hs1
      refine fs_weak (ls2 := [.ref 196, .int v1, .long v2, fz_J, fz_J, fz_J]) (fz_le_e (fz_le_e (fz_le_e (fz_le_j (fz_le_j (fz_le_j fz_le_n)))))) ?_
      exact V_nd_X12_qTakes_75 hD    H
set_option maxRecDepth 100000 in
set_option maxHeartbeats 4000000 in
theorem V_nd_X12_qTakes_38 {g : fz_G} {l : Launch} {d : Nat} (hD : 0 ≤ d)    {Q : fz_s → Prop} {v1 : Int32} {v2 : Int64} {v4 : Int32} {v5 : Bool} {s : fz_s}  (H : nd_X12_qTakes_38   Q v1 v2 v4 v5 s) : fs_V g l m_X12_qTakes d false 38 [.ref 196, .int v1, .long v2, fz_J, .int v4, .int (bi v5)] [] s (rV Q) := by
  unfold nd_X12_qTakes_38 at H
  refine fs_iload_n (k0 := 1) (i := 1) dd_X12_qTakes_38 rfl rfl ?_
  refine fs_iconst (n := 1) (v := 1) dd_X12_qTakes_39 (by decide) ?_
  refine fs_icmp_ne (tgt := 55) dd_X12_qTakes_40 (by decide) (fun hc => ?_) (fun hc => ?_)
  · replace H := H.1 hc
    refine fs_weak (ls2 := [.ref 196, .int v1, .long v2, fz_J, fz_J, .int (bi v5)]) (fz_le_e (fz_le_e (fz_le_e (fz_le_j (fz_le_j (fz_le_e fz_le_n)))))) ?_
    exact V_nd_X12_qTakes_55 hD    H
  · replace H := H.2 hc
    refine fs_iload (i := 5) dd_X12_qTakes_43 rfl ?_
    refine fs_if_eq (tgt := 55) dd_X12_qTakes_45 (by decide) (fun hc => ?_) (fun hc => ?_)
    · replace H := H.1 (bi_0 hc)
      refine fs_weak (ls2 := [.ref 196, .int v1, .long v2, fz_J, fz_J, .int (bi v5)]) (fz_le_e (fz_le_e (fz_le_e (fz_le_j (fz_le_j (fz_le_e fz_le_n)))))) ?_
      exact V_nd_X12_qTakes_55 hD    H
    · replace H := H.2 (bi_1 hc)
      refine fs_aload_n (k0 := 0) (i := 0) dd_X12_qTakes_48 rfl rfl ?_
      refine fs_iload (i := 4) dd_X12_qTakes_49 rfl ?_
      refine fs_i2l dd_X12_qTakes_51 ?_
      refine fs_putl (ci := 12) (j := 108) dd_X12_qTakes_52 fl_X12_678 (fun _ _ _ h => by cases h; rfl) ca_196 rfl rfl ?_
      refine fs_tops (fun s1 hs1 => ?_)
      replace H := H s1 hs1
      refine fs_weak (ls2 := [.ref 196, .int v1, .long v2, fz_J, fz_J, .int (bi v5)]) (fz_le_e (fz_le_e (fz_le_e (fz_le_j (fz_le_j (fz_le_e fz_le_n)))))) ?_
      exact V_nd_X12_qTakes_55 hD    H
set_option maxRecDepth 100000 in
set_option maxHeartbeats 4000000 in
theorem V_nd_X12_qTakes_16 {g : fz_G} {l : Launch} {d : Nat} (hD : 0 ≤ d)    {Q : fz_s → Prop} {v1 : Int32} {v2 : Int64} {v4 : Int32} {u0 : Bool} {s : fz_s}  (H : nd_X12_qTakes_16   Q v1 v2 v4 u0 s) : fs_V g l m_X12_qTakes d false 16 [.ref 196, .int v1, .long v2, fz_J, .int v4, fz_J] [.int (bi u0)] s (rV Q) := by
  unfold nd_X12_qTakes_16 at H
  refine fs_istore (i := 5) dd_X12_qTakes_16 (by decide) ?_
  refine fs_iload_n (k0 := 1) (i := 1) dd_X12_qTakes_18 rfl rfl ?_
  refine fs_if_ne (tgt := 38) dd_X12_qTakes_19 (by decide) (fun hc => ?_) (fun hc => ?_)
  · replace H := H.1 hc
    refine fs_weak (ls2 := [.ref 196, .int v1, .long v2, fz_J, .int v4, .int (bi u0)]) (fz_le_e (fz_le_e (fz_le_e (fz_le_j (fz_le_e (fz_le_e fz_le_n)))))) ?_
    exact V_nd_X12_qTakes_38 hD    H
  · replace H := H.2 hc
    refine fs_iload (i := 5) dd_X12_qTakes_22 rfl ?_
    refine fs_if_eq (tgt := 38) dd_X12_qTakes_24 (by decide) (fun hc => ?_) (fun hc => ?_)
    · replace H := H.1 (bi_0 hc)
      refine fs_weak (ls2 := [.ref 196, .int v1, .long v2, fz_J, .int v4, .int (bi u0)]) (fz_le_e (fz_le_e (fz_le_e (fz_le_j (fz_le_e (fz_le_e fz_le_n)))))) ?_
      exact V_nd_X12_qTakes_38 hD    H
    · replace H := H.2 (bi_1 hc)
      refine fs_aload_n (k0 := 0) (i := 0) dd_X12_qTakes_27 rfl rfl ?_
      refine fs_getl (ci := 12) (j := 108) dd_X12_qTakes_28 fl_X12_678 ca_196 rfl rfl ?_
      refine fs_ldc2 (idx := 557) (v := -1) dd_X12_qTakes_31 cl_X12_557 ?_
      refine fs_lcmp dd_X12_qTakes_34 ?_
      refine fs_if_eq (tgt := 48) dd_X12_qTakes_35 (by decide) (fun hc => ?_) (fun hc => ?_)
      · replace H := H.1 hc
        refine fs_aload_n (k0 := 0) (i := 0) dd_X12_qTakes_48 rfl rfl ?_
        refine fs_iload (i := 4) dd_X12_qTakes_49 rfl ?_
        refine fs_i2l dd_X12_qTakes_51 ?_
        refine fs_putl (ci := 12) (j := 108) dd_X12_qTakes_52 fl_X12_678 (fun _ _ _ h => by cases h; rfl) ca_196 rfl rfl ?_
        refine fs_tops (fun s1 hs1 => ?_)
        replace H := H s1 hs1
        refine fs_weak (ls2 := [.ref 196, .int v1, .long v2, fz_J, fz_J, .int (bi u0)]) (fz_le_e (fz_le_e (fz_le_e (fz_le_j (fz_le_j (fz_le_e fz_le_n)))))) ?_
        exact V_nd_X12_qTakes_55 hD    H
      · replace H := H.2 hc
        refine fs_weak (ls2 := [.ref 196, .int v1, .long v2, fz_J, .int v4, .int (bi u0)]) (fz_le_e (fz_le_e (fz_le_e (fz_le_j (fz_le_e (fz_le_e fz_le_n)))))) ?_
        exact V_nd_X12_qTakes_38 hD    H
set_option maxRecDepth 100000 in
set_option maxHeartbeats 4000000 in
theorem V_X12_qTakes {g : fz_G} {l : Launch} {d : Nat} (hD : 0 ≤ d) {p0 : Int32} {p1 : Int64} {p2 : Int32}  {s : fz_s} {Q : fz_s → Prop} (H : wp_X12_qTakes p0 p1 p2 s Q) : fs_V g l m_X12_qTakes d false 0 (fz_en [.ref 196, .int p0, .long p1, .int p2] 6) [] s (rV Q) := by
  unfold wp_X12_qTakes at H
  refine fs_iload_n (k0 := 1) (i := 1) dd_X12_qTakes_0 rfl rfl ?_
  refine fs_iconst (n := 3) (v := 3) dd_X12_qTakes_1 (by decide) ?_
  refine fs_icmp_ge (tgt := 15) dd_X12_qTakes_2 (by decide) (fun hc => ?_) (fun hc => ?_)
  · replace H := H.1 hc
    refine fs_iconst (n := 0) (v := 0) dd_X12_qTakes_15 (by decide) ?_
    refine fs_weak (ls2 := [.ref 196, .int p0, .long p1, fz_J, .int p2, fz_J]) (fz_le_e (fz_le_e (fz_le_e (fz_le_j (fz_le_e (fz_le_j fz_le_n)))))) ?_
    exact V_nd_X12_qTakes_16 hD    H
  · replace H := H.2 hc
    refine fs_lload_n (k0 := 2) (i := 2) dd_X12_qTakes_5 rfl rfl ?_
    refine fs_lconst (n := 1) (v := 1) dd_X12_qTakes_6 (by decide) ?_
    refine fs_lcmp dd_X12_qTakes_7 ?_
    refine fs_if_ne (tgt := 15) dd_X12_qTakes_8 (by decide) (fun hc => ?_) (fun hc => ?_)
    · replace H := H.1 hc
      refine fs_iconst (n := 0) (v := 0) dd_X12_qTakes_15 (by decide) ?_
      refine fs_weak (ls2 := [.ref 196, .int p0, .long p1, fz_J, .int p2, fz_J]) (fz_le_e (fz_le_e (fz_le_e (fz_le_j (fz_le_e (fz_le_j fz_le_n)))))) ?_
      exact V_nd_X12_qTakes_16 hD    H
    · replace H := H.2 hc
      refine fs_iconst (n := 1) (v := 1) dd_X12_qTakes_11 (by decide) ?_
      refine fs_goto (tgt := 16) dd_X12_qTakes_12 (by decide) ?_
      refine fs_weak (ls2 := [.ref 196, .int p0, .long p1, fz_J, .int p2, fz_J]) (fz_le_e (fz_le_e (fz_le_e (fz_le_j (fz_le_e (fz_le_j fz_le_n)))))) ?_
      exact V_nd_X12_qTakes_16 hD    H

def hc_X11_init_2 (h : fz_H) : fz_H := (fz_sI (fz_sI (fz_sP (fz_mk (fz_sP (fz_mk (fz_sP (hc_X6_init_184 (fz_mk (fz_sP (hc_X1_init_181 (fz_mk (fz_sP (hc_X3_init_172 (fz_mk (fz_sP (hc_X4_init_47 (fz_mk (fz_sP (hc_X10_init (fz_mk (fz_sP (hc_X10_init (fz_mk (fz_sP (hc_X0_init_30 (hc_X7_init_31 (fz_mk (fz_mk (fz_sP (hc_X5_init_28 (fz_mk (fz_sP (hc_X9_init_17 (fz_mk (fz_sP (hc_X9_init_6 (fz_mk (fz_sP (hc_X2_init_5 (fz_mk (fz_sP (hc_X8_init_4 (fz_mk (fz_sP (fz_mk h 14 1600) 2 0 (some 3)) 8 9)) 2 2 (some 4)) 2 5)) 2 3 (some 5)) 9 15)) 2 4 (some 6)) 9 15)) 2 5 (some 17)) 5 3)) 2 6 (some 28)) 0 3) 7 2))) 2 7 (some 30)) 10 7) 35) 2 8 (some 35)) 10 7) 41) 2 9 (some 41)) 4 6)) 2 10 (some 47)) 3 6)) 2 11 (some 172)) 1 6)) 2 12 (some 181)) 6 6)) 2 13 (some 184)) 14 33) 2 14 (some 194)) 14 6) 2 16 (some 195)) 2 17 1) 2 19 (-1))
set_option maxRecDepth 100000 in
set_option maxHeartbeats 4000000 in
theorem V_cX11_init_2 {g : fz_G} {l : Launch} {d L : Nat} (hd : 4 ≤ d) {xs : Nat → Int32} {h : fz_H} (hs : fz_to L h (3)) (hb : h = hB0 L xs) {Q : Option Value → fz_H → Prop} (hq : fz_to L (hc_X11_init_2 h) (196) → Q none (hc_X11_init_2 h)) : fz_V g l m_X11_init d 193 11611 0 (fz_en [.ref 2] 1) [] h Q := by
  obtain ⟨d, rfl⟩ : ∃ e, d = e + 1 := ⟨d - 1, by omega⟩
  refine fv_aload_n (k0 := 0) (i := 0) dd_X11_init_0 rfl rfl ?_
  refine fv_objInit dd_X11_init_1 lk_X11_3 oi_i oi_c (Nat.le_of_ble_eq_true rfl) ?_
  refine fv_aload_n (k0 := 0) (i := 0) dd_X11_init_4 rfl rfl ?_
  refine fv_sipush (n := 1600) (v := 1600) dd_X11_init_5 (by decide) ?_
  refine fq_newaI (M := 1600) hs ca_3 dd_X11_init_8 (by decide) (by decide) (by decide) (fun h1 e1 hs1 => ?_)
  refine fq_putr (ci := 11) (j := 0) hs1 ca_2 (by omega) rfl dd_X11_init_10 pf_X11_9 (Or.inr ⟨_, rfl⟩) (fun h2 e2 hs2 => ?_)
  have p0 : h2.2.2.2 2 0 = some 3 := by rw [e2, fz_sP_eq]
  refine fv_aload_n (k0 := 0) (i := 0) dd_X11_init_13 rfl rfl ?_
  refine fq_new (ci := 8) (M := 9) hs2 ca_4 dd_X11_init_14 rfl ck_X11_13 is_X8 ic_X8 (fun h3 e3 hs3 => ?_)
  have p0 : h3.2.2.2 2 0 = some 3 := by rw [e3, fz_mk_ne (by rw [hs2.len]; decide)]; exact p0
  refine fv_dup dd_X11_init_17 rfl ?_
  refine fv_aload_n (k0 := 0) (i := 0) dd_X11_init_18 rfl rfl ?_
  refine fv_getr (ci := 11) (j := 0) (b := 3) dd_X11_init_19 fl_X11_9 (hs3.ob ca_2 (by omega) rfl) (Or.inr ⟨_, rfl⟩) p0 ?_
  refine fq_callI (y := m_X8_init) (as := [.ref 3]) (mc := 0) (ms := 0) (N' := 5) dd_X11_init_22 me_X8_init rfl rfl (Or.inl lk_X11_15) in_X8_init rfl (Nat.le_of_ble_eq_true rfl) (Nat.le_of_ble_eq_true rfl) rfl (fun Q' hq => V_cX8_init_4 (by omega) hs3 hq) (fun h4 e4 hs4 => ?_)
  have p0 : h4.2.2.2 2 0 = some 3 := by rw [e4, kp_X8_init_4 hs3 (by decide)]; exact p0
  refine fq_putr (ci := 11) (j := 2) hs4 ca_2 (by omega) rfl dd_X11_init_25 pf_X11_18 (Or.inl ⟨_, rfl⟩) (fun h5 e5 hs5 => ?_)
  have p0 : h5.2.2.2 2 0 = some 3 := by rw [e5, fz_sP_nj (by decide)]; exact p0
  have p2 : h5.2.2.2 2 2 = some 4 := by rw [e5, fz_sP_eq]
  refine fv_aload_n (k0 := 0) (i := 0) dd_X11_init_28 rfl rfl ?_
  refine fq_new (ci := 2) (M := 5) hs5 ca_5 dd_X11_init_29 rfl ck_X11_22 is_X2 ic_X2 (fun h6 e6 hs6 => ?_)
  have p0 : h6.2.2.2 2 0 = some 3 := by rw [e6, fz_mk_ne (by rw [hs5.len]; decide)]; exact p0
  have p2 : h6.2.2.2 2 2 = some 4 := by rw [e6, fz_mk_ne (by rw [hs5.len]; decide)]; exact p2
  refine fv_dup dd_X11_init_32 rfl ?_
  refine fv_aload_n (k0 := 0) (i := 0) dd_X11_init_33 rfl rfl ?_
  refine fv_getr (ci := 11) (j := 2) (b := 4) dd_X11_init_34 fl_X11_18 (hs6.ob ca_2 (by omega) rfl) (Or.inl ⟨_, rfl⟩) p2 ?_
  refine fq_callI (y := m_X2_init) (as := [.ref 4]) (mc := 0) (ms := 0) (N' := 6) dd_X11_init_37 me_X2_init rfl rfl (Or.inl lk_X11_24) in_X2_init rfl (Nat.le_of_ble_eq_true rfl) (Nat.le_of_ble_eq_true rfl) rfl (fun Q' hq => V_cX2_init_5 (by omega) hs6 hq) (fun h7 e7 hs7 => ?_)
  have p0 : h7.2.2.2 2 0 = some 3 := by rw [e7, kp_X2_init_5 hs6 (by decide)]; exact p0
  have p2 : h7.2.2.2 2 2 = some 4 := by rw [e7, kp_X2_init_5 hs6 (by decide)]; exact p2
  refine fq_putr (ci := 11) (j := 3) hs7 ca_2 (by omega) rfl dd_X11_init_40 pf_X11_27 (Or.inl ⟨_, rfl⟩) (fun h8 e8 hs8 => ?_)
  have p0 : h8.2.2.2 2 0 = some 3 := by rw [e8, fz_sP_nj (by decide)]; exact p0
  have p2 : h8.2.2.2 2 2 = some 4 := by rw [e8, fz_sP_nj (by decide)]; exact p2
  refine fv_aload_n (k0 := 0) (i := 0) dd_X11_init_43 rfl rfl ?_
  refine fq_new (ci := 9) (M := 15) hs8 ca_6 dd_X11_init_44 rfl ck_X11_31 is_X9 ic_X9 (fun h9 e9 hs9 => ?_)
  have p0 : h9.2.2.2 2 0 = some 3 := by rw [e9, fz_mk_ne (by rw [hs8.len]; decide)]; exact p0
  have p2 : h9.2.2.2 2 2 = some 4 := by rw [e9, fz_mk_ne (by rw [hs8.len]; decide)]; exact p2
  refine fv_dup dd_X11_init_47 rfl ?_
  refine fq_callI (y := m_X9_init) (as := []) (mc := 10) (ms := 1738) (N' := 17) dd_X11_init_48 me_X9_init rfl rfl (Or.inr ⟨_, ln_X11_33⟩) in_X9_init rfl (Nat.le_of_ble_eq_true rfl) (Nat.le_of_ble_eq_true rfl) rfl (fun Q' hq => V_cX9_init_6 (by omega) hs9 hq) (fun h10 e10 hs10 => ?_)
  have p0 : h10.2.2.2 2 0 = some 3 := by rw [e10, kp_X9_init_6 hs9 (by decide)]; exact p0
  have p2 : h10.2.2.2 2 2 = some 4 := by rw [e10, kp_X9_init_6 hs9 (by decide)]; exact p2
  refine fq_putr (ci := 11) (j := 4) hs10 ca_2 (by omega) rfl dd_X11_init_51 pf_X11_34 (Or.inl ⟨_, rfl⟩) (fun h11 e11 hs11 => ?_)
  have p0 : h11.2.2.2 2 0 = some 3 := by rw [e11, fz_sP_nj (by decide)]; exact p0
  have p2 : h11.2.2.2 2 2 = some 4 := by rw [e11, fz_sP_nj (by decide)]; exact p2
  have p4 : h11.2.2.2 2 4 = some 6 := by rw [e11, fz_sP_eq]
  refine fv_aload_n (k0 := 0) (i := 0) dd_X11_init_54 rfl rfl ?_
  refine fq_new (ci := 9) (M := 15) hs11 ca_17 dd_X11_init_55 rfl ck_X11_31 is_X9 ic_X9 (fun h12 e12 hs12 => ?_)
  have p0 : h12.2.2.2 2 0 = some 3 := by rw [e12, fz_mk_ne (by rw [hs11.len]; decide)]; exact p0
  have p2 : h12.2.2.2 2 2 = some 4 := by rw [e12, fz_mk_ne (by rw [hs11.len]; decide)]; exact p2
  have p4 : h12.2.2.2 2 4 = some 6 := by rw [e12, fz_mk_ne (by rw [hs11.len]; decide)]; exact p4
  refine fv_dup dd_X11_init_58 rfl ?_
  refine fq_callI (y := m_X9_init) (as := []) (mc := 10) (ms := 1738) (N' := 28) dd_X11_init_59 me_X9_init rfl rfl (Or.inr ⟨_, ln_X11_33⟩) in_X9_init rfl (Nat.le_of_ble_eq_true rfl) (Nat.le_of_ble_eq_true rfl) rfl (fun Q' hq => V_cX9_init_17 (by omega) hs12 hq) (fun h13 e13 hs13 => ?_)
  have p0 : h13.2.2.2 2 0 = some 3 := by rw [e13, kp_X9_init_17 hs12 (by decide)]; exact p0
  have p2 : h13.2.2.2 2 2 = some 4 := by rw [e13, kp_X9_init_17 hs12 (by decide)]; exact p2
  have p4 : h13.2.2.2 2 4 = some 6 := by rw [e13, kp_X9_init_17 hs12 (by decide)]; exact p4
  refine fq_putr (ci := 11) (j := 5) hs13 ca_2 (by omega) rfl dd_X11_init_62 pf_X11_38 (Or.inl ⟨_, rfl⟩) (fun h14 e14 hs14 => ?_)
  have p0 : h14.2.2.2 2 0 = some 3 := by rw [e14, fz_sP_nj (by decide)]; exact p0
  have p2 : h14.2.2.2 2 2 = some 4 := by rw [e14, fz_sP_nj (by decide)]; exact p2
  have p4 : h14.2.2.2 2 4 = some 6 := by rw [e14, fz_sP_nj (by decide)]; exact p4
  refine fv_aload_n (k0 := 0) (i := 0) dd_X11_init_65 rfl rfl ?_
  refine fq_new (ci := 5) (M := 3) hs14 ca_28 dd_X11_init_66 rfl ck_X11_41 is_X5 ic_X5 (fun h15 e15 hs15 => ?_)
  have p0 : h15.2.2.2 2 0 = some 3 := by rw [e15, fz_mk_ne (by rw [hs14.len]; decide)]; exact p0
  have p2 : h15.2.2.2 2 2 = some 4 := by rw [e15, fz_mk_ne (by rw [hs14.len]; decide)]; exact p2
  have p4 : h15.2.2.2 2 4 = some 6 := by rw [e15, fz_mk_ne (by rw [hs14.len]; decide)]; exact p4
  refine fv_dup dd_X11_init_69 rfl ?_
  refine fq_callI (y := m_X5_init) (as := []) (mc := 1) (ms := 1632) (N' := 30) dd_X11_init_70 me_X5_init rfl rfl (Or.inr ⟨_, ln_X11_43⟩) in_X5_init rfl (Nat.le_of_ble_eq_true rfl) (Nat.le_of_ble_eq_true rfl) rfl (fun Q' hq => V_cX5_init_28 (by omega) hs15 hq) (fun h16 e16 hs16 => ?_)
  have p0 : h16.2.2.2 2 0 = some 3 := by rw [e16, kp_X5_init_28 hs15 (by decide)]; exact p0
  have p2 : h16.2.2.2 2 2 = some 4 := by rw [e16, kp_X5_init_28 hs15 (by decide)]; exact p2
  have p4 : h16.2.2.2 2 4 = some 6 := by rw [e16, kp_X5_init_28 hs15 (by decide)]; exact p4
  refine fq_putr (ci := 11) (j := 6) hs16 ca_2 (by omega) rfl dd_X11_init_73 pf_X11_44 (Or.inl ⟨_, rfl⟩) (fun h17 e17 hs17 => ?_)
  have p0 : h17.2.2.2 2 0 = some 3 := by rw [e17, fz_sP_nj (by decide)]; exact p0
  have p2 : h17.2.2.2 2 2 = some 4 := by rw [e17, fz_sP_nj (by decide)]; exact p2
  have p4 : h17.2.2.2 2 4 = some 6 := by rw [e17, fz_sP_nj (by decide)]; exact p4
  refine fv_aload_n (k0 := 0) (i := 0) dd_X11_init_76 rfl rfl ?_
  refine fq_new (ci := 0) (M := 3) hs17 ca_30 dd_X11_init_77 rfl ck_X11_48 is_X0 ic_X0 (fun h18 e18 hs18 => ?_)
  have p0 : h18.2.2.2 2 0 = some 3 := by rw [e18, fz_mk_ne (by rw [hs17.len]; decide)]; exact p0
  have p2 : h18.2.2.2 2 2 = some 4 := by rw [e18, fz_mk_ne (by rw [hs17.len]; decide)]; exact p2
  have p4 : h18.2.2.2 2 4 = some 6 := by rw [e18, fz_mk_ne (by rw [hs17.len]; decide)]; exact p4
  refine fv_dup dd_X11_init_80 rfl ?_
  refine fv_aload_n (k0 := 0) (i := 0) dd_X11_init_81 rfl rfl ?_
  refine fv_getr (ci := 11) (j := 4) (b := 6) dd_X11_init_82 fl_X11_34 (hs18.ob ca_2 (by omega) rfl) (Or.inl ⟨_, rfl⟩) p4 ?_
  refine fq_new (ci := 7) (M := 2) hs18 ca_31 dd_X11_init_85 rfl ck_X11_50 is_X7 ic_X7 (fun h19 e19 hs19 => ?_)
  have p0 : h19.2.2.2 2 0 = some 3 := by rw [e19, fz_mk_ne (by rw [hs18.len]; decide)]; exact p0
  have p2 : h19.2.2.2 2 2 = some 4 := by rw [e19, fz_mk_ne (by rw [hs18.len]; decide)]; exact p2
  have p4 : h19.2.2.2 2 4 = some 6 := by rw [e19, fz_mk_ne (by rw [hs18.len]; decide)]; exact p4
  refine fv_dup dd_X11_init_88 rfl ?_
  refine fq_callI (y := m_X7_init) (as := []) (mc := 2) (ms := 79) (N' := 34) dd_X11_init_89 me_X7_init rfl rfl (Or.inr ⟨_, ln_X11_52⟩) in_X7_init rfl (Nat.le_of_ble_eq_true rfl) (Nat.le_of_ble_eq_true rfl) rfl (fun Q' hq => V_cX7_init_31 (by omega) hs19 hq) (fun h20 e20 hs20 => ?_)
  have p0 : h20.2.2.2 2 0 = some 3 := by rw [e20, kp_X7_init_31 hs19 (by decide)]; exact p0
  have p2 : h20.2.2.2 2 2 = some 4 := by rw [e20, kp_X7_init_31 hs19 (by decide)]; exact p2
  have p4 : h20.2.2.2 2 4 = some 6 := by rw [e20, kp_X7_init_31 hs19 (by decide)]; exact p4
  refine fq_callI (y := m_X0_init) (as := [.ref 6, .ref 31]) (mc := 1) (ms := 2) (N' := 35) dd_X11_init_92 me_X0_init rfl rfl (Or.inl lk_X11_53) in_X0_init rfl (Nat.le_of_ble_eq_true rfl) (Nat.le_of_ble_eq_true rfl) rfl (fun Q' hq => V_cX0_init_30 (by omega) hs20 hq) (fun h21 e21 hs21 => ?_)
  have p0 : h21.2.2.2 2 0 = some 3 := by rw [e21, kp_X0_init_30 hs20 (by decide)]; exact p0
  have p2 : h21.2.2.2 2 2 = some 4 := by rw [e21, kp_X0_init_30 hs20 (by decide)]; exact p2
  have p4 : h21.2.2.2 2 4 = some 6 := by rw [e21, kp_X0_init_30 hs20 (by decide)]; exact p4
  refine fq_putr (ci := 11) (j := 7) hs21 ca_2 (by omega) rfl dd_X11_init_95 pf_X11_56 (Or.inl ⟨_, rfl⟩) (fun h22 e22 hs22 => ?_)
  have p0 : h22.2.2.2 2 0 = some 3 := by rw [e22, fz_sP_nj (by decide)]; exact p0
  have p2 : h22.2.2.2 2 2 = some 4 := by rw [e22, fz_sP_nj (by decide)]; exact p2
  have p4 : h22.2.2.2 2 4 = some 6 := by rw [e22, fz_sP_nj (by decide)]; exact p4
  have p7 : h22.2.2.2 2 7 = some 30 := by rw [e22, fz_sP_eq]
  refine fv_aload_n (k0 := 0) (i := 0) dd_X11_init_98 rfl rfl ?_
  refine fq_new (ci := 10) (M := 7) hs22 ca_35 dd_X11_init_99 rfl ck_X11_60 is_X10 ic_X10 (fun h23 e23 hs23 => ?_)
  have p0 : h23.2.2.2 2 0 = some 3 := by rw [e23, fz_mk_ne (by rw [hs22.len]; decide)]; exact p0
  have p2 : h23.2.2.2 2 2 = some 4 := by rw [e23, fz_mk_ne (by rw [hs22.len]; decide)]; exact p2
  have p4 : h23.2.2.2 2 4 = some 6 := by rw [e23, fz_mk_ne (by rw [hs22.len]; decide)]; exact p4
  have p7 : h23.2.2.2 2 7 = some 30 := by rw [e23, fz_mk_ne (by rw [hs22.len]; decide)]; exact p7
  refine fv_dup dd_X11_init_102 rfl ?_
  refine fq_callI (y := m_X10_init) (as := []) (mc := 5) (ms := 28) (N' := 41) dd_X11_init_103 me_X10_init rfl rfl (Or.inr ⟨_, ln_X11_62⟩) in_X10_init rfl (Nat.le_of_ble_eq_true rfl) (Nat.le_of_ble_eq_true rfl) rfl (fun Q' hq => V_cX10_init (by omega) 35 ca_35 hs23 hq) (fun h24 e24 hs24 => ?_)
  have p0 : h24.2.2.2 2 0 = some 3 := by rw [e24, kp_X10_init hs23 (by decide)]; exact p0
  have p2 : h24.2.2.2 2 2 = some 4 := by rw [e24, kp_X10_init hs23 (by decide)]; exact p2
  have p4 : h24.2.2.2 2 4 = some 6 := by rw [e24, kp_X10_init hs23 (by decide)]; exact p4
  have p7 : h24.2.2.2 2 7 = some 30 := by rw [e24, kp_X10_init hs23 (by decide)]; exact p7
  refine fq_putr (ci := 11) (j := 8) hs24 ca_2 (by omega) rfl dd_X11_init_106 pf_X11_63 (Or.inl ⟨_, rfl⟩) (fun h25 e25 hs25 => ?_)
  have p0 : h25.2.2.2 2 0 = some 3 := by rw [e25, fz_sP_nj (by decide)]; exact p0
  have p2 : h25.2.2.2 2 2 = some 4 := by rw [e25, fz_sP_nj (by decide)]; exact p2
  have p4 : h25.2.2.2 2 4 = some 6 := by rw [e25, fz_sP_nj (by decide)]; exact p4
  have p7 : h25.2.2.2 2 7 = some 30 := by rw [e25, fz_sP_nj (by decide)]; exact p7
  refine fv_aload_n (k0 := 0) (i := 0) dd_X11_init_109 rfl rfl ?_
  refine fq_new (ci := 10) (M := 7) hs25 ca_41 dd_X11_init_110 rfl ck_X11_60 is_X10 ic_X10 (fun h26 e26 hs26 => ?_)
  have p0 : h26.2.2.2 2 0 = some 3 := by rw [e26, fz_mk_ne (by rw [hs25.len]; decide)]; exact p0
  have p2 : h26.2.2.2 2 2 = some 4 := by rw [e26, fz_mk_ne (by rw [hs25.len]; decide)]; exact p2
  have p4 : h26.2.2.2 2 4 = some 6 := by rw [e26, fz_mk_ne (by rw [hs25.len]; decide)]; exact p4
  have p7 : h26.2.2.2 2 7 = some 30 := by rw [e26, fz_mk_ne (by rw [hs25.len]; decide)]; exact p7
  refine fv_dup dd_X11_init_113 rfl ?_
  refine fq_callI (y := m_X10_init) (as := []) (mc := 5) (ms := 28) (N' := 47) dd_X11_init_114 me_X10_init rfl rfl (Or.inr ⟨_, ln_X11_62⟩) in_X10_init rfl (Nat.le_of_ble_eq_true rfl) (Nat.le_of_ble_eq_true rfl) rfl (fun Q' hq => V_cX10_init (by omega) 41 ca_41 hs26 hq) (fun h27 e27 hs27 => ?_)
  have p0 : h27.2.2.2 2 0 = some 3 := by rw [e27, kp_X10_init hs26 (by decide)]; exact p0
  have p2 : h27.2.2.2 2 2 = some 4 := by rw [e27, kp_X10_init hs26 (by decide)]; exact p2
  have p4 : h27.2.2.2 2 4 = some 6 := by rw [e27, kp_X10_init hs26 (by decide)]; exact p4
  have p7 : h27.2.2.2 2 7 = some 30 := by rw [e27, kp_X10_init hs26 (by decide)]; exact p7
  refine fq_putr (ci := 11) (j := 9) hs27 ca_2 (by omega) rfl dd_X11_init_117 pf_X11_67 (Or.inl ⟨_, rfl⟩) (fun h28 e28 hs28 => ?_)
  have p0 : h28.2.2.2 2 0 = some 3 := by rw [e28, fz_sP_nj (by decide)]; exact p0
  have p2 : h28.2.2.2 2 2 = some 4 := by rw [e28, fz_sP_nj (by decide)]; exact p2
  have p4 : h28.2.2.2 2 4 = some 6 := by rw [e28, fz_sP_nj (by decide)]; exact p4
  have p7 : h28.2.2.2 2 7 = some 30 := by rw [e28, fz_sP_nj (by decide)]; exact p7
  refine fv_aload_n (k0 := 0) (i := 0) dd_X11_init_120 rfl rfl ?_
  refine fq_new (ci := 4) (M := 6) hs28 ca_47 dd_X11_init_121 rfl ck_X11_70 is_X4 ic_X4 (fun h29 e29 hs29 => ?_)
  have p0 : h29.2.2.2 2 0 = some 3 := by rw [e29, fz_mk_ne (by rw [hs28.len]; decide)]; exact p0
  have p2 : h29.2.2.2 2 2 = some 4 := by rw [e29, fz_mk_ne (by rw [hs28.len]; decide)]; exact p2
  have p4 : h29.2.2.2 2 4 = some 6 := by rw [e29, fz_mk_ne (by rw [hs28.len]; decide)]; exact p4
  have p7 : h29.2.2.2 2 7 = some 30 := by rw [e29, fz_mk_ne (by rw [hs28.len]; decide)]; exact p7
  refine fv_dup dd_X11_init_124 rfl ?_
  refine fq_callI (y := m_X4_init) (as := []) (mc := 124) (ms := 3720) (N' := 172) dd_X11_init_125 me_X4_init rfl rfl (Or.inl lk_X11_72) in_X4_init rfl (Nat.le_of_ble_eq_true rfl) (Nat.le_of_ble_eq_true rfl) rfl (fun Q' hq => V_cX4_init_47 (by omega) hs29 hq) (fun h30 e30 hs30 => ?_)
  have p0 : h30.2.2.2 2 0 = some 3 := by rw [e30, kp_X4_init_47 hs29 (by decide)]; exact p0
  have p2 : h30.2.2.2 2 2 = some 4 := by rw [e30, kp_X4_init_47 hs29 (by decide)]; exact p2
  have p4 : h30.2.2.2 2 4 = some 6 := by rw [e30, kp_X4_init_47 hs29 (by decide)]; exact p4
  have p7 : h30.2.2.2 2 7 = some 30 := by rw [e30, kp_X4_init_47 hs29 (by decide)]; exact p7
  refine fq_putr (ci := 11) (j := 10) hs30 ca_2 (by omega) rfl dd_X11_init_128 pf_X11_73 (Or.inl ⟨_, rfl⟩) (fun h31 e31 hs31 => ?_)
  have p0 : h31.2.2.2 2 0 = some 3 := by rw [e31, fz_sP_nj (by decide)]; exact p0
  have p2 : h31.2.2.2 2 2 = some 4 := by rw [e31, fz_sP_nj (by decide)]; exact p2
  have p4 : h31.2.2.2 2 4 = some 6 := by rw [e31, fz_sP_nj (by decide)]; exact p4
  have p7 : h31.2.2.2 2 7 = some 30 := by rw [e31, fz_sP_nj (by decide)]; exact p7
  refine fv_aload_n (k0 := 0) (i := 0) dd_X11_init_131 rfl rfl ?_
  refine fq_new (ci := 3) (M := 6) hs31 ca_172 dd_X11_init_132 rfl ck_X11_77 is_X3 ic_X3 (fun h32 e32 hs32 => ?_)
  have p0 : h32.2.2.2 2 0 = some 3 := by rw [e32, fz_mk_ne (by rw [hs31.len]; decide)]; exact p0
  have p2 : h32.2.2.2 2 2 = some 4 := by rw [e32, fz_mk_ne (by rw [hs31.len]; decide)]; exact p2
  have p4 : h32.2.2.2 2 4 = some 6 := by rw [e32, fz_mk_ne (by rw [hs31.len]; decide)]; exact p4
  have p7 : h32.2.2.2 2 7 = some 30 := by rw [e32, fz_mk_ne (by rw [hs31.len]; decide)]; exact p7
  refine fv_dup dd_X11_init_135 rfl ?_
  refine fv_aload_n (k0 := 0) (i := 0) dd_X11_init_136 rfl rfl ?_
  refine fv_getr (ci := 11) (j := 4) (b := 6) dd_X11_init_137 fl_X11_34 (hs32.ob ca_2 (by omega) rfl) (Or.inl ⟨_, rfl⟩) p4 ?_
  refine fv_aload_n (k0 := 0) (i := 0) dd_X11_init_140 rfl rfl ?_
  refine fv_getr (ci := 11) (j := 7) (b := 30) dd_X11_init_141 fl_X11_56 (hs32.ob ca_2 (by omega) rfl) (Or.inl ⟨_, rfl⟩) p7 ?_
  refine fq_callI (y := m_X3_init) (as := [.ref 6, .ref 30]) (mc := 8) (ms := 165) (N' := 181) dd_X11_init_144 me_X3_init rfl rfl (Or.inl lk_X11_79) in_X3_init rfl (Nat.le_of_ble_eq_true rfl) (Nat.le_of_ble_eq_true rfl) rfl (fun Q' hq => V_cX3_init_172 (by omega) hs32 hq) (fun h33 e33 hs33 => ?_)
  have p0 : h33.2.2.2 2 0 = some 3 := by rw [e33, kp_X3_init_172 hs32 (by decide)]; exact p0
  have p2 : h33.2.2.2 2 2 = some 4 := by rw [e33, kp_X3_init_172 hs32 (by decide)]; exact p2
  have p4 : h33.2.2.2 2 4 = some 6 := by rw [e33, kp_X3_init_172 hs32 (by decide)]; exact p4
  have p7 : h33.2.2.2 2 7 = some 30 := by rw [e33, kp_X3_init_172 hs32 (by decide)]; exact p7
  refine fq_putr (ci := 11) (j := 11) hs33 ca_2 (by omega) rfl dd_X11_init_147 pf_X11_82 (Or.inl ⟨_, rfl⟩) (fun h34 e34 hs34 => ?_)
  have p0 : h34.2.2.2 2 0 = some 3 := by rw [e34, fz_sP_nj (by decide)]; exact p0
  have p2 : h34.2.2.2 2 2 = some 4 := by rw [e34, fz_sP_nj (by decide)]; exact p2
  have p4 : h34.2.2.2 2 4 = some 6 := by rw [e34, fz_sP_nj (by decide)]; exact p4
  have p7 : h34.2.2.2 2 7 = some 30 := by rw [e34, fz_sP_nj (by decide)]; exact p7
  refine fv_aload_n (k0 := 0) (i := 0) dd_X11_init_150 rfl rfl ?_
  refine fq_new (ci := 1) (M := 6) hs34 ca_181 dd_X11_init_151 rfl ck_X11_86 is_X1 ic_X1 (fun h35 e35 hs35 => ?_)
  have p0 : h35.2.2.2 2 0 = some 3 := by rw [e35, fz_mk_ne (by rw [hs34.len]; decide)]; exact p0
  have p2 : h35.2.2.2 2 2 = some 4 := by rw [e35, fz_mk_ne (by rw [hs34.len]; decide)]; exact p2
  have p4 : h35.2.2.2 2 4 = some 6 := by rw [e35, fz_mk_ne (by rw [hs34.len]; decide)]; exact p4
  have p7 : h35.2.2.2 2 7 = some 30 := by rw [e35, fz_mk_ne (by rw [hs34.len]; decide)]; exact p7
  refine fv_dup dd_X11_init_154 rfl ?_
  refine fv_aload_n (k0 := 0) (i := 0) dd_X11_init_155 rfl rfl ?_
  refine fv_getr (ci := 11) (j := 4) (b := 6) dd_X11_init_156 fl_X11_34 (hs35.ob ca_2 (by omega) rfl) (Or.inl ⟨_, rfl⟩) p4 ?_
  refine fv_aload_n (k0 := 0) (i := 0) dd_X11_init_159 rfl rfl ?_
  refine fv_getr (ci := 11) (j := 7) (b := 30) dd_X11_init_160 fl_X11_56 (hs35.ob ca_2 (by omega) rfl) (Or.inl ⟨_, rfl⟩) p7 ?_
  refine fq_callI (y := m_X1_init) (as := [.ref 6, .ref 30]) (mc := 2) (ms := 30) (N' := 184) dd_X11_init_163 me_X1_init rfl rfl (Or.inl lk_X11_88) in_X1_init rfl (Nat.le_of_ble_eq_true rfl) (Nat.le_of_ble_eq_true rfl) rfl (fun Q' hq => V_cX1_init_181 (by omega) hs35 hq) (fun h36 e36 hs36 => ?_)
  have p0 : h36.2.2.2 2 0 = some 3 := by rw [e36, kp_X1_init_181 hs35 (by decide)]; exact p0
  have p2 : h36.2.2.2 2 2 = some 4 := by rw [e36, kp_X1_init_181 hs35 (by decide)]; exact p2
  have p4 : h36.2.2.2 2 4 = some 6 := by rw [e36, kp_X1_init_181 hs35 (by decide)]; exact p4
  have p7 : h36.2.2.2 2 7 = some 30 := by rw [e36, kp_X1_init_181 hs35 (by decide)]; exact p7
  refine fq_putr (ci := 11) (j := 12) hs36 ca_2 (by omega) rfl dd_X11_init_166 pf_X11_89 (Or.inl ⟨_, rfl⟩) (fun h37 e37 hs37 => ?_)
  have p0 : h37.2.2.2 2 0 = some 3 := by rw [e37, fz_sP_nj (by decide)]; exact p0
  have p2 : h37.2.2.2 2 2 = some 4 := by rw [e37, fz_sP_nj (by decide)]; exact p2
  have p4 : h37.2.2.2 2 4 = some 6 := by rw [e37, fz_sP_nj (by decide)]; exact p4
  have p7 : h37.2.2.2 2 7 = some 30 := by rw [e37, fz_sP_nj (by decide)]; exact p7
  refine fv_aload_n (k0 := 0) (i := 0) dd_X11_init_169 rfl rfl ?_
  refine fq_new (ci := 6) (M := 6) hs37 ca_184 dd_X11_init_170 rfl ck_X11_93 is_X6 ic_X6 (fun h38 e38 hs38 => ?_)
  have p0 : h38.2.2.2 2 0 = some 3 := by rw [e38, fz_mk_ne (by rw [hs37.len]; decide)]; exact p0
  have p2 : h38.2.2.2 2 2 = some 4 := by rw [e38, fz_mk_ne (by rw [hs37.len]; decide)]; exact p2
  have p4 : h38.2.2.2 2 4 = some 6 := by rw [e38, fz_mk_ne (by rw [hs37.len]; decide)]; exact p4
  have p7 : h38.2.2.2 2 7 = some 30 := by rw [e38, fz_mk_ne (by rw [hs37.len]; decide)]; exact p7
  refine fv_dup dd_X11_init_173 rfl ?_
  refine fv_aload_n (k0 := 0) (i := 0) dd_X11_init_174 rfl rfl ?_
  refine fv_getr (ci := 11) (j := 7) (b := 30) dd_X11_init_175 fl_X11_56 (hs38.ob ca_2 (by omega) rfl) (Or.inl ⟨_, rfl⟩) p7 ?_
  refine fq_callI (y := m_X6_init) (as := [.ref 30]) (mc := 9) (ms := 722) (N' := 194) dd_X11_init_178 me_X6_init rfl rfl (Or.inl lk_X11_95) in_X6_init rfl (Nat.le_of_ble_eq_true rfl) (Nat.le_of_ble_eq_true rfl) rfl (fun Q' hq => V_cX6_init_184 (by omega) hs38 hq) (fun h39 e39 hs39 => ?_)
  have p0 : h39.2.2.2 2 0 = some 3 := by rw [e39, kp_X6_init_184 hs38 (by decide)]; exact p0
  have p2 : h39.2.2.2 2 2 = some 4 := by rw [e39, kp_X6_init_184 hs38 (by decide)]; exact p2
  have p4 : h39.2.2.2 2 4 = some 6 := by rw [e39, kp_X6_init_184 hs38 (by decide)]; exact p4
  have p7 : h39.2.2.2 2 7 = some 30 := by rw [e39, kp_X6_init_184 hs38 (by decide)]; exact p7
  refine fq_putr (ci := 11) (j := 13) hs39 ca_2 (by omega) rfl dd_X11_init_181 pf_X11_98 (Or.inl ⟨_, rfl⟩) (fun h40 e40 hs40 => ?_)
  have p0 : h40.2.2.2 2 0 = some 3 := by rw [e40, fz_sP_nj (by decide)]; exact p0
  have p2 : h40.2.2.2 2 2 = some 4 := by rw [e40, fz_sP_nj (by decide)]; exact p2
  have p4 : h40.2.2.2 2 4 = some 6 := by rw [e40, fz_sP_nj (by decide)]; exact p4
  have p7 : h40.2.2.2 2 7 = some 30 := by rw [e40, fz_sP_nj (by decide)]; exact p7
  refine fv_aload_n (k0 := 0) (i := 0) dd_X11_init_184 rfl rfl ?_
  refine fv_bipush (n := 33) (v := 33) dd_X11_init_185 (by decide) ?_
  refine fq_newaI (M := 33) hs40 ca_194 dd_X11_init_187 (by decide) (by decide) (by decide) (fun h41 e41 hs41 => ?_)
  have p0 : h41.2.2.2 2 0 = some 3 := by rw [e41, fz_mk_ne (by rw [hs40.len]; decide)]; exact p0
  have p2 : h41.2.2.2 2 2 = some 4 := by rw [e41, fz_mk_ne (by rw [hs40.len]; decide)]; exact p2
  have p4 : h41.2.2.2 2 4 = some 6 := by rw [e41, fz_mk_ne (by rw [hs40.len]; decide)]; exact p4
  have p7 : h41.2.2.2 2 7 = some 30 := by rw [e41, fz_mk_ne (by rw [hs40.len]; decide)]; exact p7
  refine fq_putr (ci := 11) (j := 14) hs41 ca_2 (by omega) rfl dd_X11_init_189 pf_X11_102 (Or.inr ⟨_, rfl⟩) (fun h42 e42 hs42 => ?_)
  have p0 : h42.2.2.2 2 0 = some 3 := by rw [e42, fz_sP_nj (by decide)]; exact p0
  have p2 : h42.2.2.2 2 2 = some 4 := by rw [e42, fz_sP_nj (by decide)]; exact p2
  have p4 : h42.2.2.2 2 4 = some 6 := by rw [e42, fz_sP_nj (by decide)]; exact p4
  have p7 : h42.2.2.2 2 7 = some 30 := by rw [e42, fz_sP_nj (by decide)]; exact p7
  refine fv_aload_n (k0 := 0) (i := 0) dd_X11_init_192 rfl rfl ?_
  refine fv_bipush (n := 6) (v := 6) dd_X11_init_193 (by decide) ?_
  refine fq_newaI (M := 6) hs42 ca_195 dd_X11_init_195 (by decide) (by decide) (by decide) (fun h43 e43 hs43 => ?_)
  have p0 : h43.2.2.2 2 0 = some 3 := by rw [e43, fz_mk_ne (by rw [hs42.len]; decide)]; exact p0
  have p2 : h43.2.2.2 2 2 = some 4 := by rw [e43, fz_mk_ne (by rw [hs42.len]; decide)]; exact p2
  have p4 : h43.2.2.2 2 4 = some 6 := by rw [e43, fz_mk_ne (by rw [hs42.len]; decide)]; exact p4
  have p7 : h43.2.2.2 2 7 = some 30 := by rw [e43, fz_mk_ne (by rw [hs42.len]; decide)]; exact p7
  refine fq_putr (ci := 11) (j := 16) hs43 ca_2 (by omega) rfl dd_X11_init_197 pf_X11_105 (Or.inr ⟨_, rfl⟩) (fun h44 e44 hs44 => ?_)
  have p0 : h44.2.2.2 2 0 = some 3 := by rw [e44, fz_sP_nj (by decide)]; exact p0
  have p2 : h44.2.2.2 2 2 = some 4 := by rw [e44, fz_sP_nj (by decide)]; exact p2
  have p4 : h44.2.2.2 2 4 = some 6 := by rw [e44, fz_sP_nj (by decide)]; exact p4
  have p7 : h44.2.2.2 2 7 = some 30 := by rw [e44, fz_sP_nj (by decide)]; exact p7
  refine fv_aload_n (k0 := 0) (i := 0) dd_X11_init_200 rfl rfl ?_
  refine fv_iconst (n := 1) (v := 1) dd_X11_init_201 (by decide) ?_
  refine fq_puti (ci := 11) (j := 17) hs44 ca_2 (by omega) rfl dd_X11_init_202 pf_X11_108 rfl (fun h45 e45 hs45 => ?_)
  have p0 : h45.2.2.2 2 0 = some 3 := by rw [e45, fz_sI_P]; exact p0
  have p2 : h45.2.2.2 2 2 = some 4 := by rw [e45, fz_sI_P]; exact p2
  have p4 : h45.2.2.2 2 4 = some 6 := by rw [e45, fz_sI_P]; exact p4
  have p7 : h45.2.2.2 2 7 = some 30 := by rw [e45, fz_sI_P]; exact p7
  refine fv_aload_n (k0 := 0) (i := 0) dd_X11_init_205 rfl rfl ?_
  refine fv_iconst (n := -1) (v := -1) dd_X11_init_206 (by decide) ?_
  refine fq_puti (ci := 11) (j := 19) hs45 ca_2 (by omega) rfl dd_X11_init_207 pf_X11_112 rfl (fun h46 e46 hs46 => ?_)
  have p0 : h46.2.2.2 2 0 = some 3 := by rw [e46, fz_sI_P]; exact p0
  have p2 : h46.2.2.2 2 2 = some 4 := by rw [e46, fz_sI_P]; exact p2
  have p4 : h46.2.2.2 2 4 = some 6 := by rw [e46, fz_sI_P]; exact p4
  have p7 : h46.2.2.2 2 7 = some 30 := by rw [e46, fz_sI_P]; exact p7
  refine fv_vret dd_X11_init_210 rfl ?_
  subst e46
  subst e45
  subst e44
  subst e43
  subst e42
  subst e41
  subst e40
  subst e39
  subst e38
  subst e37
  subst e36
  subst e35
  subst e34
  subst e33
  subst e32
  subst e31
  subst e30
  subst e29
  subst e28
  subst e27
  subst e26
  subst e25
  subst e24
  subst e23
  subst e22
  subst e21
  subst e20
  subst e19
  subst e18
  subst e17
  subst e16
  subst e15
  subst e14
  subst e13
  subst e12
  subst e11
  subst e10
  subst e9
  subst e8
  subst e7
  subst e6
  subst e5
  subst e4
  subst e3
  subst e2
  subst e1
  exact hq hs46

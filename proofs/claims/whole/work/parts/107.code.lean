theorem dd_X4_keep_0 : decode m_X4_keep.2.1 0 = .ok (.aload_n 1, 1) := by decide +kernel
theorem dd_X4_keep_1 : decode m_X4_keep.2.1 1 = .ok (.getfield 39, 3) := by decide +kernel
theorem dd_X4_keep_4 : decode m_X4_keep.2.1 4 = .ok (.istore 4, 2) := by decide +kernel
theorem dd_X4_keep_6 : decode m_X4_keep.2.1 6 = .ok (.iload 4, 2) := by decide +kernel
theorem dd_X4_keep_8 : decode m_X4_keep.2.1 8 = .ok (.ifCond .lt 11, 3) := by decide +kernel
theorem dd_X4_keep_11 : decode m_X4_keep.2.1 11 = .ok (.iload 4, 2) := by decide +kernel
theorem dd_X4_keep_13 : decode m_X4_keep.2.1 13 = .ok (.sipush 999, 3) := by decide +kernel
theorem dd_X4_keep_16 : decode m_X4_keep.2.1 16 = .ok (.if_icmp .le 4, 3) := by decide +kernel
theorem dd_X4_keep_19 : decode m_X4_keep.2.1 19 = .ok (.return_, 1) := by decide +kernel
theorem dd_X4_keep_20 : decode m_X4_keep.2.1 20 = .ok (.aload_n 0, 1) := by decide +kernel
theorem dd_X4_keep_21 : decode m_X4_keep.2.1 21 = .ok (.getfield 17, 3) := by decide +kernel
theorem dd_X4_keep_24 : decode m_X4_keep.2.1 24 = .ok (.iload 4, 2) := by decide +kernel
theorem dd_X4_keep_26 : decode m_X4_keep.2.1 26 = .ok (.iload_n 2, 1) := by decide +kernel
theorem dd_X4_keep_27 : decode m_X4_keep.2.1 27 = .ok (.iastore, 1) := by decide +kernel
theorem dd_X4_keep_28 : decode m_X4_keep.2.1 28 = .ok (.aload_n 0, 1) := by decide +kernel
theorem dd_X4_keep_29 : decode m_X4_keep.2.1 29 = .ok (.getfield 21, 3) := by decide +kernel
theorem dd_X4_keep_32 : decode m_X4_keep.2.1 32 = .ok (.iload 4, 2) := by decide +kernel
theorem dd_X4_keep_34 : decode m_X4_keep.2.1 34 = .ok (.aload_n 3, 1) := by decide +kernel
theorem dd_X4_keep_35 : decode m_X4_keep.2.1 35 = .ok (.iconst 0, 1) := by decide +kernel
theorem dd_X4_keep_36 : decode m_X4_keep.2.1 36 = .ok (.iaload, 1) := by decide +kernel
theorem dd_X4_keep_37 : decode m_X4_keep.2.1 37 = .ok (.iastore, 1) := by decide +kernel
theorem dd_X4_keep_38 : decode m_X4_keep.2.1 38 = .ok (.aload_n 0, 1) := by decide +kernel
theorem dd_X4_keep_39 : decode m_X4_keep.2.1 39 = .ok (.getfield 24, 3) := by decide +kernel
theorem dd_X4_keep_42 : decode m_X4_keep.2.1 42 = .ok (.iload 4, 2) := by decide +kernel
theorem dd_X4_keep_44 : decode m_X4_keep.2.1 44 = .ok (.aload_n 3, 1) := by decide +kernel
theorem dd_X4_keep_45 : decode m_X4_keep.2.1 45 = .ok (.iconst 1, 1) := by decide +kernel
theorem dd_X4_keep_46 : decode m_X4_keep.2.1 46 = .ok (.iaload, 1) := by decide +kernel
theorem dd_X4_keep_47 : decode m_X4_keep.2.1 47 = .ok (.iastore, 1) := by decide +kernel
theorem dd_X4_keep_48 : decode m_X4_keep.2.1 48 = .ok (.aload_n 1, 1) := by decide +kernel
theorem dd_X4_keep_49 : decode m_X4_keep.2.1 49 = .ok (.dup, 1) := by decide +kernel
theorem dd_X4_keep_50 : decode m_X4_keep.2.1 50 = .ok (.getfield 39, 3) := by decide +kernel
theorem dd_X4_keep_53 : decode m_X4_keep.2.1 53 = .ok (.iconst 1, 1) := by decide +kernel
theorem dd_X4_keep_54 : decode m_X4_keep.2.1 54 = .ok (.iadd, 1) := by decide +kernel
theorem dd_X4_keep_55 : decode m_X4_keep.2.1 55 = .ok (.putfield 39, 3) := by decide +kernel
theorem dd_X4_keep_58 : decode m_X4_keep.2.1 58 = .ok (.return_, 1) := by decide +kernel
def wp_X4_keep (w0 : Nat) (p1 : Int32) (a2 : Nat) (n2 : Nat) (s : fz_s) (Q : fz_s → Prop) : Prop :=
  ∀ x1 : Int32, x1 = (s.1 w0 6) → ((x1 < 0 → Q s) ∧ (¬ x1 < 0 → ((x1 ≤ 999 → vp_in x1 1000 ∧ ∀ s2 : fz_s, s2 = si s 49 x1.toNatClampNeg p1 → vp_in 0 n2 ∧ vp_in x1 1000 ∧ ∀ s3 : fz_s, s3 = si s2 50 x1.toNatClampNeg (s2.1 a2 (0 : Int32).toNatClampNeg) → vp_in 1 n2 ∧ vp_in x1 1000 ∧ ∀ s4 : fz_s, s4 = si s3 51 x1.toNatClampNeg (s3.1 a2 (1 : Int32).toNatClampNeg) → ∀ s5 : fz_s, s5 = si s4 w0 6 ((s4.1 w0 6) + 1) → Q s5) ∧ (¬ x1 ≤ 999 → Q s))))
set_option maxRecDepth 100000 in
set_option maxHeartbeats 4000000 in
theorem V_X4_keep {g : fz_G} {l : Launch} {d : Nat} (hD : 0 ≤ d) {w0 : Nat} {p1 : Int32} {a2 : Nat} {n2 : Nat} (hw0 : fz_at true w0 10 7) (ha2 : fz_at true a2 14 n2) {s : fz_s} {Q : fz_s → Prop} (H : wp_X4_keep w0 p1 a2 n2 s Q) : fs_V g l m_X4_keep d true 0 (fz_en [.ref 47, .ref w0, .int p1, .ref a2] 5) [] s (rV Q) := by
  unfold wp_X4_keep at H
  refine fs_aload_n (k0 := 1) (i := 1) dd_X4_keep_0 rfl rfl ?_
  refine fs_geti (ci := 10) (j := 6) dd_X4_keep_1 fl_X4_39 hw0 rfl (Or.inl rfl) ?_
  refine fs_topi (fun x1 hx1 => ?_)
  replace H := H x1 hx1
  refine fs_istore (i := 4) dd_X4_keep_4 (by decide) ?_
  refine fs_iload (i := 4) dd_X4_keep_6 rfl ?_
  refine fs_if_lt (tgt := 19) dd_X4_keep_8 (by decide) (fun hc => ?_) (fun hc => ?_)
  · replace H := H.1 hc
    exact fs_vret dd_X4_keep_19 rfl H
  · replace H := H.2 hc
    refine fs_iload (i := 4) dd_X4_keep_11 rfl ?_
    refine fs_sipush (n := 999) (v := 999) dd_X4_keep_13 (by decide) ?_
    refine fs_icmp_le (tgt := 20) dd_X4_keep_16 (by decide) (fun hc => ?_) (fun hc => ?_)
    · replace H := H.1 hc
      refine fs_aload_n (k0 := 0) (i := 0) dd_X4_keep_20 rfl rfl ?_
      refine fs_getr (ci := 4) (j := 1) (q := 49) dd_X4_keep_21 fl_X4_17 ca_47 rfl (Or.inr ⟨_, rfl⟩) rfl (by decide) ?_
      refine fs_iload (i := 4) dd_X4_keep_24 rfl ?_
      refine fs_iload_n (k0 := 2) (i := 2) dd_X4_keep_26 rfl rfl ?_
      have hb := H.1
      replace H := H.2
      refine fs_iast dd_X4_keep_27 ca_49 hb ?_
      refine fs_tops (fun s2 hs2 => ?_)
      replace H := H s2 hs2
      refine fs_aload_n (k0 := 0) (i := 0) dd_X4_keep_28 rfl rfl ?_
      refine fs_getr (ci := 4) (j := 2) (q := 50) dd_X4_keep_29 fl_X4_21 ca_47 rfl (Or.inr ⟨_, rfl⟩) rfl (by decide) ?_
      refine fs_iload (i := 4) dd_X4_keep_32 rfl ?_
      refine fs_aload_n (k0 := 3) (i := 3) dd_X4_keep_34 rfl rfl ?_
      refine fs_iconst (n := 0) (v := 0) dd_X4_keep_35 (by decide) ?_
      have hb := H.1
      replace H := H.2
      refine fs_iald dd_X4_keep_36 ha2 hb ?_
      have hb := H.1
      replace H := H.2
      refine fs_iast dd_X4_keep_37 ca_50 hb ?_
      refine fs_tops (fun s3 hs3 => ?_)
      replace H := H s3 hs3
      refine fs_aload_n (k0 := 0) (i := 0) dd_X4_keep_38 rfl rfl ?_
      refine fs_getr (ci := 4) (j := 3) (q := 51) dd_X4_keep_39 fl_X4_24 ca_47 rfl (Or.inr ⟨_, rfl⟩) rfl (by decide) ?_
      refine fs_iload (i := 4) dd_X4_keep_42 rfl ?_
      refine fs_aload_n (k0 := 3) (i := 3) dd_X4_keep_44 rfl rfl ?_
      refine fs_iconst (n := 1) (v := 1) dd_X4_keep_45 (by decide) ?_
      have hb := H.1
      replace H := H.2
      refine fs_iald dd_X4_keep_46 ha2 hb ?_
      have hb := H.1
      replace H := H.2
      refine fs_iast dd_X4_keep_47 ca_51 hb ?_
      refine fs_tops (fun s4 hs4 => ?_)
      replace H := H s4 hs4
      refine fs_aload_n (k0 := 1) (i := 1) dd_X4_keep_48 rfl rfl ?_
      refine fs_dup dd_X4_keep_49 rfl ?_
      refine fs_geti (ci := 10) (j := 6) dd_X4_keep_50 fl_X4_39 hw0 rfl (Or.inl rfl) ?_
      refine fs_iconst (n := 1) (v := 1) dd_X4_keep_53 (by decide) ?_
      refine fs_iadd dd_X4_keep_54 ?_
      refine fs_puti (ci := 10) (j := 6) dd_X4_keep_55 fl_X4_39 (fun _ _ _ h => by cases h; rfl) hw0 rfl (Or.inl rfl) ?_
      refine fs_tops (fun s5 hs5 => ?_)
      replace H := H s5 hs5
      exact fs_vret dd_X4_keep_58 rfl H
    · replace H := H.2 hc
      exact fs_vret dd_X4_keep_19 rfl H
theorem dd_X11_years_0 : decode m_X11_years.2.1 0 = .ok (.aload_n 0, 1) := by decide +kernel
theorem dd_X11_years_1 : decode m_X11_years.2.1 1 = .ok (.iload_n 1, 1) := by decide +kernel
theorem dd_X11_years_2 : decode m_X11_years.2.1 2 = .ok (.invokevirtual 325, 3) := by decide +kernel
theorem dd_X11_years_5 : decode m_X11_years.2.1 5 = .ok (.ifCond .eq 9, 3) := by decide +kernel
theorem dd_X11_years_8 : decode m_X11_years.2.1 8 = .ok (.aload_n 0, 1) := by decide +kernel
theorem dd_X11_years_9 : decode m_X11_years.2.1 9 = .ok (.iconst 3, 1) := by decide +kernel
theorem dd_X11_years_10 : decode m_X11_years.2.1 10 = .ok (.invokevirtual 118, 3) := by decide +kernel
theorem dd_X11_years_13 : decode m_X11_years.2.1 13 = .ok (.ireturn, 1) := by decide +kernel
theorem dd_X11_years_14 : decode m_X11_years.2.1 14 = .ok (.aload_n 0, 1) := by decide +kernel
theorem dd_X11_years_15 : decode m_X11_years.2.1 15 = .ok (.getfield 73, 3) := by decide +kernel
theorem dd_X11_years_18 : decode m_X11_years.2.1 18 = .ok (.aload_n 0, 1) := by decide +kernel
theorem dd_X11_years_19 : decode m_X11_years.2.1 19 = .ok (.getfield 63, 3) := by decide +kernel
theorem dd_X11_years_22 : decode m_X11_years.2.1 22 = .ok (.invokevirtual 319, 3) := by decide +kernel
theorem dd_X11_years_25 : decode m_X11_years.2.1 25 = .ok (.iconst 0, 1) := by decide +kernel
theorem dd_X11_years_26 : decode m_X11_years.2.1 26 = .ok (.istore_n 2, 1) := by decide +kernel
theorem dd_X11_years_27 : decode m_X11_years.2.1 27 = .ok (.iconst 0, 1) := by decide +kernel
theorem dd_X11_years_28 : decode m_X11_years.2.1 28 = .ok (.istore_n 3, 1) := by decide +kernel
theorem dd_X11_years_29 : decode m_X11_years.2.1 29 = .ok (.iload_n 3, 1) := by decide +kernel
theorem dd_X11_years_30 : decode m_X11_years.2.1 30 = .ok (.iload_n 1, 1) := by decide +kernel
theorem dd_X11_years_31 : decode m_X11_years.2.1 31 = .ok (.if_icmp .ge 65, 3) := by decide +kernel
theorem dd_X11_years_34 : decode m_X11_years.2.1 34 = .ok (.aload_n 0, 1) := by decide +kernel
theorem dd_X11_years_35 : decode m_X11_years.2.1 35 = .ok (.getfield 63, 3) := by decide +kernel
theorem dd_X11_years_38 : decode m_X11_years.2.1 38 = .ok (.getfield 165, 3) := by decide +kernel
theorem dd_X11_years_41 : decode m_X11_years.2.1 41 = .ok (.istore 4, 2) := by decide +kernel
theorem dd_X11_years_43 : decode m_X11_years.2.1 43 = .ok (.aload_n 0, 1) := by decide +kernel
theorem dd_X11_years_44 : decode m_X11_years.2.1 44 = .ok (.getfield 56, 3) := by decide +kernel
theorem dd_X11_years_47 : decode m_X11_years.2.1 47 = .ok (.aload_n 0, 1) := by decide +kernel
theorem dd_X11_years_48 : decode m_X11_years.2.1 48 = .ok (.getfield 63, 3) := by decide +kernel
theorem dd_X11_years_51 : decode m_X11_years.2.1 51 = .ok (.invokevirtual 255, 3) := by decide +kernel
theorem dd_X11_years_54 : decode m_X11_years.2.1 54 = .ok (.aload_n 0, 1) := by decide +kernel
theorem dd_X11_years_55 : decode m_X11_years.2.1 55 = .ok (.getfield 73, 3) := by decide +kernel
theorem dd_X11_years_58 : decode m_X11_years.2.1 58 = .ok (.aload_n 0, 1) := by decide +kernel
theorem dd_X11_years_59 : decode m_X11_years.2.1 59 = .ok (.getfield 63, 3) := by decide +kernel
theorem dd_X11_years_62 : decode m_X11_years.2.1 62 = .ok (.iload 4, 2) := by decide +kernel
theorem dd_X11_years_64 : decode m_X11_years.2.1 64 = .ok (.aload_n 0, 1) := by decide +kernel
theorem dd_X11_years_65 : decode m_X11_years.2.1 65 = .ok (.getfield 56, 3) := by decide +kernel
theorem dd_X11_years_68 : decode m_X11_years.2.1 68 = .ok (.getfield 328, 3) := by decide +kernel
theorem dd_X11_years_71 : decode m_X11_years.2.1 71 = .ok (.invokevirtual 331, 3) := by decide +kernel
theorem dd_X11_years_74 : decode m_X11_years.2.1 74 = .ok (.aload_n 0, 1) := by decide +kernel
theorem dd_X11_years_75 : decode m_X11_years.2.1 75 = .ok (.getfield 56, 3) := by decide +kernel
theorem dd_X11_years_78 : decode m_X11_years.2.1 78 = .ok (.getfield 328, 3) := by decide +kernel
theorem dd_X11_years_81 : decode m_X11_years.2.1 81 = .ok (.iconst 0, 1) := by decide +kernel
theorem dd_X11_years_82 : decode m_X11_years.2.1 82 = .ok (.iaload, 1) := by decide +kernel
theorem dd_X11_years_83 : decode m_X11_years.2.1 83 = .ok (.iconst (-1), 1) := by decide +kernel
theorem dd_X11_years_84 : decode m_X11_years.2.1 84 = .ok (.if_icmp .eq 6, 3) := by decide +kernel
theorem dd_X11_years_87 : decode m_X11_years.2.1 87 = .ok (.iinc 2 1, 3) := by decide +kernel
theorem dd_X11_years_90 : decode m_X11_years.2.1 90 = .ok (.iinc 3 1, 3) := by decide +kernel
theorem dd_X11_years_93 : decode m_X11_years.2.1 93 = .ok (.goto (-64), 3) := by decide +kernel
theorem dd_X11_years_96 : decode m_X11_years.2.1 96 = .ok (.iload_n 2, 1) := by decide +kernel
theorem dd_X11_years_97 : decode m_X11_years.2.1 97 = .ok (.ireturn, 1) := by decide +kernel
def nd_X11_years_29  (K29 : Int32 → Int32 → Int32 → fz_s → Prop) (Q : Int32 → fz_s → Prop) (v1 : Int32) (v2 : Int32) (v3 : Int32) (s : fz_s) : Prop :=
  ((v1 ≤ v3 → Q v2 s) ∧ (¬ v1 ≤ v3 → ∀ x1 : Int32, x1 = (s.1 35 5) → wp_X0_ordinaryYear 35 s (fun s3 => wp_X4_keep 35 x1 34 2 s3 (fun s5 => (((s5.1 34 (0 : Int32).toNatClampNeg) = (-1) → ∀ x6 : Int32, x6 = v3 + 1 → K29 v1 v2 x6 s5) ∧ (¬ (s5.1 34 (0 : Int32).toNatClampNeg) = (-1) → ∀ x7 : Int32, x7 = v2 + 1 → ∀ x8 : Int32, x8 = v3 + 1 → K29 v1 x7 x8 s5))))))
def lp_X11_years_29   (Q : Int32 → fz_s → Prop) : Nat → Int32 → Int32 → Int32 → fz_s → Prop
  | 0 => fun _ _ _ _ => False
  | n + 1 => nd_X11_years_29  (lp_X11_years_29   Q n) Q
def wp_X11_years (p0 : Int32) (s : fz_s) (Q : Int32 → fz_s → Prop) : Prop :=
  wp_X11_cannotPass p0 s (fun r1 s2 => ((r1 = false → wp_X4_remember 35 s2 (fun s4 => lp_X11_years_29   Q 2048 p0 0 0 s4)) ∧ (r1 = true → wp_X11_refuse 3 s2 (fun r5 s6 => Q r5 s6))))
set_option maxRecDepth 100000 in
set_option maxHeartbeats 4000000 in
theorem V_nd_X11_years_29 {g : fz_G} {l : Launch} {d : Nat} (hD : 7 ≤ d)   {K29 : Int32 → Int32 → Int32 → fz_s → Prop} {Q : Int32 → fz_s → Prop} {v1 : Int32} {v2 : Int32} {v3 : Int32} {s : fz_s} (hK29 : ∀ {v1 : Int32} {v2 : Int32} {v3 : Int32} {s : fz_s}, K29 v1 v2 v3 s → fs_V g l m_X11_years d true 29 [.ref 2, .int v1, .int v2, .int v3, fz_J] [] s (rI Q)) (H : nd_X11_years_29  K29 Q v1 v2 v3 s) : fs_V g l m_X11_years d true 29 [.ref 2, .int v1, .int v2, .int v3, fz_J] [] s (rI Q) := by
  obtain ⟨d, rfl⟩ : ∃ e, d = e + 1 := ⟨d - 1, by omega⟩
  unfold nd_X11_years_29 at H
  refine fs_iload_n (k0 := 3) (i := 3) dd_X11_years_29 rfl rfl ?_
  refine fs_iload_n (k0 := 1) (i := 1) dd_X11_years_30 rfl rfl ?_
  refine fs_icmp_ge (tgt := 96) dd_X11_years_31 (by decide) (fun hc => ?_) (fun hc => ?_)
  · replace H := H.1 hc
    refine fs_iload_n (k0 := 2) (i := 2) dd_X11_years_96 rfl rfl ?_
    exact fs_iret dd_X11_years_97 rfl H
  · replace H := H.2 hc
    refine fs_aload_n (k0 := 0) (i := 0) dd_X11_years_34 rfl rfl ?_
    refine fs_getr (ci := 11) (j := 8) (q := 35) dd_X11_years_35 fl_X11_63 ca_2 rfl (Or.inl ⟨_, rfl⟩) rfl (by decide) ?_
    refine fs_geti (ci := 10) (j := 5) dd_X11_years_38 fl_X11_165 ca_35 rfl (Or.inl rfl) ?_
    refine fs_topi (fun x1 hx1 => ?_)
    replace H := H x1 hx1
    refine fs_istore (i := 4) dd_X11_years_41 (by decide) ?_
    refine fs_aload_n (k0 := 0) (i := 0) dd_X11_years_43 rfl rfl ?_
    refine fs_getr (ci := 11) (j := 7) (q := 30) dd_X11_years_44 fl_X11_56 ca_2 rfl (Or.inl ⟨_, rfl⟩) rfl (by decide) ?_
    refine fs_aload_n (k0 := 0) (i := 0) dd_X11_years_47 rfl rfl ?_
    refine fs_getr (ci := 11) (j := 8) (q := 35) dd_X11_years_48 fl_X11_63 ca_2 rfl (Or.inl ⟨_, rfl⟩) rfl (by decide) ?_
    refine fs_callV (y := m_X0_ordinaryYear) (as := [.ref 35]) dd_X11_years_51 me_X0_ordinaryYear lk_X11_255 in_X0_ordinaryYear se_X0_ordinaryYear ca_30 rfl rfl rfl (Nat.le_of_ble_eq_true rfl) (Nat.le_of_ble_eq_true rfl) rfl (V_X0_ordinaryYear (by omega) ca_35 H) (k2_V fun s3 H => ?_)
    refine fs_aload_n (k0 := 0) (i := 0) dd_X11_years_54 rfl rfl ?_
    refine fs_getr (ci := 11) (j := 10) (q := 47) dd_X11_years_55 fl_X11_73 ca_2 rfl (Or.inl ⟨_, rfl⟩) rfl (by decide) ?_
    refine fs_aload_n (k0 := 0) (i := 0) dd_X11_years_58 rfl rfl ?_
    refine fs_getr (ci := 11) (j := 8) (q := 35) dd_X11_years_59 fl_X11_63 ca_2 rfl (Or.inl ⟨_, rfl⟩) rfl (by decide) ?_
    refine fs_iload (i := 4) dd_X11_years_62 rfl ?_
    refine fs_aload_n (k0 := 0) (i := 0) dd_X11_years_64 rfl rfl ?_
    refine fs_getr (ci := 11) (j := 7) (q := 30) dd_X11_years_65 fl_X11_56 ca_2 rfl (Or.inl ⟨_, rfl⟩) rfl (by decide) ?_
    refine fs_getr (ci := 0) (j := 2) (q := 34) dd_X11_years_68 fl_X11_328 ca_30 rfl (Or.inr ⟨_, rfl⟩) rfl (by decide) ?_
    refine fs_callV (y := m_X4_keep) (as := [.ref 35, .int x1, .ref 34]) dd_X11_years_71 me_X4_keep lk_X11_331 in_X4_keep se_X4_keep ca_47 rfl rfl rfl (Nat.le_of_ble_eq_true rfl) (Nat.le_of_ble_eq_true rfl) rfl (V_X4_keep (by omega) ca_35 ca_34 H) (k2_V fun s5 H => ?_)
    refine fs_aload_n (k0 := 0) (i := 0) dd_X11_years_74 rfl rfl ?_
    refine fs_getr (ci := 11) (j := 7) (q := 30) dd_X11_years_75 fl_X11_56 ca_2 rfl (Or.inl ⟨_, rfl⟩) rfl (by decide) ?_
    refine fs_getr (ci := 0) (j := 2) (q := 34) dd_X11_years_78 fl_X11_328 ca_30 rfl (Or.inr ⟨_, rfl⟩) rfl (by decide) ?_
    refine fs_iconst (n := 0) (v := 0) dd_X11_years_81 (by decide) ?_
    refine fs_iald dd_X11_years_82 ca_34 (vp_in_nI (n := 0) (by decide) (by decide)) ?_
    refine fs_iconst (n := -1) (v := -1) dd_X11_years_83 (by decide) ?_
    refine fs_icmp_eq (tgt := 90) dd_X11_years_84 (by decide) (fun hc => ?_) (fun hc => ?_)
    · replace H := H.1 hc
      refine fs_iincN (i := 3) (m := 1) (c := 1) dd_X11_years_90 rfl (by decide) (by decide) (fun x6 hx6 => ?_)
      replace H := H x6 hx6
      refine fs_goto (tgt := 29) dd_X11_years_93 (by decide) ?_
      refine fs_weak (ls2 := [.ref 2, .int v1, .int v2, .int x6, fz_J]) (fz_le_e (fz_le_e (fz_le_e (fz_le_e (fz_le_j fz_le_n))))) ?_
      exact hK29 H
    · replace H := H.2 hc
      refine fs_iincN (i := 2) (m := 1) (c := 1) dd_X11_years_87 rfl (by decide) (by decide) (fun x7 hx7 => ?_)
      replace H := H x7 hx7
      refine fs_iincN (i := 3) (m := 1) (c := 1) dd_X11_years_90 rfl (by decide) (by decide) (fun x8 hx8 => ?_)
      replace H := H x8 hx8
      refine fs_goto (tgt := 29) dd_X11_years_93 (by decide) ?_
      refine fs_weak (ls2 := [.ref 2, .int v1, .int x7, .int x8, fz_J]) (fz_le_e (fz_le_e (fz_le_e (fz_le_e (fz_le_j fz_le_n))))) ?_
      exact hK29 H
set_option maxRecDepth 100000 in
set_option maxHeartbeats 4000000 in
theorem V_lp_X11_years_29 {g : fz_G} {l : Launch} {d : Nat} (hD : 7 ≤ d)    {Q : Int32 → fz_s → Prop}  (n : Nat) : ∀ {v1 : Int32} {v2 : Int32} {v3 : Int32} {s : fz_s}, lp_X11_years_29   Q n v1 v2 v3 s → fs_V g l m_X11_years d true 29 [.ref 2, .int v1, .int v2, .int v3, fz_J] [] s (rI Q) := by
  induction n with
  | zero => intro v1 v2 v3 s H; exact H.elim
  | succ n ih => intro v1 v2 v3 s H; exact V_nd_X11_years_29 hD  (fun H => ih H) H
set_option maxRecDepth 100000 in
set_option maxHeartbeats 4000000 in
theorem V_X11_years {g : fz_G} {l : Launch} {d : Nat} (hD : 7 ≤ d) {p0 : Int32}  {s : fz_s} {Q : Int32 → fz_s → Prop} (H : wp_X11_years p0 s Q) : fs_V g l m_X11_years d true 0 (fz_en [.ref 2, .int p0] 5) [] s (rI Q) := by
  obtain ⟨d, rfl⟩ : ∃ e, d = e + 1 := ⟨d - 1, by omega⟩
  unfold wp_X11_years at H
  refine fs_aload_n (k0 := 0) (i := 0) dd_X11_years_0 rfl rfl ?_
  refine fs_iload_n (k0 := 1) (i := 1) dd_X11_years_1 rfl rfl ?_
  refine fs_callV (y := m_X11_cannotPass) (as := [.int p0]) dd_X11_years_2 me_X11_cannotPass lk_X11_325 in_X11_cannotPass se_X11_cannotPass ca_2 rfl rfl rfl (Nat.le_of_ble_eq_true rfl) (Nat.le_of_ble_eq_true rfl) rfl (V_X11_cannotPass (by omega)  H) (k2_Z fun r1 s2 H => ?_)
  refine fs_if_eq (tgt := 14) dd_X11_years_5 (by decide) (fun hc => ?_) (fun hc => ?_)
  · replace H := H.1 (bi_0 hc)
    refine fs_aload_n (k0 := 0) (i := 0) dd_X11_years_14 rfl rfl ?_
    refine fs_getr (ci := 11) (j := 10) (q := 47) dd_X11_years_15 fl_X11_73 ca_2 rfl (Or.inl ⟨_, rfl⟩) rfl (by decide) ?_
    refine fs_aload_n (k0 := 0) (i := 0) dd_X11_years_18 rfl rfl ?_
    refine fs_getr (ci := 11) (j := 8) (q := 35) dd_X11_years_19 fl_X11_63 ca_2 rfl (Or.inl ⟨_, rfl⟩) rfl (by decide) ?_
    refine fs_callV (y := m_X4_remember) (as := [.ref 35]) dd_X11_years_22 me_X4_remember lk_X11_319 in_X4_remember se_X4_remember ca_47 rfl rfl rfl (Nat.le_of_ble_eq_true rfl) (Nat.le_of_ble_eq_true rfl) rfl (V_X4_remember (by omega) ca_35 H) (k2_V fun s4 H => ?_)
    refine fs_iconst (n := 0) (v := 0) dd_X11_years_25 (by decide) ?_
    refine fs_istore_n (k0 := 2) (i := 2) dd_X11_years_26 rfl (by decide) ?_
    refine fs_iconst (n := 0) (v := 0) dd_X11_years_27 (by decide) ?_
    refine fs_istore_n (k0 := 3) (i := 3) dd_X11_years_28 rfl (by decide) ?_
    refine fs_weak (ls2 := [.ref 2, .int p0, .int 0, .int 0, fz_J]) (fz_le_e (fz_le_e (fz_le_e (fz_le_e (fz_le_j fz_le_n))))) ?_
    exact V_lp_X11_years_29 hD    2048 H
  · replace H := H.2 (bi_1 hc)
    refine fs_aload_n (k0 := 0) (i := 0) dd_X11_years_8 rfl rfl ?_
    refine fs_iconst (n := 3) (v := 3) dd_X11_years_9 (by decide) ?_
    refine fs_callV (y := m_X11_refuse) (as := [.int 3]) dd_X11_years_10 me_X11_refuse lk_X11_118 in_X11_refuse se_X11_refuse ca_2 rfl rfl rfl (Nat.le_of_ble_eq_true rfl) (Nat.le_of_ble_eq_true rfl) rfl (V_X11_refuse (by omega)  H) (k2_I fun r5 s6 H => ?_)
    exact fs_iret dd_X11_years_13 rfl H
theorem dd_X11_draw_0 : decode m_X11_draw.2.1 0 = .ok (.aload_n 0, 1) := by decide +kernel
theorem dd_X11_draw_1 : decode m_X11_draw.2.1 1 = .ok (.ldc2_w 344, 3) := by decide +kernel
theorem dd_X11_draw_4 : decode m_X11_draw.2.1 4 = .ok (.aload_n 0, 1) := by decide +kernel
theorem dd_X11_draw_5 : decode m_X11_draw.2.1 5 = .ok (.getfield 108, 3) := by decide +kernel
theorem dd_X11_draw_8 : decode m_X11_draw.2.1 8 = .ok (.i2l, 1) := by decide +kernel
theorem dd_X11_draw_9 : decode m_X11_draw.2.1 9 = .ok (.lmul, 1) := by decide +kernel
theorem dd_X11_draw_10 : decode m_X11_draw.2.1 10 = .ok (.ldc2_w 346, 3) := by decide +kernel
theorem dd_X11_draw_13 : decode m_X11_draw.2.1 13 = .ok (.ladd, 1) := by decide +kernel
theorem dd_X11_draw_14 : decode m_X11_draw.2.1 14 = .ok (.ldc2_w 348, 3) := by decide +kernel
theorem dd_X11_draw_17 : decode m_X11_draw.2.1 17 = .ok (.land, 1) := by decide +kernel
theorem dd_X11_draw_18 : decode m_X11_draw.2.1 18 = .ok (.l2i, 1) := by decide +kernel
theorem dd_X11_draw_19 : decode m_X11_draw.2.1 19 = .ok (.putfield 108, 3) := by decide +kernel
theorem dd_X11_draw_22 : decode m_X11_draw.2.1 22 = .ok (.iload_n 1, 1) := by decide +kernel
theorem dd_X11_draw_23 : decode m_X11_draw.2.1 23 = .ok (.ifCond .le 15, 3) := by decide +kernel
theorem dd_X11_draw_26 : decode m_X11_draw.2.1 26 = .ok (.aload_n 0, 1) := by decide +kernel
theorem dd_X11_draw_27 : decode m_X11_draw.2.1 27 = .ok (.getfield 108, 3) := by decide +kernel
theorem dd_X11_draw_30 : decode m_X11_draw.2.1 30 = .ok (.bipush 64, 2) := by decide +kernel
theorem dd_X11_draw_32 : decode m_X11_draw.2.1 32 = .ok (.idiv, 1) := by decide +kernel
theorem dd_X11_draw_33 : decode m_X11_draw.2.1 33 = .ok (.iload_n 1, 1) := by decide +kernel
theorem dd_X11_draw_34 : decode m_X11_draw.2.1 34 = .ok (.irem, 1) := by decide +kernel
theorem dd_X11_draw_35 : decode m_X11_draw.2.1 35 = .ok (.goto 4, 3) := by decide +kernel
theorem dd_X11_draw_38 : decode m_X11_draw.2.1 38 = .ok (.iconst 0, 1) := by decide +kernel
theorem dd_X11_draw_39 : decode m_X11_draw.2.1 39 = .ok (.ireturn, 1) := by decide +kernel
def wp_X11_draw (p0 : Int32) (s : fz_s) (Q : Int32 → fz_s → Prop) : Prop :=
  ∀ s1 : fz_s, s1 = si s 2 17 ((((1103515245 * ((s.1 2 17).toInt64)) + 12345) &&& 2147483647).toInt32) → ((p0 ≤ 0 → Q 0 s1) ∧ (¬ p0 ≤ 0 → (¬ p0 = 0) ∧ Q (((s1.1 2 17) / 64) - ((s1.1 2 17) / 64) / p0 * p0) s1))
set_option maxRecDepth 100000 in
set_option maxHeartbeats 4000000 in
theorem V_X11_draw {g : fz_G} {l : Launch} {d : Nat} (hD : 0 ≤ d) {p0 : Int32}  {s : fz_s} {Q : Int32 → fz_s → Prop} (H : wp_X11_draw p0 s Q) : fs_V g l m_X11_draw d true 0 (fz_en [.ref 2, .int p0] 2) [] s (rI Q) := by
  unfold wp_X11_draw at H
  refine fs_aload_n (k0 := 0) (i := 0) dd_X11_draw_0 rfl rfl ?_
  refine fs_ldc2 (idx := 344) (v := 1103515245) dd_X11_draw_1 cl_X11_344 ?_
  refine fs_aload_n (k0 := 0) (i := 0) dd_X11_draw_4 rfl rfl ?_
  refine fs_geti (ci := 11) (j := 17) dd_X11_draw_5 fl_X11_108 ca_2 rfl (Or.inl rfl) ?_
  refine fs_i2l dd_X11_draw_8 ?_
  refine fs_lmul dd_X11_draw_9 ?_
  refine fs_ldc2 (idx := 346) (v := 12345) dd_X11_draw_10 cl_X11_346 ?_
  refine fs_ladd dd_X11_draw_13 ?_
  refine fs_ldc2 (idx := 348) (v := 2147483647) dd_X11_draw_14 cl_X11_348 ?_
  refine fs_land dd_X11_draw_17 ?_
  refine fs_l2i dd_X11_draw_18 ?_
  refine fs_puti (ci := 11) (j := 17) dd_X11_draw_19 fl_X11_108 (fun _ _ _ h => by cases h; rfl) ca_2 rfl (Or.inl rfl) ?_
  refine fs_tops (fun s1 hs1 => ?_)
  replace H := H s1 hs1
  refine fs_iload_n (k0 := 1) (i := 1) dd_X11_draw_22 rfl rfl ?_
  refine fs_if_le (tgt := 38) dd_X11_draw_23 (by decide) (fun hc => ?_) (fun hc => ?_)
  · replace H := H.1 hc
    refine fs_iconst (n := 0) (v := 0) dd_X11_draw_38 (by decide) ?_
    exact fs_iret dd_X11_draw_39 rfl H
  · replace H := H.2 hc
    refine fs_aload_n (k0 := 0) (i := 0) dd_X11_draw_26 rfl rfl ?_
    refine fs_geti (ci := 11) (j := 17) dd_X11_draw_27 fl_X11_108 ca_2 rfl (Or.inl rfl) ?_
    refine fs_bipush (n := 64) (v := 64) dd_X11_draw_30 (by decide) ?_
    refine fs_idiv dd_X11_draw_32 (by decide) ?_
    refine fs_iload_n (k0 := 1) (i := 1) dd_X11_draw_33 rfl rfl ?_
    have hz := H.1
    replace H := H.2
    refine fs_irem dd_X11_draw_34 hz ?_
    refine fs_goto (tgt := 39) dd_X11_draw_35 (by decide) ?_
    exact fs_iret dd_X11_draw_39 rfl H
theorem dd_X0_snowyYear_0 : decode m_X0_snowyYear.2.1 0 = .ok (.aload_n 0, 1) := by decide +kernel
theorem dd_X0_snowyYear_1 : decode m_X0_snowyYear.2.1 1 = .ok (.invokevirtual 105, 3) := by decide +kernel
theorem dd_X0_snowyYear_4 : decode m_X0_snowyYear.2.1 4 = .ok (.aload_n 0, 1) := by decide +kernel
theorem dd_X0_snowyYear_5 : decode m_X0_snowyYear.2.1 5 = .ok (.aload_n 1, 1) := by decide +kernel
theorem dd_X0_snowyYear_6 : decode m_X0_snowyYear.2.1 6 = .ok (.invokevirtual 96, 3) := by decide +kernel
theorem dd_X0_snowyYear_9 : decode m_X0_snowyYear.2.1 9 = .ok (.aload_n 1, 1) := by decide +kernel
theorem dd_X0_snowyYear_10 : decode m_X0_snowyYear.2.1 10 = .ok (.invokestatic 102, 3) := by decide +kernel
theorem dd_X0_snowyYear_13 : decode m_X0_snowyYear.2.1 13 = .ok (.return_, 1) := by decide +kernel
def wp_X0_snowyYear (w0 : Nat) (s : fz_s) (Q : fz_s → Prop) : Prop :=
  wp_X0_sendNobody  s (fun s2 => wp_X0_summer w0 s2 (fun s4 => wp_X0_turn w0 s4 (fun s6 => Q s6)))
set_option maxRecDepth 100000 in
set_option maxHeartbeats 4000000 in
theorem V_X0_snowyYear {g : fz_G} {l : Launch} {d : Nat} (hD : 6 ≤ d) {w0 : Nat} (hw0 : fz_at true w0 10 7) {s : fz_s} {Q : fz_s → Prop} (H : wp_X0_snowyYear w0 s Q) : fs_V g l m_X0_snowyYear d true 0 (fz_en [.ref 30, .ref w0] 2) [] s (rV Q) := by
  obtain ⟨d, rfl⟩ : ∃ e, d = e + 1 := ⟨d - 1, by omega⟩
  unfold wp_X0_snowyYear at H
  refine fs_aload_n (k0 := 0) (i := 0) dd_X0_snowyYear_0 rfl rfl ?_
  refine fs_callV (y := m_X0_sendNobody) (as := []) dd_X0_snowyYear_1 me_X0_sendNobody lk_X0_105 in_X0_sendNobody se_X0_sendNobody ca_30 rfl rfl rfl (Nat.le_of_ble_eq_true rfl) (Nat.le_of_ble_eq_true rfl) rfl (V_X0_sendNobody (by omega)  H) (k2_V fun s2 H => ?_)
  refine fs_aload_n (k0 := 0) (i := 0) dd_X0_snowyYear_4 rfl rfl ?_
  refine fs_aload_n (k0 := 1) (i := 1) dd_X0_snowyYear_5 rfl rfl ?_
  refine fs_callV (y := m_X0_summer) (as := [.ref w0]) dd_X0_snowyYear_6 me_X0_summer lk_X0_96 in_X0_summer se_X0_summer ca_30 rfl rfl rfl (Nat.le_of_ble_eq_true rfl) (Nat.le_of_ble_eq_true rfl) rfl (V_X0_summer (by omega) hw0 H) (k2_V fun s4 H => ?_)
  refine fs_aload_n (k0 := 1) (i := 1) dd_X0_snowyYear_9 rfl rfl ?_
  refine fs_callS (y := m_X0_turn) (as := [.ref w0]) dd_X0_snowyYear_10 me_X0_turn (Or.inl lk_X0_102) st_X0_turn rfl (Nat.le_of_ble_eq_true rfl) (Nat.le_of_ble_eq_true rfl) rfl (V_X0_turn (by omega) hw0 H) (k2_V fun s6 H => ?_)
  exact fs_vret dd_X0_snowyYear_13 rfl H
theorem dd_X11_chance_0 : decode m_X11_chance.2.1 0 = .ok (.aload_n 0, 1) := by decide +kernel
theorem dd_X11_chance_1 : decode m_X11_chance.2.1 1 = .ok (.iload_n 1, 1) := by decide +kernel
theorem dd_X11_chance_2 : decode m_X11_chance.2.1 2 = .ok (.invokevirtual 325, 3) := by decide +kernel
theorem dd_X11_chance_5 : decode m_X11_chance.2.1 5 = .ok (.ifCond .eq 9, 3) := by decide +kernel
theorem dd_X11_chance_8 : decode m_X11_chance.2.1 8 = .ok (.aload_n 0, 1) := by decide +kernel
theorem dd_X11_chance_9 : decode m_X11_chance.2.1 9 = .ok (.iconst 3, 1) := by decide +kernel
theorem dd_X11_chance_10 : decode m_X11_chance.2.1 10 = .ok (.invokevirtual 118, 3) := by decide +kernel
theorem dd_X11_chance_13 : decode m_X11_chance.2.1 13 = .ok (.ireturn, 1) := by decide +kernel
theorem dd_X11_chance_14 : decode m_X11_chance.2.1 14 = .ok (.aload_n 0, 1) := by decide +kernel
theorem dd_X11_chance_15 : decode m_X11_chance.2.1 15 = .ok (.getfield 73, 3) := by decide +kernel
theorem dd_X11_chance_18 : decode m_X11_chance.2.1 18 = .ok (.aload_n 0, 1) := by decide +kernel
theorem dd_X11_chance_19 : decode m_X11_chance.2.1 19 = .ok (.getfield 63, 3) := by decide +kernel
theorem dd_X11_chance_22 : decode m_X11_chance.2.1 22 = .ok (.invokevirtual 319, 3) := by decide +kernel
theorem dd_X11_chance_25 : decode m_X11_chance.2.1 25 = .ok (.iconst 0, 1) := by decide +kernel
theorem dd_X11_chance_26 : decode m_X11_chance.2.1 26 = .ok (.istore_n 2, 1) := by decide +kernel
theorem dd_X11_chance_27 : decode m_X11_chance.2.1 27 = .ok (.iconst 0, 1) := by decide +kernel
theorem dd_X11_chance_28 : decode m_X11_chance.2.1 28 = .ok (.istore_n 3, 1) := by decide +kernel
theorem dd_X11_chance_29 : decode m_X11_chance.2.1 29 = .ok (.iload_n 3, 1) := by decide +kernel
theorem dd_X11_chance_30 : decode m_X11_chance.2.1 30 = .ok (.iload_n 1, 1) := by decide +kernel
theorem dd_X11_chance_31 : decode m_X11_chance.2.1 31 = .ok (.if_icmp .ge 82, 3) := by decide +kernel
theorem dd_X11_chance_34 : decode m_X11_chance.2.1 34 = .ok (.aload_n 0, 1) := by decide +kernel
theorem dd_X11_chance_35 : decode m_X11_chance.2.1 35 = .ok (.getfield 63, 3) := by decide +kernel
theorem dd_X11_chance_38 : decode m_X11_chance.2.1 38 = .ok (.getfield 165, 3) := by decide +kernel
theorem dd_X11_chance_41 : decode m_X11_chance.2.1 41 = .ok (.istore 4, 2) := by decide +kernel
theorem dd_X11_chance_43 : decode m_X11_chance.2.1 43 = .ok (.aload_n 0, 1) := by decide +kernel
theorem dd_X11_chance_44 : decode m_X11_chance.2.1 44 = .ok (.bipush 100, 2) := by decide +kernel
theorem dd_X11_chance_46 : decode m_X11_chance.2.1 46 = .ok (.invokevirtual 335, 3) := by decide +kernel
theorem dd_X11_chance_49 : decode m_X11_chance.2.1 49 = .ok (.aload_n 0, 1) := by decide +kernel
theorem dd_X11_chance_50 : decode m_X11_chance.2.1 50 = .ok (.getfield 34, 3) := by decide +kernel
theorem dd_X11_chance_53 : decode m_X11_chance.2.1 53 = .ok (.getfield 338, 3) := by decide +kernel
theorem dd_X11_chance_56 : decode m_X11_chance.2.1 56 = .ok (.if_icmp .ge 20, 3) := by decide +kernel
theorem dd_X11_chance_59 : decode m_X11_chance.2.1 59 = .ok (.aload_n 0, 1) := by decide +kernel
theorem dd_X11_chance_60 : decode m_X11_chance.2.1 60 = .ok (.getfield 56, 3) := by decide +kernel
theorem dd_X11_chance_63 : decode m_X11_chance.2.1 63 = .ok (.aload_n 0, 1) := by decide +kernel
theorem dd_X11_chance_64 : decode m_X11_chance.2.1 64 = .ok (.getfield 63, 3) := by decide +kernel
theorem dd_X11_chance_67 : decode m_X11_chance.2.1 67 = .ok (.invokevirtual 341, 3) := by decide +kernel
theorem dd_X11_chance_70 : decode m_X11_chance.2.1 70 = .ok (.iinc 2 1, 3) := by decide +kernel
theorem dd_X11_chance_73 : decode m_X11_chance.2.1 73 = .ok (.goto 14, 3) := by decide +kernel
theorem dd_X11_chance_76 : decode m_X11_chance.2.1 76 = .ok (.aload_n 0, 1) := by decide +kernel
theorem dd_X11_chance_77 : decode m_X11_chance.2.1 77 = .ok (.getfield 56, 3) := by decide +kernel
theorem dd_X11_chance_80 : decode m_X11_chance.2.1 80 = .ok (.aload_n 0, 1) := by decide +kernel
theorem dd_X11_chance_81 : decode m_X11_chance.2.1 81 = .ok (.getfield 63, 3) := by decide +kernel
theorem dd_X11_chance_84 : decode m_X11_chance.2.1 84 = .ok (.invokevirtual 255, 3) := by decide +kernel
theorem dd_X11_chance_87 : decode m_X11_chance.2.1 87 = .ok (.aload_n 0, 1) := by decide +kernel
theorem dd_X11_chance_88 : decode m_X11_chance.2.1 88 = .ok (.getfield 73, 3) := by decide +kernel
theorem dd_X11_chance_91 : decode m_X11_chance.2.1 91 = .ok (.aload_n 0, 1) := by decide +kernel
theorem dd_X11_chance_92 : decode m_X11_chance.2.1 92 = .ok (.getfield 63, 3) := by decide +kernel
theorem dd_X11_chance_95 : decode m_X11_chance.2.1 95 = .ok (.iload 4, 2) := by decide +kernel
theorem dd_X11_chance_97 : decode m_X11_chance.2.1 97 = .ok (.aload_n 0, 1) := by decide +kernel
theorem dd_X11_chance_98 : decode m_X11_chance.2.1 98 = .ok (.getfield 56, 3) := by decide +kernel
theorem dd_X11_chance_101 : decode m_X11_chance.2.1 101 = .ok (.getfield 328, 3) := by decide +kernel
theorem dd_X11_chance_104 : decode m_X11_chance.2.1 104 = .ok (.invokevirtual 331, 3) := by decide +kernel
theorem dd_X11_chance_107 : decode m_X11_chance.2.1 107 = .ok (.iinc 3 1, 3) := by decide +kernel
theorem dd_X11_chance_110 : decode m_X11_chance.2.1 110 = .ok (.goto (-81), 3) := by decide +kernel
theorem dd_X11_chance_113 : decode m_X11_chance.2.1 113 = .ok (.iload_n 2, 1) := by decide +kernel
theorem dd_X11_chance_114 : decode m_X11_chance.2.1 114 = .ok (.ireturn, 1) := by decide +kernel
def nd_X11_chance_87  (K29 : Int32 → Int32 → Int32 → fz_s → Prop) (Q : Int32 → fz_s → Prop) (v1 : Int32) (v2 : Int32) (v3 : Int32) (v4 : Int32) (s : fz_s) : Prop :=
  wp_X4_keep 35 v4 34 2 s (fun s2 => ∀ x3 : Int32, x3 = v3 + 1 → K29 v1 v2 x3 s2)
def nd_X11_chance_29  (K29 : Int32 → Int32 → Int32 → fz_s → Prop) (Q : Int32 → fz_s → Prop) (v1 : Int32) (v2 : Int32) (v3 : Int32) (s : fz_s) : Prop :=
  ((v1 ≤ v3 → Q v2 s) ∧ (¬ v1 ≤ v3 → ∀ x1 : Int32, x1 = (s.1 35 5) → wp_X11_draw 100 s (fun r2 s3 => (((s3.1 6 14) ≤ r2 → wp_X0_ordinaryYear 35 s3 (fun s5 => nd_X11_chance_87  K29 Q v1 v2 v3 x1 s5)) ∧ (¬ (s3.1 6 14) ≤ r2 → wp_X0_snowyYear 35 s3 (fun s7 => ∀ x8 : Int32, x8 = v2 + 1 → nd_X11_chance_87  K29 Q v1 x8 v3 x1 s7))))))
def lp_X11_chance_29   (Q : Int32 → fz_s → Prop) : Nat → Int32 → Int32 → Int32 → fz_s → Prop
  | 0 => fun _ _ _ _ => False
  | n + 1 => nd_X11_chance_29  (lp_X11_chance_29   Q n) Q
def wp_X11_chance (p0 : Int32) (s : fz_s) (Q : Int32 → fz_s → Prop) : Prop :=
  wp_X11_cannotPass p0 s (fun r1 s2 => ((r1 = false → wp_X4_remember 35 s2 (fun s4 => lp_X11_chance_29   Q 2048 p0 0 0 s4)) ∧ (r1 = true → wp_X11_refuse 3 s2 (fun r5 s6 => Q r5 s6))))
set_option maxRecDepth 100000 in
set_option maxHeartbeats 4000000 in
theorem V_nd_X11_chance_87 {g : fz_G} {l : Launch} {d : Nat} (hD : 7 ≤ d)   {K29 : Int32 → Int32 → Int32 → fz_s → Prop} {Q : Int32 → fz_s → Prop} {v1 : Int32} {v2 : Int32} {v3 : Int32} {v4 : Int32} {s : fz_s} (hK29 : ∀ {v1 : Int32} {v2 : Int32} {v3 : Int32} {s : fz_s}, K29 v1 v2 v3 s → fs_V g l m_X11_chance d true 29 [.ref 2, .int v1, .int v2, .int v3, fz_J] [] s (rI Q)) (H : nd_X11_chance_87  K29 Q v1 v2 v3 v4 s) : fs_V g l m_X11_chance d true 87 [.ref 2, .int v1, .int v2, .int v3, .int v4] [] s (rI Q) := by
  obtain ⟨d, rfl⟩ : ∃ e, d = e + 1 := ⟨d - 1, by omega⟩
  unfold nd_X11_chance_87 at H
  refine fs_aload_n (k0 := 0) (i := 0) dd_X11_chance_87 rfl rfl ?_
  refine fs_getr (ci := 11) (j := 10) (q := 47) dd_X11_chance_88 fl_X11_73 ca_2 rfl (Or.inl ⟨_, rfl⟩) rfl (by decide) ?_
  refine fs_aload_n (k0 := 0) (i := 0) dd_X11_chance_91 rfl rfl ?_
  refine fs_getr (ci := 11) (j := 8) (q := 35) dd_X11_chance_92 fl_X11_63 ca_2 rfl (Or.inl ⟨_, rfl⟩) rfl (by decide) ?_
  refine fs_iload (i := 4) dd_X11_chance_95 rfl ?_
  refine fs_aload_n (k0 := 0) (i := 0) dd_X11_chance_97 rfl rfl ?_
  refine fs_getr (ci := 11) (j := 7) (q := 30) dd_X11_chance_98 fl_X11_56 ca_2 rfl (Or.inl ⟨_, rfl⟩) rfl (by decide) ?_
  refine fs_getr (ci := 0) (j := 2) (q := 34) dd_X11_chance_101 fl_X11_328 ca_30 rfl (Or.inr ⟨_, rfl⟩) rfl (by decide) ?_
  refine fs_callV (y := m_X4_keep) (as := [.ref 35, .int v4, .ref 34]) dd_X11_chance_104 me_X4_keep lk_X11_331 in_X4_keep se_X4_keep ca_47 rfl rfl rfl (Nat.le_of_ble_eq_true rfl) (Nat.le_of_ble_eq_true rfl) rfl (V_X4_keep (by omega) ca_35 ca_34 H) (k2_V fun s2 H => ?_)
  refine fs_iincN (i := 3) (m := 1) (c := 1) dd_X11_chance_107 rfl (by decide) (by decide) (fun x3 hx3 => ?_)
  replace H := H x3 hx3
  refine fs_goto (tgt := 29) dd_X11_chance_110 (by decide) ?_
  refine fs_weak (ls2 := [.ref 2, .int v1, .int v2, .int x3, fz_J]) (fz_le_e (fz_le_e (fz_le_e (fz_le_e (fz_le_j fz_le_n))))) ?_
  exact hK29 H
set_option maxRecDepth 100000 in
set_option maxHeartbeats 4000000 in
theorem V_nd_X11_chance_29 {g : fz_G} {l : Launch} {d : Nat} (hD : 7 ≤ d)   {K29 : Int32 → Int32 → Int32 → fz_s → Prop} {Q : Int32 → fz_s → Prop} {v1 : Int32} {v2 : Int32} {v3 : Int32} {s : fz_s} (hK29 : ∀ {v1 : Int32} {v2 : Int32} {v3 : Int32} {s : fz_s}, K29 v1 v2 v3 s → fs_V g l m_X11_chance d true 29 [.ref 2, .int v1, .int v2, .int v3, fz_J] [] s (rI Q)) (H : nd_X11_chance_29  K29 Q v1 v2 v3 s) : fs_V g l m_X11_chance d true 29 [.ref 2, .int v1, .int v2, .int v3, fz_J] [] s (rI Q) := by
  obtain ⟨d, rfl⟩ : ∃ e, d = e + 1 := ⟨d - 1, by omega⟩
  unfold nd_X11_chance_29 at H
  refine fs_iload_n (k0 := 3) (i := 3) dd_X11_chance_29 rfl rfl ?_
  refine fs_iload_n (k0 := 1) (i := 1) dd_X11_chance_30 rfl rfl ?_
  refine fs_icmp_ge (tgt := 113) dd_X11_chance_31 (by decide) (fun hc => ?_) (fun hc => ?_)
  · replace H := H.1 hc
    refine fs_iload_n (k0 := 2) (i := 2) dd_X11_chance_113 rfl rfl ?_
    exact fs_iret dd_X11_chance_114 rfl H
  · replace H := H.2 hc
    refine fs_aload_n (k0 := 0) (i := 0) dd_X11_chance_34 rfl rfl ?_
    refine fs_getr (ci := 11) (j := 8) (q := 35) dd_X11_chance_35 fl_X11_63 ca_2 rfl (Or.inl ⟨_, rfl⟩) rfl (by decide) ?_
    refine fs_geti (ci := 10) (j := 5) dd_X11_chance_38 fl_X11_165 ca_35 rfl (Or.inl rfl) ?_
    refine fs_topi (fun x1 hx1 => ?_)
    replace H := H x1 hx1
    refine fs_istore (i := 4) dd_X11_chance_41 (by decide) ?_
    refine fs_aload_n (k0 := 0) (i := 0) dd_X11_chance_43 rfl rfl ?_
    refine fs_bipush (n := 100) (v := 100) dd_X11_chance_44 (by decide) ?_
    refine fs_callV (y := m_X11_draw) (as := [.int 100]) dd_X11_chance_46 me_X11_draw lk_X11_335 in_X11_draw se_X11_draw ca_2 rfl rfl rfl (Nat.le_of_ble_eq_true rfl) (Nat.le_of_ble_eq_true rfl) rfl (V_X11_draw (by omega)  H) (k2_I fun r2 s3 H => ?_)
    refine fs_aload_n (k0 := 0) (i := 0) dd_X11_chance_49 rfl rfl ?_
    refine fs_getr (ci := 11) (j := 4) (q := 6) dd_X11_chance_50 fl_X11_34 ca_2 rfl (Or.inl ⟨_, rfl⟩) rfl (by decide) ?_
    refine fs_geti (ci := 9) (j := 14) dd_X11_chance_53 fl_X11_338 ca_6 rfl (Or.inl rfl) ?_
    refine fs_icmp_ge (tgt := 76) dd_X11_chance_56 (by decide) (fun hc => ?_) (fun hc => ?_)
    · replace H := H.1 hc
      refine fs_aload_n (k0 := 0) (i := 0) dd_X11_chance_76 rfl rfl ?_
      refine fs_getr (ci := 11) (j := 7) (q := 30) dd_X11_chance_77 fl_X11_56 ca_2 rfl (Or.inl ⟨_, rfl⟩) rfl (by decide) ?_
      refine fs_aload_n (k0 := 0) (i := 0) dd_X11_chance_80 rfl rfl ?_
      refine fs_getr (ci := 11) (j := 8) (q := 35) dd_X11_chance_81 fl_X11_63 ca_2 rfl (Or.inl ⟨_, rfl⟩) rfl (by decide) ?_
      refine fs_callV (y := m_X0_ordinaryYear) (as := [.ref 35]) dd_X11_chance_84 me_X0_ordinaryYear lk_X11_255 in_X0_ordinaryYear se_X0_ordinaryYear ca_30 rfl rfl rfl (Nat.le_of_ble_eq_true rfl) (Nat.le_of_ble_eq_true rfl) rfl (V_X0_ordinaryYear (by omega) ca_35 H) (k2_V fun s5 H => ?_)
      refine fs_weak (ls2 := [.ref 2, .int v1, .int v2, .int v3, .int x1]) (fz_le_e (fz_le_e (fz_le_e (fz_le_e (fz_le_e fz_le_n))))) ?_
      exact V_nd_X11_chance_87 hD   hK29 H
    · replace H := H.2 hc
      refine fs_aload_n (k0 := 0) (i := 0) dd_X11_chance_59 rfl rfl ?_
      refine fs_getr (ci := 11) (j := 7) (q := 30) dd_X11_chance_60 fl_X11_56 ca_2 rfl (Or.inl ⟨_, rfl⟩) rfl (by decide) ?_
      refine fs_aload_n (k0 := 0) (i := 0) dd_X11_chance_63 rfl rfl ?_
      refine fs_getr (ci := 11) (j := 8) (q := 35) dd_X11_chance_64 fl_X11_63 ca_2 rfl (Or.inl ⟨_, rfl⟩) rfl (by decide) ?_
      refine fs_callV (y := m_X0_snowyYear) (as := [.ref 35]) dd_X11_chance_67 me_X0_snowyYear lk_X11_341 in_X0_snowyYear se_X0_snowyYear ca_30 rfl rfl rfl (Nat.le_of_ble_eq_true rfl) (Nat.le_of_ble_eq_true rfl) rfl (V_X0_snowyYear (by omega) ca_35 H) (k2_V fun s7 H => ?_)
      refine fs_iincN (i := 2) (m := 1) (c := 1) dd_X11_chance_70 rfl (by decide) (by decide) (fun x8 hx8 => ?_)
      replace H := H x8 hx8
      refine fs_goto (tgt := 87) dd_X11_chance_73 (by decide) ?_
      refine fs_weak (ls2 := [.ref 2, .int v1, .int x8, .int v3, .int x1]) (fz_le_e (fz_le_e (fz_le_e (fz_le_e (fz_le_e fz_le_n))))) ?_
      exact V_nd_X11_chance_87 hD   hK29 H
set_option maxRecDepth 100000 in
set_option maxHeartbeats 4000000 in
theorem V_lp_X11_chance_29 {g : fz_G} {l : Launch} {d : Nat} (hD : 7 ≤ d)    {Q : Int32 → fz_s → Prop}  (n : Nat) : ∀ {v1 : Int32} {v2 : Int32} {v3 : Int32} {s : fz_s}, lp_X11_chance_29   Q n v1 v2 v3 s → fs_V g l m_X11_chance d true 29 [.ref 2, .int v1, .int v2, .int v3, fz_J] [] s (rI Q) := by
  induction n with
  | zero => intro v1 v2 v3 s H; exact H.elim
  | succ n ih => intro v1 v2 v3 s H; exact V_nd_X11_chance_29 hD  (fun H => ih H) H
set_option maxRecDepth 100000 in
set_option maxHeartbeats 4000000 in
theorem V_X11_chance {g : fz_G} {l : Launch} {d : Nat} (hD : 7 ≤ d) {p0 : Int32}  {s : fz_s} {Q : Int32 → fz_s → Prop} (H : wp_X11_chance p0 s Q) : fs_V g l m_X11_chance d true 0 (fz_en [.ref 2, .int p0] 5) [] s (rI Q) := by
  obtain ⟨d, rfl⟩ : ∃ e, d = e + 1 := ⟨d - 1, by omega⟩
  unfold wp_X11_chance at H
  refine fs_aload_n (k0 := 0) (i := 0) dd_X11_chance_0 rfl rfl ?_
  refine fs_iload_n (k0 := 1) (i := 1) dd_X11_chance_1 rfl rfl ?_
  refine fs_callV (y := m_X11_cannotPass) (as := [.int p0]) dd_X11_chance_2 me_X11_cannotPass lk_X11_325 in_X11_cannotPass se_X11_cannotPass ca_2 rfl rfl rfl (Nat.le_of_ble_eq_true rfl) (Nat.le_of_ble_eq_true rfl) rfl (V_X11_cannotPass (by omega)  H) (k2_Z fun r1 s2 H => ?_)
  refine fs_if_eq (tgt := 14) dd_X11_chance_5 (by decide) (fun hc => ?_) (fun hc => ?_)
  · replace H := H.1 (bi_0 hc)
    refine fs_aload_n (k0 := 0) (i := 0) dd_X11_chance_14 rfl rfl ?_
    refine fs_getr (ci := 11) (j := 10) (q := 47) dd_X11_chance_15 fl_X11_73 ca_2 rfl (Or.inl ⟨_, rfl⟩) rfl (by decide) ?_
    refine fs_aload_n (k0 := 0) (i := 0) dd_X11_chance_18 rfl rfl ?_
    refine fs_getr (ci := 11) (j := 8) (q := 35) dd_X11_chance_19 fl_X11_63 ca_2 rfl (Or.inl ⟨_, rfl⟩) rfl (by decide) ?_
    refine fs_callV (y := m_X4_remember) (as := [.ref 35]) dd_X11_chance_22 me_X4_remember lk_X11_319 in_X4_remember se_X4_remember ca_47 rfl rfl rfl (Nat.le_of_ble_eq_true rfl) (Nat.le_of_ble_eq_true rfl) rfl (V_X4_remember (by omega) ca_35 H) (k2_V fun s4 H => ?_)
    refine fs_iconst (n := 0) (v := 0) dd_X11_chance_25 (by decide) ?_
    refine fs_istore_n (k0 := 2) (i := 2) dd_X11_chance_26 rfl (by decide) ?_
    refine fs_iconst (n := 0) (v := 0) dd_X11_chance_27 (by decide) ?_
    refine fs_istore_n (k0 := 3) (i := 3) dd_X11_chance_28 rfl (by decide) ?_
    refine fs_weak (ls2 := [.ref 2, .int p0, .int 0, .int 0, fz_J]) (fz_le_e (fz_le_e (fz_le_e (fz_le_e (fz_le_j fz_le_n))))) ?_
    exact V_lp_X11_chance_29 hD    2048 H
  · replace H := H.2 (bi_1 hc)
    refine fs_aload_n (k0 := 0) (i := 0) dd_X11_chance_8 rfl rfl ?_
    refine fs_iconst (n := 3) (v := 3) dd_X11_chance_9 (by decide) ?_
    refine fs_callV (y := m_X11_refuse) (as := [.int 3]) dd_X11_chance_10 me_X11_refuse lk_X11_118 in_X11_refuse se_X11_refuse ca_2 rfl rfl rfl (Nat.le_of_ble_eq_true rfl) (Nat.le_of_ble_eq_true rfl) rfl (V_X11_refuse (by omega)  H) (k2_I fun r5 s6 H => ?_)
    exact fs_iret dd_X11_chance_13 rfl H
theorem dd_X4_recall_0 : decode m_X4_recall.2.1 0 = .ok (.aload_n 0, 1) := by decide +kernel
theorem dd_X4_recall_1 : decode m_X4_recall.2.1 1 = .ok (.getfield 28, 3) := by decide +kernel
theorem dd_X4_recall_4 : decode m_X4_recall.2.1 4 = .ok (.iconst 1, 1) := by decide +kernel
theorem dd_X4_recall_5 : decode m_X4_recall.2.1 5 = .ok (.if_icmp .ge 5, 3) := by decide +kernel
theorem dd_X4_recall_8 : decode m_X4_recall.2.1 8 = .ok (.iconst 0, 1) := by decide +kernel
theorem dd_X4_recall_9 : decode m_X4_recall.2.1 9 = .ok (.ireturn, 1) := by decide +kernel
theorem dd_X4_recall_10 : decode m_X4_recall.2.1 10 = .ok (.aload_n 0, 1) := by decide +kernel
theorem dd_X4_recall_11 : decode m_X4_recall.2.1 11 = .ok (.dup, 1) := by decide +kernel
theorem dd_X4_recall_12 : decode m_X4_recall.2.1 12 = .ok (.getfield 28, 3) := by decide +kernel
theorem dd_X4_recall_15 : decode m_X4_recall.2.1 15 = .ok (.iconst 1, 1) := by decide +kernel
theorem dd_X4_recall_16 : decode m_X4_recall.2.1 16 = .ok (.isub, 1) := by decide +kernel
theorem dd_X4_recall_17 : decode m_X4_recall.2.1 17 = .ok (.putfield 28, 3) := by decide +kernel
theorem dd_X4_recall_20 : decode m_X4_recall.2.1 20 = .ok (.aload_n 1, 1) := by decide +kernel
theorem dd_X4_recall_21 : decode m_X4_recall.2.1 21 = .ok (.aload_n 0, 1) := by decide +kernel
theorem dd_X4_recall_22 : decode m_X4_recall.2.1 22 = .ok (.getfield 11, 3) := by decide +kernel
theorem dd_X4_recall_25 : decode m_X4_recall.2.1 25 = .ok (.aload_n 0, 1) := by decide +kernel
theorem dd_X4_recall_26 : decode m_X4_recall.2.1 26 = .ok (.getfield 32, 3) := by decide +kernel
theorem dd_X4_recall_29 : decode m_X4_recall.2.1 29 = .ok (.aload_n 0, 1) := by decide +kernel
theorem dd_X4_recall_30 : decode m_X4_recall.2.1 30 = .ok (.getfield 28, 3) := by decide +kernel
theorem dd_X4_recall_33 : decode m_X4_recall.2.1 33 = .ok (.iadd, 1) := by decide +kernel
theorem dd_X4_recall_34 : decode m_X4_recall.2.1 34 = .ok (.bipush 20, 2) := by decide +kernel
theorem dd_X4_recall_36 : decode m_X4_recall.2.1 36 = .ok (.irem, 1) := by decide +kernel
theorem dd_X4_recall_37 : decode m_X4_recall.2.1 37 = .ok (.aaload, 1) := by decide +kernel
theorem dd_X4_recall_38 : decode m_X4_recall.2.1 38 = .ok (.invokevirtual 35, 3) := by decide +kernel
theorem dd_X4_recall_41 : decode m_X4_recall.2.1 41 = .ok (.iconst 1, 1) := by decide +kernel
theorem dd_X4_recall_42 : decode m_X4_recall.2.1 42 = .ok (.ireturn, 1) := by decide +kernel
def wp_X4_recall (w0 : Nat) (s : fz_s) (Q : Bool → fz_s → Prop) : Prop :=
  ((1 ≤ (s.1 47 5) → ∀ s1 : fz_s, s1 = si s 47 5 ((s.1 47 5) - 1) → vp_in (((s1.1 47 4) + (s1.1 47 5)) - ((s1.1 47 4) + (s1.1 47 5)) / 20 * 20) 20 ∧ wp_X10_take w0 (52 + 6 * (((s1.1 47 4) + (s1.1 47 5)) - ((s1.1 47 4) + (s1.1 47 5)) / 20 * 20).toNatClampNeg) s1 (fun s3 => Q true s3)) ∧ (¬ 1 ≤ (s.1 47 5) → Q false s))
set_option maxRecDepth 100000 in
set_option maxHeartbeats 4000000 in
theorem V_X4_recall {g : fz_G} {l : Launch} {d : Nat} (hD : 2 ≤ d) {w0 : Nat} (hw0 : fz_at true w0 10 7) {s : fz_s} {Q : Bool → fz_s → Prop} (H : wp_X4_recall w0 s Q) : fs_V g l m_X4_recall d true 0 (fz_en [.ref 47, .ref w0] 2) [] s (rZ Q) := by
  obtain ⟨d, rfl⟩ : ∃ e, d = e + 1 := ⟨d - 1, by omega⟩
  unfold wp_X4_recall at H
  refine fs_aload_n (k0 := 0) (i := 0) dd_X4_recall_0 rfl rfl ?_
  refine fs_geti (ci := 4) (j := 5) dd_X4_recall_1 fl_X4_28 ca_47 rfl (Or.inl rfl) ?_
  refine fs_iconst (n := 1) (v := 1) dd_X4_recall_4 (by decide) ?_
  refine fs_icmp_ge (tgt := 10) dd_X4_recall_5 (by decide) (fun hc => ?_) (fun hc => ?_)
  · replace H := H.1 hc
    refine fs_aload_n (k0 := 0) (i := 0) dd_X4_recall_10 rfl rfl ?_
    refine fs_dup dd_X4_recall_11 rfl ?_
    refine fs_geti (ci := 4) (j := 5) dd_X4_recall_12 fl_X4_28 ca_47 rfl (Or.inl rfl) ?_
    refine fs_iconst (n := 1) (v := 1) dd_X4_recall_15 (by decide) ?_
    refine fs_isub dd_X4_recall_16 ?_
    refine fs_puti (ci := 4) (j := 5) dd_X4_recall_17 fl_X4_28 (fun _ _ _ h => by cases h; rfl) ca_47 rfl (Or.inl rfl) ?_
    refine fs_tops (fun s1 hs1 => ?_)
    replace H := H s1 hs1
    refine fs_aload_n (k0 := 1) (i := 1) dd_X4_recall_20 rfl rfl ?_
    refine fs_aload_n (k0 := 0) (i := 0) dd_X4_recall_21 rfl rfl ?_
    refine fs_getr (ci := 4) (j := 0) (q := 48) dd_X4_recall_22 fl_X4_11 ca_47 rfl (Or.inr ⟨_, rfl⟩) rfl (by decide) ?_
    refine fs_aload_n (k0 := 0) (i := 0) dd_X4_recall_25 rfl rfl ?_
    refine fs_geti (ci := 4) (j := 4) dd_X4_recall_26 fl_X4_32 ca_47 rfl (Or.inl rfl) ?_
    refine fs_aload_n (k0 := 0) (i := 0) dd_X4_recall_29 rfl rfl ?_
    refine fs_geti (ci := 4) (j := 5) dd_X4_recall_30 fl_X4_28 ca_47 rfl (Or.inl rfl) ?_
    refine fs_iadd dd_X4_recall_33 ?_
    refine fs_bipush (n := 20) (v := 20) dd_X4_recall_34 (by decide) ?_
    refine fs_irem dd_X4_recall_36 (by decide) ?_
    have hb := H.1
    replace H := H.2
    refine fs_aald (q := 52 + 6 * (((s1.1 47 4) + (s1.1 47 5)) - ((s1.1 47 4) + (s1.1 47 5)) / 20 * 20).toNatClampNeg) dd_X4_recall_37 hb (fz_Wq (Nat.not_le.mp fun q => hb (Or.inr q))).1 ?_
    refine fs_callV (y := m_X10_take) (as := [.ref (52 + 6 * (((s1.1 47 4) + (s1.1 47 5)) - ((s1.1 47 4) + (s1.1 47 5)) / 20 * 20).toNatClampNeg)]) dd_X4_recall_38 me_X10_take lk_X4_35 in_X10_take se_X10_take hw0 rfl rfl rfl (Nat.le_of_ble_eq_true rfl) (Nat.le_of_ble_eq_true rfl) rfl (V_X10_take (by omega) hw0 ((fz_Wq (Nat.not_le.mp fun q => hb (Or.inr q))).2) H) (k2_V fun s3 H => ?_)
    refine fs_iconst (n := 1) (v := 1) dd_X4_recall_41 (by decide) ?_
    exact fs_zret true dd_X4_recall_42 rfl rfl H
  · replace H := H.2 hc
    refine fs_iconst (n := 0) (v := 0) dd_X4_recall_8 (by decide) ?_
    exact fs_zret false dd_X4_recall_9 rfl rfl H
theorem dd_X11_undo_0 : decode m_X11_undo.2.1 0 = .ok (.aload_n 0, 1) := by decide +kernel
theorem dd_X11_undo_1 : decode m_X11_undo.2.1 1 = .ok (.getfield 73, 3) := by decide +kernel
theorem dd_X11_undo_4 : decode m_X11_undo.2.1 4 = .ok (.aload_n 0, 1) := by decide +kernel
theorem dd_X11_undo_5 : decode m_X11_undo.2.1 5 = .ok (.getfield 63, 3) := by decide +kernel
theorem dd_X11_undo_8 : decode m_X11_undo.2.1 8 = .ok (.invokevirtual 350, 3) := by decide +kernel
theorem dd_X11_undo_11 : decode m_X11_undo.2.1 11 = .ok (.ifCond .ne 11, 3) := by decide +kernel
theorem dd_X11_undo_14 : decode m_X11_undo.2.1 14 = .ok (.aload_n 0, 1) := by decide +kernel
theorem dd_X11_undo_15 : decode m_X11_undo.2.1 15 = .ok (.iconst 4, 1) := by decide +kernel
theorem dd_X11_undo_16 : decode m_X11_undo.2.1 16 = .ok (.invokevirtual 118, 3) := by decide +kernel
theorem dd_X11_undo_19 : decode m_X11_undo.2.1 19 = .ok (.pop, 1) := by decide +kernel
theorem dd_X11_undo_20 : decode m_X11_undo.2.1 20 = .ok (.iconst 0, 1) := by decide +kernel
theorem dd_X11_undo_21 : decode m_X11_undo.2.1 21 = .ok (.ireturn, 1) := by decide +kernel
theorem dd_X11_undo_22 : decode m_X11_undo.2.1 22 = .ok (.iconst 1, 1) := by decide +kernel
theorem dd_X11_undo_23 : decode m_X11_undo.2.1 23 = .ok (.ireturn, 1) := by decide +kernel
def wp_X11_undo  (s : fz_s) (Q : Bool → fz_s → Prop) : Prop :=
  wp_X4_recall 35 s (fun r1 s2 => ((r1 = true → Q true s2) ∧ (r1 = false → wp_X11_refuse 4 s2 (fun r3 s4 => Q false s4))))
set_option maxRecDepth 100000 in
set_option maxHeartbeats 4000000 in
theorem V_X11_undo {g : fz_G} {l : Launch} {d : Nat} (hD : 3 ≤ d)   {s : fz_s} {Q : Bool → fz_s → Prop} (H : wp_X11_undo  s Q) : fs_V g l m_X11_undo d true 0 (fz_en [.ref 2] 1) [] s (rZ Q) := by
  obtain ⟨d, rfl⟩ : ∃ e, d = e + 1 := ⟨d - 1, by omega⟩
  unfold wp_X11_undo at H
  refine fs_aload_n (k0 := 0) (i := 0) dd_X11_undo_0 rfl rfl ?_
  refine fs_getr (ci := 11) (j := 10) (q := 47) dd_X11_undo_1 fl_X11_73 ca_2 rfl (Or.inl ⟨_, rfl⟩) rfl (by decide) ?_
  refine fs_aload_n (k0 := 0) (i := 0) dd_X11_undo_4 rfl rfl ?_
  refine fs_getr (ci := 11) (j := 8) (q := 35) dd_X11_undo_5 fl_X11_63 ca_2 rfl (Or.inl ⟨_, rfl⟩) rfl (by decide) ?_
  refine fs_callV (y := m_X4_recall) (as := [.ref 35]) dd_X11_undo_8 me_X4_recall lk_X11_350 in_X4_recall se_X4_recall ca_47 rfl rfl rfl (Nat.le_of_ble_eq_true rfl) (Nat.le_of_ble_eq_true rfl) rfl (V_X4_recall (by omega) ca_35 H) (k2_Z fun r1 s2 H => ?_)
  refine fs_if_ne (tgt := 22) dd_X11_undo_11 (by decide) (fun hc => ?_) (fun hc => ?_)
  · replace H := H.1 (bi_1 hc)
    refine fs_iconst (n := 1) (v := 1) dd_X11_undo_22 (by decide) ?_
    exact fs_zret true dd_X11_undo_23 rfl rfl H
  · replace H := H.2 (bi_0 hc)
    refine fs_aload_n (k0 := 0) (i := 0) dd_X11_undo_14 rfl rfl ?_
    refine fs_iconst (n := 4) (v := 4) dd_X11_undo_15 (by decide) ?_
    refine fs_callV (y := m_X11_refuse) (as := [.int 4]) dd_X11_undo_16 me_X11_refuse lk_X11_118 in_X11_refuse se_X11_refuse ca_2 rfl rfl rfl (Nat.le_of_ble_eq_true rfl) (Nat.le_of_ble_eq_true rfl) rfl (V_X11_refuse (by omega)  H) (k2_I fun r3 s4 H => ?_)
    refine fs_pop dd_X11_undo_19 rfl ?_
    refine fs_iconst (n := 0) (v := 0) dd_X11_undo_20 (by decide) ?_
    exact fs_zret false dd_X11_undo_21 rfl rfl H
theorem dd_X11_seed_0 : decode m_X11_seed.2.1 0 = .ok (.iload_n 1, 1) := by decide +kernel
theorem dd_X11_seed_1 : decode m_X11_seed.2.1 1 = .ok (.ifCond .ge 11, 3) := by decide +kernel
theorem dd_X11_seed_4 : decode m_X11_seed.2.1 4 = .ok (.aload_n 0, 1) := by decide +kernel
theorem dd_X11_seed_5 : decode m_X11_seed.2.1 5 = .ok (.iconst 5, 1) := by decide +kernel
theorem dd_X11_seed_6 : decode m_X11_seed.2.1 6 = .ok (.invokevirtual 118, 3) := by decide +kernel
theorem dd_X11_seed_9 : decode m_X11_seed.2.1 9 = .ok (.pop, 1) := by decide +kernel
theorem dd_X11_seed_10 : decode m_X11_seed.2.1 10 = .ok (.iconst 0, 1) := by decide +kernel
theorem dd_X11_seed_11 : decode m_X11_seed.2.1 11 = .ok (.ireturn, 1) := by decide +kernel
theorem dd_X11_seed_12 : decode m_X11_seed.2.1 12 = .ok (.aload_n 0, 1) := by decide +kernel
theorem dd_X11_seed_13 : decode m_X11_seed.2.1 13 = .ok (.iload_n 1, 1) := by decide +kernel
theorem dd_X11_seed_14 : decode m_X11_seed.2.1 14 = .ok (.putfield 108, 3) := by decide +kernel
theorem dd_X11_seed_17 : decode m_X11_seed.2.1 17 = .ok (.iconst 1, 1) := by decide +kernel
theorem dd_X11_seed_18 : decode m_X11_seed.2.1 18 = .ok (.ireturn, 1) := by decide +kernel
def wp_X11_seed (p0 : Int32) (s : fz_s) (Q : Bool → fz_s → Prop) : Prop :=
  ((0 ≤ p0 → ∀ s1 : fz_s, s1 = si s 2 17 p0 → Q true s1) ∧ (¬ 0 ≤ p0 → wp_X11_refuse 5 s (fun r2 s3 => Q false s3)))
set_option maxRecDepth 100000 in
set_option maxHeartbeats 4000000 in
theorem V_X11_seed {g : fz_G} {l : Launch} {d : Nat} (hD : 1 ≤ d) {p0 : Int32}  {s : fz_s} {Q : Bool → fz_s → Prop} (H : wp_X11_seed p0 s Q) : fs_V g l m_X11_seed d true 0 (fz_en [.ref 2, .int p0] 2) [] s (rZ Q) := by
  obtain ⟨d, rfl⟩ : ∃ e, d = e + 1 := ⟨d - 1, by omega⟩
  unfold wp_X11_seed at H
  refine fs_iload_n (k0 := 1) (i := 1) dd_X11_seed_0 rfl rfl ?_
  refine fs_if_ge (tgt := 12) dd_X11_seed_1 (by decide) (fun hc => ?_) (fun hc => ?_)
  · replace H := H.1 hc
    refine fs_aload_n (k0 := 0) (i := 0) dd_X11_seed_12 rfl rfl ?_
    refine fs_iload_n (k0 := 1) (i := 1) dd_X11_seed_13 rfl rfl ?_
    refine fs_puti (ci := 11) (j := 17) dd_X11_seed_14 fl_X11_108 (fun _ _ _ h => by cases h; rfl) ca_2 rfl (Or.inl rfl) ?_
    refine fs_tops (fun s1 hs1 => ?_)
    replace H := H s1 hs1
    refine fs_iconst (n := 1) (v := 1) dd_X11_seed_17 (by decide) ?_
    exact fs_zret true dd_X11_seed_18 rfl rfl H
  · replace H := H.2 hc
    refine fs_aload_n (k0 := 0) (i := 0) dd_X11_seed_4 rfl rfl ?_
    refine fs_iconst (n := 5) (v := 5) dd_X11_seed_5 (by decide) ?_
    refine fs_callV (y := m_X11_refuse) (as := [.int 5]) dd_X11_seed_6 me_X11_refuse lk_X11_118 in_X11_refuse se_X11_refuse ca_2 rfl rfl rfl (Nat.le_of_ble_eq_true rfl) (Nat.le_of_ble_eq_true rfl) rfl (V_X11_refuse (by omega)  H) (k2_I fun r2 s3 H => ?_)
    refine fs_pop dd_X11_seed_9 rfl ?_
    refine fs_iconst (n := 0) (v := 0) dd_X11_seed_10 (by decide) ?_
    exact fs_zret false dd_X11_seed_11 rfl rfl H
theorem dd_X0_peopleCount_0 : decode m_X0_peopleCount.2.1 0 = .ok (.aload_n 0, 1) := by decide +kernel
theorem dd_X0_peopleCount_1 : decode m_X0_peopleCount.2.1 1 = .ok (.getfield 15, 3) := by decide +kernel
theorem dd_X0_peopleCount_4 : decode m_X0_peopleCount.2.1 4 = .ok (.getfield 77, 3) := by decide +kernel
theorem dd_X0_peopleCount_7 : decode m_X0_peopleCount.2.1 7 = .ok (.ireturn, 1) := by decide +kernel
def wp_X0_peopleCount  (s : fz_s) (Q : Int32 → fz_s → Prop) : Prop :=
  Q (s.1 6 12) s
set_option maxRecDepth 100000 in
set_option maxHeartbeats 4000000 in
theorem V_X0_peopleCount {g : fz_G} {l : Launch} {d : Nat} (hD : 0 ≤ d)   {s : fz_s} {Q : Int32 → fz_s → Prop} (H : wp_X0_peopleCount  s Q) : fs_V g l m_X0_peopleCount d true 0 (fz_en [.ref 30] 1) [] s (rI Q) := by
  unfold wp_X0_peopleCount at H
  refine fs_aload_n (k0 := 0) (i := 0) dd_X0_peopleCount_0 rfl rfl ?_
  refine fs_getr (ci := 0) (j := 0) (q := 6) dd_X0_peopleCount_1 fl_X0_15 ca_30 rfl (Or.inl ⟨_, rfl⟩) rfl (by decide) ?_
  refine fs_geti (ci := 9) (j := 12) dd_X0_peopleCount_4 fl_X0_77 ca_6 rfl (Or.inl rfl) ?_
  exact fs_iret dd_X0_peopleCount_7 rfl H
theorem dd_X0_questioned_0 : decode m_X0_questioned.2.1 0 = .ok (.aload_n 0, 1) := by decide +kernel
theorem dd_X0_questioned_1 : decode m_X0_questioned.2.1 1 = .ok (.aload_n 1, 1) := by decide +kernel
theorem dd_X0_questioned_2 : decode m_X0_questioned.2.1 2 = .ok (.iconst 2, 1) := by decide +kernel
theorem dd_X0_questioned_3 : decode m_X0_questioned.2.1 3 = .ok (.iload 4, 2) := by decide +kernel
theorem dd_X0_questioned_5 : decode m_X0_questioned.2.1 5 = .ok (.iconst 0, 1) := by decide +kernel
theorem dd_X0_questioned_6 : decode m_X0_questioned.2.1 6 = .ok (.invokevirtual 67, 3) := by decide +kernel
theorem dd_X0_questioned_9 : decode m_X0_questioned.2.1 9 = .ok (.istore 5, 2) := by decide +kernel
theorem dd_X0_questioned_11 : decode m_X0_questioned.2.1 11 = .ok (.aload_n 0, 1) := by decide +kernel
theorem dd_X0_questioned_12 : decode m_X0_questioned.2.1 12 = .ok (.aload_n 1, 1) := by decide +kernel
theorem dd_X0_questioned_13 : decode m_X0_questioned.2.1 13 = .ok (.iconst 2, 1) := by decide +kernel
theorem dd_X0_questioned_14 : decode m_X0_questioned.2.1 14 = .ok (.iload 4, 2) := by decide +kernel
theorem dd_X0_questioned_16 : decode m_X0_questioned.2.1 16 = .ok (.iconst 1, 1) := by decide +kernel
theorem dd_X0_questioned_17 : decode m_X0_questioned.2.1 17 = .ok (.invokevirtual 67, 3) := by decide +kernel
theorem dd_X0_questioned_20 : decode m_X0_questioned.2.1 20 = .ok (.istore 6, 2) := by decide +kernel
theorem dd_X0_questioned_22 : decode m_X0_questioned.2.1 22 = .ok (.aload_n 0, 1) := by decide +kernel
theorem dd_X0_questioned_23 : decode m_X0_questioned.2.1 23 = .ok (.getfield 19, 3) := by decide +kernel
theorem dd_X0_questioned_26 : decode m_X0_questioned.2.1 26 = .ok (.getfield 23, 3) := by decide +kernel
theorem dd_X0_questioned_29 : decode m_X0_questioned.2.1 29 = .ok (.astore 7, 2) := by decide +kernel
theorem dd_X0_questioned_31 : decode m_X0_questioned.2.1 31 = .ok (.aload 7, 2) := by decide +kernel
theorem dd_X0_questioned_33 : decode m_X0_questioned.2.1 33 = .ok (.bipush 13, 2) := by decide +kernel
theorem dd_X0_questioned_35 : decode m_X0_questioned.2.1 35 = .ok (.iload 5, 2) := by decide +kernel
theorem dd_X0_questioned_37 : decode m_X0_questioned.2.1 37 = .ok (.iastore, 1) := by decide +kernel
theorem dd_X0_questioned_38 : decode m_X0_questioned.2.1 38 = .ok (.aload 7, 2) := by decide +kernel
theorem dd_X0_questioned_40 : decode m_X0_questioned.2.1 40 = .ok (.bipush 14, 2) := by decide +kernel
theorem dd_X0_questioned_42 : decode m_X0_questioned.2.1 42 = .ok (.iload 6, 2) := by decide +kernel
theorem dd_X0_questioned_44 : decode m_X0_questioned.2.1 44 = .ok (.iastore, 1) := by decide +kernel
theorem dd_X0_questioned_45 : decode m_X0_questioned.2.1 45 = .ok (.aload 7, 2) := by decide +kernel
theorem dd_X0_questioned_47 : decode m_X0_questioned.2.1 47 = .ok (.bipush 11, 2) := by decide +kernel
theorem dd_X0_questioned_49 : decode m_X0_questioned.2.1 49 = .ok (.aload_n 1, 1) := by decide +kernel
theorem dd_X0_questioned_50 : decode m_X0_questioned.2.1 50 = .ok (.getfield 28, 3) := by decide +kernel
theorem dd_X0_questioned_53 : decode m_X0_questioned.2.1 53 = .ok (.iconst 0, 1) := by decide +kernel
theorem dd_X0_questioned_54 : decode m_X0_questioned.2.1 54 = .ok (.iaload, 1) := by decide +kernel
theorem dd_X0_questioned_55 : decode m_X0_questioned.2.1 55 = .ok (.iastore, 1) := by decide +kernel
theorem dd_X0_questioned_56 : decode m_X0_questioned.2.1 56 = .ok (.aload 7, 2) := by decide +kernel
theorem dd_X0_questioned_58 : decode m_X0_questioned.2.1 58 = .ok (.bipush 12, 2) := by decide +kernel
theorem dd_X0_questioned_60 : decode m_X0_questioned.2.1 60 = .ok (.aload_n 1, 1) := by decide +kernel
theorem dd_X0_questioned_61 : decode m_X0_questioned.2.1 61 = .ok (.getfield 28, 3) := by decide +kernel
theorem dd_X0_questioned_64 : decode m_X0_questioned.2.1 64 = .ok (.iconst 1, 1) := by decide +kernel
theorem dd_X0_questioned_65 : decode m_X0_questioned.2.1 65 = .ok (.iaload, 1) := by decide +kernel
theorem dd_X0_questioned_66 : decode m_X0_questioned.2.1 66 = .ok (.iastore, 1) := by decide +kernel
theorem dd_X0_questioned_67 : decode m_X0_questioned.2.1 67 = .ok (.aload 7, 2) := by decide +kernel
theorem dd_X0_questioned_69 : decode m_X0_questioned.2.1 69 = .ok (.bipush 8, 2) := by decide +kernel
theorem dd_X0_questioned_71 : decode m_X0_questioned.2.1 71 = .ok (.iload 4, 2) := by decide +kernel
theorem dd_X0_questioned_73 : decode m_X0_questioned.2.1 73 = .ok (.iastore, 1) := by decide +kernel
theorem dd_X0_questioned_74 : decode m_X0_questioned.2.1 74 = .ok (.aload 7, 2) := by decide +kernel
theorem dd_X0_questioned_76 : decode m_X0_questioned.2.1 76 = .ok (.bipush 9, 2) := by decide +kernel
theorem dd_X0_questioned_78 : decode m_X0_questioned.2.1 78 = .ok (.aload_n 1, 1) := by decide +kernel
theorem dd_X0_questioned_79 : decode m_X0_questioned.2.1 79 = .ok (.getfield 71, 3) := by decide +kernel
theorem dd_X0_questioned_82 : decode m_X0_questioned.2.1 82 = .ok (.iload 4, 2) := by decide +kernel
theorem dd_X0_questioned_84 : decode m_X0_questioned.2.1 84 = .ok (.iaload, 1) := by decide +kernel
theorem dd_X0_questioned_85 : decode m_X0_questioned.2.1 85 = .ok (.iastore, 1) := by decide +kernel
theorem dd_X0_questioned_86 : decode m_X0_questioned.2.1 86 = .ok (.aload 7, 2) := by decide +kernel
theorem dd_X0_questioned_88 : decode m_X0_questioned.2.1 88 = .ok (.bipush 10, 2) := by decide +kernel
theorem dd_X0_questioned_90 : decode m_X0_questioned.2.1 90 = .ok (.aload_n 0, 1) := by decide +kernel
theorem dd_X0_questioned_91 : decode m_X0_questioned.2.1 91 = .ok (.getfield 15, 3) := by decide +kernel
theorem dd_X0_questioned_94 : decode m_X0_questioned.2.1 94 = .ok (.getfield 74, 3) := by decide +kernel
theorem dd_X0_questioned_97 : decode m_X0_questioned.2.1 97 = .ok (.iload 4, 2) := by decide +kernel
theorem dd_X0_questioned_99 : decode m_X0_questioned.2.1 99 = .ok (.iaload, 1) := by decide +kernel
theorem dd_X0_questioned_100 : decode m_X0_questioned.2.1 100 = .ok (.iastore, 1) := by decide +kernel
theorem dd_X0_questioned_101 : decode m_X0_questioned.2.1 101 = .ok (.aload_n 0, 1) := by decide +kernel
theorem dd_X0_questioned_102 : decode m_X0_questioned.2.1 102 = .ok (.getfield 19, 3) := by decide +kernel
theorem dd_X0_questioned_105 : decode m_X0_questioned.2.1 105 = .ok (.aload_n 2, 1) := by decide +kernel
theorem dd_X0_questioned_106 : decode m_X0_questioned.2.1 106 = .ok (.iconst 0, 1) := by decide +kernel
theorem dd_X0_questioned_107 : decode m_X0_questioned.2.1 107 = .ok (.iload_n 3, 1) := by decide +kernel
theorem dd_X0_questioned_108 : decode m_X0_questioned.2.1 108 = .ok (.invokevirtual 63, 3) := by decide +kernel
theorem dd_X0_questioned_111 : decode m_X0_questioned.2.1 111 = .ok (.ireturn, 1) := by decide +kernel
def wp_X0_questioned (w0 : Nat) (a1 : Nat) (n1 : Nat) (p2 : Int32) (p3 : Int32) (s : fz_s) (Q : Int32 → fz_s → Prop) : Prop :=
  wp_X0_ruled w0 2 p3 0 s (fun r1 s2 => wp_X0_ruled w0 2 p3 1 s2 (fun r3 s4 => ∀ s5 : fz_s, s5 = si s4 32 (13 : Int32).toNatClampNeg r1 → ∀ s6 : fz_s, s6 = si s5 32 (14 : Int32).toNatClampNeg r3 → ∀ s7 : fz_s, s7 = si s6 32 (11 : Int32).toNatClampNeg (s6.1 (w0 + 1 + 0) (0 : Int32).toNatClampNeg) → ∀ s8 : fz_s, s8 = si s7 32 (12 : Int32).toNatClampNeg (s7.1 (w0 + 1 + 0) (1 : Int32).toNatClampNeg) → ∀ s9 : fz_s, s9 = si s8 32 (8 : Int32).toNatClampNeg p3 → vp_in p3 8 ∧ ∀ s10 : fz_s, s10 = si s9 32 (9 : Int32).toNatClampNeg (s9.1 (w0 + 1 + 3) p3.toNatClampNeg) → vp_in p3 8 ∧ ∀ s11 : fz_s, s11 = si s10 32 (10 : Int32).toNatClampNeg (s10.1 10 p3.toNatClampNeg) → wp_X7_value a1 n1 0 p2 s11 (fun r12 s13 => Q r12 s13)))
set_option maxRecDepth 100000 in
set_option maxHeartbeats 4000000 in
theorem V_X0_questioned {g : fz_G} {l : Launch} {d : Nat} (hD : 4 ≤ d) {w0 : Nat} {a1 : Nat} {n1 : Nat} {p2 : Int32} {p3 : Int32} (hw0 : fz_at true w0 10 7) (ha1 : fz_at true a1 14 n1) {s : fz_s} {Q : Int32 → fz_s → Prop} (H : wp_X0_questioned w0 a1 n1 p2 p3 s Q) : fs_V g l m_X0_questioned d true 0 (fz_en [.ref 30, .ref w0, .ref a1, .int p2, .int p3] 8) [] s (rI Q) := by
  obtain ⟨d, rfl⟩ : ∃ e, d = e + 1 := ⟨d - 1, by omega⟩
  unfold wp_X0_questioned at H
  refine fs_aload_n (k0 := 0) (i := 0) dd_X0_questioned_0 rfl rfl ?_
  refine fs_aload_n (k0 := 1) (i := 1) dd_X0_questioned_1 rfl rfl ?_
  refine fs_iconst (n := 2) (v := 2) dd_X0_questioned_2 (by decide) ?_
  refine fs_iload (i := 4) dd_X0_questioned_3 rfl ?_
  refine fs_iconst (n := 0) (v := 0) dd_X0_questioned_5 (by decide) ?_
  refine fs_callV (y := m_X0_ruled) (as := [.ref w0, .int 2, .int p3, .int 0]) dd_X0_questioned_6 me_X0_ruled lk_X0_67 in_X0_ruled se_X0_ruled ca_30 rfl rfl rfl (Nat.le_of_ble_eq_true rfl) (Nat.le_of_ble_eq_true rfl) rfl (V_X0_ruled (by omega) hw0 H) (k2_I fun r1 s2 H => ?_)
  refine fs_istore (i := 5) dd_X0_questioned_9 (by decide) ?_
  refine fs_aload_n (k0 := 0) (i := 0) dd_X0_questioned_11 rfl rfl ?_
  refine fs_aload_n (k0 := 1) (i := 1) dd_X0_questioned_12 rfl rfl ?_
  refine fs_iconst (n := 2) (v := 2) dd_X0_questioned_13 (by decide) ?_
  refine fs_iload (i := 4) dd_X0_questioned_14 rfl ?_
  refine fs_iconst (n := 1) (v := 1) dd_X0_questioned_16 (by decide) ?_
  refine fs_callV (y := m_X0_ruled) (as := [.ref w0, .int 2, .int p3, .int 1]) dd_X0_questioned_17 me_X0_ruled lk_X0_67 in_X0_ruled se_X0_ruled ca_30 rfl rfl rfl (Nat.le_of_ble_eq_true rfl) (Nat.le_of_ble_eq_true rfl) rfl (V_X0_ruled (by omega) hw0 H) (k2_I fun r3 s4 H => ?_)
  refine fs_istore (i := 6) dd_X0_questioned_20 (by decide) ?_
  refine fs_aload_n (k0 := 0) (i := 0) dd_X0_questioned_22 rfl rfl ?_
  refine fs_getr (ci := 0) (j := 1) (q := 31) dd_X0_questioned_23 fl_X0_19 ca_30 rfl (Or.inl ⟨_, rfl⟩) rfl (by decide) ?_
  refine fs_getr (ci := 7) (j := 0) (q := 32) dd_X0_questioned_26 fl_X0_23 ca_31 rfl (Or.inr ⟨_, rfl⟩) rfl (by decide) ?_
  refine fs_astore (i := 7) dd_X0_questioned_29 (by decide) ?_
  refine fs_aload (i := 7) dd_X0_questioned_31 rfl ?_
  refine fs_bipush (n := 13) (v := 13) dd_X0_questioned_33 (by decide) ?_
  refine fs_iload (i := 5) dd_X0_questioned_35 rfl ?_
  refine fs_iast dd_X0_questioned_37 ca_32 (vp_in_nI (n := 13) (by decide) (by decide)) ?_
  refine fs_tops (fun s5 hs5 => ?_)
  replace H := H s5 hs5
  refine fs_aload (i := 7) dd_X0_questioned_38 rfl ?_
  refine fs_bipush (n := 14) (v := 14) dd_X0_questioned_40 (by decide) ?_
  refine fs_iload (i := 6) dd_X0_questioned_42 rfl ?_
  refine fs_iast dd_X0_questioned_44 ca_32 (vp_in_nI (n := 14) (by decide) (by decide)) ?_
  refine fs_tops (fun s6 hs6 => ?_)
  replace H := H s6 hs6
  refine fs_aload (i := 7) dd_X0_questioned_45 rfl ?_
  refine fs_bipush (n := 11) (v := 11) dd_X0_questioned_47 (by decide) ?_
  refine fs_aload_n (k0 := 1) (i := 1) dd_X0_questioned_49 rfl rfl ?_
  refine fs_getr (ci := 10) (j := 0) (q := (w0 + 1 + 0)) dd_X0_questioned_50 fl_X0_28 hw0 rfl (Or.inr ⟨_, rfl⟩) ((fz_W hw0).1 0 (by decide)) (fun q => (fz_W hw0).2.2.2 q.1) ?_
  refine fs_iconst (n := 0) (v := 0) dd_X0_questioned_53 (by decide) ?_
  refine fs_iald dd_X0_questioned_54 ((fz_W hw0).2.1 0 (by decide)) (vp_in_nI (n := 0) (by decide) (by decide)) ?_
  refine fs_iast dd_X0_questioned_55 ca_32 (vp_in_nI (n := 11) (by decide) (by decide)) ?_
  refine fs_tops (fun s7 hs7 => ?_)
  replace H := H s7 hs7
  refine fs_aload (i := 7) dd_X0_questioned_56 rfl ?_
  refine fs_bipush (n := 12) (v := 12) dd_X0_questioned_58 (by decide) ?_
  refine fs_aload_n (k0 := 1) (i := 1) dd_X0_questioned_60 rfl rfl ?_
  refine fs_getr (ci := 10) (j := 0) (q := (w0 + 1 + 0)) dd_X0_questioned_61 fl_X0_28 hw0 rfl (Or.inr ⟨_, rfl⟩) ((fz_W hw0).1 0 (by decide)) (fun q => (fz_W hw0).2.2.2 q.1) ?_
  refine fs_iconst (n := 1) (v := 1) dd_X0_questioned_64 (by decide) ?_
  refine fs_iald dd_X0_questioned_65 ((fz_W hw0).2.1 0 (by decide)) (vp_in_nI (n := 1) (by decide) (by decide)) ?_
  refine fs_iast dd_X0_questioned_66 ca_32 (vp_in_nI (n := 12) (by decide) (by decide)) ?_
  refine fs_tops (fun s8 hs8 => ?_)
  replace H := H s8 hs8
  refine fs_aload (i := 7) dd_X0_questioned_67 rfl ?_
  refine fs_bipush (n := 8) (v := 8) dd_X0_questioned_69 (by decide) ?_
  refine fs_iload (i := 4) dd_X0_questioned_71 rfl ?_
  refine fs_iast dd_X0_questioned_73 ca_32 (vp_in_nI (n := 8) (by decide) (by decide)) ?_
  refine fs_tops (fun s9 hs9 => ?_)
  replace H := H s9 hs9
  refine fs_aload (i := 7) dd_X0_questioned_74 rfl ?_
  refine fs_bipush (n := 9) (v := 9) dd_X0_questioned_76 (by decide) ?_
  refine fs_aload_n (k0 := 1) (i := 1) dd_X0_questioned_78 rfl rfl ?_
  refine fs_getr (ci := 10) (j := 3) (q := (w0 + 1 + 3)) dd_X0_questioned_79 fl_X0_71 hw0 rfl (Or.inr ⟨_, rfl⟩) ((fz_W hw0).1 3 (by decide)) (fun q => (fz_W hw0).2.2.2 q.1) ?_
  refine fs_iload (i := 4) dd_X0_questioned_82 rfl ?_
  have hb := H.1
  replace H := H.2
  refine fs_iald dd_X0_questioned_84 ((fz_W hw0).2.2.1 3 (by decide) (by decide)) hb ?_
  refine fs_iast dd_X0_questioned_85 ca_32 (vp_in_nI (n := 9) (by decide) (by decide)) ?_
  refine fs_tops (fun s10 hs10 => ?_)
  replace H := H s10 hs10
  refine fs_aload (i := 7) dd_X0_questioned_86 rfl ?_
  refine fs_bipush (n := 10) (v := 10) dd_X0_questioned_88 (by decide) ?_
  refine fs_aload_n (k0 := 0) (i := 0) dd_X0_questioned_90 rfl rfl ?_
  refine fs_getr (ci := 0) (j := 0) (q := 6) dd_X0_questioned_91 fl_X0_15 ca_30 rfl (Or.inl ⟨_, rfl⟩) rfl (by decide) ?_
  refine fs_getr (ci := 9) (j := 3) (q := 10) dd_X0_questioned_94 fl_X0_74 ca_6 rfl (Or.inr ⟨_, rfl⟩) rfl (by decide) ?_
  refine fs_iload (i := 4) dd_X0_questioned_97 rfl ?_
  have hb := H.1
  replace H := H.2
  refine fs_iald dd_X0_questioned_99 ca_10 hb ?_
  refine fs_iast dd_X0_questioned_100 ca_32 (vp_in_nI (n := 10) (by decide) (by decide)) ?_
  refine fs_tops (fun s11 hs11 => ?_)
  replace H := H s11 hs11
  refine fs_aload_n (k0 := 0) (i := 0) dd_X0_questioned_101 rfl rfl ?_
  refine fs_getr (ci := 0) (j := 1) (q := 31) dd_X0_questioned_102 fl_X0_19 ca_30 rfl (Or.inl ⟨_, rfl⟩) rfl (by decide) ?_
  refine fs_aload_n (k0 := 2) (i := 2) dd_X0_questioned_105 rfl rfl ?_
  refine fs_iconst (n := 0) (v := 0) dd_X0_questioned_106 (by decide) ?_
  refine fs_iload_n (k0 := 3) (i := 3) dd_X0_questioned_107 rfl rfl ?_
  refine fs_callV (y := m_X7_value) (as := [.ref a1, .int 0, .int p2]) dd_X0_questioned_108 me_X7_value lk_X0_63 in_X7_value se_X7_value ca_31 rfl rfl rfl (Nat.le_of_ble_eq_true rfl) (Nat.le_of_ble_eq_true rfl) rfl (V_X7_value (by omega) ha1 H) (k2_I fun r12 s13 H => ?_)
  exact fs_iret dd_X0_questioned_111 rfl H
theorem dd_X5_joined_0 : decode m_X5_joined.2.1 0 = .ok (.aload_n 0, 1) := by decide +kernel
theorem dd_X5_joined_1 : decode m_X5_joined.2.1 1 = .ok (.getfield 24, 3) := by decide +kernel
theorem dd_X5_joined_4 : decode m_X5_joined.2.1 4 = .ok (.tableswitch 80 26 30 #[36, 56, 68, 68, 73], 36) := by decide +kernel
theorem dd_X5_joined_40 : decode m_X5_joined.2.1 40 = .ok (.lload_n 1, 1) := by decide +kernel
theorem dd_X5_joined_41 : decode m_X5_joined.2.1 41 = .ok (.ldc2_w 51, 3) := by decide +kernel
theorem dd_X5_joined_44 : decode m_X5_joined.2.1 44 = .ok (.lcmp, 1) := by decide +kernel
theorem dd_X5_joined_45 : decode m_X5_joined.2.1 45 = .ok (.ifCond .ne 13, 3) := by decide +kernel
theorem dd_X5_joined_48 : decode m_X5_joined.2.1 48 = .ok (.iload_n 3, 1) := by decide +kernel
theorem dd_X5_joined_49 : decode m_X5_joined.2.1 49 = .ok (.ifCond .eq 9, 3) := by decide +kernel
theorem dd_X5_joined_52 : decode m_X5_joined.2.1 52 = .ok (.iload 4, 2) := by decide +kernel
theorem dd_X5_joined_54 : decode m_X5_joined.2.1 54 = .ok (.i2l, 1) := by decide +kernel
theorem dd_X5_joined_55 : decode m_X5_joined.2.1 55 = .ok (.goto 4, 3) := by decide +kernel
theorem dd_X5_joined_58 : decode m_X5_joined.2.1 58 = .ok (.lload_n 1, 1) := by decide +kernel
theorem dd_X5_joined_59 : decode m_X5_joined.2.1 59 = .ok (.lreturn, 1) := by decide +kernel
theorem dd_X5_joined_60 : decode m_X5_joined.2.1 60 = .ok (.iload_n 3, 1) := by decide +kernel
theorem dd_X5_joined_61 : decode m_X5_joined.2.1 61 = .ok (.ifCond .eq 9, 3) := by decide +kernel
theorem dd_X5_joined_64 : decode m_X5_joined.2.1 64 = .ok (.iload 4, 2) := by decide +kernel
theorem dd_X5_joined_66 : decode m_X5_joined.2.1 66 = .ok (.i2l, 1) := by decide +kernel
theorem dd_X5_joined_67 : decode m_X5_joined.2.1 67 = .ok (.goto 4, 3) := by decide +kernel
theorem dd_X5_joined_70 : decode m_X5_joined.2.1 70 = .ok (.lload_n 1, 1) := by decide +kernel
theorem dd_X5_joined_71 : decode m_X5_joined.2.1 71 = .ok (.lreturn, 1) := by decide +kernel
theorem dd_X5_joined_72 : decode m_X5_joined.2.1 72 = .ok (.lload_n 1, 1) := by decide +kernel
theorem dd_X5_joined_73 : decode m_X5_joined.2.1 73 = .ok (.iload_n 3, 1) := by decide +kernel
theorem dd_X5_joined_74 : decode m_X5_joined.2.1 74 = .ok (.i2l, 1) := by decide +kernel
theorem dd_X5_joined_75 : decode m_X5_joined.2.1 75 = .ok (.ladd, 1) := by decide +kernel
theorem dd_X5_joined_76 : decode m_X5_joined.2.1 76 = .ok (.lreturn, 1) := by decide +kernel
theorem dd_X5_joined_77 : decode m_X5_joined.2.1 77 = .ok (.lload_n 1, 1) := by decide +kernel
theorem dd_X5_joined_78 : decode m_X5_joined.2.1 78 = .ok (.iload_n 3, 1) := by decide +kernel
theorem dd_X5_joined_79 : decode m_X5_joined.2.1 79 = .ok (.i2l, 1) := by decide +kernel
theorem dd_X5_joined_80 : decode m_X5_joined.2.1 80 = .ok (.invokestatic 67, 3) := by decide +kernel
theorem dd_X5_joined_83 : decode m_X5_joined.2.1 83 = .ok (.lreturn, 1) := by decide +kernel
theorem dd_X5_joined_84 : decode m_X5_joined.2.1 84 = .ok (.lload_n 1, 1) := by decide +kernel
theorem dd_X5_joined_85 : decode m_X5_joined.2.1 85 = .ok (.iload_n 3, 1) := by decide +kernel
theorem dd_X5_joined_86 : decode m_X5_joined.2.1 86 = .ok (.i2l, 1) := by decide +kernel
theorem dd_X5_joined_87 : decode m_X5_joined.2.1 87 = .ok (.invokestatic 73, 3) := by decide +kernel
theorem dd_X5_joined_90 : decode m_X5_joined.2.1 90 = .ok (.lreturn, 1) := by decide +kernel
def wp_X5_joined (p0 : Int64) (p1 : Int32) (p2 : Int32) (s : fz_s) (Q : Int64 → fz_s → Prop) : Prop :=
  (((s.1 28 2) = 26 → ((¬ (lg_cmp p0 (-1)) = 0 → Q p0 s) ∧ ((lg_cmp p0 (-1)) = 0 → ((p1 = 0 → Q p0 s) ∧ (¬ p1 = 0 → Q p2.toInt64 s))))) ∧ ((s.1 28 2) = 27 → ((p1 = 0 → Q p0 s) ∧ (¬ p1 = 0 → Q p2.toInt64 s))) ∧ ((s.1 28 2) = 28 → Q (p0 + p1.toInt64) s) ∧ ((s.1 28 2) = 29 → Q (p0 + p1.toInt64) s) ∧ ((s.1 28 2) = 30 → Q (if p1.toInt64 < p0 then p0 else p1.toInt64) s) ∧ (¬ (s.1 28 2) = 26 ∧ ¬ (s.1 28 2) = 27 ∧ ¬ (s.1 28 2) = 28 ∧ ¬ (s.1 28 2) = 29 ∧ ¬ (s.1 28 2) = 30 → Q (if p1.toInt64 < p0 then p1.toInt64 else p0) s))
set_option maxRecDepth 100000 in
set_option maxHeartbeats 4000000 in
theorem V_X5_joined {g : fz_G} {l : Launch} {d : Nat} (hD : 1 ≤ d) {p0 : Int64} {p1 : Int32} {p2 : Int32}  {s : fz_s} {Q : Int64 → fz_s → Prop} (H : wp_X5_joined p0 p1 p2 s Q) : fs_V g l m_X5_joined d true 0 (fz_en [.ref 28, .long p0, .int p1, .int p2] 5) [] s (rL Q) := by
  obtain ⟨d, rfl⟩ : ∃ e, d = e + 1 := ⟨d - 1, by omega⟩
  unfold wp_X5_joined at H
  refine fs_aload_n (k0 := 0) (i := 0) dd_X5_joined_0 rfl rfl ?_
  refine fs_geti (ci := 5) (j := 2) dd_X5_joined_1 fl_X5_24 ca_28 rfl (Or.inl rfl) ?_
  by_cases hc26 : (s.1 28 2) = 26
  · replace H := H.1 hc26
    refine fs_tableAt (k := 26) (off := 36) (tgt := 40) hc26 dd_X5_joined_4 (by decide) (by decide) rfl (by decide) ?_
    refine fs_lload_n (k0 := 1) (i := 1) dd_X5_joined_40 rfl rfl ?_
    refine fs_ldc2 (idx := 51) (v := -1) dd_X5_joined_41 cl_X5_51 ?_
    refine fs_lcmp dd_X5_joined_44 ?_
    refine fs_if_ne (tgt := 58) dd_X5_joined_45 (by decide) (fun hc => ?_) (fun hc => ?_)
    · replace H := H.1 hc
      refine fs_lload_n (k0 := 1) (i := 1) dd_X5_joined_58 rfl rfl ?_
      exact fs_lret dd_X5_joined_59 rfl H
    · replace H := H.2 hc
      refine fs_iload_n (k0 := 3) (i := 3) dd_X5_joined_48 rfl rfl ?_
      refine fs_if_eq (tgt := 58) dd_X5_joined_49 (by decide) (fun hc => ?_) (fun hc => ?_)
      · replace H := H.1 hc
        refine fs_lload_n (k0 := 1) (i := 1) dd_X5_joined_58 rfl rfl ?_
        exact fs_lret dd_X5_joined_59 rfl H
      · replace H := H.2 hc
        refine fs_iload (i := 4) dd_X5_joined_52 rfl ?_
        refine fs_i2l dd_X5_joined_54 ?_
        refine fs_goto (tgt := 59) dd_X5_joined_55 (by decide) ?_
        exact fs_lret dd_X5_joined_59 rfl H
  by_cases hc27 : (s.1 28 2) = 27
  · replace H := H.2.1 hc27
    refine fs_tableAt (k := 27) (off := 56) (tgt := 60) hc27 dd_X5_joined_4 (by decide) (by decide) rfl (by decide) ?_
    refine fs_iload_n (k0 := 3) (i := 3) dd_X5_joined_60 rfl rfl ?_
    refine fs_if_eq (tgt := 70) dd_X5_joined_61 (by decide) (fun hc => ?_) (fun hc => ?_)
    · replace H := H.1 hc
      refine fs_lload_n (k0 := 1) (i := 1) dd_X5_joined_70 rfl rfl ?_
      exact fs_lret dd_X5_joined_71 rfl H
    · replace H := H.2 hc
      refine fs_iload (i := 4) dd_X5_joined_64 rfl ?_
      refine fs_i2l dd_X5_joined_66 ?_
      refine fs_goto (tgt := 71) dd_X5_joined_67 (by decide) ?_
      exact fs_lret dd_X5_joined_71 rfl H
  by_cases hc28 : (s.1 28 2) = 28
  · replace H := H.2.2.1 hc28
    refine fs_tableAt (k := 28) (off := 68) (tgt := 72) hc28 dd_X5_joined_4 (by decide) (by decide) rfl (by decide) ?_
    refine fs_lload_n (k0 := 1) (i := 1) dd_X5_joined_72 rfl rfl ?_
    refine fs_iload_n (k0 := 3) (i := 3) dd_X5_joined_73 rfl rfl ?_
    refine fs_i2l dd_X5_joined_74 ?_
    refine fs_ladd dd_X5_joined_75 ?_
    exact fs_lret dd_X5_joined_76 rfl H
  by_cases hc29 : (s.1 28 2) = 29
  · replace H := H.2.2.2.1 hc29
    refine fs_tableAt (k := 29) (off := 68) (tgt := 72) hc29 dd_X5_joined_4 (by decide) (by decide) rfl (by decide) ?_
    refine fs_lload_n (k0 := 1) (i := 1) dd_X5_joined_72 rfl rfl ?_
    refine fs_iload_n (k0 := 3) (i := 3) dd_X5_joined_73 rfl rfl ?_
    refine fs_i2l dd_X5_joined_74 ?_
    refine fs_ladd dd_X5_joined_75 ?_
    exact fs_lret dd_X5_joined_76 rfl H
  by_cases hc30 : (s.1 28 2) = 30
  · replace H := H.2.2.2.2.1 hc30
    refine fs_tableAt (k := 30) (off := 73) (tgt := 77) hc30 dd_X5_joined_4 (by decide) (by decide) rfl (by decide) ?_
    refine fs_lload_n (k0 := 1) (i := 1) dd_X5_joined_77 rfl rfl ?_
    refine fs_iload_n (k0 := 3) (i := 3) dd_X5_joined_78 rfl rfl ?_
    refine fs_i2l dd_X5_joined_79 ?_
    refine fs_lmax dd_X5_joined_80 lk_X5_67 (Nat.le_of_ble_eq_true rfl) ?_
    exact fs_lret dd_X5_joined_83 rfl H
  replace H := H.2.2.2.2.2 ⟨hc26, hc27, hc28, hc29, hc30⟩
  refine fs_tableOut' (ks := [26, 27, 28, 29, 30]) (tgt := 84) (by simp only [List.forall_mem_cons]; exact ⟨hc26, hc27, hc28, hc29, hc30, fun _ h => by cases h⟩) dd_X5_joined_4 (by decide) (by decide) ?_
  refine fs_lload_n (k0 := 1) (i := 1) dd_X5_joined_84 rfl rfl ?_
  refine fs_iload_n (k0 := 3) (i := 3) dd_X5_joined_85 rfl rfl ?_
  refine fs_i2l dd_X5_joined_86 ?_
  refine fs_lmin dd_X5_joined_87 lk_X5_73 (Nat.le_of_ble_eq_true rfl) ?_
  exact fs_lret dd_X5_joined_90 rfl H
theorem dd_X5_answer_0 : decode m_X5_answer.2.1 0 = .ok (.aload_n 0, 1) := by decide +kernel
theorem dd_X5_answer_1 : decode m_X5_answer.2.1 1 = .ok (.getfield 24, 3) := by decide +kernel
theorem dd_X5_answer_4 : decode m_X5_answer.2.1 4 = .ok (.bipush 26, 2) := by decide +kernel
theorem dd_X5_answer_6 : decode m_X5_answer.2.1 6 = .ok (.if_icmp .eq 12, 3) := by decide +kernel
theorem dd_X5_answer_9 : decode m_X5_answer.2.1 9 = .ok (.aload_n 0, 1) := by decide +kernel
theorem dd_X5_answer_10 : decode m_X5_answer.2.1 10 = .ok (.getfield 24, 3) := by decide +kernel
theorem dd_X5_answer_13 : decode m_X5_answer.2.1 13 = .ok (.bipush 27, 2) := by decide +kernel
theorem dd_X5_answer_15 : decode m_X5_answer.2.1 15 = .ok (.if_icmp .ne 9, 3) := by decide +kernel
theorem dd_X5_answer_18 : decode m_X5_answer.2.1 18 = .ok (.ldc2_w 51, 3) := by decide +kernel
theorem dd_X5_answer_21 : decode m_X5_answer.2.1 21 = .ok (.goto 4, 3) := by decide +kernel
theorem dd_X5_answer_24 : decode m_X5_answer.2.1 24 = .ok (.lconst 0, 1) := by decide +kernel
theorem dd_X5_answer_25 : decode m_X5_answer.2.1 25 = .ok (.lstore_n 3, 1) := by decide +kernel
theorem dd_X5_answer_26 : decode m_X5_answer.2.1 26 = .ok (.iconst 0, 1) := by decide +kernel
theorem dd_X5_answer_27 : decode m_X5_answer.2.1 27 = .ok (.istore 5, 2) := by decide +kernel
theorem dd_X5_answer_29 : decode m_X5_answer.2.1 29 = .ok (.iload 5, 2) := by decide +kernel
theorem dd_X5_answer_31 : decode m_X5_answer.2.1 31 = .ok (.aload_n 1, 1) := by decide +kernel
theorem dd_X5_answer_32 : decode m_X5_answer.2.1 32 = .ok (.invokevirtual 53, 3) := by decide +kernel
theorem dd_X5_answer_35 : decode m_X5_answer.2.1 35 = .ok (.if_icmp .ge 56, 3) := by decide +kernel
theorem dd_X5_answer_38 : decode m_X5_answer.2.1 38 = .ok (.aload_n 1, 1) := by decide +kernel
theorem dd_X5_answer_39 : decode m_X5_answer.2.1 39 = .ok (.aload_n 2, 1) := by decide +kernel
theorem dd_X5_answer_40 : decode m_X5_answer.2.1 40 = .ok (.aload_n 0, 1) := by decide +kernel
theorem dd_X5_answer_41 : decode m_X5_answer.2.1 41 = .ok (.getfield 9, 3) := by decide +kernel
theorem dd_X5_answer_44 : decode m_X5_answer.2.1 44 = .ok (.aload_n 0, 1) := by decide +kernel
theorem dd_X5_answer_45 : decode m_X5_answer.2.1 45 = .ok (.getfield 50, 3) := by decide +kernel
theorem dd_X5_answer_48 : decode m_X5_answer.2.1 48 = .ok (.iload 5, 2) := by decide +kernel
theorem dd_X5_answer_50 : decode m_X5_answer.2.1 50 = .ok (.invokevirtual 59, 3) := by decide +kernel
theorem dd_X5_answer_53 : decode m_X5_answer.2.1 53 = .ok (.istore 6, 2) := by decide +kernel
theorem dd_X5_answer_55 : decode m_X5_answer.2.1 55 = .ok (.iload 5, 2) := by decide +kernel
theorem dd_X5_answer_57 : decode m_X5_answer.2.1 57 = .ok (.ifCond .ne 18, 3) := by decide +kernel
theorem dd_X5_answer_60 : decode m_X5_answer.2.1 60 = .ok (.aload_n 0, 1) := by decide +kernel
theorem dd_X5_answer_61 : decode m_X5_answer.2.1 61 = .ok (.getfield 24, 3) := by decide +kernel
theorem dd_X5_answer_64 : decode m_X5_answer.2.1 64 = .ok (.bipush 29, 2) := by decide +kernel
theorem dd_X5_answer_66 : decode m_X5_answer.2.1 66 = .ok (.if_icmp .le 9, 3) := by decide +kernel
theorem dd_X5_answer_69 : decode m_X5_answer.2.1 69 = .ok (.iload 6, 2) := by decide +kernel
theorem dd_X5_answer_71 : decode m_X5_answer.2.1 71 = .ok (.i2l, 1) := by decide +kernel
theorem dd_X5_answer_72 : decode m_X5_answer.2.1 72 = .ok (.goto 12, 3) := by decide +kernel
theorem dd_X5_answer_75 : decode m_X5_answer.2.1 75 = .ok (.aload_n 0, 1) := by decide +kernel
theorem dd_X5_answer_76 : decode m_X5_answer.2.1 76 = .ok (.lload_n 3, 1) := by decide +kernel
theorem dd_X5_answer_77 : decode m_X5_answer.2.1 77 = .ok (.iload 6, 2) := by decide +kernel
theorem dd_X5_answer_79 : decode m_X5_answer.2.1 79 = .ok (.iload 5, 2) := by decide +kernel
theorem dd_X5_answer_81 : decode m_X5_answer.2.1 81 = .ok (.invokevirtual 63, 3) := by decide +kernel
theorem dd_X5_answer_84 : decode m_X5_answer.2.1 84 = .ok (.lstore_n 3, 1) := by decide +kernel
theorem dd_X5_answer_85 : decode m_X5_answer.2.1 85 = .ok (.iinc 5 1, 3) := by decide +kernel
theorem dd_X5_answer_88 : decode m_X5_answer.2.1 88 = .ok (.goto (-59), 3) := by decide +kernel
theorem dd_X5_answer_91 : decode m_X5_answer.2.1 91 = .ok (.lload_n 3, 1) := by decide +kernel
theorem dd_X5_answer_92 : decode m_X5_answer.2.1 92 = .ok (.lreturn, 1) := by decide +kernel
def nd_X5_answer_75 (w1 : Nat) (K29 : Int64 → Int32 → fz_s → Prop) (Q : Int64 → fz_s → Prop) (v3 : Int64) (v5 : Int32) (v6 : Int32) (s : fz_s) : Prop :=
  wp_X5_joined v3 v6 v5 s (fun r1 s2 => ∀ x3 : Int32, x3 = v5 + 1 → K29 r1 x3 s2)
def nd_X5_answer_29 (w1 : Nat) (K29 : Int64 → Int32 → fz_s → Prop) (Q : Int64 → fz_s → Prop) (v3 : Int64) (v5 : Int32) (s : fz_s) : Prop :=
  wp_X0_peopleCount  s (fun r1 s2 => ((r1 ≤ v5 → Q v3 s2) ∧ (¬ r1 ≤ v5 → wp_X0_questioned w1 29 1632 (s2.1 28 1) v5 s2 (fun r3 s4 => ((¬ v5 = 0 → nd_X5_answer_75 w1 K29 Q v3 v5 r3 s4) ∧ (v5 = 0 → (((s4.1 28 2) ≤ 29 → nd_X5_answer_75 w1 K29 Q v3 v5 r3 s4) ∧ (¬ (s4.1 28 2) ≤ 29 → ∀ x5 : Int64, x5 = r3.toInt64 → ∀ x6 : Int32, x6 = v5 + 1 → K29 x5 x6 s4))))))))
def lp_X5_answer_29 (w1 : Nat)  (Q : Int64 → fz_s → Prop) : Nat → Int64 → Int32 → fz_s → Prop
  | 0 => fun _ _ _ => False
  | n + 1 => nd_X5_answer_29 w1 (lp_X5_answer_29 w1  Q n) Q
def wp_X5_answer (w1 : Nat) (s : fz_s) (Q : Int64 → fz_s → Prop) : Prop :=
  (((s.1 28 2) = 26 → ∀ x1 : Int64, x1 = (-1) → lp_X5_answer_29 w1  Q 2048 x1 0 s) ∧ (¬ (s.1 28 2) = 26 → ((¬ (s.1 28 2) = 27 → lp_X5_answer_29 w1  Q 2048 0 0 s) ∧ ((s.1 28 2) = 27 → ∀ x2 : Int64, x2 = (-1) → lp_X5_answer_29 w1  Q 2048 x2 0 s))))
set_option maxRecDepth 100000 in
set_option maxHeartbeats 4000000 in
theorem V_nd_X5_answer_75 {g : fz_G} {l : Launch} {d : Nat} (hD : 5 ≤ d) {w1 : Nat} (hw1 : fz_at true w1 10 7) {K29 : Int64 → Int32 → fz_s → Prop} {Q : Int64 → fz_s → Prop} {v3 : Int64} {v5 : Int32} {v6 : Int32} {s : fz_s} (hK29 : ∀ {v3 : Int64} {v5 : Int32} {s : fz_s}, K29 v3 v5 s → fs_V g l m_X5_answer d true 29 [.ref 28, .ref 30, .ref w1, .long v3, fz_J, .int v5, fz_J] [] s (rL Q)) (H : nd_X5_answer_75 w1 K29 Q v3 v5 v6 s) : fs_V g l m_X5_answer d true 75 [.ref 28, .ref 30, .ref w1, .long v3, fz_J, .int v5, .int v6] [] s (rL Q) := by
  obtain ⟨d, rfl⟩ : ∃ e, d = e + 1 := ⟨d - 1, by omega⟩
  unfold nd_X5_answer_75 at H
  refine fs_aload_n (k0 := 0) (i := 0) dd_X5_answer_75 rfl rfl ?_
  refine fs_lload_n (k0 := 3) (i := 3) dd_X5_answer_76 rfl rfl ?_
  refine fs_iload (i := 6) dd_X5_answer_77 rfl ?_
  refine fs_iload (i := 5) dd_X5_answer_79 rfl ?_
  refine fs_callV (y := m_X5_joined) (as := [.long v3, .int v6, .int v5]) dd_X5_answer_81 me_X5_joined lk_X5_63 in_X5_joined se_X5_joined ca_28 rfl rfl rfl (Nat.le_of_ble_eq_true rfl) (Nat.le_of_ble_eq_true rfl) rfl (V_X5_joined (by omega)  H) (k2_L fun r1 s2 H => ?_)
  refine fs_lstore_n (k0 := 3) (i := 3) dd_X5_answer_84 rfl (by decide) ?_
  refine fs_iincN (i := 5) (m := 1) (c := 1) dd_X5_answer_85 rfl (by decide) (by decide) (fun x3 hx3 => ?_)
  replace H := H x3 hx3
  refine fs_goto (tgt := 29) dd_X5_answer_88 (by decide) ?_
  refine fs_weak (ls2 := [.ref 28, .ref 30, .ref w1, .long r1, fz_J, .int x3, fz_J]) (fz_le_e (fz_le_e (fz_le_e (fz_le_e (fz_le_j (fz_le_e (fz_le_j fz_le_n))))))) ?_
  exact hK29 H
set_option maxRecDepth 100000 in
set_option maxHeartbeats 4000000 in
theorem V_nd_X5_answer_29 {g : fz_G} {l : Launch} {d : Nat} (hD : 5 ≤ d) {w1 : Nat} (hw1 : fz_at true w1 10 7) {K29 : Int64 → Int32 → fz_s → Prop} {Q : Int64 → fz_s → Prop} {v3 : Int64} {v5 : Int32} {s : fz_s} (hK29 : ∀ {v3 : Int64} {v5 : Int32} {s : fz_s}, K29 v3 v5 s → fs_V g l m_X5_answer d true 29 [.ref 28, .ref 30, .ref w1, .long v3, fz_J, .int v5, fz_J] [] s (rL Q)) (H : nd_X5_answer_29 w1 K29 Q v3 v5 s) : fs_V g l m_X5_answer d true 29 [.ref 28, .ref 30, .ref w1, .long v3, fz_J, .int v5, fz_J] [] s (rL Q) := by
  obtain ⟨d, rfl⟩ : ∃ e, d = e + 1 := ⟨d - 1, by omega⟩
  unfold nd_X5_answer_29 at H
  refine fs_iload (i := 5) dd_X5_answer_29 rfl ?_
  refine fs_aload_n (k0 := 1) (i := 1) dd_X5_answer_31 rfl rfl ?_
  refine fs_callV (y := m_X0_peopleCount) (as := []) dd_X5_answer_32 me_X0_peopleCount lk_X5_53 in_X0_peopleCount se_X0_peopleCount ca_30 rfl rfl rfl (Nat.le_of_ble_eq_true rfl) (Nat.le_of_ble_eq_true rfl) rfl (V_X0_peopleCount (by omega)  H) (k2_I fun r1 s2 H => ?_)
  refine fs_icmp_ge (tgt := 91) dd_X5_answer_35 (by decide) (fun hc => ?_) (fun hc => ?_)
  · replace H := H.1 hc
    refine fs_lload_n (k0 := 3) (i := 3) dd_X5_answer_91 rfl rfl ?_
    exact fs_lret dd_X5_answer_92 rfl H
  · replace H := H.2 hc
    refine fs_aload_n (k0 := 1) (i := 1) dd_X5_answer_38 rfl rfl ?_
    refine fs_aload_n (k0 := 2) (i := 2) dd_X5_answer_39 rfl rfl ?_
    refine fs_aload_n (k0 := 0) (i := 0) dd_X5_answer_40 rfl rfl ?_
    refine fs_getr (ci := 5) (j := 0) (q := 29) dd_X5_answer_41 fl_X5_9 ca_28 rfl (Or.inr ⟨_, rfl⟩) rfl (by decide) ?_
    refine fs_aload_n (k0 := 0) (i := 0) dd_X5_answer_44 rfl rfl ?_
    refine fs_geti (ci := 5) (j := 1) dd_X5_answer_45 fl_X5_50 ca_28 rfl (Or.inl rfl) ?_
    refine fs_iload (i := 5) dd_X5_answer_48 rfl ?_
    refine fs_callV (y := m_X0_questioned) (as := [.ref w1, .ref 29, .int (s2.1 28 1), .int v5]) dd_X5_answer_50 me_X0_questioned lk_X5_59 in_X0_questioned se_X0_questioned ca_30 rfl rfl rfl (Nat.le_of_ble_eq_true rfl) (Nat.le_of_ble_eq_true rfl) rfl (V_X0_questioned (by omega) hw1 ca_29 H) (k2_I fun r3 s4 H => ?_)
    refine fs_istore (i := 6) dd_X5_answer_53 (by decide) ?_
    refine fs_iload (i := 5) dd_X5_answer_55 rfl ?_
    refine fs_if_ne (tgt := 75) dd_X5_answer_57 (by decide) (fun hc => ?_) (fun hc => ?_)
    · replace H := H.1 hc
      refine fs_weak (ls2 := [.ref 28, .ref 30, .ref w1, .long v3, fz_J, .int v5, .int r3]) (fz_le_e (fz_le_e (fz_le_e (fz_le_e (fz_le_j (fz_le_e (fz_le_e fz_le_n))))))) ?_
      exact V_nd_X5_answer_75 hD  hw1 hK29 H
    · replace H := H.2 hc
      refine fs_aload_n (k0 := 0) (i := 0) dd_X5_answer_60 rfl rfl ?_
      refine fs_geti (ci := 5) (j := 2) dd_X5_answer_61 fl_X5_24 ca_28 rfl (Or.inl rfl) ?_
      refine fs_bipush (n := 29) (v := 29) dd_X5_answer_64 (by decide) ?_
      refine fs_icmp_le (tgt := 75) dd_X5_answer_66 (by decide) (fun hc => ?_) (fun hc => ?_)
      · replace H := H.1 hc
        refine fs_weak (ls2 := [.ref 28, .ref 30, .ref w1, .long v3, fz_J, .int v5, .int r3]) (fz_le_e (fz_le_e (fz_le_e (fz_le_e (fz_le_j (fz_le_e (fz_le_e fz_le_n))))))) ?_
        exact V_nd_X5_answer_75 hD  hw1 hK29 H
      · replace H := H.2 hc
        refine fs_iload (i := 6) dd_X5_answer_69 rfl ?_
        refine fs_i2l dd_X5_answer_71 ?_
        refine fs_goto (tgt := 84) dd_X5_answer_72 (by decide) ?_
        refine fs_topl (fun x5 hx5 => ?_)
        replace H := H x5 hx5
        refine fs_lstore_n (k0 := 3) (i := 3) dd_X5_answer_84 rfl (by decide) ?_
        refine fs_iincN (i := 5) (m := 1) (c := 1) dd_X5_answer_85 rfl (by decide) (by decide) (fun x6 hx6 => ?_)
        replace H := H x6 hx6
        refine fs_goto (tgt := 29) dd_X5_answer_88 (by decide) ?_
        refine fs_weak (ls2 := [.ref 28, .ref 30, .ref w1, .long x5, fz_J, .int x6, fz_J]) (fz_le_e (fz_le_e (fz_le_e (fz_le_e (fz_le_j (fz_le_e (fz_le_j fz_le_n))))))) ?_
        exact hK29 H
set_option maxRecDepth 100000 in
set_option maxHeartbeats 4000000 in
theorem V_lp_X5_answer_29 {g : fz_G} {l : Launch} {d : Nat} (hD : 5 ≤ d) {w1 : Nat} (hw1 : fz_at true w1 10 7)  {Q : Int64 → fz_s → Prop}  (n : Nat) : ∀ {v3 : Int64} {v5 : Int32} {s : fz_s}, lp_X5_answer_29 w1  Q n v3 v5 s → fs_V g l m_X5_answer d true 29 [.ref 28, .ref 30, .ref w1, .long v3, fz_J, .int v5, fz_J] [] s (rL Q) := by
  induction n with
  | zero => intro v3 v5 s H; exact H.elim
  | succ n ih => intro v3 v5 s H; exact V_nd_X5_answer_29 hD hw1 (fun H => ih H) H
set_option maxRecDepth 100000 in
set_option maxHeartbeats 4000000 in
theorem V_X5_answer {g : fz_G} {l : Launch} {d : Nat} (hD : 5 ≤ d) {w1 : Nat} (hw1 : fz_at true w1 10 7) {s : fz_s} {Q : Int64 → fz_s → Prop} (H : wp_X5_answer w1 s Q) : fs_V g l m_X5_answer d true 0 (fz_en [.ref 28, .ref 30, .ref w1] 7) [] s (rL Q) := by
  obtain ⟨d, rfl⟩ : ∃ e, d = e + 1 := ⟨d - 1, by omega⟩
  unfold wp_X5_answer at H
  refine fs_aload_n (k0 := 0) (i := 0) dd_X5_answer_0 rfl rfl ?_
  refine fs_geti (ci := 5) (j := 2) dd_X5_answer_1 fl_X5_24 ca_28 rfl (Or.inl rfl) ?_
  refine fs_bipush (n := 26) (v := 26) dd_X5_answer_4 (by decide) ?_
  refine fs_icmp_eq (tgt := 18) dd_X5_answer_6 (by decide) (fun hc => ?_) (fun hc => ?_)
  · replace H := H.1 hc
    refine fs_ldc2 (idx := 51) (v := -1) dd_X5_answer_18 cl_X5_51 ?_
    refine fs_goto (tgt := 25) dd_X5_answer_21 (by decide) ?_
    refine fs_topl (fun x1 hx1 => ?_)
    replace H := H x1 hx1
    refine fs_lstore_n (k0 := 3) (i := 3) dd_X5_answer_25 rfl (by decide) ?_
    refine fs_iconst (n := 0) (v := 0) dd_X5_answer_26 (by decide) ?_
    refine fs_istore (i := 5) dd_X5_answer_27 (by decide) ?_
    refine fs_weak (ls2 := [.ref 28, .ref 30, .ref w1, .long x1, fz_J, .int 0, fz_J]) (fz_le_e (fz_le_e (fz_le_e (fz_le_e (fz_le_j (fz_le_e (fz_le_j fz_le_n))))))) ?_
    exact V_lp_X5_answer_29 hD  hw1  2048 H
  · replace H := H.2 hc
    refine fs_aload_n (k0 := 0) (i := 0) dd_X5_answer_9 rfl rfl ?_
    refine fs_geti (ci := 5) (j := 2) dd_X5_answer_10 fl_X5_24 ca_28 rfl (Or.inl rfl) ?_
    refine fs_bipush (n := 27) (v := 27) dd_X5_answer_13 (by decide) ?_
    refine fs_icmp_ne (tgt := 24) dd_X5_answer_15 (by decide) (fun hc => ?_) (fun hc => ?_)
    · replace H := H.1 hc
      refine fs_lconst (n := 0) (v := 0) dd_X5_answer_24 (by decide) ?_
      refine fs_lstore_n (k0 := 3) (i := 3) dd_X5_answer_25 rfl (by decide) ?_
      refine fs_iconst (n := 0) (v := 0) dd_X5_answer_26 (by decide) ?_
      refine fs_istore (i := 5) dd_X5_answer_27 (by decide) ?_
      refine fs_weak (ls2 := [.ref 28, .ref 30, .ref w1, .long 0, fz_J, .int 0, fz_J]) (fz_le_e (fz_le_e (fz_le_e (fz_le_e (fz_le_j (fz_le_e (fz_le_j fz_le_n))))))) ?_
      exact V_lp_X5_answer_29 hD  hw1  2048 H
    · replace H := H.2 hc
      refine fs_ldc2 (idx := 51) (v := -1) dd_X5_answer_18 cl_X5_51 ?_
      refine fs_goto (tgt := 25) dd_X5_answer_21 (by decide) ?_
      refine fs_topl (fun x2 hx2 => ?_)
      replace H := H x2 hx2
      refine fs_lstore_n (k0 := 3) (i := 3) dd_X5_answer_25 rfl (by decide) ?_
      refine fs_iconst (n := 0) (v := 0) dd_X5_answer_26 (by decide) ?_
      refine fs_istore (i := 5) dd_X5_answer_27 (by decide) ?_
      refine fs_weak (ls2 := [.ref 28, .ref 30, .ref w1, .long x2, fz_J, .int 0, fz_J]) (fz_le_e (fz_le_e (fz_le_e (fz_le_e (fz_le_j (fz_le_e (fz_le_j fz_le_n))))))) ?_
      exact V_lp_X5_answer_29 hD  hw1  2048 H
theorem dd_X11_paint_0 : decode m_X11_paint.2.1 0 = .ok (.aload_n 0, 1) := by decide +kernel
theorem dd_X11_paint_1 : decode m_X11_paint.2.1 1 = .ok (.getfield 358, 3) := by decide +kernel
theorem dd_X11_paint_4 : decode m_X11_paint.2.1 4 = .ok (.bipush 33, 2) := by decide +kernel
theorem dd_X11_paint_6 : decode m_X11_paint.2.1 6 = .ok (.if_icmp .ge 23, 3) := by decide +kernel
theorem dd_X11_paint_9 : decode m_X11_paint.2.1 9 = .ok (.aload_n 0, 1) := by decide +kernel
theorem dd_X11_paint_10 : decode m_X11_paint.2.1 10 = .ok (.getfield 102, 3) := by decide +kernel
theorem dd_X11_paint_13 : decode m_X11_paint.2.1 13 = .ok (.aload_n 0, 1) := by decide +kernel
theorem dd_X11_paint_14 : decode m_X11_paint.2.1 14 = .ok (.getfield 358, 3) := by decide +kernel
theorem dd_X11_paint_17 : decode m_X11_paint.2.1 17 = .ok (.iload_n 1, 1) := by decide +kernel
theorem dd_X11_paint_18 : decode m_X11_paint.2.1 18 = .ok (.iastore, 1) := by decide +kernel
theorem dd_X11_paint_19 : decode m_X11_paint.2.1 19 = .ok (.aload_n 0, 1) := by decide +kernel
theorem dd_X11_paint_20 : decode m_X11_paint.2.1 20 = .ok (.dup, 1) := by decide +kernel
theorem dd_X11_paint_21 : decode m_X11_paint.2.1 21 = .ok (.getfield 358, 3) := by decide +kernel
theorem dd_X11_paint_24 : decode m_X11_paint.2.1 24 = .ok (.iconst 1, 1) := by decide +kernel
theorem dd_X11_paint_25 : decode m_X11_paint.2.1 25 = .ok (.iadd, 1) := by decide +kernel
theorem dd_X11_paint_26 : decode m_X11_paint.2.1 26 = .ok (.putfield 358, 3) := by decide +kernel
theorem dd_X11_paint_29 : decode m_X11_paint.2.1 29 = .ok (.return_, 1) := by decide +kernel
def wp_X11_paint (p0 : Int32) (s : fz_s) (Q : fz_s → Prop) : Prop :=
  ((33 ≤ (s.1 2 15) → Q s) ∧ (¬ 33 ≤ (s.1 2 15) → vp_in (s.1 2 15) 33 ∧ ∀ s1 : fz_s, s1 = si s 194 (s.1 2 15).toNatClampNeg p0 → ∀ s2 : fz_s, s2 = si s1 2 15 ((s1.1 2 15) + 1) → Q s2))
set_option maxRecDepth 100000 in
set_option maxHeartbeats 4000000 in
theorem V_X11_paint {g : fz_G} {l : Launch} {d : Nat} (hD : 0 ≤ d) {p0 : Int32}  {s : fz_s} {Q : fz_s → Prop} (H : wp_X11_paint p0 s Q) : fs_V g l m_X11_paint d true 0 (fz_en [.ref 2, .int p0] 2) [] s (rV Q) := by
  unfold wp_X11_paint at H
  refine fs_aload_n (k0 := 0) (i := 0) dd_X11_paint_0 rfl rfl ?_
  refine fs_geti (ci := 11) (j := 15) dd_X11_paint_1 fl_X11_358 ca_2 rfl (Or.inl rfl) ?_
  refine fs_bipush (n := 33) (v := 33) dd_X11_paint_4 (by decide) ?_
  refine fs_icmp_ge (tgt := 29) dd_X11_paint_6 (by decide) (fun hc => ?_) (fun hc => ?_)
  · replace H := H.1 hc
    exact fs_vret dd_X11_paint_29 rfl H
  · replace H := H.2 hc
    refine fs_aload_n (k0 := 0) (i := 0) dd_X11_paint_9 rfl rfl ?_
    refine fs_getr (ci := 11) (j := 14) (q := 194) dd_X11_paint_10 fl_X11_102 ca_2 rfl (Or.inr ⟨_, rfl⟩) rfl (by decide) ?_
    refine fs_aload_n (k0 := 0) (i := 0) dd_X11_paint_13 rfl rfl ?_
    refine fs_geti (ci := 11) (j := 15) dd_X11_paint_14 fl_X11_358 ca_2 rfl (Or.inl rfl) ?_
    refine fs_iload_n (k0 := 1) (i := 1) dd_X11_paint_17 rfl rfl ?_
    have hb := H.1
    replace H := H.2
    refine fs_iast dd_X11_paint_18 ca_194 hb ?_
    refine fs_tops (fun s1 hs1 => ?_)
    replace H := H s1 hs1
    refine fs_aload_n (k0 := 0) (i := 0) dd_X11_paint_19 rfl rfl ?_
    refine fs_dup dd_X11_paint_20 rfl ?_
    refine fs_geti (ci := 11) (j := 15) dd_X11_paint_21 fl_X11_358 ca_2 rfl (Or.inl rfl) ?_
    refine fs_iconst (n := 1) (v := 1) dd_X11_paint_24 (by decide) ?_
    refine fs_iadd dd_X11_paint_25 ?_
    refine fs_puti (ci := 11) (j := 15) dd_X11_paint_26 fl_X11_358 (fun _ _ _ h => by cases h; rfl) ca_2 rfl (Or.inl rfl) ?_
    refine fs_tops (fun s2 hs2 => ?_)
    replace H := H s2 hs2
    exact fs_vret dd_X11_paint_29 rfl H
theorem dd_X11_paintPair_0 : decode m_X11_paintPair.2.1 0 = .ok (.aload_n 0, 1) := by decide +kernel
theorem dd_X11_paintPair_1 : decode m_X11_paintPair.2.1 1 = .ok (.iload_n 1, 1) := by decide +kernel
theorem dd_X11_paintPair_2 : decode m_X11_paintPair.2.1 2 = .ok (.bipush 8, 2) := by decide +kernel
theorem dd_X11_paintPair_4 : decode m_X11_paintPair.2.1 4 = .ok (.ishr, 1) := by decide +kernel
theorem dd_X11_paintPair_5 : decode m_X11_paintPair.2.1 5 = .ok (.sipush 255, 3) := by decide +kernel
theorem dd_X11_paintPair_8 : decode m_X11_paintPair.2.1 8 = .ok (.iand, 1) := by decide +kernel
theorem dd_X11_paintPair_9 : decode m_X11_paintPair.2.1 9 = .ok (.invokevirtual 364, 3) := by decide +kernel
theorem dd_X11_paintPair_12 : decode m_X11_paintPair.2.1 12 = .ok (.aload_n 0, 1) := by decide +kernel
theorem dd_X11_paintPair_13 : decode m_X11_paintPair.2.1 13 = .ok (.iload_n 1, 1) := by decide +kernel
theorem dd_X11_paintPair_14 : decode m_X11_paintPair.2.1 14 = .ok (.sipush 255, 3) := by decide +kernel
theorem dd_X11_paintPair_17 : decode m_X11_paintPair.2.1 17 = .ok (.iand, 1) := by decide +kernel
theorem dd_X11_paintPair_18 : decode m_X11_paintPair.2.1 18 = .ok (.invokevirtual 364, 3) := by decide +kernel
theorem dd_X11_paintPair_21 : decode m_X11_paintPair.2.1 21 = .ok (.return_, 1) := by decide +kernel
def wp_X11_paintPair (p0 : Int32) (s : fz_s) (Q : fz_s → Prop) : Prop :=
  wp_X11_paint ((p0 >>> (8 &&& 31)) &&& 255) s (fun s2 => wp_X11_paint (p0 &&& 255) s2 (fun s4 => Q s4))
set_option maxRecDepth 100000 in
set_option maxHeartbeats 4000000 in
theorem V_X11_paintPair {g : fz_G} {l : Launch} {d : Nat} (hD : 1 ≤ d) {p0 : Int32}  {s : fz_s} {Q : fz_s → Prop} (H : wp_X11_paintPair p0 s Q) : fs_V g l m_X11_paintPair d true 0 (fz_en [.ref 2, .int p0] 2) [] s (rV Q) := by
  obtain ⟨d, rfl⟩ : ∃ e, d = e + 1 := ⟨d - 1, by omega⟩
  unfold wp_X11_paintPair at H
  refine fs_aload_n (k0 := 0) (i := 0) dd_X11_paintPair_0 rfl rfl ?_
  refine fs_iload_n (k0 := 1) (i := 1) dd_X11_paintPair_1 rfl rfl ?_
  refine fs_bipush (n := 8) (v := 8) dd_X11_paintPair_2 (by decide) ?_
  refine fs_ishr dd_X11_paintPair_4 ?_
  refine fs_sipush (n := 255) (v := 255) dd_X11_paintPair_5 (by decide) ?_
  refine fs_iand dd_X11_paintPair_8 ?_
  refine fs_callV (y := m_X11_paint) (as := [.int ((p0 >>> (8 &&& 31)) &&& 255)]) dd_X11_paintPair_9 me_X11_paint lk_X11_364 in_X11_paint se_X11_paint ca_2 rfl rfl rfl (Nat.le_of_ble_eq_true rfl) (Nat.le_of_ble_eq_true rfl) rfl (V_X11_paint (by omega)  H) (k2_V fun s2 H => ?_)
  refine fs_aload_n (k0 := 0) (i := 0) dd_X11_paintPair_12 rfl rfl ?_
  refine fs_iload_n (k0 := 1) (i := 1) dd_X11_paintPair_13 rfl rfl ?_
  refine fs_sipush (n := 255) (v := 255) dd_X11_paintPair_14 (by decide) ?_
  refine fs_iand dd_X11_paintPair_17 ?_
  refine fs_callV (y := m_X11_paint) (as := [.int (p0 &&& 255)]) dd_X11_paintPair_18 me_X11_paint lk_X11_364 in_X11_paint se_X11_paint ca_2 rfl rfl rfl (Nat.le_of_ble_eq_true rfl) (Nat.le_of_ble_eq_true rfl) rfl (V_X11_paint (by omega)  H) (k2_V fun s4 H => ?_)
  exact fs_vret dd_X11_paintPair_21 rfl H
theorem dd_X11_check_0 : decode m_X11_check.2.1 0 = .ok (.sipush 199, 3) := by decide +kernel
theorem dd_X11_check_3 : decode m_X11_check.2.1 3 = .ok (.istore_n 2, 1) := by decide +kernel
theorem dd_X11_check_4 : decode m_X11_check.2.1 4 = .ok (.iconst 0, 1) := by decide +kernel
theorem dd_X11_check_5 : decode m_X11_check.2.1 5 = .ok (.istore_n 3, 1) := by decide +kernel
theorem dd_X11_check_6 : decode m_X11_check.2.1 6 = .ok (.iload_n 3, 1) := by decide +kernel
theorem dd_X11_check_7 : decode m_X11_check.2.1 7 = .ok (.iload_n 1, 1) := by decide +kernel
theorem dd_X11_check_8 : decode m_X11_check.2.1 8 = .ok (.if_icmp .ge 27, 3) := by decide +kernel
theorem dd_X11_check_11 : decode m_X11_check.2.1 11 = .ok (.iload_n 3, 1) := by decide +kernel
theorem dd_X11_check_12 : decode m_X11_check.2.1 12 = .ok (.aload_n 0, 1) := by decide +kernel
theorem dd_X11_check_13 : decode m_X11_check.2.1 13 = .ok (.arraylength, 1) := by decide +kernel
theorem dd_X11_check_14 : decode m_X11_check.2.1 14 = .ok (.if_icmp .ge 21, 3) := by decide +kernel
theorem dd_X11_check_17 : decode m_X11_check.2.1 17 = .ok (.iconst 3, 1) := by decide +kernel
theorem dd_X11_check_18 : decode m_X11_check.2.1 18 = .ok (.iload_n 2, 1) := by decide +kernel
theorem dd_X11_check_19 : decode m_X11_check.2.1 19 = .ok (.imul, 1) := by decide +kernel
theorem dd_X11_check_20 : decode m_X11_check.2.1 20 = .ok (.aload_n 0, 1) := by decide +kernel
theorem dd_X11_check_21 : decode m_X11_check.2.1 21 = .ok (.iload_n 3, 1) := by decide +kernel
theorem dd_X11_check_22 : decode m_X11_check.2.1 22 = .ok (.iaload, 1) := by decide +kernel
theorem dd_X11_check_23 : decode m_X11_check.2.1 23 = .ok (.iadd, 1) := by decide +kernel
theorem dd_X11_check_24 : decode m_X11_check.2.1 24 = .ok (.sipush 251, 3) := by decide +kernel
theorem dd_X11_check_27 : decode m_X11_check.2.1 27 = .ok (.irem, 1) := by decide +kernel
theorem dd_X11_check_28 : decode m_X11_check.2.1 28 = .ok (.istore_n 2, 1) := by decide +kernel
theorem dd_X11_check_29 : decode m_X11_check.2.1 29 = .ok (.iinc 3 1, 3) := by decide +kernel
theorem dd_X11_check_32 : decode m_X11_check.2.1 32 = .ok (.goto (-26), 3) := by decide +kernel
theorem dd_X11_check_35 : decode m_X11_check.2.1 35 = .ok (.iload_n 2, 1) := by decide +kernel
theorem dd_X11_check_36 : decode m_X11_check.2.1 36 = .ok (.ireturn, 1) := by decide +kernel
def nd_X11_check_6 (a0 : Nat) (n0 : Nat) (K6 : Int32 → Int32 → Int32 → fz_s → Prop) (Q : Int32 → fz_s → Prop) (v1 : Int32) (v2 : Int32) (v3 : Int32) (s : fz_s) : Prop :=
  ((v1 ≤ v3 → Q v2 s) ∧ (¬ v1 ≤ v3 → (((nI n0) ≤ v3 → Q v2 s) ∧ (¬ (nI n0) ≤ v3 → vp_in v3 n0 ∧ ∀ x1 : Int32, x1 = (((3 * v2) + (s.1 a0 v3.toNatClampNeg)) - ((3 * v2) + (s.1 a0 v3.toNatClampNeg)) / 251 * 251) → ∀ x2 : Int32, x2 = v3 + 1 → K6 v1 x1 x2 s))))
def lp_X11_check_6 (a0 : Nat) (n0 : Nat)  (Q : Int32 → fz_s → Prop) : Nat → Int32 → Int32 → Int32 → fz_s → Prop
  | 0 => fun _ _ _ _ => False
  | n + 1 => nd_X11_check_6 a0 n0 (lp_X11_check_6 a0 n0  Q n) Q
def wp_X11_check (a0 : Nat) (n0 : Nat) (p1 : Int32) (s : fz_s) (Q : Int32 → fz_s → Prop) : Prop :=
  lp_X11_check_6 a0 n0  Q 2048 p1 199 0 s
set_option maxRecDepth 100000 in
set_option maxHeartbeats 4000000 in
theorem V_nd_X11_check_6 {g : fz_G} {l : Launch} {d : Nat} (hD : 0 ≤ d) {a0 : Nat} {n0 : Nat} (ha0 : fz_at true a0 14 n0) {K6 : Int32 → Int32 → Int32 → fz_s → Prop} {Q : Int32 → fz_s → Prop} {v1 : Int32} {v2 : Int32} {v3 : Int32} {s : fz_s} (hK6 : ∀ {v1 : Int32} {v2 : Int32} {v3 : Int32} {s : fz_s}, K6 v1 v2 v3 s → fs_V g l m_X11_check d true 6 [.ref a0, .int v1, .int v2, .int v3] [] s (rI Q)) (H : nd_X11_check_6 a0 n0 K6 Q v1 v2 v3 s) : fs_V g l m_X11_check d true 6 [.ref a0, .int v1, .int v2, .int v3] [] s (rI Q) := by
  unfold nd_X11_check_6 at H
  refine fs_iload_n (k0 := 3) (i := 3) dd_X11_check_6 rfl rfl ?_
  refine fs_iload_n (k0 := 1) (i := 1) dd_X11_check_7 rfl rfl ?_
  refine fs_icmp_ge (tgt := 35) dd_X11_check_8 (by decide) (fun hc => ?_) (fun hc => ?_)
  · replace H := H.1 hc
    refine fs_iload_n (k0 := 2) (i := 2) dd_X11_check_35 rfl rfl ?_
    exact fs_iret dd_X11_check_36 rfl H
  · replace H := H.2 hc
    refine fs_iload_n (k0 := 3) (i := 3) dd_X11_check_11 rfl rfl ?_
    refine fs_aload_n (k0 := 0) (i := 0) dd_X11_check_12 rfl rfl ?_
    refine fs_alen dd_X11_check_13 ha0 ?_
    refine fs_icmp_ge (tgt := 35) dd_X11_check_14 (by decide) (fun hc => ?_) (fun hc => ?_)
    · replace H := H.1 hc
      refine fs_iload_n (k0 := 2) (i := 2) dd_X11_check_35 rfl rfl ?_
      exact fs_iret dd_X11_check_36 rfl H
    · replace H := H.2 hc
      refine fs_iconst (n := 3) (v := 3) dd_X11_check_17 (by decide) ?_
      refine fs_iload_n (k0 := 2) (i := 2) dd_X11_check_18 rfl rfl ?_
      refine fs_imul dd_X11_check_19 ?_
      refine fs_aload_n (k0 := 0) (i := 0) dd_X11_check_20 rfl rfl ?_
      refine fs_iload_n (k0 := 3) (i := 3) dd_X11_check_21 rfl rfl ?_
      have hb := H.1
      replace H := H.2
      refine fs_iald dd_X11_check_22 ha0 hb ?_
      refine fs_iadd dd_X11_check_23 ?_
      refine fs_sipush (n := 251) (v := 251) dd_X11_check_24 (by decide) ?_
      refine fs_irem dd_X11_check_27 (by decide) ?_
      refine fs_topi (fun x1 hx1 => ?_)
      replace H := H x1 hx1
      refine fs_istore_n (k0 := 2) (i := 2) dd_X11_check_28 rfl (by decide) ?_
      refine fs_iincN (i := 3) (m := 1) (c := 1) dd_X11_check_29 rfl (by decide) (by decide) (fun x2 hx2 => ?_)
      replace H := H x2 hx2
      refine fs_goto (tgt := 6) dd_X11_check_32 (by decide) ?_
      refine fs_weak (ls2 := [.ref a0, .int v1, .int x1, .int x2]) (fz_le_e (fz_le_e (fz_le_e (fz_le_e fz_le_n)))) ?_
      exact hK6 H
set_option maxRecDepth 100000 in
set_option maxHeartbeats 4000000 in
theorem V_lp_X11_check_6 {g : fz_G} {l : Launch} {d : Nat} (hD : 0 ≤ d) {a0 : Nat} {n0 : Nat} (ha0 : fz_at true a0 14 n0)  {Q : Int32 → fz_s → Prop}  (n : Nat) : ∀ {v1 : Int32} {v2 : Int32} {v3 : Int32} {s : fz_s}, lp_X11_check_6 a0 n0  Q n v1 v2 v3 s → fs_V g l m_X11_check d true 6 [.ref a0, .int v1, .int v2, .int v3] [] s (rI Q) := by
  induction n with
  | zero => intro v1 v2 v3 s H; exact H.elim
  | succ n ih => intro v1 v2 v3 s H; exact V_nd_X11_check_6 hD ha0 (fun H => ih H) H
set_option maxRecDepth 100000 in
set_option maxHeartbeats 4000000 in
theorem V_X11_check {g : fz_G} {l : Launch} {d : Nat} (hD : 0 ≤ d) {a0 : Nat} {n0 : Nat} {p1 : Int32} (ha0 : fz_at true a0 14 n0) {s : fz_s} {Q : Int32 → fz_s → Prop} (H : wp_X11_check a0 n0 p1 s Q) : fs_V g l m_X11_check d true 0 (fz_en [.ref a0, .int p1] 4) [] s (rI Q) := by
  unfold wp_X11_check at H
  refine fs_sipush (n := 199) (v := 199) dd_X11_check_0 (by decide) ?_
  refine fs_istore_n (k0 := 2) (i := 2) dd_X11_check_3 rfl (by decide) ?_
  refine fs_iconst (n := 0) (v := 0) dd_X11_check_4 (by decide) ?_
  refine fs_istore_n (k0 := 3) (i := 3) dd_X11_check_5 rfl (by decide) ?_
  refine fs_weak (ls2 := [.ref a0, .int p1, .int 199, .int 0]) (fz_le_e (fz_le_e (fz_le_e (fz_le_e fz_le_n)))) ?_
  exact V_lp_X11_check_6 hD  ha0  2048 H
theorem dd_X11_image_0 : decode m_X11_image.2.1 0 = .ok (.aload_n 0, 1) := by decide +kernel
theorem dd_X11_image_1 : decode m_X11_image.2.1 1 = .ok (.iconst 0, 1) := by decide +kernel
theorem dd_X11_image_2 : decode m_X11_image.2.1 2 = .ok (.putfield 358, 3) := by decide +kernel
theorem dd_X11_image_5 : decode m_X11_image.2.1 5 = .ok (.aload_n 0, 1) := by decide +kernel
theorem dd_X11_image_6 : decode m_X11_image.2.1 6 = .ok (.aload_n 0, 1) := by decide +kernel
theorem dd_X11_image_7 : decode m_X11_image.2.1 7 = .ok (.getfield 63, 3) := by decide +kernel
theorem dd_X11_image_10 : decode m_X11_image.2.1 10 = .ok (.getfield 165, 3) := by decide +kernel
theorem dd_X11_image_13 : decode m_X11_image.2.1 13 = .ok (.invokevirtual 361, 3) := by decide +kernel
theorem dd_X11_image_16 : decode m_X11_image.2.1 16 = .ok (.iconst 0, 1) := by decide +kernel
theorem dd_X11_image_17 : decode m_X11_image.2.1 17 = .ok (.istore_n 1, 1) := by decide +kernel
theorem dd_X11_image_18 : decode m_X11_image.2.1 18 = .ok (.iload_n 1, 1) := by decide +kernel
theorem dd_X11_image_19 : decode m_X11_image.2.1 19 = .ok (.aload_n 0, 1) := by decide +kernel
theorem dd_X11_image_20 : decode m_X11_image.2.1 20 = .ok (.getfield 34, 3) := by decide +kernel
theorem dd_X11_image_23 : decode m_X11_image.2.1 23 = .ok (.getfield 159, 3) := by decide +kernel
theorem dd_X11_image_26 : decode m_X11_image.2.1 26 = .ok (.if_icmp .ge 35, 3) := by decide +kernel
theorem dd_X11_image_29 : decode m_X11_image.2.1 29 = .ok (.aload_n 0, 1) := by decide +kernel
theorem dd_X11_image_30 : decode m_X11_image.2.1 30 = .ok (.aload_n 0, 1) := by decide +kernel
theorem dd_X11_image_31 : decode m_X11_image.2.1 31 = .ok (.getfield 63, 3) := by decide +kernel
theorem dd_X11_image_34 : decode m_X11_image.2.1 34 = .ok (.getfield 195, 3) := by decide +kernel
theorem dd_X11_image_37 : decode m_X11_image.2.1 37 = .ok (.iload_n 1, 1) := by decide +kernel
theorem dd_X11_image_38 : decode m_X11_image.2.1 38 = .ok (.iaload, 1) := by decide +kernel
theorem dd_X11_image_39 : decode m_X11_image.2.1 39 = .ok (.invokevirtual 361, 3) := by decide +kernel
theorem dd_X11_image_42 : decode m_X11_image.2.1 42 = .ok (.aload_n 0, 1) := by decide +kernel
theorem dd_X11_image_43 : decode m_X11_image.2.1 43 = .ok (.aload_n 0, 1) := by decide +kernel
theorem dd_X11_image_44 : decode m_X11_image.2.1 44 = .ok (.getfield 63, 3) := by decide +kernel
theorem dd_X11_image_47 : decode m_X11_image.2.1 47 = .ok (.getfield 198, 3) := by decide +kernel
theorem dd_X11_image_50 : decode m_X11_image.2.1 50 = .ok (.iload_n 1, 1) := by decide +kernel
theorem dd_X11_image_51 : decode m_X11_image.2.1 51 = .ok (.iaload, 1) := by decide +kernel
theorem dd_X11_image_52 : decode m_X11_image.2.1 52 = .ok (.invokevirtual 364, 3) := by decide +kernel
theorem dd_X11_image_55 : decode m_X11_image.2.1 55 = .ok (.iinc 1 1, 3) := by decide +kernel
theorem dd_X11_image_58 : decode m_X11_image.2.1 58 = .ok (.goto (-40), 3) := by decide +kernel
theorem dd_X11_image_61 : decode m_X11_image.2.1 61 = .ok (.iconst 0, 1) := by decide +kernel
theorem dd_X11_image_62 : decode m_X11_image.2.1 62 = .ok (.istore_n 1, 1) := by decide +kernel
theorem dd_X11_image_63 : decode m_X11_image.2.1 63 = .ok (.iload_n 1, 1) := by decide +kernel
theorem dd_X11_image_64 : decode m_X11_image.2.1 64 = .ok (.aload_n 0, 1) := by decide +kernel
theorem dd_X11_image_65 : decode m_X11_image.2.1 65 = .ok (.getfield 34, 3) := by decide +kernel
theorem dd_X11_image_68 : decode m_X11_image.2.1 68 = .ok (.getfield 162, 3) := by decide +kernel
theorem dd_X11_image_71 : decode m_X11_image.2.1 71 = .ok (.if_icmp .ge 68, 3) := by decide +kernel
theorem dd_X11_image_74 : decode m_X11_image.2.1 74 = .ok (.aload_n 0, 1) := by decide +kernel
theorem dd_X11_image_75 : decode m_X11_image.2.1 75 = .ok (.aload_n 0, 1) := by decide +kernel
theorem dd_X11_image_76 : decode m_X11_image.2.1 76 = .ok (.getfield 63, 3) := by decide +kernel
theorem dd_X11_image_79 : decode m_X11_image.2.1 79 = .ok (.getfield 224, 3) := by decide +kernel
theorem dd_X11_image_82 : decode m_X11_image.2.1 82 = .ok (.iload_n 1, 1) := by decide +kernel
theorem dd_X11_image_83 : decode m_X11_image.2.1 83 = .ok (.iaload, 1) := by decide +kernel
theorem dd_X11_image_84 : decode m_X11_image.2.1 84 = .ok (.invokevirtual 364, 3) := by decide +kernel
theorem dd_X11_image_87 : decode m_X11_image.2.1 87 = .ok (.aload_n 0, 1) := by decide +kernel
theorem dd_X11_image_88 : decode m_X11_image.2.1 88 = .ok (.aload_n 0, 1) := by decide +kernel
theorem dd_X11_image_89 : decode m_X11_image.2.1 89 = .ok (.getfield 63, 3) := by decide +kernel
theorem dd_X11_image_92 : decode m_X11_image.2.1 92 = .ok (.getfield 222, 3) := by decide +kernel
theorem dd_X11_image_95 : decode m_X11_image.2.1 95 = .ok (.iload_n 1, 1) := by decide +kernel
theorem dd_X11_image_96 : decode m_X11_image.2.1 96 = .ok (.iaload, 1) := by decide +kernel
theorem dd_X11_image_97 : decode m_X11_image.2.1 97 = .ok (.aload_n 0, 1) := by decide +kernel
theorem dd_X11_image_98 : decode m_X11_image.2.1 98 = .ok (.getfield 34, 3) := by decide +kernel
theorem dd_X11_image_101 : decode m_X11_image.2.1 101 = .ok (.getfield 219, 3) := by decide +kernel
theorem dd_X11_image_104 : decode m_X11_image.2.1 104 = .ok (.iload_n 1, 1) := by decide +kernel
theorem dd_X11_image_105 : decode m_X11_image.2.1 105 = .ok (.iaload, 1) := by decide +kernel
theorem dd_X11_image_106 : decode m_X11_image.2.1 106 = .ok (.if_icmp .eq 7, 3) := by decide +kernel
theorem dd_X11_image_109 : decode m_X11_image.2.1 109 = .ok (.iconst 1, 1) := by decide +kernel
theorem dd_X11_image_110 : decode m_X11_image.2.1 110 = .ok (.goto 4, 3) := by decide +kernel
theorem dd_X11_image_113 : decode m_X11_image.2.1 113 = .ok (.iconst 0, 1) := by decide +kernel
theorem dd_X11_image_114 : decode m_X11_image.2.1 114 = .ok (.invokestatic 215, 3) := by decide +kernel
theorem dd_X11_image_117 : decode m_X11_image.2.1 117 = .ok (.invokevirtual 364, 3) := by decide +kernel
theorem dd_X11_image_120 : decode m_X11_image.2.1 120 = .ok (.aload_n 0, 1) := by decide +kernel
theorem dd_X11_image_121 : decode m_X11_image.2.1 121 = .ok (.aload_n 0, 1) := by decide +kernel
theorem dd_X11_image_122 : decode m_X11_image.2.1 122 = .ok (.getfield 63, 3) := by decide +kernel
theorem dd_X11_image_125 : decode m_X11_image.2.1 125 = .ok (.getfield 233, 3) := by decide +kernel
theorem dd_X11_image_128 : decode m_X11_image.2.1 128 = .ok (.iload_n 1, 1) := by decide +kernel
theorem dd_X11_image_129 : decode m_X11_image.2.1 129 = .ok (.iaload, 1) := by decide +kernel
theorem dd_X11_image_130 : decode m_X11_image.2.1 130 = .ok (.invokevirtual 364, 3) := by decide +kernel
theorem dd_X11_image_133 : decode m_X11_image.2.1 133 = .ok (.iinc 1 1, 3) := by decide +kernel
theorem dd_X11_image_136 : decode m_X11_image.2.1 136 = .ok (.goto (-73), 3) := by decide +kernel
theorem dd_X11_image_139 : decode m_X11_image.2.1 139 = .ok (.aload_n 0, 1) := by decide +kernel
theorem dd_X11_image_140 : decode m_X11_image.2.1 140 = .ok (.aload_n 0, 1) := by decide +kernel
theorem dd_X11_image_141 : decode m_X11_image.2.1 141 = .ok (.getfield 102, 3) := by decide +kernel
theorem dd_X11_image_144 : decode m_X11_image.2.1 144 = .ok (.aload_n 0, 1) := by decide +kernel
theorem dd_X11_image_145 : decode m_X11_image.2.1 145 = .ok (.getfield 358, 3) := by decide +kernel
theorem dd_X11_image_148 : decode m_X11_image.2.1 148 = .ok (.invokestatic 367, 3) := by decide +kernel
theorem dd_X11_image_151 : decode m_X11_image.2.1 151 = .ok (.invokevirtual 364, 3) := by decide +kernel
theorem dd_X11_image_154 : decode m_X11_image.2.1 154 = .ok (.aload_n 0, 1) := by decide +kernel
theorem dd_X11_image_155 : decode m_X11_image.2.1 155 = .ok (.getfield 358, 3) := by decide +kernel
theorem dd_X11_image_158 : decode m_X11_image.2.1 158 = .ok (.ireturn, 1) := by decide +kernel
def nd_X11_image_114  (K63 : Int32 → fz_s → Prop) (Q : Int32 → fz_s → Prop) (v1 : Int32) (u0 : Bool) (s : fz_s) : Prop :=
  wp_X11_bit u0 s (fun r1 s2 => wp_X11_paint r1 s2 (fun s4 => vp_in v1 8 ∧ wp_X11_paint (s4.1 40 v1.toNatClampNeg) s4 (fun s6 => ∀ x7 : Int32, x7 = v1 + 1 → K63 x7 s6)))
def nd_X11_image_63  (K63 : Int32 → fz_s → Prop) (Q : Int32 → fz_s → Prop) (v1 : Int32) (s : fz_s) : Prop :=
  (((s.1 6 12) ≤ v1 → wp_X11_check 194 33 (s.1 2 15) s (fun r1 s2 => wp_X11_paint r1 s2 (fun s4 => Q (s4.1 2 15) s4))) ∧ (¬ (s.1 6 12) ≤ v1 → vp_in v1 8 ∧ wp_X11_paint (s.1 38 v1.toNatClampNeg) s (fun s6 => vp_in v1 8 ∧ vp_in v1 8 ∧ (((s6.1 39 v1.toNatClampNeg) = (s6.1 10 v1.toNatClampNeg) → nd_X11_image_114  K63 Q v1 false s6) ∧ (¬ (s6.1 39 v1.toNatClampNeg) = (s6.1 10 v1.toNatClampNeg) → nd_X11_image_114  K63 Q v1 true s6)))))
def lp_X11_image_63   (Q : Int32 → fz_s → Prop) : Nat → Int32 → fz_s → Prop
  | 0 => fun _ _ => False
  | n + 1 => nd_X11_image_63  (lp_X11_image_63   Q n) Q
def nd_X11_image_18  (K18 : Int32 → fz_s → Prop) (Q : Int32 → fz_s → Prop) (v1 : Int32) (s : fz_s) : Prop :=
  (((s.1 6 11) ≤ v1 → lp_X11_image_63   Q 2048 0 s) ∧ (¬ (s.1 6 11) ≤ v1 → vp_in v1 2 ∧ wp_X11_paintPair (s.1 36 v1.toNatClampNeg) s (fun s2 => vp_in v1 2 ∧ wp_X11_paint (s2.1 37 v1.toNatClampNeg) s2 (fun s4 => ∀ x5 : Int32, x5 = v1 + 1 → K18 x5 s4))))
def lp_X11_image_18   (Q : Int32 → fz_s → Prop) : Nat → Int32 → fz_s → Prop
  | 0 => fun _ _ => False
  | n + 1 => nd_X11_image_18  (lp_X11_image_18   Q n) Q
def wp_X11_image  (s : fz_s) (Q : Int32 → fz_s → Prop) : Prop :=
  ∀ s1 : fz_s, s1 = si s 2 15 0 → wp_X11_paintPair (s1.1 35 5) s1 (fun s3 => lp_X11_image_18   Q 2048 0 s3)
set_option maxRecDepth 100000 in
set_option maxHeartbeats 4000000 in
theorem V_nd_X11_image_114 {g : fz_G} {l : Launch} {d : Nat} (hD : 2 ≤ d)   {K63 : Int32 → fz_s → Prop} {Q : Int32 → fz_s → Prop} {v1 : Int32} {u0 : Bool} {s : fz_s} (hK63 : ∀ {v1 : Int32} {s : fz_s}, K63 v1 s → fs_V g l m_X11_image d true 63 [.ref 2, .int v1] [] s (rI Q)) (H : nd_X11_image_114  K63 Q v1 u0 s) : fs_V g l m_X11_image d true 114 [.ref 2, .int v1] [.int (bi u0), .ref 2] s (rI Q) := by
  obtain ⟨d, rfl⟩ : ∃ e, d = e + 1 := ⟨d - 1, by omega⟩
  unfold nd_X11_image_114 at H
  refine fs_callS (y := m_X11_bit) (as := [.int (bi u0)]) dd_X11_image_114 me_X11_bit (Or.inl lk_X11_215) st_X11_bit rfl (Nat.le_of_ble_eq_true rfl) (Nat.le_of_ble_eq_true rfl) rfl (V_X11_bit (by omega)  H) (k2_I fun r1 s2 H => ?_)
  refine fs_callV (y := m_X11_paint) (as := [.int r1]) dd_X11_image_117 me_X11_paint lk_X11_364 in_X11_paint se_X11_paint ca_2 rfl rfl rfl (Nat.le_of_ble_eq_true rfl) (Nat.le_of_ble_eq_true rfl) rfl (V_X11_paint (by omega)  H) (k2_V fun s4 H => ?_)
  refine fs_aload_n (k0 := 0) (i := 0) dd_X11_image_120 rfl rfl ?_
  refine fs_aload_n (k0 := 0) (i := 0) dd_X11_image_121 rfl rfl ?_
  refine fs_getr (ci := 11) (j := 8) (q := 35) dd_X11_image_122 fl_X11_63 ca_2 rfl (Or.inl ⟨_, rfl⟩) rfl (by decide) ?_
  refine fs_getr (ci := 10) (j := 4) (q := 40) dd_X11_image_125 fl_X11_233 ca_35 rfl (Or.inr ⟨_, rfl⟩) rfl (by decide) ?_
  refine fs_iload_n (k0 := 1) (i := 1) dd_X11_image_128 rfl rfl ?_
  have hb := H.1
  replace H := H.2
  refine fs_iald dd_X11_image_129 ca_40 hb ?_
  refine fs_callV (y := m_X11_paint) (as := [.int (s4.1 40 v1.toNatClampNeg)]) dd_X11_image_130 me_X11_paint lk_X11_364 in_X11_paint se_X11_paint ca_2 rfl rfl rfl (Nat.le_of_ble_eq_true rfl) (Nat.le_of_ble_eq_true rfl) rfl (V_X11_paint (by omega)  H) (k2_V fun s6 H => ?_)
  refine fs_iincN (i := 1) (m := 1) (c := 1) dd_X11_image_133 rfl (by decide) (by decide) (fun x7 hx7 => ?_)
  replace H := H x7 hx7
  refine fs_goto (tgt := 63) dd_X11_image_136 (by decide) ?_
  refine fs_weak (ls2 := [.ref 2, .int x7]) (fz_le_e (fz_le_e fz_le_n)) ?_
  exact hK63 H
set_option maxRecDepth 100000 in
set_option maxHeartbeats 4000000 in
theorem V_nd_X11_image_63 {g : fz_G} {l : Launch} {d : Nat} (hD : 2 ≤ d)   {K63 : Int32 → fz_s → Prop} {Q : Int32 → fz_s → Prop} {v1 : Int32} {s : fz_s} (hK63 : ∀ {v1 : Int32} {s : fz_s}, K63 v1 s → fs_V g l m_X11_image d true 63 [.ref 2, .int v1] [] s (rI Q)) (H : nd_X11_image_63  K63 Q v1 s) : fs_V g l m_X11_image d true 63 [.ref 2, .int v1] [] s (rI Q) := by
  obtain ⟨d, rfl⟩ : ∃ e, d = e + 1 := ⟨d - 1, by omega⟩
  unfold nd_X11_image_63 at H
  refine fs_iload_n (k0 := 1) (i := 1) dd_X11_image_63 rfl rfl ?_
  refine fs_aload_n (k0 := 0) (i := 0) dd_X11_image_64 rfl rfl ?_
  refine fs_getr (ci := 11) (j := 4) (q := 6) dd_X11_image_65 fl_X11_34 ca_2 rfl (Or.inl ⟨_, rfl⟩) rfl (by decide) ?_
  refine fs_geti (ci := 9) (j := 12) dd_X11_image_68 fl_X11_162 ca_6 rfl (Or.inl rfl) ?_
  refine fs_icmp_ge (tgt := 139) dd_X11_image_71 (by decide) (fun hc => ?_) (fun hc => ?_)
  · replace H := H.1 hc
    refine fs_aload_n (k0 := 0) (i := 0) dd_X11_image_139 rfl rfl ?_
    refine fs_aload_n (k0 := 0) (i := 0) dd_X11_image_140 rfl rfl ?_
    refine fs_getr (ci := 11) (j := 14) (q := 194) dd_X11_image_141 fl_X11_102 ca_2 rfl (Or.inr ⟨_, rfl⟩) rfl (by decide) ?_
    refine fs_aload_n (k0 := 0) (i := 0) dd_X11_image_144 rfl rfl ?_
    refine fs_geti (ci := 11) (j := 15) dd_X11_image_145 fl_X11_358 ca_2 rfl (Or.inl rfl) ?_
    refine fs_callS (y := m_X11_check) (as := [.ref 194, .int (s.1 2 15)]) dd_X11_image_148 me_X11_check (Or.inl lk_X11_367) st_X11_check rfl (Nat.le_of_ble_eq_true rfl) (Nat.le_of_ble_eq_true rfl) rfl (V_X11_check (by omega) ca_194 H) (k2_I fun r1 s2 H => ?_)
    refine fs_callV (y := m_X11_paint) (as := [.int r1]) dd_X11_image_151 me_X11_paint lk_X11_364 in_X11_paint se_X11_paint ca_2 rfl rfl rfl (Nat.le_of_ble_eq_true rfl) (Nat.le_of_ble_eq_true rfl) rfl (V_X11_paint (by omega)  H) (k2_V fun s4 H => ?_)
    refine fs_aload_n (k0 := 0) (i := 0) dd_X11_image_154 rfl rfl ?_
    refine fs_geti (ci := 11) (j := 15) dd_X11_image_155 fl_X11_358 ca_2 rfl (Or.inl rfl) ?_
    exact fs_iret dd_X11_image_158 rfl H
  · replace H := H.2 hc
    refine fs_aload_n (k0 := 0) (i := 0) dd_X11_image_74 rfl rfl ?_
    refine fs_aload_n (k0 := 0) (i := 0) dd_X11_image_75 rfl rfl ?_
    refine fs_getr (ci := 11) (j := 8) (q := 35) dd_X11_image_76 fl_X11_63 ca_2 rfl (Or.inl ⟨_, rfl⟩) rfl (by decide) ?_
    refine fs_getr (ci := 10) (j := 2) (q := 38) dd_X11_image_79 fl_X11_224 ca_35 rfl (Or.inr ⟨_, rfl⟩) rfl (by decide) ?_
    refine fs_iload_n (k0 := 1) (i := 1) dd_X11_image_82 rfl rfl ?_
    have hb := H.1
    replace H := H.2
    refine fs_iald dd_X11_image_83 ca_38 hb ?_
    refine fs_callV (y := m_X11_paint) (as := [.int (s.1 38 v1.toNatClampNeg)]) dd_X11_image_84 me_X11_paint lk_X11_364 in_X11_paint se_X11_paint ca_2 rfl rfl rfl (Nat.le_of_ble_eq_true rfl) (Nat.le_of_ble_eq_true rfl) rfl (V_X11_paint (by omega)  H) (k2_V fun s6 H => ?_)
    refine fs_aload_n (k0 := 0) (i := 0) dd_X11_image_87 rfl rfl ?_
    refine fs_aload_n (k0 := 0) (i := 0) dd_X11_image_88 rfl rfl ?_
    refine fs_getr (ci := 11) (j := 8) (q := 35) dd_X11_image_89 fl_X11_63 ca_2 rfl (Or.inl ⟨_, rfl⟩) rfl (by decide) ?_
    refine fs_getr (ci := 10) (j := 3) (q := 39) dd_X11_image_92 fl_X11_222 ca_35 rfl (Or.inr ⟨_, rfl⟩) rfl (by decide) ?_
    refine fs_iload_n (k0 := 1) (i := 1) dd_X11_image_95 rfl rfl ?_
    have hb := H.1
    replace H := H.2
    refine fs_iald dd_X11_image_96 ca_39 hb ?_
    refine fs_aload_n (k0 := 0) (i := 0) dd_X11_image_97 rfl rfl ?_
    refine fs_getr (ci := 11) (j := 4) (q := 6) dd_X11_image_98 fl_X11_34 ca_2 rfl (Or.inl ⟨_, rfl⟩) rfl (by decide) ?_
    refine fs_getr (ci := 9) (j := 3) (q := 10) dd_X11_image_101 fl_X11_219 ca_6 rfl (Or.inr ⟨_, rfl⟩) rfl (by decide) ?_
    refine fs_iload_n (k0 := 1) (i := 1) dd_X11_image_104 rfl rfl ?_
    have hb := H.1
    replace H := H.2
    refine fs_iald dd_X11_image_105 ca_10 hb ?_
    refine fs_icmp_eq (tgt := 113) dd_X11_image_106 (by decide) (fun hc => ?_) (fun hc => ?_)
    · replace H := H.1 hc
      refine fs_iconst (n := 0) (v := 0) dd_X11_image_113 (by decide) ?_
      refine fs_weak (ls2 := [.ref 2, .int v1]) (fz_le_e (fz_le_e fz_le_n)) ?_
      exact V_nd_X11_image_114 hD   hK63 H
    · replace H := H.2 hc
      refine fs_iconst (n := 1) (v := 1) dd_X11_image_109 (by decide) ?_
      refine fs_goto (tgt := 114) dd_X11_image_110 (by decide) ?_
      refine fs_weak (ls2 := [.ref 2, .int v1]) (fz_le_e (fz_le_e fz_le_n)) ?_
      exact V_nd_X11_image_114 hD   hK63 H
set_option maxRecDepth 100000 in
set_option maxHeartbeats 4000000 in
theorem V_lp_X11_image_63 {g : fz_G} {l : Launch} {d : Nat} (hD : 2 ≤ d)    {Q : Int32 → fz_s → Prop}  (n : Nat) : ∀ {v1 : Int32} {s : fz_s}, lp_X11_image_63   Q n v1 s → fs_V g l m_X11_image d true 63 [.ref 2, .int v1] [] s (rI Q) := by
  induction n with
  | zero => intro v1 s H; exact H.elim
  | succ n ih => intro v1 s H; exact V_nd_X11_image_63 hD  (fun H => ih H) H
set_option maxRecDepth 100000 in
set_option maxHeartbeats 4000000 in
theorem V_nd_X11_image_18 {g : fz_G} {l : Launch} {d : Nat} (hD : 2 ≤ d)   {K18 : Int32 → fz_s → Prop} {Q : Int32 → fz_s → Prop} {v1 : Int32} {s : fz_s} (hK18 : ∀ {v1 : Int32} {s : fz_s}, K18 v1 s → fs_V g l m_X11_image d true 18 [.ref 2, .int v1] [] s (rI Q)) (H : nd_X11_image_18  K18 Q v1 s) : fs_V g l m_X11_image d true 18 [.ref 2, .int v1] [] s (rI Q) := by
  obtain ⟨d, rfl⟩ : ∃ e, d = e + 1 := ⟨d - 1, by omega⟩
  unfold nd_X11_image_18 at H
  refine fs_iload_n (k0 := 1) (i := 1) dd_X11_image_18 rfl rfl ?_
  refine fs_aload_n (k0 := 0) (i := 0) dd_X11_image_19 rfl rfl ?_
  refine fs_getr (ci := 11) (j := 4) (q := 6) dd_X11_image_20 fl_X11_34 ca_2 rfl (Or.inl ⟨_, rfl⟩) rfl (by decide) ?_
  refine fs_geti (ci := 9) (j := 11) dd_X11_image_23 fl_X11_159 ca_6 rfl (Or.inl rfl) ?_
  refine fs_icmp_ge (tgt := 61) dd_X11_image_26 (by decide) (fun hc => ?_) (fun hc => ?_)
  · replace H := H.1 hc
    refine fs_iconst (n := 0) (v := 0) dd_X11_image_61 (by decide) ?_
    refine fs_istore_n (k0 := 1) (i := 1) dd_X11_image_62 rfl (by decide) ?_
    refine fs_weak (ls2 := [.ref 2, .int 0]) (fz_le_e (fz_le_e fz_le_n)) ?_
    exact V_lp_X11_image_63 hD    2048 H
  · replace H := H.2 hc
    refine fs_aload_n (k0 := 0) (i := 0) dd_X11_image_29 rfl rfl ?_
    refine fs_aload_n (k0 := 0) (i := 0) dd_X11_image_30 rfl rfl ?_
    refine fs_getr (ci := 11) (j := 8) (q := 35) dd_X11_image_31 fl_X11_63 ca_2 rfl (Or.inl ⟨_, rfl⟩) rfl (by decide) ?_
    refine fs_getr (ci := 10) (j := 0) (q := 36) dd_X11_image_34 fl_X11_195 ca_35 rfl (Or.inr ⟨_, rfl⟩) rfl (by decide) ?_
    refine fs_iload_n (k0 := 1) (i := 1) dd_X11_image_37 rfl rfl ?_
    have hb := H.1
    replace H := H.2
    refine fs_iald dd_X11_image_38 ca_36 hb ?_
    refine fs_callV (y := m_X11_paintPair) (as := [.int (s.1 36 v1.toNatClampNeg)]) dd_X11_image_39 me_X11_paintPair lk_X11_361 in_X11_paintPair se_X11_paintPair ca_2 rfl rfl rfl (Nat.le_of_ble_eq_true rfl) (Nat.le_of_ble_eq_true rfl) rfl (V_X11_paintPair (by omega)  H) (k2_V fun s2 H => ?_)
    refine fs_aload_n (k0 := 0) (i := 0) dd_X11_image_42 rfl rfl ?_
    refine fs_aload_n (k0 := 0) (i := 0) dd_X11_image_43 rfl rfl ?_
    refine fs_getr (ci := 11) (j := 8) (q := 35) dd_X11_image_44 fl_X11_63 ca_2 rfl (Or.inl ⟨_, rfl⟩) rfl (by decide) ?_
    refine fs_getr (ci := 10) (j := 1) (q := 37) dd_X11_image_47 fl_X11_198 ca_35 rfl (Or.inr ⟨_, rfl⟩) rfl (by decide) ?_
    refine fs_iload_n (k0 := 1) (i := 1) dd_X11_image_50 rfl rfl ?_
    have hb := H.1
    replace H := H.2
    refine fs_iald dd_X11_image_51 ca_37 hb ?_
    refine fs_callV (y := m_X11_paint) (as := [.int (s2.1 37 v1.toNatClampNeg)]) dd_X11_image_52 me_X11_paint lk_X11_364 in_X11_paint se_X11_paint ca_2 rfl rfl rfl (Nat.le_of_ble_eq_true rfl) (Nat.le_of_ble_eq_true rfl) rfl (V_X11_paint (by omega)  H) (k2_V fun s4 H => ?_)
    refine fs_iincN (i := 1) (m := 1) (c := 1) dd_X11_image_55 rfl (by decide) (by decide) (fun x5 hx5 => ?_)
    replace H := H x5 hx5
    refine fs_goto (tgt := 18) dd_X11_image_58 (by decide) ?_
    refine fs_weak (ls2 := [.ref 2, .int x5]) (fz_le_e (fz_le_e fz_le_n)) ?_
    exact hK18 H
set_option maxRecDepth 100000 in
set_option maxHeartbeats 4000000 in
theorem V_lp_X11_image_18 {g : fz_G} {l : Launch} {d : Nat} (hD : 2 ≤ d)    {Q : Int32 → fz_s → Prop}  (n : Nat) : ∀ {v1 : Int32} {s : fz_s}, lp_X11_image_18   Q n v1 s → fs_V g l m_X11_image d true 18 [.ref 2, .int v1] [] s (rI Q) := by
  induction n with
  | zero => intro v1 s H; exact H.elim
  | succ n ih => intro v1 s H; exact V_nd_X11_image_18 hD  (fun H => ih H) H
set_option maxRecDepth 100000 in
set_option maxHeartbeats 4000000 in
theorem V_X11_image {g : fz_G} {l : Launch} {d : Nat} (hD : 2 ≤ d)   {s : fz_s} {Q : Int32 → fz_s → Prop} (H : wp_X11_image  s Q) : fs_V g l m_X11_image d true 0 (fz_en [.ref 2] 2) [] s (rI Q) := by
  obtain ⟨d, rfl⟩ : ∃ e, d = e + 1 := ⟨d - 1, by omega⟩
  unfold wp_X11_image at H
  refine fs_aload_n (k0 := 0) (i := 0) dd_X11_image_0 rfl rfl ?_
  refine fs_iconst (n := 0) (v := 0) dd_X11_image_1 (by decide) ?_
  refine fs_puti (ci := 11) (j := 15) dd_X11_image_2 fl_X11_358 (fun _ _ _ h => by cases h; rfl) ca_2 rfl (Or.inl rfl) ?_
  refine fs_tops (fun s1 hs1 => ?_)
  replace H := H s1 hs1
  refine fs_aload_n (k0 := 0) (i := 0) dd_X11_image_5 rfl rfl ?_
  refine fs_aload_n (k0 := 0) (i := 0) dd_X11_image_6 rfl rfl ?_
  refine fs_getr (ci := 11) (j := 8) (q := 35) dd_X11_image_7 fl_X11_63 ca_2 rfl (Or.inl ⟨_, rfl⟩) rfl (by decide) ?_
  refine fs_geti (ci := 10) (j := 5) dd_X11_image_10 fl_X11_165 ca_35 rfl (Or.inl rfl) ?_
  refine fs_callV (y := m_X11_paintPair) (as := [.int (s1.1 35 5)]) dd_X11_image_13 me_X11_paintPair lk_X11_361 in_X11_paintPair se_X11_paintPair ca_2 rfl rfl rfl (Nat.le_of_ble_eq_true rfl) (Nat.le_of_ble_eq_true rfl) rfl (V_X11_paintPair (by omega)  H) (k2_V fun s3 H => ?_)
  refine fs_iconst (n := 0) (v := 0) dd_X11_image_16 (by decide) ?_
  refine fs_istore_n (k0 := 1) (i := 1) dd_X11_image_17 rfl (by decide) ?_
  refine fs_weak (ls2 := [.ref 2, .int 0]) (fz_le_e (fz_le_e fz_le_n)) ?_
  exact V_lp_X11_image_18 hD    2048 H

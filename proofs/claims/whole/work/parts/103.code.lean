theorem dd_X4_toldOf_0 : decode m_X4_toldOf.2.1 0 = .ok (.aload_n 0, 1) := by decide +kernel
theorem dd_X4_toldOf_1 : decode m_X4_toldOf.2.1 1 = .ok (.aload_n 1, 1) := by decide +kernel
theorem dd_X4_toldOf_2 : decode m_X4_toldOf.2.1 2 = .ok (.invokevirtual 48, 3) := by decide +kernel
theorem dd_X4_toldOf_5 : decode m_X4_toldOf.2.1 5 = .ok (.istore 4, 2) := by decide +kernel
theorem dd_X4_toldOf_7 : decode m_X4_toldOf.2.1 7 = .ok (.iload_n 2, 1) := by decide +kernel
theorem dd_X4_toldOf_8 : decode m_X4_toldOf.2.1 8 = .ok (.ifCond .lt 9, 3) := by decide +kernel
theorem dd_X4_toldOf_11 : decode m_X4_toldOf.2.1 11 = .ok (.iload_n 2, 1) := by decide +kernel
theorem dd_X4_toldOf_12 : decode m_X4_toldOf.2.1 12 = .ok (.iload 4, 2) := by decide +kernel
theorem dd_X4_toldOf_14 : decode m_X4_toldOf.2.1 14 = .ok (.if_icmp .lt 5, 3) := by decide +kernel
theorem dd_X4_toldOf_17 : decode m_X4_toldOf.2.1 17 = .ok (.iconst (-1), 1) := by decide +kernel
theorem dd_X4_toldOf_18 : decode m_X4_toldOf.2.1 18 = .ok (.ireturn, 1) := by decide +kernel
theorem dd_X4_toldOf_19 : decode m_X4_toldOf.2.1 19 = .ok (.aload_n 1, 1) := by decide +kernel
theorem dd_X4_toldOf_20 : decode m_X4_toldOf.2.1 20 = .ok (.getfield 39, 3) := by decide +kernel
theorem dd_X4_toldOf_23 : decode m_X4_toldOf.2.1 23 = .ok (.iload 4, 2) := by decide +kernel
theorem dd_X4_toldOf_25 : decode m_X4_toldOf.2.1 25 = .ok (.isub, 1) := by decide +kernel
theorem dd_X4_toldOf_26 : decode m_X4_toldOf.2.1 26 = .ok (.iload_n 2, 1) := by decide +kernel
theorem dd_X4_toldOf_27 : decode m_X4_toldOf.2.1 27 = .ok (.iadd, 1) := by decide +kernel
theorem dd_X4_toldOf_28 : decode m_X4_toldOf.2.1 28 = .ok (.istore 5, 2) := by decide +kernel
theorem dd_X4_toldOf_30 : decode m_X4_toldOf.2.1 30 = .ok (.iload_n 3, 1) := by decide +kernel
theorem dd_X4_toldOf_31 : decode m_X4_toldOf.2.1 31 = .ok (.tableswitch 49 0 2 #[25, 33, 41], 25) := by decide +kernel
theorem dd_X4_toldOf_56 : decode m_X4_toldOf.2.1 56 = .ok (.aload_n 0, 1) := by decide +kernel
theorem dd_X4_toldOf_57 : decode m_X4_toldOf.2.1 57 = .ok (.getfield 17, 3) := by decide +kernel
theorem dd_X4_toldOf_60 : decode m_X4_toldOf.2.1 60 = .ok (.iload 5, 2) := by decide +kernel
theorem dd_X4_toldOf_62 : decode m_X4_toldOf.2.1 62 = .ok (.iaload, 1) := by decide +kernel
theorem dd_X4_toldOf_63 : decode m_X4_toldOf.2.1 63 = .ok (.ireturn, 1) := by decide +kernel
theorem dd_X4_toldOf_64 : decode m_X4_toldOf.2.1 64 = .ok (.aload_n 0, 1) := by decide +kernel
theorem dd_X4_toldOf_65 : decode m_X4_toldOf.2.1 65 = .ok (.getfield 21, 3) := by decide +kernel
theorem dd_X4_toldOf_68 : decode m_X4_toldOf.2.1 68 = .ok (.iload 5, 2) := by decide +kernel
theorem dd_X4_toldOf_70 : decode m_X4_toldOf.2.1 70 = .ok (.iaload, 1) := by decide +kernel
theorem dd_X4_toldOf_71 : decode m_X4_toldOf.2.1 71 = .ok (.ireturn, 1) := by decide +kernel
theorem dd_X4_toldOf_72 : decode m_X4_toldOf.2.1 72 = .ok (.aload_n 0, 1) := by decide +kernel
theorem dd_X4_toldOf_73 : decode m_X4_toldOf.2.1 73 = .ok (.getfield 24, 3) := by decide +kernel
theorem dd_X4_toldOf_76 : decode m_X4_toldOf.2.1 76 = .ok (.iload 5, 2) := by decide +kernel
theorem dd_X4_toldOf_78 : decode m_X4_toldOf.2.1 78 = .ok (.iaload, 1) := by decide +kernel
theorem dd_X4_toldOf_79 : decode m_X4_toldOf.2.1 79 = .ok (.ireturn, 1) := by decide +kernel
theorem dd_X4_toldOf_80 : decode m_X4_toldOf.2.1 80 = .ok (.iconst (-1), 1) := by decide +kernel
theorem dd_X4_toldOf_81 : decode m_X4_toldOf.2.1 81 = .ok (.ireturn, 1) := by decide +kernel
def wp_X4_toldOf (w0 : Nat) (p1 : Int32) (p2 : Int32) (s : fz_s) (Q : Int32 → fz_s → Prop) : Prop :=
  wp_X4_toldCount w0 s (fun r1 s2 => ((p1 < 0 → Q (-1) s2) ∧ (¬ p1 < 0 → ((p1 < r1 → ∀ x3 : Int32, x3 = (((s2.1 w0 6) - r1) + p1) → ((p2 = 0 → vp_in x3 1000 ∧ Q (s2.1 49 x3.toNatClampNeg) s2) ∧ (p2 = 1 → vp_in x3 1000 ∧ Q (s2.1 50 x3.toNatClampNeg) s2) ∧ (p2 = 2 → vp_in x3 1000 ∧ Q (s2.1 51 x3.toNatClampNeg) s2) ∧ (¬ p2 = 0 ∧ ¬ p2 = 1 ∧ ¬ p2 = 2 → Q (-1) s2))) ∧ (¬ p1 < r1 → Q (-1) s2)))))
set_option maxRecDepth 100000 in
set_option maxHeartbeats 4000000 in
theorem V_X4_toldOf {g : fz_G} {l : Launch} {d : Nat} (hD : 2 ≤ d) {w0 : Nat} {p1 : Int32} {p2 : Int32} (hw0 : fz_at true w0 10 7) {s : fz_s} {Q : Int32 → fz_s → Prop} (H : wp_X4_toldOf w0 p1 p2 s Q) : fs_V g l m_X4_toldOf d true 0 (fz_en [.ref 47, .ref w0, .int p1, .int p2] 6) [] s (rI Q) := by
  obtain ⟨d, rfl⟩ : ∃ e, d = e + 1 := ⟨d - 1, by omega⟩
  unfold wp_X4_toldOf at H
  refine fs_aload_n (k0 := 0) (i := 0) dd_X4_toldOf_0 rfl rfl ?_
  refine fs_aload_n (k0 := 1) (i := 1) dd_X4_toldOf_1 rfl rfl ?_
  refine fs_callV (y := m_X4_toldCount) (as := [.ref w0]) dd_X4_toldOf_2 me_X4_toldCount lk_X4_48 in_X4_toldCount se_X4_toldCount ca_47 rfl rfl rfl (Nat.le_of_ble_eq_true rfl) (Nat.le_of_ble_eq_true rfl) rfl (V_X4_toldCount (by omega) hw0 H) (k2_I fun r1 s2 H => ?_)
  refine fs_istore (i := 4) dd_X4_toldOf_5 (by decide) ?_
  refine fs_iload_n (k0 := 2) (i := 2) dd_X4_toldOf_7 rfl rfl ?_
  refine fs_if_lt (tgt := 17) dd_X4_toldOf_8 (by decide) (fun hc => ?_) (fun hc => ?_)
  · replace H := H.1 hc
    refine fs_iconst (n := -1) (v := -1) dd_X4_toldOf_17 (by decide) ?_
    exact fs_iret dd_X4_toldOf_18 rfl H
  · replace H := H.2 hc
    refine fs_iload_n (k0 := 2) (i := 2) dd_X4_toldOf_11 rfl rfl ?_
    refine fs_iload (i := 4) dd_X4_toldOf_12 rfl ?_
    refine fs_icmp_lt (tgt := 19) dd_X4_toldOf_14 (by decide) (fun hc => ?_) (fun hc => ?_)
    · replace H := H.1 hc
      refine fs_aload_n (k0 := 1) (i := 1) dd_X4_toldOf_19 rfl rfl ?_
      refine fs_geti (ci := 10) (j := 6) dd_X4_toldOf_20 fl_X4_39 hw0 rfl (Or.inl rfl) ?_
      refine fs_iload (i := 4) dd_X4_toldOf_23 rfl ?_
      refine fs_isub dd_X4_toldOf_25 ?_
      refine fs_iload_n (k0 := 2) (i := 2) dd_X4_toldOf_26 rfl rfl ?_
      refine fs_iadd dd_X4_toldOf_27 ?_
      refine fs_topi (fun x3 hx3 => ?_)
      replace H := H x3 hx3
      refine fs_istore (i := 5) dd_X4_toldOf_28 (by decide) ?_
      refine fs_iload_n (k0 := 3) (i := 3) dd_X4_toldOf_30 rfl rfl ?_
      by_cases hc0 : p2 = 0
      · replace H := H.1 hc0
        refine fs_tableAt (k := 0) (off := 25) (tgt := 56) hc0 dd_X4_toldOf_31 (by decide) (by decide) rfl (by decide) ?_
        refine fs_aload_n (k0 := 0) (i := 0) dd_X4_toldOf_56 rfl rfl ?_
        refine fs_getr (ci := 4) (j := 1) (q := 49) dd_X4_toldOf_57 fl_X4_17 ca_47 rfl (Or.inr ⟨_, rfl⟩) rfl (by decide) ?_
        refine fs_iload (i := 5) dd_X4_toldOf_60 rfl ?_
        have hb := H.1
        replace H := H.2
        refine fs_iald dd_X4_toldOf_62 ca_49 hb ?_
        exact fs_iret dd_X4_toldOf_63 rfl H
      by_cases hc1 : p2 = 1
      · replace H := H.2.1 hc1
        refine fs_tableAt (k := 1) (off := 33) (tgt := 64) hc1 dd_X4_toldOf_31 (by decide) (by decide) rfl (by decide) ?_
        refine fs_aload_n (k0 := 0) (i := 0) dd_X4_toldOf_64 rfl rfl ?_
        refine fs_getr (ci := 4) (j := 2) (q := 50) dd_X4_toldOf_65 fl_X4_21 ca_47 rfl (Or.inr ⟨_, rfl⟩) rfl (by decide) ?_
        refine fs_iload (i := 5) dd_X4_toldOf_68 rfl ?_
        have hb := H.1
        replace H := H.2
        refine fs_iald dd_X4_toldOf_70 ca_50 hb ?_
        exact fs_iret dd_X4_toldOf_71 rfl H
      by_cases hc2 : p2 = 2
      · replace H := H.2.2.1 hc2
        refine fs_tableAt (k := 2) (off := 41) (tgt := 72) hc2 dd_X4_toldOf_31 (by decide) (by decide) rfl (by decide) ?_
        refine fs_aload_n (k0 := 0) (i := 0) dd_X4_toldOf_72 rfl rfl ?_
        refine fs_getr (ci := 4) (j := 3) (q := 51) dd_X4_toldOf_73 fl_X4_24 ca_47 rfl (Or.inr ⟨_, rfl⟩) rfl (by decide) ?_
        refine fs_iload (i := 5) dd_X4_toldOf_76 rfl ?_
        have hb := H.1
        replace H := H.2
        refine fs_iald dd_X4_toldOf_78 ca_51 hb ?_
        exact fs_iret dd_X4_toldOf_79 rfl H
      replace H := H.2.2.2 ⟨hc0, hc1, hc2⟩
      refine fs_tableOut' (ks := [0, 1, 2]) (tgt := 80) (by simp only [List.forall_mem_cons]; exact ⟨hc0, hc1, hc2, fun _ h => by cases h⟩) dd_X4_toldOf_31 (by decide) (by decide) ?_
      refine fs_iconst (n := -1) (v := -1) dd_X4_toldOf_80 (by decide) ?_
      exact fs_iret dd_X4_toldOf_81 rfl H
    · replace H := H.2 hc
      refine fs_iconst (n := -1) (v := -1) dd_X4_toldOf_17 (by decide) ?_
      exact fs_iret dd_X4_toldOf_18 rfl H
theorem dd_X11_kept_0 : decode m_X11_kept.2.1 0 = .ok (.aload_n 0, 1) := by decide +kernel
theorem dd_X11_kept_1 : decode m_X11_kept.2.1 1 = .ok (.getfield 73, 3) := by decide +kernel
theorem dd_X11_kept_4 : decode m_X11_kept.2.1 4 = .ok (.aload_n 0, 1) := by decide +kernel
theorem dd_X11_kept_5 : decode m_X11_kept.2.1 5 = .ok (.getfield 63, 3) := by decide +kernel
theorem dd_X11_kept_8 : decode m_X11_kept.2.1 8 = .ok (.iload_n 1, 1) := by decide +kernel
theorem dd_X11_kept_9 : decode m_X11_kept.2.1 9 = .ok (.iload_n 2, 1) := by decide +kernel
theorem dd_X11_kept_10 : decode m_X11_kept.2.1 10 = .ok (.invokevirtual 242, 3) := by decide +kernel
theorem dd_X11_kept_13 : decode m_X11_kept.2.1 13 = .ok (.ireturn, 1) := by decide +kernel
def wp_X11_kept (p0 : Int32) (p1 : Int32) (s : fz_s) (Q : Int32 → fz_s → Prop) : Prop :=
  wp_X4_toldOf 35 p0 p1 s (fun r1 s2 => Q r1 s2)
set_option maxRecDepth 100000 in
set_option maxHeartbeats 4000000 in
theorem V_X11_kept {g : fz_G} {l : Launch} {d : Nat} (hD : 3 ≤ d) {p0 : Int32} {p1 : Int32}  {s : fz_s} {Q : Int32 → fz_s → Prop} (H : wp_X11_kept p0 p1 s Q) : fs_V g l m_X11_kept d true 0 (fz_en [.ref 2, .int p0, .int p1] 3) [] s (rI Q) := by
  obtain ⟨d, rfl⟩ : ∃ e, d = e + 1 := ⟨d - 1, by omega⟩
  unfold wp_X11_kept at H
  refine fs_aload_n (k0 := 0) (i := 0) dd_X11_kept_0 rfl rfl ?_
  refine fs_getr (ci := 11) (j := 10) (q := 47) dd_X11_kept_1 fl_X11_73 ca_2 rfl (Or.inl ⟨_, rfl⟩) rfl (by decide) ?_
  refine fs_aload_n (k0 := 0) (i := 0) dd_X11_kept_4 rfl rfl ?_
  refine fs_getr (ci := 11) (j := 8) (q := 35) dd_X11_kept_5 fl_X11_63 ca_2 rfl (Or.inl ⟨_, rfl⟩) rfl (by decide) ?_
  refine fs_iload_n (k0 := 1) (i := 1) dd_X11_kept_8 rfl rfl ?_
  refine fs_iload_n (k0 := 2) (i := 2) dd_X11_kept_9 rfl rfl ?_
  refine fs_callV (y := m_X4_toldOf) (as := [.ref 35, .int p0, .int p1]) dd_X11_kept_10 me_X4_toldOf lk_X11_242 in_X4_toldOf se_X4_toldOf ca_47 rfl rfl rfl (Nat.le_of_ble_eq_true rfl) (Nat.le_of_ble_eq_true rfl) rfl (V_X4_toldOf (by omega) ca_35 H) (k2_I fun r1 s2 H => ?_)
  exact fs_iret dd_X11_kept_13 rfl H
theorem dd_X10_take_0 : decode m_X10_take.2.1 0 = .ok (.aload_n 1, 1) := by decide +kernel
theorem dd_X10_take_1 : decode m_X10_take.2.1 1 = .ok (.getfield 9, 3) := by decide +kernel
theorem dd_X10_take_4 : decode m_X10_take.2.1 4 = .ok (.iconst 0, 1) := by decide +kernel
theorem dd_X10_take_5 : decode m_X10_take.2.1 5 = .ok (.aload_n 0, 1) := by decide +kernel
theorem dd_X10_take_6 : decode m_X10_take.2.1 6 = .ok (.getfield 9, 3) := by decide +kernel
theorem dd_X10_take_9 : decode m_X10_take.2.1 9 = .ok (.iconst 0, 1) := by decide +kernel
theorem dd_X10_take_10 : decode m_X10_take.2.1 10 = .ok (.iconst 2, 1) := by decide +kernel
theorem dd_X10_take_11 : decode m_X10_take.2.1 11 = .ok (.invokestatic 27, 3) := by decide +kernel
theorem dd_X10_take_14 : decode m_X10_take.2.1 14 = .ok (.aload_n 1, 1) := by decide +kernel
theorem dd_X10_take_15 : decode m_X10_take.2.1 15 = .ok (.getfield 15, 3) := by decide +kernel
theorem dd_X10_take_18 : decode m_X10_take.2.1 18 = .ok (.iconst 0, 1) := by decide +kernel
theorem dd_X10_take_19 : decode m_X10_take.2.1 19 = .ok (.aload_n 0, 1) := by decide +kernel
theorem dd_X10_take_20 : decode m_X10_take.2.1 20 = .ok (.getfield 15, 3) := by decide +kernel
theorem dd_X10_take_23 : decode m_X10_take.2.1 23 = .ok (.iconst 0, 1) := by decide +kernel
theorem dd_X10_take_24 : decode m_X10_take.2.1 24 = .ok (.iconst 2, 1) := by decide +kernel
theorem dd_X10_take_25 : decode m_X10_take.2.1 25 = .ok (.invokestatic 27, 3) := by decide +kernel
theorem dd_X10_take_28 : decode m_X10_take.2.1 28 = .ok (.aload_n 1, 1) := by decide +kernel
theorem dd_X10_take_29 : decode m_X10_take.2.1 29 = .ok (.getfield 18, 3) := by decide +kernel
theorem dd_X10_take_32 : decode m_X10_take.2.1 32 = .ok (.iconst 0, 1) := by decide +kernel
theorem dd_X10_take_33 : decode m_X10_take.2.1 33 = .ok (.aload_n 0, 1) := by decide +kernel
theorem dd_X10_take_34 : decode m_X10_take.2.1 34 = .ok (.getfield 18, 3) := by decide +kernel
theorem dd_X10_take_37 : decode m_X10_take.2.1 37 = .ok (.iconst 0, 1) := by decide +kernel
theorem dd_X10_take_38 : decode m_X10_take.2.1 38 = .ok (.bipush 8, 2) := by decide +kernel
theorem dd_X10_take_40 : decode m_X10_take.2.1 40 = .ok (.invokestatic 27, 3) := by decide +kernel
theorem dd_X10_take_43 : decode m_X10_take.2.1 43 = .ok (.aload_n 1, 1) := by decide +kernel
theorem dd_X10_take_44 : decode m_X10_take.2.1 44 = .ok (.getfield 21, 3) := by decide +kernel
theorem dd_X10_take_47 : decode m_X10_take.2.1 47 = .ok (.iconst 0, 1) := by decide +kernel
theorem dd_X10_take_48 : decode m_X10_take.2.1 48 = .ok (.aload_n 0, 1) := by decide +kernel
theorem dd_X10_take_49 : decode m_X10_take.2.1 49 = .ok (.getfield 21, 3) := by decide +kernel
theorem dd_X10_take_52 : decode m_X10_take.2.1 52 = .ok (.iconst 0, 1) := by decide +kernel
theorem dd_X10_take_53 : decode m_X10_take.2.1 53 = .ok (.bipush 8, 2) := by decide +kernel
theorem dd_X10_take_55 : decode m_X10_take.2.1 55 = .ok (.invokestatic 27, 3) := by decide +kernel
theorem dd_X10_take_58 : decode m_X10_take.2.1 58 = .ok (.aload_n 1, 1) := by decide +kernel
theorem dd_X10_take_59 : decode m_X10_take.2.1 59 = .ok (.getfield 24, 3) := by decide +kernel
theorem dd_X10_take_62 : decode m_X10_take.2.1 62 = .ok (.iconst 0, 1) := by decide +kernel
theorem dd_X10_take_63 : decode m_X10_take.2.1 63 = .ok (.aload_n 0, 1) := by decide +kernel
theorem dd_X10_take_64 : decode m_X10_take.2.1 64 = .ok (.getfield 24, 3) := by decide +kernel
theorem dd_X10_take_67 : decode m_X10_take.2.1 67 = .ok (.iconst 0, 1) := by decide +kernel
theorem dd_X10_take_68 : decode m_X10_take.2.1 68 = .ok (.bipush 8, 2) := by decide +kernel
theorem dd_X10_take_70 : decode m_X10_take.2.1 70 = .ok (.invokestatic 27, 3) := by decide +kernel
theorem dd_X10_take_73 : decode m_X10_take.2.1 73 = .ok (.aload_n 0, 1) := by decide +kernel
theorem dd_X10_take_74 : decode m_X10_take.2.1 74 = .ok (.aload_n 1, 1) := by decide +kernel
theorem dd_X10_take_75 : decode m_X10_take.2.1 75 = .ok (.getfield 33, 3) := by decide +kernel
theorem dd_X10_take_78 : decode m_X10_take.2.1 78 = .ok (.putfield 33, 3) := by decide +kernel
theorem dd_X10_take_81 : decode m_X10_take.2.1 81 = .ok (.aload_n 0, 1) := by decide +kernel
theorem dd_X10_take_82 : decode m_X10_take.2.1 82 = .ok (.aload_n 1, 1) := by decide +kernel
theorem dd_X10_take_83 : decode m_X10_take.2.1 83 = .ok (.getfield 37, 3) := by decide +kernel
theorem dd_X10_take_86 : decode m_X10_take.2.1 86 = .ok (.putfield 37, 3) := by decide +kernel
theorem dd_X10_take_89 : decode m_X10_take.2.1 89 = .ok (.return_, 1) := by decide +kernel
def wp_X10_take (w : Nat) (w0 : Nat) (s : fz_s) (Q : fz_s → Prop) : Prop :=
  ∀ s1 : fz_s, s1 = sa s (w + 1 + 0) (va_cpy (s.1 (w0 + 1 + 0)) (s.1 (w + 1 + 0)) (0 : Int32).toNatClampNeg (0 : Int32).toNatClampNeg (2 : Int32).toNatClampNeg) → ∀ s2 : fz_s, s2 = sa s1 (w + 1 + 1) (va_cpy (s1.1 (w0 + 1 + 1)) (s1.1 (w + 1 + 1)) (0 : Int32).toNatClampNeg (0 : Int32).toNatClampNeg (2 : Int32).toNatClampNeg) → ∀ s3 : fz_s, s3 = sa s2 (w + 1 + 2) (va_cpy (s2.1 (w0 + 1 + 2)) (s2.1 (w + 1 + 2)) (0 : Int32).toNatClampNeg (0 : Int32).toNatClampNeg (8 : Int32).toNatClampNeg) → ∀ s4 : fz_s, s4 = sa s3 (w + 1 + 3) (va_cpy (s3.1 (w0 + 1 + 3)) (s3.1 (w + 1 + 3)) (0 : Int32).toNatClampNeg (0 : Int32).toNatClampNeg (8 : Int32).toNatClampNeg) → ∀ s5 : fz_s, s5 = sa s4 (w + 1 + 4) (va_cpy (s4.1 (w0 + 1 + 4)) (s4.1 (w + 1 + 4)) (0 : Int32).toNatClampNeg (0 : Int32).toNatClampNeg (8 : Int32).toNatClampNeg) → ∀ s6 : fz_s, s6 = si s5 w 5 (s5.1 w0 5) → ∀ s7 : fz_s, s7 = si s6 w 6 (s6.1 w0 6) → Q s7
set_option maxRecDepth 100000 in
set_option maxHeartbeats 4000000 in
theorem V_X10_take {g : fz_G} {l : Launch} {d : Nat} (hD : 1 ≤ d) {w : Nat} {w0 : Nat} (hw : fz_at true w 10 7) (hw0 : fz_at true w0 10 7) {s : fz_s} {Q : fz_s → Prop} (H : wp_X10_take w w0 s Q) : fs_V g l m_X10_take d true 0 (fz_en [.ref w, .ref w0] 2) [] s (rV Q) := by
  obtain ⟨d, rfl⟩ : ∃ e, d = e + 1 := ⟨d - 1, by omega⟩
  unfold wp_X10_take at H
  refine fs_aload_n (k0 := 1) (i := 1) dd_X10_take_0 rfl rfl ?_
  refine fs_getr (ci := 10) (j := 0) (q := (w0 + 1 + 0)) dd_X10_take_1 fl_X10_9 hw0 rfl (Or.inr ⟨_, rfl⟩) ((fz_W hw0).1 0 (by decide)) (fun q => (fz_W hw0).2.2.2 q.1) ?_
  refine fs_iconst (n := 0) (v := 0) dd_X10_take_4 (by decide) ?_
  refine fs_aload_n (k0 := 0) (i := 0) dd_X10_take_5 rfl rfl ?_
  refine fs_getr (ci := 10) (j := 0) (q := (w + 1 + 0)) dd_X10_take_6 fl_X10_9 hw rfl (Or.inr ⟨_, rfl⟩) ((fz_W hw).1 0 (by decide)) (fun q => (fz_W hw).2.2.2 q.1) ?_
  refine fs_iconst (n := 0) (v := 0) dd_X10_take_9 (by decide) ?_
  refine fs_iconst (n := 2) (v := 2) dd_X10_take_10 (by decide) ?_
  refine fs_copy dd_X10_take_11 lk_X10_27 ((fz_W hw0).2.1 0 (by decide)) ((fz_W hw).2.1 0 (by decide)) (by decide) (by decide) (by decide) (by decide) (by decide) (Nat.le_of_ble_eq_true rfl) ?_
  refine fs_tops (fun s1 hs1 => ?_)
  replace H := H s1 hs1
  refine fs_aload_n (k0 := 1) (i := 1) dd_X10_take_14 rfl rfl ?_
  refine fs_getr (ci := 10) (j := 1) (q := (w0 + 1 + 1)) dd_X10_take_15 fl_X10_15 hw0 rfl (Or.inr ⟨_, rfl⟩) ((fz_W hw0).1 1 (by decide)) (fun q => (fz_W hw0).2.2.2 q.1) ?_
  refine fs_iconst (n := 0) (v := 0) dd_X10_take_18 (by decide) ?_
  refine fs_aload_n (k0 := 0) (i := 0) dd_X10_take_19 rfl rfl ?_
  refine fs_getr (ci := 10) (j := 1) (q := (w + 1 + 1)) dd_X10_take_20 fl_X10_15 hw rfl (Or.inr ⟨_, rfl⟩) ((fz_W hw).1 1 (by decide)) (fun q => (fz_W hw).2.2.2 q.1) ?_
  refine fs_iconst (n := 0) (v := 0) dd_X10_take_23 (by decide) ?_
  refine fs_iconst (n := 2) (v := 2) dd_X10_take_24 (by decide) ?_
  refine fs_copy dd_X10_take_25 lk_X10_27 ((fz_W hw0).2.1 1 (by decide)) ((fz_W hw).2.1 1 (by decide)) (by decide) (by decide) (by decide) (by decide) (by decide) (Nat.le_of_ble_eq_true rfl) ?_
  refine fs_tops (fun s2 hs2 => ?_)
  replace H := H s2 hs2
  refine fs_aload_n (k0 := 1) (i := 1) dd_X10_take_28 rfl rfl ?_
  refine fs_getr (ci := 10) (j := 2) (q := (w0 + 1 + 2)) dd_X10_take_29 fl_X10_18 hw0 rfl (Or.inr ⟨_, rfl⟩) ((fz_W hw0).1 2 (by decide)) (fun q => (fz_W hw0).2.2.2 q.1) ?_
  refine fs_iconst (n := 0) (v := 0) dd_X10_take_32 (by decide) ?_
  refine fs_aload_n (k0 := 0) (i := 0) dd_X10_take_33 rfl rfl ?_
  refine fs_getr (ci := 10) (j := 2) (q := (w + 1 + 2)) dd_X10_take_34 fl_X10_18 hw rfl (Or.inr ⟨_, rfl⟩) ((fz_W hw).1 2 (by decide)) (fun q => (fz_W hw).2.2.2 q.1) ?_
  refine fs_iconst (n := 0) (v := 0) dd_X10_take_37 (by decide) ?_
  refine fs_bipush (n := 8) (v := 8) dd_X10_take_38 (by decide) ?_
  refine fs_copy dd_X10_take_40 lk_X10_27 ((fz_W hw0).2.2.1 2 (by decide) (by decide)) ((fz_W hw).2.2.1 2 (by decide) (by decide)) (by decide) (by decide) (by decide) (by decide) (by decide) (Nat.le_of_ble_eq_true rfl) ?_
  refine fs_tops (fun s3 hs3 => ?_)
  replace H := H s3 hs3
  refine fs_aload_n (k0 := 1) (i := 1) dd_X10_take_43 rfl rfl ?_
  refine fs_getr (ci := 10) (j := 3) (q := (w0 + 1 + 3)) dd_X10_take_44 fl_X10_21 hw0 rfl (Or.inr ⟨_, rfl⟩) ((fz_W hw0).1 3 (by decide)) (fun q => (fz_W hw0).2.2.2 q.1) ?_
  refine fs_iconst (n := 0) (v := 0) dd_X10_take_47 (by decide) ?_
  refine fs_aload_n (k0 := 0) (i := 0) dd_X10_take_48 rfl rfl ?_
  refine fs_getr (ci := 10) (j := 3) (q := (w + 1 + 3)) dd_X10_take_49 fl_X10_21 hw rfl (Or.inr ⟨_, rfl⟩) ((fz_W hw).1 3 (by decide)) (fun q => (fz_W hw).2.2.2 q.1) ?_
  refine fs_iconst (n := 0) (v := 0) dd_X10_take_52 (by decide) ?_
  refine fs_bipush (n := 8) (v := 8) dd_X10_take_53 (by decide) ?_
  refine fs_copy dd_X10_take_55 lk_X10_27 ((fz_W hw0).2.2.1 3 (by decide) (by decide)) ((fz_W hw).2.2.1 3 (by decide) (by decide)) (by decide) (by decide) (by decide) (by decide) (by decide) (Nat.le_of_ble_eq_true rfl) ?_
  refine fs_tops (fun s4 hs4 => ?_)
  replace H := H s4 hs4
  refine fs_aload_n (k0 := 1) (i := 1) dd_X10_take_58 rfl rfl ?_
  refine fs_getr (ci := 10) (j := 4) (q := (w0 + 1 + 4)) dd_X10_take_59 fl_X10_24 hw0 rfl (Or.inr ⟨_, rfl⟩) ((fz_W hw0).1 4 (by decide)) (fun q => (fz_W hw0).2.2.2 q.1) ?_
  refine fs_iconst (n := 0) (v := 0) dd_X10_take_62 (by decide) ?_
  refine fs_aload_n (k0 := 0) (i := 0) dd_X10_take_63 rfl rfl ?_
  refine fs_getr (ci := 10) (j := 4) (q := (w + 1 + 4)) dd_X10_take_64 fl_X10_24 hw rfl (Or.inr ⟨_, rfl⟩) ((fz_W hw).1 4 (by decide)) (fun q => (fz_W hw).2.2.2 q.1) ?_
  refine fs_iconst (n := 0) (v := 0) dd_X10_take_67 (by decide) ?_
  refine fs_bipush (n := 8) (v := 8) dd_X10_take_68 (by decide) ?_
  refine fs_copy dd_X10_take_70 lk_X10_27 ((fz_W hw0).2.2.1 4 (by decide) (by decide)) ((fz_W hw).2.2.1 4 (by decide) (by decide)) (by decide) (by decide) (by decide) (by decide) (by decide) (Nat.le_of_ble_eq_true rfl) ?_
  refine fs_tops (fun s5 hs5 => ?_)
  replace H := H s5 hs5
  refine fs_aload_n (k0 := 0) (i := 0) dd_X10_take_73 rfl rfl ?_
  refine fs_aload_n (k0 := 1) (i := 1) dd_X10_take_74 rfl rfl ?_
  refine fs_geti (ci := 10) (j := 5) dd_X10_take_75 fl_X10_33 hw0 rfl (Or.inl rfl) ?_
  refine fs_puti (ci := 10) (j := 5) dd_X10_take_78 fl_X10_33 (fun _ _ _ h => by cases h; rfl) hw rfl (Or.inl rfl) ?_
  refine fs_tops (fun s6 hs6 => ?_)
  replace H := H s6 hs6
  refine fs_aload_n (k0 := 0) (i := 0) dd_X10_take_81 rfl rfl ?_
  refine fs_aload_n (k0 := 1) (i := 1) dd_X10_take_82 rfl rfl ?_
  refine fs_geti (ci := 10) (j := 6) dd_X10_take_83 fl_X10_37 hw0 rfl (Or.inl rfl) ?_
  refine fs_puti (ci := 10) (j := 6) dd_X10_take_86 fl_X10_37 (fun _ _ _ h => by cases h; rfl) hw rfl (Or.inl rfl) ?_
  refine fs_tops (fun s7 hs7 => ?_)
  replace H := H s7 hs7
  exact fs_vret dd_X10_take_89 rfl H
theorem dd_X10_cross_0 : decode m_X10_cross.2.1 0 = .ok (.aload_n 0, 1) := by decide +kernel
theorem dd_X10_cross_1 : decode m_X10_cross.2.1 1 = .ok (.getfield 21, 3) := by decide +kernel
theorem dd_X10_cross_4 : decode m_X10_cross.2.1 4 = .ok (.iload_n 1, 1) := by decide +kernel
theorem dd_X10_cross_5 : decode m_X10_cross.2.1 5 = .ok (.iconst 1, 1) := by decide +kernel
theorem dd_X10_cross_6 : decode m_X10_cross.2.1 6 = .ok (.aload_n 0, 1) := by decide +kernel
theorem dd_X10_cross_7 : decode m_X10_cross.2.1 7 = .ok (.getfield 21, 3) := by decide +kernel
theorem dd_X10_cross_10 : decode m_X10_cross.2.1 10 = .ok (.iload_n 1, 1) := by decide +kernel
theorem dd_X10_cross_11 : decode m_X10_cross.2.1 11 = .ok (.iaload, 1) := by decide +kernel
theorem dd_X10_cross_12 : decode m_X10_cross.2.1 12 = .ok (.isub, 1) := by decide +kernel
theorem dd_X10_cross_13 : decode m_X10_cross.2.1 13 = .ok (.iastore, 1) := by decide +kernel
theorem dd_X10_cross_14 : decode m_X10_cross.2.1 14 = .ok (.aload_n 0, 1) := by decide +kernel
theorem dd_X10_cross_15 : decode m_X10_cross.2.1 15 = .ok (.getfield 24, 3) := by decide +kernel
theorem dd_X10_cross_18 : decode m_X10_cross.2.1 18 = .ok (.iload_n 1, 1) := by decide +kernel
theorem dd_X10_cross_19 : decode m_X10_cross.2.1 19 = .ok (.iconst 0, 1) := by decide +kernel
theorem dd_X10_cross_20 : decode m_X10_cross.2.1 20 = .ok (.iastore, 1) := by decide +kernel
theorem dd_X10_cross_21 : decode m_X10_cross.2.1 21 = .ok (.return_, 1) := by decide +kernel
def wp_X10_cross (w : Nat) (p0 : Int32) (s : fz_s) (Q : fz_s → Prop) : Prop :=
  vp_in p0 8 ∧ vp_in p0 8 ∧ ∀ s1 : fz_s, s1 = si s (w + 1 + 3) p0.toNatClampNeg (1 - (s.1 (w + 1 + 3) p0.toNatClampNeg)) → vp_in p0 8 ∧ ∀ s2 : fz_s, s2 = si s1 (w + 1 + 4) p0.toNatClampNeg 0 → Q s2
set_option maxRecDepth 100000 in
set_option maxHeartbeats 4000000 in
theorem V_X10_cross {g : fz_G} {l : Launch} {d : Nat} (hD : 0 ≤ d) {w : Nat} {p0 : Int32} (hw : fz_at true w 10 7) {s : fz_s} {Q : fz_s → Prop} (H : wp_X10_cross w p0 s Q) : fs_V g l m_X10_cross d true 0 (fz_en [.ref w, .int p0] 2) [] s (rV Q) := by
  unfold wp_X10_cross at H
  refine fs_aload_n (k0 := 0) (i := 0) dd_X10_cross_0 rfl rfl ?_
  refine fs_getr (ci := 10) (j := 3) (q := (w + 1 + 3)) dd_X10_cross_1 fl_X10_21 hw rfl (Or.inr ⟨_, rfl⟩) ((fz_W hw).1 3 (by decide)) (fun q => (fz_W hw).2.2.2 q.1) ?_
  refine fs_iload_n (k0 := 1) (i := 1) dd_X10_cross_4 rfl rfl ?_
  refine fs_iconst (n := 1) (v := 1) dd_X10_cross_5 (by decide) ?_
  refine fs_aload_n (k0 := 0) (i := 0) dd_X10_cross_6 rfl rfl ?_
  refine fs_getr (ci := 10) (j := 3) (q := (w + 1 + 3)) dd_X10_cross_7 fl_X10_21 hw rfl (Or.inr ⟨_, rfl⟩) ((fz_W hw).1 3 (by decide)) (fun q => (fz_W hw).2.2.2 q.1) ?_
  refine fs_iload_n (k0 := 1) (i := 1) dd_X10_cross_10 rfl rfl ?_
  have hb := H.1
  replace H := H.2
  refine fs_iald dd_X10_cross_11 ((fz_W hw).2.2.1 3 (by decide) (by decide)) hb ?_
  refine fs_isub dd_X10_cross_12 ?_
  have hb := H.1
  replace H := H.2
  refine fs_iast dd_X10_cross_13 ((fz_W hw).2.2.1 3 (by decide) (by decide)) hb ?_
  refine fs_tops (fun s1 hs1 => ?_)
  replace H := H s1 hs1
  refine fs_aload_n (k0 := 0) (i := 0) dd_X10_cross_14 rfl rfl ?_
  refine fs_getr (ci := 10) (j := 4) (q := (w + 1 + 4)) dd_X10_cross_15 fl_X10_24 hw rfl (Or.inr ⟨_, rfl⟩) ((fz_W hw).1 4 (by decide)) (fun q => (fz_W hw).2.2.2 q.1) ?_
  refine fs_iload_n (k0 := 1) (i := 1) dd_X10_cross_18 rfl rfl ?_
  refine fs_iconst (n := 0) (v := 0) dd_X10_cross_19 (by decide) ?_
  have hb := H.1
  replace H := H.2
  refine fs_iast dd_X10_cross_20 ((fz_W hw).2.2.1 4 (by decide) (by decide)) hb ?_
  refine fs_tops (fun s2 hs2 => ?_)
  replace H := H s2 hs2
  exact fs_vret dd_X10_cross_21 rfl H
theorem dd_X0_sendNobody_0 : decode m_X0_sendNobody.2.1 0 = .ok (.aload_n 0, 1) := by decide +kernel
theorem dd_X0_sendNobody_1 : decode m_X0_sendNobody.2.1 1 = .ok (.getfield 9, 3) := by decide +kernel
theorem dd_X0_sendNobody_4 : decode m_X0_sendNobody.2.1 4 = .ok (.iconst 0, 1) := by decide +kernel
theorem dd_X0_sendNobody_5 : decode m_X0_sendNobody.2.1 5 = .ok (.iconst (-1), 1) := by decide +kernel
theorem dd_X0_sendNobody_6 : decode m_X0_sendNobody.2.1 6 = .ok (.iastore, 1) := by decide +kernel
theorem dd_X0_sendNobody_7 : decode m_X0_sendNobody.2.1 7 = .ok (.aload_n 0, 1) := by decide +kernel
theorem dd_X0_sendNobody_8 : decode m_X0_sendNobody.2.1 8 = .ok (.getfield 9, 3) := by decide +kernel
theorem dd_X0_sendNobody_11 : decode m_X0_sendNobody.2.1 11 = .ok (.iconst 1, 1) := by decide +kernel
theorem dd_X0_sendNobody_12 : decode m_X0_sendNobody.2.1 12 = .ok (.iconst (-1), 1) := by decide +kernel
theorem dd_X0_sendNobody_13 : decode m_X0_sendNobody.2.1 13 = .ok (.iastore, 1) := by decide +kernel
theorem dd_X0_sendNobody_14 : decode m_X0_sendNobody.2.1 14 = .ok (.return_, 1) := by decide +kernel
def wp_X0_sendNobody  (s : fz_s) (Q : fz_s → Prop) : Prop :=
  ∀ s1 : fz_s, s1 = si s 34 (0 : Int32).toNatClampNeg (-1) → ∀ s2 : fz_s, s2 = si s1 34 (1 : Int32).toNatClampNeg (-1) → Q s2
set_option maxRecDepth 100000 in
set_option maxHeartbeats 4000000 in
theorem V_X0_sendNobody {g : fz_G} {l : Launch} {d : Nat} (hD : 0 ≤ d)   {s : fz_s} {Q : fz_s → Prop} (H : wp_X0_sendNobody  s Q) : fs_V g l m_X0_sendNobody d true 0 (fz_en [.ref 30] 1) [] s (rV Q) := by
  unfold wp_X0_sendNobody at H
  refine fs_aload_n (k0 := 0) (i := 0) dd_X0_sendNobody_0 rfl rfl ?_
  refine fs_getr (ci := 0) (j := 2) (q := 34) dd_X0_sendNobody_1 fl_X0_9 ca_30 rfl (Or.inr ⟨_, rfl⟩) rfl (by decide) ?_
  refine fs_iconst (n := 0) (v := 0) dd_X0_sendNobody_4 (by decide) ?_
  refine fs_iconst (n := -1) (v := -1) dd_X0_sendNobody_5 (by decide) ?_
  refine fs_iast dd_X0_sendNobody_6 ca_34 (vp_in_nI (n := 0) (by decide) (by decide)) ?_
  refine fs_tops (fun s1 hs1 => ?_)
  replace H := H s1 hs1
  refine fs_aload_n (k0 := 0) (i := 0) dd_X0_sendNobody_7 rfl rfl ?_
  refine fs_getr (ci := 0) (j := 2) (q := 34) dd_X0_sendNobody_8 fl_X0_9 ca_30 rfl (Or.inr ⟨_, rfl⟩) rfl (by decide) ?_
  refine fs_iconst (n := 1) (v := 1) dd_X0_sendNobody_11 (by decide) ?_
  refine fs_iconst (n := -1) (v := -1) dd_X0_sendNobody_12 (by decide) ?_
  refine fs_iast dd_X0_sendNobody_13 ca_34 (vp_in_nI (n := 1) (by decide) (by decide)) ?_
  refine fs_tops (fun s2 hs2 => ?_)
  replace H := H s2 hs2
  exact fs_vret dd_X0_sendNobody_14 rfl H
theorem dd_X0_spring_0 : decode m_X0_spring.2.1 0 = .ok (.aload_n 0, 1) := by decide +kernel
theorem dd_X0_spring_1 : decode m_X0_spring.2.1 1 = .ok (.aload_n 1, 1) := by decide +kernel
theorem dd_X0_spring_2 : decode m_X0_spring.2.1 2 = .ok (.iconst 0, 1) := by decide +kernel
theorem dd_X0_spring_3 : decode m_X0_spring.2.1 3 = .ok (.invokevirtual 108, 3) := by decide +kernel
theorem dd_X0_spring_6 : decode m_X0_spring.2.1 6 = .ok (.istore_n 2, 1) := by decide +kernel
theorem dd_X0_spring_7 : decode m_X0_spring.2.1 7 = .ok (.aload_n 0, 1) := by decide +kernel
theorem dd_X0_spring_8 : decode m_X0_spring.2.1 8 = .ok (.aload_n 1, 1) := by decide +kernel
theorem dd_X0_spring_9 : decode m_X0_spring.2.1 9 = .ok (.iconst 1, 1) := by decide +kernel
theorem dd_X0_spring_10 : decode m_X0_spring.2.1 10 = .ok (.invokevirtual 108, 3) := by decide +kernel
theorem dd_X0_spring_13 : decode m_X0_spring.2.1 13 = .ok (.istore_n 3, 1) := by decide +kernel
theorem dd_X0_spring_14 : decode m_X0_spring.2.1 14 = .ok (.aload_n 0, 1) := by decide +kernel
theorem dd_X0_spring_15 : decode m_X0_spring.2.1 15 = .ok (.aload_n 1, 1) := by decide +kernel
theorem dd_X0_spring_16 : decode m_X0_spring.2.1 16 = .ok (.iload_n 2, 1) := by decide +kernel
theorem dd_X0_spring_17 : decode m_X0_spring.2.1 17 = .ok (.invokevirtual 88, 3) := by decide +kernel
theorem dd_X0_spring_20 : decode m_X0_spring.2.1 20 = .ok (.ifCond .eq 12, 3) := by decide +kernel
theorem dd_X0_spring_23 : decode m_X0_spring.2.1 23 = .ok (.aload_n 0, 1) := by decide +kernel
theorem dd_X0_spring_24 : decode m_X0_spring.2.1 24 = .ok (.aload_n 1, 1) := by decide +kernel
theorem dd_X0_spring_25 : decode m_X0_spring.2.1 25 = .ok (.iload_n 3, 1) := by decide +kernel
theorem dd_X0_spring_26 : decode m_X0_spring.2.1 26 = .ok (.invokevirtual 88, 3) := by decide +kernel
theorem dd_X0_spring_29 : decode m_X0_spring.2.1 29 = .ok (.ifCond .ne 8, 3) := by decide +kernel
theorem dd_X0_spring_32 : decode m_X0_spring.2.1 32 = .ok (.aload_n 0, 1) := by decide +kernel
theorem dd_X0_spring_33 : decode m_X0_spring.2.1 33 = .ok (.invokevirtual 105, 3) := by decide +kernel
theorem dd_X0_spring_36 : decode m_X0_spring.2.1 36 = .ok (.return_, 1) := by decide +kernel
theorem dd_X0_spring_37 : decode m_X0_spring.2.1 37 = .ok (.aload_n 0, 1) := by decide +kernel
theorem dd_X0_spring_38 : decode m_X0_spring.2.1 38 = .ok (.getfield 9, 3) := by decide +kernel
theorem dd_X0_spring_41 : decode m_X0_spring.2.1 41 = .ok (.iconst 0, 1) := by decide +kernel
theorem dd_X0_spring_42 : decode m_X0_spring.2.1 42 = .ok (.iload_n 2, 1) := by decide +kernel
theorem dd_X0_spring_43 : decode m_X0_spring.2.1 43 = .ok (.iastore, 1) := by decide +kernel
theorem dd_X0_spring_44 : decode m_X0_spring.2.1 44 = .ok (.aload_n 0, 1) := by decide +kernel
theorem dd_X0_spring_45 : decode m_X0_spring.2.1 45 = .ok (.getfield 9, 3) := by decide +kernel
theorem dd_X0_spring_48 : decode m_X0_spring.2.1 48 = .ok (.iconst 1, 1) := by decide +kernel
theorem dd_X0_spring_49 : decode m_X0_spring.2.1 49 = .ok (.iload_n 3, 1) := by decide +kernel
theorem dd_X0_spring_50 : decode m_X0_spring.2.1 50 = .ok (.iastore, 1) := by decide +kernel
theorem dd_X0_spring_51 : decode m_X0_spring.2.1 51 = .ok (.aload_n 1, 1) := by decide +kernel
theorem dd_X0_spring_52 : decode m_X0_spring.2.1 52 = .ok (.iload_n 2, 1) := by decide +kernel
theorem dd_X0_spring_53 : decode m_X0_spring.2.1 53 = .ok (.invokevirtual 112, 3) := by decide +kernel
theorem dd_X0_spring_56 : decode m_X0_spring.2.1 56 = .ok (.aload_n 1, 1) := by decide +kernel
theorem dd_X0_spring_57 : decode m_X0_spring.2.1 57 = .ok (.iload_n 3, 1) := by decide +kernel
theorem dd_X0_spring_58 : decode m_X0_spring.2.1 58 = .ok (.invokevirtual 112, 3) := by decide +kernel
theorem dd_X0_spring_61 : decode m_X0_spring.2.1 61 = .ok (.return_, 1) := by decide +kernel
def nd_X0_spring_32 (w0 : Nat)  (Q : fz_s → Prop)  (s : fz_s) : Prop :=
  wp_X0_sendNobody  s (fun s2 => Q s2)
def wp_X0_spring (w0 : Nat) (s : fz_s) (Q : fz_s → Prop) : Prop :=
  wp_X0_toSend w0 0 s (fun r1 s2 => wp_X0_toSend w0 1 s2 (fun r3 s4 => wp_X0_wouldPass w0 r1 s4 (fun r5 s6 => ((r5 = false → nd_X0_spring_32 w0  Q  s6) ∧ (r5 = true → wp_X0_wouldPass w0 r3 s6 (fun r7 s8 => ((r7 = true → ∀ s9 : fz_s, s9 = si s8 34 (0 : Int32).toNatClampNeg r1 → ∀ s10 : fz_s, s10 = si s9 34 (1 : Int32).toNatClampNeg r3 → wp_X10_cross w0 r1 s10 (fun s12 => wp_X10_cross w0 r3 s12 (fun s14 => Q s14))) ∧ (r7 = false → nd_X0_spring_32 w0  Q  s8))))))))
set_option maxRecDepth 100000 in
set_option maxHeartbeats 4000000 in
theorem V_nd_X0_spring_32 {g : fz_G} {l : Launch} {d : Nat} (hD : 5 ≤ d) {w0 : Nat} (hw0 : fz_at true w0 10 7)  {Q : fz_s → Prop}  {s : fz_s}  (H : nd_X0_spring_32 w0  Q  s) : fs_V g l m_X0_spring d true 32 [.ref 30, fz_J, fz_J, fz_J] [] s (rV Q) := by
  obtain ⟨d, rfl⟩ : ∃ e, d = e + 1 := ⟨d - 1, by omega⟩
  unfold nd_X0_spring_32 at H
  refine fs_aload_n (k0 := 0) (i := 0) dd_X0_spring_32 rfl rfl ?_
  refine fs_callV (y := m_X0_sendNobody) (as := []) dd_X0_spring_33 me_X0_sendNobody lk_X0_105 in_X0_sendNobody se_X0_sendNobody ca_30 rfl rfl rfl (Nat.le_of_ble_eq_true rfl) (Nat.le_of_ble_eq_true rfl) rfl (V_X0_sendNobody (by omega)  H) (k2_V fun s2 H => ?_)
  exact fs_vret dd_X0_spring_36 rfl H
set_option maxRecDepth 100000 in
set_option maxHeartbeats 4000000 in
theorem V_X0_spring {g : fz_G} {l : Launch} {d : Nat} (hD : 5 ≤ d) {w0 : Nat} (hw0 : fz_at true w0 10 7) {s : fz_s} {Q : fz_s → Prop} (H : wp_X0_spring w0 s Q) : fs_V g l m_X0_spring d true 0 (fz_en [.ref 30, .ref w0] 4) [] s (rV Q) := by
  obtain ⟨d, rfl⟩ : ∃ e, d = e + 1 := ⟨d - 1, by omega⟩
  unfold wp_X0_spring at H
  refine fs_aload_n (k0 := 0) (i := 0) dd_X0_spring_0 rfl rfl ?_
  refine fs_aload_n (k0 := 1) (i := 1) dd_X0_spring_1 rfl rfl ?_
  refine fs_iconst (n := 0) (v := 0) dd_X0_spring_2 (by decide) ?_
  refine fs_callV (y := m_X0_toSend) (as := [.ref w0, .int 0]) dd_X0_spring_3 me_X0_toSend lk_X0_108 in_X0_toSend se_X0_toSend ca_30 rfl rfl rfl (Nat.le_of_ble_eq_true rfl) (Nat.le_of_ble_eq_true rfl) rfl (V_X0_toSend (by omega) hw0 H) (k2_I fun r1 s2 H => ?_)
  refine fs_istore_n (k0 := 2) (i := 2) dd_X0_spring_6 rfl (by decide) ?_
  refine fs_aload_n (k0 := 0) (i := 0) dd_X0_spring_7 rfl rfl ?_
  refine fs_aload_n (k0 := 1) (i := 1) dd_X0_spring_8 rfl rfl ?_
  refine fs_iconst (n := 1) (v := 1) dd_X0_spring_9 (by decide) ?_
  refine fs_callV (y := m_X0_toSend) (as := [.ref w0, .int 1]) dd_X0_spring_10 me_X0_toSend lk_X0_108 in_X0_toSend se_X0_toSend ca_30 rfl rfl rfl (Nat.le_of_ble_eq_true rfl) (Nat.le_of_ble_eq_true rfl) rfl (V_X0_toSend (by omega) hw0 H) (k2_I fun r3 s4 H => ?_)
  refine fs_istore_n (k0 := 3) (i := 3) dd_X0_spring_13 rfl (by decide) ?_
  refine fs_aload_n (k0 := 0) (i := 0) dd_X0_spring_14 rfl rfl ?_
  refine fs_aload_n (k0 := 1) (i := 1) dd_X0_spring_15 rfl rfl ?_
  refine fs_iload_n (k0 := 2) (i := 2) dd_X0_spring_16 rfl rfl ?_
  refine fs_callV (y := m_X0_wouldPass) (as := [.ref w0, .int r1]) dd_X0_spring_17 me_X0_wouldPass lk_X0_88 in_X0_wouldPass se_X0_wouldPass ca_30 rfl rfl rfl (Nat.le_of_ble_eq_true rfl) (Nat.le_of_ble_eq_true rfl) rfl (V_X0_wouldPass (by omega) hw0 H) (k2_Z fun r5 s6 H => ?_)
  refine fs_if_eq (tgt := 32) dd_X0_spring_20 (by decide) (fun hc => ?_) (fun hc => ?_)
  · replace H := H.1 (bi_0 hc)
    refine fs_weak (ls2 := [.ref 30, fz_J, fz_J, fz_J]) (fz_le_e (fz_le_j (fz_le_j (fz_le_j fz_le_n)))) ?_
    exact V_nd_X0_spring_32 hD  hw0  H
  · replace H := H.2 (bi_1 hc)
    refine fs_aload_n (k0 := 0) (i := 0) dd_X0_spring_23 rfl rfl ?_
    refine fs_aload_n (k0 := 1) (i := 1) dd_X0_spring_24 rfl rfl ?_
    refine fs_iload_n (k0 := 3) (i := 3) dd_X0_spring_25 rfl rfl ?_
    refine fs_callV (y := m_X0_wouldPass) (as := [.ref w0, .int r3]) dd_X0_spring_26 me_X0_wouldPass lk_X0_88 in_X0_wouldPass se_X0_wouldPass ca_30 rfl rfl rfl (Nat.le_of_ble_eq_true rfl) (Nat.le_of_ble_eq_true rfl) rfl (V_X0_wouldPass (by omega) hw0 H) (k2_Z fun r7 s8 H => ?_)
    refine fs_if_ne (tgt := 37) dd_X0_spring_29 (by decide) (fun hc => ?_) (fun hc => ?_)
    · replace H := H.1 (bi_1 hc)
      refine fs_aload_n (k0 := 0) (i := 0) dd_X0_spring_37 rfl rfl ?_
      refine fs_getr (ci := 0) (j := 2) (q := 34) dd_X0_spring_38 fl_X0_9 ca_30 rfl (Or.inr ⟨_, rfl⟩) rfl (by decide) ?_
      refine fs_iconst (n := 0) (v := 0) dd_X0_spring_41 (by decide) ?_
      refine fs_iload_n (k0 := 2) (i := 2) dd_X0_spring_42 rfl rfl ?_
      refine fs_iast dd_X0_spring_43 ca_34 (vp_in_nI (n := 0) (by decide) (by decide)) ?_
      refine fs_tops (fun s9 hs9 => ?_)
      replace H := H s9 hs9
      refine fs_aload_n (k0 := 0) (i := 0) dd_X0_spring_44 rfl rfl ?_
      refine fs_getr (ci := 0) (j := 2) (q := 34) dd_X0_spring_45 fl_X0_9 ca_30 rfl (Or.inr ⟨_, rfl⟩) rfl (by decide) ?_
      refine fs_iconst (n := 1) (v := 1) dd_X0_spring_48 (by decide) ?_
      refine fs_iload_n (k0 := 3) (i := 3) dd_X0_spring_49 rfl rfl ?_
      refine fs_iast dd_X0_spring_50 ca_34 (vp_in_nI (n := 1) (by decide) (by decide)) ?_
      refine fs_tops (fun s10 hs10 => ?_)
      replace H := H s10 hs10
      refine fs_aload_n (k0 := 1) (i := 1) dd_X0_spring_51 rfl rfl ?_
      refine fs_iload_n (k0 := 2) (i := 2) dd_X0_spring_52 rfl rfl ?_
      refine fs_callV (y := m_X10_cross) (as := [.int r1]) dd_X0_spring_53 me_X10_cross lk_X0_112 in_X10_cross se_X10_cross hw0 rfl rfl rfl (Nat.le_of_ble_eq_true rfl) (Nat.le_of_ble_eq_true rfl) rfl (V_X10_cross (by omega) hw0 H) (k2_V fun s12 H => ?_)
      refine fs_aload_n (k0 := 1) (i := 1) dd_X0_spring_56 rfl rfl ?_
      refine fs_iload_n (k0 := 3) (i := 3) dd_X0_spring_57 rfl rfl ?_
      refine fs_callV (y := m_X10_cross) (as := [.int r3]) dd_X0_spring_58 me_X10_cross lk_X0_112 in_X10_cross se_X10_cross hw0 rfl rfl rfl (Nat.le_of_ble_eq_true rfl) (Nat.le_of_ble_eq_true rfl) rfl (V_X10_cross (by omega) hw0 H) (k2_V fun s14 H => ?_)
      exact fs_vret dd_X0_spring_61 rfl H
    · replace H := H.2 (bi_0 hc)
      refine fs_weak (ls2 := [.ref 30, fz_J, fz_J, fz_J]) (fz_le_e (fz_le_j (fz_le_j (fz_le_j fz_le_n)))) ?_
      exact V_nd_X0_spring_32 hD  hw0  H
theorem dd_X0_nextHarvest_0 : decode m_X0_nextHarvest.2.1 0 = .ok (.aload_n 1, 1) := by decide +kernel
theorem dd_X0_nextHarvest_1 : decode m_X0_nextHarvest.2.1 1 = .ok (.getfield 28, 3) := by decide +kernel
theorem dd_X0_nextHarvest_4 : decode m_X0_nextHarvest.2.1 4 = .ok (.iload_n 2, 1) := by decide +kernel
theorem dd_X0_nextHarvest_5 : decode m_X0_nextHarvest.2.1 5 = .ok (.iaload, 1) := by decide +kernel
theorem dd_X0_nextHarvest_6 : decode m_X0_nextHarvest.2.1 6 = .ok (.istore_n 3, 1) := by decide +kernel
theorem dd_X0_nextHarvest_7 : decode m_X0_nextHarvest.2.1 7 = .ok (.iconst 0, 1) := by decide +kernel
theorem dd_X0_nextHarvest_8 : decode m_X0_nextHarvest.2.1 8 = .ok (.istore 4, 2) := by decide +kernel
theorem dd_X0_nextHarvest_10 : decode m_X0_nextHarvest.2.1 10 = .ok (.iload 4, 2) := by decide +kernel
theorem dd_X0_nextHarvest_12 : decode m_X0_nextHarvest.2.1 12 = .ok (.aload_n 0, 1) := by decide +kernel
theorem dd_X0_nextHarvest_13 : decode m_X0_nextHarvest.2.1 13 = .ok (.getfield 15, 3) := by decide +kernel
theorem dd_X0_nextHarvest_16 : decode m_X0_nextHarvest.2.1 16 = .ok (.getfield 77, 3) := by decide +kernel
theorem dd_X0_nextHarvest_19 : decode m_X0_nextHarvest.2.1 19 = .ok (.if_icmp .ge 32, 3) := by decide +kernel
theorem dd_X0_nextHarvest_22 : decode m_X0_nextHarvest.2.1 22 = .ok (.aload_n 1, 1) := by decide +kernel
theorem dd_X0_nextHarvest_23 : decode m_X0_nextHarvest.2.1 23 = .ok (.getfield 71, 3) := by decide +kernel
theorem dd_X0_nextHarvest_26 : decode m_X0_nextHarvest.2.1 26 = .ok (.iload 4, 2) := by decide +kernel
theorem dd_X0_nextHarvest_28 : decode m_X0_nextHarvest.2.1 28 = .ok (.iaload, 1) := by decide +kernel
theorem dd_X0_nextHarvest_29 : decode m_X0_nextHarvest.2.1 29 = .ok (.iload_n 2, 1) := by decide +kernel
theorem dd_X0_nextHarvest_30 : decode m_X0_nextHarvest.2.1 30 = .ok (.if_icmp .ne 15, 3) := by decide +kernel
theorem dd_X0_nextHarvest_33 : decode m_X0_nextHarvest.2.1 33 = .ok (.iload_n 3, 1) := by decide +kernel
theorem dd_X0_nextHarvest_34 : decode m_X0_nextHarvest.2.1 34 = .ok (.aload_n 0, 1) := by decide +kernel
theorem dd_X0_nextHarvest_35 : decode m_X0_nextHarvest.2.1 35 = .ok (.aload_n 1, 1) := by decide +kernel
theorem dd_X0_nextHarvest_36 : decode m_X0_nextHarvest.2.1 36 = .ok (.iconst 2, 1) := by decide +kernel
theorem dd_X0_nextHarvest_37 : decode m_X0_nextHarvest.2.1 37 = .ok (.iload 4, 2) := by decide +kernel
theorem dd_X0_nextHarvest_39 : decode m_X0_nextHarvest.2.1 39 = .ok (.iload_n 2, 1) := by decide +kernel
theorem dd_X0_nextHarvest_40 : decode m_X0_nextHarvest.2.1 40 = .ok (.invokevirtual 67, 3) := by decide +kernel
theorem dd_X0_nextHarvest_43 : decode m_X0_nextHarvest.2.1 43 = .ok (.iadd, 1) := by decide +kernel
theorem dd_X0_nextHarvest_44 : decode m_X0_nextHarvest.2.1 44 = .ok (.istore_n 3, 1) := by decide +kernel
theorem dd_X0_nextHarvest_45 : decode m_X0_nextHarvest.2.1 45 = .ok (.iinc 4 1, 3) := by decide +kernel
theorem dd_X0_nextHarvest_48 : decode m_X0_nextHarvest.2.1 48 = .ok (.goto (-38), 3) := by decide +kernel
theorem dd_X0_nextHarvest_51 : decode m_X0_nextHarvest.2.1 51 = .ok (.iconst 0, 1) := by decide +kernel
theorem dd_X0_nextHarvest_52 : decode m_X0_nextHarvest.2.1 52 = .ok (.sipush 999, 3) := by decide +kernel
theorem dd_X0_nextHarvest_55 : decode m_X0_nextHarvest.2.1 55 = .ok (.iload_n 3, 1) := by decide +kernel
theorem dd_X0_nextHarvest_56 : decode m_X0_nextHarvest.2.1 56 = .ok (.invokestatic 122, 3) := by decide +kernel
theorem dd_X0_nextHarvest_59 : decode m_X0_nextHarvest.2.1 59 = .ok (.invokestatic 128, 3) := by decide +kernel
theorem dd_X0_nextHarvest_62 : decode m_X0_nextHarvest.2.1 62 = .ok (.ireturn, 1) := by decide +kernel
def nd_X0_nextHarvest_10 (w0 : Nat) (K10 : Int32 → Int32 → Int32 → fz_s → Prop) (Q : Int32 → fz_s → Prop) (v2 : Int32) (v3 : Int32) (v4 : Int32) (s : fz_s) : Prop :=
  (((s.1 6 12) ≤ v4 → Q (if 0 < (if v3 < 999 then v3 else 999) then (if v3 < 999 then v3 else 999) else 0) s) ∧ (¬ (s.1 6 12) ≤ v4 → vp_in v4 8 ∧ ((¬ (s.1 (w0 + 1 + 3) v4.toNatClampNeg) = v2 → ∀ x1 : Int32, x1 = v4 + 1 → K10 v2 v3 x1 s) ∧ ((s.1 (w0 + 1 + 3) v4.toNatClampNeg) = v2 → wp_X0_ruled w0 2 v4 v2 s (fun r2 s3 => ∀ x4 : Int32, x4 = (v3 + r2) → ∀ x5 : Int32, x5 = v4 + 1 → K10 v2 x4 x5 s3)))))
def lp_X0_nextHarvest_10 (w0 : Nat)  (Q : Int32 → fz_s → Prop) : Nat → Int32 → Int32 → Int32 → fz_s → Prop
  | 0 => fun _ _ _ _ => False
  | n + 1 => nd_X0_nextHarvest_10 w0 (lp_X0_nextHarvest_10 w0  Q n) Q
def wp_X0_nextHarvest (w0 : Nat) (p1 : Int32) (s : fz_s) (Q : Int32 → fz_s → Prop) : Prop :=
  vp_in p1 2 ∧ ∀ x1 : Int32, x1 = (s.1 (w0 + 1 + 0) p1.toNatClampNeg) → lp_X0_nextHarvest_10 w0  Q 2048 p1 x1 0 s
set_option maxRecDepth 100000 in
set_option maxHeartbeats 4000000 in
theorem V_nd_X0_nextHarvest_10 {g : fz_G} {l : Launch} {d : Nat} (hD : 4 ≤ d) {w0 : Nat} (hw0 : fz_at true w0 10 7) {K10 : Int32 → Int32 → Int32 → fz_s → Prop} {Q : Int32 → fz_s → Prop} {v2 : Int32} {v3 : Int32} {v4 : Int32} {s : fz_s} (hK10 : ∀ {v2 : Int32} {v3 : Int32} {v4 : Int32} {s : fz_s}, K10 v2 v3 v4 s → fs_V g l m_X0_nextHarvest d true 10 [.ref 30, .ref w0, .int v2, .int v3, .int v4] [] s (rI Q)) (H : nd_X0_nextHarvest_10 w0 K10 Q v2 v3 v4 s) : fs_V g l m_X0_nextHarvest d true 10 [.ref 30, .ref w0, .int v2, .int v3, .int v4] [] s (rI Q) := by
  obtain ⟨d, rfl⟩ : ∃ e, d = e + 1 := ⟨d - 1, by omega⟩
  unfold nd_X0_nextHarvest_10 at H
  refine fs_iload (i := 4) dd_X0_nextHarvest_10 rfl ?_
  refine fs_aload_n (k0 := 0) (i := 0) dd_X0_nextHarvest_12 rfl rfl ?_
  refine fs_getr (ci := 0) (j := 0) (q := 6) dd_X0_nextHarvest_13 fl_X0_15 ca_30 rfl (Or.inl ⟨_, rfl⟩) rfl (by decide) ?_
  refine fs_geti (ci := 9) (j := 12) dd_X0_nextHarvest_16 fl_X0_77 ca_6 rfl (Or.inl rfl) ?_
  refine fs_icmp_ge (tgt := 51) dd_X0_nextHarvest_19 (by decide) (fun hc => ?_) (fun hc => ?_)
  · replace H := H.1 hc
    refine fs_iconst (n := 0) (v := 0) dd_X0_nextHarvest_51 (by decide) ?_
    refine fs_sipush (n := 999) (v := 999) dd_X0_nextHarvest_52 (by decide) ?_
    refine fs_iload_n (k0 := 3) (i := 3) dd_X0_nextHarvest_55 rfl rfl ?_
    refine fs_mmin dd_X0_nextHarvest_56 lk_X0_122 (Nat.le_of_ble_eq_true rfl) ?_
    refine fs_mmax dd_X0_nextHarvest_59 lk_X0_128 (Nat.le_of_ble_eq_true rfl) ?_
    exact fs_iret dd_X0_nextHarvest_62 rfl H
  · replace H := H.2 hc
    refine fs_aload_n (k0 := 1) (i := 1) dd_X0_nextHarvest_22 rfl rfl ?_
    refine fs_getr (ci := 10) (j := 3) (q := (w0 + 1 + 3)) dd_X0_nextHarvest_23 fl_X0_71 hw0 rfl (Or.inr ⟨_, rfl⟩) ((fz_W hw0).1 3 (by decide)) (fun q => (fz_W hw0).2.2.2 q.1) ?_
    refine fs_iload (i := 4) dd_X0_nextHarvest_26 rfl ?_
    have hb := H.1
    replace H := H.2
    refine fs_iald dd_X0_nextHarvest_28 ((fz_W hw0).2.2.1 3 (by decide) (by decide)) hb ?_
    refine fs_iload_n (k0 := 2) (i := 2) dd_X0_nextHarvest_29 rfl rfl ?_
    refine fs_icmp_ne (tgt := 45) dd_X0_nextHarvest_30 (by decide) (fun hc => ?_) (fun hc => ?_)
    · replace H := H.1 hc
      refine fs_iincN (i := 4) (m := 1) (c := 1) dd_X0_nextHarvest_45 rfl (by decide) (by decide) (fun x1 hx1 => ?_)
      replace H := H x1 hx1
      refine fs_goto (tgt := 10) dd_X0_nextHarvest_48 (by decide) ?_
      refine fs_weak (ls2 := [.ref 30, .ref w0, .int v2, .int v3, .int x1]) (fz_le_e (fz_le_e (fz_le_e (fz_le_e (fz_le_e fz_le_n))))) ?_
      exact hK10 H
    · replace H := H.2 hc
      refine fs_iload_n (k0 := 3) (i := 3) dd_X0_nextHarvest_33 rfl rfl ?_
      refine fs_aload_n (k0 := 0) (i := 0) dd_X0_nextHarvest_34 rfl rfl ?_
      refine fs_aload_n (k0 := 1) (i := 1) dd_X0_nextHarvest_35 rfl rfl ?_
      refine fs_iconst (n := 2) (v := 2) dd_X0_nextHarvest_36 (by decide) ?_
      refine fs_iload (i := 4) dd_X0_nextHarvest_37 rfl ?_
      refine fs_iload_n (k0 := 2) (i := 2) dd_X0_nextHarvest_39 rfl rfl ?_
      refine fs_callV (y := m_X0_ruled) (as := [.ref w0, .int 2, .int v4, .int v2]) dd_X0_nextHarvest_40 me_X0_ruled lk_X0_67 in_X0_ruled se_X0_ruled ca_30 rfl rfl rfl (Nat.le_of_ble_eq_true rfl) (Nat.le_of_ble_eq_true rfl) rfl (V_X0_ruled (by omega) hw0 H) (k2_I fun r2 s3 H => ?_)
      refine fs_iadd dd_X0_nextHarvest_43 ?_
      refine fs_topi (fun x4 hx4 => ?_)
      replace H := H x4 hx4
      refine fs_istore_n (k0 := 3) (i := 3) dd_X0_nextHarvest_44 rfl (by decide) ?_
      refine fs_iincN (i := 4) (m := 1) (c := 1) dd_X0_nextHarvest_45 rfl (by decide) (by decide) (fun x5 hx5 => ?_)
      replace H := H x5 hx5
      refine fs_goto (tgt := 10) dd_X0_nextHarvest_48 (by decide) ?_
      refine fs_weak (ls2 := [.ref 30, .ref w0, .int v2, .int x4, .int x5]) (fz_le_e (fz_le_e (fz_le_e (fz_le_e (fz_le_e fz_le_n))))) ?_
      exact hK10 H
set_option maxRecDepth 100000 in
set_option maxHeartbeats 4000000 in
theorem V_lp_X0_nextHarvest_10 {g : fz_G} {l : Launch} {d : Nat} (hD : 4 ≤ d) {w0 : Nat} (hw0 : fz_at true w0 10 7)  {Q : Int32 → fz_s → Prop}  (n : Nat) : ∀ {v2 : Int32} {v3 : Int32} {v4 : Int32} {s : fz_s}, lp_X0_nextHarvest_10 w0  Q n v2 v3 v4 s → fs_V g l m_X0_nextHarvest d true 10 [.ref 30, .ref w0, .int v2, .int v3, .int v4] [] s (rI Q) := by
  induction n with
  | zero => intro v2 v3 v4 s H; exact H.elim
  | succ n ih => intro v2 v3 v4 s H; exact V_nd_X0_nextHarvest_10 hD hw0 (fun H => ih H) H
set_option maxRecDepth 100000 in
set_option maxHeartbeats 4000000 in
theorem V_X0_nextHarvest {g : fz_G} {l : Launch} {d : Nat} (hD : 4 ≤ d) {w0 : Nat} {p1 : Int32} (hw0 : fz_at true w0 10 7) {s : fz_s} {Q : Int32 → fz_s → Prop} (H : wp_X0_nextHarvest w0 p1 s Q) : fs_V g l m_X0_nextHarvest d true 0 (fz_en [.ref 30, .ref w0, .int p1] 5) [] s (rI Q) := by
  obtain ⟨d, rfl⟩ : ∃ e, d = e + 1 := ⟨d - 1, by omega⟩
  unfold wp_X0_nextHarvest at H
  refine fs_aload_n (k0 := 1) (i := 1) dd_X0_nextHarvest_0 rfl rfl ?_
  refine fs_getr (ci := 10) (j := 0) (q := (w0 + 1 + 0)) dd_X0_nextHarvest_1 fl_X0_28 hw0 rfl (Or.inr ⟨_, rfl⟩) ((fz_W hw0).1 0 (by decide)) (fun q => (fz_W hw0).2.2.2 q.1) ?_
  refine fs_iload_n (k0 := 2) (i := 2) dd_X0_nextHarvest_4 rfl rfl ?_
  have hb := H.1
  replace H := H.2
  refine fs_iald dd_X0_nextHarvest_5 ((fz_W hw0).2.1 0 (by decide)) hb ?_
  refine fs_topi (fun x1 hx1 => ?_)
  replace H := H x1 hx1
  refine fs_istore_n (k0 := 3) (i := 3) dd_X0_nextHarvest_6 rfl (by decide) ?_
  refine fs_iconst (n := 0) (v := 0) dd_X0_nextHarvest_7 (by decide) ?_
  refine fs_istore (i := 4) dd_X0_nextHarvest_8 (by decide) ?_
  refine fs_weak (ls2 := [.ref 30, .ref w0, .int p1, .int x1, .int 0]) (fz_le_e (fz_le_e (fz_le_e (fz_le_e (fz_le_e fz_le_n))))) ?_
  exact V_lp_X0_nextHarvest_10 hD  hw0  2048 H
theorem dd_X0_nextQuarrel_0 : decode m_X0_nextQuarrel.2.1 0 = .ok (.aload_n 0, 1) := by decide +kernel
theorem dd_X0_nextQuarrel_1 : decode m_X0_nextQuarrel.2.1 1 = .ok (.getfield 19, 3) := by decide +kernel
theorem dd_X0_nextQuarrel_4 : decode m_X0_nextQuarrel.2.1 4 = .ok (.getfield 23, 3) := by decide +kernel
theorem dd_X0_nextQuarrel_7 : decode m_X0_nextQuarrel.2.1 7 = .ok (.astore_n 3, 1) := by decide +kernel
theorem dd_X0_nextQuarrel_8 : decode m_X0_nextQuarrel.2.1 8 = .ok (.aload_n 3, 1) := by decide +kernel
theorem dd_X0_nextQuarrel_9 : decode m_X0_nextQuarrel.2.1 9 = .ok (.iconst 0, 1) := by decide +kernel
theorem dd_X0_nextQuarrel_10 : decode m_X0_nextQuarrel.2.1 10 = .ok (.aload_n 1, 1) := by decide +kernel
theorem dd_X0_nextQuarrel_11 : decode m_X0_nextQuarrel.2.1 11 = .ok (.getfield 28, 3) := by decide +kernel
theorem dd_X0_nextQuarrel_14 : decode m_X0_nextQuarrel.2.1 14 = .ok (.iload_n 2, 1) := by decide +kernel
theorem dd_X0_nextQuarrel_15 : decode m_X0_nextQuarrel.2.1 15 = .ok (.iaload, 1) := by decide +kernel
theorem dd_X0_nextQuarrel_16 : decode m_X0_nextQuarrel.2.1 16 = .ok (.iastore, 1) := by decide +kernel
theorem dd_X0_nextQuarrel_17 : decode m_X0_nextQuarrel.2.1 17 = .ok (.aload_n 3, 1) := by decide +kernel
theorem dd_X0_nextQuarrel_18 : decode m_X0_nextQuarrel.2.1 18 = .ok (.iconst 1, 1) := by decide +kernel
theorem dd_X0_nextQuarrel_19 : decode m_X0_nextQuarrel.2.1 19 = .ok (.aload_n 1, 1) := by decide +kernel
theorem dd_X0_nextQuarrel_20 : decode m_X0_nextQuarrel.2.1 20 = .ok (.getfield 33, 3) := by decide +kernel
theorem dd_X0_nextQuarrel_23 : decode m_X0_nextQuarrel.2.1 23 = .ok (.iload_n 2, 1) := by decide +kernel
theorem dd_X0_nextQuarrel_24 : decode m_X0_nextQuarrel.2.1 24 = .ok (.iaload, 1) := by decide +kernel
theorem dd_X0_nextQuarrel_25 : decode m_X0_nextQuarrel.2.1 25 = .ok (.iastore, 1) := by decide +kernel
theorem dd_X0_nextQuarrel_26 : decode m_X0_nextQuarrel.2.1 26 = .ok (.aload_n 3, 1) := by decide +kernel
theorem dd_X0_nextQuarrel_27 : decode m_X0_nextQuarrel.2.1 27 = .ok (.iconst 2, 1) := by decide +kernel
theorem dd_X0_nextQuarrel_28 : decode m_X0_nextQuarrel.2.1 28 = .ok (.aload_n 1, 1) := by decide +kernel
theorem dd_X0_nextQuarrel_29 : decode m_X0_nextQuarrel.2.1 29 = .ok (.getfield 36, 3) := by decide +kernel
theorem dd_X0_nextQuarrel_32 : decode m_X0_nextQuarrel.2.1 32 = .ok (.iastore, 1) := by decide +kernel
theorem dd_X0_nextQuarrel_33 : decode m_X0_nextQuarrel.2.1 33 = .ok (.aload_n 3, 1) := by decide +kernel
theorem dd_X0_nextQuarrel_34 : decode m_X0_nextQuarrel.2.1 34 = .ok (.bipush 7, 2) := by decide +kernel
theorem dd_X0_nextQuarrel_36 : decode m_X0_nextQuarrel.2.1 36 = .ok (.aload_n 0, 1) := by decide +kernel
theorem dd_X0_nextQuarrel_37 : decode m_X0_nextQuarrel.2.1 37 = .ok (.aload_n 1, 1) := by decide +kernel
theorem dd_X0_nextQuarrel_38 : decode m_X0_nextQuarrel.2.1 38 = .ok (.iload_n 2, 1) := by decide +kernel
theorem dd_X0_nextQuarrel_39 : decode m_X0_nextQuarrel.2.1 39 = .ok (.invokevirtual 131, 3) := by decide +kernel
theorem dd_X0_nextQuarrel_42 : decode m_X0_nextQuarrel.2.1 42 = .ok (.aload_n 0, 1) := by decide +kernel
theorem dd_X0_nextQuarrel_43 : decode m_X0_nextQuarrel.2.1 43 = .ok (.aload_n 1, 1) := by decide +kernel
theorem dd_X0_nextQuarrel_44 : decode m_X0_nextQuarrel.2.1 44 = .ok (.iload_n 2, 1) := by decide +kernel
theorem dd_X0_nextQuarrel_45 : decode m_X0_nextQuarrel.2.1 45 = .ok (.invokevirtual 134, 3) := by decide +kernel
theorem dd_X0_nextQuarrel_48 : decode m_X0_nextQuarrel.2.1 48 = .ok (.isub, 1) := by decide +kernel
theorem dd_X0_nextQuarrel_49 : decode m_X0_nextQuarrel.2.1 49 = .ok (.iastore, 1) := by decide +kernel
theorem dd_X0_nextQuarrel_50 : decode m_X0_nextQuarrel.2.1 50 = .ok (.aload_n 0, 1) := by decide +kernel
theorem dd_X0_nextQuarrel_51 : decode m_X0_nextQuarrel.2.1 51 = .ok (.getfield 19, 3) := by decide +kernel
theorem dd_X0_nextQuarrel_54 : decode m_X0_nextQuarrel.2.1 54 = .ok (.aload_n 0, 1) := by decide +kernel
theorem dd_X0_nextQuarrel_55 : decode m_X0_nextQuarrel.2.1 55 = .ok (.getfield 15, 3) := by decide +kernel
theorem dd_X0_nextQuarrel_58 : decode m_X0_nextQuarrel.2.1 58 = .ok (.getfield 54, 3) := by decide +kernel
theorem dd_X0_nextQuarrel_61 : decode m_X0_nextQuarrel.2.1 61 = .ok (.aload_n 0, 1) := by decide +kernel
theorem dd_X0_nextQuarrel_62 : decode m_X0_nextQuarrel.2.1 62 = .ok (.getfield 15, 3) := by decide +kernel
theorem dd_X0_nextQuarrel_65 : decode m_X0_nextQuarrel.2.1 65 = .ok (.getfield 57, 3) := by decide +kernel
theorem dd_X0_nextQuarrel_68 : decode m_X0_nextQuarrel.2.1 68 = .ok (.iconst 3, 1) := by decide +kernel
theorem dd_X0_nextQuarrel_69 : decode m_X0_nextQuarrel.2.1 69 = .ok (.iaload, 1) := by decide +kernel
theorem dd_X0_nextQuarrel_70 : decode m_X0_nextQuarrel.2.1 70 = .ok (.aload_n 0, 1) := by decide +kernel
theorem dd_X0_nextQuarrel_71 : decode m_X0_nextQuarrel.2.1 71 = .ok (.getfield 15, 3) := by decide +kernel
theorem dd_X0_nextQuarrel_74 : decode m_X0_nextQuarrel.2.1 74 = .ok (.getfield 60, 3) := by decide +kernel
theorem dd_X0_nextQuarrel_77 : decode m_X0_nextQuarrel.2.1 77 = .ok (.iconst 3, 1) := by decide +kernel
theorem dd_X0_nextQuarrel_78 : decode m_X0_nextQuarrel.2.1 78 = .ok (.iaload, 1) := by decide +kernel
theorem dd_X0_nextQuarrel_79 : decode m_X0_nextQuarrel.2.1 79 = .ok (.invokevirtual 63, 3) := by decide +kernel
theorem dd_X0_nextQuarrel_82 : decode m_X0_nextQuarrel.2.1 82 = .ok (.istore 4, 2) := by decide +kernel
theorem dd_X0_nextQuarrel_84 : decode m_X0_nextQuarrel.2.1 84 = .ok (.iconst 0, 1) := by decide +kernel
theorem dd_X0_nextQuarrel_85 : decode m_X0_nextQuarrel.2.1 85 = .ok (.bipush 99, 2) := by decide +kernel
theorem dd_X0_nextQuarrel_87 : decode m_X0_nextQuarrel.2.1 87 = .ok (.iload 4, 2) := by decide +kernel
theorem dd_X0_nextQuarrel_89 : decode m_X0_nextQuarrel.2.1 89 = .ok (.invokestatic 122, 3) := by decide +kernel
theorem dd_X0_nextQuarrel_92 : decode m_X0_nextQuarrel.2.1 92 = .ok (.invokestatic 128, 3) := by decide +kernel
theorem dd_X0_nextQuarrel_95 : decode m_X0_nextQuarrel.2.1 95 = .ok (.ireturn, 1) := by decide +kernel
def wp_X0_nextQuarrel (w0 : Nat) (p1 : Int32) (s : fz_s) (Q : Int32 → fz_s → Prop) : Prop :=
  vp_in p1 2 ∧ ∀ s1 : fz_s, s1 = si s 32 (0 : Int32).toNatClampNeg (s.1 (w0 + 1 + 0) p1.toNatClampNeg) → vp_in p1 2 ∧ ∀ s2 : fz_s, s2 = si s1 32 (1 : Int32).toNatClampNeg (s1.1 (w0 + 1 + 1) p1.toNatClampNeg) → ∀ s3 : fz_s, s3 = si s2 32 (2 : Int32).toNatClampNeg (s2.1 w0 5) → wp_X0_countLiving w0 p1 s3 (fun r4 s5 => wp_X0_countOwn w0 p1 s5 (fun r6 s7 => ∀ s8 : fz_s, s8 = si s7 32 (7 : Int32).toNatClampNeg (r4 - r6) → wp_X7_value 14 1632 (s8.1 15 (3 : Int32).toNatClampNeg) (s8.1 16 (3 : Int32).toNatClampNeg) s8 (fun r9 s10 => Q (if 0 < (if r9 < 99 then r9 else 99) then (if r9 < 99 then r9 else 99) else 0) s10)))
set_option maxRecDepth 100000 in
set_option maxHeartbeats 4000000 in
theorem V_X0_nextQuarrel {g : fz_G} {l : Launch} {d : Nat} (hD : 3 ≤ d) {w0 : Nat} {p1 : Int32} (hw0 : fz_at true w0 10 7) {s : fz_s} {Q : Int32 → fz_s → Prop} (H : wp_X0_nextQuarrel w0 p1 s Q) : fs_V g l m_X0_nextQuarrel d true 0 (fz_en [.ref 30, .ref w0, .int p1] 5) [] s (rI Q) := by
  obtain ⟨d, rfl⟩ : ∃ e, d = e + 1 := ⟨d - 1, by omega⟩
  unfold wp_X0_nextQuarrel at H
  refine fs_aload_n (k0 := 0) (i := 0) dd_X0_nextQuarrel_0 rfl rfl ?_
  refine fs_getr (ci := 0) (j := 1) (q := 31) dd_X0_nextQuarrel_1 fl_X0_19 ca_30 rfl (Or.inl ⟨_, rfl⟩) rfl (by decide) ?_
  refine fs_getr (ci := 7) (j := 0) (q := 32) dd_X0_nextQuarrel_4 fl_X0_23 ca_31 rfl (Or.inr ⟨_, rfl⟩) rfl (by decide) ?_
  refine fs_astore_n (k0 := 3) (i := 3) dd_X0_nextQuarrel_7 rfl (by decide) ?_
  refine fs_aload_n (k0 := 3) (i := 3) dd_X0_nextQuarrel_8 rfl rfl ?_
  refine fs_iconst (n := 0) (v := 0) dd_X0_nextQuarrel_9 (by decide) ?_
  refine fs_aload_n (k0 := 1) (i := 1) dd_X0_nextQuarrel_10 rfl rfl ?_
  refine fs_getr (ci := 10) (j := 0) (q := (w0 + 1 + 0)) dd_X0_nextQuarrel_11 fl_X0_28 hw0 rfl (Or.inr ⟨_, rfl⟩) ((fz_W hw0).1 0 (by decide)) (fun q => (fz_W hw0).2.2.2 q.1) ?_
  refine fs_iload_n (k0 := 2) (i := 2) dd_X0_nextQuarrel_14 rfl rfl ?_
  have hb := H.1
  replace H := H.2
  refine fs_iald dd_X0_nextQuarrel_15 ((fz_W hw0).2.1 0 (by decide)) hb ?_
  refine fs_iast dd_X0_nextQuarrel_16 ca_32 (vp_in_nI (n := 0) (by decide) (by decide)) ?_
  refine fs_tops (fun s1 hs1 => ?_)
  replace H := H s1 hs1
  refine fs_aload_n (k0 := 3) (i := 3) dd_X0_nextQuarrel_17 rfl rfl ?_
  refine fs_iconst (n := 1) (v := 1) dd_X0_nextQuarrel_18 (by decide) ?_
  refine fs_aload_n (k0 := 1) (i := 1) dd_X0_nextQuarrel_19 rfl rfl ?_
  refine fs_getr (ci := 10) (j := 1) (q := (w0 + 1 + 1)) dd_X0_nextQuarrel_20 fl_X0_33 hw0 rfl (Or.inr ⟨_, rfl⟩) ((fz_W hw0).1 1 (by decide)) (fun q => (fz_W hw0).2.2.2 q.1) ?_
  refine fs_iload_n (k0 := 2) (i := 2) dd_X0_nextQuarrel_23 rfl rfl ?_
  have hb := H.1
  replace H := H.2
  refine fs_iald dd_X0_nextQuarrel_24 ((fz_W hw0).2.1 1 (by decide)) hb ?_
  refine fs_iast dd_X0_nextQuarrel_25 ca_32 (vp_in_nI (n := 1) (by decide) (by decide)) ?_
  refine fs_tops (fun s2 hs2 => ?_)
  replace H := H s2 hs2
  refine fs_aload_n (k0 := 3) (i := 3) dd_X0_nextQuarrel_26 rfl rfl ?_
  refine fs_iconst (n := 2) (v := 2) dd_X0_nextQuarrel_27 (by decide) ?_
  refine fs_aload_n (k0 := 1) (i := 1) dd_X0_nextQuarrel_28 rfl rfl ?_
  refine fs_geti (ci := 10) (j := 5) dd_X0_nextQuarrel_29 fl_X0_36 hw0 rfl (Or.inl rfl) ?_
  refine fs_iast dd_X0_nextQuarrel_32 ca_32 (vp_in_nI (n := 2) (by decide) (by decide)) ?_
  refine fs_tops (fun s3 hs3 => ?_)
  replace H := H s3 hs3
  refine fs_aload_n (k0 := 3) (i := 3) dd_X0_nextQuarrel_33 rfl rfl ?_
  refine fs_bipush (n := 7) (v := 7) dd_X0_nextQuarrel_34 (by decide) ?_
  refine fs_aload_n (k0 := 0) (i := 0) dd_X0_nextQuarrel_36 rfl rfl ?_
  refine fs_aload_n (k0 := 1) (i := 1) dd_X0_nextQuarrel_37 rfl rfl ?_
  refine fs_iload_n (k0 := 2) (i := 2) dd_X0_nextQuarrel_38 rfl rfl ?_
  refine fs_callV (y := m_X0_countLiving) (as := [.ref w0, .int p1]) dd_X0_nextQuarrel_39 me_X0_countLiving lk_X0_131 in_X0_countLiving se_X0_countLiving ca_30 rfl rfl rfl (Nat.le_of_ble_eq_true rfl) (Nat.le_of_ble_eq_true rfl) rfl (V_X0_countLiving (by omega) hw0 H) (k2_I fun r4 s5 H => ?_)
  refine fs_aload_n (k0 := 0) (i := 0) dd_X0_nextQuarrel_42 rfl rfl ?_
  refine fs_aload_n (k0 := 1) (i := 1) dd_X0_nextQuarrel_43 rfl rfl ?_
  refine fs_iload_n (k0 := 2) (i := 2) dd_X0_nextQuarrel_44 rfl rfl ?_
  refine fs_callV (y := m_X0_countOwn) (as := [.ref w0, .int p1]) dd_X0_nextQuarrel_45 me_X0_countOwn lk_X0_134 in_X0_countOwn se_X0_countOwn ca_30 rfl rfl rfl (Nat.le_of_ble_eq_true rfl) (Nat.le_of_ble_eq_true rfl) rfl (V_X0_countOwn (by omega) hw0 H) (k2_I fun r6 s7 H => ?_)
  refine fs_isub dd_X0_nextQuarrel_48 ?_
  refine fs_iast dd_X0_nextQuarrel_49 ca_32 (vp_in_nI (n := 7) (by decide) (by decide)) ?_
  refine fs_tops (fun s8 hs8 => ?_)
  replace H := H s8 hs8
  refine fs_aload_n (k0 := 0) (i := 0) dd_X0_nextQuarrel_50 rfl rfl ?_
  refine fs_getr (ci := 0) (j := 1) (q := 31) dd_X0_nextQuarrel_51 fl_X0_19 ca_30 rfl (Or.inl ⟨_, rfl⟩) rfl (by decide) ?_
  refine fs_aload_n (k0 := 0) (i := 0) dd_X0_nextQuarrel_54 rfl rfl ?_
  refine fs_getr (ci := 0) (j := 0) (q := 6) dd_X0_nextQuarrel_55 fl_X0_15 ca_30 rfl (Or.inl ⟨_, rfl⟩) rfl (by decide) ?_
  refine fs_getr (ci := 9) (j := 7) (q := 14) dd_X0_nextQuarrel_58 fl_X0_54 ca_6 rfl (Or.inr ⟨_, rfl⟩) rfl (by decide) ?_
  refine fs_aload_n (k0 := 0) (i := 0) dd_X0_nextQuarrel_61 rfl rfl ?_
  refine fs_getr (ci := 0) (j := 0) (q := 6) dd_X0_nextQuarrel_62 fl_X0_15 ca_30 rfl (Or.inl ⟨_, rfl⟩) rfl (by decide) ?_
  refine fs_getr (ci := 9) (j := 8) (q := 15) dd_X0_nextQuarrel_65 fl_X0_57 ca_6 rfl (Or.inr ⟨_, rfl⟩) rfl (by decide) ?_
  refine fs_iconst (n := 3) (v := 3) dd_X0_nextQuarrel_68 (by decide) ?_
  refine fs_iald dd_X0_nextQuarrel_69 ca_15 (vp_in_nI (n := 3) (by decide) (by decide)) ?_
  refine fs_aload_n (k0 := 0) (i := 0) dd_X0_nextQuarrel_70 rfl rfl ?_
  refine fs_getr (ci := 0) (j := 0) (q := 6) dd_X0_nextQuarrel_71 fl_X0_15 ca_30 rfl (Or.inl ⟨_, rfl⟩) rfl (by decide) ?_
  refine fs_getr (ci := 9) (j := 9) (q := 16) dd_X0_nextQuarrel_74 fl_X0_60 ca_6 rfl (Or.inr ⟨_, rfl⟩) rfl (by decide) ?_
  refine fs_iconst (n := 3) (v := 3) dd_X0_nextQuarrel_77 (by decide) ?_
  refine fs_iald dd_X0_nextQuarrel_78 ca_16 (vp_in_nI (n := 3) (by decide) (by decide)) ?_
  refine fs_callV (y := m_X7_value) (as := [.ref 14, .int (s8.1 15 (3 : Int32).toNatClampNeg), .int (s8.1 16 (3 : Int32).toNatClampNeg)]) dd_X0_nextQuarrel_79 me_X7_value lk_X0_63 in_X7_value se_X7_value ca_31 rfl rfl rfl (Nat.le_of_ble_eq_true rfl) (Nat.le_of_ble_eq_true rfl) rfl (V_X7_value (by omega) ca_14 H) (k2_I fun r9 s10 H => ?_)
  refine fs_istore (i := 4) dd_X0_nextQuarrel_82 (by decide) ?_
  refine fs_iconst (n := 0) (v := 0) dd_X0_nextQuarrel_84 (by decide) ?_
  refine fs_bipush (n := 99) (v := 99) dd_X0_nextQuarrel_85 (by decide) ?_
  refine fs_iload (i := 4) dd_X0_nextQuarrel_87 rfl ?_
  refine fs_mmin dd_X0_nextQuarrel_89 lk_X0_122 (Nat.le_of_ble_eq_true rfl) ?_
  refine fs_mmax dd_X0_nextQuarrel_92 lk_X0_128 (Nat.le_of_ble_eq_true rfl) ?_
  exact fs_iret dd_X0_nextQuarrel_95 rfl H
theorem dd_X0_summer_0 : decode m_X0_summer.2.1 0 = .ok (.aload_n 0, 1) := by decide +kernel
theorem dd_X0_summer_1 : decode m_X0_summer.2.1 1 = .ok (.aload_n 1, 1) := by decide +kernel
theorem dd_X0_summer_2 : decode m_X0_summer.2.1 2 = .ok (.iconst 0, 1) := by decide +kernel
theorem dd_X0_summer_3 : decode m_X0_summer.2.1 3 = .ok (.invokevirtual 116, 3) := by decide +kernel
theorem dd_X0_summer_6 : decode m_X0_summer.2.1 6 = .ok (.istore_n 2, 1) := by decide +kernel
theorem dd_X0_summer_7 : decode m_X0_summer.2.1 7 = .ok (.aload_n 0, 1) := by decide +kernel
theorem dd_X0_summer_8 : decode m_X0_summer.2.1 8 = .ok (.aload_n 1, 1) := by decide +kernel
theorem dd_X0_summer_9 : decode m_X0_summer.2.1 9 = .ok (.iconst 1, 1) := by decide +kernel
theorem dd_X0_summer_10 : decode m_X0_summer.2.1 10 = .ok (.invokevirtual 116, 3) := by decide +kernel
theorem dd_X0_summer_13 : decode m_X0_summer.2.1 13 = .ok (.istore_n 3, 1) := by decide +kernel
theorem dd_X0_summer_14 : decode m_X0_summer.2.1 14 = .ok (.aload_n 1, 1) := by decide +kernel
theorem dd_X0_summer_15 : decode m_X0_summer.2.1 15 = .ok (.getfield 28, 3) := by decide +kernel
theorem dd_X0_summer_18 : decode m_X0_summer.2.1 18 = .ok (.iconst 0, 1) := by decide +kernel
theorem dd_X0_summer_19 : decode m_X0_summer.2.1 19 = .ok (.iload_n 2, 1) := by decide +kernel
theorem dd_X0_summer_20 : decode m_X0_summer.2.1 20 = .ok (.iastore, 1) := by decide +kernel
theorem dd_X0_summer_21 : decode m_X0_summer.2.1 21 = .ok (.aload_n 1, 1) := by decide +kernel
theorem dd_X0_summer_22 : decode m_X0_summer.2.1 22 = .ok (.getfield 28, 3) := by decide +kernel
theorem dd_X0_summer_25 : decode m_X0_summer.2.1 25 = .ok (.iconst 1, 1) := by decide +kernel
theorem dd_X0_summer_26 : decode m_X0_summer.2.1 26 = .ok (.iload_n 3, 1) := by decide +kernel
theorem dd_X0_summer_27 : decode m_X0_summer.2.1 27 = .ok (.iastore, 1) := by decide +kernel
theorem dd_X0_summer_28 : decode m_X0_summer.2.1 28 = .ok (.iconst 0, 1) := by decide +kernel
theorem dd_X0_summer_29 : decode m_X0_summer.2.1 29 = .ok (.istore 4, 2) := by decide +kernel
theorem dd_X0_summer_31 : decode m_X0_summer.2.1 31 = .ok (.iload 4, 2) := by decide +kernel
theorem dd_X0_summer_33 : decode m_X0_summer.2.1 33 = .ok (.iconst 2, 1) := by decide +kernel
theorem dd_X0_summer_34 : decode m_X0_summer.2.1 34 = .ok (.if_icmp .ge 23, 3) := by decide +kernel
theorem dd_X0_summer_37 : decode m_X0_summer.2.1 37 = .ok (.aload_n 1, 1) := by decide +kernel
theorem dd_X0_summer_38 : decode m_X0_summer.2.1 38 = .ok (.getfield 33, 3) := by decide +kernel
theorem dd_X0_summer_41 : decode m_X0_summer.2.1 41 = .ok (.iload 4, 2) := by decide +kernel
theorem dd_X0_summer_43 : decode m_X0_summer.2.1 43 = .ok (.aload_n 0, 1) := by decide +kernel
theorem dd_X0_summer_44 : decode m_X0_summer.2.1 44 = .ok (.aload_n 1, 1) := by decide +kernel
theorem dd_X0_summer_45 : decode m_X0_summer.2.1 45 = .ok (.iload 4, 2) := by decide +kernel
theorem dd_X0_summer_47 : decode m_X0_summer.2.1 47 = .ok (.invokevirtual 119, 3) := by decide +kernel
theorem dd_X0_summer_50 : decode m_X0_summer.2.1 50 = .ok (.iastore, 1) := by decide +kernel
theorem dd_X0_summer_51 : decode m_X0_summer.2.1 51 = .ok (.iinc 4 1, 3) := by decide +kernel
theorem dd_X0_summer_54 : decode m_X0_summer.2.1 54 = .ok (.goto (-23), 3) := by decide +kernel
theorem dd_X0_summer_57 : decode m_X0_summer.2.1 57 = .ok (.return_, 1) := by decide +kernel
def nd_X0_summer_31 (w0 : Nat) (K31 : Int32 → fz_s → Prop) (Q : fz_s → Prop) (v4 : Int32) (s : fz_s) : Prop :=
  ((2 ≤ v4 → Q s) ∧ (¬ 2 ≤ v4 → wp_X0_nextQuarrel w0 v4 s (fun r1 s2 => vp_in v4 2 ∧ ∀ s3 : fz_s, s3 = si s2 (w0 + 1 + 1) v4.toNatClampNeg r1 → ∀ x4 : Int32, x4 = v4 + 1 → K31 x4 s3)))
def lp_X0_summer_31 (w0 : Nat)  (Q : fz_s → Prop) : Nat → Int32 → fz_s → Prop
  | 0 => fun _ _ => False
  | n + 1 => nd_X0_summer_31 w0 (lp_X0_summer_31 w0  Q n) Q
def wp_X0_summer (w0 : Nat) (s : fz_s) (Q : fz_s → Prop) : Prop :=
  wp_X0_nextHarvest w0 0 s (fun r1 s2 => wp_X0_nextHarvest w0 1 s2 (fun r3 s4 => ∀ s5 : fz_s, s5 = si s4 (w0 + 1 + 0) (0 : Int32).toNatClampNeg r1 → ∀ s6 : fz_s, s6 = si s5 (w0 + 1 + 0) (1 : Int32).toNatClampNeg r3 → lp_X0_summer_31 w0  Q 2048 0 s6))
set_option maxRecDepth 100000 in
set_option maxHeartbeats 4000000 in
theorem V_nd_X0_summer_31 {g : fz_G} {l : Launch} {d : Nat} (hD : 5 ≤ d) {w0 : Nat} (hw0 : fz_at true w0 10 7) {K31 : Int32 → fz_s → Prop} {Q : fz_s → Prop} {v4 : Int32} {s : fz_s} (hK31 : ∀ {v4 : Int32} {s : fz_s}, K31 v4 s → fs_V g l m_X0_summer d true 31 [.ref 30, .ref w0, fz_J, fz_J, .int v4] [] s (rV Q)) (H : nd_X0_summer_31 w0 K31 Q v4 s) : fs_V g l m_X0_summer d true 31 [.ref 30, .ref w0, fz_J, fz_J, .int v4] [] s (rV Q) := by
  obtain ⟨d, rfl⟩ : ∃ e, d = e + 1 := ⟨d - 1, by omega⟩
  unfold nd_X0_summer_31 at H
  refine fs_iload (i := 4) dd_X0_summer_31 rfl ?_
  refine fs_iconst (n := 2) (v := 2) dd_X0_summer_33 (by decide) ?_
  refine fs_icmp_ge (tgt := 57) dd_X0_summer_34 (by decide) (fun hc => ?_) (fun hc => ?_)
  · replace H := H.1 hc
    exact fs_vret dd_X0_summer_57 rfl H
  · replace H := H.2 hc
    refine fs_aload_n (k0 := 1) (i := 1) dd_X0_summer_37 rfl rfl ?_
    refine fs_getr (ci := 10) (j := 1) (q := (w0 + 1 + 1)) dd_X0_summer_38 fl_X0_33 hw0 rfl (Or.inr ⟨_, rfl⟩) ((fz_W hw0).1 1 (by decide)) (fun q => (fz_W hw0).2.2.2 q.1) ?_
    refine fs_iload (i := 4) dd_X0_summer_41 rfl ?_
    refine fs_aload_n (k0 := 0) (i := 0) dd_X0_summer_43 rfl rfl ?_
    refine fs_aload_n (k0 := 1) (i := 1) dd_X0_summer_44 rfl rfl ?_
    refine fs_iload (i := 4) dd_X0_summer_45 rfl ?_
    refine fs_callV (y := m_X0_nextQuarrel) (as := [.ref w0, .int v4]) dd_X0_summer_47 me_X0_nextQuarrel lk_X0_119 in_X0_nextQuarrel se_X0_nextQuarrel ca_30 rfl rfl rfl (Nat.le_of_ble_eq_true rfl) (Nat.le_of_ble_eq_true rfl) rfl (V_X0_nextQuarrel (by omega) hw0 H) (k2_I fun r1 s2 H => ?_)
    have hb := H.1
    replace H := H.2
    refine fs_iast dd_X0_summer_50 ((fz_W hw0).2.1 1 (by decide)) hb ?_
    refine fs_tops (fun s3 hs3 => ?_)
    replace H := H s3 hs3
    refine fs_iincN (i := 4) (m := 1) (c := 1) dd_X0_summer_51 rfl (by decide) (by decide) (fun x4 hx4 => ?_)
    replace H := H x4 hx4
    refine fs_goto (tgt := 31) dd_X0_summer_54 (by decide) ?_
    refine fs_weak (ls2 := [.ref 30, .ref w0, fz_J, fz_J, .int x4]) (fz_le_e (fz_le_e (fz_le_j (fz_le_j (fz_le_e fz_le_n))))) ?_
    exact hK31 H
set_option maxRecDepth 100000 in
set_option maxHeartbeats 4000000 in
theorem V_lp_X0_summer_31 {g : fz_G} {l : Launch} {d : Nat} (hD : 5 ≤ d) {w0 : Nat} (hw0 : fz_at true w0 10 7)  {Q : fz_s → Prop}  (n : Nat) : ∀ {v4 : Int32} {s : fz_s}, lp_X0_summer_31 w0  Q n v4 s → fs_V g l m_X0_summer d true 31 [.ref 30, .ref w0, fz_J, fz_J, .int v4] [] s (rV Q) := by
  induction n with
  | zero => intro v4 s H; exact H.elim
  | succ n ih => intro v4 s H; exact V_nd_X0_summer_31 hD hw0 (fun H => ih H) H
set_option maxRecDepth 100000 in
set_option maxHeartbeats 4000000 in
theorem V_X0_summer {g : fz_G} {l : Launch} {d : Nat} (hD : 5 ≤ d) {w0 : Nat} (hw0 : fz_at true w0 10 7) {s : fz_s} {Q : fz_s → Prop} (H : wp_X0_summer w0 s Q) : fs_V g l m_X0_summer d true 0 (fz_en [.ref 30, .ref w0] 5) [] s (rV Q) := by
  obtain ⟨d, rfl⟩ : ∃ e, d = e + 1 := ⟨d - 1, by omega⟩
  unfold wp_X0_summer at H
  refine fs_aload_n (k0 := 0) (i := 0) dd_X0_summer_0 rfl rfl ?_
  refine fs_aload_n (k0 := 1) (i := 1) dd_X0_summer_1 rfl rfl ?_
  refine fs_iconst (n := 0) (v := 0) dd_X0_summer_2 (by decide) ?_
  refine fs_callV (y := m_X0_nextHarvest) (as := [.ref w0, .int 0]) dd_X0_summer_3 me_X0_nextHarvest lk_X0_116 in_X0_nextHarvest se_X0_nextHarvest ca_30 rfl rfl rfl (Nat.le_of_ble_eq_true rfl) (Nat.le_of_ble_eq_true rfl) rfl (V_X0_nextHarvest (by omega) hw0 H) (k2_I fun r1 s2 H => ?_)
  refine fs_istore_n (k0 := 2) (i := 2) dd_X0_summer_6 rfl (by decide) ?_
  refine fs_aload_n (k0 := 0) (i := 0) dd_X0_summer_7 rfl rfl ?_
  refine fs_aload_n (k0 := 1) (i := 1) dd_X0_summer_8 rfl rfl ?_
  refine fs_iconst (n := 1) (v := 1) dd_X0_summer_9 (by decide) ?_
  refine fs_callV (y := m_X0_nextHarvest) (as := [.ref w0, .int 1]) dd_X0_summer_10 me_X0_nextHarvest lk_X0_116 in_X0_nextHarvest se_X0_nextHarvest ca_30 rfl rfl rfl (Nat.le_of_ble_eq_true rfl) (Nat.le_of_ble_eq_true rfl) rfl (V_X0_nextHarvest (by omega) hw0 H) (k2_I fun r3 s4 H => ?_)
  refine fs_istore_n (k0 := 3) (i := 3) dd_X0_summer_13 rfl (by decide) ?_
  refine fs_aload_n (k0 := 1) (i := 1) dd_X0_summer_14 rfl rfl ?_
  refine fs_getr (ci := 10) (j := 0) (q := (w0 + 1 + 0)) dd_X0_summer_15 fl_X0_28 hw0 rfl (Or.inr ⟨_, rfl⟩) ((fz_W hw0).1 0 (by decide)) (fun q => (fz_W hw0).2.2.2 q.1) ?_
  refine fs_iconst (n := 0) (v := 0) dd_X0_summer_18 (by decide) ?_
  refine fs_iload_n (k0 := 2) (i := 2) dd_X0_summer_19 rfl rfl ?_
  refine fs_iast dd_X0_summer_20 ((fz_W hw0).2.1 0 (by decide)) (vp_in_nI (n := 0) (by decide) (by decide)) ?_
  refine fs_tops (fun s5 hs5 => ?_)
  replace H := H s5 hs5
  refine fs_aload_n (k0 := 1) (i := 1) dd_X0_summer_21 rfl rfl ?_
  refine fs_getr (ci := 10) (j := 0) (q := (w0 + 1 + 0)) dd_X0_summer_22 fl_X0_28 hw0 rfl (Or.inr ⟨_, rfl⟩) ((fz_W hw0).1 0 (by decide)) (fun q => (fz_W hw0).2.2.2 q.1) ?_
  refine fs_iconst (n := 1) (v := 1) dd_X0_summer_25 (by decide) ?_
  refine fs_iload_n (k0 := 3) (i := 3) dd_X0_summer_26 rfl rfl ?_
  refine fs_iast dd_X0_summer_27 ((fz_W hw0).2.1 0 (by decide)) (vp_in_nI (n := 1) (by decide) (by decide)) ?_
  refine fs_tops (fun s6 hs6 => ?_)
  replace H := H s6 hs6
  refine fs_iconst (n := 0) (v := 0) dd_X0_summer_28 (by decide) ?_
  refine fs_istore (i := 4) dd_X0_summer_29 (by decide) ?_
  refine fs_weak (ls2 := [.ref 30, .ref w0, fz_J, fz_J, .int 0]) (fz_le_e (fz_le_e (fz_le_j (fz_le_j (fz_le_e fz_le_n))))) ?_
  exact V_lp_X0_summer_31 hD  hw0  2048 H
theorem dd_X0_autumn_0 : decode m_X0_autumn.2.1 0 = .ok (.iconst 0, 1) := by decide +kernel
theorem dd_X0_autumn_1 : decode m_X0_autumn.2.1 1 = .ok (.istore_n 2, 1) := by decide +kernel
theorem dd_X0_autumn_2 : decode m_X0_autumn.2.1 2 = .ok (.iload_n 2, 1) := by decide +kernel
theorem dd_X0_autumn_3 : decode m_X0_autumn.2.1 3 = .ok (.aload_n 0, 1) := by decide +kernel
theorem dd_X0_autumn_4 : decode m_X0_autumn.2.1 4 = .ok (.getfield 15, 3) := by decide +kernel
theorem dd_X0_autumn_7 : decode m_X0_autumn.2.1 7 = .ok (.getfield 77, 3) := by decide +kernel
theorem dd_X0_autumn_10 : decode m_X0_autumn.2.1 10 = .ok (.if_icmp .ge 73, 3) := by decide +kernel
theorem dd_X0_autumn_13 : decode m_X0_autumn.2.1 13 = .ok (.aload_n 1, 1) := by decide +kernel
theorem dd_X0_autumn_14 : decode m_X0_autumn.2.1 14 = .ok (.getfield 71, 3) := by decide +kernel
theorem dd_X0_autumn_17 : decode m_X0_autumn.2.1 17 = .ok (.iload_n 2, 1) := by decide +kernel
theorem dd_X0_autumn_18 : decode m_X0_autumn.2.1 18 = .ok (.iaload, 1) := by decide +kernel
theorem dd_X0_autumn_19 : decode m_X0_autumn.2.1 19 = .ok (.aload_n 0, 1) := by decide +kernel
theorem dd_X0_autumn_20 : decode m_X0_autumn.2.1 20 = .ok (.getfield 15, 3) := by decide +kernel
theorem dd_X0_autumn_23 : decode m_X0_autumn.2.1 23 = .ok (.getfield 74, 3) := by decide +kernel
theorem dd_X0_autumn_26 : decode m_X0_autumn.2.1 26 = .ok (.iload_n 2, 1) := by decide +kernel
theorem dd_X0_autumn_27 : decode m_X0_autumn.2.1 27 = .ok (.iaload, 1) := by decide +kernel
theorem dd_X0_autumn_28 : decode m_X0_autumn.2.1 28 = .ok (.if_icmp .ne 6, 3) := by decide +kernel
theorem dd_X0_autumn_31 : decode m_X0_autumn.2.1 31 = .ok (.goto 46, 3) := by decide +kernel
theorem dd_X0_autumn_34 : decode m_X0_autumn.2.1 34 = .ok (.aload_n 0, 1) := by decide +kernel
theorem dd_X0_autumn_35 : decode m_X0_autumn.2.1 35 = .ok (.aload_n 1, 1) := by decide +kernel
theorem dd_X0_autumn_36 : decode m_X0_autumn.2.1 36 = .ok (.iconst 4, 1) := by decide +kernel
theorem dd_X0_autumn_37 : decode m_X0_autumn.2.1 37 = .ok (.iload_n 2, 1) := by decide +kernel
theorem dd_X0_autumn_38 : decode m_X0_autumn.2.1 38 = .ok (.aload_n 1, 1) := by decide +kernel
theorem dd_X0_autumn_39 : decode m_X0_autumn.2.1 39 = .ok (.getfield 71, 3) := by decide +kernel
theorem dd_X0_autumn_42 : decode m_X0_autumn.2.1 42 = .ok (.iload_n 2, 1) := by decide +kernel
theorem dd_X0_autumn_43 : decode m_X0_autumn.2.1 43 = .ok (.iaload, 1) := by decide +kernel
theorem dd_X0_autumn_44 : decode m_X0_autumn.2.1 44 = .ok (.invokevirtual 67, 3) := by decide +kernel
theorem dd_X0_autumn_47 : decode m_X0_autumn.2.1 47 = .ok (.ifCond .eq 25, 3) := by decide +kernel
theorem dd_X0_autumn_50 : decode m_X0_autumn.2.1 50 = .ok (.aload_n 1, 1) := by decide +kernel
theorem dd_X0_autumn_51 : decode m_X0_autumn.2.1 51 = .ok (.getfield 51, 3) := by decide +kernel
theorem dd_X0_autumn_54 : decode m_X0_autumn.2.1 54 = .ok (.iload_n 2, 1) := by decide +kernel
theorem dd_X0_autumn_55 : decode m_X0_autumn.2.1 55 = .ok (.bipush 99, 2) := by decide +kernel
theorem dd_X0_autumn_57 : decode m_X0_autumn.2.1 57 = .ok (.aload_n 1, 1) := by decide +kernel
theorem dd_X0_autumn_58 : decode m_X0_autumn.2.1 58 = .ok (.getfield 51, 3) := by decide +kernel
theorem dd_X0_autumn_61 : decode m_X0_autumn.2.1 61 = .ok (.iload_n 2, 1) := by decide +kernel
theorem dd_X0_autumn_62 : decode m_X0_autumn.2.1 62 = .ok (.iaload, 1) := by decide +kernel
theorem dd_X0_autumn_63 : decode m_X0_autumn.2.1 63 = .ok (.iconst 1, 1) := by decide +kernel
theorem dd_X0_autumn_64 : decode m_X0_autumn.2.1 64 = .ok (.iadd, 1) := by decide +kernel
theorem dd_X0_autumn_65 : decode m_X0_autumn.2.1 65 = .ok (.invokestatic 122, 3) := by decide +kernel
theorem dd_X0_autumn_68 : decode m_X0_autumn.2.1 68 = .ok (.iastore, 1) := by decide +kernel
theorem dd_X0_autumn_69 : decode m_X0_autumn.2.1 69 = .ok (.goto 8, 3) := by decide +kernel
theorem dd_X0_autumn_72 : decode m_X0_autumn.2.1 72 = .ok (.aload_n 1, 1) := by decide +kernel
theorem dd_X0_autumn_73 : decode m_X0_autumn.2.1 73 = .ok (.iload_n 2, 1) := by decide +kernel
theorem dd_X0_autumn_74 : decode m_X0_autumn.2.1 74 = .ok (.invokevirtual 112, 3) := by decide +kernel
theorem dd_X0_autumn_77 : decode m_X0_autumn.2.1 77 = .ok (.iinc 2 1, 3) := by decide +kernel
theorem dd_X0_autumn_80 : decode m_X0_autumn.2.1 80 = .ok (.goto (-78), 3) := by decide +kernel
theorem dd_X0_autumn_83 : decode m_X0_autumn.2.1 83 = .ok (.return_, 1) := by decide +kernel
def nd_X0_autumn_2 (w0 : Nat) (K2 : Int32 → fz_s → Prop) (Q : fz_s → Prop) (v2 : Int32) (s : fz_s) : Prop :=
  (((s.1 6 12) ≤ v2 → Q s) ∧ (¬ (s.1 6 12) ≤ v2 → vp_in v2 8 ∧ vp_in v2 8 ∧ ((¬ (s.1 (w0 + 1 + 3) v2.toNatClampNeg) = (s.1 10 v2.toNatClampNeg) → vp_in v2 8 ∧ wp_X0_ruled w0 4 v2 (s.1 (w0 + 1 + 3) v2.toNatClampNeg) s (fun r1 s2 => ((r1 = 0 → wp_X10_cross w0 v2 s2 (fun s4 => ∀ x5 : Int32, x5 = v2 + 1 → K2 x5 s4)) ∧ (¬ r1 = 0 → vp_in v2 8 ∧ vp_in v2 8 ∧ ∀ s6 : fz_s, s6 = si s2 (w0 + 1 + 4) v2.toNatClampNeg (if ((s2.1 (w0 + 1 + 4) v2.toNatClampNeg) + 1) < 99 then ((s2.1 (w0 + 1 + 4) v2.toNatClampNeg) + 1) else 99) → ∀ x7 : Int32, x7 = v2 + 1 → K2 x7 s6)))) ∧ ((s.1 (w0 + 1 + 3) v2.toNatClampNeg) = (s.1 10 v2.toNatClampNeg) → ∀ x8 : Int32, x8 = v2 + 1 → K2 x8 s))))
def lp_X0_autumn_2 (w0 : Nat)  (Q : fz_s → Prop) : Nat → Int32 → fz_s → Prop
  | 0 => fun _ _ => False
  | n + 1 => nd_X0_autumn_2 w0 (lp_X0_autumn_2 w0  Q n) Q
def wp_X0_autumn (w0 : Nat) (s : fz_s) (Q : fz_s → Prop) : Prop :=
  lp_X0_autumn_2 w0  Q 2048 0 s
set_option maxRecDepth 100000 in
set_option maxHeartbeats 4000000 in
theorem V_nd_X0_autumn_2 {g : fz_G} {l : Launch} {d : Nat} (hD : 4 ≤ d) {w0 : Nat} (hw0 : fz_at true w0 10 7) {K2 : Int32 → fz_s → Prop} {Q : fz_s → Prop} {v2 : Int32} {s : fz_s} (hK2 : ∀ {v2 : Int32} {s : fz_s}, K2 v2 s → fs_V g l m_X0_autumn d true 2 [.ref 30, .ref w0, .int v2] [] s (rV Q)) (H : nd_X0_autumn_2 w0 K2 Q v2 s) : fs_V g l m_X0_autumn d true 2 [.ref 30, .ref w0, .int v2] [] s (rV Q) := by
  obtain ⟨d, rfl⟩ : ∃ e, d = e + 1 := ⟨d - 1, by omega⟩
  unfold nd_X0_autumn_2 at H
  refine fs_iload_n (k0 := 2) (i := 2) dd_X0_autumn_2 rfl rfl ?_
  refine fs_aload_n (k0 := 0) (i := 0) dd_X0_autumn_3 rfl rfl ?_
  refine fs_getr (ci := 0) (j := 0) (q := 6) dd_X0_autumn_4 fl_X0_15 ca_30 rfl (Or.inl ⟨_, rfl⟩) rfl (by decide) ?_
  refine fs_geti (ci := 9) (j := 12) dd_X0_autumn_7 fl_X0_77 ca_6 rfl (Or.inl rfl) ?_
  refine fs_icmp_ge (tgt := 83) dd_X0_autumn_10 (by decide) (fun hc => ?_) (fun hc => ?_)
  · replace H := H.1 hc
    exact fs_vret dd_X0_autumn_83 rfl H
  · replace H := H.2 hc
    refine fs_aload_n (k0 := 1) (i := 1) dd_X0_autumn_13 rfl rfl ?_
    refine fs_getr (ci := 10) (j := 3) (q := (w0 + 1 + 3)) dd_X0_autumn_14 fl_X0_71 hw0 rfl (Or.inr ⟨_, rfl⟩) ((fz_W hw0).1 3 (by decide)) (fun q => (fz_W hw0).2.2.2 q.1) ?_
    refine fs_iload_n (k0 := 2) (i := 2) dd_X0_autumn_17 rfl rfl ?_
    have hb := H.1
    replace H := H.2
    refine fs_iald dd_X0_autumn_18 ((fz_W hw0).2.2.1 3 (by decide) (by decide)) hb ?_
    refine fs_aload_n (k0 := 0) (i := 0) dd_X0_autumn_19 rfl rfl ?_
    refine fs_getr (ci := 0) (j := 0) (q := 6) dd_X0_autumn_20 fl_X0_15 ca_30 rfl (Or.inl ⟨_, rfl⟩) rfl (by decide) ?_
    refine fs_getr (ci := 9) (j := 3) (q := 10) dd_X0_autumn_23 fl_X0_74 ca_6 rfl (Or.inr ⟨_, rfl⟩) rfl (by decide) ?_
    refine fs_iload_n (k0 := 2) (i := 2) dd_X0_autumn_26 rfl rfl ?_
    have hb := H.1
    replace H := H.2
    refine fs_iald dd_X0_autumn_27 ca_10 hb ?_
    refine fs_icmp_ne (tgt := 34) dd_X0_autumn_28 (by decide) (fun hc => ?_) (fun hc => ?_)
    · replace H := H.1 hc
      refine fs_aload_n (k0 := 0) (i := 0) dd_X0_autumn_34 rfl rfl ?_
      refine fs_aload_n (k0 := 1) (i := 1) dd_X0_autumn_35 rfl rfl ?_
      refine fs_iconst (n := 4) (v := 4) dd_X0_autumn_36 (by decide) ?_
      refine fs_iload_n (k0 := 2) (i := 2) dd_X0_autumn_37 rfl rfl ?_
      refine fs_aload_n (k0 := 1) (i := 1) dd_X0_autumn_38 rfl rfl ?_
      refine fs_getr (ci := 10) (j := 3) (q := (w0 + 1 + 3)) dd_X0_autumn_39 fl_X0_71 hw0 rfl (Or.inr ⟨_, rfl⟩) ((fz_W hw0).1 3 (by decide)) (fun q => (fz_W hw0).2.2.2 q.1) ?_
      refine fs_iload_n (k0 := 2) (i := 2) dd_X0_autumn_42 rfl rfl ?_
      have hb := H.1
      replace H := H.2
      refine fs_iald dd_X0_autumn_43 ((fz_W hw0).2.2.1 3 (by decide) (by decide)) hb ?_
      refine fs_callV (y := m_X0_ruled) (as := [.ref w0, .int 4, .int v2, .int (s.1 (w0 + 1 + 3) v2.toNatClampNeg)]) dd_X0_autumn_44 me_X0_ruled lk_X0_67 in_X0_ruled se_X0_ruled ca_30 rfl rfl rfl (Nat.le_of_ble_eq_true rfl) (Nat.le_of_ble_eq_true rfl) rfl (V_X0_ruled (by omega) hw0 H) (k2_I fun r1 s2 H => ?_)
      refine fs_if_eq (tgt := 72) dd_X0_autumn_47 (by decide) (fun hc => ?_) (fun hc => ?_)
      · replace H := H.1 hc
        refine fs_aload_n (k0 := 1) (i := 1) dd_X0_autumn_72 rfl rfl ?_
        refine fs_iload_n (k0 := 2) (i := 2) dd_X0_autumn_73 rfl rfl ?_
        refine fs_callV (y := m_X10_cross) (as := [.int v2]) dd_X0_autumn_74 me_X10_cross lk_X0_112 in_X10_cross se_X10_cross hw0 rfl rfl rfl (Nat.le_of_ble_eq_true rfl) (Nat.le_of_ble_eq_true rfl) rfl (V_X10_cross (by omega) hw0 H) (k2_V fun s4 H => ?_)
        refine fs_iincN (i := 2) (m := 1) (c := 1) dd_X0_autumn_77 rfl (by decide) (by decide) (fun x5 hx5 => ?_)
        replace H := H x5 hx5
        refine fs_goto (tgt := 2) dd_X0_autumn_80 (by decide) ?_
        refine fs_weak (ls2 := [.ref 30, .ref w0, .int x5]) (fz_le_e (fz_le_e (fz_le_e fz_le_n))) ?_
        exact hK2 H
      · replace H := H.2 hc
        refine fs_aload_n (k0 := 1) (i := 1) dd_X0_autumn_50 rfl rfl ?_
        refine fs_getr (ci := 10) (j := 4) (q := (w0 + 1 + 4)) dd_X0_autumn_51 fl_X0_51 hw0 rfl (Or.inr ⟨_, rfl⟩) ((fz_W hw0).1 4 (by decide)) (fun q => (fz_W hw0).2.2.2 q.1) ?_
        refine fs_iload_n (k0 := 2) (i := 2) dd_X0_autumn_54 rfl rfl ?_
        refine fs_bipush (n := 99) (v := 99) dd_X0_autumn_55 (by decide) ?_
        refine fs_aload_n (k0 := 1) (i := 1) dd_X0_autumn_57 rfl rfl ?_
        refine fs_getr (ci := 10) (j := 4) (q := (w0 + 1 + 4)) dd_X0_autumn_58 fl_X0_51 hw0 rfl (Or.inr ⟨_, rfl⟩) ((fz_W hw0).1 4 (by decide)) (fun q => (fz_W hw0).2.2.2 q.1) ?_
        refine fs_iload_n (k0 := 2) (i := 2) dd_X0_autumn_61 rfl rfl ?_
        have hb := H.1
        replace H := H.2
        refine fs_iald dd_X0_autumn_62 ((fz_W hw0).2.2.1 4 (by decide) (by decide)) hb ?_
        refine fs_iconst (n := 1) (v := 1) dd_X0_autumn_63 (by decide) ?_
        refine fs_iadd dd_X0_autumn_64 ?_
        refine fs_mmin dd_X0_autumn_65 lk_X0_122 (Nat.le_of_ble_eq_true rfl) ?_
        have hb := H.1
        replace H := H.2
        refine fs_iast dd_X0_autumn_68 ((fz_W hw0).2.2.1 4 (by decide) (by decide)) hb ?_
        refine fs_tops (fun s6 hs6 => ?_)
        replace H := H s6 hs6
        refine fs_goto (tgt := 77) dd_X0_autumn_69 (by decide) ?_
        refine fs_iincN (i := 2) (m := 1) (c := 1) dd_X0_autumn_77 rfl (by decide) (by decide) (fun x7 hx7 => ?_)
        replace H := H x7 hx7
        refine fs_goto (tgt := 2) dd_X0_autumn_80 (by decide) ?_
        refine fs_weak (ls2 := [.ref 30, .ref w0, .int x7]) (fz_le_e (fz_le_e (fz_le_e fz_le_n))) ?_
        exact hK2 H
    · replace H := H.2 hc
      refine fs_goto (tgt := 77) dd_X0_autumn_31 (by decide) ?_
      refine fs_iincN (i := 2) (m := 1) (c := 1) dd_X0_autumn_77 rfl (by decide) (by decide) (fun x8 hx8 => ?_)
      replace H := H x8 hx8
      refine fs_goto (tgt := 2) dd_X0_autumn_80 (by decide) ?_
      refine fs_weak (ls2 := [.ref 30, .ref w0, .int x8]) (fz_le_e (fz_le_e (fz_le_e fz_le_n))) ?_
      exact hK2 H
set_option maxRecDepth 100000 in
set_option maxHeartbeats 4000000 in
theorem V_lp_X0_autumn_2 {g : fz_G} {l : Launch} {d : Nat} (hD : 4 ≤ d) {w0 : Nat} (hw0 : fz_at true w0 10 7)  {Q : fz_s → Prop}  (n : Nat) : ∀ {v2 : Int32} {s : fz_s}, lp_X0_autumn_2 w0  Q n v2 s → fs_V g l m_X0_autumn d true 2 [.ref 30, .ref w0, .int v2] [] s (rV Q) := by
  induction n with
  | zero => intro v2 s H; exact H.elim
  | succ n ih => intro v2 s H; exact V_nd_X0_autumn_2 hD hw0 (fun H => ih H) H
set_option maxRecDepth 100000 in
set_option maxHeartbeats 4000000 in
theorem V_X0_autumn {g : fz_G} {l : Launch} {d : Nat} (hD : 4 ≤ d) {w0 : Nat} (hw0 : fz_at true w0 10 7) {s : fz_s} {Q : fz_s → Prop} (H : wp_X0_autumn w0 s Q) : fs_V g l m_X0_autumn d true 0 (fz_en [.ref 30, .ref w0] 3) [] s (rV Q) := by
  obtain ⟨d, rfl⟩ : ∃ e, d = e + 1 := ⟨d - 1, by omega⟩
  unfold wp_X0_autumn at H
  refine fs_iconst (n := 0) (v := 0) dd_X0_autumn_0 (by decide) ?_
  refine fs_istore_n (k0 := 2) (i := 2) dd_X0_autumn_1 rfl (by decide) ?_
  refine fs_weak (ls2 := [.ref 30, .ref w0, .int 0]) (fz_le_e (fz_le_e (fz_le_e fz_le_n))) ?_
  exact V_lp_X0_autumn_2 hD  hw0  2048 H
theorem dd_X0_turn_0 : decode m_X0_turn.2.1 0 = .ok (.aload_n 0, 1) := by decide +kernel
theorem dd_X0_turn_1 : decode m_X0_turn.2.1 1 = .ok (.sipush 999, 3) := by decide +kernel
theorem dd_X0_turn_4 : decode m_X0_turn.2.1 4 = .ok (.aload_n 0, 1) := by decide +kernel
theorem dd_X0_turn_5 : decode m_X0_turn.2.1 5 = .ok (.getfield 36, 3) := by decide +kernel
theorem dd_X0_turn_8 : decode m_X0_turn.2.1 8 = .ok (.iconst 1, 1) := by decide +kernel
theorem dd_X0_turn_9 : decode m_X0_turn.2.1 9 = .ok (.iadd, 1) := by decide +kernel
theorem dd_X0_turn_10 : decode m_X0_turn.2.1 10 = .ok (.invokestatic 122, 3) := by decide +kernel
theorem dd_X0_turn_13 : decode m_X0_turn.2.1 13 = .ok (.putfield 36, 3) := by decide +kernel
theorem dd_X0_turn_16 : decode m_X0_turn.2.1 16 = .ok (.return_, 1) := by decide +kernel
def wp_X0_turn (w0 : Nat) (s : fz_s) (Q : fz_s → Prop) : Prop :=
  ∀ s1 : fz_s, s1 = si s w0 5 (if ((s.1 w0 5) + 1) < 999 then ((s.1 w0 5) + 1) else 999) → Q s1
set_option maxRecDepth 100000 in
set_option maxHeartbeats 4000000 in
theorem V_X0_turn {g : fz_G} {l : Launch} {d : Nat} (hD : 1 ≤ d) {w0 : Nat} (hw0 : fz_at true w0 10 7) {s : fz_s} {Q : fz_s → Prop} (H : wp_X0_turn w0 s Q) : fs_V g l m_X0_turn d true 0 (fz_en [.ref w0] 1) [] s (rV Q) := by
  obtain ⟨d, rfl⟩ : ∃ e, d = e + 1 := ⟨d - 1, by omega⟩
  unfold wp_X0_turn at H
  refine fs_aload_n (k0 := 0) (i := 0) dd_X0_turn_0 rfl rfl ?_
  refine fs_sipush (n := 999) (v := 999) dd_X0_turn_1 (by decide) ?_
  refine fs_aload_n (k0 := 0) (i := 0) dd_X0_turn_4 rfl rfl ?_
  refine fs_geti (ci := 10) (j := 5) dd_X0_turn_5 fl_X0_36 hw0 rfl (Or.inl rfl) ?_
  refine fs_iconst (n := 1) (v := 1) dd_X0_turn_8 (by decide) ?_
  refine fs_iadd dd_X0_turn_9 ?_
  refine fs_mmin dd_X0_turn_10 lk_X0_122 (Nat.le_of_ble_eq_true rfl) ?_
  refine fs_puti (ci := 10) (j := 5) dd_X0_turn_13 fl_X0_36 (fun _ _ _ h => by cases h; rfl) hw0 rfl (Or.inl rfl) ?_
  refine fs_tops (fun s1 hs1 => ?_)
  replace H := H s1 hs1
  exact fs_vret dd_X0_turn_16 rfl H
theorem dd_X0_ordinaryYear_0 : decode m_X0_ordinaryYear.2.1 0 = .ok (.aload_n 0, 1) := by decide +kernel
theorem dd_X0_ordinaryYear_1 : decode m_X0_ordinaryYear.2.1 1 = .ok (.aload_n 1, 1) := by decide +kernel
theorem dd_X0_ordinaryYear_2 : decode m_X0_ordinaryYear.2.1 2 = .ok (.invokevirtual 92, 3) := by decide +kernel
theorem dd_X0_ordinaryYear_5 : decode m_X0_ordinaryYear.2.1 5 = .ok (.aload_n 0, 1) := by decide +kernel
theorem dd_X0_ordinaryYear_6 : decode m_X0_ordinaryYear.2.1 6 = .ok (.aload_n 1, 1) := by decide +kernel
theorem dd_X0_ordinaryYear_7 : decode m_X0_ordinaryYear.2.1 7 = .ok (.invokevirtual 96, 3) := by decide +kernel
theorem dd_X0_ordinaryYear_10 : decode m_X0_ordinaryYear.2.1 10 = .ok (.aload_n 0, 1) := by decide +kernel
theorem dd_X0_ordinaryYear_11 : decode m_X0_ordinaryYear.2.1 11 = .ok (.aload_n 1, 1) := by decide +kernel
theorem dd_X0_ordinaryYear_12 : decode m_X0_ordinaryYear.2.1 12 = .ok (.invokevirtual 99, 3) := by decide +kernel
theorem dd_X0_ordinaryYear_15 : decode m_X0_ordinaryYear.2.1 15 = .ok (.aload_n 1, 1) := by decide +kernel
theorem dd_X0_ordinaryYear_16 : decode m_X0_ordinaryYear.2.1 16 = .ok (.invokestatic 102, 3) := by decide +kernel
theorem dd_X0_ordinaryYear_19 : decode m_X0_ordinaryYear.2.1 19 = .ok (.return_, 1) := by decide +kernel
def wp_X0_ordinaryYear (w0 : Nat) (s : fz_s) (Q : fz_s → Prop) : Prop :=
  wp_X0_spring w0 s (fun s2 => wp_X0_summer w0 s2 (fun s4 => wp_X0_autumn w0 s4 (fun s6 => wp_X0_turn w0 s6 (fun s8 => Q s8))))
set_option maxRecDepth 100000 in
set_option maxHeartbeats 4000000 in
theorem V_X0_ordinaryYear {g : fz_G} {l : Launch} {d : Nat} (hD : 6 ≤ d) {w0 : Nat} (hw0 : fz_at true w0 10 7) {s : fz_s} {Q : fz_s → Prop} (H : wp_X0_ordinaryYear w0 s Q) : fs_V g l m_X0_ordinaryYear d true 0 (fz_en [.ref 30, .ref w0] 2) [] s (rV Q) := by
  obtain ⟨d, rfl⟩ : ∃ e, d = e + 1 := ⟨d - 1, by omega⟩
  unfold wp_X0_ordinaryYear at H
  refine fs_aload_n (k0 := 0) (i := 0) dd_X0_ordinaryYear_0 rfl rfl ?_
  refine fs_aload_n (k0 := 1) (i := 1) dd_X0_ordinaryYear_1 rfl rfl ?_
  refine fs_callV (y := m_X0_spring) (as := [.ref w0]) dd_X0_ordinaryYear_2 me_X0_spring lk_X0_92 in_X0_spring se_X0_spring ca_30 rfl rfl rfl (Nat.le_of_ble_eq_true rfl) (Nat.le_of_ble_eq_true rfl) rfl (V_X0_spring (by omega) hw0 H) (k2_V fun s2 H => ?_)
  refine fs_aload_n (k0 := 0) (i := 0) dd_X0_ordinaryYear_5 rfl rfl ?_
  refine fs_aload_n (k0 := 1) (i := 1) dd_X0_ordinaryYear_6 rfl rfl ?_
  refine fs_callV (y := m_X0_summer) (as := [.ref w0]) dd_X0_ordinaryYear_7 me_X0_summer lk_X0_96 in_X0_summer se_X0_summer ca_30 rfl rfl rfl (Nat.le_of_ble_eq_true rfl) (Nat.le_of_ble_eq_true rfl) rfl (V_X0_summer (by omega) hw0 H) (k2_V fun s4 H => ?_)
  refine fs_aload_n (k0 := 0) (i := 0) dd_X0_ordinaryYear_10 rfl rfl ?_
  refine fs_aload_n (k0 := 1) (i := 1) dd_X0_ordinaryYear_11 rfl rfl ?_
  refine fs_callV (y := m_X0_autumn) (as := [.ref w0]) dd_X0_ordinaryYear_12 me_X0_autumn lk_X0_99 in_X0_autumn se_X0_autumn ca_30 rfl rfl rfl (Nat.le_of_ble_eq_true rfl) (Nat.le_of_ble_eq_true rfl) rfl (V_X0_autumn (by omega) hw0 H) (k2_V fun s6 H => ?_)
  refine fs_aload_n (k0 := 1) (i := 1) dd_X0_ordinaryYear_15 rfl rfl ?_
  refine fs_callS (y := m_X0_turn) (as := [.ref w0]) dd_X0_ordinaryYear_16 me_X0_turn (Or.inl lk_X0_102) st_X0_turn rfl (Nat.le_of_ble_eq_true rfl) (Nat.le_of_ble_eq_true rfl) rfl (V_X0_turn (by omega) hw0 H) (k2_V fun s8 H => ?_)
  exact fs_vret dd_X0_ordinaryYear_19 rfl H
theorem dd_X11_goAhead_0 : decode m_X11_goAhead.2.1 0 = .ok (.iload_n 1, 1) := by decide +kernel
theorem dd_X11_goAhead_1 : decode m_X11_goAhead.2.1 1 = .ok (.ifCond .lt 17, 3) := by decide +kernel
theorem dd_X11_goAhead_4 : decode m_X11_goAhead.2.1 4 = .ok (.iload_n 1, 1) := by decide +kernel
theorem dd_X11_goAhead_5 : decode m_X11_goAhead.2.1 5 = .ok (.bipush 60, 2) := by decide +kernel
theorem dd_X11_goAhead_7 : decode m_X11_goAhead.2.1 7 = .ok (.if_icmp .gt 11, 3) := by decide +kernel
theorem dd_X11_goAhead_10 : decode m_X11_goAhead.2.1 10 = .ok (.aload_n 0, 1) := by decide +kernel
theorem dd_X11_goAhead_11 : decode m_X11_goAhead.2.1 11 = .ok (.iload_n 1, 1) := by decide +kernel
theorem dd_X11_goAhead_12 : decode m_X11_goAhead.2.1 12 = .ok (.invokevirtual 249, 3) := by decide +kernel
theorem dd_X11_goAhead_15 : decode m_X11_goAhead.2.1 15 = .ok (.ifCond .eq 5, 3) := by decide +kernel
theorem dd_X11_goAhead_18 : decode m_X11_goAhead.2.1 18 = .ok (.iconst 0, 1) := by decide +kernel
theorem dd_X11_goAhead_19 : decode m_X11_goAhead.2.1 19 = .ok (.ireturn, 1) := by decide +kernel
theorem dd_X11_goAhead_20 : decode m_X11_goAhead.2.1 20 = .ok (.aload_n 0, 1) := by decide +kernel
theorem dd_X11_goAhead_21 : decode m_X11_goAhead.2.1 21 = .ok (.getfield 67, 3) := by decide +kernel
theorem dd_X11_goAhead_24 : decode m_X11_goAhead.2.1 24 = .ok (.aload_n 0, 1) := by decide +kernel
theorem dd_X11_goAhead_25 : decode m_X11_goAhead.2.1 25 = .ok (.getfield 63, 3) := by decide +kernel
theorem dd_X11_goAhead_28 : decode m_X11_goAhead.2.1 28 = .ok (.invokevirtual 252, 3) := by decide +kernel
theorem dd_X11_goAhead_31 : decode m_X11_goAhead.2.1 31 = .ok (.iconst 0, 1) := by decide +kernel
theorem dd_X11_goAhead_32 : decode m_X11_goAhead.2.1 32 = .ok (.istore_n 2, 1) := by decide +kernel
theorem dd_X11_goAhead_33 : decode m_X11_goAhead.2.1 33 = .ok (.iload_n 2, 1) := by decide +kernel
theorem dd_X11_goAhead_34 : decode m_X11_goAhead.2.1 34 = .ok (.iload_n 1, 1) := by decide +kernel
theorem dd_X11_goAhead_35 : decode m_X11_goAhead.2.1 35 = .ok (.if_icmp .ge 20, 3) := by decide +kernel
theorem dd_X11_goAhead_38 : decode m_X11_goAhead.2.1 38 = .ok (.aload_n 0, 1) := by decide +kernel
theorem dd_X11_goAhead_39 : decode m_X11_goAhead.2.1 39 = .ok (.getfield 56, 3) := by decide +kernel
theorem dd_X11_goAhead_42 : decode m_X11_goAhead.2.1 42 = .ok (.aload_n 0, 1) := by decide +kernel
theorem dd_X11_goAhead_43 : decode m_X11_goAhead.2.1 43 = .ok (.getfield 67, 3) := by decide +kernel
theorem dd_X11_goAhead_46 : decode m_X11_goAhead.2.1 46 = .ok (.invokevirtual 255, 3) := by decide +kernel
theorem dd_X11_goAhead_49 : decode m_X11_goAhead.2.1 49 = .ok (.iinc 2 1, 3) := by decide +kernel
theorem dd_X11_goAhead_52 : decode m_X11_goAhead.2.1 52 = .ok (.goto (-19), 3) := by decide +kernel
theorem dd_X11_goAhead_55 : decode m_X11_goAhead.2.1 55 = .ok (.iconst 1, 1) := by decide +kernel
theorem dd_X11_goAhead_56 : decode m_X11_goAhead.2.1 56 = .ok (.ireturn, 1) := by decide +kernel
def nd_X11_goAhead_33  (K33 : Int32 → Int32 → fz_s → Prop) (Q : Bool → fz_s → Prop) (v1 : Int32) (v2 : Int32) (s : fz_s) : Prop :=
  ((v1 ≤ v2 → Q true s) ∧ (¬ v1 ≤ v2 → wp_X0_ordinaryYear 41 s (fun s2 => ∀ x3 : Int32, x3 = v2 + 1 → K33 v1 x3 s2)))
def lp_X11_goAhead_33   (Q : Bool → fz_s → Prop) : Nat → Int32 → Int32 → fz_s → Prop
  | 0 => fun _ _ _ => False
  | n + 1 => nd_X11_goAhead_33  (lp_X11_goAhead_33   Q n) Q
def wp_X11_goAhead (p0 : Int32) (s : fz_s) (Q : Bool → fz_s → Prop) : Prop :=
  ((p0 < 0 → Q false s) ∧ (¬ p0 < 0 → ((60 < p0 → Q false s) ∧ (¬ 60 < p0 → wp_X11_beyond p0 s (fun r1 s2 => ((r1 = false → wp_X10_take 41 35 s2 (fun s4 => lp_X11_goAhead_33   Q 2048 p0 0 s4)) ∧ (r1 = true → Q false s2)))))))
set_option maxRecDepth 100000 in
set_option maxHeartbeats 4000000 in
theorem V_nd_X11_goAhead_33 {g : fz_G} {l : Launch} {d : Nat} (hD : 7 ≤ d)   {K33 : Int32 → Int32 → fz_s → Prop} {Q : Bool → fz_s → Prop} {v1 : Int32} {v2 : Int32} {s : fz_s} (hK33 : ∀ {v1 : Int32} {v2 : Int32} {s : fz_s}, K33 v1 v2 s → fs_V g l m_X11_goAhead d true 33 [.ref 2, .int v1, .int v2] [] s (rZ Q)) (H : nd_X11_goAhead_33  K33 Q v1 v2 s) : fs_V g l m_X11_goAhead d true 33 [.ref 2, .int v1, .int v2] [] s (rZ Q) := by
  obtain ⟨d, rfl⟩ : ∃ e, d = e + 1 := ⟨d - 1, by omega⟩
  unfold nd_X11_goAhead_33 at H
  refine fs_iload_n (k0 := 2) (i := 2) dd_X11_goAhead_33 rfl rfl ?_
  refine fs_iload_n (k0 := 1) (i := 1) dd_X11_goAhead_34 rfl rfl ?_
  refine fs_icmp_ge (tgt := 55) dd_X11_goAhead_35 (by decide) (fun hc => ?_) (fun hc => ?_)
  · replace H := H.1 hc
    refine fs_iconst (n := 1) (v := 1) dd_X11_goAhead_55 (by decide) ?_
    exact fs_zret true dd_X11_goAhead_56 rfl rfl H
  · replace H := H.2 hc
    refine fs_aload_n (k0 := 0) (i := 0) dd_X11_goAhead_38 rfl rfl ?_
    refine fs_getr (ci := 11) (j := 7) (q := 30) dd_X11_goAhead_39 fl_X11_56 ca_2 rfl (Or.inl ⟨_, rfl⟩) rfl (by decide) ?_
    refine fs_aload_n (k0 := 0) (i := 0) dd_X11_goAhead_42 rfl rfl ?_
    refine fs_getr (ci := 11) (j := 9) (q := 41) dd_X11_goAhead_43 fl_X11_67 ca_2 rfl (Or.inl ⟨_, rfl⟩) rfl (by decide) ?_
    refine fs_callV (y := m_X0_ordinaryYear) (as := [.ref 41]) dd_X11_goAhead_46 me_X0_ordinaryYear lk_X11_255 in_X0_ordinaryYear se_X0_ordinaryYear ca_30 rfl rfl rfl (Nat.le_of_ble_eq_true rfl) (Nat.le_of_ble_eq_true rfl) rfl (V_X0_ordinaryYear (by omega) ca_41 H) (k2_V fun s2 H => ?_)
    refine fs_iincN (i := 2) (m := 1) (c := 1) dd_X11_goAhead_49 rfl (by decide) (by decide) (fun x3 hx3 => ?_)
    replace H := H x3 hx3
    refine fs_goto (tgt := 33) dd_X11_goAhead_52 (by decide) ?_
    refine fs_weak (ls2 := [.ref 2, .int v1, .int x3]) (fz_le_e (fz_le_e (fz_le_e fz_le_n))) ?_
    exact hK33 H
set_option maxRecDepth 100000 in
set_option maxHeartbeats 4000000 in
theorem V_lp_X11_goAhead_33 {g : fz_G} {l : Launch} {d : Nat} (hD : 7 ≤ d)    {Q : Bool → fz_s → Prop}  (n : Nat) : ∀ {v1 : Int32} {v2 : Int32} {s : fz_s}, lp_X11_goAhead_33   Q n v1 v2 s → fs_V g l m_X11_goAhead d true 33 [.ref 2, .int v1, .int v2] [] s (rZ Q) := by
  induction n with
  | zero => intro v1 v2 s H; exact H.elim
  | succ n ih => intro v1 v2 s H; exact V_nd_X11_goAhead_33 hD  (fun H => ih H) H
set_option maxRecDepth 100000 in
set_option maxHeartbeats 4000000 in
theorem V_X11_goAhead {g : fz_G} {l : Launch} {d : Nat} (hD : 7 ≤ d) {p0 : Int32}  {s : fz_s} {Q : Bool → fz_s → Prop} (H : wp_X11_goAhead p0 s Q) : fs_V g l m_X11_goAhead d true 0 (fz_en [.ref 2, .int p0] 3) [] s (rZ Q) := by
  obtain ⟨d, rfl⟩ : ∃ e, d = e + 1 := ⟨d - 1, by omega⟩
  unfold wp_X11_goAhead at H
  refine fs_iload_n (k0 := 1) (i := 1) dd_X11_goAhead_0 rfl rfl ?_
  refine fs_if_lt (tgt := 18) dd_X11_goAhead_1 (by decide) (fun hc => ?_) (fun hc => ?_)
  · replace H := H.1 hc
    refine fs_iconst (n := 0) (v := 0) dd_X11_goAhead_18 (by decide) ?_
    exact fs_zret false dd_X11_goAhead_19 rfl rfl H
  · replace H := H.2 hc
    refine fs_iload_n (k0 := 1) (i := 1) dd_X11_goAhead_4 rfl rfl ?_
    refine fs_bipush (n := 60) (v := 60) dd_X11_goAhead_5 (by decide) ?_
    refine fs_icmp_gt (tgt := 18) dd_X11_goAhead_7 (by decide) (fun hc => ?_) (fun hc => ?_)
    · replace H := H.1 hc
      refine fs_iconst (n := 0) (v := 0) dd_X11_goAhead_18 (by decide) ?_
      exact fs_zret false dd_X11_goAhead_19 rfl rfl H
    · replace H := H.2 hc
      refine fs_aload_n (k0 := 0) (i := 0) dd_X11_goAhead_10 rfl rfl ?_
      refine fs_iload_n (k0 := 1) (i := 1) dd_X11_goAhead_11 rfl rfl ?_
      refine fs_callV (y := m_X11_beyond) (as := [.int p0]) dd_X11_goAhead_12 me_X11_beyond lk_X11_249 in_X11_beyond se_X11_beyond ca_2 rfl rfl rfl (Nat.le_of_ble_eq_true rfl) (Nat.le_of_ble_eq_true rfl) rfl (V_X11_beyond (by omega)  H) (k2_Z fun r1 s2 H => ?_)
      refine fs_if_eq (tgt := 20) dd_X11_goAhead_15 (by decide) (fun hc => ?_) (fun hc => ?_)
      · replace H := H.1 (bi_0 hc)
        refine fs_aload_n (k0 := 0) (i := 0) dd_X11_goAhead_20 rfl rfl ?_
        refine fs_getr (ci := 11) (j := 9) (q := 41) dd_X11_goAhead_21 fl_X11_67 ca_2 rfl (Or.inl ⟨_, rfl⟩) rfl (by decide) ?_
        refine fs_aload_n (k0 := 0) (i := 0) dd_X11_goAhead_24 rfl rfl ?_
        refine fs_getr (ci := 11) (j := 8) (q := 35) dd_X11_goAhead_25 fl_X11_63 ca_2 rfl (Or.inl ⟨_, rfl⟩) rfl (by decide) ?_
        refine fs_callV (y := m_X10_take) (as := [.ref 35]) dd_X11_goAhead_28 me_X10_take lk_X11_252 in_X10_take se_X10_take ca_41 rfl rfl rfl (Nat.le_of_ble_eq_true rfl) (Nat.le_of_ble_eq_true rfl) rfl (V_X10_take (by omega) ca_41 ca_35 H) (k2_V fun s4 H => ?_)
        refine fs_iconst (n := 0) (v := 0) dd_X11_goAhead_31 (by decide) ?_
        refine fs_istore_n (k0 := 2) (i := 2) dd_X11_goAhead_32 rfl (by decide) ?_
        refine fs_weak (ls2 := [.ref 2, .int p0, .int 0]) (fz_le_e (fz_le_e (fz_le_e fz_le_n))) ?_
        exact V_lp_X11_goAhead_33 hD    2048 H
      · replace H := H.2 (bi_1 hc)
        refine fs_iconst (n := 0) (v := 0) dd_X11_goAhead_18 (by decide) ?_
        exact fs_zret false dd_X11_goAhead_19 rfl rfl H
theorem dd_X11_later_0 : decode m_X11_later.2.1 0 = .ok (.aload_n 0, 1) := by decide +kernel
theorem dd_X11_later_1 : decode m_X11_later.2.1 1 = .ok (.iload_n 1, 1) := by decide +kernel
theorem dd_X11_later_2 : decode m_X11_later.2.1 2 = .ok (.invokevirtual 184, 3) := by decide +kernel
theorem dd_X11_later_5 : decode m_X11_later.2.1 5 = .ok (.ifCond .ne 20, 3) := by decide +kernel
theorem dd_X11_later_8 : decode m_X11_later.2.1 8 = .ok (.iload_n 3, 1) := by decide +kernel
theorem dd_X11_later_9 : decode m_X11_later.2.1 9 = .ok (.ifCond .lt 16, 3) := by decide +kernel
theorem dd_X11_later_12 : decode m_X11_later.2.1 12 = .ok (.iload_n 3, 1) := by decide +kernel
theorem dd_X11_later_13 : decode m_X11_later.2.1 13 = .ok (.iconst 1, 1) := by decide +kernel
theorem dd_X11_later_14 : decode m_X11_later.2.1 14 = .ok (.if_icmp .gt 11, 3) := by decide +kernel
theorem dd_X11_later_17 : decode m_X11_later.2.1 17 = .ok (.aload_n 0, 1) := by decide +kernel
theorem dd_X11_later_18 : decode m_X11_later.2.1 18 = .ok (.iload_n 2, 1) := by decide +kernel
theorem dd_X11_later_19 : decode m_X11_later.2.1 19 = .ok (.invokevirtual 246, 3) := by decide +kernel
theorem dd_X11_later_22 : decode m_X11_later.2.1 22 = .ok (.ifCond .ne 5, 3) := by decide +kernel
theorem dd_X11_later_25 : decode m_X11_later.2.1 25 = .ok (.iconst (-1), 1) := by decide +kernel
theorem dd_X11_later_26 : decode m_X11_later.2.1 26 = .ok (.ireturn, 1) := by decide +kernel
theorem dd_X11_later_27 : decode m_X11_later.2.1 27 = .ok (.iload_n 3, 1) := by decide +kernel
theorem dd_X11_later_28 : decode m_X11_later.2.1 28 = .ok (.ifCond .ne 15, 3) := by decide +kernel
theorem dd_X11_later_31 : decode m_X11_later.2.1 31 = .ok (.aload_n 0, 1) := by decide +kernel
theorem dd_X11_later_32 : decode m_X11_later.2.1 32 = .ok (.getfield 67, 3) := by decide +kernel
theorem dd_X11_later_35 : decode m_X11_later.2.1 35 = .ok (.getfield 195, 3) := by decide +kernel
theorem dd_X11_later_38 : decode m_X11_later.2.1 38 = .ok (.iload_n 1, 1) := by decide +kernel
theorem dd_X11_later_39 : decode m_X11_later.2.1 39 = .ok (.iaload, 1) := by decide +kernel
theorem dd_X11_later_40 : decode m_X11_later.2.1 40 = .ok (.goto 12, 3) := by decide +kernel
theorem dd_X11_later_43 : decode m_X11_later.2.1 43 = .ok (.aload_n 0, 1) := by decide +kernel
theorem dd_X11_later_44 : decode m_X11_later.2.1 44 = .ok (.getfield 67, 3) := by decide +kernel
theorem dd_X11_later_47 : decode m_X11_later.2.1 47 = .ok (.getfield 198, 3) := by decide +kernel
theorem dd_X11_later_50 : decode m_X11_later.2.1 50 = .ok (.iload_n 1, 1) := by decide +kernel
theorem dd_X11_later_51 : decode m_X11_later.2.1 51 = .ok (.iaload, 1) := by decide +kernel
theorem dd_X11_later_52 : decode m_X11_later.2.1 52 = .ok (.ireturn, 1) := by decide +kernel
def wp_X11_later (p0 : Int32) (p1 : Int32) (p2 : Int32) (s : fz_s) (Q : Int32 → fz_s → Prop) : Prop :=
  wp_X11_noVillage p0 s (fun r1 s2 => ((r1 = true → Q (-1) s2) ∧ (r1 = false → ((p2 < 0 → Q (-1) s2) ∧ (¬ p2 < 0 → ((1 < p2 → Q (-1) s2) ∧ (¬ 1 < p2 → wp_X11_goAhead p1 s2 (fun r3 s4 => ((r3 = true → ((¬ p2 = 0 → vp_in p0 2 ∧ Q (s4.1 43 p0.toNatClampNeg) s4) ∧ (p2 = 0 → vp_in p0 2 ∧ Q (s4.1 42 p0.toNatClampNeg) s4))) ∧ (r3 = false → Q (-1) s4))))))))))
set_option maxRecDepth 100000 in
set_option maxHeartbeats 4000000 in
theorem V_X11_later {g : fz_G} {l : Launch} {d : Nat} (hD : 8 ≤ d) {p0 : Int32} {p1 : Int32} {p2 : Int32}  {s : fz_s} {Q : Int32 → fz_s → Prop} (H : wp_X11_later p0 p1 p2 s Q) : fs_V g l m_X11_later d true 0 (fz_en [.ref 2, .int p0, .int p1, .int p2] 4) [] s (rI Q) := by
  obtain ⟨d, rfl⟩ : ∃ e, d = e + 1 := ⟨d - 1, by omega⟩
  unfold wp_X11_later at H
  refine fs_aload_n (k0 := 0) (i := 0) dd_X11_later_0 rfl rfl ?_
  refine fs_iload_n (k0 := 1) (i := 1) dd_X11_later_1 rfl rfl ?_
  refine fs_callV (y := m_X11_noVillage) (as := [.int p0]) dd_X11_later_2 me_X11_noVillage lk_X11_184 in_X11_noVillage se_X11_noVillage ca_2 rfl rfl rfl (Nat.le_of_ble_eq_true rfl) (Nat.le_of_ble_eq_true rfl) rfl (V_X11_noVillage (by omega)  H) (k2_Z fun r1 s2 H => ?_)
  refine fs_if_ne (tgt := 25) dd_X11_later_5 (by decide) (fun hc => ?_) (fun hc => ?_)
  · replace H := H.1 (bi_1 hc)
    refine fs_iconst (n := -1) (v := -1) dd_X11_later_25 (by decide) ?_
    exact fs_iret dd_X11_later_26 rfl H
  · replace H := H.2 (bi_0 hc)
    refine fs_iload_n (k0 := 3) (i := 3) dd_X11_later_8 rfl rfl ?_
    refine fs_if_lt (tgt := 25) dd_X11_later_9 (by decide) (fun hc => ?_) (fun hc => ?_)
    · replace H := H.1 hc
      refine fs_iconst (n := -1) (v := -1) dd_X11_later_25 (by decide) ?_
      exact fs_iret dd_X11_later_26 rfl H
    · replace H := H.2 hc
      refine fs_iload_n (k0 := 3) (i := 3) dd_X11_later_12 rfl rfl ?_
      refine fs_iconst (n := 1) (v := 1) dd_X11_later_13 (by decide) ?_
      refine fs_icmp_gt (tgt := 25) dd_X11_later_14 (by decide) (fun hc => ?_) (fun hc => ?_)
      · replace H := H.1 hc
        refine fs_iconst (n := -1) (v := -1) dd_X11_later_25 (by decide) ?_
        exact fs_iret dd_X11_later_26 rfl H
      · replace H := H.2 hc
        refine fs_aload_n (k0 := 0) (i := 0) dd_X11_later_17 rfl rfl ?_
        refine fs_iload_n (k0 := 2) (i := 2) dd_X11_later_18 rfl rfl ?_
        refine fs_callV (y := m_X11_goAhead) (as := [.int p1]) dd_X11_later_19 me_X11_goAhead lk_X11_246 in_X11_goAhead se_X11_goAhead ca_2 rfl rfl rfl (Nat.le_of_ble_eq_true rfl) (Nat.le_of_ble_eq_true rfl) rfl (V_X11_goAhead (by omega)  H) (k2_Z fun r3 s4 H => ?_)
        refine fs_if_ne (tgt := 27) dd_X11_later_22 (by decide) (fun hc => ?_) (fun hc => ?_)
        · replace H := H.1 (bi_1 hc)
          refine fs_iload_n (k0 := 3) (i := 3) dd_X11_later_27 rfl rfl ?_
          refine fs_if_ne (tgt := 43) dd_X11_later_28 (by decide) (fun hc => ?_) (fun hc => ?_)
          · replace H := H.1 hc
            refine fs_aload_n (k0 := 0) (i := 0) dd_X11_later_43 rfl rfl ?_
            refine fs_getr (ci := 11) (j := 9) (q := 41) dd_X11_later_44 fl_X11_67 ca_2 rfl (Or.inl ⟨_, rfl⟩) rfl (by decide) ?_
            refine fs_getr (ci := 10) (j := 1) (q := 43) dd_X11_later_47 fl_X11_198 ca_41 rfl (Or.inr ⟨_, rfl⟩) rfl (by decide) ?_
            refine fs_iload_n (k0 := 1) (i := 1) dd_X11_later_50 rfl rfl ?_
            have hb := H.1
            replace H := H.2
            refine fs_iald dd_X11_later_51 ca_43 hb ?_
            exact fs_iret dd_X11_later_52 rfl H
          · replace H := H.2 hc
            refine fs_aload_n (k0 := 0) (i := 0) dd_X11_later_31 rfl rfl ?_
            refine fs_getr (ci := 11) (j := 9) (q := 41) dd_X11_later_32 fl_X11_67 ca_2 rfl (Or.inl ⟨_, rfl⟩) rfl (by decide) ?_
            refine fs_getr (ci := 10) (j := 0) (q := 42) dd_X11_later_35 fl_X11_195 ca_41 rfl (Or.inr ⟨_, rfl⟩) rfl (by decide) ?_
            refine fs_iload_n (k0 := 1) (i := 1) dd_X11_later_38 rfl rfl ?_
            have hb := H.1
            replace H := H.2
            refine fs_iald dd_X11_later_39 ca_42 hb ?_
            refine fs_goto (tgt := 52) dd_X11_later_40 (by decide) ?_
            exact fs_iret dd_X11_later_52 rfl H
        · replace H := H.2 (bi_0 hc)
          refine fs_iconst (n := -1) (v := -1) dd_X11_later_25 (by decide) ?_
          exact fs_iret dd_X11_later_26 rfl H
theorem dd_X11_lives_0 : decode m_X11_lives.2.1 0 = .ok (.aload_n 0, 1) := by decide +kernel
theorem dd_X11_lives_1 : decode m_X11_lives.2.1 1 = .ok (.iload_n 1, 1) := by decide +kernel
theorem dd_X11_lives_2 : decode m_X11_lives.2.1 2 = .ok (.invokevirtual 192, 3) := by decide +kernel
theorem dd_X11_lives_5 : decode m_X11_lives.2.1 5 = .ok (.ifCond .ne 11, 3) := by decide +kernel
theorem dd_X11_lives_8 : decode m_X11_lives.2.1 8 = .ok (.aload_n 0, 1) := by decide +kernel
theorem dd_X11_lives_9 : decode m_X11_lives.2.1 9 = .ok (.iload_n 2, 1) := by decide +kernel
theorem dd_X11_lives_10 : decode m_X11_lives.2.1 10 = .ok (.invokevirtual 246, 3) := by decide +kernel
theorem dd_X11_lives_13 : decode m_X11_lives.2.1 13 = .ok (.ifCond .ne 5, 3) := by decide +kernel
theorem dd_X11_lives_16 : decode m_X11_lives.2.1 16 = .ok (.iconst (-1), 1) := by decide +kernel
theorem dd_X11_lives_17 : decode m_X11_lives.2.1 17 = .ok (.ireturn, 1) := by decide +kernel
theorem dd_X11_lives_18 : decode m_X11_lives.2.1 18 = .ok (.aload_n 0, 1) := by decide +kernel
theorem dd_X11_lives_19 : decode m_X11_lives.2.1 19 = .ok (.getfield 67, 3) := by decide +kernel
theorem dd_X11_lives_22 : decode m_X11_lives.2.1 22 = .ok (.getfield 222, 3) := by decide +kernel
theorem dd_X11_lives_25 : decode m_X11_lives.2.1 25 = .ok (.iload_n 1, 1) := by decide +kernel
theorem dd_X11_lives_26 : decode m_X11_lives.2.1 26 = .ok (.iaload, 1) := by decide +kernel
theorem dd_X11_lives_27 : decode m_X11_lives.2.1 27 = .ok (.ireturn, 1) := by decide +kernel
def wp_X11_lives (p0 : Int32) (p1 : Int32) (s : fz_s) (Q : Int32 → fz_s → Prop) : Prop :=
  wp_X11_noPerson p0 s (fun r1 s2 => ((r1 = true → Q (-1) s2) ∧ (r1 = false → wp_X11_goAhead p1 s2 (fun r3 s4 => ((r3 = true → vp_in p0 8 ∧ Q (s4.1 45 p0.toNatClampNeg) s4) ∧ (r3 = false → Q (-1) s4))))))
set_option maxRecDepth 100000 in
set_option maxHeartbeats 4000000 in
theorem V_X11_lives {g : fz_G} {l : Launch} {d : Nat} (hD : 8 ≤ d) {p0 : Int32} {p1 : Int32}  {s : fz_s} {Q : Int32 → fz_s → Prop} (H : wp_X11_lives p0 p1 s Q) : fs_V g l m_X11_lives d true 0 (fz_en [.ref 2, .int p0, .int p1] 3) [] s (rI Q) := by
  obtain ⟨d, rfl⟩ : ∃ e, d = e + 1 := ⟨d - 1, by omega⟩
  unfold wp_X11_lives at H
  refine fs_aload_n (k0 := 0) (i := 0) dd_X11_lives_0 rfl rfl ?_
  refine fs_iload_n (k0 := 1) (i := 1) dd_X11_lives_1 rfl rfl ?_
  refine fs_callV (y := m_X11_noPerson) (as := [.int p0]) dd_X11_lives_2 me_X11_noPerson lk_X11_192 in_X11_noPerson se_X11_noPerson ca_2 rfl rfl rfl (Nat.le_of_ble_eq_true rfl) (Nat.le_of_ble_eq_true rfl) rfl (V_X11_noPerson (by omega)  H) (k2_Z fun r1 s2 H => ?_)
  refine fs_if_ne (tgt := 16) dd_X11_lives_5 (by decide) (fun hc => ?_) (fun hc => ?_)
  · replace H := H.1 (bi_1 hc)
    refine fs_iconst (n := -1) (v := -1) dd_X11_lives_16 (by decide) ?_
    exact fs_iret dd_X11_lives_17 rfl H
  · replace H := H.2 (bi_0 hc)
    refine fs_aload_n (k0 := 0) (i := 0) dd_X11_lives_8 rfl rfl ?_
    refine fs_iload_n (k0 := 2) (i := 2) dd_X11_lives_9 rfl rfl ?_
    refine fs_callV (y := m_X11_goAhead) (as := [.int p1]) dd_X11_lives_10 me_X11_goAhead lk_X11_246 in_X11_goAhead se_X11_goAhead ca_2 rfl rfl rfl (Nat.le_of_ble_eq_true rfl) (Nat.le_of_ble_eq_true rfl) rfl (V_X11_goAhead (by omega)  H) (k2_Z fun r3 s4 H => ?_)
    refine fs_if_ne (tgt := 18) dd_X11_lives_13 (by decide) (fun hc => ?_) (fun hc => ?_)
    · replace H := H.1 (bi_1 hc)
      refine fs_aload_n (k0 := 0) (i := 0) dd_X11_lives_18 rfl rfl ?_
      refine fs_getr (ci := 11) (j := 9) (q := 41) dd_X11_lives_19 fl_X11_67 ca_2 rfl (Or.inl ⟨_, rfl⟩) rfl (by decide) ?_
      refine fs_getr (ci := 10) (j := 3) (q := 45) dd_X11_lives_22 fl_X11_222 ca_41 rfl (Or.inr ⟨_, rfl⟩) rfl (by decide) ?_
      refine fs_iload_n (k0 := 1) (i := 1) dd_X11_lives_25 rfl rfl ?_
      have hb := H.1
      replace H := H.2
      refine fs_iald dd_X11_lives_26 ca_45 hb ?_
      exact fs_iret dd_X11_lives_27 rfl H
    · replace H := H.2 (bi_0 hc)
      refine fs_iconst (n := -1) (v := -1) dd_X11_lives_16 (by decide) ?_
      exact fs_iret dd_X11_lives_17 rfl H
theorem dd_X11_shortage_0 : decode m_X11_shortage.2.1 0 = .ok (.aload_n 0, 1) := by decide +kernel
theorem dd_X11_shortage_1 : decode m_X11_shortage.2.1 1 = .ok (.iload_n 1, 1) := by decide +kernel
theorem dd_X11_shortage_2 : decode m_X11_shortage.2.1 2 = .ok (.invokevirtual 184, 3) := by decide +kernel
theorem dd_X11_shortage_5 : decode m_X11_shortage.2.1 5 = .ok (.ifCond .eq 5, 3) := by decide +kernel
theorem dd_X11_shortage_8 : decode m_X11_shortage.2.1 8 = .ok (.iconst (-1), 1) := by decide +kernel
theorem dd_X11_shortage_9 : decode m_X11_shortage.2.1 9 = .ok (.ireturn, 1) := by decide +kernel
theorem dd_X11_shortage_10 : decode m_X11_shortage.2.1 10 = .ok (.aload_n 0, 1) := by decide +kernel
theorem dd_X11_shortage_11 : decode m_X11_shortage.2.1 11 = .ok (.getfield 67, 3) := by decide +kernel
theorem dd_X11_shortage_14 : decode m_X11_shortage.2.1 14 = .ok (.aload_n 0, 1) := by decide +kernel
theorem dd_X11_shortage_15 : decode m_X11_shortage.2.1 15 = .ok (.getfield 63, 3) := by decide +kernel
theorem dd_X11_shortage_18 : decode m_X11_shortage.2.1 18 = .ok (.invokevirtual 252, 3) := by decide +kernel
theorem dd_X11_shortage_21 : decode m_X11_shortage.2.1 21 = .ok (.iconst 0, 1) := by decide +kernel
theorem dd_X11_shortage_22 : decode m_X11_shortage.2.1 22 = .ok (.istore_n 2, 1) := by decide +kernel
theorem dd_X11_shortage_23 : decode m_X11_shortage.2.1 23 = .ok (.iload_n 2, 1) := by decide +kernel
theorem dd_X11_shortage_24 : decode m_X11_shortage.2.1 24 = .ok (.bipush 60, 2) := by decide +kernel
theorem dd_X11_shortage_26 : decode m_X11_shortage.2.1 26 = .ok (.if_icmp .gt 49, 3) := by decide +kernel
theorem dd_X11_shortage_29 : decode m_X11_shortage.2.1 29 = .ok (.aload_n 0, 1) := by decide +kernel
theorem dd_X11_shortage_30 : decode m_X11_shortage.2.1 30 = .ok (.getfield 56, 3) := by decide +kernel
theorem dd_X11_shortage_33 : decode m_X11_shortage.2.1 33 = .ok (.aload_n 0, 1) := by decide +kernel
theorem dd_X11_shortage_34 : decode m_X11_shortage.2.1 34 = .ok (.getfield 67, 3) := by decide +kernel
theorem dd_X11_shortage_37 : decode m_X11_shortage.2.1 37 = .ok (.iload_n 1, 1) := by decide +kernel
theorem dd_X11_shortage_38 : decode m_X11_shortage.2.1 38 = .ok (.invokevirtual 205, 3) := by decide +kernel
theorem dd_X11_shortage_41 : decode m_X11_shortage.2.1 41 = .ok (.ifCond .ne 5, 3) := by decide +kernel
theorem dd_X11_shortage_44 : decode m_X11_shortage.2.1 44 = .ok (.iload_n 2, 1) := by decide +kernel
theorem dd_X11_shortage_45 : decode m_X11_shortage.2.1 45 = .ok (.ireturn, 1) := by decide +kernel
theorem dd_X11_shortage_46 : decode m_X11_shortage.2.1 46 = .ok (.aload_n 0, 1) := by decide +kernel
theorem dd_X11_shortage_47 : decode m_X11_shortage.2.1 47 = .ok (.iload_n 2, 1) := by decide +kernel
theorem dd_X11_shortage_48 : decode m_X11_shortage.2.1 48 = .ok (.iconst 1, 1) := by decide +kernel
theorem dd_X11_shortage_49 : decode m_X11_shortage.2.1 49 = .ok (.iadd, 1) := by decide +kernel
theorem dd_X11_shortage_50 : decode m_X11_shortage.2.1 50 = .ok (.invokevirtual 249, 3) := by decide +kernel
theorem dd_X11_shortage_53 : decode m_X11_shortage.2.1 53 = .ok (.ifCond .eq 5, 3) := by decide +kernel
theorem dd_X11_shortage_56 : decode m_X11_shortage.2.1 56 = .ok (.iconst (-1), 1) := by decide +kernel
theorem dd_X11_shortage_57 : decode m_X11_shortage.2.1 57 = .ok (.ireturn, 1) := by decide +kernel
theorem dd_X11_shortage_58 : decode m_X11_shortage.2.1 58 = .ok (.aload_n 0, 1) := by decide +kernel
theorem dd_X11_shortage_59 : decode m_X11_shortage.2.1 59 = .ok (.getfield 56, 3) := by decide +kernel
theorem dd_X11_shortage_62 : decode m_X11_shortage.2.1 62 = .ok (.aload_n 0, 1) := by decide +kernel
theorem dd_X11_shortage_63 : decode m_X11_shortage.2.1 63 = .ok (.getfield 67, 3) := by decide +kernel
theorem dd_X11_shortage_66 : decode m_X11_shortage.2.1 66 = .ok (.invokevirtual 255, 3) := by decide +kernel
theorem dd_X11_shortage_69 : decode m_X11_shortage.2.1 69 = .ok (.iinc 2 1, 3) := by decide +kernel
theorem dd_X11_shortage_72 : decode m_X11_shortage.2.1 72 = .ok (.goto (-49), 3) := by decide +kernel
theorem dd_X11_shortage_75 : decode m_X11_shortage.2.1 75 = .ok (.iconst (-1), 1) := by decide +kernel
theorem dd_X11_shortage_76 : decode m_X11_shortage.2.1 76 = .ok (.ireturn, 1) := by decide +kernel
def nd_X11_shortage_23  (K23 : Int32 → Int32 → fz_s → Prop) (Q : Int32 → fz_s → Prop) (v1 : Int32) (v2 : Int32) (s : fz_s) : Prop :=
  ((60 < v2 → Q (-1) s) ∧ (¬ 60 < v2 → wp_X0_countOwn 41 v1 s (fun r1 s2 => ((¬ r1 = 0 → wp_X11_beyond (v2 + 1) s2 (fun r3 s4 => ((r3 = false → wp_X0_ordinaryYear 41 s4 (fun s6 => ∀ x7 : Int32, x7 = v2 + 1 → K23 v1 x7 s6)) ∧ (r3 = true → Q (-1) s4)))) ∧ (r1 = 0 → Q v2 s2)))))
def lp_X11_shortage_23   (Q : Int32 → fz_s → Prop) : Nat → Int32 → Int32 → fz_s → Prop
  | 0 => fun _ _ _ => False
  | n + 1 => nd_X11_shortage_23  (lp_X11_shortage_23   Q n) Q
def wp_X11_shortage (p0 : Int32) (s : fz_s) (Q : Int32 → fz_s → Prop) : Prop :=
  wp_X11_noVillage p0 s (fun r1 s2 => ((r1 = false → wp_X10_take 41 35 s2 (fun s4 => lp_X11_shortage_23   Q 2048 p0 0 s4)) ∧ (r1 = true → Q (-1) s2)))
set_option maxRecDepth 100000 in
set_option maxHeartbeats 4000000 in
theorem V_nd_X11_shortage_23 {g : fz_G} {l : Launch} {d : Nat} (hD : 7 ≤ d)   {K23 : Int32 → Int32 → fz_s → Prop} {Q : Int32 → fz_s → Prop} {v1 : Int32} {v2 : Int32} {s : fz_s} (hK23 : ∀ {v1 : Int32} {v2 : Int32} {s : fz_s}, K23 v1 v2 s → fs_V g l m_X11_shortage d true 23 [.ref 2, .int v1, .int v2] [] s (rI Q)) (H : nd_X11_shortage_23  K23 Q v1 v2 s) : fs_V g l m_X11_shortage d true 23 [.ref 2, .int v1, .int v2] [] s (rI Q) := by
  obtain ⟨d, rfl⟩ : ∃ e, d = e + 1 := ⟨d - 1, by omega⟩
  unfold nd_X11_shortage_23 at H
  refine fs_iload_n (k0 := 2) (i := 2) dd_X11_shortage_23 rfl rfl ?_
  refine fs_bipush (n := 60) (v := 60) dd_X11_shortage_24 (by decide) ?_
  refine fs_icmp_gt (tgt := 75) dd_X11_shortage_26 (by decide) (fun hc => ?_) (fun hc => ?_)
  · replace H := H.1 hc
    refine fs_iconst (n := -1) (v := -1) dd_X11_shortage_75 (by decide) ?_
    exact fs_iret dd_X11_shortage_76 rfl H
  · replace H := H.2 hc
    refine fs_aload_n (k0 := 0) (i := 0) dd_X11_shortage_29 rfl rfl ?_
    refine fs_getr (ci := 11) (j := 7) (q := 30) dd_X11_shortage_30 fl_X11_56 ca_2 rfl (Or.inl ⟨_, rfl⟩) rfl (by decide) ?_
    refine fs_aload_n (k0 := 0) (i := 0) dd_X11_shortage_33 rfl rfl ?_
    refine fs_getr (ci := 11) (j := 9) (q := 41) dd_X11_shortage_34 fl_X11_67 ca_2 rfl (Or.inl ⟨_, rfl⟩) rfl (by decide) ?_
    refine fs_iload_n (k0 := 1) (i := 1) dd_X11_shortage_37 rfl rfl ?_
    refine fs_callV (y := m_X0_countOwn) (as := [.ref 41, .int v1]) dd_X11_shortage_38 me_X0_countOwn lk_X11_205 in_X0_countOwn se_X0_countOwn ca_30 rfl rfl rfl (Nat.le_of_ble_eq_true rfl) (Nat.le_of_ble_eq_true rfl) rfl (V_X0_countOwn (by omega) ca_41 H) (k2_I fun r1 s2 H => ?_)
    refine fs_if_ne (tgt := 46) dd_X11_shortage_41 (by decide) (fun hc => ?_) (fun hc => ?_)
    · replace H := H.1 hc
      refine fs_aload_n (k0 := 0) (i := 0) dd_X11_shortage_46 rfl rfl ?_
      refine fs_iload_n (k0 := 2) (i := 2) dd_X11_shortage_47 rfl rfl ?_
      refine fs_iconst (n := 1) (v := 1) dd_X11_shortage_48 (by decide) ?_
      refine fs_iadd dd_X11_shortage_49 ?_
      refine fs_callV (y := m_X11_beyond) (as := [.int (v2 + 1)]) dd_X11_shortage_50 me_X11_beyond lk_X11_249 in_X11_beyond se_X11_beyond ca_2 rfl rfl rfl (Nat.le_of_ble_eq_true rfl) (Nat.le_of_ble_eq_true rfl) rfl (V_X11_beyond (by omega)  H) (k2_Z fun r3 s4 H => ?_)
      refine fs_if_eq (tgt := 58) dd_X11_shortage_53 (by decide) (fun hc => ?_) (fun hc => ?_)
      · replace H := H.1 (bi_0 hc)
        refine fs_aload_n (k0 := 0) (i := 0) dd_X11_shortage_58 rfl rfl ?_
        refine fs_getr (ci := 11) (j := 7) (q := 30) dd_X11_shortage_59 fl_X11_56 ca_2 rfl (Or.inl ⟨_, rfl⟩) rfl (by decide) ?_
        refine fs_aload_n (k0 := 0) (i := 0) dd_X11_shortage_62 rfl rfl ?_
        refine fs_getr (ci := 11) (j := 9) (q := 41) dd_X11_shortage_63 fl_X11_67 ca_2 rfl (Or.inl ⟨_, rfl⟩) rfl (by decide) ?_
        refine fs_callV (y := m_X0_ordinaryYear) (as := [.ref 41]) dd_X11_shortage_66 me_X0_ordinaryYear lk_X11_255 in_X0_ordinaryYear se_X0_ordinaryYear ca_30 rfl rfl rfl (Nat.le_of_ble_eq_true rfl) (Nat.le_of_ble_eq_true rfl) rfl (V_X0_ordinaryYear (by omega) ca_41 H) (k2_V fun s6 H => ?_)
        refine fs_iincN (i := 2) (m := 1) (c := 1) dd_X11_shortage_69 rfl (by decide) (by decide) (fun x7 hx7 => ?_)
        replace H := H x7 hx7
        refine fs_goto (tgt := 23) dd_X11_shortage_72 (by decide) ?_
        refine fs_weak (ls2 := [.ref 2, .int v1, .int x7]) (fz_le_e (fz_le_e (fz_le_e fz_le_n))) ?_
        exact hK23 H
      · replace H := H.2 (bi_1 hc)
        refine fs_iconst (n := -1) (v := -1) dd_X11_shortage_56 (by decide) ?_
        exact fs_iret dd_X11_shortage_57 rfl H
    · replace H := H.2 hc
      refine fs_iload_n (k0 := 2) (i := 2) dd_X11_shortage_44 rfl rfl ?_
      exact fs_iret dd_X11_shortage_45 rfl H
set_option maxRecDepth 100000 in
set_option maxHeartbeats 4000000 in
theorem V_lp_X11_shortage_23 {g : fz_G} {l : Launch} {d : Nat} (hD : 7 ≤ d)    {Q : Int32 → fz_s → Prop}  (n : Nat) : ∀ {v1 : Int32} {v2 : Int32} {s : fz_s}, lp_X11_shortage_23   Q n v1 v2 s → fs_V g l m_X11_shortage d true 23 [.ref 2, .int v1, .int v2] [] s (rI Q) := by
  induction n with
  | zero => intro v1 v2 s H; exact H.elim
  | succ n ih => intro v1 v2 s H; exact V_nd_X11_shortage_23 hD  (fun H => ih H) H
set_option maxRecDepth 100000 in
set_option maxHeartbeats 4000000 in
theorem V_X11_shortage {g : fz_G} {l : Launch} {d : Nat} (hD : 7 ≤ d) {p0 : Int32}  {s : fz_s} {Q : Int32 → fz_s → Prop} (H : wp_X11_shortage p0 s Q) : fs_V g l m_X11_shortage d true 0 (fz_en [.ref 2, .int p0] 3) [] s (rI Q) := by
  obtain ⟨d, rfl⟩ : ∃ e, d = e + 1 := ⟨d - 1, by omega⟩
  unfold wp_X11_shortage at H
  refine fs_aload_n (k0 := 0) (i := 0) dd_X11_shortage_0 rfl rfl ?_
  refine fs_iload_n (k0 := 1) (i := 1) dd_X11_shortage_1 rfl rfl ?_
  refine fs_callV (y := m_X11_noVillage) (as := [.int p0]) dd_X11_shortage_2 me_X11_noVillage lk_X11_184 in_X11_noVillage se_X11_noVillage ca_2 rfl rfl rfl (Nat.le_of_ble_eq_true rfl) (Nat.le_of_ble_eq_true rfl) rfl (V_X11_noVillage (by omega)  H) (k2_Z fun r1 s2 H => ?_)
  refine fs_if_eq (tgt := 10) dd_X11_shortage_5 (by decide) (fun hc => ?_) (fun hc => ?_)
  · replace H := H.1 (bi_0 hc)
    refine fs_aload_n (k0 := 0) (i := 0) dd_X11_shortage_10 rfl rfl ?_
    refine fs_getr (ci := 11) (j := 9) (q := 41) dd_X11_shortage_11 fl_X11_67 ca_2 rfl (Or.inl ⟨_, rfl⟩) rfl (by decide) ?_
    refine fs_aload_n (k0 := 0) (i := 0) dd_X11_shortage_14 rfl rfl ?_
    refine fs_getr (ci := 11) (j := 8) (q := 35) dd_X11_shortage_15 fl_X11_63 ca_2 rfl (Or.inl ⟨_, rfl⟩) rfl (by decide) ?_
    refine fs_callV (y := m_X10_take) (as := [.ref 35]) dd_X11_shortage_18 me_X10_take lk_X11_252 in_X10_take se_X10_take ca_41 rfl rfl rfl (Nat.le_of_ble_eq_true rfl) (Nat.le_of_ble_eq_true rfl) rfl (V_X10_take (by omega) ca_41 ca_35 H) (k2_V fun s4 H => ?_)
    refine fs_iconst (n := 0) (v := 0) dd_X11_shortage_21 (by decide) ?_
    refine fs_istore_n (k0 := 2) (i := 2) dd_X11_shortage_22 rfl (by decide) ?_
    refine fs_weak (ls2 := [.ref 2, .int p0, .int 0]) (fz_le_e (fz_le_e (fz_le_e fz_le_n))) ?_
    exact V_lp_X11_shortage_23 hD    2048 H
  · replace H := H.2 (bi_1 hc)
    refine fs_iconst (n := -1) (v := -1) dd_X11_shortage_8 (by decide) ?_
    exact fs_iret dd_X11_shortage_9 rfl H
theorem dd_X3_harvestBy_0 : decode m_X3_harvestBy.2.1 0 = .ok (.aload_n 0, 1) := by decide +kernel
theorem dd_X3_harvestBy_1 : decode m_X3_harvestBy.2.1 1 = .ok (.getfield 12, 3) := by decide +kernel
theorem dd_X3_harvestBy_4 : decode m_X3_harvestBy.2.1 4 = .ok (.aload_n 1, 1) := by decide +kernel
theorem dd_X3_harvestBy_5 : decode m_X3_harvestBy.2.1 5 = .ok (.invokevirtual 39, 3) := by decide +kernel
theorem dd_X3_harvestBy_8 : decode m_X3_harvestBy.2.1 8 = .ok (.aload_n 0, 1) := by decide +kernel
theorem dd_X3_harvestBy_9 : decode m_X3_harvestBy.2.1 9 = .ok (.getfield 12, 3) := by decide +kernel
theorem dd_X3_harvestBy_12 : decode m_X3_harvestBy.2.1 12 = .ok (.iload_n 2, 1) := by decide +kernel
theorem dd_X3_harvestBy_13 : decode m_X3_harvestBy.2.1 13 = .ok (.invokevirtual 43, 3) := by decide +kernel
theorem dd_X3_harvestBy_16 : decode m_X3_harvestBy.2.1 16 = .ok (.aload_n 0, 1) := by decide +kernel
theorem dd_X3_harvestBy_17 : decode m_X3_harvestBy.2.1 17 = .ok (.getfield 12, 3) := by decide +kernel
theorem dd_X3_harvestBy_20 : decode m_X3_harvestBy.2.1 20 = .ok (.iload_n 3, 1) := by decide +kernel
theorem dd_X3_harvestBy_21 : decode m_X3_harvestBy.2.1 21 = .ok (.invokevirtual 43, 3) := by decide +kernel
theorem dd_X3_harvestBy_24 : decode m_X3_harvestBy.2.1 24 = .ok (.aload_n 0, 1) := by decide +kernel
theorem dd_X3_harvestBy_25 : decode m_X3_harvestBy.2.1 25 = .ok (.getfield 29, 3) := by decide +kernel
theorem dd_X3_harvestBy_28 : decode m_X3_harvestBy.2.1 28 = .ok (.aload_n 0, 1) := by decide +kernel
theorem dd_X3_harvestBy_29 : decode m_X3_harvestBy.2.1 29 = .ok (.getfield 12, 3) := by decide +kernel
theorem dd_X3_harvestBy_32 : decode m_X3_harvestBy.2.1 32 = .ok (.iload 4, 2) := by decide +kernel
theorem dd_X3_harvestBy_34 : decode m_X3_harvestBy.2.1 34 = .ok (.invokevirtual 47, 3) := by decide +kernel
theorem dd_X3_harvestBy_37 : decode m_X3_harvestBy.2.1 37 = .ok (.ireturn, 1) := by decide +kernel
def wp_X3_harvestBy (w0 : Nat) (p1 : Int32) (p2 : Int32) (p3 : Int32) (s : fz_s) (Q : Int32 → fz_s → Prop) : Prop :=
  wp_X10_take 173 w0 s (fun s2 => wp_X10_cross 173 p1 s2 (fun s4 => wp_X10_cross 173 p2 s4 (fun s6 => wp_X0_nextHarvest 173 p3 s6 (fun r7 s8 => Q r7 s8))))
set_option maxRecDepth 100000 in
set_option maxHeartbeats 4000000 in
theorem V_X3_harvestBy {g : fz_G} {l : Launch} {d : Nat} (hD : 5 ≤ d) {w0 : Nat} {p1 : Int32} {p2 : Int32} {p3 : Int32} (hw0 : fz_at true w0 10 7) {s : fz_s} {Q : Int32 → fz_s → Prop} (H : wp_X3_harvestBy w0 p1 p2 p3 s Q) : fs_V g l m_X3_harvestBy d true 0 (fz_en [.ref 172, .ref w0, .int p1, .int p2, .int p3] 5) [] s (rI Q) := by
  obtain ⟨d, rfl⟩ : ∃ e, d = e + 1 := ⟨d - 1, by omega⟩
  unfold wp_X3_harvestBy at H
  refine fs_aload_n (k0 := 0) (i := 0) dd_X3_harvestBy_0 rfl rfl ?_
  refine fs_getr (ci := 3) (j := 2) (q := 173) dd_X3_harvestBy_1 fl_X3_12 ca_172 rfl (Or.inl ⟨_, rfl⟩) rfl (by decide) ?_
  refine fs_aload_n (k0 := 1) (i := 1) dd_X3_harvestBy_4 rfl rfl ?_
  refine fs_callV (y := m_X10_take) (as := [.ref w0]) dd_X3_harvestBy_5 me_X10_take lk_X3_39 in_X10_take se_X10_take ca_173 rfl rfl rfl (Nat.le_of_ble_eq_true rfl) (Nat.le_of_ble_eq_true rfl) rfl (V_X10_take (by omega) ca_173 hw0 H) (k2_V fun s2 H => ?_)
  refine fs_aload_n (k0 := 0) (i := 0) dd_X3_harvestBy_8 rfl rfl ?_
  refine fs_getr (ci := 3) (j := 2) (q := 173) dd_X3_harvestBy_9 fl_X3_12 ca_172 rfl (Or.inl ⟨_, rfl⟩) rfl (by decide) ?_
  refine fs_iload_n (k0 := 2) (i := 2) dd_X3_harvestBy_12 rfl rfl ?_
  refine fs_callV (y := m_X10_cross) (as := [.int p1]) dd_X3_harvestBy_13 me_X10_cross lk_X3_43 in_X10_cross se_X10_cross ca_173 rfl rfl rfl (Nat.le_of_ble_eq_true rfl) (Nat.le_of_ble_eq_true rfl) rfl (V_X10_cross (by omega) ca_173 H) (k2_V fun s4 H => ?_)
  refine fs_aload_n (k0 := 0) (i := 0) dd_X3_harvestBy_16 rfl rfl ?_
  refine fs_getr (ci := 3) (j := 2) (q := 173) dd_X3_harvestBy_17 fl_X3_12 ca_172 rfl (Or.inl ⟨_, rfl⟩) rfl (by decide) ?_
  refine fs_iload_n (k0 := 3) (i := 3) dd_X3_harvestBy_20 rfl rfl ?_
  refine fs_callV (y := m_X10_cross) (as := [.int p2]) dd_X3_harvestBy_21 me_X10_cross lk_X3_43 in_X10_cross se_X10_cross ca_173 rfl rfl rfl (Nat.le_of_ble_eq_true rfl) (Nat.le_of_ble_eq_true rfl) rfl (V_X10_cross (by omega) ca_173 H) (k2_V fun s6 H => ?_)
  refine fs_aload_n (k0 := 0) (i := 0) dd_X3_harvestBy_24 rfl rfl ?_
  refine fs_getr (ci := 3) (j := 1) (q := 30) dd_X3_harvestBy_25 fl_X3_29 ca_172 rfl (Or.inl ⟨_, rfl⟩) rfl (by decide) ?_
  refine fs_aload_n (k0 := 0) (i := 0) dd_X3_harvestBy_28 rfl rfl ?_
  refine fs_getr (ci := 3) (j := 2) (q := 173) dd_X3_harvestBy_29 fl_X3_12 ca_172 rfl (Or.inl ⟨_, rfl⟩) rfl (by decide) ?_
  refine fs_iload (i := 4) dd_X3_harvestBy_32 rfl ?_
  refine fs_callV (y := m_X0_nextHarvest) (as := [.ref 173, .int p3]) dd_X3_harvestBy_34 me_X0_nextHarvest lk_X3_47 in_X0_nextHarvest se_X0_nextHarvest ca_30 rfl rfl rfl (Nat.le_of_ble_eq_true rfl) (Nat.le_of_ble_eq_true rfl) rfl (V_X0_nextHarvest (by omega) ca_173 H) (k2_I fun r7 s8 H => ?_)
  exact fs_iret dd_X3_harvestBy_37 rfl H
theorem dd_X3_gainOf_0 : decode m_X3_gainOf.2.1 0 = .ok (.aload_n 0, 1) := by decide +kernel
theorem dd_X3_gainOf_1 : decode m_X3_gainOf.2.1 1 = .ok (.aload_n 1, 1) := by decide +kernel
theorem dd_X3_gainOf_2 : decode m_X3_gainOf.2.1 2 = .ok (.iload_n 2, 1) := by decide +kernel
theorem dd_X3_gainOf_3 : decode m_X3_gainOf.2.1 3 = .ok (.iload_n 3, 1) := by decide +kernel
theorem dd_X3_gainOf_4 : decode m_X3_gainOf.2.1 4 = .ok (.iload 4, 2) := by decide +kernel
theorem dd_X3_gainOf_6 : decode m_X3_gainOf.2.1 6 = .ok (.invokevirtual 51, 3) := by decide +kernel
theorem dd_X3_gainOf_9 : decode m_X3_gainOf.2.1 9 = .ok (.aload_n 0, 1) := by decide +kernel
theorem dd_X3_gainOf_10 : decode m_X3_gainOf.2.1 10 = .ok (.getfield 29, 3) := by decide +kernel
theorem dd_X3_gainOf_13 : decode m_X3_gainOf.2.1 13 = .ok (.aload_n 1, 1) := by decide +kernel
theorem dd_X3_gainOf_14 : decode m_X3_gainOf.2.1 14 = .ok (.iload 4, 2) := by decide +kernel
theorem dd_X3_gainOf_16 : decode m_X3_gainOf.2.1 16 = .ok (.invokevirtual 47, 3) := by decide +kernel
theorem dd_X3_gainOf_19 : decode m_X3_gainOf.2.1 19 = .ok (.isub, 1) := by decide +kernel
theorem dd_X3_gainOf_20 : decode m_X3_gainOf.2.1 20 = .ok (.ireturn, 1) := by decide +kernel
def wp_X3_gainOf (w0 : Nat) (p1 : Int32) (p2 : Int32) (p3 : Int32) (s : fz_s) (Q : Int32 → fz_s → Prop) : Prop :=
  wp_X3_harvestBy w0 p1 p2 p3 s (fun r1 s2 => wp_X0_nextHarvest w0 p3 s2 (fun r3 s4 => Q (r1 - r3) s4))
set_option maxRecDepth 100000 in
set_option maxHeartbeats 4000000 in
theorem V_X3_gainOf {g : fz_G} {l : Launch} {d : Nat} (hD : 6 ≤ d) {w0 : Nat} {p1 : Int32} {p2 : Int32} {p3 : Int32} (hw0 : fz_at true w0 10 7) {s : fz_s} {Q : Int32 → fz_s → Prop} (H : wp_X3_gainOf w0 p1 p2 p3 s Q) : fs_V g l m_X3_gainOf d true 0 (fz_en [.ref 172, .ref w0, .int p1, .int p2, .int p3] 5) [] s (rI Q) := by
  obtain ⟨d, rfl⟩ : ∃ e, d = e + 1 := ⟨d - 1, by omega⟩
  unfold wp_X3_gainOf at H
  refine fs_aload_n (k0 := 0) (i := 0) dd_X3_gainOf_0 rfl rfl ?_
  refine fs_aload_n (k0 := 1) (i := 1) dd_X3_gainOf_1 rfl rfl ?_
  refine fs_iload_n (k0 := 2) (i := 2) dd_X3_gainOf_2 rfl rfl ?_
  refine fs_iload_n (k0 := 3) (i := 3) dd_X3_gainOf_3 rfl rfl ?_
  refine fs_iload (i := 4) dd_X3_gainOf_4 rfl ?_
  refine fs_callV (y := m_X3_harvestBy) (as := [.ref w0, .int p1, .int p2, .int p3]) dd_X3_gainOf_6 me_X3_harvestBy lk_X3_51 in_X3_harvestBy se_X3_harvestBy ca_172 rfl rfl rfl (Nat.le_of_ble_eq_true rfl) (Nat.le_of_ble_eq_true rfl) rfl (V_X3_harvestBy (by omega) hw0 H) (k2_I fun r1 s2 H => ?_)
  refine fs_aload_n (k0 := 0) (i := 0) dd_X3_gainOf_9 rfl rfl ?_
  refine fs_getr (ci := 3) (j := 1) (q := 30) dd_X3_gainOf_10 fl_X3_29 ca_172 rfl (Or.inl ⟨_, rfl⟩) rfl (by decide) ?_
  refine fs_aload_n (k0 := 1) (i := 1) dd_X3_gainOf_13 rfl rfl ?_
  refine fs_iload (i := 4) dd_X3_gainOf_14 rfl ?_
  refine fs_callV (y := m_X0_nextHarvest) (as := [.ref w0, .int p3]) dd_X3_gainOf_16 me_X0_nextHarvest lk_X3_47 in_X0_nextHarvest se_X0_nextHarvest ca_30 rfl rfl rfl (Nat.le_of_ble_eq_true rfl) (Nat.le_of_ble_eq_true rfl) rfl (V_X0_nextHarvest (by omega) hw0 H) (k2_I fun r3 s4 H => ?_)
  refine fs_isub dd_X3_gainOf_19 ?_
  exact fs_iret dd_X3_gainOf_20 rfl H

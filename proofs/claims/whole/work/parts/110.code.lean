theorem dd_X12_name_0 : decode m_X12_name.2.1 0 = .ok (.aload_n 0, 1) := by decide +kernel
theorem dd_X12_name_1 : decode m_X12_name.2.1 1 = .ok (.getfield 252, 3) := by decide +kernel
theorem dd_X12_name_4 : decode m_X12_name.2.1 4 = .ok (.ifCond .eq 5, 3) := by decide +kernel
theorem dd_X12_name_7 : decode m_X12_name.2.1 7 = .ok (.lconst 0, 1) := by decide +kernel
theorem dd_X12_name_8 : decode m_X12_name.2.1 8 = .ok (.lreturn, 1) := by decide +kernel
theorem dd_X12_name_9 : decode m_X12_name.2.1 9 = .ok (.aload_n 0, 1) := by decide +kernel
theorem dd_X12_name_10 : decode m_X12_name.2.1 10 = .ok (.invokevirtual 264, 3) := by decide +kernel
theorem dd_X12_name_13 : decode m_X12_name.2.1 13 = .ok (.invokestatic 268, 3) := by decide +kernel
theorem dd_X12_name_16 : decode m_X12_name.2.1 16 = .ok (.ifCond .eq 21, 3) := by decide +kernel
theorem dd_X12_name_19 : decode m_X12_name.2.1 19 = .ok (.aload_n 0, 1) := by decide +kernel
theorem dd_X12_name_20 : decode m_X12_name.2.1 20 = .ok (.getfield 258, 3) := by decide +kernel
theorem dd_X12_name_23 : decode m_X12_name.2.1 23 = .ok (.aload_n 0, 1) := by decide +kernel
theorem dd_X12_name_24 : decode m_X12_name.2.1 24 = .ok (.getfield 272, 3) := by decide +kernel
theorem dd_X12_name_27 : decode m_X12_name.2.1 27 = .ok (.if_icmp .eq 10, 3) := by decide +kernel
theorem dd_X12_name_30 : decode m_X12_name.2.1 30 = .ok (.aload_n 0, 1) := by decide +kernel
theorem dd_X12_name_31 : decode m_X12_name.2.1 31 = .ok (.invokevirtual 299, 3) := by decide +kernel
theorem dd_X12_name_34 : decode m_X12_name.2.1 34 = .ok (.ifCond .eq 14, 3) := by decide +kernel
theorem dd_X12_name_37 : decode m_X12_name.2.1 37 = .ok (.aload_n 0, 1) := by decide +kernel
theorem dd_X12_name_38 : decode m_X12_name.2.1 38 = .ok (.iconst 1, 1) := by decide +kernel
theorem dd_X12_name_39 : decode m_X12_name.2.1 39 = .ok (.aload_n 0, 1) := by decide +kernel
theorem dd_X12_name_40 : decode m_X12_name.2.1 40 = .ok (.getfield 258, 3) := by decide +kernel
theorem dd_X12_name_43 : decode m_X12_name.2.1 43 = .ok (.invokevirtual 282, 3) := by decide +kernel
theorem dd_X12_name_46 : decode m_X12_name.2.1 46 = .ok (.lconst 0, 1) := by decide +kernel
theorem dd_X12_name_47 : decode m_X12_name.2.1 47 = .ok (.lreturn, 1) := by decide +kernel
theorem dd_X12_name_48 : decode m_X12_name.2.1 48 = .ok (.aload_n 0, 1) := by decide +kernel
theorem dd_X12_name_49 : decode m_X12_name.2.1 49 = .ok (.aload_n 0, 1) := by decide +kernel
theorem dd_X12_name_50 : decode m_X12_name.2.1 50 = .ok (.getfield 258, 3) := by decide +kernel
theorem dd_X12_name_53 : decode m_X12_name.2.1 53 = .ok (.putfield 303, 3) := by decide +kernel
theorem dd_X12_name_56 : decode m_X12_name.2.1 56 = .ok (.lconst 0, 1) := by decide +kernel
theorem dd_X12_name_57 : decode m_X12_name.2.1 57 = .ok (.lstore_n 1, 1) := by decide +kernel
theorem dd_X12_name_58 : decode m_X12_name.2.1 58 = .ok (.aload_n 0, 1) := by decide +kernel
theorem dd_X12_name_59 : decode m_X12_name.2.1 59 = .ok (.getfield 258, 3) := by decide +kernel
theorem dd_X12_name_62 : decode m_X12_name.2.1 62 = .ok (.aload_n 0, 1) := by decide +kernel
theorem dd_X12_name_63 : decode m_X12_name.2.1 63 = .ok (.getfield 261, 3) := by decide +kernel
theorem dd_X12_name_66 : decode m_X12_name.2.1 66 = .ok (.if_icmp .ge 79, 3) := by decide +kernel
theorem dd_X12_name_69 : decode m_X12_name.2.1 69 = .ok (.aload_n 0, 1) := by decide +kernel
theorem dd_X12_name_70 : decode m_X12_name.2.1 70 = .ok (.getfield 7, 3) := by decide +kernel
theorem dd_X12_name_73 : decode m_X12_name.2.1 73 = .ok (.aload_n 0, 1) := by decide +kernel
theorem dd_X12_name_74 : decode m_X12_name.2.1 74 = .ok (.getfield 258, 3) := by decide +kernel
theorem dd_X12_name_77 : decode m_X12_name.2.1 77 = .ok (.iaload, 1) := by decide +kernel
theorem dd_X12_name_78 : decode m_X12_name.2.1 78 = .ok (.invokestatic 268, 3) := by decide +kernel
theorem dd_X12_name_81 : decode m_X12_name.2.1 81 = .ok (.ifCond .eq 64, 3) := by decide +kernel
theorem dd_X12_name_84 : decode m_X12_name.2.1 84 = .ok (.aload_n 0, 1) := by decide +kernel
theorem dd_X12_name_85 : decode m_X12_name.2.1 85 = .ok (.getfield 258, 3) := by decide +kernel
theorem dd_X12_name_88 : decode m_X12_name.2.1 88 = .ok (.aload_n 0, 1) := by decide +kernel
theorem dd_X12_name_89 : decode m_X12_name.2.1 89 = .ok (.getfield 303, 3) := by decide +kernel
theorem dd_X12_name_92 : decode m_X12_name.2.1 92 = .ok (.isub, 1) := by decide +kernel
theorem dd_X12_name_93 : decode m_X12_name.2.1 93 = .ok (.bipush 6, 2) := by decide +kernel
theorem dd_X12_name_95 : decode m_X12_name.2.1 95 = .ok (.if_icmp .ne 14, 3) := by decide +kernel
theorem dd_X12_name_98 : decode m_X12_name.2.1 98 = .ok (.aload_n 0, 1) := by decide +kernel
theorem dd_X12_name_99 : decode m_X12_name.2.1 99 = .ok (.iconst 1, 1) := by decide +kernel
theorem dd_X12_name_100 : decode m_X12_name.2.1 100 = .ok (.aload_n 0, 1) := by decide +kernel
theorem dd_X12_name_101 : decode m_X12_name.2.1 101 = .ok (.getfield 258, 3) := by decide +kernel
theorem dd_X12_name_104 : decode m_X12_name.2.1 104 = .ok (.invokevirtual 282, 3) := by decide +kernel
theorem dd_X12_name_107 : decode m_X12_name.2.1 107 = .ok (.lconst 0, 1) := by decide +kernel
theorem dd_X12_name_108 : decode m_X12_name.2.1 108 = .ok (.lreturn, 1) := by decide +kernel
theorem dd_X12_name_109 : decode m_X12_name.2.1 109 = .ok (.ldc2_w 306, 3) := by decide +kernel
theorem dd_X12_name_112 : decode m_X12_name.2.1 112 = .ok (.lload_n 1, 1) := by decide +kernel
theorem dd_X12_name_113 : decode m_X12_name.2.1 113 = .ok (.lmul, 1) := by decide +kernel
theorem dd_X12_name_114 : decode m_X12_name.2.1 114 = .ok (.aload_n 0, 1) := by decide +kernel
theorem dd_X12_name_115 : decode m_X12_name.2.1 115 = .ok (.getfield 7, 3) := by decide +kernel
theorem dd_X12_name_118 : decode m_X12_name.2.1 118 = .ok (.aload_n 0, 1) := by decide +kernel
theorem dd_X12_name_119 : decode m_X12_name.2.1 119 = .ok (.getfield 258, 3) := by decide +kernel
theorem dd_X12_name_122 : decode m_X12_name.2.1 122 = .ok (.iaload, 1) := by decide +kernel
theorem dd_X12_name_123 : decode m_X12_name.2.1 123 = .ok (.i2l, 1) := by decide +kernel
theorem dd_X12_name_124 : decode m_X12_name.2.1 124 = .ok (.ladd, 1) := by decide +kernel
theorem dd_X12_name_125 : decode m_X12_name.2.1 125 = .ok (.ldc2_w 308, 3) := by decide +kernel
theorem dd_X12_name_128 : decode m_X12_name.2.1 128 = .ok (.lsub, 1) := by decide +kernel
theorem dd_X12_name_129 : decode m_X12_name.2.1 129 = .ok (.lconst 1, 1) := by decide +kernel
theorem dd_X12_name_130 : decode m_X12_name.2.1 130 = .ok (.ladd, 1) := by decide +kernel
theorem dd_X12_name_131 : decode m_X12_name.2.1 131 = .ok (.lstore_n 1, 1) := by decide +kernel
theorem dd_X12_name_132 : decode m_X12_name.2.1 132 = .ok (.aload_n 0, 1) := by decide +kernel
theorem dd_X12_name_133 : decode m_X12_name.2.1 133 = .ok (.dup, 1) := by decide +kernel
theorem dd_X12_name_134 : decode m_X12_name.2.1 134 = .ok (.getfield 258, 3) := by decide +kernel
theorem dd_X12_name_137 : decode m_X12_name.2.1 137 = .ok (.iconst 1, 1) := by decide +kernel
theorem dd_X12_name_138 : decode m_X12_name.2.1 138 = .ok (.iadd, 1) := by decide +kernel
theorem dd_X12_name_139 : decode m_X12_name.2.1 139 = .ok (.putfield 258, 3) := by decide +kernel
theorem dd_X12_name_142 : decode m_X12_name.2.1 142 = .ok (.goto (-84), 3) := by decide +kernel
theorem dd_X12_name_145 : decode m_X12_name.2.1 145 = .ok (.aload_n 0, 1) := by decide +kernel
theorem dd_X12_name_146 : decode m_X12_name.2.1 146 = .ok (.aload_n 0, 1) := by decide +kernel
theorem dd_X12_name_147 : decode m_X12_name.2.1 147 = .ok (.getfield 258, 3) := by decide +kernel
theorem dd_X12_name_150 : decode m_X12_name.2.1 150 = .ok (.putfield 272, 3) := by decide +kernel
theorem dd_X12_name_153 : decode m_X12_name.2.1 153 = .ok (.lload_n 1, 1) := by decide +kernel
theorem dd_X12_name_154 : decode m_X12_name.2.1 154 = .ok (.lreturn, 1) := by decide +kernel
def nd_X12_name_58  (K58 : Int64 → fz_s → Prop) (Q : Int64 → fz_s → Prop) (v1 : Int64) (s : fz_s) : Prop :=
  (((s.1 196 3) ≤ (s.1 196 2) → ∀ s1 : fz_s, s1 = si s 196 4 (s.1 196 2) → Q v1 s1) ∧ (¬ (s.1 196 3) ≤ (s.1 196 2) → vp_in (s.1 196 2) 1600 ∧ wp_X12_isLetter (s.1 197 (s.1 196 2).toNatClampNeg) s (fun r2 s3 => ((r2 = false → ∀ s4 : fz_s, s4 = si s3 196 4 (s3.1 196 2) → Q v1 s4) ∧ (r2 = true → ((¬ ((s3.1 196 2) - (s3.1 196 37)) = 6 → vp_in (s3.1 196 2) 1600 ∧ ∀ x5 : Int64, x5 = ((((27 * v1) + ((s3.1 197 (s3.1 196 2).toNatClampNeg).toInt64)) - 97) + 1) → ∀ s6 : fz_s, s6 = si s3 196 2 ((s3.1 196 2) + 1) → K58 x5 s6) ∧ (((s3.1 196 2) - (s3.1 196 37)) = 6 → wp_X12_fail 1 (s3.1 196 2) s3 (fun s8 => Q 0 s8))))))))
def lp_X12_name_58   (Q : Int64 → fz_s → Prop) : Nat → Int64 → fz_s → Prop
  | 0 => fun _ _ => False
  | n + 1 => nd_X12_name_58  (lp_X12_name_58   Q n) Q
def nd_X12_name_37   (Q : Int64 → fz_s → Prop)  (s : fz_s) : Prop :=
  wp_X12_fail 1 (s.1 196 2) s (fun s2 => Q 0 s2)
def wp_X12_name  (s : fz_s) (Q : Int64 → fz_s → Prop) : Prop :=
  (((s.1 196 5) = 0 → wp_X12_look  s (fun r1 s2 => wp_X12_isLetter r1 s2 (fun r3 s4 => ((r3 = false → nd_X12_name_37   Q  s4) ∧ (r3 = true → (((s4.1 196 2) = (s4.1 196 4) → nd_X12_name_37   Q  s4) ∧ (¬ (s4.1 196 2) = (s4.1 196 4) → wp_X12_isOwnHere  s4 (fun r5 s6 => ((r5 = false → ∀ s7 : fz_s, s7 = si s6 196 37 (s6.1 196 2) → lp_X12_name_58   Q 2048 0 s7) ∧ (r5 = true → nd_X12_name_37   Q  s6)))))))))) ∧ (¬ (s.1 196 5) = 0 → Q 0 s))
set_option maxRecDepth 100000 in
set_option maxHeartbeats 4000000 in
theorem V_nd_X12_name_58 {g : fz_G} {l : Launch} {d : Nat} (hD : 3 ≤ d)   {K58 : Int64 → fz_s → Prop} {Q : Int64 → fz_s → Prop} {v1 : Int64} {s : fz_s} (hK58 : ∀ {v1 : Int64} {s : fz_s}, K58 v1 s → fs_V g l m_X12_name d false 58 [.ref 196, .long v1, fz_J] [] s (rL Q)) (H : nd_X12_name_58  K58 Q v1 s) : fs_V g l m_X12_name d false 58 [.ref 196, .long v1, fz_J] [] s (rL Q) := by
  obtain ⟨d, rfl⟩ : ∃ e, d = e + 1 := ⟨d - 1, by omega⟩
  unfold nd_X12_name_58 at H
  refine fs_aload_n (k0 := 0) (i := 0) dd_X12_name_58 rfl rfl ?_
  refine fs_geti (ci := 12) (j := 2) dd_X12_name_59 fl_X12_258 ca_196 rfl (Or.inl rfl) ?_
  refine fs_aload_n (k0 := 0) (i := 0) dd_X12_name_62 rfl rfl ?_
  refine fs_geti (ci := 12) (j := 3) dd_X12_name_63 fl_X12_261 ca_196 rfl (Or.inl rfl) ?_
  refine fs_icmp_ge (tgt := 145) dd_X12_name_66 (by decide) (fun hc => ?_) (fun hc => ?_)
  · replace H := H.1 hc
    refine fs_aload_n (k0 := 0) (i := 0) dd_X12_name_145 rfl rfl ?_
    refine fs_aload_n (k0 := 0) (i := 0) dd_X12_name_146 rfl rfl ?_
    refine fs_geti (ci := 12) (j := 2) dd_X12_name_147 fl_X12_258 ca_196 rfl (Or.inl rfl) ?_
    refine fs_puti (ci := 12) (j := 4) dd_X12_name_150 fl_X12_272 (fun _ _ _ h => by cases h; rfl) ca_196 rfl (Or.inl rfl) ?_
    refine fs_tops (fun s1 hs1 => ?_)
    replace H := H s1 hs1
    refine fs_lload_n (k0 := 1) (i := 1) dd_X12_name_153 rfl rfl ?_
    exact fs_lret dd_X12_name_154 rfl H
  · replace H := H.2 hc
    refine fs_aload_n (k0 := 0) (i := 0) dd_X12_name_69 rfl rfl ?_
    refine fs_getr (ci := 12) (j := 0) (q := 197) dd_X12_name_70 fl_X12_7 ca_196 rfl (Or.inr ⟨_, rfl⟩) rfl (by decide) ?_
    refine fs_aload_n (k0 := 0) (i := 0) dd_X12_name_73 rfl rfl ?_
    refine fs_geti (ci := 12) (j := 2) dd_X12_name_74 fl_X12_258 ca_196 rfl (Or.inl rfl) ?_
    have hb := H.1
    replace H := H.2
    refine fs_iald dd_X12_name_77 ca_197 hb ?_
    refine fs_callS (y := m_X12_isLetter) (as := [.int (s.1 197 (s.1 196 2).toNatClampNeg)]) dd_X12_name_78 me_X12_isLetter (Or.inl lk_X12_268) st_X12_isLetter rfl (Nat.le_of_ble_eq_true rfl) (Nat.le_of_ble_eq_true rfl) rfl (V_X12_isLetter (by omega)  H) (k2_Z fun r2 s3 H => ?_)
    refine fs_if_eq (tgt := 145) dd_X12_name_81 (by decide) (fun hc => ?_) (fun hc => ?_)
    · replace H := H.1 (bi_0 hc)
      refine fs_aload_n (k0 := 0) (i := 0) dd_X12_name_145 rfl rfl ?_
      refine fs_aload_n (k0 := 0) (i := 0) dd_X12_name_146 rfl rfl ?_
      refine fs_geti (ci := 12) (j := 2) dd_X12_name_147 fl_X12_258 ca_196 rfl (Or.inl rfl) ?_
      refine fs_puti (ci := 12) (j := 4) dd_X12_name_150 fl_X12_272 (fun _ _ _ h => by cases h; rfl) ca_196 rfl (Or.inl rfl) ?_
      refine fs_tops (fun s4 hs4 => ?_)
      replace H := H s4 hs4
      refine fs_lload_n (k0 := 1) (i := 1) dd_X12_name_153 rfl rfl ?_
      exact fs_lret dd_X12_name_154 rfl H
    · replace H := H.2 (bi_1 hc)
      refine fs_aload_n (k0 := 0) (i := 0) dd_X12_name_84 rfl rfl ?_
      refine fs_geti (ci := 12) (j := 2) dd_X12_name_85 fl_X12_258 ca_196 rfl (Or.inl rfl) ?_
      refine fs_aload_n (k0 := 0) (i := 0) dd_X12_name_88 rfl rfl ?_
      refine fs_geti (ci := 12) (j := 37) dd_X12_name_89 fl_X12_303 ca_196 rfl (Or.inl rfl) ?_
      refine fs_isub dd_X12_name_92 ?_
      refine fs_bipush (n := 6) (v := 6) dd_X12_name_93 (by decide) ?_
      refine fs_icmp_ne (tgt := 109) dd_X12_name_95 (by decide) (fun hc => ?_) (fun hc => ?_)
      · replace H := H.1 hc
        refine fs_ldc2 (idx := 306) (v := 27) dd_X12_name_109 cl_X12_306 ?_
        refine fs_lload_n (k0 := 1) (i := 1) dd_X12_name_112 rfl rfl ?_
        refine fs_lmul dd_X12_name_113 ?_
        refine fs_aload_n (k0 := 0) (i := 0) dd_X12_name_114 rfl rfl ?_
        refine fs_getr (ci := 12) (j := 0) (q := 197) dd_X12_name_115 fl_X12_7 ca_196 rfl (Or.inr ⟨_, rfl⟩) rfl (by decide) ?_
        refine fs_aload_n (k0 := 0) (i := 0) dd_X12_name_118 rfl rfl ?_
        refine fs_geti (ci := 12) (j := 2) dd_X12_name_119 fl_X12_258 ca_196 rfl (Or.inl rfl) ?_
        have hb := H.1
        replace H := H.2
        refine fs_iald dd_X12_name_122 ca_197 hb ?_
        refine fs_i2l dd_X12_name_123 ?_
        refine fs_ladd dd_X12_name_124 ?_
        refine fs_ldc2 (idx := 308) (v := 97) dd_X12_name_125 cl_X12_308 ?_
        refine fs_lsub dd_X12_name_128 ?_
        refine fs_lconst (n := 1) (v := 1) dd_X12_name_129 (by decide) ?_
        refine fs_ladd dd_X12_name_130 ?_
        refine fs_topl (fun x5 hx5 => ?_)
        replace H := H x5 hx5
        refine fs_lstore_n (k0 := 1) (i := 1) dd_X12_name_131 rfl (by decide) ?_
        refine fs_aload_n (k0 := 0) (i := 0) dd_X12_name_132 rfl rfl ?_
        refine fs_dup dd_X12_name_133 rfl ?_
        refine fs_geti (ci := 12) (j := 2) dd_X12_name_134 fl_X12_258 ca_196 rfl (Or.inl rfl) ?_
        refine fs_iconst (n := 1) (v := 1) dd_X12_name_137 (by decide) ?_
        refine fs_iadd dd_X12_name_138 ?_
        refine fs_puti (ci := 12) (j := 2) dd_X12_name_139 fl_X12_258 (fun _ _ _ h => by cases h; rfl) ca_196 rfl (Or.inl rfl) ?_
        refine fs_tops (fun s6 hs6 => ?_)
        replace H := H s6 hs6
        refine fs_goto (tgt := 58) dd_X12_name_142 (by decide) ?_
        refine fs_weak (ls2 := [.ref 196, .long x5, fz_J]) (fz_le_e (fz_le_e (fz_le_j fz_le_n))) ?_
        exact hK58 H
      · replace H := H.2 hc
        refine fs_aload_n (k0 := 0) (i := 0) dd_X12_name_98 rfl rfl ?_
        refine fs_iconst (n := 1) (v := 1) dd_X12_name_99 (by decide) ?_
        refine fs_aload_n (k0 := 0) (i := 0) dd_X12_name_100 rfl rfl ?_
        refine fs_geti (ci := 12) (j := 2) dd_X12_name_101 fl_X12_258 ca_196 rfl (Or.inl rfl) ?_
        refine fs_callV (y := m_X12_fail) (as := [.int 1, .int (s3.1 196 2)]) dd_X12_name_104 me_X12_fail lk_X12_282 in_X12_fail se_X12_fail ca_196 rfl rfl rfl (Nat.le_of_ble_eq_true rfl) (Nat.le_of_ble_eq_true rfl) rfl (V_X12_fail (by omega)  H) (k2_V fun s8 H => ?_)
        refine fs_lconst (n := 0) (v := 0) dd_X12_name_107 (by decide) ?_
        exact fs_lret dd_X12_name_108 rfl H
set_option maxRecDepth 100000 in
set_option maxHeartbeats 4000000 in
theorem V_lp_X12_name_58 {g : fz_G} {l : Launch} {d : Nat} (hD : 3 ≤ d)    {Q : Int64 → fz_s → Prop}  (n : Nat) : ∀ {v1 : Int64} {s : fz_s}, lp_X12_name_58   Q n v1 s → fs_V g l m_X12_name d false 58 [.ref 196, .long v1, fz_J] [] s (rL Q) := by
  induction n with
  | zero => intro v1 s H; exact H.elim
  | succ n ih => intro v1 s H; exact V_nd_X12_name_58 hD  (fun H => ih H) H
set_option maxRecDepth 100000 in
set_option maxHeartbeats 4000000 in
theorem V_nd_X12_name_37 {g : fz_G} {l : Launch} {d : Nat} (hD : 3 ≤ d)    {Q : Int64 → fz_s → Prop}  {s : fz_s}  (H : nd_X12_name_37   Q  s) : fs_V g l m_X12_name d false 37 [.ref 196, fz_J, fz_J] [] s (rL Q) := by
  obtain ⟨d, rfl⟩ : ∃ e, d = e + 1 := ⟨d - 1, by omega⟩
  unfold nd_X12_name_37 at H
  refine fs_aload_n (k0 := 0) (i := 0) dd_X12_name_37 rfl rfl ?_
  refine fs_iconst (n := 1) (v := 1) dd_X12_name_38 (by decide) ?_
  refine fs_aload_n (k0 := 0) (i := 0) dd_X12_name_39 rfl rfl ?_
  refine fs_geti (ci := 12) (j := 2) dd_X12_name_40 fl_X12_258 ca_196 rfl (Or.inl rfl) ?_
  refine fs_callV (y := m_X12_fail) (as := [.int 1, .int (s.1 196 2)]) dd_X12_name_43 me_X12_fail lk_X12_282 in_X12_fail se_X12_fail ca_196 rfl rfl rfl (Nat.le_of_ble_eq_true rfl) (Nat.le_of_ble_eq_true rfl) rfl (V_X12_fail (by omega)  H) (k2_V fun s2 H => ?_)
  refine fs_lconst (n := 0) (v := 0) dd_X12_name_46 (by decide) ?_
  exact fs_lret dd_X12_name_47 rfl H
set_option maxRecDepth 100000 in
set_option maxHeartbeats 4000000 in
theorem V_X12_name {g : fz_G} {l : Launch} {d : Nat} (hD : 3 ≤ d)   {s : fz_s} {Q : Int64 → fz_s → Prop} (H : wp_X12_name  s Q) : fs_V g l m_X12_name d false 0 (fz_en [.ref 196] 3) [] s (rL Q) := by
  obtain ⟨d, rfl⟩ : ∃ e, d = e + 1 := ⟨d - 1, by omega⟩
  unfold wp_X12_name at H
  refine fs_aload_n (k0 := 0) (i := 0) dd_X12_name_0 rfl rfl ?_
  refine fs_geti (ci := 12) (j := 5) dd_X12_name_1 fl_X12_252 ca_196 rfl (Or.inl rfl) ?_
  refine fs_if_eq (tgt := 9) dd_X12_name_4 (by decide) (fun hc => ?_) (fun hc => ?_)
  · replace H := H.1 hc
    refine fs_aload_n (k0 := 0) (i := 0) dd_X12_name_9 rfl rfl ?_
    refine fs_callV (y := m_X12_look) (as := []) dd_X12_name_10 me_X12_look lk_X12_264 in_X12_look se_X12_look ca_196 rfl rfl rfl (Nat.le_of_ble_eq_true rfl) (Nat.le_of_ble_eq_true rfl) rfl (V_X12_look (by omega)  H) (k2_I fun r1 s2 H => ?_)
    refine fs_callS (y := m_X12_isLetter) (as := [.int r1]) dd_X12_name_13 me_X12_isLetter (Or.inl lk_X12_268) st_X12_isLetter rfl (Nat.le_of_ble_eq_true rfl) (Nat.le_of_ble_eq_true rfl) rfl (V_X12_isLetter (by omega)  H) (k2_Z fun r3 s4 H => ?_)
    refine fs_if_eq (tgt := 37) dd_X12_name_16 (by decide) (fun hc => ?_) (fun hc => ?_)
    · replace H := H.1 (bi_0 hc)
      refine fs_weak (ls2 := [.ref 196, fz_J, fz_J]) (fz_le_e (fz_le_j (fz_le_j fz_le_n))) ?_
      exact V_nd_X12_name_37 hD    H
    · replace H := H.2 (bi_1 hc)
      refine fs_aload_n (k0 := 0) (i := 0) dd_X12_name_19 rfl rfl ?_
      refine fs_geti (ci := 12) (j := 2) dd_X12_name_20 fl_X12_258 ca_196 rfl (Or.inl rfl) ?_
      refine fs_aload_n (k0 := 0) (i := 0) dd_X12_name_23 rfl rfl ?_
      refine fs_geti (ci := 12) (j := 4) dd_X12_name_24 fl_X12_272 ca_196 rfl (Or.inl rfl) ?_
      refine fs_icmp_eq (tgt := 37) dd_X12_name_27 (by decide) (fun hc => ?_) (fun hc => ?_)
      · replace H := H.1 hc
        refine fs_weak (ls2 := [.ref 196, fz_J, fz_J]) (fz_le_e (fz_le_j (fz_le_j fz_le_n))) ?_
        exact V_nd_X12_name_37 hD    H
      · replace H := H.2 hc
        refine fs_aload_n (k0 := 0) (i := 0) dd_X12_name_30 rfl rfl ?_
        refine fs_callV (y := m_X12_isOwnHere) (as := []) dd_X12_name_31 me_X12_isOwnHere lk_X12_299 in_X12_isOwnHere se_X12_isOwnHere ca_196 rfl rfl rfl (Nat.le_of_ble_eq_true rfl) (Nat.le_of_ble_eq_true rfl) rfl (V_X12_isOwnHere (by omega)  H) (k2_Z fun r5 s6 H => ?_)
        refine fs_if_eq (tgt := 48) dd_X12_name_34 (by decide) (fun hc => ?_) (fun hc => ?_)
        · replace H := H.1 (bi_0 hc)
          refine fs_aload_n (k0 := 0) (i := 0) dd_X12_name_48 rfl rfl ?_
          refine fs_aload_n (k0 := 0) (i := 0) dd_X12_name_49 rfl rfl ?_
          refine fs_geti (ci := 12) (j := 2) dd_X12_name_50 fl_X12_258 ca_196 rfl (Or.inl rfl) ?_
          refine fs_puti (ci := 12) (j := 37) dd_X12_name_53 fl_X12_303 (fun _ _ _ h => by cases h; rfl) ca_196 rfl (Or.inl rfl) ?_
          refine fs_tops (fun s7 hs7 => ?_)
          replace H := H s7 hs7
          refine fs_lconst (n := 0) (v := 0) dd_X12_name_56 (by decide) ?_
          refine fs_lstore_n (k0 := 1) (i := 1) dd_X12_name_57 rfl (by decide) ?_
          refine fs_weak (ls2 := [.ref 196, .long 0, fz_J]) (fz_le_e (fz_le_e (fz_le_j fz_le_n))) ?_
          exact V_lp_X12_name_58 hD    2048 H
        · replace H := H.2 (bi_1 hc)
          refine fs_weak (ls2 := [.ref 196, fz_J, fz_J]) (fz_le_e (fz_le_j (fz_le_j fz_le_n))) ?_
          exact V_nd_X12_name_37 hD    H
  · replace H := H.2 hc
    refine fs_lconst (n := 0) (v := 0) dd_X12_name_7 (by decide) ?_
    exact fs_lret dd_X12_name_8 rfl H
theorem dd_X12_isAllowed_0 : decode m_X12_isAllowed.2.1 0 = .ok (.aload_n 0, 1) := by decide +kernel
theorem dd_X12_isAllowed_1 : decode m_X12_isAllowed.2.1 1 = .ok (.getfield 310, 3) := by decide +kernel
theorem dd_X12_isAllowed_4 : decode m_X12_isAllowed.2.1 4 = .ok (.ifCond .ne 17, 3) := by decide +kernel
theorem dd_X12_isAllowed_7 : decode m_X12_isAllowed.2.1 7 = .ok (.iload_n 1, 1) := by decide +kernel
theorem dd_X12_isAllowed_8 : decode m_X12_isAllowed.2.1 8 = .ok (.bipush 7, 2) := by decide +kernel
theorem dd_X12_isAllowed_10 : decode m_X12_isAllowed.2.1 10 = .ok (.if_icmp .ge 7, 3) := by decide +kernel
theorem dd_X12_isAllowed_13 : decode m_X12_isAllowed.2.1 13 = .ok (.iconst 1, 1) := by decide +kernel
theorem dd_X12_isAllowed_14 : decode m_X12_isAllowed.2.1 14 = .ok (.goto 50, 3) := by decide +kernel
theorem dd_X12_isAllowed_17 : decode m_X12_isAllowed.2.1 17 = .ok (.iconst 0, 1) := by decide +kernel
theorem dd_X12_isAllowed_18 : decode m_X12_isAllowed.2.1 18 = .ok (.goto 46, 3) := by decide +kernel
theorem dd_X12_isAllowed_21 : decode m_X12_isAllowed.2.1 21 = .ok (.aload_n 0, 1) := by decide +kernel
theorem dd_X12_isAllowed_22 : decode m_X12_isAllowed.2.1 22 = .ok (.getfield 310, 3) := by decide +kernel
theorem dd_X12_isAllowed_25 : decode m_X12_isAllowed.2.1 25 = .ok (.iconst 1, 1) := by decide +kernel
theorem dd_X12_isAllowed_26 : decode m_X12_isAllowed.2.1 26 = .ok (.if_icmp .ne 22, 3) := by decide +kernel
theorem dd_X12_isAllowed_29 : decode m_X12_isAllowed.2.1 29 = .ok (.iload_n 1, 1) := by decide +kernel
theorem dd_X12_isAllowed_30 : decode m_X12_isAllowed.2.1 30 = .ok (.iconst 3, 1) := by decide +kernel
theorem dd_X12_isAllowed_31 : decode m_X12_isAllowed.2.1 31 = .ok (.if_icmp .lt 9, 3) := by decide +kernel
theorem dd_X12_isAllowed_34 : decode m_X12_isAllowed.2.1 34 = .ok (.iload_n 1, 1) := by decide +kernel
theorem dd_X12_isAllowed_35 : decode m_X12_isAllowed.2.1 35 = .ok (.bipush 7, 2) := by decide +kernel
theorem dd_X12_isAllowed_37 : decode m_X12_isAllowed.2.1 37 = .ok (.if_icmp .ne 7, 3) := by decide +kernel
theorem dd_X12_isAllowed_40 : decode m_X12_isAllowed.2.1 40 = .ok (.iconst 1, 1) := by decide +kernel
theorem dd_X12_isAllowed_41 : decode m_X12_isAllowed.2.1 41 = .ok (.goto 23, 3) := by decide +kernel
theorem dd_X12_isAllowed_44 : decode m_X12_isAllowed.2.1 44 = .ok (.iconst 0, 1) := by decide +kernel
theorem dd_X12_isAllowed_45 : decode m_X12_isAllowed.2.1 45 = .ok (.goto 19, 3) := by decide +kernel
theorem dd_X12_isAllowed_48 : decode m_X12_isAllowed.2.1 48 = .ok (.iload_n 1, 1) := by decide +kernel
theorem dd_X12_isAllowed_49 : decode m_X12_isAllowed.2.1 49 = .ok (.iconst 1, 1) := by decide +kernel
theorem dd_X12_isAllowed_50 : decode m_X12_isAllowed.2.1 50 = .ok (.if_icmp .le 13, 3) := by decide +kernel
theorem dd_X12_isAllowed_53 : decode m_X12_isAllowed.2.1 53 = .ok (.iload_n 1, 1) := by decide +kernel
theorem dd_X12_isAllowed_54 : decode m_X12_isAllowed.2.1 54 = .ok (.bipush 7, 2) := by decide +kernel
theorem dd_X12_isAllowed_56 : decode m_X12_isAllowed.2.1 56 = .ok (.if_icmp .eq 7, 3) := by decide +kernel
theorem dd_X12_isAllowed_59 : decode m_X12_isAllowed.2.1 59 = .ok (.iconst 1, 1) := by decide +kernel
theorem dd_X12_isAllowed_60 : decode m_X12_isAllowed.2.1 60 = .ok (.goto 4, 3) := by decide +kernel
theorem dd_X12_isAllowed_63 : decode m_X12_isAllowed.2.1 63 = .ok (.iconst 0, 1) := by decide +kernel
theorem dd_X12_isAllowed_64 : decode m_X12_isAllowed.2.1 64 = .ok (.ireturn, 1) := by decide +kernel
def wp_X12_isAllowed (p0 : Int32) (s : fz_s) (Q : Bool → fz_s → Prop) : Prop :=
  ((¬ (s.1 196 53) = 0 → ((¬ (s.1 196 53) = 1 → ((p0 ≤ 1 → Q false s) ∧ (¬ p0 ≤ 1 → ((p0 = 7 → Q false s) ∧ (¬ p0 = 7 → Q true s))))) ∧ ((s.1 196 53) = 1 → ((p0 < 3 → Q true s) ∧ (¬ p0 < 3 → ((¬ p0 = 7 → Q false s) ∧ (p0 = 7 → Q true s))))))) ∧ ((s.1 196 53) = 0 → ((7 ≤ p0 → Q false s) ∧ (¬ 7 ≤ p0 → Q true s))))
set_option maxRecDepth 100000 in
set_option maxHeartbeats 4000000 in
theorem V_X12_isAllowed {g : fz_G} {l : Launch} {d : Nat} (hD : 0 ≤ d) {p0 : Int32}  {s : fz_s} {Q : Bool → fz_s → Prop} (H : wp_X12_isAllowed p0 s Q) : fs_V g l m_X12_isAllowed d false 0 (fz_en [.ref 196, .int p0] 2) [] s (rZ Q) := by
  unfold wp_X12_isAllowed at H
  refine fs_aload_n (k0 := 0) (i := 0) dd_X12_isAllowed_0 rfl rfl ?_
  refine fs_geti (ci := 12) (j := 53) dd_X12_isAllowed_1 fl_X12_310 ca_196 rfl (Or.inl rfl) ?_
  refine fs_if_ne (tgt := 21) dd_X12_isAllowed_4 (by decide) (fun hc => ?_) (fun hc => ?_)
  · replace H := H.1 hc
    refine fs_aload_n (k0 := 0) (i := 0) dd_X12_isAllowed_21 rfl rfl ?_
    refine fs_geti (ci := 12) (j := 53) dd_X12_isAllowed_22 fl_X12_310 ca_196 rfl (Or.inl rfl) ?_
    refine fs_iconst (n := 1) (v := 1) dd_X12_isAllowed_25 (by decide) ?_
    refine fs_icmp_ne (tgt := 48) dd_X12_isAllowed_26 (by decide) (fun hc => ?_) (fun hc => ?_)
    · replace H := H.1 hc
      refine fs_iload_n (k0 := 1) (i := 1) dd_X12_isAllowed_48 rfl rfl ?_
      refine fs_iconst (n := 1) (v := 1) dd_X12_isAllowed_49 (by decide) ?_
      refine fs_icmp_le (tgt := 63) dd_X12_isAllowed_50 (by decide) (fun hc => ?_) (fun hc => ?_)
      · replace H := H.1 hc
        refine fs_iconst (n := 0) (v := 0) dd_X12_isAllowed_63 (by decide) ?_
        exact fs_zret false dd_X12_isAllowed_64 rfl rfl H
      · replace H := H.2 hc
        refine fs_iload_n (k0 := 1) (i := 1) dd_X12_isAllowed_53 rfl rfl ?_
        refine fs_bipush (n := 7) (v := 7) dd_X12_isAllowed_54 (by decide) ?_
        refine fs_icmp_eq (tgt := 63) dd_X12_isAllowed_56 (by decide) (fun hc => ?_) (fun hc => ?_)
        · replace H := H.1 hc
          refine fs_iconst (n := 0) (v := 0) dd_X12_isAllowed_63 (by decide) ?_
          exact fs_zret false dd_X12_isAllowed_64 rfl rfl H
        · replace H := H.2 hc
          refine fs_iconst (n := 1) (v := 1) dd_X12_isAllowed_59 (by decide) ?_
          refine fs_goto (tgt := 64) dd_X12_isAllowed_60 (by decide) ?_
          exact fs_zret true dd_X12_isAllowed_64 rfl rfl H
    · replace H := H.2 hc
      refine fs_iload_n (k0 := 1) (i := 1) dd_X12_isAllowed_29 rfl rfl ?_
      refine fs_iconst (n := 3) (v := 3) dd_X12_isAllowed_30 (by decide) ?_
      refine fs_icmp_lt (tgt := 40) dd_X12_isAllowed_31 (by decide) (fun hc => ?_) (fun hc => ?_)
      · replace H := H.1 hc
        refine fs_iconst (n := 1) (v := 1) dd_X12_isAllowed_40 (by decide) ?_
        refine fs_goto (tgt := 64) dd_X12_isAllowed_41 (by decide) ?_
        exact fs_zret true dd_X12_isAllowed_64 rfl rfl H
      · replace H := H.2 hc
        refine fs_iload_n (k0 := 1) (i := 1) dd_X12_isAllowed_34 rfl rfl ?_
        refine fs_bipush (n := 7) (v := 7) dd_X12_isAllowed_35 (by decide) ?_
        refine fs_icmp_ne (tgt := 44) dd_X12_isAllowed_37 (by decide) (fun hc => ?_) (fun hc => ?_)
        · replace H := H.1 hc
          refine fs_iconst (n := 0) (v := 0) dd_X12_isAllowed_44 (by decide) ?_
          refine fs_goto (tgt := 64) dd_X12_isAllowed_45 (by decide) ?_
          exact fs_zret false dd_X12_isAllowed_64 rfl rfl H
        · replace H := H.2 hc
          refine fs_iconst (n := 1) (v := 1) dd_X12_isAllowed_40 (by decide) ?_
          refine fs_goto (tgt := 64) dd_X12_isAllowed_41 (by decide) ?_
          exact fs_zret true dd_X12_isAllowed_64 rfl rfl H
  · replace H := H.2 hc
    refine fs_iload_n (k0 := 1) (i := 1) dd_X12_isAllowed_7 rfl rfl ?_
    refine fs_bipush (n := 7) (v := 7) dd_X12_isAllowed_8 (by decide) ?_
    refine fs_icmp_ge (tgt := 17) dd_X12_isAllowed_10 (by decide) (fun hc => ?_) (fun hc => ?_)
    · replace H := H.1 hc
      refine fs_iconst (n := 0) (v := 0) dd_X12_isAllowed_17 (by decide) ?_
      refine fs_goto (tgt := 64) dd_X12_isAllowed_18 (by decide) ?_
      exact fs_zret false dd_X12_isAllowed_64 rfl rfl H
    · replace H := H.2 hc
      refine fs_iconst (n := 1) (v := 1) dd_X12_isAllowed_13 (by decide) ?_
      refine fs_goto (tgt := 64) dd_X12_isAllowed_14 (by decide) ?_
      exact fs_zret true dd_X12_isAllowed_64 rfl rfl H
theorem dd_X12_newName_0 : decode m_X12_newName.2.1 0 = .ok (.aload_n 0, 1) := by decide +kernel
theorem dd_X12_newName_1 : decode m_X12_newName.2.1 1 = .ok (.invokevirtual 313, 3) := by decide +kernel
theorem dd_X12_newName_4 : decode m_X12_newName.2.1 4 = .ok (.lstore_n 1, 1) := by decide +kernel
theorem dd_X12_newName_5 : decode m_X12_newName.2.1 5 = .ok (.iconst 0, 1) := by decide +kernel
theorem dd_X12_newName_6 : decode m_X12_newName.2.1 6 = .ok (.istore_n 3, 1) := by decide +kernel
theorem dd_X12_newName_7 : decode m_X12_newName.2.1 7 = .ok (.iload_n 3, 1) := by decide +kernel
theorem dd_X12_newName_8 : decode m_X12_newName.2.1 8 = .ok (.aload_n 0, 1) := by decide +kernel
theorem dd_X12_newName_9 : decode m_X12_newName.2.1 9 = .ok (.getfield 317, 3) := by decide +kernel
theorem dd_X12_newName_12 : decode m_X12_newName.2.1 12 = .ok (.if_icmp .ge 36, 3) := by decide +kernel
theorem dd_X12_newName_15 : decode m_X12_newName.2.1 15 = .ok (.aload_n 0, 1) := by decide +kernel
theorem dd_X12_newName_16 : decode m_X12_newName.2.1 16 = .ok (.getfield 252, 3) := by decide +kernel
theorem dd_X12_newName_19 : decode m_X12_newName.2.1 19 = .ok (.ifCond .ne 23, 3) := by decide +kernel
theorem dd_X12_newName_22 : decode m_X12_newName.2.1 22 = .ok (.aload_n 0, 1) := by decide +kernel
theorem dd_X12_newName_23 : decode m_X12_newName.2.1 23 = .ok (.getfield 99, 3) := by decide +kernel
theorem dd_X12_newName_26 : decode m_X12_newName.2.1 26 = .ok (.iload_n 3, 1) := by decide +kernel
theorem dd_X12_newName_27 : decode m_X12_newName.2.1 27 = .ok (.laload, 1) := by decide +kernel
theorem dd_X12_newName_28 : decode m_X12_newName.2.1 28 = .ok (.lload_n 1, 1) := by decide +kernel
theorem dd_X12_newName_29 : decode m_X12_newName.2.1 29 = .ok (.lcmp, 1) := by decide +kernel
theorem dd_X12_newName_30 : decode m_X12_newName.2.1 30 = .ok (.ifCond .ne 12, 3) := by decide +kernel
theorem dd_X12_newName_33 : decode m_X12_newName.2.1 33 = .ok (.aload_n 0, 1) := by decide +kernel
theorem dd_X12_newName_34 : decode m_X12_newName.2.1 34 = .ok (.iconst 3, 1) := by decide +kernel
theorem dd_X12_newName_35 : decode m_X12_newName.2.1 35 = .ok (.aload_n 0, 1) := by decide +kernel
theorem dd_X12_newName_36 : decode m_X12_newName.2.1 36 = .ok (.getfield 303, 3) := by decide +kernel
theorem dd_X12_newName_39 : decode m_X12_newName.2.1 39 = .ok (.invokevirtual 282, 3) := by decide +kernel
theorem dd_X12_newName_42 : decode m_X12_newName.2.1 42 = .ok (.iinc 3 1, 3) := by decide +kernel
theorem dd_X12_newName_45 : decode m_X12_newName.2.1 45 = .ok (.goto (-38), 3) := by decide +kernel
theorem dd_X12_newName_48 : decode m_X12_newName.2.1 48 = .ok (.iconst 0, 1) := by decide +kernel
theorem dd_X12_newName_49 : decode m_X12_newName.2.1 49 = .ok (.istore_n 3, 1) := by decide +kernel
theorem dd_X12_newName_50 : decode m_X12_newName.2.1 50 = .ok (.iload_n 3, 1) := by decide +kernel
theorem dd_X12_newName_51 : decode m_X12_newName.2.1 51 = .ok (.aload_n 0, 1) := by decide +kernel
theorem dd_X12_newName_52 : decode m_X12_newName.2.1 52 = .ok (.getfield 320, 3) := by decide +kernel
theorem dd_X12_newName_55 : decode m_X12_newName.2.1 55 = .ok (.if_icmp .ge 38, 3) := by decide +kernel
theorem dd_X12_newName_58 : decode m_X12_newName.2.1 58 = .ok (.aload_n 0, 1) := by decide +kernel
theorem dd_X12_newName_59 : decode m_X12_newName.2.1 59 = .ok (.getfield 252, 3) := by decide +kernel
theorem dd_X12_newName_62 : decode m_X12_newName.2.1 62 = .ok (.ifCond .ne 25, 3) := by decide +kernel
theorem dd_X12_newName_65 : decode m_X12_newName.2.1 65 = .ok (.aload_n 0, 1) := by decide +kernel
theorem dd_X12_newName_66 : decode m_X12_newName.2.1 66 = .ok (.getfield 99, 3) := by decide +kernel
theorem dd_X12_newName_69 : decode m_X12_newName.2.1 69 = .ok (.iconst 2, 1) := by decide +kernel
theorem dd_X12_newName_70 : decode m_X12_newName.2.1 70 = .ok (.iload_n 3, 1) := by decide +kernel
theorem dd_X12_newName_71 : decode m_X12_newName.2.1 71 = .ok (.iadd, 1) := by decide +kernel
theorem dd_X12_newName_72 : decode m_X12_newName.2.1 72 = .ok (.laload, 1) := by decide +kernel
theorem dd_X12_newName_73 : decode m_X12_newName.2.1 73 = .ok (.lload_n 1, 1) := by decide +kernel
theorem dd_X12_newName_74 : decode m_X12_newName.2.1 74 = .ok (.lcmp, 1) := by decide +kernel
theorem dd_X12_newName_75 : decode m_X12_newName.2.1 75 = .ok (.ifCond .ne 12, 3) := by decide +kernel
theorem dd_X12_newName_78 : decode m_X12_newName.2.1 78 = .ok (.aload_n 0, 1) := by decide +kernel
theorem dd_X12_newName_79 : decode m_X12_newName.2.1 79 = .ok (.iconst 3, 1) := by decide +kernel
theorem dd_X12_newName_80 : decode m_X12_newName.2.1 80 = .ok (.aload_n 0, 1) := by decide +kernel
theorem dd_X12_newName_81 : decode m_X12_newName.2.1 81 = .ok (.getfield 303, 3) := by decide +kernel
theorem dd_X12_newName_84 : decode m_X12_newName.2.1 84 = .ok (.invokevirtual 282, 3) := by decide +kernel
theorem dd_X12_newName_87 : decode m_X12_newName.2.1 87 = .ok (.iinc 3 1, 3) := by decide +kernel
theorem dd_X12_newName_90 : decode m_X12_newName.2.1 90 = .ok (.goto (-40), 3) := by decide +kernel
theorem dd_X12_newName_93 : decode m_X12_newName.2.1 93 = .ok (.lload_n 1, 1) := by decide +kernel
theorem dd_X12_newName_94 : decode m_X12_newName.2.1 94 = .ok (.lreturn, 1) := by decide +kernel
def nd_X12_newName_50  (K50 : Int64 → Int32 → fz_s → Prop) (Q : Int64 → fz_s → Prop) (v1 : Int64) (v3 : Int32) (s : fz_s) : Prop :=
  (((s.1 196 39) ≤ v3 → Q v1 s) ∧ (¬ (s.1 196 39) ≤ v3 → ((¬ (s.1 196 5) = 0 → ∀ x1 : Int32, x1 = v3 + 1 → K50 v1 x1 s) ∧ ((s.1 196 5) = 0 → vp_in (2 + v3) 20 ∧ ((¬ (lg_cmp (s.2.1 225 (2 + v3).toNatClampNeg) v1) = 0 → ∀ x2 : Int32, x2 = v3 + 1 → K50 v1 x2 s) ∧ ((lg_cmp (s.2.1 225 (2 + v3).toNatClampNeg) v1) = 0 → wp_X12_fail 3 (s.1 196 37) s (fun s4 => ∀ x5 : Int32, x5 = v3 + 1 → K50 v1 x5 s4)))))))
def lp_X12_newName_50   (Q : Int64 → fz_s → Prop) : Nat → Int64 → Int32 → fz_s → Prop
  | 0 => fun _ _ _ => False
  | n + 1 => nd_X12_newName_50  (lp_X12_newName_50   Q n) Q
def nd_X12_newName_7  (K7 : Int64 → Int32 → fz_s → Prop) (Q : Int64 → fz_s → Prop) (v1 : Int64) (v3 : Int32) (s : fz_s) : Prop :=
  (((s.1 196 38) ≤ v3 → lp_X12_newName_50   Q 2048 v1 0 s) ∧ (¬ (s.1 196 38) ≤ v3 → ((¬ (s.1 196 5) = 0 → ∀ x1 : Int32, x1 = v3 + 1 → K7 v1 x1 s) ∧ ((s.1 196 5) = 0 → vp_in v3 20 ∧ ((¬ (lg_cmp (s.2.1 225 v3.toNatClampNeg) v1) = 0 → ∀ x2 : Int32, x2 = v3 + 1 → K7 v1 x2 s) ∧ ((lg_cmp (s.2.1 225 v3.toNatClampNeg) v1) = 0 → wp_X12_fail 3 (s.1 196 37) s (fun s4 => ∀ x5 : Int32, x5 = v3 + 1 → K7 v1 x5 s4)))))))
def lp_X12_newName_7   (Q : Int64 → fz_s → Prop) : Nat → Int64 → Int32 → fz_s → Prop
  | 0 => fun _ _ _ => False
  | n + 1 => nd_X12_newName_7  (lp_X12_newName_7   Q n) Q
def wp_X12_newName  (s : fz_s) (Q : Int64 → fz_s → Prop) : Prop :=
  wp_X12_name  s (fun r1 s2 => lp_X12_newName_7   Q 2048 r1 0 s2)
set_option maxRecDepth 100000 in
set_option maxHeartbeats 4000000 in
theorem V_nd_X12_newName_50 {g : fz_G} {l : Launch} {d : Nat} (hD : 4 ≤ d)   {K50 : Int64 → Int32 → fz_s → Prop} {Q : Int64 → fz_s → Prop} {v1 : Int64} {v3 : Int32} {s : fz_s} (hK50 : ∀ {v1 : Int64} {v3 : Int32} {s : fz_s}, K50 v1 v3 s → fs_V g l m_X12_newName d false 50 [.ref 196, .long v1, fz_J, .int v3] [] s (rL Q)) (H : nd_X12_newName_50  K50 Q v1 v3 s) : fs_V g l m_X12_newName d false 50 [.ref 196, .long v1, fz_J, .int v3] [] s (rL Q) := by
  obtain ⟨d, rfl⟩ : ∃ e, d = e + 1 := ⟨d - 1, by omega⟩
  unfold nd_X12_newName_50 at H
  refine fs_iload_n (k0 := 3) (i := 3) dd_X12_newName_50 rfl rfl ?_
  refine fs_aload_n (k0 := 0) (i := 0) dd_X12_newName_51 rfl rfl ?_
  refine fs_geti (ci := 12) (j := 39) dd_X12_newName_52 fl_X12_320 ca_196 rfl (Or.inl rfl) ?_
  refine fs_icmp_ge (tgt := 93) dd_X12_newName_55 (by decide) (fun hc => ?_) (fun hc => ?_)
  · replace H := H.1 hc
    refine fs_lload_n (k0 := 1) (i := 1) dd_X12_newName_93 rfl rfl ?_
    exact fs_lret dd_X12_newName_94 rfl H
  · replace H := H.2 hc
    refine fs_aload_n (k0 := 0) (i := 0) dd_X12_newName_58 rfl rfl ?_
    refine fs_geti (ci := 12) (j := 5) dd_X12_newName_59 fl_X12_252 ca_196 rfl (Or.inl rfl) ?_
    refine fs_if_ne (tgt := 87) dd_X12_newName_62 (by decide) (fun hc => ?_) (fun hc => ?_)
    · replace H := H.1 hc
      refine fs_iincN (i := 3) (m := 1) (c := 1) dd_X12_newName_87 rfl (by decide) (by decide) (fun x1 hx1 => ?_)
      replace H := H x1 hx1
      refine fs_goto (tgt := 50) dd_X12_newName_90 (by decide) ?_
      refine fs_weak (ls2 := [.ref 196, .long v1, fz_J, .int x1]) (fz_le_e (fz_le_e (fz_le_j (fz_le_e fz_le_n)))) ?_
      exact hK50 H
    · replace H := H.2 hc
      refine fs_aload_n (k0 := 0) (i := 0) dd_X12_newName_65 rfl rfl ?_
      refine fs_getr (ci := 12) (j := 41) (q := 225) dd_X12_newName_66 fl_X12_99 ca_196 rfl (Or.inr ⟨_, rfl⟩) rfl (by decide) ?_
      refine fs_iconst (n := 2) (v := 2) dd_X12_newName_69 (by decide) ?_
      refine fs_iload_n (k0 := 3) (i := 3) dd_X12_newName_70 rfl rfl ?_
      refine fs_iadd dd_X12_newName_71 ?_
      have hb := H.1
      replace H := H.2
      refine fs_lald dd_X12_newName_72 ca_225 hb ?_
      refine fs_lload_n (k0 := 1) (i := 1) dd_X12_newName_73 rfl rfl ?_
      refine fs_lcmp dd_X12_newName_74 ?_
      refine fs_if_ne (tgt := 87) dd_X12_newName_75 (by decide) (fun hc => ?_) (fun hc => ?_)
      · replace H := H.1 hc
        refine fs_iincN (i := 3) (m := 1) (c := 1) dd_X12_newName_87 rfl (by decide) (by decide) (fun x2 hx2 => ?_)
        replace H := H x2 hx2
        refine fs_goto (tgt := 50) dd_X12_newName_90 (by decide) ?_
        refine fs_weak (ls2 := [.ref 196, .long v1, fz_J, .int x2]) (fz_le_e (fz_le_e (fz_le_j (fz_le_e fz_le_n)))) ?_
        exact hK50 H
      · replace H := H.2 hc
        refine fs_aload_n (k0 := 0) (i := 0) dd_X12_newName_78 rfl rfl ?_
        refine fs_iconst (n := 3) (v := 3) dd_X12_newName_79 (by decide) ?_
        refine fs_aload_n (k0 := 0) (i := 0) dd_X12_newName_80 rfl rfl ?_
        refine fs_geti (ci := 12) (j := 37) dd_X12_newName_81 fl_X12_303 ca_196 rfl (Or.inl rfl) ?_
        refine fs_callV (y := m_X12_fail) (as := [.int 3, .int (s.1 196 37)]) dd_X12_newName_84 me_X12_fail lk_X12_282 in_X12_fail se_X12_fail ca_196 rfl rfl rfl (Nat.le_of_ble_eq_true rfl) (Nat.le_of_ble_eq_true rfl) rfl (V_X12_fail (by omega)  H) (k2_V fun s4 H => ?_)
        refine fs_iincN (i := 3) (m := 1) (c := 1) dd_X12_newName_87 rfl (by decide) (by decide) (fun x5 hx5 => ?_)
        replace H := H x5 hx5
        refine fs_goto (tgt := 50) dd_X12_newName_90 (by decide) ?_
        refine fs_weak (ls2 := [.ref 196, .long v1, fz_J, .int x5]) (fz_le_e (fz_le_e (fz_le_j (fz_le_e fz_le_n)))) ?_
        exact hK50 H
set_option maxRecDepth 100000 in
set_option maxHeartbeats 4000000 in
theorem V_lp_X12_newName_50 {g : fz_G} {l : Launch} {d : Nat} (hD : 4 ≤ d)    {Q : Int64 → fz_s → Prop}  (n : Nat) : ∀ {v1 : Int64} {v3 : Int32} {s : fz_s}, lp_X12_newName_50   Q n v1 v3 s → fs_V g l m_X12_newName d false 50 [.ref 196, .long v1, fz_J, .int v3] [] s (rL Q) := by
  induction n with
  | zero => intro v1 v3 s H; exact H.elim
  | succ n ih => intro v1 v3 s H; exact V_nd_X12_newName_50 hD  (fun H => ih H) H
set_option maxRecDepth 100000 in
set_option maxHeartbeats 4000000 in
theorem V_nd_X12_newName_7 {g : fz_G} {l : Launch} {d : Nat} (hD : 4 ≤ d)   {K7 : Int64 → Int32 → fz_s → Prop} {Q : Int64 → fz_s → Prop} {v1 : Int64} {v3 : Int32} {s : fz_s} (hK7 : ∀ {v1 : Int64} {v3 : Int32} {s : fz_s}, K7 v1 v3 s → fs_V g l m_X12_newName d false 7 [.ref 196, .long v1, fz_J, .int v3] [] s (rL Q)) (H : nd_X12_newName_7  K7 Q v1 v3 s) : fs_V g l m_X12_newName d false 7 [.ref 196, .long v1, fz_J, .int v3] [] s (rL Q) := by
  obtain ⟨d, rfl⟩ : ∃ e, d = e + 1 := ⟨d - 1, by omega⟩
  unfold nd_X12_newName_7 at H
  refine fs_iload_n (k0 := 3) (i := 3) dd_X12_newName_7 rfl rfl ?_
  refine fs_aload_n (k0 := 0) (i := 0) dd_X12_newName_8 rfl rfl ?_
  refine fs_geti (ci := 12) (j := 38) dd_X12_newName_9 fl_X12_317 ca_196 rfl (Or.inl rfl) ?_
  refine fs_icmp_ge (tgt := 48) dd_X12_newName_12 (by decide) (fun hc => ?_) (fun hc => ?_)
  · replace H := H.1 hc
    refine fs_iconst (n := 0) (v := 0) dd_X12_newName_48 (by decide) ?_
    refine fs_istore_n (k0 := 3) (i := 3) dd_X12_newName_49 rfl (by decide) ?_
    refine fs_weak (ls2 := [.ref 196, .long v1, fz_J, .int 0]) (fz_le_e (fz_le_e (fz_le_j (fz_le_e fz_le_n)))) ?_
    exact V_lp_X12_newName_50 hD    2048 H
  · replace H := H.2 hc
    refine fs_aload_n (k0 := 0) (i := 0) dd_X12_newName_15 rfl rfl ?_
    refine fs_geti (ci := 12) (j := 5) dd_X12_newName_16 fl_X12_252 ca_196 rfl (Or.inl rfl) ?_
    refine fs_if_ne (tgt := 42) dd_X12_newName_19 (by decide) (fun hc => ?_) (fun hc => ?_)
    · replace H := H.1 hc
      refine fs_iincN (i := 3) (m := 1) (c := 1) dd_X12_newName_42 rfl (by decide) (by decide) (fun x1 hx1 => ?_)
      replace H := H x1 hx1
      refine fs_goto (tgt := 7) dd_X12_newName_45 (by decide) ?_
      refine fs_weak (ls2 := [.ref 196, .long v1, fz_J, .int x1]) (fz_le_e (fz_le_e (fz_le_j (fz_le_e fz_le_n)))) ?_
      exact hK7 H
    · replace H := H.2 hc
      refine fs_aload_n (k0 := 0) (i := 0) dd_X12_newName_22 rfl rfl ?_
      refine fs_getr (ci := 12) (j := 41) (q := 225) dd_X12_newName_23 fl_X12_99 ca_196 rfl (Or.inr ⟨_, rfl⟩) rfl (by decide) ?_
      refine fs_iload_n (k0 := 3) (i := 3) dd_X12_newName_26 rfl rfl ?_
      have hb := H.1
      replace H := H.2
      refine fs_lald dd_X12_newName_27 ca_225 hb ?_
      refine fs_lload_n (k0 := 1) (i := 1) dd_X12_newName_28 rfl rfl ?_
      refine fs_lcmp dd_X12_newName_29 ?_
      refine fs_if_ne (tgt := 42) dd_X12_newName_30 (by decide) (fun hc => ?_) (fun hc => ?_)
      · replace H := H.1 hc
        refine fs_iincN (i := 3) (m := 1) (c := 1) dd_X12_newName_42 rfl (by decide) (by decide) (fun x2 hx2 => ?_)
        replace H := H x2 hx2
        refine fs_goto (tgt := 7) dd_X12_newName_45 (by decide) ?_
        refine fs_weak (ls2 := [.ref 196, .long v1, fz_J, .int x2]) (fz_le_e (fz_le_e (fz_le_j (fz_le_e fz_le_n)))) ?_
        exact hK7 H
      · replace H := H.2 hc
        refine fs_aload_n (k0 := 0) (i := 0) dd_X12_newName_33 rfl rfl ?_
        refine fs_iconst (n := 3) (v := 3) dd_X12_newName_34 (by decide) ?_
        refine fs_aload_n (k0 := 0) (i := 0) dd_X12_newName_35 rfl rfl ?_
        refine fs_geti (ci := 12) (j := 37) dd_X12_newName_36 fl_X12_303 ca_196 rfl (Or.inl rfl) ?_
        refine fs_callV (y := m_X12_fail) (as := [.int 3, .int (s.1 196 37)]) dd_X12_newName_39 me_X12_fail lk_X12_282 in_X12_fail se_X12_fail ca_196 rfl rfl rfl (Nat.le_of_ble_eq_true rfl) (Nat.le_of_ble_eq_true rfl) rfl (V_X12_fail (by omega)  H) (k2_V fun s4 H => ?_)
        refine fs_iincN (i := 3) (m := 1) (c := 1) dd_X12_newName_42 rfl (by decide) (by decide) (fun x5 hx5 => ?_)
        replace H := H x5 hx5
        refine fs_goto (tgt := 7) dd_X12_newName_45 (by decide) ?_
        refine fs_weak (ls2 := [.ref 196, .long v1, fz_J, .int x5]) (fz_le_e (fz_le_e (fz_le_j (fz_le_e fz_le_n)))) ?_
        exact hK7 H
set_option maxRecDepth 100000 in
set_option maxHeartbeats 4000000 in
theorem V_lp_X12_newName_7 {g : fz_G} {l : Launch} {d : Nat} (hD : 4 ≤ d)    {Q : Int64 → fz_s → Prop}  (n : Nat) : ∀ {v1 : Int64} {v3 : Int32} {s : fz_s}, lp_X12_newName_7   Q n v1 v3 s → fs_V g l m_X12_newName d false 7 [.ref 196, .long v1, fz_J, .int v3] [] s (rL Q) := by
  induction n with
  | zero => intro v1 v3 s H; exact H.elim
  | succ n ih => intro v1 v3 s H; exact V_nd_X12_newName_7 hD  (fun H => ih H) H
set_option maxRecDepth 100000 in
set_option maxHeartbeats 4000000 in
theorem V_X12_newName {g : fz_G} {l : Launch} {d : Nat} (hD : 4 ≤ d)   {s : fz_s} {Q : Int64 → fz_s → Prop} (H : wp_X12_newName  s Q) : fs_V g l m_X12_newName d false 0 (fz_en [.ref 196] 4) [] s (rL Q) := by
  obtain ⟨d, rfl⟩ : ∃ e, d = e + 1 := ⟨d - 1, by omega⟩
  unfold wp_X12_newName at H
  refine fs_aload_n (k0 := 0) (i := 0) dd_X12_newName_0 rfl rfl ?_
  refine fs_callV (y := m_X12_name) (as := []) dd_X12_newName_1 me_X12_name lk_X12_313 in_X12_name se_X12_name ca_196 rfl rfl rfl (Nat.le_of_ble_eq_true rfl) (Nat.le_of_ble_eq_true rfl) rfl (V_X12_name (by omega)  H) (k2_L fun r1 s2 H => ?_)
  refine fs_lstore_n (k0 := 1) (i := 1) dd_X12_newName_4 rfl (by decide) ?_
  refine fs_iconst (n := 0) (v := 0) dd_X12_newName_5 (by decide) ?_
  refine fs_istore_n (k0 := 3) (i := 3) dd_X12_newName_6 rfl (by decide) ?_
  refine fs_weak (ls2 := [.ref 196, .long r1, fz_J, .int 0]) (fz_le_e (fz_le_e (fz_le_j (fz_le_e fz_le_n)))) ?_
  exact V_lp_X12_newName_7 hD    2048 H
theorem dd_X12_villageTold_0 : decode m_X12_villageTold.2.1 0 = .ok (.aload_n 0, 1) := by decide +kernel
theorem dd_X12_villageTold_1 : decode m_X12_villageTold.2.1 1 = .ok (.aload_n 0, 1) := by decide +kernel
theorem dd_X12_villageTold_2 : decode m_X12_villageTold.2.1 2 = .ok (.getfield 27, 3) := by decide +kernel
theorem dd_X12_villageTold_5 : decode m_X12_villageTold.2.1 5 = .ok (.invokevirtual 323, 3) := by decide +kernel
theorem dd_X12_villageTold_8 : decode m_X12_villageTold.2.1 8 = .ok (.aload_n 0, 1) := by decide +kernel
theorem dd_X12_villageTold_9 : decode m_X12_villageTold.2.1 9 = .ok (.invokevirtual 327, 3) := by decide +kernel
theorem dd_X12_villageTold_12 : decode m_X12_villageTold.2.1 12 = .ok (.lstore_n 1, 1) := by decide +kernel
theorem dd_X12_villageTold_13 : decode m_X12_villageTold.2.1 13 = .ok (.aload_n 0, 1) := by decide +kernel
theorem dd_X12_villageTold_14 : decode m_X12_villageTold.2.1 14 = .ok (.aload_n 0, 1) := by decide +kernel
theorem dd_X12_villageTold_15 : decode m_X12_villageTold.2.1 15 = .ok (.getfield 20, 3) := by decide +kernel
theorem dd_X12_villageTold_18 : decode m_X12_villageTold.2.1 18 = .ok (.invokevirtual 323, 3) := by decide +kernel
theorem dd_X12_villageTold_21 : decode m_X12_villageTold.2.1 21 = .ok (.aload_n 0, 1) := by decide +kernel
theorem dd_X12_villageTold_22 : decode m_X12_villageTold.2.1 22 = .ok (.iconst 0, 1) := by decide +kernel
theorem dd_X12_villageTold_23 : decode m_X12_villageTold.2.1 23 = .ok (.sipush 999, 3) := by decide +kernel
theorem dd_X12_villageTold_26 : decode m_X12_villageTold.2.1 26 = .ok (.invokevirtual 330, 3) := by decide +kernel
theorem dd_X12_villageTold_29 : decode m_X12_villageTold.2.1 29 = .ok (.istore_n 3, 1) := by decide +kernel
theorem dd_X12_villageTold_30 : decode m_X12_villageTold.2.1 30 = .ok (.aload_n 0, 1) := by decide +kernel
theorem dd_X12_villageTold_31 : decode m_X12_villageTold.2.1 31 = .ok (.aload_n 0, 1) := by decide +kernel
theorem dd_X12_villageTold_32 : decode m_X12_villageTold.2.1 32 = .ok (.getfield 24, 3) := by decide +kernel
theorem dd_X12_villageTold_35 : decode m_X12_villageTold.2.1 35 = .ok (.invokevirtual 323, 3) := by decide +kernel
theorem dd_X12_villageTold_38 : decode m_X12_villageTold.2.1 38 = .ok (.aload_n 0, 1) := by decide +kernel
theorem dd_X12_villageTold_39 : decode m_X12_villageTold.2.1 39 = .ok (.iconst 0, 1) := by decide +kernel
theorem dd_X12_villageTold_40 : decode m_X12_villageTold.2.1 40 = .ok (.bipush 99, 2) := by decide +kernel
theorem dd_X12_villageTold_42 : decode m_X12_villageTold.2.1 42 = .ok (.invokevirtual 330, 3) := by decide +kernel
theorem dd_X12_villageTold_45 : decode m_X12_villageTold.2.1 45 = .ok (.istore 4, 2) := by decide +kernel
theorem dd_X12_villageTold_47 : decode m_X12_villageTold.2.1 47 = .ok (.aload_n 0, 1) := by decide +kernel
theorem dd_X12_villageTold_48 : decode m_X12_villageTold.2.1 48 = .ok (.bipush 59, 2) := by decide +kernel
theorem dd_X12_villageTold_50 : decode m_X12_villageTold.2.1 50 = .ok (.invokevirtual 334, 3) := by decide +kernel
theorem dd_X12_villageTold_53 : decode m_X12_villageTold.2.1 53 = .ok (.aload_n 0, 1) := by decide +kernel
theorem dd_X12_villageTold_54 : decode m_X12_villageTold.2.1 54 = .ok (.getfield 252, 3) := by decide +kernel
theorem dd_X12_villageTold_57 : decode m_X12_villageTold.2.1 57 = .ok (.ifCond .eq 4, 3) := by decide +kernel
theorem dd_X12_villageTold_60 : decode m_X12_villageTold.2.1 60 = .ok (.return_, 1) := by decide +kernel
theorem dd_X12_villageTold_61 : decode m_X12_villageTold.2.1 61 = .ok (.aload_n 0, 1) := by decide +kernel
theorem dd_X12_villageTold_62 : decode m_X12_villageTold.2.1 62 = .ok (.getfield 99, 3) := by decide +kernel
theorem dd_X12_villageTold_65 : decode m_X12_villageTold.2.1 65 = .ok (.aload_n 0, 1) := by decide +kernel
theorem dd_X12_villageTold_66 : decode m_X12_villageTold.2.1 66 = .ok (.getfield 317, 3) := by decide +kernel
theorem dd_X12_villageTold_69 : decode m_X12_villageTold.2.1 69 = .ok (.lload_n 1, 1) := by decide +kernel
theorem dd_X12_villageTold_70 : decode m_X12_villageTold.2.1 70 = .ok (.lastore, 1) := by decide +kernel
theorem dd_X12_villageTold_71 : decode m_X12_villageTold.2.1 71 = .ok (.aload_n 0, 1) := by decide +kernel
theorem dd_X12_villageTold_72 : decode m_X12_villageTold.2.1 72 = .ok (.getfield 103, 3) := by decide +kernel
theorem dd_X12_villageTold_75 : decode m_X12_villageTold.2.1 75 = .ok (.iconst 2, 1) := by decide +kernel
theorem dd_X12_villageTold_76 : decode m_X12_villageTold.2.1 76 = .ok (.aload_n 0, 1) := by decide +kernel
theorem dd_X12_villageTold_77 : decode m_X12_villageTold.2.1 77 = .ok (.getfield 317, 3) := by decide +kernel
theorem dd_X12_villageTold_80 : decode m_X12_villageTold.2.1 80 = .ok (.imul, 1) := by decide +kernel
theorem dd_X12_villageTold_81 : decode m_X12_villageTold.2.1 81 = .ok (.iload_n 3, 1) := by decide +kernel
theorem dd_X12_villageTold_82 : decode m_X12_villageTold.2.1 82 = .ok (.iastore, 1) := by decide +kernel
theorem dd_X12_villageTold_83 : decode m_X12_villageTold.2.1 83 = .ok (.aload_n 0, 1) := by decide +kernel
theorem dd_X12_villageTold_84 : decode m_X12_villageTold.2.1 84 = .ok (.getfield 103, 3) := by decide +kernel
theorem dd_X12_villageTold_87 : decode m_X12_villageTold.2.1 87 = .ok (.iconst 2, 1) := by decide +kernel
theorem dd_X12_villageTold_88 : decode m_X12_villageTold.2.1 88 = .ok (.aload_n 0, 1) := by decide +kernel
theorem dd_X12_villageTold_89 : decode m_X12_villageTold.2.1 89 = .ok (.getfield 317, 3) := by decide +kernel
theorem dd_X12_villageTold_92 : decode m_X12_villageTold.2.1 92 = .ok (.imul, 1) := by decide +kernel
theorem dd_X12_villageTold_93 : decode m_X12_villageTold.2.1 93 = .ok (.iconst 1, 1) := by decide +kernel
theorem dd_X12_villageTold_94 : decode m_X12_villageTold.2.1 94 = .ok (.iadd, 1) := by decide +kernel
theorem dd_X12_villageTold_95 : decode m_X12_villageTold.2.1 95 = .ok (.iload 4, 2) := by decide +kernel
theorem dd_X12_villageTold_97 : decode m_X12_villageTold.2.1 97 = .ok (.iastore, 1) := by decide +kernel
theorem dd_X12_villageTold_98 : decode m_X12_villageTold.2.1 98 = .ok (.aload_n 0, 1) := by decide +kernel
theorem dd_X12_villageTold_99 : decode m_X12_villageTold.2.1 99 = .ok (.dup, 1) := by decide +kernel
theorem dd_X12_villageTold_100 : decode m_X12_villageTold.2.1 100 = .ok (.getfield 317, 3) := by decide +kernel
theorem dd_X12_villageTold_103 : decode m_X12_villageTold.2.1 103 = .ok (.iconst 1, 1) := by decide +kernel
theorem dd_X12_villageTold_104 : decode m_X12_villageTold.2.1 104 = .ok (.iadd, 1) := by decide +kernel
theorem dd_X12_villageTold_105 : decode m_X12_villageTold.2.1 105 = .ok (.putfield 317, 3) := by decide +kernel
theorem dd_X12_villageTold_108 : decode m_X12_villageTold.2.1 108 = .ok (.return_, 1) := by decide +kernel
def wp_X12_villageTold  (s : fz_s) (Q : fz_s → Prop) : Prop :=
  wp_X12_asks 201 7 s (fun s2 => wp_X12_newName  s2 (fun r3 s4 => wp_X12_asks 199 7 s4 (fun s6 => wp_X12_number 0 999 s6 (fun r7 s8 => wp_X12_asks 200 7 s8 (fun s10 => wp_X12_number 0 99 s10 (fun r11 s12 => wp_X12_asksSign 59 s12 (fun s14 => (((s14.1 196 5) = 0 → vp_in (s14.1 196 38) 20 ∧ ∀ s15 : fz_s, s15 = sl s14 225 (s14.1 196 38).toNatClampNeg r3 → vp_in (2 * (s15.1 196 38)) 4 ∧ ∀ s16 : fz_s, s16 = si s15 226 (2 * (s15.1 196 38)).toNatClampNeg r7 → vp_in ((2 * (s16.1 196 38)) + 1) 4 ∧ ∀ s17 : fz_s, s17 = si s16 226 ((2 * (s16.1 196 38)) + 1).toNatClampNeg r11 → ∀ s18 : fz_s, s18 = si s17 196 38 ((s17.1 196 38) + 1) → Q s18) ∧ (¬ (s14.1 196 5) = 0 → Q s14)))))))))
set_option maxRecDepth 100000 in
set_option maxHeartbeats 4000000 in
theorem V_X12_villageTold {g : fz_G} {l : Launch} {d : Nat} (hD : 5 ≤ d)   {s : fz_s} {Q : fz_s → Prop} (H : wp_X12_villageTold  s Q) : fs_V g l m_X12_villageTold d false 0 (fz_en [.ref 196] 5) [] s (rV Q) := by
  obtain ⟨d, rfl⟩ : ∃ e, d = e + 1 := ⟨d - 1, by omega⟩
  unfold wp_X12_villageTold at H
  refine fs_aload_n (k0 := 0) (i := 0) dd_X12_villageTold_0 rfl rfl ?_
  refine fs_aload_n (k0 := 0) (i := 0) dd_X12_villageTold_1 rfl rfl ?_
  refine fs_getr (ci := 12) (j := 13) (q := 201) dd_X12_villageTold_2 fl_X12_27 ca_196 rfl (Or.inr ⟨_, rfl⟩) rfl (by decide) ?_
  refine fs_callV (y := m_X12_asks) (as := [.ref 201]) dd_X12_villageTold_5 me_X12_asks lk_X12_323 in_X12_asks se_X12_asks ca_196 rfl rfl rfl (Nat.le_of_ble_eq_true rfl) (Nat.le_of_ble_eq_true rfl) rfl (V_X12_asks (by omega) ca_201 H) (k2_V fun s2 H => ?_)
  refine fs_aload_n (k0 := 0) (i := 0) dd_X12_villageTold_8 rfl rfl ?_
  refine fs_callV (y := m_X12_newName) (as := []) dd_X12_villageTold_9 me_X12_newName lk_X12_327 in_X12_newName se_X12_newName ca_196 rfl rfl rfl (Nat.le_of_ble_eq_true rfl) (Nat.le_of_ble_eq_true rfl) rfl (V_X12_newName (by omega)  H) (k2_L fun r3 s4 H => ?_)
  refine fs_lstore_n (k0 := 1) (i := 1) dd_X12_villageTold_12 rfl (by decide) ?_
  refine fs_aload_n (k0 := 0) (i := 0) dd_X12_villageTold_13 rfl rfl ?_
  refine fs_aload_n (k0 := 0) (i := 0) dd_X12_villageTold_14 rfl rfl ?_
  refine fs_getr (ci := 12) (j := 11) (q := 199) dd_X12_villageTold_15 fl_X12_20 ca_196 rfl (Or.inr ⟨_, rfl⟩) rfl (by decide) ?_
  refine fs_callV (y := m_X12_asks) (as := [.ref 199]) dd_X12_villageTold_18 me_X12_asks lk_X12_323 in_X12_asks se_X12_asks ca_196 rfl rfl rfl (Nat.le_of_ble_eq_true rfl) (Nat.le_of_ble_eq_true rfl) rfl (V_X12_asks (by omega) ca_199 H) (k2_V fun s6 H => ?_)
  refine fs_aload_n (k0 := 0) (i := 0) dd_X12_villageTold_21 rfl rfl ?_
  refine fs_iconst (n := 0) (v := 0) dd_X12_villageTold_22 (by decide) ?_
  refine fs_sipush (n := 999) (v := 999) dd_X12_villageTold_23 (by decide) ?_
  refine fs_callV (y := m_X12_number) (as := [.int 0, .int 999]) dd_X12_villageTold_26 me_X12_number lk_X12_330 in_X12_number se_X12_number ca_196 rfl rfl rfl (Nat.le_of_ble_eq_true rfl) (Nat.le_of_ble_eq_true rfl) rfl (V_X12_number (by omega)  H) (k2_I fun r7 s8 H => ?_)
  refine fs_istore_n (k0 := 3) (i := 3) dd_X12_villageTold_29 rfl (by decide) ?_
  refine fs_aload_n (k0 := 0) (i := 0) dd_X12_villageTold_30 rfl rfl ?_
  refine fs_aload_n (k0 := 0) (i := 0) dd_X12_villageTold_31 rfl rfl ?_
  refine fs_getr (ci := 12) (j := 12) (q := 200) dd_X12_villageTold_32 fl_X12_24 ca_196 rfl (Or.inr ⟨_, rfl⟩) rfl (by decide) ?_
  refine fs_callV (y := m_X12_asks) (as := [.ref 200]) dd_X12_villageTold_35 me_X12_asks lk_X12_323 in_X12_asks se_X12_asks ca_196 rfl rfl rfl (Nat.le_of_ble_eq_true rfl) (Nat.le_of_ble_eq_true rfl) rfl (V_X12_asks (by omega) ca_200 H) (k2_V fun s10 H => ?_)
  refine fs_aload_n (k0 := 0) (i := 0) dd_X12_villageTold_38 rfl rfl ?_
  refine fs_iconst (n := 0) (v := 0) dd_X12_villageTold_39 (by decide) ?_
  refine fs_bipush (n := 99) (v := 99) dd_X12_villageTold_40 (by decide) ?_
  refine fs_callV (y := m_X12_number) (as := [.int 0, .int 99]) dd_X12_villageTold_42 me_X12_number lk_X12_330 in_X12_number se_X12_number ca_196 rfl rfl rfl (Nat.le_of_ble_eq_true rfl) (Nat.le_of_ble_eq_true rfl) rfl (V_X12_number (by omega)  H) (k2_I fun r11 s12 H => ?_)
  refine fs_istore (i := 4) dd_X12_villageTold_45 (by decide) ?_
  refine fs_aload_n (k0 := 0) (i := 0) dd_X12_villageTold_47 rfl rfl ?_
  refine fs_bipush (n := 59) (v := 59) dd_X12_villageTold_48 (by decide) ?_
  refine fs_callV (y := m_X12_asksSign) (as := [.int 59]) dd_X12_villageTold_50 me_X12_asksSign lk_X12_334 in_X12_asksSign se_X12_asksSign ca_196 rfl rfl rfl (Nat.le_of_ble_eq_true rfl) (Nat.le_of_ble_eq_true rfl) rfl (V_X12_asksSign (by omega)  H) (k2_V fun s14 H => ?_)
  refine fs_aload_n (k0 := 0) (i := 0) dd_X12_villageTold_53 rfl rfl ?_
  refine fs_geti (ci := 12) (j := 5) dd_X12_villageTold_54 fl_X12_252 ca_196 rfl (Or.inl rfl) ?_
  refine fs_if_eq (tgt := 61) dd_X12_villageTold_57 (by decide) (fun hc => ?_) (fun hc => ?_)
  · replace H := H.1 hc
    refine fs_aload_n (k0 := 0) (i := 0) dd_X12_villageTold_61 rfl rfl ?_
    refine fs_getr (ci := 12) (j := 41) (q := 225) dd_X12_villageTold_62 fl_X12_99 ca_196 rfl (Or.inr ⟨_, rfl⟩) rfl (by decide) ?_
    refine fs_aload_n (k0 := 0) (i := 0) dd_X12_villageTold_65 rfl rfl ?_
    refine fs_geti (ci := 12) (j := 38) dd_X12_villageTold_66 fl_X12_317 ca_196 rfl (Or.inl rfl) ?_
    refine fs_lload_n (k0 := 1) (i := 1) dd_X12_villageTold_69 rfl rfl ?_
    have hb := H.1
    replace H := H.2
    refine fs_last dd_X12_villageTold_70 ca_225 hb ?_
    refine fs_tops (fun s15 hs15 => ?_)
    replace H := H s15 hs15
    refine fs_aload_n (k0 := 0) (i := 0) dd_X12_villageTold_71 rfl rfl ?_
    refine fs_getr (ci := 12) (j := 42) (q := 226) dd_X12_villageTold_72 fl_X12_103 ca_196 rfl (Or.inr ⟨_, rfl⟩) rfl (by decide) ?_
    refine fs_iconst (n := 2) (v := 2) dd_X12_villageTold_75 (by decide) ?_
    refine fs_aload_n (k0 := 0) (i := 0) dd_X12_villageTold_76 rfl rfl ?_
    refine fs_geti (ci := 12) (j := 38) dd_X12_villageTold_77 fl_X12_317 ca_196 rfl (Or.inl rfl) ?_
    refine fs_imul dd_X12_villageTold_80 ?_
    refine fs_iload_n (k0 := 3) (i := 3) dd_X12_villageTold_81 rfl rfl ?_
    have hb := H.1
    replace H := H.2
    refine fs_iast dd_X12_villageTold_82 ca_226 hb ?_
    refine fs_tops (fun s16 hs16 => ?_)
    replace H := H s16 hs16
    refine fs_aload_n (k0 := 0) (i := 0) dd_X12_villageTold_83 rfl rfl ?_
    refine fs_getr (ci := 12) (j := 42) (q := 226) dd_X12_villageTold_84 fl_X12_103 ca_196 rfl (Or.inr ⟨_, rfl⟩) rfl (by decide) ?_
    refine fs_iconst (n := 2) (v := 2) dd_X12_villageTold_87 (by decide) ?_
    refine fs_aload_n (k0 := 0) (i := 0) dd_X12_villageTold_88 rfl rfl ?_
    refine fs_geti (ci := 12) (j := 38) dd_X12_villageTold_89 fl_X12_317 ca_196 rfl (Or.inl rfl) ?_
    refine fs_imul dd_X12_villageTold_92 ?_
    refine fs_iconst (n := 1) (v := 1) dd_X12_villageTold_93 (by decide) ?_
    refine fs_iadd dd_X12_villageTold_94 ?_
    refine fs_iload (i := 4) dd_X12_villageTold_95 rfl ?_
    have hb := H.1
    replace H := H.2
    refine fs_iast dd_X12_villageTold_97 ca_226 hb ?_
    refine fs_tops (fun s17 hs17 => ?_)
    replace H := H s17 hs17
    refine fs_aload_n (k0 := 0) (i := 0) dd_X12_villageTold_98 rfl rfl ?_
    refine fs_dup dd_X12_villageTold_99 rfl ?_
    refine fs_geti (ci := 12) (j := 38) dd_X12_villageTold_100 fl_X12_317 ca_196 rfl (Or.inl rfl) ?_
    refine fs_iconst (n := 1) (v := 1) dd_X12_villageTold_103 (by decide) ?_
    refine fs_iadd dd_X12_villageTold_104 ?_
    refine fs_puti (ci := 12) (j := 38) dd_X12_villageTold_105 fl_X12_317 (fun _ _ _ h => by cases h; rfl) ca_196 rfl (Or.inl rfl) ?_
    refine fs_tops (fun s18 hs18 => ?_)
    replace H := H s18 hs18
    exact fs_vret dd_X12_villageTold_108 rfl H
  · replace H := H.2 hc
    exact fs_vret dd_X12_villageTold_60 rfl H
theorem dd_X12_personTold_0 : decode m_X12_personTold.2.1 0 = .ok (.aload_n 0, 1) := by decide +kernel
theorem dd_X12_personTold_1 : decode m_X12_personTold.2.1 1 = .ok (.getfield 252, 3) := by decide +kernel
theorem dd_X12_personTold_4 : decode m_X12_personTold.2.1 4 = .ok (.ifCond .ne 18, 3) := by decide +kernel
theorem dd_X12_personTold_7 : decode m_X12_personTold.2.1 7 = .ok (.aload_n 0, 1) := by decide +kernel
theorem dd_X12_personTold_8 : decode m_X12_personTold.2.1 8 = .ok (.getfield 320, 3) := by decide +kernel
theorem dd_X12_personTold_11 : decode m_X12_personTold.2.1 11 = .ok (.bipush 8, 2) := by decide +kernel
theorem dd_X12_personTold_13 : decode m_X12_personTold.2.1 13 = .ok (.if_icmp .ne 9, 3) := by decide +kernel
theorem dd_X12_personTold_16 : decode m_X12_personTold.2.1 16 = .ok (.aload_n 0, 1) := by decide +kernel
theorem dd_X12_personTold_17 : decode m_X12_personTold.2.1 17 = .ok (.iconst 5, 1) := by decide +kernel
theorem dd_X12_personTold_18 : decode m_X12_personTold.2.1 18 = .ok (.iload_n 1, 1) := by decide +kernel
theorem dd_X12_personTold_19 : decode m_X12_personTold.2.1 19 = .ok (.invokevirtual 282, 3) := by decide +kernel
theorem dd_X12_personTold_22 : decode m_X12_personTold.2.1 22 = .ok (.aload_n 0, 1) := by decide +kernel
theorem dd_X12_personTold_23 : decode m_X12_personTold.2.1 23 = .ok (.getfield 252, 3) := by decide +kernel
theorem dd_X12_personTold_26 : decode m_X12_personTold.2.1 26 = .ok (.ifCond .eq 4, 3) := by decide +kernel
theorem dd_X12_personTold_29 : decode m_X12_personTold.2.1 29 = .ok (.return_, 1) := by decide +kernel
theorem dd_X12_personTold_30 : decode m_X12_personTold.2.1 30 = .ok (.aload_n 0, 1) := by decide +kernel
theorem dd_X12_personTold_31 : decode m_X12_personTold.2.1 31 = .ok (.invokevirtual 327, 3) := by decide +kernel
theorem dd_X12_personTold_34 : decode m_X12_personTold.2.1 34 = .ok (.lstore_n 2, 1) := by decide +kernel
theorem dd_X12_personTold_35 : decode m_X12_personTold.2.1 35 = .ok (.aload_n 0, 1) := by decide +kernel
theorem dd_X12_personTold_36 : decode m_X12_personTold.2.1 36 = .ok (.aload_n 0, 1) := by decide +kernel
theorem dd_X12_personTold_37 : decode m_X12_personTold.2.1 37 = .ok (.getfield 33, 3) := by decide +kernel
theorem dd_X12_personTold_40 : decode m_X12_personTold.2.1 40 = .ok (.invokevirtual 323, 3) := by decide +kernel
theorem dd_X12_personTold_43 : decode m_X12_personTold.2.1 43 = .ok (.aload_n 0, 1) := by decide +kernel
theorem dd_X12_personTold_44 : decode m_X12_personTold.2.1 44 = .ok (.invokevirtual 313, 3) := by decide +kernel
theorem dd_X12_personTold_47 : decode m_X12_personTold.2.1 47 = .ok (.lstore 4, 2) := by decide +kernel
theorem dd_X12_personTold_49 : decode m_X12_personTold.2.1 49 = .ok (.lload 4, 2) := by decide +kernel
theorem dd_X12_personTold_51 : decode m_X12_personTold.2.1 51 = .ok (.aload_n 0, 1) := by decide +kernel
theorem dd_X12_personTold_52 : decode m_X12_personTold.2.1 52 = .ok (.getfield 99, 3) := by decide +kernel
theorem dd_X12_personTold_55 : decode m_X12_personTold.2.1 55 = .ok (.iconst 0, 1) := by decide +kernel
theorem dd_X12_personTold_56 : decode m_X12_personTold.2.1 56 = .ok (.laload, 1) := by decide +kernel
theorem dd_X12_personTold_57 : decode m_X12_personTold.2.1 57 = .ok (.lcmp, 1) := by decide +kernel
theorem dd_X12_personTold_58 : decode m_X12_personTold.2.1 58 = .ok (.ifCond .ne 7, 3) := by decide +kernel
theorem dd_X12_personTold_61 : decode m_X12_personTold.2.1 61 = .ok (.iconst 0, 1) := by decide +kernel
theorem dd_X12_personTold_62 : decode m_X12_personTold.2.1 62 = .ok (.goto 4, 3) := by decide +kernel
theorem dd_X12_personTold_65 : decode m_X12_personTold.2.1 65 = .ok (.iconst 1, 1) := by decide +kernel
theorem dd_X12_personTold_66 : decode m_X12_personTold.2.1 66 = .ok (.istore 6, 2) := by decide +kernel
theorem dd_X12_personTold_68 : decode m_X12_personTold.2.1 68 = .ok (.aload_n 0, 1) := by decide +kernel
theorem dd_X12_personTold_69 : decode m_X12_personTold.2.1 69 = .ok (.getfield 252, 3) := by decide +kernel
theorem dd_X12_personTold_72 : decode m_X12_personTold.2.1 72 = .ok (.ifCond .ne 25, 3) := by decide +kernel
theorem dd_X12_personTold_75 : decode m_X12_personTold.2.1 75 = .ok (.lload 4, 2) := by decide +kernel
theorem dd_X12_personTold_77 : decode m_X12_personTold.2.1 77 = .ok (.aload_n 0, 1) := by decide +kernel
theorem dd_X12_personTold_78 : decode m_X12_personTold.2.1 78 = .ok (.getfield 99, 3) := by decide +kernel
theorem dd_X12_personTold_81 : decode m_X12_personTold.2.1 81 = .ok (.iload 6, 2) := by decide +kernel
theorem dd_X12_personTold_83 : decode m_X12_personTold.2.1 83 = .ok (.laload, 1) := by decide +kernel
theorem dd_X12_personTold_84 : decode m_X12_personTold.2.1 84 = .ok (.lcmp, 1) := by decide +kernel
theorem dd_X12_personTold_85 : decode m_X12_personTold.2.1 85 = .ok (.ifCond .eq 12, 3) := by decide +kernel
theorem dd_X12_personTold_88 : decode m_X12_personTold.2.1 88 = .ok (.aload_n 0, 1) := by decide +kernel
theorem dd_X12_personTold_89 : decode m_X12_personTold.2.1 89 = .ok (.iconst 3, 1) := by decide +kernel
theorem dd_X12_personTold_90 : decode m_X12_personTold.2.1 90 = .ok (.aload_n 0, 1) := by decide +kernel
theorem dd_X12_personTold_91 : decode m_X12_personTold.2.1 91 = .ok (.getfield 303, 3) := by decide +kernel
theorem dd_X12_personTold_94 : decode m_X12_personTold.2.1 94 = .ok (.invokevirtual 282, 3) := by decide +kernel
theorem dd_X12_personTold_97 : decode m_X12_personTold.2.1 97 = .ok (.aload_n 0, 1) := by decide +kernel
theorem dd_X12_personTold_98 : decode m_X12_personTold.2.1 98 = .ok (.aload_n 0, 1) := by decide +kernel
theorem dd_X12_personTold_99 : decode m_X12_personTold.2.1 99 = .ok (.getfield 36, 3) := by decide +kernel
theorem dd_X12_personTold_102 : decode m_X12_personTold.2.1 102 = .ok (.invokevirtual 323, 3) := by decide +kernel
theorem dd_X12_personTold_105 : decode m_X12_personTold.2.1 105 = .ok (.aload_n 0, 1) := by decide +kernel
theorem dd_X12_personTold_106 : decode m_X12_personTold.2.1 106 = .ok (.iconst 0, 1) := by decide +kernel
theorem dd_X12_personTold_107 : decode m_X12_personTold.2.1 107 = .ok (.bipush 9, 2) := by decide +kernel
theorem dd_X12_personTold_109 : decode m_X12_personTold.2.1 109 = .ok (.invokevirtual 330, 3) := by decide +kernel
theorem dd_X12_personTold_112 : decode m_X12_personTold.2.1 112 = .ok (.istore 7, 2) := by decide +kernel
theorem dd_X12_personTold_114 : decode m_X12_personTold.2.1 114 = .ok (.aload_n 0, 1) := by decide +kernel
theorem dd_X12_personTold_115 : decode m_X12_personTold.2.1 115 = .ok (.aload_n 0, 1) := by decide +kernel
theorem dd_X12_personTold_116 : decode m_X12_personTold.2.1 116 = .ok (.getfield 39, 3) := by decide +kernel
theorem dd_X12_personTold_119 : decode m_X12_personTold.2.1 119 = .ok (.invokevirtual 323, 3) := by decide +kernel
theorem dd_X12_personTold_122 : decode m_X12_personTold.2.1 122 = .ok (.aload_n 0, 1) := by decide +kernel
theorem dd_X12_personTold_123 : decode m_X12_personTold.2.1 123 = .ok (.iconst 0, 1) := by decide +kernel
theorem dd_X12_personTold_124 : decode m_X12_personTold.2.1 124 = .ok (.bipush 9, 2) := by decide +kernel
theorem dd_X12_personTold_126 : decode m_X12_personTold.2.1 126 = .ok (.invokevirtual 330, 3) := by decide +kernel
theorem dd_X12_personTold_129 : decode m_X12_personTold.2.1 129 = .ok (.istore 8, 2) := by decide +kernel
theorem dd_X12_personTold_131 : decode m_X12_personTold.2.1 131 = .ok (.aload_n 0, 1) := by decide +kernel
theorem dd_X12_personTold_132 : decode m_X12_personTold.2.1 132 = .ok (.aload_n 0, 1) := by decide +kernel
theorem dd_X12_personTold_133 : decode m_X12_personTold.2.1 133 = .ok (.getfield 42, 3) := by decide +kernel
theorem dd_X12_personTold_136 : decode m_X12_personTold.2.1 136 = .ok (.invokevirtual 323, 3) := by decide +kernel
theorem dd_X12_personTold_139 : decode m_X12_personTold.2.1 139 = .ok (.aload_n 0, 1) := by decide +kernel
theorem dd_X12_personTold_140 : decode m_X12_personTold.2.1 140 = .ok (.iconst 0, 1) := by decide +kernel
theorem dd_X12_personTold_141 : decode m_X12_personTold.2.1 141 = .ok (.bipush 9, 2) := by decide +kernel
theorem dd_X12_personTold_143 : decode m_X12_personTold.2.1 143 = .ok (.invokevirtual 330, 3) := by decide +kernel
theorem dd_X12_personTold_146 : decode m_X12_personTold.2.1 146 = .ok (.istore 9, 2) := by decide +kernel
theorem dd_X12_personTold_148 : decode m_X12_personTold.2.1 148 = .ok (.aload_n 0, 1) := by decide +kernel
theorem dd_X12_personTold_149 : decode m_X12_personTold.2.1 149 = .ok (.getfield 252, 3) := by decide +kernel
theorem dd_X12_personTold_152 : decode m_X12_personTold.2.1 152 = .ok (.ifCond .eq 4, 3) := by decide +kernel
theorem dd_X12_personTold_155 : decode m_X12_personTold.2.1 155 = .ok (.return_, 1) := by decide +kernel
theorem dd_X12_personTold_156 : decode m_X12_personTold.2.1 156 = .ok (.aload_n 0, 1) := by decide +kernel
theorem dd_X12_personTold_157 : decode m_X12_personTold.2.1 157 = .ok (.getfield 320, 3) := by decide +kernel
theorem dd_X12_personTold_160 : decode m_X12_personTold.2.1 160 = .ok (.istore 10, 2) := by decide +kernel
theorem dd_X12_personTold_162 : decode m_X12_personTold.2.1 162 = .ok (.aload_n 0, 1) := by decide +kernel
theorem dd_X12_personTold_163 : decode m_X12_personTold.2.1 163 = .ok (.getfield 99, 3) := by decide +kernel
theorem dd_X12_personTold_166 : decode m_X12_personTold.2.1 166 = .ok (.iconst 2, 1) := by decide +kernel
theorem dd_X12_personTold_167 : decode m_X12_personTold.2.1 167 = .ok (.iload 10, 2) := by decide +kernel
theorem dd_X12_personTold_169 : decode m_X12_personTold.2.1 169 = .ok (.iadd, 1) := by decide +kernel
theorem dd_X12_personTold_170 : decode m_X12_personTold.2.1 170 = .ok (.lload_n 2, 1) := by decide +kernel
theorem dd_X12_personTold_171 : decode m_X12_personTold.2.1 171 = .ok (.lastore, 1) := by decide +kernel
theorem dd_X12_personTold_172 : decode m_X12_personTold.2.1 172 = .ok (.aload_n 0, 1) := by decide +kernel
theorem dd_X12_personTold_173 : decode m_X12_personTold.2.1 173 = .ok (.getfield 106, 3) := by decide +kernel
theorem dd_X12_personTold_176 : decode m_X12_personTold.2.1 176 = .ok (.iconst 3, 1) := by decide +kernel
theorem dd_X12_personTold_177 : decode m_X12_personTold.2.1 177 = .ok (.iload 10, 2) := by decide +kernel
theorem dd_X12_personTold_179 : decode m_X12_personTold.2.1 179 = .ok (.imul, 1) := by decide +kernel
theorem dd_X12_personTold_180 : decode m_X12_personTold.2.1 180 = .ok (.iload 6, 2) := by decide +kernel
theorem dd_X12_personTold_182 : decode m_X12_personTold.2.1 182 = .ok (.iastore, 1) := by decide +kernel
theorem dd_X12_personTold_183 : decode m_X12_personTold.2.1 183 = .ok (.aload_n 0, 1) := by decide +kernel
theorem dd_X12_personTold_184 : decode m_X12_personTold.2.1 184 = .ok (.getfield 106, 3) := by decide +kernel
theorem dd_X12_personTold_187 : decode m_X12_personTold.2.1 187 = .ok (.iconst 3, 1) := by decide +kernel
theorem dd_X12_personTold_188 : decode m_X12_personTold.2.1 188 = .ok (.iload 10, 2) := by decide +kernel
theorem dd_X12_personTold_190 : decode m_X12_personTold.2.1 190 = .ok (.imul, 1) := by decide +kernel
theorem dd_X12_personTold_191 : decode m_X12_personTold.2.1 191 = .ok (.iconst 1, 1) := by decide +kernel
theorem dd_X12_personTold_192 : decode m_X12_personTold.2.1 192 = .ok (.iadd, 1) := by decide +kernel
theorem dd_X12_personTold_193 : decode m_X12_personTold.2.1 193 = .ok (.iload 8, 2) := by decide +kernel
theorem dd_X12_personTold_195 : decode m_X12_personTold.2.1 195 = .ok (.iastore, 1) := by decide +kernel
theorem dd_X12_personTold_196 : decode m_X12_personTold.2.1 196 = .ok (.aload_n 0, 1) := by decide +kernel
theorem dd_X12_personTold_197 : decode m_X12_personTold.2.1 197 = .ok (.getfield 106, 3) := by decide +kernel
theorem dd_X12_personTold_200 : decode m_X12_personTold.2.1 200 = .ok (.iconst 3, 1) := by decide +kernel
theorem dd_X12_personTold_201 : decode m_X12_personTold.2.1 201 = .ok (.iload 10, 2) := by decide +kernel
theorem dd_X12_personTold_203 : decode m_X12_personTold.2.1 203 = .ok (.imul, 1) := by decide +kernel
theorem dd_X12_personTold_204 : decode m_X12_personTold.2.1 204 = .ok (.iconst 2, 1) := by decide +kernel
theorem dd_X12_personTold_205 : decode m_X12_personTold.2.1 205 = .ok (.iadd, 1) := by decide +kernel
theorem dd_X12_personTold_206 : decode m_X12_personTold.2.1 206 = .ok (.iload 9, 2) := by decide +kernel
theorem dd_X12_personTold_208 : decode m_X12_personTold.2.1 208 = .ok (.iastore, 1) := by decide +kernel
theorem dd_X12_personTold_209 : decode m_X12_personTold.2.1 209 = .ok (.aload_n 0, 1) := by decide +kernel
theorem dd_X12_personTold_210 : decode m_X12_personTold.2.1 210 = .ok (.getfield 109, 3) := by decide +kernel
theorem dd_X12_personTold_213 : decode m_X12_personTold.2.1 213 = .ok (.iload 10, 2) := by decide +kernel
theorem dd_X12_personTold_215 : decode m_X12_personTold.2.1 215 = .ok (.iload 7, 2) := by decide +kernel
theorem dd_X12_personTold_217 : decode m_X12_personTold.2.1 217 = .ok (.iastore, 1) := by decide +kernel
theorem dd_X12_personTold_218 : decode m_X12_personTold.2.1 218 = .ok (.aload_n 0, 1) := by decide +kernel
theorem dd_X12_personTold_219 : decode m_X12_personTold.2.1 219 = .ok (.dup, 1) := by decide +kernel
theorem dd_X12_personTold_220 : decode m_X12_personTold.2.1 220 = .ok (.getfield 320, 3) := by decide +kernel
theorem dd_X12_personTold_223 : decode m_X12_personTold.2.1 223 = .ok (.iconst 1, 1) := by decide +kernel
theorem dd_X12_personTold_224 : decode m_X12_personTold.2.1 224 = .ok (.iadd, 1) := by decide +kernel
theorem dd_X12_personTold_225 : decode m_X12_personTold.2.1 225 = .ok (.putfield 320, 3) := by decide +kernel
theorem dd_X12_personTold_228 : decode m_X12_personTold.2.1 228 = .ok (.return_, 1) := by decide +kernel
def nd_X12_personTold_97   (Q : fz_s → Prop) (v2 : Int64) (v6 : Bool) (s : fz_s) : Prop :=
  wp_X12_asks 204 4 s (fun s2 => wp_X12_number 0 9 s2 (fun r3 s4 => wp_X12_asks 205 4 s4 (fun s6 => wp_X12_number 0 9 s6 (fun r7 s8 => wp_X12_asks 206 5 s8 (fun s10 => wp_X12_number 0 9 s10 (fun r11 s12 => (((s12.1 196 5) = 0 → ∀ x13 : Int32, x13 = (s12.1 196 39) → vp_in (2 + x13) 20 ∧ ∀ s14 : fz_s, s14 = sl s12 225 (2 + x13).toNatClampNeg v2 → vp_in (3 * x13) 48 ∧ ∀ s15 : fz_s, s15 = si s14 227 (3 * x13).toNatClampNeg (bi v6) → vp_in ((3 * x13) + 1) 48 ∧ ∀ s16 : fz_s, s16 = si s15 227 ((3 * x13) + 1).toNatClampNeg r7 → vp_in ((3 * x13) + 2) 48 ∧ ∀ s17 : fz_s, s17 = si s16 227 ((3 * x13) + 2).toNatClampNeg r11 → vp_in x13 8 ∧ ∀ s18 : fz_s, s18 = si s17 228 x13.toNatClampNeg r3 → ∀ s19 : fz_s, s19 = si s18 196 39 ((s18.1 196 39) + 1) → Q s19) ∧ (¬ (s12.1 196 5) = 0 → Q s12))))))))
def nd_X12_personTold_66   (Q : fz_s → Prop) (v2 : Int64) (v4 : Int64) (u0 : Bool) (s : fz_s) : Prop :=
  ((¬ (s.1 196 5) = 0 → nd_X12_personTold_97   Q v2 u0 s) ∧ ((s.1 196 5) = 0 → vp_in (bi u0) 20 ∧ (((lg_cmp v4 (s.2.1 225 (bi u0).toNatClampNeg)) = 0 → nd_X12_personTold_97   Q v2 u0 s) ∧ (¬ (lg_cmp v4 (s.2.1 225 (bi u0).toNatClampNeg)) = 0 → wp_X12_fail 3 (s.1 196 37) s (fun s2 => nd_X12_personTold_97   Q v2 u0 s2)))))
def nd_X12_personTold_22   (Q : fz_s → Prop)  (s : fz_s) : Prop :=
  (((s.1 196 5) = 0 → wp_X12_newName  s (fun r1 s2 => wp_X12_asks 203 2 s2 (fun s4 => wp_X12_name  s4 (fun r5 s6 => ((¬ (lg_cmp r5 (s6.2.1 225 (0 : Int32).toNatClampNeg)) = 0 → nd_X12_personTold_66   Q r1 r5 true s6) ∧ ((lg_cmp r5 (s6.2.1 225 (0 : Int32).toNatClampNeg)) = 0 → nd_X12_personTold_66   Q r1 r5 false s6)))))) ∧ (¬ (s.1 196 5) = 0 → Q s))
def wp_X12_personTold (p0 : Int32) (s : fz_s) (Q : fz_s → Prop) : Prop :=
  ((¬ (s.1 196 5) = 0 → nd_X12_personTold_22   Q  s) ∧ ((s.1 196 5) = 0 → ((¬ (s.1 196 39) = 8 → nd_X12_personTold_22   Q  s) ∧ ((s.1 196 39) = 8 → wp_X12_fail 5 p0 s (fun s2 => nd_X12_personTold_22   Q  s2)))))
set_option maxRecDepth 100000 in
set_option maxHeartbeats 4000000 in
theorem V_nd_X12_personTold_97 {g : fz_G} {l : Launch} {d : Nat} (hD : 5 ≤ d)    {Q : fz_s → Prop} {v2 : Int64} {v6 : Bool} {s : fz_s}  (H : nd_X12_personTold_97   Q v2 v6 s) : fs_V g l m_X12_personTold d false 97 [.ref 196, fz_J, .long v2, fz_J, fz_J, fz_J, .int (bi v6), fz_J, fz_J, fz_J, fz_J] [] s (rV Q) := by
  obtain ⟨d, rfl⟩ : ∃ e, d = e + 1 := ⟨d - 1, by omega⟩
  unfold nd_X12_personTold_97 at H
  refine fs_aload_n (k0 := 0) (i := 0) dd_X12_personTold_97 rfl rfl ?_
  refine fs_aload_n (k0 := 0) (i := 0) dd_X12_personTold_98 rfl rfl ?_
  refine fs_getr (ci := 12) (j := 16) (q := 204) dd_X12_personTold_99 fl_X12_36 ca_196 rfl (Or.inr ⟨_, rfl⟩) rfl (by decide) ?_
  refine fs_callV (y := m_X12_asks) (as := [.ref 204]) dd_X12_personTold_102 me_X12_asks lk_X12_323 in_X12_asks se_X12_asks ca_196 rfl rfl rfl (Nat.le_of_ble_eq_true rfl) (Nat.le_of_ble_eq_true rfl) rfl (V_X12_asks (by omega) ca_204 H) (k2_V fun s2 H => ?_)
  refine fs_aload_n (k0 := 0) (i := 0) dd_X12_personTold_105 rfl rfl ?_
  refine fs_iconst (n := 0) (v := 0) dd_X12_personTold_106 (by decide) ?_
  refine fs_bipush (n := 9) (v := 9) dd_X12_personTold_107 (by decide) ?_
  refine fs_callV (y := m_X12_number) (as := [.int 0, .int 9]) dd_X12_personTold_109 me_X12_number lk_X12_330 in_X12_number se_X12_number ca_196 rfl rfl rfl (Nat.le_of_ble_eq_true rfl) (Nat.le_of_ble_eq_true rfl) rfl (V_X12_number (by omega)  H) (k2_I fun r3 s4 H => ?_)
  refine fs_istore (i := 7) dd_X12_personTold_112 (by decide) ?_
  refine fs_aload_n (k0 := 0) (i := 0) dd_X12_personTold_114 rfl rfl ?_
  refine fs_aload_n (k0 := 0) (i := 0) dd_X12_personTold_115 rfl rfl ?_
  refine fs_getr (ci := 12) (j := 17) (q := 205) dd_X12_personTold_116 fl_X12_39 ca_196 rfl (Or.inr ⟨_, rfl⟩) rfl (by decide) ?_
  refine fs_callV (y := m_X12_asks) (as := [.ref 205]) dd_X12_personTold_119 me_X12_asks lk_X12_323 in_X12_asks se_X12_asks ca_196 rfl rfl rfl (Nat.le_of_ble_eq_true rfl) (Nat.le_of_ble_eq_true rfl) rfl (V_X12_asks (by omega) ca_205 H) (k2_V fun s6 H => ?_)
  refine fs_aload_n (k0 := 0) (i := 0) dd_X12_personTold_122 rfl rfl ?_
  refine fs_iconst (n := 0) (v := 0) dd_X12_personTold_123 (by decide) ?_
  refine fs_bipush (n := 9) (v := 9) dd_X12_personTold_124 (by decide) ?_
  refine fs_callV (y := m_X12_number) (as := [.int 0, .int 9]) dd_X12_personTold_126 me_X12_number lk_X12_330 in_X12_number se_X12_number ca_196 rfl rfl rfl (Nat.le_of_ble_eq_true rfl) (Nat.le_of_ble_eq_true rfl) rfl (V_X12_number (by omega)  H) (k2_I fun r7 s8 H => ?_)
  refine fs_istore (i := 8) dd_X12_personTold_129 (by decide) ?_
  refine fs_aload_n (k0 := 0) (i := 0) dd_X12_personTold_131 rfl rfl ?_
  refine fs_aload_n (k0 := 0) (i := 0) dd_X12_personTold_132 rfl rfl ?_
  refine fs_getr (ci := 12) (j := 18) (q := 206) dd_X12_personTold_133 fl_X12_42 ca_196 rfl (Or.inr ⟨_, rfl⟩) rfl (by decide) ?_
  refine fs_callV (y := m_X12_asks) (as := [.ref 206]) dd_X12_personTold_136 me_X12_asks lk_X12_323 in_X12_asks se_X12_asks ca_196 rfl rfl rfl (Nat.le_of_ble_eq_true rfl) (Nat.le_of_ble_eq_true rfl) rfl (V_X12_asks (by omega) ca_206 H) (k2_V fun s10 H => ?_)
  refine fs_aload_n (k0 := 0) (i := 0) dd_X12_personTold_139 rfl rfl ?_
  refine fs_iconst (n := 0) (v := 0) dd_X12_personTold_140 (by decide) ?_
  refine fs_bipush (n := 9) (v := 9) dd_X12_personTold_141 (by decide) ?_
  refine fs_callV (y := m_X12_number) (as := [.int 0, .int 9]) dd_X12_personTold_143 me_X12_number lk_X12_330 in_X12_number se_X12_number ca_196 rfl rfl rfl (Nat.le_of_ble_eq_true rfl) (Nat.le_of_ble_eq_true rfl) rfl (V_X12_number (by omega)  H) (k2_I fun r11 s12 H => ?_)
  refine fs_istore (i := 9) dd_X12_personTold_146 (by decide) ?_
  refine fs_aload_n (k0 := 0) (i := 0) dd_X12_personTold_148 rfl rfl ?_
  refine fs_geti (ci := 12) (j := 5) dd_X12_personTold_149 fl_X12_252 ca_196 rfl (Or.inl rfl) ?_
  refine fs_if_eq (tgt := 156) dd_X12_personTold_152 (by decide) (fun hc => ?_) (fun hc => ?_)
  · replace H := H.1 hc
    refine fs_aload_n (k0 := 0) (i := 0) dd_X12_personTold_156 rfl rfl ?_
    refine fs_geti (ci := 12) (j := 39) dd_X12_personTold_157 fl_X12_320 ca_196 rfl (Or.inl rfl) ?_
    refine fs_topi (fun x13 hx13 => ?_)
    replace H := H x13 hx13
    refine fs_istore (i := 10) dd_X12_personTold_160 (by decide) ?_
    refine fs_aload_n (k0 := 0) (i := 0) dd_X12_personTold_162 rfl rfl ?_
    refine fs_getr (ci := 12) (j := 41) (q := 225) dd_X12_personTold_163 fl_X12_99 ca_196 rfl (Or.inr ⟨_, rfl⟩) rfl (by decide) ?_
    refine fs_iconst (n := 2) (v := 2) dd_X12_personTold_166 (by decide) ?_
    refine fs_iload (i := 10) dd_X12_personTold_167 rfl ?_
    refine fs_iadd dd_X12_personTold_169 ?_
    refine fs_lload_n (k0 := 2) (i := 2) dd_X12_personTold_170 rfl rfl ?_
    have hb := H.1
    replace H := H.2
    refine fs_last dd_X12_personTold_171 ca_225 hb ?_
    refine fs_tops (fun s14 hs14 => ?_)
    replace H := H s14 hs14
    refine fs_aload_n (k0 := 0) (i := 0) dd_X12_personTold_172 rfl rfl ?_
    refine fs_getr (ci := 12) (j := 43) (q := 227) dd_X12_personTold_173 fl_X12_106 ca_196 rfl (Or.inr ⟨_, rfl⟩) rfl (by decide) ?_
    refine fs_iconst (n := 3) (v := 3) dd_X12_personTold_176 (by decide) ?_
    refine fs_iload (i := 10) dd_X12_personTold_177 rfl ?_
    refine fs_imul dd_X12_personTold_179 ?_
    refine fs_iload (i := 6) dd_X12_personTold_180 rfl ?_
    have hb := H.1
    replace H := H.2
    refine fs_iast dd_X12_personTold_182 ca_227 hb ?_
    refine fs_tops (fun s15 hs15 => ?_)
    replace H := H s15 hs15
    refine fs_aload_n (k0 := 0) (i := 0) dd_X12_personTold_183 rfl rfl ?_
    refine fs_getr (ci := 12) (j := 43) (q := 227) dd_X12_personTold_184 fl_X12_106 ca_196 rfl (Or.inr ⟨_, rfl⟩) rfl (by decide) ?_
    refine fs_iconst (n := 3) (v := 3) dd_X12_personTold_187 (by decide) ?_
    refine fs_iload (i := 10) dd_X12_personTold_188 rfl ?_
    refine fs_imul dd_X12_personTold_190 ?_
    refine fs_iconst (n := 1) (v := 1) dd_X12_personTold_191 (by decide) ?_
    refine fs_iadd dd_X12_personTold_192 ?_
    refine fs_iload (i := 8) dd_X12_personTold_193 rfl ?_
    have hb := H.1
    replace H := H.2
    refine fs_iast dd_X12_personTold_195 ca_227 hb ?_
    refine fs_tops (fun s16 hs16 => ?_)
    replace H := H s16 hs16
    refine fs_aload_n (k0 := 0) (i := 0) dd_X12_personTold_196 rfl rfl ?_
    refine fs_getr (ci := 12) (j := 43) (q := 227) dd_X12_personTold_197 fl_X12_106 ca_196 rfl (Or.inr ⟨_, rfl⟩) rfl (by decide) ?_
    refine fs_iconst (n := 3) (v := 3) dd_X12_personTold_200 (by decide) ?_
    refine fs_iload (i := 10) dd_X12_personTold_201 rfl ?_
    refine fs_imul dd_X12_personTold_203 ?_
    refine fs_iconst (n := 2) (v := 2) dd_X12_personTold_204 (by decide) ?_
    refine fs_iadd dd_X12_personTold_205 ?_
    refine fs_iload (i := 9) dd_X12_personTold_206 rfl ?_
    have hb := H.1
    replace H := H.2
    refine fs_iast dd_X12_personTold_208 ca_227 hb ?_
    refine fs_tops (fun s17 hs17 => ?_)
    replace H := H s17 hs17
    refine fs_aload_n (k0 := 0) (i := 0) dd_X12_personTold_209 rfl rfl ?_
    refine fs_getr (ci := 12) (j := 44) (q := 228) dd_X12_personTold_210 fl_X12_109 ca_196 rfl (Or.inr ⟨_, rfl⟩) rfl (by decide) ?_
    refine fs_iload (i := 10) dd_X12_personTold_213 rfl ?_
    refine fs_iload (i := 7) dd_X12_personTold_215 rfl ?_
    have hb := H.1
    replace H := H.2
    refine fs_iast dd_X12_personTold_217 ca_228 hb ?_
    refine fs_tops (fun s18 hs18 => ?_)
    replace H := H s18 hs18
    refine fs_aload_n (k0 := 0) (i := 0) dd_X12_personTold_218 rfl rfl ?_
    refine fs_dup dd_X12_personTold_219 rfl ?_
    refine fs_geti (ci := 12) (j := 39) dd_X12_personTold_220 fl_X12_320 ca_196 rfl (Or.inl rfl) ?_
    refine fs_iconst (n := 1) (v := 1) dd_X12_personTold_223 (by decide) ?_
    refine fs_iadd dd_X12_personTold_224 ?_
    refine fs_puti (ci := 12) (j := 39) dd_X12_personTold_225 fl_X12_320 (fun _ _ _ h => by cases h; rfl) ca_196 rfl (Or.inl rfl) ?_
    refine fs_tops (fun s19 hs19 => ?_)
    replace H := H s19 hs19
    exact fs_vret dd_X12_personTold_228 rfl H
  · replace H := H.2 hc
    exact fs_vret dd_X12_personTold_155 rfl H
set_option maxRecDepth 100000 in
set_option maxHeartbeats 4000000 in
theorem V_nd_X12_personTold_66 {g : fz_G} {l : Launch} {d : Nat} (hD : 5 ≤ d)    {Q : fz_s → Prop} {v2 : Int64} {v4 : Int64} {u0 : Bool} {s : fz_s}  (H : nd_X12_personTold_66   Q v2 v4 u0 s) : fs_V g l m_X12_personTold d false 66 [.ref 196, fz_J, .long v2, fz_J, .long v4, fz_J, fz_J, fz_J, fz_J, fz_J, fz_J] [.int (bi u0)] s (rV Q) := by
  obtain ⟨d, rfl⟩ : ∃ e, d = e + 1 := ⟨d - 1, by omega⟩
  unfold nd_X12_personTold_66 at H
  refine fs_istore (i := 6) dd_X12_personTold_66 (by decide) ?_
  refine fs_aload_n (k0 := 0) (i := 0) dd_X12_personTold_68 rfl rfl ?_
  refine fs_geti (ci := 12) (j := 5) dd_X12_personTold_69 fl_X12_252 ca_196 rfl (Or.inl rfl) ?_
  refine fs_if_ne (tgt := 97) dd_X12_personTold_72 (by decide) (fun hc => ?_) (fun hc => ?_)
  · replace H := H.1 hc
    refine fs_weak (ls2 := [.ref 196, fz_J, .long v2, fz_J, fz_J, fz_J, .int (bi u0), fz_J, fz_J, fz_J, fz_J]) (fz_le_e (fz_le_j (fz_le_e (fz_le_j (fz_le_j (fz_le_j (fz_le_e (fz_le_j (fz_le_j (fz_le_j (fz_le_j fz_le_n))))))))))) ?_
    exact V_nd_X12_personTold_97 hD    H
  · replace H := H.2 hc
    refine fs_lload (i := 4) dd_X12_personTold_75 rfl ?_
    refine fs_aload_n (k0 := 0) (i := 0) dd_X12_personTold_77 rfl rfl ?_
    refine fs_getr (ci := 12) (j := 41) (q := 225) dd_X12_personTold_78 fl_X12_99 ca_196 rfl (Or.inr ⟨_, rfl⟩) rfl (by decide) ?_
    refine fs_iload (i := 6) dd_X12_personTold_81 rfl ?_
    have hb := H.1
    replace H := H.2
    refine fs_lald dd_X12_personTold_83 ca_225 hb ?_
    refine fs_lcmp dd_X12_personTold_84 ?_
    refine fs_if_eq (tgt := 97) dd_X12_personTold_85 (by decide) (fun hc => ?_) (fun hc => ?_)
    · replace H := H.1 hc
      refine fs_weak (ls2 := [.ref 196, fz_J, .long v2, fz_J, fz_J, fz_J, .int (bi u0), fz_J, fz_J, fz_J, fz_J]) (fz_le_e (fz_le_j (fz_le_e (fz_le_j (fz_le_j (fz_le_j (fz_le_e (fz_le_j (fz_le_j (fz_le_j (fz_le_j fz_le_n))))))))))) ?_
      exact V_nd_X12_personTold_97 hD    H
    · replace H := H.2 hc
      refine fs_aload_n (k0 := 0) (i := 0) dd_X12_personTold_88 rfl rfl ?_
      refine fs_iconst (n := 3) (v := 3) dd_X12_personTold_89 (by decide) ?_
      refine fs_aload_n (k0 := 0) (i := 0) dd_X12_personTold_90 rfl rfl ?_
      refine fs_geti (ci := 12) (j := 37) dd_X12_personTold_91 fl_X12_303 ca_196 rfl (Or.inl rfl) ?_
      refine fs_callV (y := m_X12_fail) (as := [.int 3, .int (s.1 196 37)]) dd_X12_personTold_94 me_X12_fail lk_X12_282 in_X12_fail se_X12_fail ca_196 rfl rfl rfl (Nat.le_of_ble_eq_true rfl) (Nat.le_of_ble_eq_true rfl) rfl (V_X12_fail (by omega)  H) (k2_V fun s2 H => ?_)
      refine fs_weak (ls2 := [.ref 196, fz_J, .long v2, fz_J, fz_J, fz_J, .int (bi u0), fz_J, fz_J, fz_J, fz_J]) (fz_le_e (fz_le_j (fz_le_e (fz_le_j (fz_le_j (fz_le_j (fz_le_e (fz_le_j (fz_le_j (fz_le_j (fz_le_j fz_le_n))))))))))) ?_
      exact V_nd_X12_personTold_97 hD    H
set_option maxRecDepth 100000 in
set_option maxHeartbeats 4000000 in
theorem V_nd_X12_personTold_22 {g : fz_G} {l : Launch} {d : Nat} (hD : 5 ≤ d)    {Q : fz_s → Prop}  {s : fz_s}  (H : nd_X12_personTold_22   Q  s) : fs_V g l m_X12_personTold d false 22 [.ref 196, fz_J, fz_J, fz_J, fz_J, fz_J, fz_J, fz_J, fz_J, fz_J, fz_J] [] s (rV Q) := by
  obtain ⟨d, rfl⟩ : ∃ e, d = e + 1 := ⟨d - 1, by omega⟩
  unfold nd_X12_personTold_22 at H
  refine fs_aload_n (k0 := 0) (i := 0) dd_X12_personTold_22 rfl rfl ?_
  refine fs_geti (ci := 12) (j := 5) dd_X12_personTold_23 fl_X12_252 ca_196 rfl (Or.inl rfl) ?_
  refine fs_if_eq (tgt := 30) dd_X12_personTold_26 (by decide) (fun hc => ?_) (fun hc => ?_)
  · replace H := H.1 hc
    refine fs_aload_n (k0 := 0) (i := 0) dd_X12_personTold_30 rfl rfl ?_
    refine fs_callV (y := m_X12_newName) (as := []) dd_X12_personTold_31 me_X12_newName lk_X12_327 in_X12_newName se_X12_newName ca_196 rfl rfl rfl (Nat.le_of_ble_eq_true rfl) (Nat.le_of_ble_eq_true rfl) rfl (V_X12_newName (by omega)  H) (k2_L fun r1 s2 H => ?_)
    refine fs_lstore_n (k0 := 2) (i := 2) dd_X12_personTold_34 rfl (by decide) ?_
    refine fs_aload_n (k0 := 0) (i := 0) dd_X12_personTold_35 rfl rfl ?_
    refine fs_aload_n (k0 := 0) (i := 0) dd_X12_personTold_36 rfl rfl ?_
    refine fs_getr (ci := 12) (j := 15) (q := 203) dd_X12_personTold_37 fl_X12_33 ca_196 rfl (Or.inr ⟨_, rfl⟩) rfl (by decide) ?_
    refine fs_callV (y := m_X12_asks) (as := [.ref 203]) dd_X12_personTold_40 me_X12_asks lk_X12_323 in_X12_asks se_X12_asks ca_196 rfl rfl rfl (Nat.le_of_ble_eq_true rfl) (Nat.le_of_ble_eq_true rfl) rfl (V_X12_asks (by omega) ca_203 H) (k2_V fun s4 H => ?_)
    refine fs_aload_n (k0 := 0) (i := 0) dd_X12_personTold_43 rfl rfl ?_
    refine fs_callV (y := m_X12_name) (as := []) dd_X12_personTold_44 me_X12_name lk_X12_313 in_X12_name se_X12_name ca_196 rfl rfl rfl (Nat.le_of_ble_eq_true rfl) (Nat.le_of_ble_eq_true rfl) rfl (V_X12_name (by omega)  H) (k2_L fun r5 s6 H => ?_)
    refine fs_lstore (i := 4) dd_X12_personTold_47 (by decide) ?_
    refine fs_lload (i := 4) dd_X12_personTold_49 rfl ?_
    refine fs_aload_n (k0 := 0) (i := 0) dd_X12_personTold_51 rfl rfl ?_
    refine fs_getr (ci := 12) (j := 41) (q := 225) dd_X12_personTold_52 fl_X12_99 ca_196 rfl (Or.inr ⟨_, rfl⟩) rfl (by decide) ?_
    refine fs_iconst (n := 0) (v := 0) dd_X12_personTold_55 (by decide) ?_
    refine fs_lald dd_X12_personTold_56 ca_225 (vp_in_nI (n := 0) (by decide) (by decide)) ?_
    refine fs_lcmp dd_X12_personTold_57 ?_
    refine fs_if_ne (tgt := 65) dd_X12_personTold_58 (by decide) (fun hc => ?_) (fun hc => ?_)
    · replace H := H.1 hc
      refine fs_iconst (n := 1) (v := 1) dd_X12_personTold_65 (by decide) ?_
      refine fs_weak (ls2 := [.ref 196, fz_J, .long r1, fz_J, .long r5, fz_J, fz_J, fz_J, fz_J, fz_J, fz_J]) (fz_le_e (fz_le_j (fz_le_e (fz_le_j (fz_le_e (fz_le_j (fz_le_j (fz_le_j (fz_le_j (fz_le_j (fz_le_j fz_le_n))))))))))) ?_
      exact V_nd_X12_personTold_66 hD    H
    · replace H := H.2 hc
      refine fs_iconst (n := 0) (v := 0) dd_X12_personTold_61 (by decide) ?_
      refine fs_goto (tgt := 66) dd_X12_personTold_62 (by decide) ?_
      refine fs_weak (ls2 := [.ref 196, fz_J, .long r1, fz_J, .long r5, fz_J, fz_J, fz_J, fz_J, fz_J, fz_J]) (fz_le_e (fz_le_j (fz_le_e (fz_le_j (fz_le_e (fz_le_j (fz_le_j (fz_le_j (fz_le_j (fz_le_j (fz_le_j fz_le_n))))))))))) ?_
      exact V_nd_X12_personTold_66 hD    H
  · replace H := H.2 hc
    exact fs_vret dd_X12_personTold_29 rfl H
set_option maxRecDepth 100000 in
set_option maxHeartbeats 4000000 in
theorem V_X12_personTold {g : fz_G} {l : Launch} {d : Nat} (hD : 5 ≤ d) {p0 : Int32}  {s : fz_s} {Q : fz_s → Prop} (H : wp_X12_personTold p0 s Q) : fs_V g l m_X12_personTold d false 0 (fz_en [.ref 196, .int p0] 11) [] s (rV Q) := by
  obtain ⟨d, rfl⟩ : ∃ e, d = e + 1 := ⟨d - 1, by omega⟩
  unfold wp_X12_personTold at H
  refine fs_aload_n (k0 := 0) (i := 0) dd_X12_personTold_0 rfl rfl ?_
  refine fs_geti (ci := 12) (j := 5) dd_X12_personTold_1 fl_X12_252 ca_196 rfl (Or.inl rfl) ?_
  refine fs_if_ne (tgt := 22) dd_X12_personTold_4 (by decide) (fun hc => ?_) (fun hc => ?_)
  · replace H := H.1 hc
    refine fs_weak (ls2 := [.ref 196, fz_J, fz_J, fz_J, fz_J, fz_J, fz_J, fz_J, fz_J, fz_J, fz_J]) (fz_le_e (fz_le_j (fz_le_j (fz_le_j (fz_le_j (fz_le_j (fz_le_j (fz_le_j (fz_le_j (fz_le_j (fz_le_j fz_le_n))))))))))) ?_
    exact V_nd_X12_personTold_22 hD    H
  · replace H := H.2 hc
    refine fs_aload_n (k0 := 0) (i := 0) dd_X12_personTold_7 rfl rfl ?_
    refine fs_geti (ci := 12) (j := 39) dd_X12_personTold_8 fl_X12_320 ca_196 rfl (Or.inl rfl) ?_
    refine fs_bipush (n := 8) (v := 8) dd_X12_personTold_11 (by decide) ?_
    refine fs_icmp_ne (tgt := 22) dd_X12_personTold_13 (by decide) (fun hc => ?_) (fun hc => ?_)
    · replace H := H.1 hc
      refine fs_weak (ls2 := [.ref 196, fz_J, fz_J, fz_J, fz_J, fz_J, fz_J, fz_J, fz_J, fz_J, fz_J]) (fz_le_e (fz_le_j (fz_le_j (fz_le_j (fz_le_j (fz_le_j (fz_le_j (fz_le_j (fz_le_j (fz_le_j (fz_le_j fz_le_n))))))))))) ?_
      exact V_nd_X12_personTold_22 hD    H
    · replace H := H.2 hc
      refine fs_aload_n (k0 := 0) (i := 0) dd_X12_personTold_16 rfl rfl ?_
      refine fs_iconst (n := 5) (v := 5) dd_X12_personTold_17 (by decide) ?_
      refine fs_iload_n (k0 := 1) (i := 1) dd_X12_personTold_18 rfl rfl ?_
      refine fs_callV (y := m_X12_fail) (as := [.int 5, .int p0]) dd_X12_personTold_19 me_X12_fail lk_X12_282 in_X12_fail se_X12_fail ca_196 rfl rfl rfl (Nat.le_of_ble_eq_true rfl) (Nat.le_of_ble_eq_true rfl) rfl (V_X12_fail (by omega)  H) (k2_V fun s2 H => ?_)
      refine fs_weak (ls2 := [.ref 196, fz_J, fz_J, fz_J, fz_J, fz_J, fz_J, fz_J, fz_J, fz_J, fz_J]) (fz_le_e (fz_le_j (fz_le_j (fz_le_j (fz_le_j (fz_le_j (fz_le_j (fz_le_j (fz_le_j (fz_le_j (fz_le_j fz_le_n))))))))))) ?_
      exact V_nd_X12_personTold_22 hD    H
theorem dd_X12_isTest_0 : decode m_X12_isTest.2.1 0 = .ok (.iload_n 0, 1) := by decide +kernel
theorem dd_X12_isTest_1 : decode m_X12_isTest.2.1 1 = .ok (.iconst 1, 1) := by decide +kernel
theorem dd_X12_isTest_2 : decode m_X12_isTest.2.1 2 = .ok (.if_icmp .eq 8, 3) := by decide +kernel
theorem dd_X12_isTest_5 : decode m_X12_isTest.2.1 5 = .ok (.iload_n 0, 1) := by decide +kernel
theorem dd_X12_isTest_6 : decode m_X12_isTest.2.1 6 = .ok (.iconst 4, 1) := by decide +kernel
theorem dd_X12_isTest_7 : decode m_X12_isTest.2.1 7 = .ok (.if_icmp .ne 7, 3) := by decide +kernel
theorem dd_X12_isTest_10 : decode m_X12_isTest.2.1 10 = .ok (.iconst 1, 1) := by decide +kernel
theorem dd_X12_isTest_11 : decode m_X12_isTest.2.1 11 = .ok (.goto 4, 3) := by decide +kernel
theorem dd_X12_isTest_14 : decode m_X12_isTest.2.1 14 = .ok (.iconst 0, 1) := by decide +kernel
theorem dd_X12_isTest_15 : decode m_X12_isTest.2.1 15 = .ok (.ireturn, 1) := by decide +kernel
def wp_X12_isTest (p0 : Int32) (s : fz_s) (Q : Bool → fz_s → Prop) : Prop :=
  ((p0 = 1 → Q true s) ∧ (¬ p0 = 1 → ((¬ p0 = 4 → Q false s) ∧ (p0 = 4 → Q true s))))
set_option maxRecDepth 100000 in
set_option maxHeartbeats 4000000 in
theorem V_X12_isTest {g : fz_G} {l : Launch} {d : Nat} (hD : 0 ≤ d) {p0 : Int32}  {s : fz_s} {Q : Bool → fz_s → Prop} (H : wp_X12_isTest p0 s Q) : fs_V g l m_X12_isTest d false 0 (fz_en [.int p0] 1) [] s (rZ Q) := by
  unfold wp_X12_isTest at H
  refine fs_iload_n (k0 := 0) (i := 0) dd_X12_isTest_0 rfl rfl ?_
  refine fs_iconst (n := 1) (v := 1) dd_X12_isTest_1 (by decide) ?_
  refine fs_icmp_eq (tgt := 10) dd_X12_isTest_2 (by decide) (fun hc => ?_) (fun hc => ?_)
  · replace H := H.1 hc
    refine fs_iconst (n := 1) (v := 1) dd_X12_isTest_10 (by decide) ?_
    refine fs_goto (tgt := 15) dd_X12_isTest_11 (by decide) ?_
    exact fs_zret true dd_X12_isTest_15 rfl rfl H
  · replace H := H.2 hc
    refine fs_iload_n (k0 := 0) (i := 0) dd_X12_isTest_5 rfl rfl ?_
    refine fs_iconst (n := 4) (v := 4) dd_X12_isTest_6 (by decide) ?_
    refine fs_icmp_ne (tgt := 14) dd_X12_isTest_7 (by decide) (fun hc => ?_) (fun hc => ?_)
    · replace H := H.1 hc
      refine fs_iconst (n := 0) (v := 0) dd_X12_isTest_14 (by decide) ?_
      exact fs_zret false dd_X12_isTest_15 rfl rfl H
    · replace H := H.2 hc
      refine fs_iconst (n := 1) (v := 1) dd_X12_isTest_10 (by decide) ?_
      refine fs_goto (tgt := 15) dd_X12_isTest_11 (by decide) ?_
      exact fs_zret true dd_X12_isTest_15 rfl rfl H
theorem dd_X12_qWordHere_0 : decode m_X12_qWordHere.2.1 0 = .ok (.aload_n 0, 1) := by decide +kernel
theorem dd_X12_qWordHere_1 : decode m_X12_qWordHere.2.1 1 = .ok (.getfield 310, 3) := by decide +kernel
theorem dd_X12_qWordHere_4 : decode m_X12_qWordHere.2.1 4 = .ok (.iconst 2, 1) := by decide +kernel
theorem dd_X12_qWordHere_5 : decode m_X12_qWordHere.2.1 5 = .ok (.if_icmp .ge 16, 3) := by decide +kernel
theorem dd_X12_qWordHere_8 : decode m_X12_qWordHere.2.1 8 = .ok (.aload_n 0, 1) := by decide +kernel
theorem dd_X12_qWordHere_9 : decode m_X12_qWordHere.2.1 9 = .ok (.aload_n 0, 1) := by decide +kernel
theorem dd_X12_qWordHere_10 : decode m_X12_qWordHere.2.1 10 = .ok (.getfield 198, 3) := by decide +kernel
theorem dd_X12_qWordHere_13 : decode m_X12_qWordHere.2.1 13 = .ok (.invokevirtual 275, 3) := by decide +kernel
theorem dd_X12_qWordHere_16 : decode m_X12_qWordHere.2.1 16 = .ok (.ifCond .eq 5, 3) := by decide +kernel
theorem dd_X12_qWordHere_19 : decode m_X12_qWordHere.2.1 19 = .ok (.iconst 0, 1) := by decide +kernel
theorem dd_X12_qWordHere_20 : decode m_X12_qWordHere.2.1 20 = .ok (.ireturn, 1) := by decide +kernel
theorem dd_X12_qWordHere_21 : decode m_X12_qWordHere.2.1 21 = .ok (.aload_n 0, 1) := by decide +kernel
theorem dd_X12_qWordHere_22 : decode m_X12_qWordHere.2.1 22 = .ok (.aload_n 0, 1) := by decide +kernel
theorem dd_X12_qWordHere_23 : decode m_X12_qWordHere.2.1 23 = .ok (.getfield 201, 3) := by decide +kernel
theorem dd_X12_qWordHere_26 : decode m_X12_qWordHere.2.1 26 = .ok (.invokevirtual 275, 3) := by decide +kernel
theorem dd_X12_qWordHere_29 : decode m_X12_qWordHere.2.1 29 = .ok (.ifCond .eq 5, 3) := by decide +kernel
theorem dd_X12_qWordHere_32 : decode m_X12_qWordHere.2.1 32 = .ok (.iconst 1, 1) := by decide +kernel
theorem dd_X12_qWordHere_33 : decode m_X12_qWordHere.2.1 33 = .ok (.ireturn, 1) := by decide +kernel
theorem dd_X12_qWordHere_34 : decode m_X12_qWordHere.2.1 34 = .ok (.aload_n 0, 1) := by decide +kernel
theorem dd_X12_qWordHere_35 : decode m_X12_qWordHere.2.1 35 = .ok (.aload_n 0, 1) := by decide +kernel
theorem dd_X12_qWordHere_36 : decode m_X12_qWordHere.2.1 36 = .ok (.getfield 204, 3) := by decide +kernel
theorem dd_X12_qWordHere_39 : decode m_X12_qWordHere.2.1 39 = .ok (.invokevirtual 275, 3) := by decide +kernel
theorem dd_X12_qWordHere_42 : decode m_X12_qWordHere.2.1 42 = .ok (.ifCond .eq 5, 3) := by decide +kernel
theorem dd_X12_qWordHere_45 : decode m_X12_qWordHere.2.1 45 = .ok (.iconst 2, 1) := by decide +kernel
theorem dd_X12_qWordHere_46 : decode m_X12_qWordHere.2.1 46 = .ok (.ireturn, 1) := by decide +kernel
theorem dd_X12_qWordHere_47 : decode m_X12_qWordHere.2.1 47 = .ok (.aload_n 0, 1) := by decide +kernel
theorem dd_X12_qWordHere_48 : decode m_X12_qWordHere.2.1 48 = .ok (.aload_n 0, 1) := by decide +kernel
theorem dd_X12_qWordHere_49 : decode m_X12_qWordHere.2.1 49 = .ok (.getfield 207, 3) := by decide +kernel
theorem dd_X12_qWordHere_52 : decode m_X12_qWordHere.2.1 52 = .ok (.invokevirtual 275, 3) := by decide +kernel
theorem dd_X12_qWordHere_55 : decode m_X12_qWordHere.2.1 55 = .ok (.ifCond .eq 5, 3) := by decide +kernel
theorem dd_X12_qWordHere_58 : decode m_X12_qWordHere.2.1 58 = .ok (.iconst 3, 1) := by decide +kernel
theorem dd_X12_qWordHere_59 : decode m_X12_qWordHere.2.1 59 = .ok (.ireturn, 1) := by decide +kernel
theorem dd_X12_qWordHere_60 : decode m_X12_qWordHere.2.1 60 = .ok (.aload_n 0, 1) := by decide +kernel
theorem dd_X12_qWordHere_61 : decode m_X12_qWordHere.2.1 61 = .ok (.aload_n 0, 1) := by decide +kernel
theorem dd_X12_qWordHere_62 : decode m_X12_qWordHere.2.1 62 = .ok (.getfield 210, 3) := by decide +kernel
theorem dd_X12_qWordHere_65 : decode m_X12_qWordHere.2.1 65 = .ok (.invokevirtual 275, 3) := by decide +kernel
theorem dd_X12_qWordHere_68 : decode m_X12_qWordHere.2.1 68 = .ok (.ifCond .eq 5, 3) := by decide +kernel
theorem dd_X12_qWordHere_71 : decode m_X12_qWordHere.2.1 71 = .ok (.iconst 4, 1) := by decide +kernel
theorem dd_X12_qWordHere_72 : decode m_X12_qWordHere.2.1 72 = .ok (.ireturn, 1) := by decide +kernel
theorem dd_X12_qWordHere_73 : decode m_X12_qWordHere.2.1 73 = .ok (.aload_n 0, 1) := by decide +kernel
theorem dd_X12_qWordHere_74 : decode m_X12_qWordHere.2.1 74 = .ok (.aload_n 0, 1) := by decide +kernel
theorem dd_X12_qWordHere_75 : decode m_X12_qWordHere.2.1 75 = .ok (.getfield 213, 3) := by decide +kernel
theorem dd_X12_qWordHere_78 : decode m_X12_qWordHere.2.1 78 = .ok (.invokevirtual 275, 3) := by decide +kernel
theorem dd_X12_qWordHere_81 : decode m_X12_qWordHere.2.1 81 = .ok (.ifCond .eq 5, 3) := by decide +kernel
theorem dd_X12_qWordHere_84 : decode m_X12_qWordHere.2.1 84 = .ok (.iconst 5, 1) := by decide +kernel
theorem dd_X12_qWordHere_85 : decode m_X12_qWordHere.2.1 85 = .ok (.ireturn, 1) := by decide +kernel
theorem dd_X12_qWordHere_86 : decode m_X12_qWordHere.2.1 86 = .ok (.aload_n 0, 1) := by decide +kernel
theorem dd_X12_qWordHere_87 : decode m_X12_qWordHere.2.1 87 = .ok (.aload_n 0, 1) := by decide +kernel
theorem dd_X12_qWordHere_88 : decode m_X12_qWordHere.2.1 88 = .ok (.getfield 216, 3) := by decide +kernel
theorem dd_X12_qWordHere_91 : decode m_X12_qWordHere.2.1 91 = .ok (.invokevirtual 275, 3) := by decide +kernel
theorem dd_X12_qWordHere_94 : decode m_X12_qWordHere.2.1 94 = .ok (.ifCond .eq 6, 3) := by decide +kernel
theorem dd_X12_qWordHere_97 : decode m_X12_qWordHere.2.1 97 = .ok (.bipush 6, 2) := by decide +kernel
theorem dd_X12_qWordHere_99 : decode m_X12_qWordHere.2.1 99 = .ok (.ireturn, 1) := by decide +kernel
theorem dd_X12_qWordHere_100 : decode m_X12_qWordHere.2.1 100 = .ok (.aload_n 0, 1) := by decide +kernel
theorem dd_X12_qWordHere_101 : decode m_X12_qWordHere.2.1 101 = .ok (.aload_n 0, 1) := by decide +kernel
theorem dd_X12_qWordHere_102 : decode m_X12_qWordHere.2.1 102 = .ok (.getfield 219, 3) := by decide +kernel
theorem dd_X12_qWordHere_105 : decode m_X12_qWordHere.2.1 105 = .ok (.invokevirtual 275, 3) := by decide +kernel
theorem dd_X12_qWordHere_108 : decode m_X12_qWordHere.2.1 108 = .ok (.ifCond .eq 6, 3) := by decide +kernel
theorem dd_X12_qWordHere_111 : decode m_X12_qWordHere.2.1 111 = .ok (.bipush 7, 2) := by decide +kernel
theorem dd_X12_qWordHere_113 : decode m_X12_qWordHere.2.1 113 = .ok (.ireturn, 1) := by decide +kernel
theorem dd_X12_qWordHere_114 : decode m_X12_qWordHere.2.1 114 = .ok (.aload_n 0, 1) := by decide +kernel
theorem dd_X12_qWordHere_115 : decode m_X12_qWordHere.2.1 115 = .ok (.aload_n 0, 1) := by decide +kernel
theorem dd_X12_qWordHere_116 : decode m_X12_qWordHere.2.1 116 = .ok (.getfield 222, 3) := by decide +kernel
theorem dd_X12_qWordHere_119 : decode m_X12_qWordHere.2.1 119 = .ok (.invokevirtual 275, 3) := by decide +kernel
theorem dd_X12_qWordHere_122 : decode m_X12_qWordHere.2.1 122 = .ok (.ifCond .eq 6, 3) := by decide +kernel
theorem dd_X12_qWordHere_125 : decode m_X12_qWordHere.2.1 125 = .ok (.bipush 8, 2) := by decide +kernel
theorem dd_X12_qWordHere_127 : decode m_X12_qWordHere.2.1 127 = .ok (.ireturn, 1) := by decide +kernel
theorem dd_X12_qWordHere_128 : decode m_X12_qWordHere.2.1 128 = .ok (.aload_n 0, 1) := by decide +kernel
theorem dd_X12_qWordHere_129 : decode m_X12_qWordHere.2.1 129 = .ok (.aload_n 0, 1) := by decide +kernel
theorem dd_X12_qWordHere_130 : decode m_X12_qWordHere.2.1 130 = .ok (.getfield 225, 3) := by decide +kernel
theorem dd_X12_qWordHere_133 : decode m_X12_qWordHere.2.1 133 = .ok (.invokevirtual 275, 3) := by decide +kernel
theorem dd_X12_qWordHere_136 : decode m_X12_qWordHere.2.1 136 = .ok (.ifCond .eq 6, 3) := by decide +kernel
theorem dd_X12_qWordHere_139 : decode m_X12_qWordHere.2.1 139 = .ok (.bipush 9, 2) := by decide +kernel
theorem dd_X12_qWordHere_141 : decode m_X12_qWordHere.2.1 141 = .ok (.ireturn, 1) := by decide +kernel
theorem dd_X12_qWordHere_142 : decode m_X12_qWordHere.2.1 142 = .ok (.aload_n 0, 1) := by decide +kernel
theorem dd_X12_qWordHere_143 : decode m_X12_qWordHere.2.1 143 = .ok (.aload_n 0, 1) := by decide +kernel
theorem dd_X12_qWordHere_144 : decode m_X12_qWordHere.2.1 144 = .ok (.getfield 228, 3) := by decide +kernel
theorem dd_X12_qWordHere_147 : decode m_X12_qWordHere.2.1 147 = .ok (.invokevirtual 275, 3) := by decide +kernel
theorem dd_X12_qWordHere_150 : decode m_X12_qWordHere.2.1 150 = .ok (.ifCond .eq 6, 3) := by decide +kernel
theorem dd_X12_qWordHere_153 : decode m_X12_qWordHere.2.1 153 = .ok (.bipush 10, 2) := by decide +kernel
theorem dd_X12_qWordHere_155 : decode m_X12_qWordHere.2.1 155 = .ok (.ireturn, 1) := by decide +kernel
theorem dd_X12_qWordHere_156 : decode m_X12_qWordHere.2.1 156 = .ok (.aload_n 0, 1) := by decide +kernel
theorem dd_X12_qWordHere_157 : decode m_X12_qWordHere.2.1 157 = .ok (.aload_n 0, 1) := by decide +kernel
theorem dd_X12_qWordHere_158 : decode m_X12_qWordHere.2.1 158 = .ok (.getfield 231, 3) := by decide +kernel
theorem dd_X12_qWordHere_161 : decode m_X12_qWordHere.2.1 161 = .ok (.invokevirtual 275, 3) := by decide +kernel
theorem dd_X12_qWordHere_164 : decode m_X12_qWordHere.2.1 164 = .ok (.ifCond .eq 6, 3) := by decide +kernel
theorem dd_X12_qWordHere_167 : decode m_X12_qWordHere.2.1 167 = .ok (.bipush 11, 2) := by decide +kernel
theorem dd_X12_qWordHere_169 : decode m_X12_qWordHere.2.1 169 = .ok (.ireturn, 1) := by decide +kernel
theorem dd_X12_qWordHere_170 : decode m_X12_qWordHere.2.1 170 = .ok (.aload_n 0, 1) := by decide +kernel
theorem dd_X12_qWordHere_171 : decode m_X12_qWordHere.2.1 171 = .ok (.aload_n 0, 1) := by decide +kernel
theorem dd_X12_qWordHere_172 : decode m_X12_qWordHere.2.1 172 = .ok (.getfield 234, 3) := by decide +kernel
theorem dd_X12_qWordHere_175 : decode m_X12_qWordHere.2.1 175 = .ok (.invokevirtual 275, 3) := by decide +kernel
theorem dd_X12_qWordHere_178 : decode m_X12_qWordHere.2.1 178 = .ok (.ifCond .eq 6, 3) := by decide +kernel
theorem dd_X12_qWordHere_181 : decode m_X12_qWordHere.2.1 181 = .ok (.bipush 12, 2) := by decide +kernel
theorem dd_X12_qWordHere_183 : decode m_X12_qWordHere.2.1 183 = .ok (.ireturn, 1) := by decide +kernel
theorem dd_X12_qWordHere_184 : decode m_X12_qWordHere.2.1 184 = .ok (.iconst (-1), 1) := by decide +kernel
theorem dd_X12_qWordHere_185 : decode m_X12_qWordHere.2.1 185 = .ok (.ireturn, 1) := by decide +kernel
def nd_X12_qWordHere_21   (Q : Int32 → fz_s → Prop)  (s : fz_s) : Prop :=
  wp_X12_isHere 257 7 s (fun r1 s2 => ((r1 = false → wp_X12_isHere 258 4 s2 (fun r3 s4 => ((r3 = false → wp_X12_isHere 259 4 s4 (fun r5 s6 => ((r5 = false → wp_X12_isHere 260 4 s6 (fun r7 s8 => ((r7 = false → wp_X12_isHere 261 5 s8 (fun r9 s10 => ((r9 = false → wp_X12_isHere 262 4 s10 (fun r11 s12 => ((r11 = false → wp_X12_isHere 263 6 s12 (fun r13 s14 => ((r13 = false → wp_X12_isHere 264 6 s14 (fun r15 s16 => ((r15 = false → wp_X12_isHere 265 5 s16 (fun r17 s18 => ((r17 = false → wp_X12_isHere 266 4 s18 (fun r19 s20 => ((r19 = false → wp_X12_isHere 267 7 s20 (fun r21 s22 => ((r21 = false → wp_X12_isHere 268 4 s22 (fun r23 s24 => ((r23 = false → Q (-1) s24) ∧ (r23 = true → Q 12 s24)))) ∧ (r21 = true → Q 11 s22)))) ∧ (r19 = true → Q 10 s20)))) ∧ (r17 = true → Q 9 s18)))) ∧ (r15 = true → Q 8 s16)))) ∧ (r13 = true → Q 7 s14)))) ∧ (r11 = true → Q 6 s12)))) ∧ (r9 = true → Q 5 s10)))) ∧ (r7 = true → Q 4 s8)))) ∧ (r5 = true → Q 3 s6)))) ∧ (r3 = true → Q 2 s4)))) ∧ (r1 = true → Q 1 s2)))
def wp_X12_qWordHere  (s : fz_s) (Q : Int32 → fz_s → Prop) : Prop :=
  ((2 ≤ (s.1 196 53) → nd_X12_qWordHere_21   Q  s) ∧ (¬ 2 ≤ (s.1 196 53) → wp_X12_isHere 256 7 s (fun r1 s2 => ((r1 = false → nd_X12_qWordHere_21   Q  s2) ∧ (r1 = true → Q 0 s2)))))
set_option maxRecDepth 100000 in
set_option maxHeartbeats 4000000 in
theorem V_nd_X12_qWordHere_21 {g : fz_G} {l : Launch} {d : Nat} (hD : 2 ≤ d)    {Q : Int32 → fz_s → Prop}  {s : fz_s}  (H : nd_X12_qWordHere_21   Q  s) : fs_V g l m_X12_qWordHere d false 21 [.ref 196] [] s (rI Q) := by
  obtain ⟨d, rfl⟩ : ∃ e, d = e + 1 := ⟨d - 1, by omega⟩
  unfold nd_X12_qWordHere_21 at H
  refine fs_aload_n (k0 := 0) (i := 0) dd_X12_qWordHere_21 rfl rfl ?_
  refine fs_aload_n (k0 := 0) (i := 0) dd_X12_qWordHere_22 rfl rfl ?_
  refine fs_getr (ci := 12) (j := 88) (q := 257) dd_X12_qWordHere_23 fl_X12_201 ca_196 rfl (Or.inr ⟨_, rfl⟩) rfl (by decide) ?_
  refine fs_callV (y := m_X12_isHere) (as := [.ref 257]) dd_X12_qWordHere_26 me_X12_isHere lk_X12_275 in_X12_isHere se_X12_isHere ca_196 rfl rfl rfl (Nat.le_of_ble_eq_true rfl) (Nat.le_of_ble_eq_true rfl) rfl (V_X12_isHere (by omega) ca_257 H) (k2_Z fun r1 s2 H => ?_)
  refine fs_if_eq (tgt := 34) dd_X12_qWordHere_29 (by decide) (fun hc => ?_) (fun hc => ?_)
  · replace H := H.1 (bi_0 hc)
    refine fs_aload_n (k0 := 0) (i := 0) dd_X12_qWordHere_34 rfl rfl ?_
    refine fs_aload_n (k0 := 0) (i := 0) dd_X12_qWordHere_35 rfl rfl ?_
    refine fs_getr (ci := 12) (j := 89) (q := 258) dd_X12_qWordHere_36 fl_X12_204 ca_196 rfl (Or.inr ⟨_, rfl⟩) rfl (by decide) ?_
    refine fs_callV (y := m_X12_isHere) (as := [.ref 258]) dd_X12_qWordHere_39 me_X12_isHere lk_X12_275 in_X12_isHere se_X12_isHere ca_196 rfl rfl rfl (Nat.le_of_ble_eq_true rfl) (Nat.le_of_ble_eq_true rfl) rfl (V_X12_isHere (by omega) ca_258 H) (k2_Z fun r3 s4 H => ?_)
    refine fs_if_eq (tgt := 47) dd_X12_qWordHere_42 (by decide) (fun hc => ?_) (fun hc => ?_)
    · replace H := H.1 (bi_0 hc)
      refine fs_aload_n (k0 := 0) (i := 0) dd_X12_qWordHere_47 rfl rfl ?_
      refine fs_aload_n (k0 := 0) (i := 0) dd_X12_qWordHere_48 rfl rfl ?_
      refine fs_getr (ci := 12) (j := 90) (q := 259) dd_X12_qWordHere_49 fl_X12_207 ca_196 rfl (Or.inr ⟨_, rfl⟩) rfl (by decide) ?_
      refine fs_callV (y := m_X12_isHere) (as := [.ref 259]) dd_X12_qWordHere_52 me_X12_isHere lk_X12_275 in_X12_isHere se_X12_isHere ca_196 rfl rfl rfl (Nat.le_of_ble_eq_true rfl) (Nat.le_of_ble_eq_true rfl) rfl (V_X12_isHere (by omega) ca_259 H) (k2_Z fun r5 s6 H => ?_)
      refine fs_if_eq (tgt := 60) dd_X12_qWordHere_55 (by decide) (fun hc => ?_) (fun hc => ?_)
      · replace H := H.1 (bi_0 hc)
        refine fs_aload_n (k0 := 0) (i := 0) dd_X12_qWordHere_60 rfl rfl ?_
        refine fs_aload_n (k0 := 0) (i := 0) dd_X12_qWordHere_61 rfl rfl ?_
        refine fs_getr (ci := 12) (j := 91) (q := 260) dd_X12_qWordHere_62 fl_X12_210 ca_196 rfl (Or.inr ⟨_, rfl⟩) rfl (by decide) ?_
        refine fs_callV (y := m_X12_isHere) (as := [.ref 260]) dd_X12_qWordHere_65 me_X12_isHere lk_X12_275 in_X12_isHere se_X12_isHere ca_196 rfl rfl rfl (Nat.le_of_ble_eq_true rfl) (Nat.le_of_ble_eq_true rfl) rfl (V_X12_isHere (by omega) ca_260 H) (k2_Z fun r7 s8 H => ?_)
        refine fs_if_eq (tgt := 73) dd_X12_qWordHere_68 (by decide) (fun hc => ?_) (fun hc => ?_)
        · replace H := H.1 (bi_0 hc)
          refine fs_aload_n (k0 := 0) (i := 0) dd_X12_qWordHere_73 rfl rfl ?_
          refine fs_aload_n (k0 := 0) (i := 0) dd_X12_qWordHere_74 rfl rfl ?_
          refine fs_getr (ci := 12) (j := 92) (q := 261) dd_X12_qWordHere_75 fl_X12_213 ca_196 rfl (Or.inr ⟨_, rfl⟩) rfl (by decide) ?_
          refine fs_callV (y := m_X12_isHere) (as := [.ref 261]) dd_X12_qWordHere_78 me_X12_isHere lk_X12_275 in_X12_isHere se_X12_isHere ca_196 rfl rfl rfl (Nat.le_of_ble_eq_true rfl) (Nat.le_of_ble_eq_true rfl) rfl (V_X12_isHere (by omega) ca_261 H) (k2_Z fun r9 s10 H => ?_)
          refine fs_if_eq (tgt := 86) dd_X12_qWordHere_81 (by decide) (fun hc => ?_) (fun hc => ?_)
          · replace H := H.1 (bi_0 hc)
            refine fs_aload_n (k0 := 0) (i := 0) dd_X12_qWordHere_86 rfl rfl ?_
            refine fs_aload_n (k0 := 0) (i := 0) dd_X12_qWordHere_87 rfl rfl ?_
            refine fs_getr (ci := 12) (j := 93) (q := 262) dd_X12_qWordHere_88 fl_X12_216 ca_196 rfl (Or.inr ⟨_, rfl⟩) rfl (by decide) ?_
            refine fs_callV (y := m_X12_isHere) (as := [.ref 262]) dd_X12_qWordHere_91 me_X12_isHere lk_X12_275 in_X12_isHere se_X12_isHere ca_196 rfl rfl rfl (Nat.le_of_ble_eq_true rfl) (Nat.le_of_ble_eq_true rfl) rfl (V_X12_isHere (by omega) ca_262 H) (k2_Z fun r11 s12 H => ?_)
            refine fs_if_eq (tgt := 100) dd_X12_qWordHere_94 (by decide) (fun hc => ?_) (fun hc => ?_)
            · replace H := H.1 (bi_0 hc)
              refine fs_aload_n (k0 := 0) (i := 0) dd_X12_qWordHere_100 rfl rfl ?_
              refine fs_aload_n (k0 := 0) (i := 0) dd_X12_qWordHere_101 rfl rfl ?_
              refine fs_getr (ci := 12) (j := 94) (q := 263) dd_X12_qWordHere_102 fl_X12_219 ca_196 rfl (Or.inr ⟨_, rfl⟩) rfl (by decide) ?_
              refine fs_callV (y := m_X12_isHere) (as := [.ref 263]) dd_X12_qWordHere_105 me_X12_isHere lk_X12_275 in_X12_isHere se_X12_isHere ca_196 rfl rfl rfl (Nat.le_of_ble_eq_true rfl) (Nat.le_of_ble_eq_true rfl) rfl (V_X12_isHere (by omega) ca_263 H) (k2_Z fun r13 s14 H => ?_)
              refine fs_if_eq (tgt := 114) dd_X12_qWordHere_108 (by decide) (fun hc => ?_) (fun hc => ?_)
              · replace H := H.1 (bi_0 hc)
                refine fs_aload_n (k0 := 0) (i := 0) dd_X12_qWordHere_114 rfl rfl ?_
                refine fs_aload_n (k0 := 0) (i := 0) dd_X12_qWordHere_115 rfl rfl ?_
                refine fs_getr (ci := 12) (j := 95) (q := 264) dd_X12_qWordHere_116 fl_X12_222 ca_196 rfl (Or.inr ⟨_, rfl⟩) rfl (by decide) ?_
                refine fs_callV (y := m_X12_isHere) (as := [.ref 264]) dd_X12_qWordHere_119 me_X12_isHere lk_X12_275 in_X12_isHere se_X12_isHere ca_196 rfl rfl rfl (Nat.le_of_ble_eq_true rfl) (Nat.le_of_ble_eq_true rfl) rfl (V_X12_isHere (by omega) ca_264 H) (k2_Z fun r15 s16 H => ?_)
                refine fs_if_eq (tgt := 128) dd_X12_qWordHere_122 (by decide) (fun hc => ?_) (fun hc => ?_)
                · replace H := H.1 (bi_0 hc)
                  refine fs_aload_n (k0 := 0) (i := 0) dd_X12_qWordHere_128 rfl rfl ?_
                  refine fs_aload_n (k0 := 0) (i := 0) dd_X12_qWordHere_129 rfl rfl ?_
                  refine fs_getr (ci := 12) (j := 96) (q := 265) dd_X12_qWordHere_130 fl_X12_225 ca_196 rfl (Or.inr ⟨_, rfl⟩) rfl (by decide) ?_
                  refine fs_callV (y := m_X12_isHere) (as := [.ref 265]) dd_X12_qWordHere_133 me_X12_isHere lk_X12_275 in_X12_isHere se_X12_isHere ca_196 rfl rfl rfl (Nat.le_of_ble_eq_true rfl) (Nat.le_of_ble_eq_true rfl) rfl (V_X12_isHere (by omega) ca_265 H) (k2_Z fun r17 s18 H => ?_)
                  refine fs_if_eq (tgt := 142) dd_X12_qWordHere_136 (by decide) (fun hc => ?_) (fun hc => ?_)
                  · replace H := H.1 (bi_0 hc)
                    refine fs_aload_n (k0 := 0) (i := 0) dd_X12_qWordHere_142 rfl rfl ?_
                    refine fs_aload_n (k0 := 0) (i := 0) dd_X12_qWordHere_143 rfl rfl ?_
                    refine fs_getr (ci := 12) (j := 97) (q := 266) dd_X12_qWordHere_144 fl_X12_228 ca_196 rfl (Or.inr ⟨_, rfl⟩) rfl (by decide) ?_
                    refine fs_callV (y := m_X12_isHere) (as := [.ref 266]) dd_X12_qWordHere_147 me_X12_isHere lk_X12_275 in_X12_isHere se_X12_isHere ca_196 rfl rfl rfl (Nat.le_of_ble_eq_true rfl) (Nat.le_of_ble_eq_true rfl) rfl (V_X12_isHere (by omega) ca_266 H) (k2_Z fun r19 s20 H => ?_)
                    refine fs_if_eq (tgt := 156) dd_X12_qWordHere_150 (by decide) (fun hc => ?_) (fun hc => ?_)
                    · replace H := H.1 (bi_0 hc)
                      refine fs_aload_n (k0 := 0) (i := 0) dd_X12_qWordHere_156 rfl rfl ?_
                      refine fs_aload_n (k0 := 0) (i := 0) dd_X12_qWordHere_157 rfl rfl ?_
                      refine fs_getr (ci := 12) (j := 98) (q := 267) dd_X12_qWordHere_158 fl_X12_231 ca_196 rfl (Or.inr ⟨_, rfl⟩) rfl (by decide) ?_
                      refine fs_callV (y := m_X12_isHere) (as := [.ref 267]) dd_X12_qWordHere_161 me_X12_isHere lk_X12_275 in_X12_isHere se_X12_isHere ca_196 rfl rfl rfl (Nat.le_of_ble_eq_true rfl) (Nat.le_of_ble_eq_true rfl) rfl (V_X12_isHere (by omega) ca_267 H) (k2_Z fun r21 s22 H => ?_)
                      refine fs_if_eq (tgt := 170) dd_X12_qWordHere_164 (by decide) (fun hc => ?_) (fun hc => ?_)
                      · replace H := H.1 (bi_0 hc)
                        refine fs_aload_n (k0 := 0) (i := 0) dd_X12_qWordHere_170 rfl rfl ?_
                        refine fs_aload_n (k0 := 0) (i := 0) dd_X12_qWordHere_171 rfl rfl ?_
                        refine fs_getr (ci := 12) (j := 99) (q := 268) dd_X12_qWordHere_172 fl_X12_234 ca_196 rfl (Or.inr ⟨_, rfl⟩) rfl (by decide) ?_
                        refine fs_callV (y := m_X12_isHere) (as := [.ref 268]) dd_X12_qWordHere_175 me_X12_isHere lk_X12_275 in_X12_isHere se_X12_isHere ca_196 rfl rfl rfl (Nat.le_of_ble_eq_true rfl) (Nat.le_of_ble_eq_true rfl) rfl (V_X12_isHere (by omega) ca_268 H) (k2_Z fun r23 s24 H => ?_)
                        refine fs_if_eq (tgt := 184) dd_X12_qWordHere_178 (by decide) (fun hc => ?_) (fun hc => ?_)
                        · replace H := H.1 (bi_0 hc)
                          refine fs_iconst (n := -1) (v := -1) dd_X12_qWordHere_184 (by decide) ?_
                          exact fs_iret dd_X12_qWordHere_185 rfl H
                        · replace H := H.2 (bi_1 hc)
                          refine fs_bipush (n := 12) (v := 12) dd_X12_qWordHere_181 (by decide) ?_
                          exact fs_iret dd_X12_qWordHere_183 rfl H
                      · replace H := H.2 (bi_1 hc)
                        refine fs_bipush (n := 11) (v := 11) dd_X12_qWordHere_167 (by decide) ?_
                        exact fs_iret dd_X12_qWordHere_169 rfl H
                    · replace H := H.2 (bi_1 hc)
                      refine fs_bipush (n := 10) (v := 10) dd_X12_qWordHere_153 (by decide) ?_
                      exact fs_iret dd_X12_qWordHere_155 rfl H
                  · replace H := H.2 (bi_1 hc)
                    refine fs_bipush (n := 9) (v := 9) dd_X12_qWordHere_139 (by decide) ?_
                    exact fs_iret dd_X12_qWordHere_141 rfl H
                · replace H := H.2 (bi_1 hc)
                  refine fs_bipush (n := 8) (v := 8) dd_X12_qWordHere_125 (by decide) ?_
                  exact fs_iret dd_X12_qWordHere_127 rfl H
              · replace H := H.2 (bi_1 hc)
                refine fs_bipush (n := 7) (v := 7) dd_X12_qWordHere_111 (by decide) ?_
                exact fs_iret dd_X12_qWordHere_113 rfl H
            · replace H := H.2 (bi_1 hc)
              refine fs_bipush (n := 6) (v := 6) dd_X12_qWordHere_97 (by decide) ?_
              exact fs_iret dd_X12_qWordHere_99 rfl H
          · replace H := H.2 (bi_1 hc)
            refine fs_iconst (n := 5) (v := 5) dd_X12_qWordHere_84 (by decide) ?_
            exact fs_iret dd_X12_qWordHere_85 rfl H
        · replace H := H.2 (bi_1 hc)
          refine fs_iconst (n := 4) (v := 4) dd_X12_qWordHere_71 (by decide) ?_
          exact fs_iret dd_X12_qWordHere_72 rfl H
      · replace H := H.2 (bi_1 hc)
        refine fs_iconst (n := 3) (v := 3) dd_X12_qWordHere_58 (by decide) ?_
        exact fs_iret dd_X12_qWordHere_59 rfl H
    · replace H := H.2 (bi_1 hc)
      refine fs_iconst (n := 2) (v := 2) dd_X12_qWordHere_45 (by decide) ?_
      exact fs_iret dd_X12_qWordHere_46 rfl H
  · replace H := H.2 (bi_1 hc)
    refine fs_iconst (n := 1) (v := 1) dd_X12_qWordHere_32 (by decide) ?_
    exact fs_iret dd_X12_qWordHere_33 rfl H
set_option maxRecDepth 100000 in
set_option maxHeartbeats 4000000 in
theorem V_X12_qWordHere {g : fz_G} {l : Launch} {d : Nat} (hD : 2 ≤ d)   {s : fz_s} {Q : Int32 → fz_s → Prop} (H : wp_X12_qWordHere  s Q) : fs_V g l m_X12_qWordHere d false 0 (fz_en [.ref 196] 1) [] s (rI Q) := by
  obtain ⟨d, rfl⟩ : ∃ e, d = e + 1 := ⟨d - 1, by omega⟩
  unfold wp_X12_qWordHere at H
  refine fs_aload_n (k0 := 0) (i := 0) dd_X12_qWordHere_0 rfl rfl ?_
  refine fs_geti (ci := 12) (j := 53) dd_X12_qWordHere_1 fl_X12_310 ca_196 rfl (Or.inl rfl) ?_
  refine fs_iconst (n := 2) (v := 2) dd_X12_qWordHere_4 (by decide) ?_
  refine fs_icmp_ge (tgt := 21) dd_X12_qWordHere_5 (by decide) (fun hc => ?_) (fun hc => ?_)
  · replace H := H.1 hc
    refine fs_weak (ls2 := [.ref 196]) (fz_le_e fz_le_n) ?_
    exact V_nd_X12_qWordHere_21 hD    H
  · replace H := H.2 hc
    refine fs_aload_n (k0 := 0) (i := 0) dd_X12_qWordHere_8 rfl rfl ?_
    refine fs_aload_n (k0 := 0) (i := 0) dd_X12_qWordHere_9 rfl rfl ?_
    refine fs_getr (ci := 12) (j := 87) (q := 256) dd_X12_qWordHere_10 fl_X12_198 ca_196 rfl (Or.inr ⟨_, rfl⟩) rfl (by decide) ?_
    refine fs_callV (y := m_X12_isHere) (as := [.ref 256]) dd_X12_qWordHere_13 me_X12_isHere lk_X12_275 in_X12_isHere se_X12_isHere ca_196 rfl rfl rfl (Nat.le_of_ble_eq_true rfl) (Nat.le_of_ble_eq_true rfl) rfl (V_X12_isHere (by omega) ca_256 H) (k2_Z fun r1 s2 H => ?_)
    refine fs_if_eq (tgt := 21) dd_X12_qWordHere_16 (by decide) (fun hc => ?_) (fun hc => ?_)
    · replace H := H.1 (bi_0 hc)
      refine fs_weak (ls2 := [.ref 196]) (fz_le_e fz_le_n) ?_
      exact V_nd_X12_qWordHere_21 hD    H
    · replace H := H.2 (bi_1 hc)
      refine fs_iconst (n := 0) (v := 0) dd_X12_qWordHere_19 (by decide) ?_
      exact fs_iret dd_X12_qWordHere_20 rfl H
theorem dd_X12_qWordOf_0 : decode m_X12_qWordOf.2.1 0 = .ok (.aload_n 0, 1) := by decide +kernel
theorem dd_X12_qWordOf_1 : decode m_X12_qWordOf.2.1 1 = .ok (.invokevirtual 617, 3) := by decide +kernel
theorem dd_X12_qWordOf_4 : decode m_X12_qWordOf.2.1 4 = .ok (.istore_n 3, 1) := by decide +kernel
theorem dd_X12_qWordOf_5 : decode m_X12_qWordOf.2.1 5 = .ok (.iload_n 3, 1) := by decide +kernel
theorem dd_X12_qWordOf_6 : decode m_X12_qWordOf.2.1 6 = .ok (.iload_n 1, 1) := by decide +kernel
theorem dd_X12_qWordOf_7 : decode m_X12_qWordOf.2.1 7 = .ok (.if_icmp .lt 20, 3) := by decide +kernel
theorem dd_X12_qWordOf_10 : decode m_X12_qWordOf.2.1 10 = .ok (.iload_n 3, 1) := by decide +kernel
theorem dd_X12_qWordOf_11 : decode m_X12_qWordOf.2.1 11 = .ok (.iload_n 2, 1) := by decide +kernel
theorem dd_X12_qWordOf_12 : decode m_X12_qWordOf.2.1 12 = .ok (.if_icmp .ge 15, 3) := by decide +kernel
theorem dd_X12_qWordOf_15 : decode m_X12_qWordOf.2.1 15 = .ok (.aload_n 0, 1) := by decide +kernel
theorem dd_X12_qWordOf_16 : decode m_X12_qWordOf.2.1 16 = .ok (.iload_n 3, 1) := by decide +kernel
theorem dd_X12_qWordOf_17 : decode m_X12_qWordOf.2.1 17 = .ok (.invokevirtual 620, 3) := by decide +kernel
theorem dd_X12_qWordOf_20 : decode m_X12_qWordOf.2.1 20 = .ok (.ifCond .eq 7, 3) := by decide +kernel
theorem dd_X12_qWordOf_23 : decode m_X12_qWordOf.2.1 23 = .ok (.iload_n 3, 1) := by decide +kernel
theorem dd_X12_qWordOf_24 : decode m_X12_qWordOf.2.1 24 = .ok (.goto 4, 3) := by decide +kernel
theorem dd_X12_qWordOf_27 : decode m_X12_qWordOf.2.1 27 = .ok (.iconst (-1), 1) := by decide +kernel
theorem dd_X12_qWordOf_28 : decode m_X12_qWordOf.2.1 28 = .ok (.ireturn, 1) := by decide +kernel
def wp_X12_qWordOf (p0 : Int32) (p1 : Int32) (s : fz_s) (Q : Int32 → fz_s → Prop) : Prop :=
  wp_X12_qWordHere  s (fun r1 s2 => ((r1 < p0 → Q (-1) s2) ∧ (¬ r1 < p0 → ((p1 ≤ r1 → Q (-1) s2) ∧ (¬ p1 ≤ r1 → wp_X12_isAllowed r1 s2 (fun r3 s4 => ((r3 = false → Q (-1) s4) ∧ (r3 = true → Q r1 s4))))))))
set_option maxRecDepth 100000 in
set_option maxHeartbeats 4000000 in
theorem V_X12_qWordOf {g : fz_G} {l : Launch} {d : Nat} (hD : 3 ≤ d) {p0 : Int32} {p1 : Int32}  {s : fz_s} {Q : Int32 → fz_s → Prop} (H : wp_X12_qWordOf p0 p1 s Q) : fs_V g l m_X12_qWordOf d false 0 (fz_en [.ref 196, .int p0, .int p1] 4) [] s (rI Q) := by
  obtain ⟨d, rfl⟩ : ∃ e, d = e + 1 := ⟨d - 1, by omega⟩
  unfold wp_X12_qWordOf at H
  refine fs_aload_n (k0 := 0) (i := 0) dd_X12_qWordOf_0 rfl rfl ?_
  refine fs_callV (y := m_X12_qWordHere) (as := []) dd_X12_qWordOf_1 me_X12_qWordHere lk_X12_617 in_X12_qWordHere se_X12_qWordHere ca_196 rfl rfl rfl (Nat.le_of_ble_eq_true rfl) (Nat.le_of_ble_eq_true rfl) rfl (V_X12_qWordHere (by omega)  H) (k2_I fun r1 s2 H => ?_)
  refine fs_istore_n (k0 := 3) (i := 3) dd_X12_qWordOf_4 rfl (by decide) ?_
  refine fs_iload_n (k0 := 3) (i := 3) dd_X12_qWordOf_5 rfl rfl ?_
  refine fs_iload_n (k0 := 1) (i := 1) dd_X12_qWordOf_6 rfl rfl ?_
  refine fs_icmp_lt (tgt := 27) dd_X12_qWordOf_7 (by decide) (fun hc => ?_) (fun hc => ?_)
  · replace H := H.1 hc
    refine fs_iconst (n := -1) (v := -1) dd_X12_qWordOf_27 (by decide) ?_
    exact fs_iret dd_X12_qWordOf_28 rfl H
  · replace H := H.2 hc
    refine fs_iload_n (k0 := 3) (i := 3) dd_X12_qWordOf_10 rfl rfl ?_
    refine fs_iload_n (k0 := 2) (i := 2) dd_X12_qWordOf_11 rfl rfl ?_
    refine fs_icmp_ge (tgt := 27) dd_X12_qWordOf_12 (by decide) (fun hc => ?_) (fun hc => ?_)
    · replace H := H.1 hc
      refine fs_iconst (n := -1) (v := -1) dd_X12_qWordOf_27 (by decide) ?_
      exact fs_iret dd_X12_qWordOf_28 rfl H
    · replace H := H.2 hc
      refine fs_aload_n (k0 := 0) (i := 0) dd_X12_qWordOf_15 rfl rfl ?_
      refine fs_iload_n (k0 := 3) (i := 3) dd_X12_qWordOf_16 rfl rfl ?_
      refine fs_callV (y := m_X12_isAllowed) (as := [.int r1]) dd_X12_qWordOf_17 me_X12_isAllowed lk_X12_620 in_X12_isAllowed se_X12_isAllowed ca_196 rfl rfl rfl (Nat.le_of_ble_eq_true rfl) (Nat.le_of_ble_eq_true rfl) rfl (V_X12_isAllowed (by omega)  H) (k2_Z fun r3 s4 H => ?_)
      refine fs_if_eq (tgt := 27) dd_X12_qWordOf_20 (by decide) (fun hc => ?_) (fun hc => ?_)
      · replace H := H.1 (bi_0 hc)
        refine fs_iconst (n := -1) (v := -1) dd_X12_qWordOf_27 (by decide) ?_
        exact fs_iret dd_X12_qWordOf_28 rfl H
      · replace H := H.2 (bi_1 hc)
        refine fs_iload_n (k0 := 3) (i := 3) dd_X12_qWordOf_23 rfl rfl ?_
        refine fs_goto (tgt := 28) dd_X12_qWordOf_24 (by decide) ?_
        exact fs_iret dd_X12_qWordOf_28 rfl H

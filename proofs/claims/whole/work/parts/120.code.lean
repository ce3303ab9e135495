theorem dd_X12_isAsSeen_0 : decode m_X12_isAsSeen.2.1 0 = .ok (.iconst 0, 1) := by decide +kernel
theorem dd_X12_isAsSeen_1 : decode m_X12_isAsSeen.2.1 1 = .ok (.istore_n 2, 1) := by decide +kernel
theorem dd_X12_isAsSeen_2 : decode m_X12_isAsSeen.2.1 2 = .ok (.iload_n 2, 1) := by decide +kernel
theorem dd_X12_isAsSeen_3 : decode m_X12_isAsSeen.2.1 3 = .ok (.aload_n 0, 1) := by decide +kernel
theorem dd_X12_isAsSeen_4 : decode m_X12_isAsSeen.2.1 4 = .ok (.getfield 399, 3) := by decide +kernel
theorem dd_X12_isAsSeen_7 : decode m_X12_isAsSeen.2.1 7 = .ok (.if_icmp .ge 67, 3) := by decide +kernel
theorem dd_X12_isAsSeen_10 : decode m_X12_isAsSeen.2.1 10 = .ok (.aload_n 0, 1) := by decide +kernel
theorem dd_X12_isAsSeen_11 : decode m_X12_isAsSeen.2.1 11 = .ok (.getfield 145, 3) := by decide +kernel
theorem dd_X12_isAsSeen_14 : decode m_X12_isAsSeen.2.1 14 = .ok (.iconst 3, 1) := by decide +kernel
theorem dd_X12_isAsSeen_15 : decode m_X12_isAsSeen.2.1 15 = .ok (.iload_n 2, 1) := by decide +kernel
theorem dd_X12_isAsSeen_16 : decode m_X12_isAsSeen.2.1 16 = .ok (.imul, 1) := by decide +kernel
theorem dd_X12_isAsSeen_17 : decode m_X12_isAsSeen.2.1 17 = .ok (.iaload, 1) := by decide +kernel
theorem dd_X12_isAsSeen_18 : decode m_X12_isAsSeen.2.1 18 = .ok (.iload_n 1, 1) := by decide +kernel
theorem dd_X12_isAsSeen_19 : decode m_X12_isAsSeen.2.1 19 = .ok (.if_icmp .ne 49, 3) := by decide +kernel
theorem dd_X12_isAsSeen_22 : decode m_X12_isAsSeen.2.1 22 = .ok (.aload_n 0, 1) := by decide +kernel
theorem dd_X12_isAsSeen_23 : decode m_X12_isAsSeen.2.1 23 = .ok (.getfield 121, 3) := by decide +kernel
theorem dd_X12_isAsSeen_26 : decode m_X12_isAsSeen.2.1 26 = .ok (.iconst 0, 1) := by decide +kernel
theorem dd_X12_isAsSeen_27 : decode m_X12_isAsSeen.2.1 27 = .ok (.iaload, 1) := by decide +kernel
theorem dd_X12_isAsSeen_28 : decode m_X12_isAsSeen.2.1 28 = .ok (.sipush 999, 3) := by decide +kernel
theorem dd_X12_isAsSeen_31 : decode m_X12_isAsSeen.2.1 31 = .ok (.if_icmp .gt 35, 3) := by decide +kernel
theorem dd_X12_isAsSeen_34 : decode m_X12_isAsSeen.2.1 34 = .ok (.aload_n 0, 1) := by decide +kernel
theorem dd_X12_isAsSeen_35 : decode m_X12_isAsSeen.2.1 35 = .ok (.getfield 121, 3) := by decide +kernel
theorem dd_X12_isAsSeen_38 : decode m_X12_isAsSeen.2.1 38 = .ok (.iconst 1, 1) := by decide +kernel
theorem dd_X12_isAsSeen_39 : decode m_X12_isAsSeen.2.1 39 = .ok (.iconst 2, 1) := by decide +kernel
theorem dd_X12_isAsSeen_40 : decode m_X12_isAsSeen.2.1 40 = .ok (.aload_n 0, 1) := by decide +kernel
theorem dd_X12_isAsSeen_41 : decode m_X12_isAsSeen.2.1 41 = .ok (.getfield 145, 3) := by decide +kernel
theorem dd_X12_isAsSeen_44 : decode m_X12_isAsSeen.2.1 44 = .ok (.iconst 3, 1) := by decide +kernel
theorem dd_X12_isAsSeen_45 : decode m_X12_isAsSeen.2.1 45 = .ok (.iload_n 2, 1) := by decide +kernel
theorem dd_X12_isAsSeen_46 : decode m_X12_isAsSeen.2.1 46 = .ok (.imul, 1) := by decide +kernel
theorem dd_X12_isAsSeen_47 : decode m_X12_isAsSeen.2.1 47 = .ok (.iconst 1, 1) := by decide +kernel
theorem dd_X12_isAsSeen_48 : decode m_X12_isAsSeen.2.1 48 = .ok (.iadd, 1) := by decide +kernel
theorem dd_X12_isAsSeen_49 : decode m_X12_isAsSeen.2.1 49 = .ok (.iaload, 1) := by decide +kernel
theorem dd_X12_isAsSeen_50 : decode m_X12_isAsSeen.2.1 50 = .ok (.imul, 1) := by decide +kernel
theorem dd_X12_isAsSeen_51 : decode m_X12_isAsSeen.2.1 51 = .ok (.iadd, 1) := by decide +kernel
theorem dd_X12_isAsSeen_52 : decode m_X12_isAsSeen.2.1 52 = .ok (.iaload, 1) := by decide +kernel
theorem dd_X12_isAsSeen_53 : decode m_X12_isAsSeen.2.1 53 = .ok (.aload_n 0, 1) := by decide +kernel
theorem dd_X12_isAsSeen_54 : decode m_X12_isAsSeen.2.1 54 = .ok (.getfield 145, 3) := by decide +kernel
theorem dd_X12_isAsSeen_57 : decode m_X12_isAsSeen.2.1 57 = .ok (.iconst 3, 1) := by decide +kernel
theorem dd_X12_isAsSeen_58 : decode m_X12_isAsSeen.2.1 58 = .ok (.iload_n 2, 1) := by decide +kernel
theorem dd_X12_isAsSeen_59 : decode m_X12_isAsSeen.2.1 59 = .ok (.imul, 1) := by decide +kernel
theorem dd_X12_isAsSeen_60 : decode m_X12_isAsSeen.2.1 60 = .ok (.iconst 2, 1) := by decide +kernel
theorem dd_X12_isAsSeen_61 : decode m_X12_isAsSeen.2.1 61 = .ok (.iadd, 1) := by decide +kernel
theorem dd_X12_isAsSeen_62 : decode m_X12_isAsSeen.2.1 62 = .ok (.iaload, 1) := by decide +kernel
theorem dd_X12_isAsSeen_63 : decode m_X12_isAsSeen.2.1 63 = .ok (.if_icmp .eq 5, 3) := by decide +kernel
theorem dd_X12_isAsSeen_66 : decode m_X12_isAsSeen.2.1 66 = .ok (.iconst 0, 1) := by decide +kernel
theorem dd_X12_isAsSeen_67 : decode m_X12_isAsSeen.2.1 67 = .ok (.ireturn, 1) := by decide +kernel
theorem dd_X12_isAsSeen_68 : decode m_X12_isAsSeen.2.1 68 = .ok (.iinc 2 1, 3) := by decide +kernel
theorem dd_X12_isAsSeen_71 : decode m_X12_isAsSeen.2.1 71 = .ok (.goto (-69), 3) := by decide +kernel
theorem dd_X12_isAsSeen_74 : decode m_X12_isAsSeen.2.1 74 = .ok (.iconst 1, 1) := by decide +kernel
theorem dd_X12_isAsSeen_75 : decode m_X12_isAsSeen.2.1 75 = .ok (.ireturn, 1) := by decide +kernel
def nd_X12_isAsSeen_2  (K2 : Int32 → Int32 → fz_s → Prop) (Q : Bool → fz_s → Prop) (v1 : Int32) (v2 : Int32) (s : fz_s) : Prop :=
  (((s.1 196 66) ≤ v2 → Q true s) ∧ (¬ (s.1 196 66) ≤ v2 → vp_in (3 * v2) 48 ∧ ((¬ (s.1 240 (3 * v2).toNatClampNeg) = v1 → ∀ x1 : Int32, x1 = v2 + 1 → K2 v1 x1 s) ∧ ((s.1 240 (3 * v2).toNatClampNeg) = v1 → ((999 < (s.1 232 (0 : Int32).toNatClampNeg) → Q false s) ∧ (¬ 999 < (s.1 232 (0 : Int32).toNatClampNeg) → vp_in ((3 * v2) + 1) 48 ∧ vp_in (1 + (2 * (s.1 240 ((3 * v2) + 1).toNatClampNeg))) 150 ∧ vp_in ((3 * v2) + 2) 48 ∧ (((s.1 232 (1 + (2 * (s.1 240 ((3 * v2) + 1).toNatClampNeg))).toNatClampNeg) = (s.1 240 ((3 * v2) + 2).toNatClampNeg) → ∀ x2 : Int32, x2 = v2 + 1 → K2 v1 x2 s) ∧ (¬ (s.1 232 (1 + (2 * (s.1 240 ((3 * v2) + 1).toNatClampNeg))).toNatClampNeg) = (s.1 240 ((3 * v2) + 2).toNatClampNeg) → Q false s))))))))
def lp_X12_isAsSeen_2   (Q : Bool → fz_s → Prop) : Nat → Int32 → Int32 → fz_s → Prop
  | 0 => fun _ _ _ => False
  | n + 1 => nd_X12_isAsSeen_2  (lp_X12_isAsSeen_2   Q n) Q
def wp_X12_isAsSeen (p0 : Int32) (s : fz_s) (Q : Bool → fz_s → Prop) : Prop :=
  lp_X12_isAsSeen_2   Q 2048 p0 0 s
set_option maxRecDepth 100000 in
set_option maxHeartbeats 4000000 in
theorem V_nd_X12_isAsSeen_2 {g : fz_G} {l : Launch} {d : Nat} (hD : 0 ≤ d)   {K2 : Int32 → Int32 → fz_s → Prop} {Q : Bool → fz_s → Prop} {v1 : Int32} {v2 : Int32} {s : fz_s} (hK2 : ∀ {v1 : Int32} {v2 : Int32} {s : fz_s}, K2 v1 v2 s → fs_V g l m_X12_isAsSeen d false 2 [.ref 196, .int v1, .int v2] [] s (rZ Q)) (H : nd_X12_isAsSeen_2  K2 Q v1 v2 s) : fs_V g l m_X12_isAsSeen d false 2 [.ref 196, .int v1, .int v2] [] s (rZ Q) := by
  unfold nd_X12_isAsSeen_2 at H
  refine fs_iload_n (k0 := 2) (i := 2) dd_X12_isAsSeen_2 rfl rfl ?_
  refine fs_aload_n (k0 := 0) (i := 0) dd_X12_isAsSeen_3 rfl rfl ?_
  refine fs_geti (ci := 12) (j := 66) dd_X12_isAsSeen_4 fl_X12_399 ca_196 rfl (Or.inl rfl) ?_
  refine fs_icmp_ge (tgt := 74) dd_X12_isAsSeen_7 (by decide) (fun hc => ?_) (fun hc => ?_)
  · replace H := H.1 hc
    refine fs_iconst (n := 1) (v := 1) dd_X12_isAsSeen_74 (by decide) ?_
    exact fs_zret true dd_X12_isAsSeen_75 rfl rfl H
  · replace H := H.2 hc
    refine fs_aload_n (k0 := 0) (i := 0) dd_X12_isAsSeen_10 rfl rfl ?_
    refine fs_getr (ci := 12) (j := 67) (q := 240) dd_X12_isAsSeen_11 fl_X12_145 ca_196 rfl (Or.inr ⟨_, rfl⟩) rfl (by decide) ?_
    refine fs_iconst (n := 3) (v := 3) dd_X12_isAsSeen_14 (by decide) ?_
    refine fs_iload_n (k0 := 2) (i := 2) dd_X12_isAsSeen_15 rfl rfl ?_
    refine fs_imul dd_X12_isAsSeen_16 ?_
    have hb := H.1
    replace H := H.2
    refine fs_iald dd_X12_isAsSeen_17 ca_240 hb ?_
    refine fs_iload_n (k0 := 1) (i := 1) dd_X12_isAsSeen_18 rfl rfl ?_
    refine fs_icmp_ne (tgt := 68) dd_X12_isAsSeen_19 (by decide) (fun hc => ?_) (fun hc => ?_)
    · replace H := H.1 hc
      refine fs_iincN (i := 2) (m := 1) (c := 1) dd_X12_isAsSeen_68 rfl (by decide) (by decide) (fun x1 hx1 => ?_)
      replace H := H x1 hx1
      refine fs_goto (tgt := 2) dd_X12_isAsSeen_71 (by decide) ?_
      refine fs_weak (ls2 := [.ref 196, .int v1, .int x1]) (fz_le_e (fz_le_e (fz_le_e fz_le_n))) ?_
      exact hK2 H
    · replace H := H.2 hc
      refine fs_aload_n (k0 := 0) (i := 0) dd_X12_isAsSeen_22 rfl rfl ?_
      refine fs_getr (ci := 12) (j := 54) (q := 232) dd_X12_isAsSeen_23 fl_X12_121 ca_196 rfl (Or.inr ⟨_, rfl⟩) rfl (by decide) ?_
      refine fs_iconst (n := 0) (v := 0) dd_X12_isAsSeen_26 (by decide) ?_
      refine fs_iald dd_X12_isAsSeen_27 ca_232 (vp_in_nI (n := 0) (by decide) (by decide)) ?_
      refine fs_sipush (n := 999) (v := 999) dd_X12_isAsSeen_28 (by decide) ?_
      refine fs_icmp_gt (tgt := 66) dd_X12_isAsSeen_31 (by decide) (fun hc => ?_) (fun hc => ?_)
      · replace H := H.1 hc
        refine fs_iconst (n := 0) (v := 0) dd_X12_isAsSeen_66 (by decide) ?_
        exact fs_zret false dd_X12_isAsSeen_67 rfl rfl H
      · replace H := H.2 hc
        refine fs_aload_n (k0 := 0) (i := 0) dd_X12_isAsSeen_34 rfl rfl ?_
        refine fs_getr (ci := 12) (j := 54) (q := 232) dd_X12_isAsSeen_35 fl_X12_121 ca_196 rfl (Or.inr ⟨_, rfl⟩) rfl (by decide) ?_
        refine fs_iconst (n := 1) (v := 1) dd_X12_isAsSeen_38 (by decide) ?_
        refine fs_iconst (n := 2) (v := 2) dd_X12_isAsSeen_39 (by decide) ?_
        refine fs_aload_n (k0 := 0) (i := 0) dd_X12_isAsSeen_40 rfl rfl ?_
        refine fs_getr (ci := 12) (j := 67) (q := 240) dd_X12_isAsSeen_41 fl_X12_145 ca_196 rfl (Or.inr ⟨_, rfl⟩) rfl (by decide) ?_
        refine fs_iconst (n := 3) (v := 3) dd_X12_isAsSeen_44 (by decide) ?_
        refine fs_iload_n (k0 := 2) (i := 2) dd_X12_isAsSeen_45 rfl rfl ?_
        refine fs_imul dd_X12_isAsSeen_46 ?_
        refine fs_iconst (n := 1) (v := 1) dd_X12_isAsSeen_47 (by decide) ?_
        refine fs_iadd dd_X12_isAsSeen_48 ?_
        have hb := H.1
        replace H := H.2
        refine fs_iald dd_X12_isAsSeen_49 ca_240 hb ?_
        refine fs_imul dd_X12_isAsSeen_50 ?_
        refine fs_iadd dd_X12_isAsSeen_51 ?_
        have hb := H.1
        replace H := H.2
        refine fs_iald dd_X12_isAsSeen_52 ca_232 hb ?_
        refine fs_aload_n (k0 := 0) (i := 0) dd_X12_isAsSeen_53 rfl rfl ?_
        refine fs_getr (ci := 12) (j := 67) (q := 240) dd_X12_isAsSeen_54 fl_X12_145 ca_196 rfl (Or.inr ⟨_, rfl⟩) rfl (by decide) ?_
        refine fs_iconst (n := 3) (v := 3) dd_X12_isAsSeen_57 (by decide) ?_
        refine fs_iload_n (k0 := 2) (i := 2) dd_X12_isAsSeen_58 rfl rfl ?_
        refine fs_imul dd_X12_isAsSeen_59 ?_
        refine fs_iconst (n := 2) (v := 2) dd_X12_isAsSeen_60 (by decide) ?_
        refine fs_iadd dd_X12_isAsSeen_61 ?_
        have hb := H.1
        replace H := H.2
        refine fs_iald dd_X12_isAsSeen_62 ca_240 hb ?_
        refine fs_icmp_eq (tgt := 68) dd_X12_isAsSeen_63 (by decide) (fun hc => ?_) (fun hc => ?_)
        · replace H := H.1 hc
          refine fs_iincN (i := 2) (m := 1) (c := 1) dd_X12_isAsSeen_68 rfl (by decide) (by decide) (fun x2 hx2 => ?_)
          replace H := H x2 hx2
          refine fs_goto (tgt := 2) dd_X12_isAsSeen_71 (by decide) ?_
          refine fs_weak (ls2 := [.ref 196, .int v1, .int x2]) (fz_le_e (fz_le_e (fz_le_e fz_le_n))) ?_
          exact hK2 H
        · replace H := H.2 hc
          refine fs_iconst (n := 0) (v := 0) dd_X12_isAsSeen_66 (by decide) ?_
          exact fs_zret false dd_X12_isAsSeen_67 rfl rfl H
set_option maxRecDepth 100000 in
set_option maxHeartbeats 4000000 in
theorem V_lp_X12_isAsSeen_2 {g : fz_G} {l : Launch} {d : Nat} (hD : 0 ≤ d)    {Q : Bool → fz_s → Prop}  (n : Nat) : ∀ {v1 : Int32} {v2 : Int32} {s : fz_s}, lp_X12_isAsSeen_2   Q n v1 v2 s → fs_V g l m_X12_isAsSeen d false 2 [.ref 196, .int v1, .int v2] [] s (rZ Q) := by
  induction n with
  | zero => intro v1 v2 s H; exact H.elim
  | succ n ih => intro v1 v2 s H; exact V_nd_X12_isAsSeen_2 hD  (fun H => ih H) H
set_option maxRecDepth 100000 in
set_option maxHeartbeats 4000000 in
theorem V_X12_isAsSeen {g : fz_G} {l : Launch} {d : Nat} (hD : 0 ≤ d) {p0 : Int32}  {s : fz_s} {Q : Bool → fz_s → Prop} (H : wp_X12_isAsSeen p0 s Q) : fs_V g l m_X12_isAsSeen d false 0 (fz_en [.ref 196, .int p0] 3) [] s (rZ Q) := by
  unfold wp_X12_isAsSeen at H
  refine fs_iconst (n := 0) (v := 0) dd_X12_isAsSeen_0 (by decide) ?_
  refine fs_istore_n (k0 := 2) (i := 2) dd_X12_isAsSeen_1 rfl (by decide) ?_
  refine fs_weak (ls2 := [.ref 196, .int p0, .int 0]) (fz_le_e (fz_le_e (fz_le_e fz_le_n))) ?_
  exact V_lp_X12_isAsSeen_2 hD    2048 H
theorem dd_X12_laysFits_0 : decode m_X12_laysFits.2.1 0 = .ok (.aload_n 0, 1) := by decide +kernel
theorem dd_X12_laysFits_1 : decode m_X12_laysFits.2.1 1 = .ok (.iconst 0, 1) := by decide +kernel
theorem dd_X12_laysFits_2 : decode m_X12_laysFits.2.1 2 = .ok (.putfield 574, 3) := by decide +kernel
theorem dd_X12_laysFits_5 : decode m_X12_laysFits.2.1 5 = .ok (.aload_n 0, 1) := by decide +kernel
theorem dd_X12_laysFits_6 : decode m_X12_laysFits.2.1 6 = .ok (.invokevirtual 529, 3) := by decide +kernel
theorem dd_X12_laysFits_9 : decode m_X12_laysFits.2.1 9 = .ok (.iconst 0, 1) := by decide +kernel
theorem dd_X12_laysFits_10 : decode m_X12_laysFits.2.1 10 = .ok (.istore_n 2, 1) := by decide +kernel
theorem dd_X12_laysFits_11 : decode m_X12_laysFits.2.1 11 = .ok (.iload_n 2, 1) := by decide +kernel
theorem dd_X12_laysFits_12 : decode m_X12_laysFits.2.1 12 = .ok (.bipush 9, 2) := by decide +kernel
theorem dd_X12_laysFits_14 : decode m_X12_laysFits.2.1 14 = .ok (.if_icmp .gt 128, 3) := by decide +kernel
theorem dd_X12_laysFits_17 : decode m_X12_laysFits.2.1 17 = .ok (.aload_n 0, 1) := by decide +kernel
theorem dd_X12_laysFits_18 : decode m_X12_laysFits.2.1 18 = .ok (.getfield 121, 3) := by decide +kernel
theorem dd_X12_laysFits_21 : decode m_X12_laysFits.2.1 21 = .ok (.iconst 5, 1) := by decide +kernel
theorem dd_X12_laysFits_22 : decode m_X12_laysFits.2.1 22 = .ok (.iconst 3, 1) := by decide +kernel
theorem dd_X12_laysFits_23 : decode m_X12_laysFits.2.1 23 = .ok (.iload_n 1, 1) := by decide +kernel
theorem dd_X12_laysFits_24 : decode m_X12_laysFits.2.1 24 = .ok (.imul, 1) := by decide +kernel
theorem dd_X12_laysFits_25 : decode m_X12_laysFits.2.1 25 = .ok (.iadd, 1) := by decide +kernel
theorem dd_X12_laysFits_26 : decode m_X12_laysFits.2.1 26 = .ok (.iload_n 2, 1) := by decide +kernel
theorem dd_X12_laysFits_27 : decode m_X12_laysFits.2.1 27 = .ok (.iastore, 1) := by decide +kernel
theorem dd_X12_laysFits_28 : decode m_X12_laysFits.2.1 28 = .ok (.iconst 1, 1) := by decide +kernel
theorem dd_X12_laysFits_29 : decode m_X12_laysFits.2.1 29 = .ok (.istore_n 3, 1) := by decide +kernel
theorem dd_X12_laysFits_30 : decode m_X12_laysFits.2.1 30 = .ok (.iconst 0, 1) := by decide +kernel
theorem dd_X12_laysFits_31 : decode m_X12_laysFits.2.1 31 = .ok (.istore 4, 2) := by decide +kernel
theorem dd_X12_laysFits_33 : decode m_X12_laysFits.2.1 33 = .ok (.iload 4, 2) := by decide +kernel
theorem dd_X12_laysFits_35 : decode m_X12_laysFits.2.1 35 = .ok (.bipush 30, 2) := by decide +kernel
theorem dd_X12_laysFits_37 : decode m_X12_laysFits.2.1 37 = .ok (.if_icmp .gt 74, 3) := by decide +kernel
theorem dd_X12_laysFits_40 : decode m_X12_laysFits.2.1 40 = .ok (.iload_n 3, 1) := by decide +kernel
theorem dd_X12_laysFits_41 : decode m_X12_laysFits.2.1 41 = .ok (.ifCond .eq 16, 3) := by decide +kernel
theorem dd_X12_laysFits_44 : decode m_X12_laysFits.2.1 44 = .ok (.aload_n 0, 1) := by decide +kernel
theorem dd_X12_laysFits_45 : decode m_X12_laysFits.2.1 45 = .ok (.iload 4, 2) := by decide +kernel
theorem dd_X12_laysFits_47 : decode m_X12_laysFits.2.1 47 = .ok (.invokevirtual 577, 3) := by decide +kernel
theorem dd_X12_laysFits_50 : decode m_X12_laysFits.2.1 50 = .ok (.ifCond .eq 7, 3) := by decide +kernel
theorem dd_X12_laysFits_53 : decode m_X12_laysFits.2.1 53 = .ok (.iconst 1, 1) := by decide +kernel
theorem dd_X12_laysFits_54 : decode m_X12_laysFits.2.1 54 = .ok (.goto 4, 3) := by decide +kernel
theorem dd_X12_laysFits_57 : decode m_X12_laysFits.2.1 57 = .ok (.iconst 0, 1) := by decide +kernel
theorem dd_X12_laysFits_58 : decode m_X12_laysFits.2.1 58 = .ok (.istore_n 3, 1) := by decide +kernel
theorem dd_X12_laysFits_59 : decode m_X12_laysFits.2.1 59 = .ok (.aload_n 0, 1) := by decide +kernel
theorem dd_X12_laysFits_60 : decode m_X12_laysFits.2.1 60 = .ok (.getfield 148, 3) := by decide +kernel
theorem dd_X12_laysFits_63 : decode m_X12_laysFits.2.1 63 = .ok (.bipush 62, 2) := by decide +kernel
theorem dd_X12_laysFits_65 : decode m_X12_laysFits.2.1 65 = .ok (.iload_n 2, 1) := by decide +kernel
theorem dd_X12_laysFits_66 : decode m_X12_laysFits.2.1 66 = .ok (.imul, 1) := by decide +kernel
theorem dd_X12_laysFits_67 : decode m_X12_laysFits.2.1 67 = .ok (.iconst 2, 1) := by decide +kernel
theorem dd_X12_laysFits_68 : decode m_X12_laysFits.2.1 68 = .ok (.iload 4, 2) := by decide +kernel
theorem dd_X12_laysFits_70 : decode m_X12_laysFits.2.1 70 = .ok (.imul, 1) := by decide +kernel
theorem dd_X12_laysFits_71 : decode m_X12_laysFits.2.1 71 = .ok (.iadd, 1) := by decide +kernel
theorem dd_X12_laysFits_72 : decode m_X12_laysFits.2.1 72 = .ok (.aload_n 0, 1) := by decide +kernel
theorem dd_X12_laysFits_73 : decode m_X12_laysFits.2.1 73 = .ok (.getfield 121, 3) := by decide +kernel
theorem dd_X12_laysFits_76 : decode m_X12_laysFits.2.1 76 = .ok (.iconst 1, 1) := by decide +kernel
theorem dd_X12_laysFits_77 : decode m_X12_laysFits.2.1 77 = .ok (.iaload, 1) := by decide +kernel
theorem dd_X12_laysFits_78 : decode m_X12_laysFits.2.1 78 = .ok (.iastore, 1) := by decide +kernel
theorem dd_X12_laysFits_79 : decode m_X12_laysFits.2.1 79 = .ok (.aload_n 0, 1) := by decide +kernel
theorem dd_X12_laysFits_80 : decode m_X12_laysFits.2.1 80 = .ok (.getfield 148, 3) := by decide +kernel
theorem dd_X12_laysFits_83 : decode m_X12_laysFits.2.1 83 = .ok (.bipush 62, 2) := by decide +kernel
theorem dd_X12_laysFits_85 : decode m_X12_laysFits.2.1 85 = .ok (.iload_n 2, 1) := by decide +kernel
theorem dd_X12_laysFits_86 : decode m_X12_laysFits.2.1 86 = .ok (.imul, 1) := by decide +kernel
theorem dd_X12_laysFits_87 : decode m_X12_laysFits.2.1 87 = .ok (.iconst 2, 1) := by decide +kernel
theorem dd_X12_laysFits_88 : decode m_X12_laysFits.2.1 88 = .ok (.iload 4, 2) := by decide +kernel
theorem dd_X12_laysFits_90 : decode m_X12_laysFits.2.1 90 = .ok (.imul, 1) := by decide +kernel
theorem dd_X12_laysFits_91 : decode m_X12_laysFits.2.1 91 = .ok (.iadd, 1) := by decide +kernel
theorem dd_X12_laysFits_92 : decode m_X12_laysFits.2.1 92 = .ok (.iconst 1, 1) := by decide +kernel
theorem dd_X12_laysFits_93 : decode m_X12_laysFits.2.1 93 = .ok (.iadd, 1) := by decide +kernel
theorem dd_X12_laysFits_94 : decode m_X12_laysFits.2.1 94 = .ok (.aload_n 0, 1) := by decide +kernel
theorem dd_X12_laysFits_95 : decode m_X12_laysFits.2.1 95 = .ok (.getfield 121, 3) := by decide +kernel
theorem dd_X12_laysFits_98 : decode m_X12_laysFits.2.1 98 = .ok (.iconst 3, 1) := by decide +kernel
theorem dd_X12_laysFits_99 : decode m_X12_laysFits.2.1 99 = .ok (.iaload, 1) := by decide +kernel
theorem dd_X12_laysFits_100 : decode m_X12_laysFits.2.1 100 = .ok (.iastore, 1) := by decide +kernel
theorem dd_X12_laysFits_101 : decode m_X12_laysFits.2.1 101 = .ok (.aload_n 0, 1) := by decide +kernel
theorem dd_X12_laysFits_102 : decode m_X12_laysFits.2.1 102 = .ok (.invokevirtual 497, 3) := by decide +kernel
theorem dd_X12_laysFits_105 : decode m_X12_laysFits.2.1 105 = .ok (.iinc 4 1, 3) := by decide +kernel
theorem dd_X12_laysFits_108 : decode m_X12_laysFits.2.1 108 = .ok (.goto (-75), 3) := by decide +kernel
theorem dd_X12_laysFits_111 : decode m_X12_laysFits.2.1 111 = .ok (.aload_n 0, 1) := by decide +kernel
theorem dd_X12_laysFits_112 : decode m_X12_laysFits.2.1 112 = .ok (.invokevirtual 500, 3) := by decide +kernel
theorem dd_X12_laysFits_115 : decode m_X12_laysFits.2.1 115 = .ok (.aload_n 0, 1) := by decide +kernel
theorem dd_X12_laysFits_116 : decode m_X12_laysFits.2.1 116 = .ok (.getfield 151, 3) := by decide +kernel
theorem dd_X12_laysFits_119 : decode m_X12_laysFits.2.1 119 = .ok (.iload_n 2, 1) := by decide +kernel
theorem dd_X12_laysFits_120 : decode m_X12_laysFits.2.1 120 = .ok (.iload_n 3, 1) := by decide +kernel
theorem dd_X12_laysFits_121 : decode m_X12_laysFits.2.1 121 = .ok (.bastore, 1) := by decide +kernel
theorem dd_X12_laysFits_122 : decode m_X12_laysFits.2.1 122 = .ok (.iload_n 3, 1) := by decide +kernel
theorem dd_X12_laysFits_123 : decode m_X12_laysFits.2.1 123 = .ok (.ifCond .eq 13, 3) := by decide +kernel
theorem dd_X12_laysFits_126 : decode m_X12_laysFits.2.1 126 = .ok (.aload_n 0, 1) := by decide +kernel
theorem dd_X12_laysFits_127 : decode m_X12_laysFits.2.1 127 = .ok (.dup, 1) := by decide +kernel
theorem dd_X12_laysFits_128 : decode m_X12_laysFits.2.1 128 = .ok (.getfield 574, 3) := by decide +kernel
theorem dd_X12_laysFits_131 : decode m_X12_laysFits.2.1 131 = .ok (.iconst 1, 1) := by decide +kernel
theorem dd_X12_laysFits_132 : decode m_X12_laysFits.2.1 132 = .ok (.iadd, 1) := by decide +kernel
theorem dd_X12_laysFits_133 : decode m_X12_laysFits.2.1 133 = .ok (.putfield 574, 3) := by decide +kernel
theorem dd_X12_laysFits_136 : decode m_X12_laysFits.2.1 136 = .ok (.iinc 2 1, 3) := by decide +kernel
theorem dd_X12_laysFits_139 : decode m_X12_laysFits.2.1 139 = .ok (.goto (-128), 3) := by decide +kernel
theorem dd_X12_laysFits_142 : decode m_X12_laysFits.2.1 142 = .ok (.aload_n 0, 1) := by decide +kernel
theorem dd_X12_laysFits_143 : decode m_X12_laysFits.2.1 143 = .ok (.invokevirtual 535, 3) := by decide +kernel
theorem dd_X12_laysFits_146 : decode m_X12_laysFits.2.1 146 = .ok (.return_, 1) := by decide +kernel
def nd_X12_laysFits_58  (K11 : Int32 → Int32 → fz_s → Prop) (K33 : Int32 → Int32 → Bool → Int32 → fz_s → Prop) (Q : fz_s → Prop) (v1 : Int32) (v2 : Int32) (v4 : Int32) (u0 : Bool) (s : fz_s) : Prop :=
  vp_in ((62 * v2) + (2 * v4)) 620 ∧ ∀ s1 : fz_s, s1 = si s 241 ((62 * v2) + (2 * v4)).toNatClampNeg (s.1 232 (1 : Int32).toNatClampNeg) → vp_in (((62 * v2) + (2 * v4)) + 1) 620 ∧ ∀ s2 : fz_s, s2 = si s1 241 (((62 * v2) + (2 * v4)) + 1).toNatClampNeg (s1.1 232 (3 : Int32).toNatClampNeg) → wp_X12_yearGoes  s2 (fun s4 => ∀ x5 : Int32, x5 = v4 + 1 → K33 v1 v2 u0 x5 s4)
def nd_X12_laysFits_33  (K11 : Int32 → Int32 → fz_s → Prop) (K33 : Int32 → Int32 → Bool → Int32 → fz_s → Prop) (Q : fz_s → Prop) (v1 : Int32) (v2 : Int32) (v3 : Bool) (v4 : Int32) (s : fz_s) : Prop :=
  ((30 < v4 → wp_X12_triesAnew  s (fun s2 => vp_in v2 10 ∧ ∀ s3 : fz_s, s3 = si s2 242 v2.toNatClampNeg (bi v3) → ((v3 = false → ∀ x4 : Int32, x4 = v2 + 1 → K11 v1 x4 s3) ∧ (v3 = true → ∀ s5 : fz_s, s5 = si s3 196 70 ((s3.1 196 70) + 1) → ∀ x6 : Int32, x6 = v2 + 1 → K11 v1 x6 s5)))) ∧ (¬ 30 < v4 → ((v3 = false → nd_X12_laysFits_58  K11 K33 Q v1 v2 v4 false s) ∧ (v3 = true → wp_X12_isAsSeen v4 s (fun r7 s8 => ((r7 = false → nd_X12_laysFits_58  K11 K33 Q v1 v2 v4 false s8) ∧ (r7 = true → nd_X12_laysFits_58  K11 K33 Q v1 v2 v4 true s8)))))))
def lp_X12_laysFits_33  (K11 : Int32 → Int32 → fz_s → Prop) (Q : fz_s → Prop) : Nat → Int32 → Int32 → Bool → Int32 → fz_s → Prop
  | 0 => fun _ _ _ _ _ => False
  | n + 1 => nd_X12_laysFits_33  K11 (lp_X12_laysFits_33  K11 Q n) Q
def nd_X12_laysFits_11  (K11 : Int32 → Int32 → fz_s → Prop) (Q : fz_s → Prop) (v1 : Int32) (v2 : Int32) (s : fz_s) : Prop :=
  ((9 < v2 → wp_X12_takesBack  s (fun s2 => Q s2)) ∧ (¬ 9 < v2 → vp_in (5 + (3 * v1)) 150 ∧ ∀ s3 : fz_s, s3 = si s 232 (5 + (3 * v1)).toNatClampNeg v2 → lp_X12_laysFits_33  K11 Q 2048 v1 v2 true 0 s3))
def lp_X12_laysFits_11   (Q : fz_s → Prop) : Nat → Int32 → Int32 → fz_s → Prop
  | 0 => fun _ _ _ => False
  | n + 1 => nd_X12_laysFits_11  (lp_X12_laysFits_11   Q n) Q
def wp_X12_laysFits (p0 : Int32) (s : fz_s) (Q : fz_s → Prop) : Prop :=
  ∀ s1 : fz_s, s1 = si s 196 70 0 → wp_X12_putsAside  s1 (fun s3 => lp_X12_laysFits_11   Q 2048 p0 0 s3)
set_option maxRecDepth 100000 in
set_option maxHeartbeats 4000000 in
theorem V_nd_X12_laysFits_58 {g : fz_G} {l : Launch} {d : Nat} (hD : 9 ≤ d)   {K11 : Int32 → Int32 → fz_s → Prop} {K33 : Int32 → Int32 → Bool → Int32 → fz_s → Prop} {Q : fz_s → Prop} {v1 : Int32} {v2 : Int32} {v4 : Int32} {u0 : Bool} {s : fz_s} (hK11 : ∀ {v1 : Int32} {v2 : Int32} {s : fz_s}, K11 v1 v2 s → fs_V g l m_X12_laysFits d false 11 [.ref 196, .int v1, .int v2, fz_J, fz_J] [] s (rV Q)) (hK33 : ∀ {v1 : Int32} {v2 : Int32} {v3 : Bool} {v4 : Int32} {s : fz_s}, K33 v1 v2 v3 v4 s → fs_V g l m_X12_laysFits d false 33 [.ref 196, .int v1, .int v2, .int (bi v3), .int v4] [] s (rV Q)) (H : nd_X12_laysFits_58  K11 K33 Q v1 v2 v4 u0 s) : fs_V g l m_X12_laysFits d false 58 [.ref 196, .int v1, .int v2, fz_J, .int v4] [.int (bi u0)] s (rV Q) := by
  obtain ⟨d, rfl⟩ : ∃ e, d = e + 1 := ⟨d - 1, by omega⟩
  unfold nd_X12_laysFits_58 at H
  refine fs_istore_n (k0 := 3) (i := 3) dd_X12_laysFits_58 rfl (by decide) ?_
  refine fs_aload_n (k0 := 0) (i := 0) dd_X12_laysFits_59 rfl rfl ?_
  refine fs_getr (ci := 12) (j := 68) (q := 241) dd_X12_laysFits_60 fl_X12_148 ca_196 rfl (Or.inr ⟨_, rfl⟩) rfl (by decide) ?_
  refine fs_bipush (n := 62) (v := 62) dd_X12_laysFits_63 (by decide) ?_
  refine fs_iload_n (k0 := 2) (i := 2) dd_X12_laysFits_65 rfl rfl ?_
  refine fs_imul dd_X12_laysFits_66 ?_
  refine fs_iconst (n := 2) (v := 2) dd_X12_laysFits_67 (by decide) ?_
  refine fs_iload (i := 4) dd_X12_laysFits_68 rfl ?_
  refine fs_imul dd_X12_laysFits_70 ?_
  refine fs_iadd dd_X12_laysFits_71 ?_
  refine fs_aload_n (k0 := 0) (i := 0) dd_X12_laysFits_72 rfl rfl ?_
  refine fs_getr (ci := 12) (j := 54) (q := 232) dd_X12_laysFits_73 fl_X12_121 ca_196 rfl (Or.inr ⟨_, rfl⟩) rfl (by decide) ?_
  refine fs_iconst (n := 1) (v := 1) dd_X12_laysFits_76 (by decide) ?_
  refine fs_iald dd_X12_laysFits_77 ca_232 (vp_in_nI (n := 1) (by decide) (by decide)) ?_
  have hb := H.1
  replace H := H.2
  refine fs_iast dd_X12_laysFits_78 ca_241 hb ?_
  refine fs_tops (fun s1 hs1 => ?_)
  replace H := H s1 hs1
  refine fs_aload_n (k0 := 0) (i := 0) dd_X12_laysFits_79 rfl rfl ?_
  refine fs_getr (ci := 12) (j := 68) (q := 241) dd_X12_laysFits_80 fl_X12_148 ca_196 rfl (Or.inr ⟨_, rfl⟩) rfl (by decide) ?_
  refine fs_bipush (n := 62) (v := 62) dd_X12_laysFits_83 (by decide) ?_
  refine fs_iload_n (k0 := 2) (i := 2) dd_X12_laysFits_85 rfl rfl ?_
  refine fs_imul dd_X12_laysFits_86 ?_
  refine fs_iconst (n := 2) (v := 2) dd_X12_laysFits_87 (by decide) ?_
  refine fs_iload (i := 4) dd_X12_laysFits_88 rfl ?_
  refine fs_imul dd_X12_laysFits_90 ?_
  refine fs_iadd dd_X12_laysFits_91 ?_
  refine fs_iconst (n := 1) (v := 1) dd_X12_laysFits_92 (by decide) ?_
  refine fs_iadd dd_X12_laysFits_93 ?_
  refine fs_aload_n (k0 := 0) (i := 0) dd_X12_laysFits_94 rfl rfl ?_
  refine fs_getr (ci := 12) (j := 54) (q := 232) dd_X12_laysFits_95 fl_X12_121 ca_196 rfl (Or.inr ⟨_, rfl⟩) rfl (by decide) ?_
  refine fs_iconst (n := 3) (v := 3) dd_X12_laysFits_98 (by decide) ?_
  refine fs_iald dd_X12_laysFits_99 ca_232 (vp_in_nI (n := 3) (by decide) (by decide)) ?_
  have hb := H.1
  replace H := H.2
  refine fs_iast dd_X12_laysFits_100 ca_241 hb ?_
  refine fs_tops (fun s2 hs2 => ?_)
  replace H := H s2 hs2
  refine fs_aload_n (k0 := 0) (i := 0) dd_X12_laysFits_101 rfl rfl ?_
  refine fs_callV (y := m_X12_yearGoes) (as := []) dd_X12_laysFits_102 me_X12_yearGoes lk_X12_497 in_X12_yearGoes se_X12_yearGoes ca_196 rfl rfl rfl (Nat.le_of_ble_eq_true rfl) (Nat.le_of_ble_eq_true rfl) rfl (V_X12_yearGoes (by omega)  H) (k2_V fun s4 H => ?_)
  refine fs_iincN (i := 4) (m := 1) (c := 1) dd_X12_laysFits_105 rfl (by decide) (by decide) (fun x5 hx5 => ?_)
  replace H := H x5 hx5
  refine fs_goto (tgt := 33) dd_X12_laysFits_108 (by decide) ?_
  refine fs_weak (ls2 := [.ref 196, .int v1, .int v2, .int (bi u0), .int x5]) (fz_le_e (fz_le_e (fz_le_e (fz_le_e (fz_le_e fz_le_n))))) ?_
  exact hK33 H
set_option maxRecDepth 100000 in
set_option maxHeartbeats 4000000 in
theorem V_nd_X12_laysFits_33 {g : fz_G} {l : Launch} {d : Nat} (hD : 9 ≤ d)   {K11 : Int32 → Int32 → fz_s → Prop} {K33 : Int32 → Int32 → Bool → Int32 → fz_s → Prop} {Q : fz_s → Prop} {v1 : Int32} {v2 : Int32} {v3 : Bool} {v4 : Int32} {s : fz_s} (hK11 : ∀ {v1 : Int32} {v2 : Int32} {s : fz_s}, K11 v1 v2 s → fs_V g l m_X12_laysFits d false 11 [.ref 196, .int v1, .int v2, fz_J, fz_J] [] s (rV Q)) (hK33 : ∀ {v1 : Int32} {v2 : Int32} {v3 : Bool} {v4 : Int32} {s : fz_s}, K33 v1 v2 v3 v4 s → fs_V g l m_X12_laysFits d false 33 [.ref 196, .int v1, .int v2, .int (bi v3), .int v4] [] s (rV Q)) (H : nd_X12_laysFits_33  K11 K33 Q v1 v2 v3 v4 s) : fs_V g l m_X12_laysFits d false 33 [.ref 196, .int v1, .int v2, .int (bi v3), .int v4] [] s (rV Q) := by
  obtain ⟨d, rfl⟩ : ∃ e, d = e + 1 := ⟨d - 1, by omega⟩
  unfold nd_X12_laysFits_33 at H
  refine fs_iload (i := 4) dd_X12_laysFits_33 rfl ?_
  refine fs_bipush (n := 30) (v := 30) dd_X12_laysFits_35 (by decide) ?_
  refine fs_icmp_gt (tgt := 111) dd_X12_laysFits_37 (by decide) (fun hc => ?_) (fun hc => ?_)
  · replace H := H.1 hc
    refine fs_aload_n (k0 := 0) (i := 0) dd_X12_laysFits_111 rfl rfl ?_
    refine fs_callV (y := m_X12_triesAnew) (as := []) dd_X12_laysFits_112 me_X12_triesAnew lk_X12_500 in_X12_triesAnew se_X12_triesAnew ca_196 rfl rfl rfl (Nat.le_of_ble_eq_true rfl) (Nat.le_of_ble_eq_true rfl) rfl (V_X12_triesAnew (by omega)  H) (k2_V fun s2 H => ?_)
    refine fs_aload_n (k0 := 0) (i := 0) dd_X12_laysFits_115 rfl rfl ?_
    refine fs_getr (ci := 12) (j := 69) (q := 242) dd_X12_laysFits_116 fl_X12_151 ca_196 rfl (Or.inr ⟨_, rfl⟩) rfl (by decide) ?_
    refine fs_iload_n (k0 := 2) (i := 2) dd_X12_laysFits_119 rfl rfl ?_
    refine fs_iload_n (k0 := 3) (i := 3) dd_X12_laysFits_120 rfl rfl ?_
    have hb := H.1
    replace H := H.2
    refine fs_zast dd_X12_laysFits_121 ca_242 hb (by cases v3 <;> rfl) ?_
    refine fs_tops (fun s3 hs3 => ?_)
    replace H := H s3 hs3
    refine fs_iload_n (k0 := 3) (i := 3) dd_X12_laysFits_122 rfl rfl ?_
    refine fs_if_eq (tgt := 136) dd_X12_laysFits_123 (by decide) (fun hc => ?_) (fun hc => ?_)
    · replace H := H.1 (bi_0 hc)
      refine fs_iincN (i := 2) (m := 1) (c := 1) dd_X12_laysFits_136 rfl (by decide) (by decide) (fun x4 hx4 => ?_)
      replace H := H x4 hx4
      refine fs_goto (tgt := 11) dd_X12_laysFits_139 (by decide) ?_
      refine fs_weak (ls2 := [.ref 196, .int v1, .int x4, fz_J, fz_J]) (fz_le_e (fz_le_e (fz_le_e (fz_le_j (fz_le_j fz_le_n))))) ?_
      exact hK11 H
    · replace H := H.2 (bi_1 hc)
      refine fs_aload_n (k0 := 0) (i := 0) dd_X12_laysFits_126 rfl rfl ?_
      refine fs_dup dd_X12_laysFits_127 rfl ?_
      refine fs_geti (ci := 12) (j := 70) dd_X12_laysFits_128 fl_X12_574 ca_196 rfl (Or.inl rfl) ?_
      refine fs_iconst (n := 1) (v := 1) dd_X12_laysFits_131 (by decide) ?_
      refine fs_iadd dd_X12_laysFits_132 ?_
      refine fs_puti (ci := 12) (j := 70) dd_X12_laysFits_133 fl_X12_574 (fun _ _ _ h => by cases h; rfl) ca_196 rfl (Or.inl rfl) ?_
      refine fs_tops (fun s5 hs5 => ?_)
      replace H := H s5 hs5
      refine fs_iincN (i := 2) (m := 1) (c := 1) dd_X12_laysFits_136 rfl (by decide) (by decide) (fun x6 hx6 => ?_)
      replace H := H x6 hx6
      refine fs_goto (tgt := 11) dd_X12_laysFits_139 (by decide) ?_
      refine fs_weak (ls2 := [.ref 196, .int v1, .int x6, fz_J, fz_J]) (fz_le_e (fz_le_e (fz_le_e (fz_le_j (fz_le_j fz_le_n))))) ?_
      exact hK11 H
  · replace H := H.2 hc
    refine fs_iload_n (k0 := 3) (i := 3) dd_X12_laysFits_40 rfl rfl ?_
    refine fs_if_eq (tgt := 57) dd_X12_laysFits_41 (by decide) (fun hc => ?_) (fun hc => ?_)
    · replace H := H.1 (bi_0 hc)
      refine fs_iconst (n := 0) (v := 0) dd_X12_laysFits_57 (by decide) ?_
      refine fs_weak (ls2 := [.ref 196, .int v1, .int v2, fz_J, .int v4]) (fz_le_e (fz_le_e (fz_le_e (fz_le_j (fz_le_e fz_le_n))))) ?_
      exact V_nd_X12_laysFits_58 hD   hK11 hK33 H
    · replace H := H.2 (bi_1 hc)
      refine fs_aload_n (k0 := 0) (i := 0) dd_X12_laysFits_44 rfl rfl ?_
      refine fs_iload (i := 4) dd_X12_laysFits_45 rfl ?_
      refine fs_callV (y := m_X12_isAsSeen) (as := [.int v4]) dd_X12_laysFits_47 me_X12_isAsSeen lk_X12_577 in_X12_isAsSeen se_X12_isAsSeen ca_196 rfl rfl rfl (Nat.le_of_ble_eq_true rfl) (Nat.le_of_ble_eq_true rfl) rfl (V_X12_isAsSeen (by omega)  H) (k2_Z fun r7 s8 H => ?_)
      refine fs_if_eq (tgt := 57) dd_X12_laysFits_50 (by decide) (fun hc => ?_) (fun hc => ?_)
      · replace H := H.1 (bi_0 hc)
        refine fs_iconst (n := 0) (v := 0) dd_X12_laysFits_57 (by decide) ?_
        refine fs_weak (ls2 := [.ref 196, .int v1, .int v2, fz_J, .int v4]) (fz_le_e (fz_le_e (fz_le_e (fz_le_j (fz_le_e fz_le_n))))) ?_
        exact V_nd_X12_laysFits_58 hD   hK11 hK33 H
      · replace H := H.2 (bi_1 hc)
        refine fs_iconst (n := 1) (v := 1) dd_X12_laysFits_53 (by decide) ?_
        refine fs_goto (tgt := 58) dd_X12_laysFits_54 (by decide) ?_
        refine fs_weak (ls2 := [.ref 196, .int v1, .int v2, fz_J, .int v4]) (fz_le_e (fz_le_e (fz_le_e (fz_le_j (fz_le_e fz_le_n))))) ?_
        exact V_nd_X12_laysFits_58 hD   hK11 hK33 H
set_option maxRecDepth 100000 in
set_option maxHeartbeats 4000000 in
theorem V_lp_X12_laysFits_33 {g : fz_G} {l : Launch} {d : Nat} (hD : 9 ≤ d)   {K11 : Int32 → Int32 → fz_s → Prop} {Q : fz_s → Prop} (hK11 : ∀ {v1 : Int32} {v2 : Int32} {s : fz_s}, K11 v1 v2 s → fs_V g l m_X12_laysFits d false 11 [.ref 196, .int v1, .int v2, fz_J, fz_J] [] s (rV Q)) (n : Nat) : ∀ {v1 : Int32} {v2 : Int32} {v3 : Bool} {v4 : Int32} {s : fz_s}, lp_X12_laysFits_33  K11 Q n v1 v2 v3 v4 s → fs_V g l m_X12_laysFits d false 33 [.ref 196, .int v1, .int v2, .int (bi v3), .int v4] [] s (rV Q) := by
  induction n with
  | zero => intro v1 v2 v3 v4 s H; exact H.elim
  | succ n ih => intro v1 v2 v3 v4 s H; exact V_nd_X12_laysFits_33 hD  hK11 (fun H => ih H) H
set_option maxRecDepth 100000 in
set_option maxHeartbeats 4000000 in
theorem V_nd_X12_laysFits_11 {g : fz_G} {l : Launch} {d : Nat} (hD : 9 ≤ d)   {K11 : Int32 → Int32 → fz_s → Prop} {Q : fz_s → Prop} {v1 : Int32} {v2 : Int32} {s : fz_s} (hK11 : ∀ {v1 : Int32} {v2 : Int32} {s : fz_s}, K11 v1 v2 s → fs_V g l m_X12_laysFits d false 11 [.ref 196, .int v1, .int v2, fz_J, fz_J] [] s (rV Q)) (H : nd_X12_laysFits_11  K11 Q v1 v2 s) : fs_V g l m_X12_laysFits d false 11 [.ref 196, .int v1, .int v2, fz_J, fz_J] [] s (rV Q) := by
  obtain ⟨d, rfl⟩ : ∃ e, d = e + 1 := ⟨d - 1, by omega⟩
  unfold nd_X12_laysFits_11 at H
  refine fs_iload_n (k0 := 2) (i := 2) dd_X12_laysFits_11 rfl rfl ?_
  refine fs_bipush (n := 9) (v := 9) dd_X12_laysFits_12 (by decide) ?_
  refine fs_icmp_gt (tgt := 142) dd_X12_laysFits_14 (by decide) (fun hc => ?_) (fun hc => ?_)
  · replace H := H.1 hc
    refine fs_aload_n (k0 := 0) (i := 0) dd_X12_laysFits_142 rfl rfl ?_
    refine fs_callV (y := m_X12_takesBack) (as := []) dd_X12_laysFits_143 me_X12_takesBack lk_X12_535 in_X12_takesBack se_X12_takesBack ca_196 rfl rfl rfl (Nat.le_of_ble_eq_true rfl) (Nat.le_of_ble_eq_true rfl) rfl (V_X12_takesBack (by omega)  H) (k2_V fun s2 H => ?_)
    exact fs_vret dd_X12_laysFits_146 rfl H
  · replace H := H.2 hc
    refine fs_aload_n (k0 := 0) (i := 0) dd_X12_laysFits_17 rfl rfl ?_
    refine fs_getr (ci := 12) (j := 54) (q := 232) dd_X12_laysFits_18 fl_X12_121 ca_196 rfl (Or.inr ⟨_, rfl⟩) rfl (by decide) ?_
    refine fs_iconst (n := 5) (v := 5) dd_X12_laysFits_21 (by decide) ?_
    refine fs_iconst (n := 3) (v := 3) dd_X12_laysFits_22 (by decide) ?_
    refine fs_iload_n (k0 := 1) (i := 1) dd_X12_laysFits_23 rfl rfl ?_
    refine fs_imul dd_X12_laysFits_24 ?_
    refine fs_iadd dd_X12_laysFits_25 ?_
    refine fs_iload_n (k0 := 2) (i := 2) dd_X12_laysFits_26 rfl rfl ?_
    have hb := H.1
    replace H := H.2
    refine fs_iast dd_X12_laysFits_27 ca_232 hb ?_
    refine fs_tops (fun s3 hs3 => ?_)
    replace H := H s3 hs3
    refine fs_iconst (n := 1) (v := 1) dd_X12_laysFits_28 (by decide) ?_
    refine fs_istore_n (k0 := 3) (i := 3) dd_X12_laysFits_29 rfl (by decide) ?_
    refine fs_iconst (n := 0) (v := 0) dd_X12_laysFits_30 (by decide) ?_
    refine fs_istore (i := 4) dd_X12_laysFits_31 (by decide) ?_
    refine fs_weak (ls2 := [.ref 196, .int v1, .int v2, .int (bi true), .int 0]) (fz_le_e (fz_le_e (fz_le_e (fz_le_e (fz_le_e fz_le_n))))) ?_
    exact V_lp_X12_laysFits_33 hD   hK11 2048 H
set_option maxRecDepth 100000 in
set_option maxHeartbeats 4000000 in
theorem V_lp_X12_laysFits_11 {g : fz_G} {l : Launch} {d : Nat} (hD : 9 ≤ d)    {Q : fz_s → Prop}  (n : Nat) : ∀ {v1 : Int32} {v2 : Int32} {s : fz_s}, lp_X12_laysFits_11   Q n v1 v2 s → fs_V g l m_X12_laysFits d false 11 [.ref 196, .int v1, .int v2, fz_J, fz_J] [] s (rV Q) := by
  induction n with
  | zero => intro v1 v2 s H; exact H.elim
  | succ n ih => intro v1 v2 s H; exact V_nd_X12_laysFits_11 hD  (fun H => ih H) H
set_option maxRecDepth 100000 in
set_option maxHeartbeats 4000000 in
theorem V_X12_laysFits {g : fz_G} {l : Launch} {d : Nat} (hD : 9 ≤ d) {p0 : Int32}  {s : fz_s} {Q : fz_s → Prop} (H : wp_X12_laysFits p0 s Q) : fs_V g l m_X12_laysFits d false 0 (fz_en [.ref 196, .int p0] 5) [] s (rV Q) := by
  obtain ⟨d, rfl⟩ : ∃ e, d = e + 1 := ⟨d - 1, by omega⟩
  unfold wp_X12_laysFits at H
  refine fs_aload_n (k0 := 0) (i := 0) dd_X12_laysFits_0 rfl rfl ?_
  refine fs_iconst (n := 0) (v := 0) dd_X12_laysFits_1 (by decide) ?_
  refine fs_puti (ci := 12) (j := 70) dd_X12_laysFits_2 fl_X12_574 (fun _ _ _ h => by cases h; rfl) ca_196 rfl (Or.inl rfl) ?_
  refine fs_tops (fun s1 hs1 => ?_)
  replace H := H s1 hs1
  refine fs_aload_n (k0 := 0) (i := 0) dd_X12_laysFits_5 rfl rfl ?_
  refine fs_callV (y := m_X12_putsAside) (as := []) dd_X12_laysFits_6 me_X12_putsAside lk_X12_529 in_X12_putsAside se_X12_putsAside ca_196 rfl rfl rfl (Nat.le_of_ble_eq_true rfl) (Nat.le_of_ble_eq_true rfl) rfl (V_X12_putsAside (by omega)  H) (k2_V fun s3 H => ?_)
  refine fs_iconst (n := 0) (v := 0) dd_X12_laysFits_9 (by decide) ?_
  refine fs_istore_n (k0 := 2) (i := 2) dd_X12_laysFits_10 rfl (by decide) ?_
  refine fs_weak (ls2 := [.ref 196, .int p0, .int 0, fz_J, fz_J]) (fz_le_e (fz_le_e (fz_le_e (fz_le_j (fz_le_j fz_le_n))))) ?_
  exact V_lp_X12_laysFits_11 hD    2048 H
theorem dd_X12_wits_0 : decode m_X12_wits.2.1 0 = .ok (.aload_n 0, 1) := by decide +kernel
theorem dd_X12_wits_1 : decode m_X12_wits.2.1 1 = .ok (.iload_n 1, 1) := by decide +kernel
theorem dd_X12_wits_2 : decode m_X12_wits.2.1 2 = .ok (.invokevirtual 415, 3) := by decide +kernel
theorem dd_X12_wits_5 : decode m_X12_wits.2.1 5 = .ok (.ifCond .ne 5, 3) := by decide +kernel
theorem dd_X12_wits_8 : decode m_X12_wits.2.1 8 = .ok (.iconst (-1), 1) := by decide +kernel
theorem dd_X12_wits_9 : decode m_X12_wits.2.1 9 = .ok (.ireturn, 1) := by decide +kernel
theorem dd_X12_wits_10 : decode m_X12_wits.2.1 10 = .ok (.aload_n 0, 1) := by decide +kernel
theorem dd_X12_wits_11 : decode m_X12_wits.2.1 11 = .ok (.iload_n 1, 1) := by decide +kernel
theorem dd_X12_wits_12 : decode m_X12_wits.2.1 12 = .ok (.invokevirtual 580, 3) := by decide +kernel
theorem dd_X12_wits_15 : decode m_X12_wits.2.1 15 = .ok (.iconst 0, 1) := by decide +kernel
theorem dd_X12_wits_16 : decode m_X12_wits.2.1 16 = .ok (.istore_n 2, 1) := by decide +kernel
theorem dd_X12_wits_17 : decode m_X12_wits.2.1 17 = .ok (.iconst 0, 1) := by decide +kernel
theorem dd_X12_wits_18 : decode m_X12_wits.2.1 18 = .ok (.istore_n 3, 1) := by decide +kernel
theorem dd_X12_wits_19 : decode m_X12_wits.2.1 19 = .ok (.iload_n 3, 1) := by decide +kernel
theorem dd_X12_wits_20 : decode m_X12_wits.2.1 20 = .ok (.bipush 9, 2) := by decide +kernel
theorem dd_X12_wits_22 : decode m_X12_wits.2.1 22 = .ok (.if_icmp .gt 24, 3) := by decide +kernel
theorem dd_X12_wits_25 : decode m_X12_wits.2.1 25 = .ok (.aload_n 0, 1) := by decide +kernel
theorem dd_X12_wits_26 : decode m_X12_wits.2.1 26 = .ok (.getfield 151, 3) := by decide +kernel
theorem dd_X12_wits_29 : decode m_X12_wits.2.1 29 = .ok (.iload_n 3, 1) := by decide +kernel
theorem dd_X12_wits_30 : decode m_X12_wits.2.1 30 = .ok (.baload, 1) := by decide +kernel
theorem dd_X12_wits_31 : decode m_X12_wits.2.1 31 = .ok (.ifCond .eq 9, 3) := by decide +kernel
theorem dd_X12_wits_34 : decode m_X12_wits.2.1 34 = .ok (.iload_n 2, 1) := by decide +kernel
theorem dd_X12_wits_35 : decode m_X12_wits.2.1 35 = .ok (.iconst 1, 1) := by decide +kernel
theorem dd_X12_wits_36 : decode m_X12_wits.2.1 36 = .ok (.iload_n 3, 1) := by decide +kernel
theorem dd_X12_wits_37 : decode m_X12_wits.2.1 37 = .ok (.ishl, 1) := by decide +kernel
theorem dd_X12_wits_38 : decode m_X12_wits.2.1 38 = .ok (.ior, 1) := by decide +kernel
theorem dd_X12_wits_39 : decode m_X12_wits.2.1 39 = .ok (.istore_n 2, 1) := by decide +kernel
theorem dd_X12_wits_40 : decode m_X12_wits.2.1 40 = .ok (.iinc 3 1, 3) := by decide +kernel
theorem dd_X12_wits_43 : decode m_X12_wits.2.1 43 = .ok (.goto (-24), 3) := by decide +kernel
theorem dd_X12_wits_46 : decode m_X12_wits.2.1 46 = .ok (.iload_n 2, 1) := by decide +kernel
theorem dd_X12_wits_47 : decode m_X12_wits.2.1 47 = .ok (.ireturn, 1) := by decide +kernel
def nd_X12_wits_19  (K19 : Int32 → Int32 → fz_s → Prop) (Q : Int32 → fz_s → Prop) (v2 : Int32) (v3 : Int32) (s : fz_s) : Prop :=
  ((9 < v3 → Q v2 s) ∧ (¬ 9 < v3 → vp_in v3 10 ∧ (((s.1 242 v3.toNatClampNeg) = 0 → ∀ x1 : Int32, x1 = v3 + 1 → K19 v2 x1 s) ∧ (¬ (s.1 242 v3.toNatClampNeg) = 0 → ∀ x2 : Int32, x2 = (v2 ||| (1 <<< (v3 &&& 31))) → ∀ x3 : Int32, x3 = v3 + 1 → K19 x2 x3 s))))
def lp_X12_wits_19   (Q : Int32 → fz_s → Prop) : Nat → Int32 → Int32 → fz_s → Prop
  | 0 => fun _ _ _ => False
  | n + 1 => nd_X12_wits_19  (lp_X12_wits_19   Q n) Q
def wp_X12_wits (p0 : Int32) (s : fz_s) (Q : Int32 → fz_s → Prop) : Prop :=
  wp_X12_isPerson p0 s (fun r1 s2 => ((r1 = true → wp_X12_laysFits p0 s2 (fun s4 => lp_X12_wits_19   Q 2048 0 0 s4)) ∧ (r1 = false → Q (-1) s2)))
set_option maxRecDepth 100000 in
set_option maxHeartbeats 4000000 in
theorem V_nd_X12_wits_19 {g : fz_G} {l : Launch} {d : Nat} (hD : 10 ≤ d)   {K19 : Int32 → Int32 → fz_s → Prop} {Q : Int32 → fz_s → Prop} {v2 : Int32} {v3 : Int32} {s : fz_s} (hK19 : ∀ {v2 : Int32} {v3 : Int32} {s : fz_s}, K19 v2 v3 s → fs_V g l m_X12_wits d false 19 [.ref 196, fz_J, .int v2, .int v3] [] s (rI Q)) (H : nd_X12_wits_19  K19 Q v2 v3 s) : fs_V g l m_X12_wits d false 19 [.ref 196, fz_J, .int v2, .int v3] [] s (rI Q) := by
  obtain ⟨d, rfl⟩ : ∃ e, d = e + 1 := ⟨d - 1, by omega⟩
  unfold nd_X12_wits_19 at H
  refine fs_iload_n (k0 := 3) (i := 3) dd_X12_wits_19 rfl rfl ?_
  refine fs_bipush (n := 9) (v := 9) dd_X12_wits_20 (by decide) ?_
  refine fs_icmp_gt (tgt := 46) dd_X12_wits_22 (by decide) (fun hc => ?_) (fun hc => ?_)
  · replace H := H.1 hc
    refine fs_iload_n (k0 := 2) (i := 2) dd_X12_wits_46 rfl rfl ?_
    exact fs_iret dd_X12_wits_47 rfl H
  · replace H := H.2 hc
    refine fs_aload_n (k0 := 0) (i := 0) dd_X12_wits_25 rfl rfl ?_
    refine fs_getr (ci := 12) (j := 69) (q := 242) dd_X12_wits_26 fl_X12_151 ca_196 rfl (Or.inr ⟨_, rfl⟩) rfl (by decide) ?_
    refine fs_iload_n (k0 := 3) (i := 3) dd_X12_wits_29 rfl rfl ?_
    have hb := H.1
    replace H := H.2
    refine fs_zald dd_X12_wits_30 ca_242 hb ?_
    refine fs_if_eq (tgt := 40) dd_X12_wits_31 (by decide) (fun hc => ?_) (fun hc => ?_)
    · replace H := H.1 hc
      refine fs_iincN (i := 3) (m := 1) (c := 1) dd_X12_wits_40 rfl (by decide) (by decide) (fun x1 hx1 => ?_)
      replace H := H x1 hx1
      refine fs_goto (tgt := 19) dd_X12_wits_43 (by decide) ?_
      refine fs_weak (ls2 := [.ref 196, fz_J, .int v2, .int x1]) (fz_le_e (fz_le_j (fz_le_e (fz_le_e fz_le_n)))) ?_
      exact hK19 H
    · replace H := H.2 hc
      refine fs_iload_n (k0 := 2) (i := 2) dd_X12_wits_34 rfl rfl ?_
      refine fs_iconst (n := 1) (v := 1) dd_X12_wits_35 (by decide) ?_
      refine fs_iload_n (k0 := 3) (i := 3) dd_X12_wits_36 rfl rfl ?_
      refine fs_ishl dd_X12_wits_37 ?_
      refine fs_ior dd_X12_wits_38 ?_
      refine fs_topi (fun x2 hx2 => ?_)
      replace H := H x2 hx2
      refine fs_istore_n (k0 := 2) (i := 2) dd_X12_wits_39 rfl (by decide) ?_
      refine fs_iincN (i := 3) (m := 1) (c := 1) dd_X12_wits_40 rfl (by decide) (by decide) (fun x3 hx3 => ?_)
      replace H := H x3 hx3
      refine fs_goto (tgt := 19) dd_X12_wits_43 (by decide) ?_
      refine fs_weak (ls2 := [.ref 196, fz_J, .int x2, .int x3]) (fz_le_e (fz_le_j (fz_le_e (fz_le_e fz_le_n)))) ?_
      exact hK19 H
set_option maxRecDepth 100000 in
set_option maxHeartbeats 4000000 in
theorem V_lp_X12_wits_19 {g : fz_G} {l : Launch} {d : Nat} (hD : 10 ≤ d)    {Q : Int32 → fz_s → Prop}  (n : Nat) : ∀ {v2 : Int32} {v3 : Int32} {s : fz_s}, lp_X12_wits_19   Q n v2 v3 s → fs_V g l m_X12_wits d false 19 [.ref 196, fz_J, .int v2, .int v3] [] s (rI Q) := by
  induction n with
  | zero => intro v2 v3 s H; exact H.elim
  | succ n ih => intro v2 v3 s H; exact V_nd_X12_wits_19 hD  (fun H => ih H) H
set_option maxRecDepth 100000 in
set_option maxHeartbeats 4000000 in
theorem V_X12_wits {g : fz_G} {l : Launch} {d : Nat} (hD : 10 ≤ d) {p0 : Int32}  {s : fz_s} {Q : Int32 → fz_s → Prop} (H : wp_X12_wits p0 s Q) : fs_V g l m_X12_wits d false 0 (fz_en [.ref 196, .int p0] 4) [] s (rI Q) := by
  obtain ⟨d, rfl⟩ : ∃ e, d = e + 1 := ⟨d - 1, by omega⟩
  unfold wp_X12_wits at H
  refine fs_aload_n (k0 := 0) (i := 0) dd_X12_wits_0 rfl rfl ?_
  refine fs_iload_n (k0 := 1) (i := 1) dd_X12_wits_1 rfl rfl ?_
  refine fs_callV (y := m_X12_isPerson) (as := [.int p0]) dd_X12_wits_2 me_X12_isPerson lk_X12_415 in_X12_isPerson se_X12_isPerson ca_196 rfl rfl rfl (Nat.le_of_ble_eq_true rfl) (Nat.le_of_ble_eq_true rfl) rfl (V_X12_isPerson (by omega)  H) (k2_Z fun r1 s2 H => ?_)
  refine fs_if_ne (tgt := 10) dd_X12_wits_5 (by decide) (fun hc => ?_) (fun hc => ?_)
  · replace H := H.1 (bi_1 hc)
    refine fs_aload_n (k0 := 0) (i := 0) dd_X12_wits_10 rfl rfl ?_
    refine fs_iload_n (k0 := 1) (i := 1) dd_X12_wits_11 rfl rfl ?_
    refine fs_callV (y := m_X12_laysFits) (as := [.int p0]) dd_X12_wits_12 me_X12_laysFits lk_X12_580 in_X12_laysFits se_X12_laysFits ca_196 rfl rfl rfl (Nat.le_of_ble_eq_true rfl) (Nat.le_of_ble_eq_true rfl) rfl (V_X12_laysFits (by omega)  H) (k2_V fun s4 H => ?_)
    refine fs_iconst (n := 0) (v := 0) dd_X12_wits_15 (by decide) ?_
    refine fs_istore_n (k0 := 2) (i := 2) dd_X12_wits_16 rfl (by decide) ?_
    refine fs_iconst (n := 0) (v := 0) dd_X12_wits_17 (by decide) ?_
    refine fs_istore_n (k0 := 3) (i := 3) dd_X12_wits_18 rfl (by decide) ?_
    refine fs_weak (ls2 := [.ref 196, fz_J, .int 0, .int 0]) (fz_le_e (fz_le_j (fz_le_e (fz_le_e fz_le_n)))) ?_
    exact V_lp_X12_wits_19 hD    2048 H
  · replace H := H.2 (bi_0 hc)
    refine fs_iconst (n := -1) (v := -1) dd_X12_wits_8 (by decide) ?_
    exact fs_iret dd_X12_wits_9 rfl H
theorem dd_X12_mostAlike_0 : decode m_X12_mostAlike.2.1 0 = .ok (.iconst 0, 1) := by decide +kernel
theorem dd_X12_mostAlike_1 : decode m_X12_mostAlike.2.1 1 = .ok (.istore_n 2, 1) := by decide +kernel
theorem dd_X12_mostAlike_2 : decode m_X12_mostAlike.2.1 2 = .ok (.iconst 0, 1) := by decide +kernel
theorem dd_X12_mostAlike_3 : decode m_X12_mostAlike.2.1 3 = .ok (.istore_n 3, 1) := by decide +kernel
theorem dd_X12_mostAlike_4 : decode m_X12_mostAlike.2.1 4 = .ok (.iload_n 3, 1) := by decide +kernel
theorem dd_X12_mostAlike_5 : decode m_X12_mostAlike.2.1 5 = .ok (.bipush 9, 2) := by decide +kernel
theorem dd_X12_mostAlike_7 : decode m_X12_mostAlike.2.1 7 = .ok (.if_icmp .gt 88, 3) := by decide +kernel
theorem dd_X12_mostAlike_10 : decode m_X12_mostAlike.2.1 10 = .ok (.aload_n 0, 1) := by decide +kernel
theorem dd_X12_mostAlike_11 : decode m_X12_mostAlike.2.1 11 = .ok (.getfield 151, 3) := by decide +kernel
theorem dd_X12_mostAlike_14 : decode m_X12_mostAlike.2.1 14 = .ok (.iload_n 3, 1) := by decide +kernel
theorem dd_X12_mostAlike_15 : decode m_X12_mostAlike.2.1 15 = .ok (.baload, 1) := by decide +kernel
theorem dd_X12_mostAlike_16 : decode m_X12_mostAlike.2.1 16 = .ok (.ifCond .ne 6, 3) := by decide +kernel
theorem dd_X12_mostAlike_19 : decode m_X12_mostAlike.2.1 19 = .ok (.goto 70, 3) := by decide +kernel
theorem dd_X12_mostAlike_22 : decode m_X12_mostAlike.2.1 22 = .ok (.iconst 0, 1) := by decide +kernel
theorem dd_X12_mostAlike_23 : decode m_X12_mostAlike.2.1 23 = .ok (.istore 4, 2) := by decide +kernel
theorem dd_X12_mostAlike_25 : decode m_X12_mostAlike.2.1 25 = .ok (.iconst 0, 1) := by decide +kernel
theorem dd_X12_mostAlike_26 : decode m_X12_mostAlike.2.1 26 = .ok (.istore 5, 2) := by decide +kernel
theorem dd_X12_mostAlike_28 : decode m_X12_mostAlike.2.1 28 = .ok (.iload 5, 2) := by decide +kernel
theorem dd_X12_mostAlike_30 : decode m_X12_mostAlike.2.1 30 = .ok (.bipush 9, 2) := by decide +kernel
theorem dd_X12_mostAlike_32 : decode m_X12_mostAlike.2.1 32 = .ok (.if_icmp .gt 48, 3) := by decide +kernel
theorem dd_X12_mostAlike_35 : decode m_X12_mostAlike.2.1 35 = .ok (.aload_n 0, 1) := by decide +kernel
theorem dd_X12_mostAlike_36 : decode m_X12_mostAlike.2.1 36 = .ok (.getfield 151, 3) := by decide +kernel
theorem dd_X12_mostAlike_39 : decode m_X12_mostAlike.2.1 39 = .ok (.iload 5, 2) := by decide +kernel
theorem dd_X12_mostAlike_41 : decode m_X12_mostAlike.2.1 41 = .ok (.baload, 1) := by decide +kernel
theorem dd_X12_mostAlike_42 : decode m_X12_mostAlike.2.1 42 = .ok (.ifCond .eq 32, 3) := by decide +kernel
theorem dd_X12_mostAlike_45 : decode m_X12_mostAlike.2.1 45 = .ok (.aload_n 0, 1) := by decide +kernel
theorem dd_X12_mostAlike_46 : decode m_X12_mostAlike.2.1 46 = .ok (.getfield 148, 3) := by decide +kernel
theorem dd_X12_mostAlike_49 : decode m_X12_mostAlike.2.1 49 = .ok (.bipush 62, 2) := by decide +kernel
theorem dd_X12_mostAlike_51 : decode m_X12_mostAlike.2.1 51 = .ok (.iload_n 3, 1) := by decide +kernel
theorem dd_X12_mostAlike_52 : decode m_X12_mostAlike.2.1 52 = .ok (.imul, 1) := by decide +kernel
theorem dd_X12_mostAlike_53 : decode m_X12_mostAlike.2.1 53 = .ok (.iload_n 1, 1) := by decide +kernel
theorem dd_X12_mostAlike_54 : decode m_X12_mostAlike.2.1 54 = .ok (.iadd, 1) := by decide +kernel
theorem dd_X12_mostAlike_55 : decode m_X12_mostAlike.2.1 55 = .ok (.iaload, 1) := by decide +kernel
theorem dd_X12_mostAlike_56 : decode m_X12_mostAlike.2.1 56 = .ok (.aload_n 0, 1) := by decide +kernel
theorem dd_X12_mostAlike_57 : decode m_X12_mostAlike.2.1 57 = .ok (.getfield 148, 3) := by decide +kernel
theorem dd_X12_mostAlike_60 : decode m_X12_mostAlike.2.1 60 = .ok (.bipush 62, 2) := by decide +kernel
theorem dd_X12_mostAlike_62 : decode m_X12_mostAlike.2.1 62 = .ok (.iload 5, 2) := by decide +kernel
theorem dd_X12_mostAlike_64 : decode m_X12_mostAlike.2.1 64 = .ok (.imul, 1) := by decide +kernel
theorem dd_X12_mostAlike_65 : decode m_X12_mostAlike.2.1 65 = .ok (.iload_n 1, 1) := by decide +kernel
theorem dd_X12_mostAlike_66 : decode m_X12_mostAlike.2.1 66 = .ok (.iadd, 1) := by decide +kernel
theorem dd_X12_mostAlike_67 : decode m_X12_mostAlike.2.1 67 = .ok (.iaload, 1) := by decide +kernel
theorem dd_X12_mostAlike_68 : decode m_X12_mostAlike.2.1 68 = .ok (.if_icmp .ne 6, 3) := by decide +kernel
theorem dd_X12_mostAlike_71 : decode m_X12_mostAlike.2.1 71 = .ok (.iinc 4 1, 3) := by decide +kernel
theorem dd_X12_mostAlike_74 : decode m_X12_mostAlike.2.1 74 = .ok (.iinc 5 1, 3) := by decide +kernel
theorem dd_X12_mostAlike_77 : decode m_X12_mostAlike.2.1 77 = .ok (.goto (-49), 3) := by decide +kernel
theorem dd_X12_mostAlike_80 : decode m_X12_mostAlike.2.1 80 = .ok (.iload 4, 2) := by decide +kernel
theorem dd_X12_mostAlike_82 : decode m_X12_mostAlike.2.1 82 = .ok (.iload_n 2, 1) := by decide +kernel
theorem dd_X12_mostAlike_83 : decode m_X12_mostAlike.2.1 83 = .ok (.if_icmp .le 6, 3) := by decide +kernel
theorem dd_X12_mostAlike_86 : decode m_X12_mostAlike.2.1 86 = .ok (.iload 4, 2) := by decide +kernel
theorem dd_X12_mostAlike_88 : decode m_X12_mostAlike.2.1 88 = .ok (.istore_n 2, 1) := by decide +kernel
theorem dd_X12_mostAlike_89 : decode m_X12_mostAlike.2.1 89 = .ok (.iinc 3 1, 3) := by decide +kernel
theorem dd_X12_mostAlike_92 : decode m_X12_mostAlike.2.1 92 = .ok (.goto (-88), 3) := by decide +kernel
theorem dd_X12_mostAlike_95 : decode m_X12_mostAlike.2.1 95 = .ok (.iload_n 2, 1) := by decide +kernel
theorem dd_X12_mostAlike_96 : decode m_X12_mostAlike.2.1 96 = .ok (.ireturn, 1) := by decide +kernel
def nd_X12_mostAlike_28  (K4 : Int32 → Int32 → Int32 → fz_s → Prop) (K28 : Int32 → Int32 → Int32 → Int32 → Int32 → fz_s → Prop) (Q : Int32 → fz_s → Prop) (v1 : Int32) (v2 : Int32) (v3 : Int32) (v4 : Int32) (v5 : Int32) (s : fz_s) : Prop :=
  ((9 < v5 → ((v4 ≤ v2 → ∀ x1 : Int32, x1 = v3 + 1 → K4 v1 v2 x1 s) ∧ (¬ v4 ≤ v2 → ∀ x2 : Int32, x2 = v3 + 1 → K4 v1 v4 x2 s))) ∧ (¬ 9 < v5 → vp_in v5 10 ∧ (((s.1 242 v5.toNatClampNeg) = 0 → ∀ x3 : Int32, x3 = v5 + 1 → K28 v1 v2 v3 v4 x3 s) ∧ (¬ (s.1 242 v5.toNatClampNeg) = 0 → vp_in ((62 * v3) + v1) 620 ∧ vp_in ((62 * v5) + v1) 620 ∧ ((¬ (s.1 241 ((62 * v3) + v1).toNatClampNeg) = (s.1 241 ((62 * v5) + v1).toNatClampNeg) → ∀ x4 : Int32, x4 = v5 + 1 → K28 v1 v2 v3 v4 x4 s) ∧ ((s.1 241 ((62 * v3) + v1).toNatClampNeg) = (s.1 241 ((62 * v5) + v1).toNatClampNeg) → ∀ x5 : Int32, x5 = v4 + 1 → ∀ x6 : Int32, x6 = v5 + 1 → K28 v1 v2 v3 x5 x6 s))))))
def lp_X12_mostAlike_28  (K4 : Int32 → Int32 → Int32 → fz_s → Prop) (Q : Int32 → fz_s → Prop) : Nat → Int32 → Int32 → Int32 → Int32 → Int32 → fz_s → Prop
  | 0 => fun _ _ _ _ _ _ => False
  | n + 1 => nd_X12_mostAlike_28  K4 (lp_X12_mostAlike_28  K4 Q n) Q
def nd_X12_mostAlike_4  (K4 : Int32 → Int32 → Int32 → fz_s → Prop) (Q : Int32 → fz_s → Prop) (v1 : Int32) (v2 : Int32) (v3 : Int32) (s : fz_s) : Prop :=
  ((9 < v3 → Q v2 s) ∧ (¬ 9 < v3 → vp_in v3 10 ∧ ((¬ (s.1 242 v3.toNatClampNeg) = 0 → lp_X12_mostAlike_28  K4 Q 2048 v1 v2 v3 0 0 s) ∧ ((s.1 242 v3.toNatClampNeg) = 0 → ∀ x1 : Int32, x1 = v3 + 1 → K4 v1 v2 x1 s))))
def lp_X12_mostAlike_4   (Q : Int32 → fz_s → Prop) : Nat → Int32 → Int32 → Int32 → fz_s → Prop
  | 0 => fun _ _ _ _ => False
  | n + 1 => nd_X12_mostAlike_4  (lp_X12_mostAlike_4   Q n) Q
def wp_X12_mostAlike (p0 : Int32) (s : fz_s) (Q : Int32 → fz_s → Prop) : Prop :=
  lp_X12_mostAlike_4   Q 2048 p0 0 0 s
set_option maxRecDepth 100000 in
set_option maxHeartbeats 4000000 in
theorem V_nd_X12_mostAlike_28 {g : fz_G} {l : Launch} {d : Nat} (hD : 0 ≤ d)   {K4 : Int32 → Int32 → Int32 → fz_s → Prop} {K28 : Int32 → Int32 → Int32 → Int32 → Int32 → fz_s → Prop} {Q : Int32 → fz_s → Prop} {v1 : Int32} {v2 : Int32} {v3 : Int32} {v4 : Int32} {v5 : Int32} {s : fz_s} (hK4 : ∀ {v1 : Int32} {v2 : Int32} {v3 : Int32} {s : fz_s}, K4 v1 v2 v3 s → fs_V g l m_X12_mostAlike d false 4 [.ref 196, .int v1, .int v2, .int v3, fz_J, fz_J] [] s (rI Q)) (hK28 : ∀ {v1 : Int32} {v2 : Int32} {v3 : Int32} {v4 : Int32} {v5 : Int32} {s : fz_s}, K28 v1 v2 v3 v4 v5 s → fs_V g l m_X12_mostAlike d false 28 [.ref 196, .int v1, .int v2, .int v3, .int v4, .int v5] [] s (rI Q)) (H : nd_X12_mostAlike_28  K4 K28 Q v1 v2 v3 v4 v5 s) : fs_V g l m_X12_mostAlike d false 28 [.ref 196, .int v1, .int v2, .int v3, .int v4, .int v5] [] s (rI Q) := by
  unfold nd_X12_mostAlike_28 at H
  refine fs_iload (i := 5) dd_X12_mostAlike_28 rfl ?_
  refine fs_bipush (n := 9) (v := 9) dd_X12_mostAlike_30 (by decide) ?_
  refine fs_icmp_gt (tgt := 80) dd_X12_mostAlike_32 (by decide) (fun hc => ?_) (fun hc => ?_)
  · replace H := H.1 hc
    refine fs_iload (i := 4) dd_X12_mostAlike_80 rfl ?_
    refine fs_iload_n (k0 := 2) (i := 2) dd_X12_mostAlike_82 rfl rfl ?_
    refine fs_icmp_le (tgt := 89) dd_X12_mostAlike_83 (by decide) (fun hc => ?_) (fun hc => ?_)
    · replace H := H.1 hc
      refine fs_iincN (i := 3) (m := 1) (c := 1) dd_X12_mostAlike_89 rfl (by decide) (by decide) (fun x1 hx1 => ?_)
      replace H := H x1 hx1
      refine fs_goto (tgt := 4) dd_X12_mostAlike_92 (by decide) ?_
      refine fs_weak (ls2 := [.ref 196, .int v1, .int v2, .int x1, fz_J, fz_J]) (fz_le_e (fz_le_e (fz_le_e (fz_le_e (fz_le_j (fz_le_j fz_le_n)))))) ?_
      exact hK4 H
    · replace H := H.2 hc
      refine fs_iload (i := 4) dd_X12_mostAlike_86 rfl ?_
      refine fs_istore_n (k0 := 2) (i := 2) dd_X12_mostAlike_88 rfl (by decide) ?_
      refine fs_iincN (i := 3) (m := 1) (c := 1) dd_X12_mostAlike_89 rfl (by decide) (by decide) (fun x2 hx2 => ?_)
      replace H := H x2 hx2
      refine fs_goto (tgt := 4) dd_X12_mostAlike_92 (by decide) ?_
      refine fs_weak (ls2 := [.ref 196, .int v1, .int v4, .int x2, fz_J, fz_J]) (fz_le_e (fz_le_e (fz_le_e (fz_le_e (fz_le_j (fz_le_j fz_le_n)))))) ?_
      exact hK4 H
  · replace H := H.2 hc
    refine fs_aload_n (k0 := 0) (i := 0) dd_X12_mostAlike_35 rfl rfl ?_
    refine fs_getr (ci := 12) (j := 69) (q := 242) dd_X12_mostAlike_36 fl_X12_151 ca_196 rfl (Or.inr ⟨_, rfl⟩) rfl (by decide) ?_
    refine fs_iload (i := 5) dd_X12_mostAlike_39 rfl ?_
    have hb := H.1
    replace H := H.2
    refine fs_zald dd_X12_mostAlike_41 ca_242 hb ?_
    refine fs_if_eq (tgt := 74) dd_X12_mostAlike_42 (by decide) (fun hc => ?_) (fun hc => ?_)
    · replace H := H.1 hc
      refine fs_iincN (i := 5) (m := 1) (c := 1) dd_X12_mostAlike_74 rfl (by decide) (by decide) (fun x3 hx3 => ?_)
      replace H := H x3 hx3
      refine fs_goto (tgt := 28) dd_X12_mostAlike_77 (by decide) ?_
      refine fs_weak (ls2 := [.ref 196, .int v1, .int v2, .int v3, .int v4, .int x3]) (fz_le_e (fz_le_e (fz_le_e (fz_le_e (fz_le_e (fz_le_e fz_le_n)))))) ?_
      exact hK28 H
    · replace H := H.2 hc
      refine fs_aload_n (k0 := 0) (i := 0) dd_X12_mostAlike_45 rfl rfl ?_
      refine fs_getr (ci := 12) (j := 68) (q := 241) dd_X12_mostAlike_46 fl_X12_148 ca_196 rfl (Or.inr ⟨_, rfl⟩) rfl (by decide) ?_
      refine fs_bipush (n := 62) (v := 62) dd_X12_mostAlike_49 (by decide) ?_
      refine fs_iload_n (k0 := 3) (i := 3) dd_X12_mostAlike_51 rfl rfl ?_
      refine fs_imul dd_X12_mostAlike_52 ?_
      refine fs_iload_n (k0 := 1) (i := 1) dd_X12_mostAlike_53 rfl rfl ?_
      refine fs_iadd dd_X12_mostAlike_54 ?_
      have hb := H.1
      replace H := H.2
      refine fs_iald dd_X12_mostAlike_55 ca_241 hb ?_
      refine fs_aload_n (k0 := 0) (i := 0) dd_X12_mostAlike_56 rfl rfl ?_
      refine fs_getr (ci := 12) (j := 68) (q := 241) dd_X12_mostAlike_57 fl_X12_148 ca_196 rfl (Or.inr ⟨_, rfl⟩) rfl (by decide) ?_
      refine fs_bipush (n := 62) (v := 62) dd_X12_mostAlike_60 (by decide) ?_
      refine fs_iload (i := 5) dd_X12_mostAlike_62 rfl ?_
      refine fs_imul dd_X12_mostAlike_64 ?_
      refine fs_iload_n (k0 := 1) (i := 1) dd_X12_mostAlike_65 rfl rfl ?_
      refine fs_iadd dd_X12_mostAlike_66 ?_
      have hb := H.1
      replace H := H.2
      refine fs_iald dd_X12_mostAlike_67 ca_241 hb ?_
      refine fs_icmp_ne (tgt := 74) dd_X12_mostAlike_68 (by decide) (fun hc => ?_) (fun hc => ?_)
      · replace H := H.1 hc
        refine fs_iincN (i := 5) (m := 1) (c := 1) dd_X12_mostAlike_74 rfl (by decide) (by decide) (fun x4 hx4 => ?_)
        replace H := H x4 hx4
        refine fs_goto (tgt := 28) dd_X12_mostAlike_77 (by decide) ?_
        refine fs_weak (ls2 := [.ref 196, .int v1, .int v2, .int v3, .int v4, .int x4]) (fz_le_e (fz_le_e (fz_le_e (fz_le_e (fz_le_e (fz_le_e fz_le_n)))))) ?_
        exact hK28 H
      · replace H := H.2 hc
        refine fs_iincN (i := 4) (m := 1) (c := 1) dd_X12_mostAlike_71 rfl (by decide) (by decide) (fun x5 hx5 => ?_)
        replace H := H x5 hx5
        refine fs_iincN (i := 5) (m := 1) (c := 1) dd_X12_mostAlike_74 rfl (by decide) (by decide) (fun x6 hx6 => ?_)
        replace H := H x6 hx6
        refine fs_goto (tgt := 28) dd_X12_mostAlike_77 (by decide) ?_
        refine fs_weak (ls2 := [.ref 196, .int v1, .int v2, .int v3, .int x5, .int x6]) (fz_le_e (fz_le_e (fz_le_e (fz_le_e (fz_le_e (fz_le_e fz_le_n)))))) ?_
        exact hK28 H
set_option maxRecDepth 100000 in
set_option maxHeartbeats 4000000 in
theorem V_lp_X12_mostAlike_28 {g : fz_G} {l : Launch} {d : Nat} (hD : 0 ≤ d)   {K4 : Int32 → Int32 → Int32 → fz_s → Prop} {Q : Int32 → fz_s → Prop} (hK4 : ∀ {v1 : Int32} {v2 : Int32} {v3 : Int32} {s : fz_s}, K4 v1 v2 v3 s → fs_V g l m_X12_mostAlike d false 4 [.ref 196, .int v1, .int v2, .int v3, fz_J, fz_J] [] s (rI Q)) (n : Nat) : ∀ {v1 : Int32} {v2 : Int32} {v3 : Int32} {v4 : Int32} {v5 : Int32} {s : fz_s}, lp_X12_mostAlike_28  K4 Q n v1 v2 v3 v4 v5 s → fs_V g l m_X12_mostAlike d false 28 [.ref 196, .int v1, .int v2, .int v3, .int v4, .int v5] [] s (rI Q) := by
  induction n with
  | zero => intro v1 v2 v3 v4 v5 s H; exact H.elim
  | succ n ih => intro v1 v2 v3 v4 v5 s H; exact V_nd_X12_mostAlike_28 hD  hK4 (fun H => ih H) H
set_option maxRecDepth 100000 in
set_option maxHeartbeats 4000000 in
theorem V_nd_X12_mostAlike_4 {g : fz_G} {l : Launch} {d : Nat} (hD : 0 ≤ d)   {K4 : Int32 → Int32 → Int32 → fz_s → Prop} {Q : Int32 → fz_s → Prop} {v1 : Int32} {v2 : Int32} {v3 : Int32} {s : fz_s} (hK4 : ∀ {v1 : Int32} {v2 : Int32} {v3 : Int32} {s : fz_s}, K4 v1 v2 v3 s → fs_V g l m_X12_mostAlike d false 4 [.ref 196, .int v1, .int v2, .int v3, fz_J, fz_J] [] s (rI Q)) (H : nd_X12_mostAlike_4  K4 Q v1 v2 v3 s) : fs_V g l m_X12_mostAlike d false 4 [.ref 196, .int v1, .int v2, .int v3, fz_J, fz_J] [] s (rI Q) := by
  unfold nd_X12_mostAlike_4 at H
  refine fs_iload_n (k0 := 3) (i := 3) dd_X12_mostAlike_4 rfl rfl ?_
  refine fs_bipush (n := 9) (v := 9) dd_X12_mostAlike_5 (by decide) ?_
  refine fs_icmp_gt (tgt := 95) dd_X12_mostAlike_7 (by decide) (fun hc => ?_) (fun hc => ?_)
  · replace H := H.1 hc
    refine fs_iload_n (k0 := 2) (i := 2) dd_X12_mostAlike_95 rfl rfl ?_
    exact fs_iret dd_X12_mostAlike_96 rfl H
  · replace H := H.2 hc
    refine fs_aload_n (k0 := 0) (i := 0) dd_X12_mostAlike_10 rfl rfl ?_
    refine fs_getr (ci := 12) (j := 69) (q := 242) dd_X12_mostAlike_11 fl_X12_151 ca_196 rfl (Or.inr ⟨_, rfl⟩) rfl (by decide) ?_
    refine fs_iload_n (k0 := 3) (i := 3) dd_X12_mostAlike_14 rfl rfl ?_
    have hb := H.1
    replace H := H.2
    refine fs_zald dd_X12_mostAlike_15 ca_242 hb ?_
    refine fs_if_ne (tgt := 22) dd_X12_mostAlike_16 (by decide) (fun hc => ?_) (fun hc => ?_)
    · replace H := H.1 hc
      refine fs_iconst (n := 0) (v := 0) dd_X12_mostAlike_22 (by decide) ?_
      refine fs_istore (i := 4) dd_X12_mostAlike_23 (by decide) ?_
      refine fs_iconst (n := 0) (v := 0) dd_X12_mostAlike_25 (by decide) ?_
      refine fs_istore (i := 5) dd_X12_mostAlike_26 (by decide) ?_
      refine fs_weak (ls2 := [.ref 196, .int v1, .int v2, .int v3, .int 0, .int 0]) (fz_le_e (fz_le_e (fz_le_e (fz_le_e (fz_le_e (fz_le_e fz_le_n)))))) ?_
      exact V_lp_X12_mostAlike_28 hD   hK4 2048 H
    · replace H := H.2 hc
      refine fs_goto (tgt := 89) dd_X12_mostAlike_19 (by decide) ?_
      refine fs_iincN (i := 3) (m := 1) (c := 1) dd_X12_mostAlike_89 rfl (by decide) (by decide) (fun x1 hx1 => ?_)
      replace H := H x1 hx1
      refine fs_goto (tgt := 4) dd_X12_mostAlike_92 (by decide) ?_
      refine fs_weak (ls2 := [.ref 196, .int v1, .int v2, .int x1, fz_J, fz_J]) (fz_le_e (fz_le_e (fz_le_e (fz_le_e (fz_le_j (fz_le_j fz_le_n)))))) ?_
      exact hK4 H
set_option maxRecDepth 100000 in
set_option maxHeartbeats 4000000 in
theorem V_lp_X12_mostAlike_4 {g : fz_G} {l : Launch} {d : Nat} (hD : 0 ≤ d)    {Q : Int32 → fz_s → Prop}  (n : Nat) : ∀ {v1 : Int32} {v2 : Int32} {v3 : Int32} {s : fz_s}, lp_X12_mostAlike_4   Q n v1 v2 v3 s → fs_V g l m_X12_mostAlike d false 4 [.ref 196, .int v1, .int v2, .int v3, fz_J, fz_J] [] s (rI Q) := by
  induction n with
  | zero => intro v1 v2 v3 s H; exact H.elim
  | succ n ih => intro v1 v2 v3 s H; exact V_nd_X12_mostAlike_4 hD  (fun H => ih H) H
set_option maxRecDepth 100000 in
set_option maxHeartbeats 4000000 in
theorem V_X12_mostAlike {g : fz_G} {l : Launch} {d : Nat} (hD : 0 ≤ d) {p0 : Int32}  {s : fz_s} {Q : Int32 → fz_s → Prop} (H : wp_X12_mostAlike p0 s Q) : fs_V g l m_X12_mostAlike d false 0 (fz_en [.ref 196, .int p0] 6) [] s (rI Q) := by
  unfold wp_X12_mostAlike at H
  refine fs_iconst (n := 0) (v := 0) dd_X12_mostAlike_0 (by decide) ?_
  refine fs_istore_n (k0 := 2) (i := 2) dd_X12_mostAlike_1 rfl (by decide) ?_
  refine fs_iconst (n := 0) (v := 0) dd_X12_mostAlike_2 (by decide) ?_
  refine fs_istore_n (k0 := 3) (i := 3) dd_X12_mostAlike_3 rfl (by decide) ?_
  refine fs_weak (ls2 := [.ref 196, .int p0, .int 0, .int 0, fz_J, fz_J]) (fz_le_e (fz_le_e (fz_le_e (fz_le_e (fz_le_j (fz_le_j fz_le_n)))))) ?_
  exact V_lp_X12_mostAlike_4 hD    2048 H
theorem dd_X12_tells_0 : decode m_X12_tells.2.1 0 = .ok (.aload_n 0, 1) := by decide +kernel
theorem dd_X12_tells_1 : decode m_X12_tells.2.1 1 = .ok (.iload_n 1, 1) := by decide +kernel
theorem dd_X12_tells_2 : decode m_X12_tells.2.1 2 = .ok (.invokevirtual 415, 3) := by decide +kernel
theorem dd_X12_tells_5 : decode m_X12_tells.2.1 5 = .ok (.ifCond .eq 15, 3) := by decide +kernel
theorem dd_X12_tells_8 : decode m_X12_tells.2.1 8 = .ok (.iload_n 2, 1) := by decide +kernel
theorem dd_X12_tells_9 : decode m_X12_tells.2.1 9 = .ok (.i2l, 1) := by decide +kernel
theorem dd_X12_tells_10 : decode m_X12_tells.2.1 10 = .ok (.lconst 0, 1) := by decide +kernel
theorem dd_X12_tells_11 : decode m_X12_tells.2.1 11 = .ok (.ldc2_w 523, 3) := by decide +kernel
theorem dd_X12_tells_14 : decode m_X12_tells.2.1 14 = .ok (.invokestatic 295, 3) := by decide +kernel
theorem dd_X12_tells_17 : decode m_X12_tells.2.1 17 = .ok (.ifCond .ne 5, 3) := by decide +kernel
theorem dd_X12_tells_20 : decode m_X12_tells.2.1 20 = .ok (.iconst (-1), 1) := by decide +kernel
theorem dd_X12_tells_21 : decode m_X12_tells.2.1 21 = .ok (.ireturn, 1) := by decide +kernel
theorem dd_X12_tells_22 : decode m_X12_tells.2.1 22 = .ok (.aload_n 0, 1) := by decide +kernel
theorem dd_X12_tells_23 : decode m_X12_tells.2.1 23 = .ok (.iload_n 1, 1) := by decide +kernel
theorem dd_X12_tells_24 : decode m_X12_tells.2.1 24 = .ok (.invokevirtual 580, 3) := by decide +kernel
theorem dd_X12_tells_27 : decode m_X12_tells.2.1 27 = .ok (.iconst (-1), 1) := by decide +kernel
theorem dd_X12_tells_28 : decode m_X12_tells.2.1 28 = .ok (.istore_n 3, 1) := by decide +kernel
theorem dd_X12_tells_29 : decode m_X12_tells.2.1 29 = .ok (.iconst 0, 1) := by decide +kernel
theorem dd_X12_tells_30 : decode m_X12_tells.2.1 30 = .ok (.istore 4, 2) := by decide +kernel
theorem dd_X12_tells_32 : decode m_X12_tells.2.1 32 = .ok (.iconst 2, 1) := by decide +kernel
theorem dd_X12_tells_33 : decode m_X12_tells.2.1 33 = .ok (.istore 5, 2) := by decide +kernel
theorem dd_X12_tells_35 : decode m_X12_tells.2.1 35 = .ok (.aload_n 0, 1) := by decide +kernel
theorem dd_X12_tells_36 : decode m_X12_tells.2.1 36 = .ok (.getfield 574, 3) := by decide +kernel
theorem dd_X12_tells_39 : decode m_X12_tells.2.1 39 = .ok (.ifCond .le 53, 3) := by decide +kernel
theorem dd_X12_tells_42 : decode m_X12_tells.2.1 42 = .ok (.aload_n 0, 1) := by decide +kernel
theorem dd_X12_tells_43 : decode m_X12_tells.2.1 43 = .ok (.iload 5, 2) := by decide +kernel
theorem dd_X12_tells_45 : decode m_X12_tells.2.1 45 = .ok (.iconst 2, 1) := by decide +kernel
theorem dd_X12_tells_46 : decode m_X12_tells.2.1 46 = .ok (.idiv, 1) := by decide +kernel
theorem dd_X12_tells_47 : decode m_X12_tells.2.1 47 = .ok (.iconst 1, 1) := by decide +kernel
theorem dd_X12_tells_48 : decode m_X12_tells.2.1 48 = .ok (.bipush 30, 2) := by decide +kernel
theorem dd_X12_tells_50 : decode m_X12_tells.2.1 50 = .ok (.invokevirtual 525, 3) := by decide +kernel
theorem dd_X12_tells_53 : decode m_X12_tells.2.1 53 = .ok (.ifCond .eq 39, 3) := by decide +kernel
theorem dd_X12_tells_56 : decode m_X12_tells.2.1 56 = .ok (.aload_n 0, 1) := by decide +kernel
theorem dd_X12_tells_57 : decode m_X12_tells.2.1 57 = .ok (.iload 5, 2) := by decide +kernel
theorem dd_X12_tells_59 : decode m_X12_tells.2.1 59 = .ok (.invokevirtual 583, 3) := by decide +kernel
theorem dd_X12_tells_62 : decode m_X12_tells.2.1 62 = .ok (.istore 6, 2) := by decide +kernel
theorem dd_X12_tells_64 : decode m_X12_tells.2.1 64 = .ok (.iload_n 3, 1) := by decide +kernel
theorem dd_X12_tells_65 : decode m_X12_tells.2.1 65 = .ok (.iconst (-1), 1) := by decide +kernel
theorem dd_X12_tells_66 : decode m_X12_tells.2.1 66 = .ok (.if_icmp .eq 13, 3) := by decide +kernel
theorem dd_X12_tells_69 : decode m_X12_tells.2.1 69 = .ok (.iload 6, 2) := by decide +kernel
theorem dd_X12_tells_71 : decode m_X12_tells.2.1 71 = .ok (.iload 4, 2) := by decide +kernel
theorem dd_X12_tells_73 : decode m_X12_tells.2.1 73 = .ok (.if_icmp .lt 6, 3) := by decide +kernel
theorem dd_X12_tells_76 : decode m_X12_tells.2.1 76 = .ok (.goto 10, 3) := by decide +kernel
theorem dd_X12_tells_79 : decode m_X12_tells.2.1 79 = .ok (.iload 5, 2) := by decide +kernel
theorem dd_X12_tells_81 : decode m_X12_tells.2.1 81 = .ok (.istore_n 3, 1) := by decide +kernel
theorem dd_X12_tells_82 : decode m_X12_tells.2.1 82 = .ok (.iload 6, 2) := by decide +kernel
theorem dd_X12_tells_84 : decode m_X12_tells.2.1 84 = .ok (.istore 4, 2) := by decide +kernel
theorem dd_X12_tells_86 : decode m_X12_tells.2.1 86 = .ok (.iinc 5 1, 3) := by decide +kernel
theorem dd_X12_tells_89 : decode m_X12_tells.2.1 89 = .ok (.goto (-54), 3) := by decide +kernel
theorem dd_X12_tells_92 : decode m_X12_tells.2.1 92 = .ok (.iload_n 3, 1) := by decide +kernel
theorem dd_X12_tells_93 : decode m_X12_tells.2.1 93 = .ok (.iconst (-1), 1) := by decide +kernel
theorem dd_X12_tells_94 : decode m_X12_tells.2.1 94 = .ok (.if_icmp .ne 7, 3) := by decide +kernel
theorem dd_X12_tells_97 : decode m_X12_tells.2.1 97 = .ok (.iconst (-1), 1) := by decide +kernel
theorem dd_X12_tells_98 : decode m_X12_tells.2.1 98 = .ok (.goto 26, 3) := by decide +kernel
theorem dd_X12_tells_101 : decode m_X12_tells.2.1 101 = .ok (.iload_n 2, 1) := by decide +kernel
theorem dd_X12_tells_102 : decode m_X12_tells.2.1 102 = .ok (.ifCond .ne 9, 3) := by decide +kernel
theorem dd_X12_tells_105 : decode m_X12_tells.2.1 105 = .ok (.iload_n 3, 1) := by decide +kernel
theorem dd_X12_tells_106 : decode m_X12_tells.2.1 106 = .ok (.iconst 2, 1) := by decide +kernel
theorem dd_X12_tells_107 : decode m_X12_tells.2.1 107 = .ok (.idiv, 1) := by decide +kernel
theorem dd_X12_tells_108 : decode m_X12_tells.2.1 108 = .ok (.goto 16, 3) := by decide +kernel
theorem dd_X12_tells_111 : decode m_X12_tells.2.1 111 = .ok (.iload_n 2, 1) := by decide +kernel
theorem dd_X12_tells_112 : decode m_X12_tells.2.1 112 = .ok (.iconst 1, 1) := by decide +kernel
theorem dd_X12_tells_113 : decode m_X12_tells.2.1 113 = .ok (.if_icmp .ne 9, 3) := by decide +kernel
theorem dd_X12_tells_116 : decode m_X12_tells.2.1 116 = .ok (.iload_n 3, 1) := by decide +kernel
theorem dd_X12_tells_117 : decode m_X12_tells.2.1 117 = .ok (.iconst 2, 1) := by decide +kernel
theorem dd_X12_tells_118 : decode m_X12_tells.2.1 118 = .ok (.irem, 1) := by decide +kernel
theorem dd_X12_tells_119 : decode m_X12_tells.2.1 119 = .ok (.goto 5, 3) := by decide +kernel
theorem dd_X12_tells_122 : decode m_X12_tells.2.1 122 = .ok (.iload 4, 2) := by decide +kernel
theorem dd_X12_tells_124 : decode m_X12_tells.2.1 124 = .ok (.ireturn, 1) := by decide +kernel
def nd_X12_tells_92   (Q : Int32 → fz_s → Prop) (v2 : Int32) (v3 : Int32) (v4 : Int32) (s : fz_s) : Prop :=
  ((¬ v3 = (-1) → ((¬ v2 = 0 → ((¬ v2 = 1 → Q v4 s) ∧ (v2 = 1 → Q (v3 - v3 / 2 * 2) s))) ∧ (v2 = 0 → Q (v3 / 2) s))) ∧ (v3 = (-1) → Q (-1) s))
def nd_X12_tells_35  (K35 : Int32 → Int32 → Int32 → Int32 → fz_s → Prop) (Q : Int32 → fz_s → Prop) (v2 : Int32) (v3 : Int32) (v4 : Int32) (v5 : Int32) (s : fz_s) : Prop :=
  (((s.1 196 70) ≤ 0 → nd_X12_tells_92   Q v2 v3 v4 s) ∧ (¬ (s.1 196 70) ≤ 0 → wp_X12_isAhead (v5 / 2) 1 30 s (fun r1 s2 => ((r1 = false → nd_X12_tells_92   Q v2 v3 v4 s2) ∧ (r1 = true → wp_X12_mostAlike v5 s2 (fun r3 s4 => ((v3 = (-1) → ∀ x5 : Int32, x5 = v5 + 1 → K35 v2 v5 r3 x5 s4) ∧ (¬ v3 = (-1) → ((r3 < v4 → ∀ x6 : Int32, x6 = v5 + 1 → K35 v2 v5 r3 x6 s4) ∧ (¬ r3 < v4 → ∀ x7 : Int32, x7 = v5 + 1 → K35 v2 v3 v4 x7 s4))))))))))
def lp_X12_tells_35   (Q : Int32 → fz_s → Prop) : Nat → Int32 → Int32 → Int32 → Int32 → fz_s → Prop
  | 0 => fun _ _ _ _ _ => False
  | n + 1 => nd_X12_tells_35  (lp_X12_tells_35   Q n) Q
def wp_X12_tells (p0 : Int32) (p1 : Int32) (s : fz_s) (Q : Int32 → fz_s → Prop) : Prop :=
  wp_X12_isPerson p0 s (fun r1 s2 => ((r1 = false → Q (-1) s2) ∧ (r1 = true → wp_X12_isIn p1.toInt64 0 2 s2 (fun r3 s4 => ((r3 = true → wp_X12_laysFits p0 s4 (fun s6 => lp_X12_tells_35   Q 2048 p1 (-1) 0 2 s6)) ∧ (r3 = false → Q (-1) s4))))))
set_option maxRecDepth 100000 in
set_option maxHeartbeats 4000000 in
theorem V_nd_X12_tells_92 {g : fz_G} {l : Launch} {d : Nat} (hD : 10 ≤ d)    {Q : Int32 → fz_s → Prop} {v2 : Int32} {v3 : Int32} {v4 : Int32} {s : fz_s}  (H : nd_X12_tells_92   Q v2 v3 v4 s) : fs_V g l m_X12_tells d false 92 [fz_J, fz_J, .int v2, .int v3, .int v4, fz_J, fz_J] [] s (rI Q) := by
  obtain ⟨d, rfl⟩ : ∃ e, d = e + 1 := ⟨d - 1, by omega⟩
  unfold nd_X12_tells_92 at H
  refine fs_iload_n (k0 := 3) (i := 3) dd_X12_tells_92 rfl rfl ?_
  refine fs_iconst (n := -1) (v := -1) dd_X12_tells_93 (by decide) ?_
  refine fs_icmp_ne (tgt := 101) dd_X12_tells_94 (by decide) (fun hc => ?_) (fun hc => ?_)
  · replace H := H.1 hc
    refine fs_iload_n (k0 := 2) (i := 2) dd_X12_tells_101 rfl rfl ?_
    refine fs_if_ne (tgt := 111) dd_X12_tells_102 (by decide) (fun hc => ?_) (fun hc => ?_)
    · replace H := H.1 hc
      refine fs_iload_n (k0 := 2) (i := 2) dd_X12_tells_111 rfl rfl ?_
      refine fs_iconst (n := 1) (v := 1) dd_X12_tells_112 (by decide) ?_
      refine fs_icmp_ne (tgt := 122) dd_X12_tells_113 (by decide) (fun hc => ?_) (fun hc => ?_)
      · replace H := H.1 hc
        refine fs_iload (i := 4) dd_X12_tells_122 rfl ?_
        exact fs_iret dd_X12_tells_124 rfl H
      · replace H := H.2 hc
        refine fs_iload_n (k0 := 3) (i := 3) dd_X12_tells_116 rfl rfl ?_
        refine fs_iconst (n := 2) (v := 2) dd_X12_tells_117 (by decide) ?_
        refine fs_irem dd_X12_tells_118 (by decide) ?_
        refine fs_goto (tgt := 124) dd_X12_tells_119 (by decide) ?_
        exact fs_iret dd_X12_tells_124 rfl H
    · replace H := H.2 hc
      refine fs_iload_n (k0 := 3) (i := 3) dd_X12_tells_105 rfl rfl ?_
      refine fs_iconst (n := 2) (v := 2) dd_X12_tells_106 (by decide) ?_
      refine fs_idiv dd_X12_tells_107 (by decide) ?_
      refine fs_goto (tgt := 124) dd_X12_tells_108 (by decide) ?_
      exact fs_iret dd_X12_tells_124 rfl H
  · replace H := H.2 hc
    refine fs_iconst (n := -1) (v := -1) dd_X12_tells_97 (by decide) ?_
    refine fs_goto (tgt := 124) dd_X12_tells_98 (by decide) ?_
    exact fs_iret dd_X12_tells_124 rfl H
set_option maxRecDepth 100000 in
set_option maxHeartbeats 4000000 in
theorem V_nd_X12_tells_35 {g : fz_G} {l : Launch} {d : Nat} (hD : 10 ≤ d)   {K35 : Int32 → Int32 → Int32 → Int32 → fz_s → Prop} {Q : Int32 → fz_s → Prop} {v2 : Int32} {v3 : Int32} {v4 : Int32} {v5 : Int32} {s : fz_s} (hK35 : ∀ {v2 : Int32} {v3 : Int32} {v4 : Int32} {v5 : Int32} {s : fz_s}, K35 v2 v3 v4 v5 s → fs_V g l m_X12_tells d false 35 [.ref 196, fz_J, .int v2, .int v3, .int v4, .int v5, fz_J] [] s (rI Q)) (H : nd_X12_tells_35  K35 Q v2 v3 v4 v5 s) : fs_V g l m_X12_tells d false 35 [.ref 196, fz_J, .int v2, .int v3, .int v4, .int v5, fz_J] [] s (rI Q) := by
  obtain ⟨d, rfl⟩ : ∃ e, d = e + 1 := ⟨d - 1, by omega⟩
  unfold nd_X12_tells_35 at H
  refine fs_aload_n (k0 := 0) (i := 0) dd_X12_tells_35 rfl rfl ?_
  refine fs_geti (ci := 12) (j := 70) dd_X12_tells_36 fl_X12_574 ca_196 rfl (Or.inl rfl) ?_
  refine fs_if_le (tgt := 92) dd_X12_tells_39 (by decide) (fun hc => ?_) (fun hc => ?_)
  · replace H := H.1 hc
    refine fs_weak (ls2 := [fz_J, fz_J, .int v2, .int v3, .int v4, fz_J, fz_J]) (fz_le_j (fz_le_j (fz_le_e (fz_le_e (fz_le_e (fz_le_j (fz_le_j fz_le_n))))))) ?_
    exact V_nd_X12_tells_92 hD    H
  · replace H := H.2 hc
    refine fs_aload_n (k0 := 0) (i := 0) dd_X12_tells_42 rfl rfl ?_
    refine fs_iload (i := 5) dd_X12_tells_43 rfl ?_
    refine fs_iconst (n := 2) (v := 2) dd_X12_tells_45 (by decide) ?_
    refine fs_idiv dd_X12_tells_46 (by decide) ?_
    refine fs_iconst (n := 1) (v := 1) dd_X12_tells_47 (by decide) ?_
    refine fs_bipush (n := 30) (v := 30) dd_X12_tells_48 (by decide) ?_
    refine fs_callV (y := m_X12_isAhead) (as := [.int (v5 / 2), .int 1, .int 30]) dd_X12_tells_50 me_X12_isAhead lk_X12_525 in_X12_isAhead se_X12_isAhead ca_196 rfl rfl rfl (Nat.le_of_ble_eq_true rfl) (Nat.le_of_ble_eq_true rfl) rfl (V_X12_isAhead (by omega)  H) (k2_Z fun r1 s2 H => ?_)
    refine fs_if_eq (tgt := 92) dd_X12_tells_53 (by decide) (fun hc => ?_) (fun hc => ?_)
    · replace H := H.1 (bi_0 hc)
      refine fs_weak (ls2 := [fz_J, fz_J, .int v2, .int v3, .int v4, fz_J, fz_J]) (fz_le_j (fz_le_j (fz_le_e (fz_le_e (fz_le_e (fz_le_j (fz_le_j fz_le_n))))))) ?_
      exact V_nd_X12_tells_92 hD    H
    · replace H := H.2 (bi_1 hc)
      refine fs_aload_n (k0 := 0) (i := 0) dd_X12_tells_56 rfl rfl ?_
      refine fs_iload (i := 5) dd_X12_tells_57 rfl ?_
      refine fs_callV (y := m_X12_mostAlike) (as := [.int v5]) dd_X12_tells_59 me_X12_mostAlike lk_X12_583 in_X12_mostAlike se_X12_mostAlike ca_196 rfl rfl rfl (Nat.le_of_ble_eq_true rfl) (Nat.le_of_ble_eq_true rfl) rfl (V_X12_mostAlike (by omega)  H) (k2_I fun r3 s4 H => ?_)
      refine fs_istore (i := 6) dd_X12_tells_62 (by decide) ?_
      refine fs_iload_n (k0 := 3) (i := 3) dd_X12_tells_64 rfl rfl ?_
      refine fs_iconst (n := -1) (v := -1) dd_X12_tells_65 (by decide) ?_
      refine fs_icmp_eq (tgt := 79) dd_X12_tells_66 (by decide) (fun hc => ?_) (fun hc => ?_)
      · replace H := H.1 hc
        refine fs_iload (i := 5) dd_X12_tells_79 rfl ?_
        refine fs_istore_n (k0 := 3) (i := 3) dd_X12_tells_81 rfl (by decide) ?_
        refine fs_iload (i := 6) dd_X12_tells_82 rfl ?_
        refine fs_istore (i := 4) dd_X12_tells_84 (by decide) ?_
        refine fs_iincN (i := 5) (m := 1) (c := 1) dd_X12_tells_86 rfl (by decide) (by decide) (fun x5 hx5 => ?_)
        replace H := H x5 hx5
        refine fs_goto (tgt := 35) dd_X12_tells_89 (by decide) ?_
        refine fs_weak (ls2 := [.ref 196, fz_J, .int v2, .int v5, .int r3, .int x5, fz_J]) (fz_le_e (fz_le_j (fz_le_e (fz_le_e (fz_le_e (fz_le_e (fz_le_j fz_le_n))))))) ?_
        exact hK35 H
      · replace H := H.2 hc
        refine fs_iload (i := 6) dd_X12_tells_69 rfl ?_
        refine fs_iload (i := 4) dd_X12_tells_71 rfl ?_
        refine fs_icmp_lt (tgt := 79) dd_X12_tells_73 (by decide) (fun hc => ?_) (fun hc => ?_)
        · replace H := H.1 hc
          refine fs_iload (i := 5) dd_X12_tells_79 rfl ?_
          refine fs_istore_n (k0 := 3) (i := 3) dd_X12_tells_81 rfl (by decide) ?_
          refine fs_iload (i := 6) dd_X12_tells_82 rfl ?_
          refine fs_istore (i := 4) dd_X12_tells_84 (by decide) ?_
          refine fs_iincN (i := 5) (m := 1) (c := 1) dd_X12_tells_86 rfl (by decide) (by decide) (fun x6 hx6 => ?_)
          replace H := H x6 hx6
          refine fs_goto (tgt := 35) dd_X12_tells_89 (by decide) ?_
          refine fs_weak (ls2 := [.ref 196, fz_J, .int v2, .int v5, .int r3, .int x6, fz_J]) (fz_le_e (fz_le_j (fz_le_e (fz_le_e (fz_le_e (fz_le_e (fz_le_j fz_le_n))))))) ?_
          exact hK35 H
        · replace H := H.2 hc
          refine fs_goto (tgt := 86) dd_X12_tells_76 (by decide) ?_
          refine fs_iincN (i := 5) (m := 1) (c := 1) dd_X12_tells_86 rfl (by decide) (by decide) (fun x7 hx7 => ?_)
          replace H := H x7 hx7
          refine fs_goto (tgt := 35) dd_X12_tells_89 (by decide) ?_
          refine fs_weak (ls2 := [.ref 196, fz_J, .int v2, .int v3, .int v4, .int x7, fz_J]) (fz_le_e (fz_le_j (fz_le_e (fz_le_e (fz_le_e (fz_le_e (fz_le_j fz_le_n))))))) ?_
          exact hK35 H
set_option maxRecDepth 100000 in
set_option maxHeartbeats 4000000 in
theorem V_lp_X12_tells_35 {g : fz_G} {l : Launch} {d : Nat} (hD : 10 ≤ d)    {Q : Int32 → fz_s → Prop}  (n : Nat) : ∀ {v2 : Int32} {v3 : Int32} {v4 : Int32} {v5 : Int32} {s : fz_s}, lp_X12_tells_35   Q n v2 v3 v4 v5 s → fs_V g l m_X12_tells d false 35 [.ref 196, fz_J, .int v2, .int v3, .int v4, .int v5, fz_J] [] s (rI Q) := by
  induction n with
  | zero => intro v2 v3 v4 v5 s H; exact H.elim
  | succ n ih => intro v2 v3 v4 v5 s H; exact V_nd_X12_tells_35 hD  (fun H => ih H) H
set_option maxRecDepth 100000 in
set_option maxHeartbeats 4000000 in
theorem V_X12_tells {g : fz_G} {l : Launch} {d : Nat} (hD : 10 ≤ d) {p0 : Int32} {p1 : Int32}  {s : fz_s} {Q : Int32 → fz_s → Prop} (H : wp_X12_tells p0 p1 s Q) : fs_V g l m_X12_tells d false 0 (fz_en [.ref 196, .int p0, .int p1] 7) [] s (rI Q) := by
  obtain ⟨d, rfl⟩ : ∃ e, d = e + 1 := ⟨d - 1, by omega⟩
  unfold wp_X12_tells at H
  refine fs_aload_n (k0 := 0) (i := 0) dd_X12_tells_0 rfl rfl ?_
  refine fs_iload_n (k0 := 1) (i := 1) dd_X12_tells_1 rfl rfl ?_
  refine fs_callV (y := m_X12_isPerson) (as := [.int p0]) dd_X12_tells_2 me_X12_isPerson lk_X12_415 in_X12_isPerson se_X12_isPerson ca_196 rfl rfl rfl (Nat.le_of_ble_eq_true rfl) (Nat.le_of_ble_eq_true rfl) rfl (V_X12_isPerson (by omega)  H) (k2_Z fun r1 s2 H => ?_)
  refine fs_if_eq (tgt := 20) dd_X12_tells_5 (by decide) (fun hc => ?_) (fun hc => ?_)
  · replace H := H.1 (bi_0 hc)
    refine fs_iconst (n := -1) (v := -1) dd_X12_tells_20 (by decide) ?_
    exact fs_iret dd_X12_tells_21 rfl H
  · replace H := H.2 (bi_1 hc)
    refine fs_iload_n (k0 := 2) (i := 2) dd_X12_tells_8 rfl rfl ?_
    refine fs_i2l dd_X12_tells_9 ?_
    refine fs_lconst (n := 0) (v := 0) dd_X12_tells_10 (by decide) ?_
    refine fs_ldc2 (idx := 523) (v := 2) dd_X12_tells_11 cl_X12_523 ?_
    refine fs_callS (y := m_X12_isIn) (as := [.long p1.toInt64, .long 0, .long 2]) dd_X12_tells_14 me_X12_isIn (Or.inl lk_X12_295) st_X12_isIn rfl (Nat.le_of_ble_eq_true rfl) (Nat.le_of_ble_eq_true rfl) rfl (V_X12_isIn (by omega)  H) (k2_Z fun r3 s4 H => ?_)
    refine fs_if_ne (tgt := 22) dd_X12_tells_17 (by decide) (fun hc => ?_) (fun hc => ?_)
    · replace H := H.1 (bi_1 hc)
      refine fs_aload_n (k0 := 0) (i := 0) dd_X12_tells_22 rfl rfl ?_
      refine fs_iload_n (k0 := 1) (i := 1) dd_X12_tells_23 rfl rfl ?_
      refine fs_callV (y := m_X12_laysFits) (as := [.int p0]) dd_X12_tells_24 me_X12_laysFits lk_X12_580 in_X12_laysFits se_X12_laysFits ca_196 rfl rfl rfl (Nat.le_of_ble_eq_true rfl) (Nat.le_of_ble_eq_true rfl) rfl (V_X12_laysFits (by omega)  H) (k2_V fun s6 H => ?_)
      refine fs_iconst (n := -1) (v := -1) dd_X12_tells_27 (by decide) ?_
      refine fs_istore_n (k0 := 3) (i := 3) dd_X12_tells_28 rfl (by decide) ?_
      refine fs_iconst (n := 0) (v := 0) dd_X12_tells_29 (by decide) ?_
      refine fs_istore (i := 4) dd_X12_tells_30 (by decide) ?_
      refine fs_iconst (n := 2) (v := 2) dd_X12_tells_32 (by decide) ?_
      refine fs_istore (i := 5) dd_X12_tells_33 (by decide) ?_
      refine fs_weak (ls2 := [.ref 196, fz_J, .int p1, .int (-1), .int 0, .int 2, fz_J]) (fz_le_e (fz_le_j (fz_le_e (fz_le_e (fz_le_e (fz_le_e (fz_le_j fz_le_n))))))) ?_
      exact V_lp_X12_tells_35 hD    2048 H
    · replace H := H.2 (bi_0 hc)
      refine fs_iconst (n := -1) (v := -1) dd_X12_tells_20 (by decide) ?_
      exact fs_iret dd_X12_tells_21 rfl H
theorem dd_X12_keeps_0 : decode m_X12_keeps.2.1 0 = .ok (.aload_n 0, 1) := by decide +kernel
theorem dd_X12_keeps_1 : decode m_X12_keeps.2.1 1 = .ok (.aload_n 0, 1) := by decide +kernel
theorem dd_X12_keeps_2 : decode m_X12_keeps.2.1 2 = .ok (.getfield 586, 3) := by decide +kernel
theorem dd_X12_keeps_5 : decode m_X12_keeps.2.1 5 = .ok (.iconst 1, 1) := by decide +kernel
theorem dd_X12_keeps_6 : decode m_X12_keeps.2.1 6 = .ok (.iadd, 1) := by decide +kernel
theorem dd_X12_keeps_7 : decode m_X12_keeps.2.1 7 = .ok (.bipush 20, 2) := by decide +kernel
theorem dd_X12_keeps_9 : decode m_X12_keeps.2.1 9 = .ok (.irem, 1) := by decide +kernel
theorem dd_X12_keeps_10 : decode m_X12_keeps.2.1 10 = .ok (.putfield 586, 3) := by decide +kernel
theorem dd_X12_keeps_13 : decode m_X12_keeps.2.1 13 = .ok (.iconst 0, 1) := by decide +kernel
theorem dd_X12_keeps_14 : decode m_X12_keeps.2.1 14 = .ok (.istore_n 1, 1) := by decide +kernel
theorem dd_X12_keeps_15 : decode m_X12_keeps.2.1 15 = .ok (.iload_n 1, 1) := by decide +kernel
theorem dd_X12_keeps_16 : decode m_X12_keeps.2.1 16 = .ok (.sipush 150, 3) := by decide +kernel
theorem dd_X12_keeps_19 : decode m_X12_keeps.2.1 19 = .ok (.if_icmp .ge 30, 3) := by decide +kernel
theorem dd_X12_keeps_22 : decode m_X12_keeps.2.1 22 = .ok (.aload_n 0, 1) := by decide +kernel
theorem dd_X12_keeps_23 : decode m_X12_keeps.2.1 23 = .ok (.getfield 155, 3) := by decide +kernel
theorem dd_X12_keeps_26 : decode m_X12_keeps.2.1 26 = .ok (.sipush 150, 3) := by decide +kernel
theorem dd_X12_keeps_29 : decode m_X12_keeps.2.1 29 = .ok (.aload_n 0, 1) := by decide +kernel
theorem dd_X12_keeps_30 : decode m_X12_keeps.2.1 30 = .ok (.getfield 586, 3) := by decide +kernel
theorem dd_X12_keeps_33 : decode m_X12_keeps.2.1 33 = .ok (.imul, 1) := by decide +kernel
theorem dd_X12_keeps_34 : decode m_X12_keeps.2.1 34 = .ok (.iload_n 1, 1) := by decide +kernel
theorem dd_X12_keeps_35 : decode m_X12_keeps.2.1 35 = .ok (.iadd, 1) := by decide +kernel
theorem dd_X12_keeps_36 : decode m_X12_keeps.2.1 36 = .ok (.aload_n 0, 1) := by decide +kernel
theorem dd_X12_keeps_37 : decode m_X12_keeps.2.1 37 = .ok (.getfield 121, 3) := by decide +kernel
theorem dd_X12_keeps_40 : decode m_X12_keeps.2.1 40 = .ok (.iload_n 1, 1) := by decide +kernel
theorem dd_X12_keeps_41 : decode m_X12_keeps.2.1 41 = .ok (.iaload, 1) := by decide +kernel
theorem dd_X12_keeps_42 : decode m_X12_keeps.2.1 42 = .ok (.iastore, 1) := by decide +kernel
theorem dd_X12_keeps_43 : decode m_X12_keeps.2.1 43 = .ok (.iinc 1 1, 3) := by decide +kernel
theorem dd_X12_keeps_46 : decode m_X12_keeps.2.1 46 = .ok (.goto (-31), 3) := by decide +kernel
theorem dd_X12_keeps_49 : decode m_X12_keeps.2.1 49 = .ok (.aload_n 0, 1) := by decide +kernel
theorem dd_X12_keeps_50 : decode m_X12_keeps.2.1 50 = .ok (.getfield 396, 3) := by decide +kernel
theorem dd_X12_keeps_53 : decode m_X12_keeps.2.1 53 = .ok (.bipush 20, 2) := by decide +kernel
theorem dd_X12_keeps_55 : decode m_X12_keeps.2.1 55 = .ok (.if_icmp .ge 13, 3) := by decide +kernel
theorem dd_X12_keeps_58 : decode m_X12_keeps.2.1 58 = .ok (.aload_n 0, 1) := by decide +kernel
theorem dd_X12_keeps_59 : decode m_X12_keeps.2.1 59 = .ok (.dup, 1) := by decide +kernel
theorem dd_X12_keeps_60 : decode m_X12_keeps.2.1 60 = .ok (.getfield 396, 3) := by decide +kernel
theorem dd_X12_keeps_63 : decode m_X12_keeps.2.1 63 = .ok (.iconst 1, 1) := by decide +kernel
theorem dd_X12_keeps_64 : decode m_X12_keeps.2.1 64 = .ok (.iadd, 1) := by decide +kernel
theorem dd_X12_keeps_65 : decode m_X12_keeps.2.1 65 = .ok (.putfield 396, 3) := by decide +kernel
theorem dd_X12_keeps_68 : decode m_X12_keeps.2.1 68 = .ok (.return_, 1) := by decide +kernel
def nd_X12_keeps_15  (K15 : Int32 → fz_s → Prop) (Q : fz_s → Prop) (v1 : Int32) (s : fz_s) : Prop :=
  ((150 ≤ v1 → ((20 ≤ (s.1 196 72) → Q s) ∧ (¬ 20 ≤ (s.1 196 72) → ∀ s1 : fz_s, s1 = si s 196 72 ((s.1 196 72) + 1) → Q s1))) ∧ (¬ 150 ≤ v1 → vp_in v1 150 ∧ vp_in ((150 * (s.1 196 73)) + v1) 3000 ∧ ∀ s2 : fz_s, s2 = si s 243 ((150 * (s.1 196 73)) + v1).toNatClampNeg (s.1 232 v1.toNatClampNeg) → ∀ x3 : Int32, x3 = v1 + 1 → K15 x3 s2))
def lp_X12_keeps_15   (Q : fz_s → Prop) : Nat → Int32 → fz_s → Prop
  | 0 => fun _ _ => False
  | n + 1 => nd_X12_keeps_15  (lp_X12_keeps_15   Q n) Q
def wp_X12_keeps  (s : fz_s) (Q : fz_s → Prop) : Prop :=
  ∀ s1 : fz_s, s1 = si s 196 73 (((s.1 196 73) + 1) - ((s.1 196 73) + 1) / 20 * 20) → lp_X12_keeps_15   Q 2048 0 s1
set_option maxRecDepth 100000 in
set_option maxHeartbeats 4000000 in
theorem V_nd_X12_keeps_15 {g : fz_G} {l : Launch} {d : Nat} (hD : 0 ≤ d)   {K15 : Int32 → fz_s → Prop} {Q : fz_s → Prop} {v1 : Int32} {s : fz_s} (hK15 : ∀ {v1 : Int32} {s : fz_s}, K15 v1 s → fs_V g l m_X12_keeps d false 15 [.ref 196, .int v1] [] s (rV Q)) (H : nd_X12_keeps_15  K15 Q v1 s) : fs_V g l m_X12_keeps d false 15 [.ref 196, .int v1] [] s (rV Q) := by
  unfold nd_X12_keeps_15 at H
  refine fs_iload_n (k0 := 1) (i := 1) dd_X12_keeps_15 rfl rfl ?_
  refine fs_sipush (n := 150) (v := 150) dd_X12_keeps_16 (by decide) ?_
  refine fs_icmp_ge (tgt := 49) dd_X12_keeps_19 (by decide) (fun hc => ?_) (fun hc => ?_)
  · replace H := H.1 hc
    refine fs_aload_n (k0 := 0) (i := 0) dd_X12_keeps_49 rfl rfl ?_
    refine fs_geti (ci := 12) (j := 72) dd_X12_keeps_50 fl_X12_396 ca_196 rfl (Or.inl rfl) ?_
    refine fs_bipush (n := 20) (v := 20) dd_X12_keeps_53 (by decide) ?_
    refine fs_icmp_ge (tgt := 68) dd_X12_keeps_55 (by decide) (fun hc => ?_) (fun hc => ?_)
    · replace H := H.1 hc
      exact fs_vret dd_X12_keeps_68 rfl H
    · replace H := H.2 hc
      refine fs_aload_n (k0 := 0) (i := 0) dd_X12_keeps_58 rfl rfl ?_
      refine fs_dup dd_X12_keeps_59 rfl ?_
      refine fs_geti (ci := 12) (j := 72) dd_X12_keeps_60 fl_X12_396 ca_196 rfl (Or.inl rfl) ?_
      refine fs_iconst (n := 1) (v := 1) dd_X12_keeps_63 (by decide) ?_
      refine fs_iadd dd_X12_keeps_64 ?_
      refine fs_puti (ci := 12) (j := 72) dd_X12_keeps_65 fl_X12_396 (fun _ _ _ h => by cases h; rfl) ca_196 rfl (Or.inl rfl) ?_
      refine fs_tops (fun s1 hs1 => ?_)
      replace H := H s1 hs1
      exact fs_vret dd_X12_keeps_68 rfl H
  · replace H := H.2 hc
    refine fs_aload_n (k0 := 0) (i := 0) dd_X12_keeps_22 rfl rfl ?_
    refine fs_getr (ci := 12) (j := 71) (q := 243) dd_X12_keeps_23 fl_X12_155 ca_196 rfl (Or.inr ⟨_, rfl⟩) rfl (by decide) ?_
    refine fs_sipush (n := 150) (v := 150) dd_X12_keeps_26 (by decide) ?_
    refine fs_aload_n (k0 := 0) (i := 0) dd_X12_keeps_29 rfl rfl ?_
    refine fs_geti (ci := 12) (j := 73) dd_X12_keeps_30 fl_X12_586 ca_196 rfl (Or.inl rfl) ?_
    refine fs_imul dd_X12_keeps_33 ?_
    refine fs_iload_n (k0 := 1) (i := 1) dd_X12_keeps_34 rfl rfl ?_
    refine fs_iadd dd_X12_keeps_35 ?_
    refine fs_aload_n (k0 := 0) (i := 0) dd_X12_keeps_36 rfl rfl ?_
    refine fs_getr (ci := 12) (j := 54) (q := 232) dd_X12_keeps_37 fl_X12_121 ca_196 rfl (Or.inr ⟨_, rfl⟩) rfl (by decide) ?_
    refine fs_iload_n (k0 := 1) (i := 1) dd_X12_keeps_40 rfl rfl ?_
    have hb := H.1
    replace H := H.2
    refine fs_iald dd_X12_keeps_41 ca_232 hb ?_
    have hb := H.1
    replace H := H.2
    refine fs_iast dd_X12_keeps_42 ca_243 hb ?_
    refine fs_tops (fun s2 hs2 => ?_)
    replace H := H s2 hs2
    refine fs_iincN (i := 1) (m := 1) (c := 1) dd_X12_keeps_43 rfl (by decide) (by decide) (fun x3 hx3 => ?_)
    replace H := H x3 hx3
    refine fs_goto (tgt := 15) dd_X12_keeps_46 (by decide) ?_
    refine fs_weak (ls2 := [.ref 196, .int x3]) (fz_le_e (fz_le_e fz_le_n)) ?_
    exact hK15 H
set_option maxRecDepth 100000 in
set_option maxHeartbeats 4000000 in
theorem V_lp_X12_keeps_15 {g : fz_G} {l : Launch} {d : Nat} (hD : 0 ≤ d)    {Q : fz_s → Prop}  (n : Nat) : ∀ {v1 : Int32} {s : fz_s}, lp_X12_keeps_15   Q n v1 s → fs_V g l m_X12_keeps d false 15 [.ref 196, .int v1] [] s (rV Q) := by
  induction n with
  | zero => intro v1 s H; exact H.elim
  | succ n ih => intro v1 s H; exact V_nd_X12_keeps_15 hD  (fun H => ih H) H
set_option maxRecDepth 100000 in
set_option maxHeartbeats 4000000 in
theorem V_X12_keeps {g : fz_G} {l : Launch} {d : Nat} (hD : 0 ≤ d)   {s : fz_s} {Q : fz_s → Prop} (H : wp_X12_keeps  s Q) : fs_V g l m_X12_keeps d false 0 (fz_en [.ref 196] 2) [] s (rV Q) := by
  unfold wp_X12_keeps at H
  refine fs_aload_n (k0 := 0) (i := 0) dd_X12_keeps_0 rfl rfl ?_
  refine fs_aload_n (k0 := 0) (i := 0) dd_X12_keeps_1 rfl rfl ?_
  refine fs_geti (ci := 12) (j := 73) dd_X12_keeps_2 fl_X12_586 ca_196 rfl (Or.inl rfl) ?_
  refine fs_iconst (n := 1) (v := 1) dd_X12_keeps_5 (by decide) ?_
  refine fs_iadd dd_X12_keeps_6 ?_
  refine fs_bipush (n := 20) (v := 20) dd_X12_keeps_7 (by decide) ?_
  refine fs_irem dd_X12_keeps_9 (by decide) ?_
  refine fs_puti (ci := 12) (j := 73) dd_X12_keeps_10 fl_X12_586 (fun _ _ _ h => by cases h; rfl) ca_196 rfl (Or.inl rfl) ?_
  refine fs_tops (fun s1 hs1 => ?_)
  replace H := H s1 hs1
  refine fs_iconst (n := 0) (v := 0) dd_X12_keeps_13 (by decide) ?_
  refine fs_istore_n (k0 := 1) (i := 1) dd_X12_keeps_14 rfl (by decide) ?_
  refine fs_weak (ls2 := [.ref 196, .int 0]) (fz_le_e (fz_le_e fz_le_n)) ?_
  exact V_lp_X12_keeps_15 hD    2048 H
theorem dd_X12_undo_0 : decode m_X12_undo.2.1 0 = .ok (.aload_n 0, 1) := by decide +kernel
theorem dd_X12_undo_1 : decode m_X12_undo.2.1 1 = .ok (.getfield 396, 3) := by decide +kernel
theorem dd_X12_undo_4 : decode m_X12_undo.2.1 4 = .ok (.ifCond .ne 15, 3) := by decide +kernel
theorem dd_X12_undo_7 : decode m_X12_undo.2.1 7 = .ok (.aload_n 0, 1) := by decide +kernel
theorem dd_X12_undo_8 : decode m_X12_undo.2.1 8 = .ok (.getfield 17, 3) := by decide +kernel
theorem dd_X12_undo_11 : decode m_X12_undo.2.1 11 = .ok (.iconst 4, 1) := by decide +kernel
theorem dd_X12_undo_12 : decode m_X12_undo.2.1 12 = .ok (.dup2, 1) := by decide +kernel
theorem dd_X12_undo_13 : decode m_X12_undo.2.1 13 = .ok (.iaload, 1) := by decide +kernel
theorem dd_X12_undo_14 : decode m_X12_undo.2.1 14 = .ok (.iconst 1, 1) := by decide +kernel
theorem dd_X12_undo_15 : decode m_X12_undo.2.1 15 = .ok (.iadd, 1) := by decide +kernel
theorem dd_X12_undo_16 : decode m_X12_undo.2.1 16 = .ok (.iastore, 1) := by decide +kernel
theorem dd_X12_undo_17 : decode m_X12_undo.2.1 17 = .ok (.iconst 0, 1) := by decide +kernel
theorem dd_X12_undo_18 : decode m_X12_undo.2.1 18 = .ok (.ireturn, 1) := by decide +kernel
theorem dd_X12_undo_19 : decode m_X12_undo.2.1 19 = .ok (.iconst 0, 1) := by decide +kernel
theorem dd_X12_undo_20 : decode m_X12_undo.2.1 20 = .ok (.istore_n 1, 1) := by decide +kernel
theorem dd_X12_undo_21 : decode m_X12_undo.2.1 21 = .ok (.iload_n 1, 1) := by decide +kernel
theorem dd_X12_undo_22 : decode m_X12_undo.2.1 22 = .ok (.sipush 150, 3) := by decide +kernel
theorem dd_X12_undo_25 : decode m_X12_undo.2.1 25 = .ok (.if_icmp .ge 30, 3) := by decide +kernel
theorem dd_X12_undo_28 : decode m_X12_undo.2.1 28 = .ok (.aload_n 0, 1) := by decide +kernel
theorem dd_X12_undo_29 : decode m_X12_undo.2.1 29 = .ok (.getfield 121, 3) := by decide +kernel
theorem dd_X12_undo_32 : decode m_X12_undo.2.1 32 = .ok (.iload_n 1, 1) := by decide +kernel
theorem dd_X12_undo_33 : decode m_X12_undo.2.1 33 = .ok (.aload_n 0, 1) := by decide +kernel
theorem dd_X12_undo_34 : decode m_X12_undo.2.1 34 = .ok (.getfield 155, 3) := by decide +kernel
theorem dd_X12_undo_37 : decode m_X12_undo.2.1 37 = .ok (.sipush 150, 3) := by decide +kernel
theorem dd_X12_undo_40 : decode m_X12_undo.2.1 40 = .ok (.aload_n 0, 1) := by decide +kernel
theorem dd_X12_undo_41 : decode m_X12_undo.2.1 41 = .ok (.getfield 586, 3) := by decide +kernel
theorem dd_X12_undo_44 : decode m_X12_undo.2.1 44 = .ok (.imul, 1) := by decide +kernel
theorem dd_X12_undo_45 : decode m_X12_undo.2.1 45 = .ok (.iload_n 1, 1) := by decide +kernel
theorem dd_X12_undo_46 : decode m_X12_undo.2.1 46 = .ok (.iadd, 1) := by decide +kernel
theorem dd_X12_undo_47 : decode m_X12_undo.2.1 47 = .ok (.iaload, 1) := by decide +kernel
theorem dd_X12_undo_48 : decode m_X12_undo.2.1 48 = .ok (.iastore, 1) := by decide +kernel
theorem dd_X12_undo_49 : decode m_X12_undo.2.1 49 = .ok (.iinc 1 1, 3) := by decide +kernel
theorem dd_X12_undo_52 : decode m_X12_undo.2.1 52 = .ok (.goto (-31), 3) := by decide +kernel
theorem dd_X12_undo_55 : decode m_X12_undo.2.1 55 = .ok (.aload_n 0, 1) := by decide +kernel
theorem dd_X12_undo_56 : decode m_X12_undo.2.1 56 = .ok (.aload_n 0, 1) := by decide +kernel
theorem dd_X12_undo_57 : decode m_X12_undo.2.1 57 = .ok (.getfield 586, 3) := by decide +kernel
theorem dd_X12_undo_60 : decode m_X12_undo.2.1 60 = .ok (.bipush 20, 2) := by decide +kernel
theorem dd_X12_undo_62 : decode m_X12_undo.2.1 62 = .ok (.iadd, 1) := by decide +kernel
theorem dd_X12_undo_63 : decode m_X12_undo.2.1 63 = .ok (.iconst 1, 1) := by decide +kernel
theorem dd_X12_undo_64 : decode m_X12_undo.2.1 64 = .ok (.isub, 1) := by decide +kernel
theorem dd_X12_undo_65 : decode m_X12_undo.2.1 65 = .ok (.bipush 20, 2) := by decide +kernel
theorem dd_X12_undo_67 : decode m_X12_undo.2.1 67 = .ok (.irem, 1) := by decide +kernel
theorem dd_X12_undo_68 : decode m_X12_undo.2.1 68 = .ok (.putfield 586, 3) := by decide +kernel
theorem dd_X12_undo_71 : decode m_X12_undo.2.1 71 = .ok (.aload_n 0, 1) := by decide +kernel
theorem dd_X12_undo_72 : decode m_X12_undo.2.1 72 = .ok (.dup, 1) := by decide +kernel
theorem dd_X12_undo_73 : decode m_X12_undo.2.1 73 = .ok (.getfield 396, 3) := by decide +kernel
theorem dd_X12_undo_76 : decode m_X12_undo.2.1 76 = .ok (.iconst 1, 1) := by decide +kernel
theorem dd_X12_undo_77 : decode m_X12_undo.2.1 77 = .ok (.isub, 1) := by decide +kernel
theorem dd_X12_undo_78 : decode m_X12_undo.2.1 78 = .ok (.putfield 396, 3) := by decide +kernel
theorem dd_X12_undo_81 : decode m_X12_undo.2.1 81 = .ok (.iconst 1, 1) := by decide +kernel
theorem dd_X12_undo_82 : decode m_X12_undo.2.1 82 = .ok (.ireturn, 1) := by decide +kernel
def nd_X12_undo_21  (K21 : Int32 → fz_s → Prop) (Q : Bool → fz_s → Prop) (v1 : Int32) (s : fz_s) : Prop :=
  ((150 ≤ v1 → ∀ s1 : fz_s, s1 = si s 196 73 ((((s.1 196 73) + 20) - 1) - (((s.1 196 73) + 20) - 1) / 20 * 20) → ∀ s2 : fz_s, s2 = si s1 196 72 ((s1.1 196 72) - 1) → Q true s2) ∧ (¬ 150 ≤ v1 → vp_in ((150 * (s.1 196 73)) + v1) 3000 ∧ vp_in v1 150 ∧ ∀ s3 : fz_s, s3 = si s 232 v1.toNatClampNeg (s.1 243 ((150 * (s.1 196 73)) + v1).toNatClampNeg) → ∀ x4 : Int32, x4 = v1 + 1 → K21 x4 s3))
def lp_X12_undo_21   (Q : Bool → fz_s → Prop) : Nat → Int32 → fz_s → Prop
  | 0 => fun _ _ => False
  | n + 1 => nd_X12_undo_21  (lp_X12_undo_21   Q n) Q
def wp_X12_undo  (s : fz_s) (Q : Bool → fz_s → Prop) : Prop :=
  ((¬ (s.1 196 72) = 0 → lp_X12_undo_21   Q 2048 0 s) ∧ ((s.1 196 72) = 0 → ∀ s1 : fz_s, s1 = si s 198 (4 : Int32).toNatClampNeg ((s.1 198 (4 : Int32).toNatClampNeg) + 1) → Q false s1))
set_option maxRecDepth 100000 in
set_option maxHeartbeats 4000000 in
theorem V_nd_X12_undo_21 {g : fz_G} {l : Launch} {d : Nat} (hD : 0 ≤ d)   {K21 : Int32 → fz_s → Prop} {Q : Bool → fz_s → Prop} {v1 : Int32} {s : fz_s} (hK21 : ∀ {v1 : Int32} {s : fz_s}, K21 v1 s → fs_V g l m_X12_undo d false 21 [.ref 196, .int v1] [] s (rZ Q)) (H : nd_X12_undo_21  K21 Q v1 s) : fs_V g l m_X12_undo d false 21 [.ref 196, .int v1] [] s (rZ Q) := by
  unfold nd_X12_undo_21 at H
  refine fs_iload_n (k0 := 1) (i := 1) dd_X12_undo_21 rfl rfl ?_
  refine fs_sipush (n := 150) (v := 150) dd_X12_undo_22 (by decide) ?_
  refine fs_icmp_ge (tgt := 55) dd_X12_undo_25 (by decide) (fun hc => ?_) (fun hc => ?_)
  · replace H := H.1 hc
    refine fs_aload_n (k0 := 0) (i := 0) dd_X12_undo_55 rfl rfl ?_
    refine fs_aload_n (k0 := 0) (i := 0) dd_X12_undo_56 rfl rfl ?_
    refine fs_geti (ci := 12) (j := 73) dd_X12_undo_57 fl_X12_586 ca_196 rfl (Or.inl rfl) ?_
    refine fs_bipush (n := 20) (v := 20) dd_X12_undo_60 (by decide) ?_
    refine fs_iadd dd_X12_undo_62 ?_
    refine fs_iconst (n := 1) (v := 1) dd_X12_undo_63 (by decide) ?_
    refine fs_isub dd_X12_undo_64 ?_
    refine fs_bipush (n := 20) (v := 20) dd_X12_undo_65 (by decide) ?_
    refine fs_irem dd_X12_undo_67 (by decide) ?_
    refine fs_puti (ci := 12) (j := 73) dd_X12_undo_68 fl_X12_586 (fun _ _ _ h => by cases h; rfl) ca_196 rfl (Or.inl rfl) ?_
    refine fs_tops (fun s1 hs1 => ?_)
    replace H := H s1 hs1
    refine fs_aload_n (k0 := 0) (i := 0) dd_X12_undo_71 rfl rfl ?_
    refine fs_dup dd_X12_undo_72 rfl ?_
    refine fs_geti (ci := 12) (j := 72) dd_X12_undo_73 fl_X12_396 ca_196 rfl (Or.inl rfl) ?_
    refine fs_iconst (n := 1) (v := 1) dd_X12_undo_76 (by decide) ?_
    refine fs_isub dd_X12_undo_77 ?_
    refine fs_puti (ci := 12) (j := 72) dd_X12_undo_78 fl_X12_396 (fun _ _ _ h => by cases h; rfl) ca_196 rfl (Or.inl rfl) ?_
    refine fs_tops (fun s2 hs2 => ?_)
    replace H := H s2 hs2
    refine fs_iconst (n := 1) (v := 1) dd_X12_undo_81 (by decide) ?_
    exact fs_zret true dd_X12_undo_82 rfl rfl H
  · replace H := H.2 hc
    refine fs_aload_n (k0 := 0) (i := 0) dd_X12_undo_28 rfl rfl ?_
    refine fs_getr (ci := 12) (j := 54) (q := 232) dd_X12_undo_29 fl_X12_121 ca_196 rfl (Or.inr ⟨_, rfl⟩) rfl (by decide) ?_
    refine fs_iload_n (k0 := 1) (i := 1) dd_X12_undo_32 rfl rfl ?_
    refine fs_aload_n (k0 := 0) (i := 0) dd_X12_undo_33 rfl rfl ?_
    refine fs_getr (ci := 12) (j := 71) (q := 243) dd_X12_undo_34 fl_X12_155 ca_196 rfl (Or.inr ⟨_, rfl⟩) rfl (by decide) ?_
    refine fs_sipush (n := 150) (v := 150) dd_X12_undo_37 (by decide) ?_
    refine fs_aload_n (k0 := 0) (i := 0) dd_X12_undo_40 rfl rfl ?_
    refine fs_geti (ci := 12) (j := 73) dd_X12_undo_41 fl_X12_586 ca_196 rfl (Or.inl rfl) ?_
    refine fs_imul dd_X12_undo_44 ?_
    refine fs_iload_n (k0 := 1) (i := 1) dd_X12_undo_45 rfl rfl ?_
    refine fs_iadd dd_X12_undo_46 ?_
    have hb := H.1
    replace H := H.2
    refine fs_iald dd_X12_undo_47 ca_243 hb ?_
    have hb := H.1
    replace H := H.2
    refine fs_iast dd_X12_undo_48 ca_232 hb ?_
    refine fs_tops (fun s3 hs3 => ?_)
    replace H := H s3 hs3
    refine fs_iincN (i := 1) (m := 1) (c := 1) dd_X12_undo_49 rfl (by decide) (by decide) (fun x4 hx4 => ?_)
    replace H := H x4 hx4
    refine fs_goto (tgt := 21) dd_X12_undo_52 (by decide) ?_
    refine fs_weak (ls2 := [.ref 196, .int x4]) (fz_le_e (fz_le_e fz_le_n)) ?_
    exact hK21 H
set_option maxRecDepth 100000 in
set_option maxHeartbeats 4000000 in
theorem V_lp_X12_undo_21 {g : fz_G} {l : Launch} {d : Nat} (hD : 0 ≤ d)    {Q : Bool → fz_s → Prop}  (n : Nat) : ∀ {v1 : Int32} {s : fz_s}, lp_X12_undo_21   Q n v1 s → fs_V g l m_X12_undo d false 21 [.ref 196, .int v1] [] s (rZ Q) := by
  induction n with
  | zero => intro v1 s H; exact H.elim
  | succ n ih => intro v1 s H; exact V_nd_X12_undo_21 hD  (fun H => ih H) H
set_option maxRecDepth 100000 in
set_option maxHeartbeats 4000000 in
theorem V_X12_undo {g : fz_G} {l : Launch} {d : Nat} (hD : 0 ≤ d)   {s : fz_s} {Q : Bool → fz_s → Prop} (H : wp_X12_undo  s Q) : fs_V g l m_X12_undo d false 0 (fz_en [.ref 196] 2) [] s (rZ Q) := by
  unfold wp_X12_undo at H
  refine fs_aload_n (k0 := 0) (i := 0) dd_X12_undo_0 rfl rfl ?_
  refine fs_geti (ci := 12) (j := 72) dd_X12_undo_1 fl_X12_396 ca_196 rfl (Or.inl rfl) ?_
  refine fs_if_ne (tgt := 19) dd_X12_undo_4 (by decide) (fun hc => ?_) (fun hc => ?_)
  · replace H := H.1 hc
    refine fs_iconst (n := 0) (v := 0) dd_X12_undo_19 (by decide) ?_
    refine fs_istore_n (k0 := 1) (i := 1) dd_X12_undo_20 rfl (by decide) ?_
    refine fs_weak (ls2 := [.ref 196, .int 0]) (fz_le_e (fz_le_e fz_le_n)) ?_
    exact V_lp_X12_undo_21 hD    2048 H
  · replace H := H.2 hc
    refine fs_aload_n (k0 := 0) (i := 0) dd_X12_undo_7 rfl rfl ?_
    refine fs_getr (ci := 12) (j := 9) (q := 198) dd_X12_undo_8 fl_X12_17 ca_196 rfl (Or.inr ⟨_, rfl⟩) rfl (by decide) ?_
    refine fs_iconst (n := 4) (v := 4) dd_X12_undo_11 (by decide) ?_
    refine fs_dup2 dd_X12_undo_12 rfl rfl ?_
    refine fs_iald dd_X12_undo_13 ca_198 (vp_in_nI (n := 4) (by decide) (by decide)) ?_
    refine fs_iconst (n := 1) (v := 1) dd_X12_undo_14 (by decide) ?_
    refine fs_iadd dd_X12_undo_15 ?_
    refine fs_iast dd_X12_undo_16 ca_198 (vp_in_nI (n := 4) (by decide) (by decide)) ?_
    refine fs_tops (fun s1 hs1 => ?_)
    replace H := H s1 hs1
    refine fs_iconst (n := 0) (v := 0) dd_X12_undo_17 (by decide) ?_
    exact fs_zret false dd_X12_undo_18 rfl rfl H
theorem dd_X12_isRefused_0 : decode m_X12_isRefused.2.1 0 = .ok (.aload_n 0, 1) := by decide +kernel
theorem dd_X12_isRefused_1 : decode m_X12_isRefused.2.1 1 = .ok (.getfield 17, 3) := by decide +kernel
theorem dd_X12_isRefused_4 : decode m_X12_isRefused.2.1 4 = .ok (.iconst 2, 1) := by decide +kernel
theorem dd_X12_isRefused_5 : decode m_X12_isRefused.2.1 5 = .ok (.dup2, 1) := by decide +kernel
theorem dd_X12_isRefused_6 : decode m_X12_isRefused.2.1 6 = .ok (.iaload, 1) := by decide +kernel
theorem dd_X12_isRefused_7 : decode m_X12_isRefused.2.1 7 = .ok (.iconst 1, 1) := by decide +kernel
theorem dd_X12_isRefused_8 : decode m_X12_isRefused.2.1 8 = .ok (.iadd, 1) := by decide +kernel
theorem dd_X12_isRefused_9 : decode m_X12_isRefused.2.1 9 = .ok (.iastore, 1) := by decide +kernel
theorem dd_X12_isRefused_10 : decode m_X12_isRefused.2.1 10 = .ok (.iconst 0, 1) := by decide +kernel
theorem dd_X12_isRefused_11 : decode m_X12_isRefused.2.1 11 = .ok (.ireturn, 1) := by decide +kernel
def wp_X12_isRefused  (s : fz_s) (Q : Bool → fz_s → Prop) : Prop :=
  ∀ s1 : fz_s, s1 = si s 198 (2 : Int32).toNatClampNeg ((s.1 198 (2 : Int32).toNatClampNeg) + 1) → Q false s1
set_option maxRecDepth 100000 in
set_option maxHeartbeats 4000000 in
theorem V_X12_isRefused {g : fz_G} {l : Launch} {d : Nat} (hD : 0 ≤ d)   {s : fz_s} {Q : Bool → fz_s → Prop} (H : wp_X12_isRefused  s Q) : fs_V g l m_X12_isRefused d false 0 (fz_en [.ref 196] 1) [] s (rZ Q) := by
  unfold wp_X12_isRefused at H
  refine fs_aload_n (k0 := 0) (i := 0) dd_X12_isRefused_0 rfl rfl ?_
  refine fs_getr (ci := 12) (j := 9) (q := 198) dd_X12_isRefused_1 fl_X12_17 ca_196 rfl (Or.inr ⟨_, rfl⟩) rfl (by decide) ?_
  refine fs_iconst (n := 2) (v := 2) dd_X12_isRefused_4 (by decide) ?_
  refine fs_dup2 dd_X12_isRefused_5 rfl rfl ?_
  refine fs_iald dd_X12_isRefused_6 ca_198 (vp_in_nI (n := 2) (by decide) (by decide)) ?_
  refine fs_iconst (n := 1) (v := 1) dd_X12_isRefused_7 (by decide) ?_
  refine fs_iadd dd_X12_isRefused_8 ?_
  refine fs_iast dd_X12_isRefused_9 ca_198 (vp_in_nI (n := 2) (by decide) (by decide)) ?_
  refine fs_tops (fun s1 hs1 => ?_)
  replace H := H s1 hs1
  refine fs_iconst (n := 0) (v := 0) dd_X12_isRefused_10 (by decide) ?_
  exact fs_zret false dd_X12_isRefused_11 rfl rfl H
theorem dd_X12_teach_0 : decode m_X12_teach.2.1 0 = .ok (.aload_n 0, 1) := by decide +kernel
theorem dd_X12_teach_1 : decode m_X12_teach.2.1 1 = .ok (.iload_n 1, 1) := by decide +kernel
theorem dd_X12_teach_2 : decode m_X12_teach.2.1 2 = .ok (.invokevirtual 415, 3) := by decide +kernel
theorem dd_X12_teach_5 : decode m_X12_teach.2.1 5 = .ok (.ifCond .eq 24, 3) := by decide +kernel
theorem dd_X12_teach_8 : decode m_X12_teach.2.1 8 = .ok (.iload_n 2, 1) := by decide +kernel
theorem dd_X12_teach_9 : decode m_X12_teach.2.1 9 = .ok (.i2l, 1) := by decide +kernel
theorem dd_X12_teach_10 : decode m_X12_teach.2.1 10 = .ok (.lconst 0, 1) := by decide +kernel
theorem dd_X12_teach_11 : decode m_X12_teach.2.1 11 = .ok (.ldc2_w 589, 3) := by decide +kernel
theorem dd_X12_teach_14 : decode m_X12_teach.2.1 14 = .ok (.invokestatic 295, 3) := by decide +kernel
theorem dd_X12_teach_17 : decode m_X12_teach.2.1 17 = .ok (.ifCond .eq 12, 3) := by decide +kernel
theorem dd_X12_teach_20 : decode m_X12_teach.2.1 20 = .ok (.aload_n 0, 1) := by decide +kernel
theorem dd_X12_teach_21 : decode m_X12_teach.2.1 21 = .ok (.iload_n 1, 1) := by decide +kernel
theorem dd_X12_teach_22 : decode m_X12_teach.2.1 22 = .ok (.invokevirtual 442, 3) := by decide +kernel
theorem dd_X12_teach_25 : decode m_X12_teach.2.1 25 = .ok (.iload_n 2, 1) := by decide +kernel
theorem dd_X12_teach_26 : decode m_X12_teach.2.1 26 = .ok (.if_icmp .ne 8, 3) := by decide +kernel
theorem dd_X12_teach_29 : decode m_X12_teach.2.1 29 = .ok (.aload_n 0, 1) := by decide +kernel
theorem dd_X12_teach_30 : decode m_X12_teach.2.1 30 = .ok (.invokevirtual 591, 3) := by decide +kernel
theorem dd_X12_teach_33 : decode m_X12_teach.2.1 33 = .ok (.ireturn, 1) := by decide +kernel
theorem dd_X12_teach_34 : decode m_X12_teach.2.1 34 = .ok (.aload_n 0, 1) := by decide +kernel
theorem dd_X12_teach_35 : decode m_X12_teach.2.1 35 = .ok (.invokevirtual 594, 3) := by decide +kernel
theorem dd_X12_teach_38 : decode m_X12_teach.2.1 38 = .ok (.aload_n 0, 1) := by decide +kernel
theorem dd_X12_teach_39 : decode m_X12_teach.2.1 39 = .ok (.getfield 121, 3) := by decide +kernel
theorem dd_X12_teach_42 : decode m_X12_teach.2.1 42 = .ok (.iconst 5, 1) := by decide +kernel
theorem dd_X12_teach_43 : decode m_X12_teach.2.1 43 = .ok (.iconst 3, 1) := by decide +kernel
theorem dd_X12_teach_44 : decode m_X12_teach.2.1 44 = .ok (.iload_n 1, 1) := by decide +kernel
theorem dd_X12_teach_45 : decode m_X12_teach.2.1 45 = .ok (.imul, 1) := by decide +kernel
theorem dd_X12_teach_46 : decode m_X12_teach.2.1 46 = .ok (.iadd, 1) := by decide +kernel
theorem dd_X12_teach_47 : decode m_X12_teach.2.1 47 = .ok (.iload_n 2, 1) := by decide +kernel
theorem dd_X12_teach_48 : decode m_X12_teach.2.1 48 = .ok (.iastore, 1) := by decide +kernel
theorem dd_X12_teach_49 : decode m_X12_teach.2.1 49 = .ok (.iconst 1, 1) := by decide +kernel
theorem dd_X12_teach_50 : decode m_X12_teach.2.1 50 = .ok (.ireturn, 1) := by decide +kernel
def nd_X12_teach_29   (Q : Bool → fz_s → Prop)  (s : fz_s) : Prop :=
  wp_X12_isRefused  s (fun r1 s2 => Q r1 s2)
def wp_X12_teach (p0 : Int32) (p1 : Int32) (s : fz_s) (Q : Bool → fz_s → Prop) : Prop :=
  wp_X12_isPerson p0 s (fun r1 s2 => ((r1 = false → nd_X12_teach_29   Q  s2) ∧ (r1 = true → wp_X12_isIn p1.toInt64 0 9 s2 (fun r3 s4 => ((r3 = false → nd_X12_teach_29   Q  s4) ∧ (r3 = true → wp_X12_witsOf p0 s4 (fun r5 s6 => ((¬ r5 = p1 → wp_X12_keeps  s6 (fun s8 => vp_in (5 + (3 * p0)) 150 ∧ ∀ s9 : fz_s, s9 = si s8 232 (5 + (3 * p0)).toNatClampNeg p1 → Q true s9)) ∧ (r5 = p1 → nd_X12_teach_29   Q  s6)))))))))
set_option maxRecDepth 100000 in
set_option maxHeartbeats 4000000 in
theorem V_nd_X12_teach_29 {g : fz_G} {l : Launch} {d : Nat} (hD : 2 ≤ d)    {Q : Bool → fz_s → Prop}  {s : fz_s}  (H : nd_X12_teach_29   Q  s) : fs_V g l m_X12_teach d false 29 [.ref 196, fz_J, fz_J] [] s (rZ Q) := by
  obtain ⟨d, rfl⟩ : ∃ e, d = e + 1 := ⟨d - 1, by omega⟩
  unfold nd_X12_teach_29 at H
  refine fs_aload_n (k0 := 0) (i := 0) dd_X12_teach_29 rfl rfl ?_
  refine fs_callV (y := m_X12_isRefused) (as := []) dd_X12_teach_30 me_X12_isRefused lk_X12_591 in_X12_isRefused se_X12_isRefused ca_196 rfl rfl rfl (Nat.le_of_ble_eq_true rfl) (Nat.le_of_ble_eq_true rfl) rfl (V_X12_isRefused (by omega)  H) (k2_Z fun r1 s2 H => ?_)
  exact fs_zret r1 dd_X12_teach_33 rfl rfl H
set_option maxRecDepth 100000 in
set_option maxHeartbeats 4000000 in
theorem V_X12_teach {g : fz_G} {l : Launch} {d : Nat} (hD : 2 ≤ d) {p0 : Int32} {p1 : Int32}  {s : fz_s} {Q : Bool → fz_s → Prop} (H : wp_X12_teach p0 p1 s Q) : fs_V g l m_X12_teach d false 0 (fz_en [.ref 196, .int p0, .int p1] 3) [] s (rZ Q) := by
  obtain ⟨d, rfl⟩ : ∃ e, d = e + 1 := ⟨d - 1, by omega⟩
  unfold wp_X12_teach at H
  refine fs_aload_n (k0 := 0) (i := 0) dd_X12_teach_0 rfl rfl ?_
  refine fs_iload_n (k0 := 1) (i := 1) dd_X12_teach_1 rfl rfl ?_
  refine fs_callV (y := m_X12_isPerson) (as := [.int p0]) dd_X12_teach_2 me_X12_isPerson lk_X12_415 in_X12_isPerson se_X12_isPerson ca_196 rfl rfl rfl (Nat.le_of_ble_eq_true rfl) (Nat.le_of_ble_eq_true rfl) rfl (V_X12_isPerson (by omega)  H) (k2_Z fun r1 s2 H => ?_)
  refine fs_if_eq (tgt := 29) dd_X12_teach_5 (by decide) (fun hc => ?_) (fun hc => ?_)
  · replace H := H.1 (bi_0 hc)
    refine fs_weak (ls2 := [.ref 196, fz_J, fz_J]) (fz_le_e (fz_le_j (fz_le_j fz_le_n))) ?_
    exact V_nd_X12_teach_29 hD    H
  · replace H := H.2 (bi_1 hc)
    refine fs_iload_n (k0 := 2) (i := 2) dd_X12_teach_8 rfl rfl ?_
    refine fs_i2l dd_X12_teach_9 ?_
    refine fs_lconst (n := 0) (v := 0) dd_X12_teach_10 (by decide) ?_
    refine fs_ldc2 (idx := 589) (v := 9) dd_X12_teach_11 cl_X12_589 ?_
    refine fs_callS (y := m_X12_isIn) (as := [.long p1.toInt64, .long 0, .long 9]) dd_X12_teach_14 me_X12_isIn (Or.inl lk_X12_295) st_X12_isIn rfl (Nat.le_of_ble_eq_true rfl) (Nat.le_of_ble_eq_true rfl) rfl (V_X12_isIn (by omega)  H) (k2_Z fun r3 s4 H => ?_)
    refine fs_if_eq (tgt := 29) dd_X12_teach_17 (by decide) (fun hc => ?_) (fun hc => ?_)
    · replace H := H.1 (bi_0 hc)
      refine fs_weak (ls2 := [.ref 196, fz_J, fz_J]) (fz_le_e (fz_le_j (fz_le_j fz_le_n))) ?_
      exact V_nd_X12_teach_29 hD    H
    · replace H := H.2 (bi_1 hc)
      refine fs_aload_n (k0 := 0) (i := 0) dd_X12_teach_20 rfl rfl ?_
      refine fs_iload_n (k0 := 1) (i := 1) dd_X12_teach_21 rfl rfl ?_
      refine fs_callV (y := m_X12_witsOf) (as := [.int p0]) dd_X12_teach_22 me_X12_witsOf lk_X12_442 in_X12_witsOf se_X12_witsOf ca_196 rfl rfl rfl (Nat.le_of_ble_eq_true rfl) (Nat.le_of_ble_eq_true rfl) rfl (V_X12_witsOf (by omega)  H) (k2_I fun r5 s6 H => ?_)
      refine fs_iload_n (k0 := 2) (i := 2) dd_X12_teach_25 rfl rfl ?_
      refine fs_icmp_ne (tgt := 34) dd_X12_teach_26 (by decide) (fun hc => ?_) (fun hc => ?_)
      · replace H := H.1 hc
        refine fs_aload_n (k0 := 0) (i := 0) dd_X12_teach_34 rfl rfl ?_
        refine fs_callV (y := m_X12_keeps) (as := []) dd_X12_teach_35 me_X12_keeps lk_X12_594 in_X12_keeps se_X12_keeps ca_196 rfl rfl rfl (Nat.le_of_ble_eq_true rfl) (Nat.le_of_ble_eq_true rfl) rfl (V_X12_keeps (by omega)  H) (k2_V fun s8 H => ?_)
        refine fs_aload_n (k0 := 0) (i := 0) dd_X12_teach_38 rfl rfl ?_
        refine fs_getr (ci := 12) (j := 54) (q := 232) dd_X12_teach_39 fl_X12_121 ca_196 rfl (Or.inr ⟨_, rfl⟩) rfl (by decide) ?_
        refine fs_iconst (n := 5) (v := 5) dd_X12_teach_42 (by decide) ?_
        refine fs_iconst (n := 3) (v := 3) dd_X12_teach_43 (by decide) ?_
        refine fs_iload_n (k0 := 1) (i := 1) dd_X12_teach_44 rfl rfl ?_
        refine fs_imul dd_X12_teach_45 ?_
        refine fs_iadd dd_X12_teach_46 ?_
        refine fs_iload_n (k0 := 2) (i := 2) dd_X12_teach_47 rfl rfl ?_
        have hb := H.1
        replace H := H.2
        refine fs_iast dd_X12_teach_48 ca_232 hb ?_
        refine fs_tops (fun s9 hs9 => ?_)
        replace H := H s9 hs9
        refine fs_iconst (n := 1) (v := 1) dd_X12_teach_49 (by decide) ?_
        exact fs_zret true dd_X12_teach_50 rfl rfl H
      · replace H := H.2 hc
        refine fs_weak (ls2 := [.ref 196, fz_J, fz_J]) (fz_le_e (fz_le_j (fz_le_j fz_le_n))) ?_
        exact V_nd_X12_teach_29 hD    H
theorem dd_X12_bring_0 : decode m_X12_bring.2.1 0 = .ok (.aload_n 0, 1) := by decide +kernel
theorem dd_X12_bring_1 : decode m_X12_bring.2.1 1 = .ok (.iload_n 1, 1) := by decide +kernel
theorem dd_X12_bring_2 : decode m_X12_bring.2.1 2 = .ok (.invokevirtual 415, 3) := by decide +kernel
theorem dd_X12_bring_5 : decode m_X12_bring.2.1 5 = .ok (.ifCond .ne 9, 3) := by decide +kernel
theorem dd_X12_bring_8 : decode m_X12_bring.2.1 8 = .ok (.aload_n 0, 1) := by decide +kernel
theorem dd_X12_bring_9 : decode m_X12_bring.2.1 9 = .ok (.iconst 2, 1) := by decide +kernel
theorem dd_X12_bring_10 : decode m_X12_bring.2.1 10 = .ok (.invokevirtual 571, 3) := by decide +kernel
theorem dd_X12_bring_13 : decode m_X12_bring.2.1 13 = .ok (.ireturn, 1) := by decide +kernel
theorem dd_X12_bring_14 : decode m_X12_bring.2.1 14 = .ok (.aload_n 0, 1) := by decide +kernel
theorem dd_X12_bring_15 : decode m_X12_bring.2.1 15 = .ok (.invokevirtual 594, 3) := by decide +kernel
theorem dd_X12_bring_18 : decode m_X12_bring.2.1 18 = .ok (.aload_n 0, 1) := by decide +kernel
theorem dd_X12_bring_19 : decode m_X12_bring.2.1 19 = .ok (.iload_n 1, 1) := by decide +kernel
theorem dd_X12_bring_20 : decode m_X12_bring.2.1 20 = .ok (.invokevirtual 405, 3) := by decide +kernel
theorem dd_X12_bring_23 : decode m_X12_bring.2.1 23 = .ok (.ifCond .eq 11, 3) := by decide +kernel
theorem dd_X12_bring_26 : decode m_X12_bring.2.1 26 = .ok (.aload_n 0, 1) := by decide +kernel
theorem dd_X12_bring_27 : decode m_X12_bring.2.1 27 = .ok (.iload_n 1, 1) := by decide +kernel
theorem dd_X12_bring_28 : decode m_X12_bring.2.1 28 = .ok (.invokevirtual 466, 3) := by decide +kernel
theorem dd_X12_bring_31 : decode m_X12_bring.2.1 31 = .ok (.goto 8, 3) := by decide +kernel
theorem dd_X12_bring_34 : decode m_X12_bring.2.1 34 = .ok (.aload_n 0, 1) := by decide +kernel
theorem dd_X12_bring_35 : decode m_X12_bring.2.1 35 = .ok (.iload_n 1, 1) := by decide +kernel
theorem dd_X12_bring_36 : decode m_X12_bring.2.1 36 = .ok (.invokevirtual 472, 3) := by decide +kernel
theorem dd_X12_bring_39 : decode m_X12_bring.2.1 39 = .ok (.aload_n 0, 1) := by decide +kernel
theorem dd_X12_bring_40 : decode m_X12_bring.2.1 40 = .ok (.iload_n 1, 1) := by decide +kernel
theorem dd_X12_bring_41 : decode m_X12_bring.2.1 41 = .ok (.invokevirtual 412, 3) := by decide +kernel
theorem dd_X12_bring_44 : decode m_X12_bring.2.1 44 = .ok (.ireturn, 1) := by decide +kernel
def nd_X12_bring_39   (Q : Int32 → fz_s → Prop) (v1 : Int32) (s : fz_s) : Prop :=
  wp_X12_livesIn v1 s (fun r1 s2 => Q r1 s2)
def wp_X12_bring (p0 : Int32) (s : fz_s) (Q : Int32 → fz_s → Prop) : Prop :=
  wp_X12_isPerson p0 s (fun r1 s2 => ((r1 = true → wp_X12_keeps  s2 (fun s4 => wp_X12_isAway p0 s4 (fun r5 s6 => ((r5 = false → wp_X12_goesAway p0 s6 (fun s8 => nd_X12_bring_39   Q p0 s8)) ∧ (r5 = true → wp_X12_comesHome p0 s6 (fun s10 => nd_X12_bring_39   Q p0 s10)))))) ∧ (r1 = false → wp_X12_refuses 2 s2 (fun r11 s12 => Q r11 s12))))
set_option maxRecDepth 100000 in
set_option maxHeartbeats 4000000 in
theorem V_nd_X12_bring_39 {g : fz_G} {l : Launch} {d : Nat} (hD : 2 ≤ d)    {Q : Int32 → fz_s → Prop} {v1 : Int32} {s : fz_s}  (H : nd_X12_bring_39   Q v1 s) : fs_V g l m_X12_bring d false 39 [.ref 196, .int v1] [] s (rI Q) := by
  obtain ⟨d, rfl⟩ : ∃ e, d = e + 1 := ⟨d - 1, by omega⟩
  unfold nd_X12_bring_39 at H
  refine fs_aload_n (k0 := 0) (i := 0) dd_X12_bring_39 rfl rfl ?_
  refine fs_iload_n (k0 := 1) (i := 1) dd_X12_bring_40 rfl rfl ?_
  refine fs_callV (y := m_X12_livesIn) (as := [.int v1]) dd_X12_bring_41 me_X12_livesIn lk_X12_412 in_X12_livesIn se_X12_livesIn ca_196 rfl rfl rfl (Nat.le_of_ble_eq_true rfl) (Nat.le_of_ble_eq_true rfl) rfl (V_X12_livesIn (by omega)  H) (k2_I fun r1 s2 H => ?_)
  exact fs_iret dd_X12_bring_44 rfl H
set_option maxRecDepth 100000 in
set_option maxHeartbeats 4000000 in
theorem V_X12_bring {g : fz_G} {l : Launch} {d : Nat} (hD : 2 ≤ d) {p0 : Int32}  {s : fz_s} {Q : Int32 → fz_s → Prop} (H : wp_X12_bring p0 s Q) : fs_V g l m_X12_bring d false 0 (fz_en [.ref 196, .int p0] 2) [] s (rI Q) := by
  obtain ⟨d, rfl⟩ : ∃ e, d = e + 1 := ⟨d - 1, by omega⟩
  unfold wp_X12_bring at H
  refine fs_aload_n (k0 := 0) (i := 0) dd_X12_bring_0 rfl rfl ?_
  refine fs_iload_n (k0 := 1) (i := 1) dd_X12_bring_1 rfl rfl ?_
  refine fs_callV (y := m_X12_isPerson) (as := [.int p0]) dd_X12_bring_2 me_X12_isPerson lk_X12_415 in_X12_isPerson se_X12_isPerson ca_196 rfl rfl rfl (Nat.le_of_ble_eq_true rfl) (Nat.le_of_ble_eq_true rfl) rfl (V_X12_isPerson (by omega)  H) (k2_Z fun r1 s2 H => ?_)
  refine fs_if_ne (tgt := 14) dd_X12_bring_5 (by decide) (fun hc => ?_) (fun hc => ?_)
  · replace H := H.1 (bi_1 hc)
    refine fs_aload_n (k0 := 0) (i := 0) dd_X12_bring_14 rfl rfl ?_
    refine fs_callV (y := m_X12_keeps) (as := []) dd_X12_bring_15 me_X12_keeps lk_X12_594 in_X12_keeps se_X12_keeps ca_196 rfl rfl rfl (Nat.le_of_ble_eq_true rfl) (Nat.le_of_ble_eq_true rfl) rfl (V_X12_keeps (by omega)  H) (k2_V fun s4 H => ?_)
    refine fs_aload_n (k0 := 0) (i := 0) dd_X12_bring_18 rfl rfl ?_
    refine fs_iload_n (k0 := 1) (i := 1) dd_X12_bring_19 rfl rfl ?_
    refine fs_callV (y := m_X12_isAway) (as := [.int p0]) dd_X12_bring_20 me_X12_isAway lk_X12_405 in_X12_isAway se_X12_isAway ca_196 rfl rfl rfl (Nat.le_of_ble_eq_true rfl) (Nat.le_of_ble_eq_true rfl) rfl (V_X12_isAway (by omega)  H) (k2_Z fun r5 s6 H => ?_)
    refine fs_if_eq (tgt := 34) dd_X12_bring_23 (by decide) (fun hc => ?_) (fun hc => ?_)
    · replace H := H.1 (bi_0 hc)
      refine fs_aload_n (k0 := 0) (i := 0) dd_X12_bring_34 rfl rfl ?_
      refine fs_iload_n (k0 := 1) (i := 1) dd_X12_bring_35 rfl rfl ?_
      refine fs_callV (y := m_X12_goesAway) (as := [.int p0]) dd_X12_bring_36 me_X12_goesAway lk_X12_472 in_X12_goesAway se_X12_goesAway ca_196 rfl rfl rfl (Nat.le_of_ble_eq_true rfl) (Nat.le_of_ble_eq_true rfl) rfl (V_X12_goesAway (by omega)  H) (k2_V fun s8 H => ?_)
      refine fs_weak (ls2 := [.ref 196, .int p0]) (fz_le_e (fz_le_e fz_le_n)) ?_
      exact V_nd_X12_bring_39 hD    H
    · replace H := H.2 (bi_1 hc)
      refine fs_aload_n (k0 := 0) (i := 0) dd_X12_bring_26 rfl rfl ?_
      refine fs_iload_n (k0 := 1) (i := 1) dd_X12_bring_27 rfl rfl ?_
      refine fs_callV (y := m_X12_comesHome) (as := [.int p0]) dd_X12_bring_28 me_X12_comesHome lk_X12_466 in_X12_comesHome se_X12_comesHome ca_196 rfl rfl rfl (Nat.le_of_ble_eq_true rfl) (Nat.le_of_ble_eq_true rfl) rfl (V_X12_comesHome (by omega)  H) (k2_V fun s10 H => ?_)
      refine fs_goto (tgt := 39) dd_X12_bring_31 (by decide) ?_
      refine fs_weak (ls2 := [.ref 196, .int p0]) (fz_le_e (fz_le_e fz_le_n)) ?_
      exact V_nd_X12_bring_39 hD    H
  · replace H := H.2 (bi_0 hc)
    refine fs_aload_n (k0 := 0) (i := 0) dd_X12_bring_8 rfl rfl ?_
    refine fs_iconst (n := 2) (v := 2) dd_X12_bring_9 (by decide) ?_
    refine fs_callV (y := m_X12_refuses) (as := [.int 2]) dd_X12_bring_10 me_X12_refuses lk_X12_571 in_X12_refuses se_X12_refuses ca_196 rfl rfl rfl (Nat.le_of_ble_eq_true rfl) (Nat.le_of_ble_eq_true rfl) rfl (V_X12_refuses (by omega)  H) (k2_I fun r11 s12 H => ?_)
    exact fs_iret dd_X12_bring_13 rfl H
theorem dd_X12_calm_0 : decode m_X12_calm.2.1 0 = .ok (.aload_n 0, 1) := by decide +kernel
theorem dd_X12_calm_1 : decode m_X12_calm.2.1 1 = .ok (.iload_n 1, 1) := by decide +kernel
theorem dd_X12_calm_2 : decode m_X12_calm.2.1 2 = .ok (.i2l, 1) := by decide +kernel
theorem dd_X12_calm_3 : decode m_X12_calm.2.1 3 = .ok (.invokevirtual 509, 3) := by decide +kernel
theorem dd_X12_calm_6 : decode m_X12_calm.2.1 6 = .ok (.ifCond .eq 16, 3) := by decide +kernel
theorem dd_X12_calm_9 : decode m_X12_calm.2.1 9 = .ok (.aload_n 0, 1) := by decide +kernel
theorem dd_X12_calm_10 : decode m_X12_calm.2.1 10 = .ok (.getfield 121, 3) := by decide +kernel
theorem dd_X12_calm_13 : decode m_X12_calm.2.1 13 = .ok (.iconst 2, 1) := by decide +kernel
theorem dd_X12_calm_14 : decode m_X12_calm.2.1 14 = .ok (.iconst 2, 1) := by decide +kernel
theorem dd_X12_calm_15 : decode m_X12_calm.2.1 15 = .ok (.iload_n 1, 1) := by decide +kernel
theorem dd_X12_calm_16 : decode m_X12_calm.2.1 16 = .ok (.imul, 1) := by decide +kernel
theorem dd_X12_calm_17 : decode m_X12_calm.2.1 17 = .ok (.iadd, 1) := by decide +kernel
theorem dd_X12_calm_18 : decode m_X12_calm.2.1 18 = .ok (.iaload, 1) := by decide +kernel
theorem dd_X12_calm_19 : decode m_X12_calm.2.1 19 = .ok (.ifCond .ne 8, 3) := by decide +kernel
theorem dd_X12_calm_22 : decode m_X12_calm.2.1 22 = .ok (.aload_n 0, 1) := by decide +kernel
theorem dd_X12_calm_23 : decode m_X12_calm.2.1 23 = .ok (.invokevirtual 591, 3) := by decide +kernel
theorem dd_X12_calm_26 : decode m_X12_calm.2.1 26 = .ok (.ireturn, 1) := by decide +kernel
theorem dd_X12_calm_27 : decode m_X12_calm.2.1 27 = .ok (.aload_n 0, 1) := by decide +kernel
theorem dd_X12_calm_28 : decode m_X12_calm.2.1 28 = .ok (.invokevirtual 594, 3) := by decide +kernel
theorem dd_X12_calm_31 : decode m_X12_calm.2.1 31 = .ok (.aload_n 0, 1) := by decide +kernel
theorem dd_X12_calm_32 : decode m_X12_calm.2.1 32 = .ok (.getfield 121, 3) := by decide +kernel
theorem dd_X12_calm_35 : decode m_X12_calm.2.1 35 = .ok (.iconst 2, 1) := by decide +kernel
theorem dd_X12_calm_36 : decode m_X12_calm.2.1 36 = .ok (.iconst 2, 1) := by decide +kernel
theorem dd_X12_calm_37 : decode m_X12_calm.2.1 37 = .ok (.iload_n 1, 1) := by decide +kernel
theorem dd_X12_calm_38 : decode m_X12_calm.2.1 38 = .ok (.imul, 1) := by decide +kernel
theorem dd_X12_calm_39 : decode m_X12_calm.2.1 39 = .ok (.iadd, 1) := by decide +kernel
theorem dd_X12_calm_40 : decode m_X12_calm.2.1 40 = .ok (.iconst 0, 1) := by decide +kernel
theorem dd_X12_calm_41 : decode m_X12_calm.2.1 41 = .ok (.iastore, 1) := by decide +kernel
theorem dd_X12_calm_42 : decode m_X12_calm.2.1 42 = .ok (.iconst 1, 1) := by decide +kernel
theorem dd_X12_calm_43 : decode m_X12_calm.2.1 43 = .ok (.ireturn, 1) := by decide +kernel
def nd_X12_calm_22   (Q : Bool → fz_s → Prop)  (s : fz_s) : Prop :=
  wp_X12_isRefused  s (fun r1 s2 => Q r1 s2)
def wp_X12_calm (p0 : Int32) (s : fz_s) (Q : Bool → fz_s → Prop) : Prop :=
  wp_X12_isVillage p0.toInt64 s (fun r1 s2 => ((r1 = false → nd_X12_calm_22   Q  s2) ∧ (r1 = true → vp_in (2 + (2 * p0)) 150 ∧ ((¬ (s2.1 232 (2 + (2 * p0)).toNatClampNeg) = 0 → wp_X12_keeps  s2 (fun s4 => vp_in (2 + (2 * p0)) 150 ∧ ∀ s5 : fz_s, s5 = si s4 232 (2 + (2 * p0)).toNatClampNeg 0 → Q true s5)) ∧ ((s2.1 232 (2 + (2 * p0)).toNatClampNeg) = 0 → nd_X12_calm_22   Q  s2)))))
set_option maxRecDepth 100000 in
set_option maxHeartbeats 4000000 in
theorem V_nd_X12_calm_22 {g : fz_G} {l : Launch} {d : Nat} (hD : 2 ≤ d)    {Q : Bool → fz_s → Prop}  {s : fz_s}  (H : nd_X12_calm_22   Q  s) : fs_V g l m_X12_calm d false 22 [.ref 196, fz_J] [] s (rZ Q) := by
  obtain ⟨d, rfl⟩ : ∃ e, d = e + 1 := ⟨d - 1, by omega⟩
  unfold nd_X12_calm_22 at H
  refine fs_aload_n (k0 := 0) (i := 0) dd_X12_calm_22 rfl rfl ?_
  refine fs_callV (y := m_X12_isRefused) (as := []) dd_X12_calm_23 me_X12_isRefused lk_X12_591 in_X12_isRefused se_X12_isRefused ca_196 rfl rfl rfl (Nat.le_of_ble_eq_true rfl) (Nat.le_of_ble_eq_true rfl) rfl (V_X12_isRefused (by omega)  H) (k2_Z fun r1 s2 H => ?_)
  exact fs_zret r1 dd_X12_calm_26 rfl rfl H
set_option maxRecDepth 100000 in
set_option maxHeartbeats 4000000 in
theorem V_X12_calm {g : fz_G} {l : Launch} {d : Nat} (hD : 2 ≤ d) {p0 : Int32}  {s : fz_s} {Q : Bool → fz_s → Prop} (H : wp_X12_calm p0 s Q) : fs_V g l m_X12_calm d false 0 (fz_en [.ref 196, .int p0] 2) [] s (rZ Q) := by
  obtain ⟨d, rfl⟩ : ∃ e, d = e + 1 := ⟨d - 1, by omega⟩
  unfold wp_X12_calm at H
  refine fs_aload_n (k0 := 0) (i := 0) dd_X12_calm_0 rfl rfl ?_
  refine fs_iload_n (k0 := 1) (i := 1) dd_X12_calm_1 rfl rfl ?_
  refine fs_i2l dd_X12_calm_2 ?_
  refine fs_callV (y := m_X12_isVillage) (as := [.long p0.toInt64]) dd_X12_calm_3 me_X12_isVillage lk_X12_509 in_X12_isVillage se_X12_isVillage ca_196 rfl rfl rfl (Nat.le_of_ble_eq_true rfl) (Nat.le_of_ble_eq_true rfl) rfl (V_X12_isVillage (by omega)  H) (k2_Z fun r1 s2 H => ?_)
  refine fs_if_eq (tgt := 22) dd_X12_calm_6 (by decide) (fun hc => ?_) (fun hc => ?_)
  · replace H := H.1 (bi_0 hc)
    refine fs_weak (ls2 := [.ref 196, fz_J]) (fz_le_e (fz_le_j fz_le_n)) ?_
    exact V_nd_X12_calm_22 hD    H
  · replace H := H.2 (bi_1 hc)
    refine fs_aload_n (k0 := 0) (i := 0) dd_X12_calm_9 rfl rfl ?_
    refine fs_getr (ci := 12) (j := 54) (q := 232) dd_X12_calm_10 fl_X12_121 ca_196 rfl (Or.inr ⟨_, rfl⟩) rfl (by decide) ?_
    refine fs_iconst (n := 2) (v := 2) dd_X12_calm_13 (by decide) ?_
    refine fs_iconst (n := 2) (v := 2) dd_X12_calm_14 (by decide) ?_
    refine fs_iload_n (k0 := 1) (i := 1) dd_X12_calm_15 rfl rfl ?_
    refine fs_imul dd_X12_calm_16 ?_
    refine fs_iadd dd_X12_calm_17 ?_
    have hb := H.1
    replace H := H.2
    refine fs_iald dd_X12_calm_18 ca_232 hb ?_
    refine fs_if_ne (tgt := 27) dd_X12_calm_19 (by decide) (fun hc => ?_) (fun hc => ?_)
    · replace H := H.1 hc
      refine fs_aload_n (k0 := 0) (i := 0) dd_X12_calm_27 rfl rfl ?_
      refine fs_callV (y := m_X12_keeps) (as := []) dd_X12_calm_28 me_X12_keeps lk_X12_594 in_X12_keeps se_X12_keeps ca_196 rfl rfl rfl (Nat.le_of_ble_eq_true rfl) (Nat.le_of_ble_eq_true rfl) rfl (V_X12_keeps (by omega)  H) (k2_V fun s4 H => ?_)
      refine fs_aload_n (k0 := 0) (i := 0) dd_X12_calm_31 rfl rfl ?_
      refine fs_getr (ci := 12) (j := 54) (q := 232) dd_X12_calm_32 fl_X12_121 ca_196 rfl (Or.inr ⟨_, rfl⟩) rfl (by decide) ?_
      refine fs_iconst (n := 2) (v := 2) dd_X12_calm_35 (by decide) ?_
      refine fs_iconst (n := 2) (v := 2) dd_X12_calm_36 (by decide) ?_
      refine fs_iload_n (k0 := 1) (i := 1) dd_X12_calm_37 rfl rfl ?_
      refine fs_imul dd_X12_calm_38 ?_
      refine fs_iadd dd_X12_calm_39 ?_
      refine fs_iconst (n := 0) (v := 0) dd_X12_calm_40 (by decide) ?_
      have hb := H.1
      replace H := H.2
      refine fs_iast dd_X12_calm_41 ca_232 hb ?_
      refine fs_tops (fun s5 hs5 => ?_)
      replace H := H s5 hs5
      refine fs_iconst (n := 1) (v := 1) dd_X12_calm_42 (by decide) ?_
      exact fs_zret true dd_X12_calm_43 rfl rfl H
    · replace H := H.2 hc
      refine fs_weak (ls2 := [.ref 196, fz_J]) (fz_le_e (fz_le_j fz_le_n)) ?_
      exact V_nd_X12_calm_22 hD    H

theorem dd_X8_wordNumber_0 : decode m_X8_wordNumber.2.1 0 = .ok (.iconst 0, 1) := by decide +kernel
theorem dd_X8_wordNumber_1 : decode m_X8_wordNumber.2.1 1 = .ok (.istore_n 1, 1) := by decide +kernel
theorem dd_X8_wordNumber_2 : decode m_X8_wordNumber.2.1 2 = .ok (.aload_n 0, 1) := by decide +kernel
theorem dd_X8_wordNumber_3 : decode m_X8_wordNumber.2.1 3 = .ok (.getfield 47, 3) := by decide +kernel
theorem dd_X8_wordNumber_6 : decode m_X8_wordNumber.2.1 6 = .ok (.istore_n 2, 1) := by decide +kernel
theorem dd_X8_wordNumber_7 : decode m_X8_wordNumber.2.1 7 = .ok (.iconst 1, 1) := by decide +kernel
theorem dd_X8_wordNumber_8 : decode m_X8_wordNumber.2.1 8 = .ok (.istore_n 3, 1) := by decide +kernel
theorem dd_X8_wordNumber_9 : decode m_X8_wordNumber.2.1 9 = .ok (.iconst 0, 1) := by decide +kernel
theorem dd_X8_wordNumber_10 : decode m_X8_wordNumber.2.1 10 = .ok (.istore 4, 2) := by decide +kernel
theorem dd_X8_wordNumber_12 : decode m_X8_wordNumber.2.1 12 = .ok (.iload 4, 2) := by decide +kernel
theorem dd_X8_wordNumber_14 : decode m_X8_wordNumber.2.1 14 = .ok (.ldc 57, 2) := by decide +kernel
theorem dd_X8_wordNumber_16 : decode m_X8_wordNumber.2.1 16 = .ok (.invokevirtual 59, 3) := by decide +kernel
theorem dd_X8_wordNumber_19 : decode m_X8_wordNumber.2.1 19 = .ok (.if_icmp .ge 83, 3) := by decide +kernel
theorem dd_X8_wordNumber_22 : decode m_X8_wordNumber.2.1 22 = .ok (.ldc 57, 2) := by decide +kernel
theorem dd_X8_wordNumber_24 : decode m_X8_wordNumber.2.1 24 = .ok (.iload 4, 2) := by decide +kernel
theorem dd_X8_wordNumber_26 : decode m_X8_wordNumber.2.1 26 = .ok (.invokevirtual 63, 3) := by decide +kernel
theorem dd_X8_wordNumber_29 : decode m_X8_wordNumber.2.1 29 = .ok (.istore 5, 2) := by decide +kernel
theorem dd_X8_wordNumber_31 : decode m_X8_wordNumber.2.1 31 = .ok (.iload 5, 2) := by decide +kernel
theorem dd_X8_wordNumber_33 : decode m_X8_wordNumber.2.1 33 = .ok (.bipush 32, 2) := by decide +kernel
theorem dd_X8_wordNumber_35 : decode m_X8_wordNumber.2.1 35 = .ok (.if_icmp .ne 30, 3) := by decide +kernel
theorem dd_X8_wordNumber_38 : decode m_X8_wordNumber.2.1 38 = .ok (.iload_n 3, 1) := by decide +kernel
theorem dd_X8_wordNumber_39 : decode m_X8_wordNumber.2.1 39 = .ok (.ifCond .eq 13, 3) := by decide +kernel
theorem dd_X8_wordNumber_42 : decode m_X8_wordNumber.2.1 42 = .ok (.iload_n 2, 1) := by decide +kernel
theorem dd_X8_wordNumber_43 : decode m_X8_wordNumber.2.1 43 = .ok (.aload_n 0, 1) := by decide +kernel
theorem dd_X8_wordNumber_44 : decode m_X8_wordNumber.2.1 44 = .ok (.getfield 28, 3) := by decide +kernel
theorem dd_X8_wordNumber_47 : decode m_X8_wordNumber.2.1 47 = .ok (.if_icmp .ne 5, 3) := by decide +kernel
theorem dd_X8_wordNumber_50 : decode m_X8_wordNumber.2.1 50 = .ok (.iload_n 1, 1) := by decide +kernel
theorem dd_X8_wordNumber_51 : decode m_X8_wordNumber.2.1 51 = .ok (.ireturn, 1) := by decide +kernel
theorem dd_X8_wordNumber_52 : decode m_X8_wordNumber.2.1 52 = .ok (.iinc 1 1, 3) := by decide +kernel
theorem dd_X8_wordNumber_55 : decode m_X8_wordNumber.2.1 55 = .ok (.aload_n 0, 1) := by decide +kernel
theorem dd_X8_wordNumber_56 : decode m_X8_wordNumber.2.1 56 = .ok (.getfield 47, 3) := by decide +kernel
theorem dd_X8_wordNumber_59 : decode m_X8_wordNumber.2.1 59 = .ok (.istore_n 2, 1) := by decide +kernel
theorem dd_X8_wordNumber_60 : decode m_X8_wordNumber.2.1 60 = .ok (.iconst 1, 1) := by decide +kernel
theorem dd_X8_wordNumber_61 : decode m_X8_wordNumber.2.1 61 = .ok (.istore_n 3, 1) := by decide +kernel
theorem dd_X8_wordNumber_62 : decode m_X8_wordNumber.2.1 62 = .ok (.goto 34, 3) := by decide +kernel
theorem dd_X8_wordNumber_65 : decode m_X8_wordNumber.2.1 65 = .ok (.iload_n 3, 1) := by decide +kernel
theorem dd_X8_wordNumber_66 : decode m_X8_wordNumber.2.1 66 = .ok (.ifCond .eq 28, 3) := by decide +kernel
theorem dd_X8_wordNumber_69 : decode m_X8_wordNumber.2.1 69 = .ok (.iload_n 2, 1) := by decide +kernel
theorem dd_X8_wordNumber_70 : decode m_X8_wordNumber.2.1 70 = .ok (.aload_n 0, 1) := by decide +kernel
theorem dd_X8_wordNumber_71 : decode m_X8_wordNumber.2.1 71 = .ok (.getfield 28, 3) := by decide +kernel
theorem dd_X8_wordNumber_74 : decode m_X8_wordNumber.2.1 74 = .ok (.if_icmp .ge 20, 3) := by decide +kernel
theorem dd_X8_wordNumber_77 : decode m_X8_wordNumber.2.1 77 = .ok (.aload_n 0, 1) := by decide +kernel
theorem dd_X8_wordNumber_78 : decode m_X8_wordNumber.2.1 78 = .ok (.getfield 9, 3) := by decide +kernel
theorem dd_X8_wordNumber_81 : decode m_X8_wordNumber.2.1 81 = .ok (.iload_n 2, 1) := by decide +kernel
theorem dd_X8_wordNumber_82 : decode m_X8_wordNumber.2.1 82 = .ok (.iaload, 1) := by decide +kernel
theorem dd_X8_wordNumber_83 : decode m_X8_wordNumber.2.1 83 = .ok (.iload 5, 2) := by decide +kernel
theorem dd_X8_wordNumber_85 : decode m_X8_wordNumber.2.1 85 = .ok (.if_icmp .ne 9, 3) := by decide +kernel
theorem dd_X8_wordNumber_88 : decode m_X8_wordNumber.2.1 88 = .ok (.iinc 2 1, 3) := by decide +kernel
theorem dd_X8_wordNumber_91 : decode m_X8_wordNumber.2.1 91 = .ok (.goto 5, 3) := by decide +kernel
theorem dd_X8_wordNumber_94 : decode m_X8_wordNumber.2.1 94 = .ok (.iconst 0, 1) := by decide +kernel
theorem dd_X8_wordNumber_95 : decode m_X8_wordNumber.2.1 95 = .ok (.istore_n 3, 1) := by decide +kernel
theorem dd_X8_wordNumber_96 : decode m_X8_wordNumber.2.1 96 = .ok (.iinc 4 1, 3) := by decide +kernel
theorem dd_X8_wordNumber_99 : decode m_X8_wordNumber.2.1 99 = .ok (.goto (-87), 3) := by decide +kernel
theorem dd_X8_wordNumber_102 : decode m_X8_wordNumber.2.1 102 = .ok (.iconst (-1), 1) := by decide +kernel
theorem dd_X8_wordNumber_103 : decode m_X8_wordNumber.2.1 103 = .ok (.ireturn, 1) := by decide +kernel
def nd_X8_wordNumber_52  (K12 : Int32 → Int32 → Bool → Int32 → fz_s → Prop) (Q : Int32 → fz_s → Prop) (v1 : Int32) (v4 : Int32) (s : fz_s) : Prop :=
  ∀ x1 : Int32, x1 = v1 + 1 → ∀ x2 : Int32, x2 = (s.1 4 4) → ∀ x3 : Int32, x3 = v4 + 1 → K12 x1 x2 true x3 s
def nd_X8_wordNumber_12  (K12 : Int32 → Int32 → Bool → Int32 → fz_s → Prop) (Q : Int32 → fz_s → Prop) (v1 : Int32) (v2 : Int32) (v3 : Bool) (v4 : Int32) (s : fz_s) : Prop :=
  ((177 ≤ v4 → Q (-1) s) ∧ (¬ 177 ≤ v4 → vp_in v4 177 ∧ ∀ x1 : Int32, x1 = (fz_chr v4) → ((¬ x1 = 32 → ((v3 = false → ∀ x2 : Int32, x2 = v4 + 1 → K12 v1 v2 false x2 s) ∧ (v3 = true → (((s.1 4 2) ≤ v2 → ∀ x3 : Int32, x3 = v4 + 1 → K12 v1 v2 false x3 s) ∧ (¬ (s.1 4 2) ≤ v2 → vp_in v2 1600 ∧ ((¬ (s.1 3 v2.toNatClampNeg) = x1 → ∀ x4 : Int32, x4 = v4 + 1 → K12 v1 v2 false x4 s) ∧ ((s.1 3 v2.toNatClampNeg) = x1 → ∀ x5 : Int32, x5 = v2 + 1 → ∀ x6 : Int32, x6 = v4 + 1 → K12 v1 x5 v3 x6 s))))))) ∧ (x1 = 32 → ((v3 = false → nd_X8_wordNumber_52  K12 Q v1 v4 s) ∧ (v3 = true → ((¬ v2 = (s.1 4 2) → nd_X8_wordNumber_52  K12 Q v1 v4 s) ∧ (v2 = (s.1 4 2) → Q v1 s))))))))
def lp_X8_wordNumber_12   (Q : Int32 → fz_s → Prop) : Nat → Int32 → Int32 → Bool → Int32 → fz_s → Prop
  | 0 => fun _ _ _ _ _ => False
  | n + 1 => nd_X8_wordNumber_12  (lp_X8_wordNumber_12   Q n) Q
def wp_X8_wordNumber  (s : fz_s) (Q : Int32 → fz_s → Prop) : Prop :=
  ∀ x1 : Int32, x1 = (s.1 4 4) → lp_X8_wordNumber_12   Q 2048 0 x1 true 0 s
set_option maxRecDepth 100000 in
set_option maxHeartbeats 4000000 in
theorem V_nd_X8_wordNumber_52 {g : fz_G} {l : Launch} {d : Nat} (hD : 8 ≤ d)   {K12 : Int32 → Int32 → Bool → Int32 → fz_s → Prop} {Q : Int32 → fz_s → Prop} {v1 : Int32} {v4 : Int32} {s : fz_s} (hK12 : ∀ {v1 : Int32} {v2 : Int32} {v3 : Bool} {v4 : Int32} {s : fz_s}, K12 v1 v2 v3 v4 s → fs_V g l m_X8_wordNumber d true 12 [.ref 4, .int v1, .int v2, .int (bi v3), .int v4, fz_J] [] s (rI Q)) (H : nd_X8_wordNumber_52  K12 Q v1 v4 s) : fs_V g l m_X8_wordNumber d true 52 [.ref 4, .int v1, fz_J, fz_J, .int v4, fz_J] [] s (rI Q) := by
  obtain ⟨d, rfl⟩ : ∃ e, d = e + 1 := ⟨d - 1, by omega⟩
  unfold nd_X8_wordNumber_52 at H
  refine fs_iincN (i := 1) (m := 1) (c := 1) dd_X8_wordNumber_52 rfl (by decide) (by decide) (fun x1 hx1 => ?_)
  replace H := H x1 hx1
  refine fs_aload_n (k0 := 0) (i := 0) dd_X8_wordNumber_55 rfl rfl ?_
  refine fs_geti (ci := 8) (j := 4) dd_X8_wordNumber_56 fl_X8_47 ca_4 rfl (Or.inl rfl) ?_
  refine fs_topi (fun x2 hx2 => ?_)
  replace H := H x2 hx2
  refine fs_istore_n (k0 := 2) (i := 2) dd_X8_wordNumber_59 rfl (by decide) ?_
  refine fs_iconst (n := 1) (v := 1) dd_X8_wordNumber_60 (by decide) ?_
  refine fs_istore_n (k0 := 3) (i := 3) dd_X8_wordNumber_61 rfl (by decide) ?_
  refine fs_goto (tgt := 96) dd_X8_wordNumber_62 (by decide) ?_
  refine fs_iincN (i := 4) (m := 1) (c := 1) dd_X8_wordNumber_96 rfl (by decide) (by decide) (fun x3 hx3 => ?_)
  replace H := H x3 hx3
  refine fs_goto (tgt := 12) dd_X8_wordNumber_99 (by decide) ?_
  refine fs_weak (ls2 := [.ref 4, .int x1, .int x2, .int (bi true), .int x3, fz_J]) (fz_le_e (fz_le_e (fz_le_e (fz_le_e (fz_le_e (fz_le_j fz_le_n)))))) ?_
  exact hK12 H
set_option maxRecDepth 100000 in
set_option maxHeartbeats 4000000 in
theorem V_nd_X8_wordNumber_12 {g : fz_G} {l : Launch} {d : Nat} (hD : 8 ≤ d)   {K12 : Int32 → Int32 → Bool → Int32 → fz_s → Prop} {Q : Int32 → fz_s → Prop} {v1 : Int32} {v2 : Int32} {v3 : Bool} {v4 : Int32} {s : fz_s} (hK12 : ∀ {v1 : Int32} {v2 : Int32} {v3 : Bool} {v4 : Int32} {s : fz_s}, K12 v1 v2 v3 v4 s → fs_V g l m_X8_wordNumber d true 12 [.ref 4, .int v1, .int v2, .int (bi v3), .int v4, fz_J] [] s (rI Q)) (H : nd_X8_wordNumber_12  K12 Q v1 v2 v3 v4 s) : fs_V g l m_X8_wordNumber d true 12 [.ref 4, .int v1, .int v2, .int (bi v3), .int v4, fz_J] [] s (rI Q) := by
  obtain ⟨d, rfl⟩ : ∃ e, d = e + 1 := ⟨d - 1, by omega⟩
  unfold nd_X8_wordNumber_12 at H
  refine fs_iload (i := 4) dd_X8_wordNumber_12 rfl ?_
  refine fs_ldcS dd_X8_wordNumber_14 ?_
  refine fs_strlen dd_X8_wordNumber_16 (Nat.le_of_ble_eq_true rfl) (by omega) ?_
  refine fs_icmp_ge (tgt := 102) dd_X8_wordNumber_19 (by decide) (fun hc => ?_) (fun hc => ?_)
  · replace H := H.1 hc
    refine fs_iconst (n := -1) (v := -1) dd_X8_wordNumber_102 (by decide) ?_
    exact fs_iret dd_X8_wordNumber_103 rfl H
  · replace H := H.2 hc
    refine fs_ldcS dd_X8_wordNumber_22 ?_
    refine fs_iload (i := 4) dd_X8_wordNumber_24 rfl ?_
    have hb := H.1
    replace H := H.2
    refine fs_charAt dd_X8_wordNumber_26 hb (Nat.le_of_ble_eq_true rfl) (by omega) ?_
    refine fs_topi (fun x1 hx1 => ?_)
    replace H := H x1 hx1
    refine fs_istore (i := 5) dd_X8_wordNumber_29 (by decide) ?_
    refine fs_iload (i := 5) dd_X8_wordNumber_31 rfl ?_
    refine fs_bipush (n := 32) (v := 32) dd_X8_wordNumber_33 (by decide) ?_
    refine fs_icmp_ne (tgt := 65) dd_X8_wordNumber_35 (by decide) (fun hc => ?_) (fun hc => ?_)
    · replace H := H.1 hc
      refine fs_iload_n (k0 := 3) (i := 3) dd_X8_wordNumber_65 rfl rfl ?_
      refine fs_if_eq (tgt := 94) dd_X8_wordNumber_66 (by decide) (fun hc => ?_) (fun hc => ?_)
      · replace H := H.1 (bi_0 hc)
        refine fs_iconst (n := 0) (v := 0) dd_X8_wordNumber_94 (by decide) ?_
        refine fs_istore_n (k0 := 3) (i := 3) dd_X8_wordNumber_95 rfl (by decide) ?_
        refine fs_iincN (i := 4) (m := 1) (c := 1) dd_X8_wordNumber_96 rfl (by decide) (by decide) (fun x2 hx2 => ?_)
        replace H := H x2 hx2
        refine fs_goto (tgt := 12) dd_X8_wordNumber_99 (by decide) ?_
        refine fs_weak (ls2 := [.ref 4, .int v1, .int v2, .int (bi false), .int x2, fz_J]) (fz_le_e (fz_le_e (fz_le_e (fz_le_e (fz_le_e (fz_le_j fz_le_n)))))) ?_
        exact hK12 H
      · replace H := H.2 (bi_1 hc)
        refine fs_iload_n (k0 := 2) (i := 2) dd_X8_wordNumber_69 rfl rfl ?_
        refine fs_aload_n (k0 := 0) (i := 0) dd_X8_wordNumber_70 rfl rfl ?_
        refine fs_geti (ci := 8) (j := 2) dd_X8_wordNumber_71 fl_X8_28 ca_4 rfl (Or.inl rfl) ?_
        refine fs_icmp_ge (tgt := 94) dd_X8_wordNumber_74 (by decide) (fun hc => ?_) (fun hc => ?_)
        · replace H := H.1 hc
          refine fs_iconst (n := 0) (v := 0) dd_X8_wordNumber_94 (by decide) ?_
          refine fs_istore_n (k0 := 3) (i := 3) dd_X8_wordNumber_95 rfl (by decide) ?_
          refine fs_iincN (i := 4) (m := 1) (c := 1) dd_X8_wordNumber_96 rfl (by decide) (by decide) (fun x3 hx3 => ?_)
          replace H := H x3 hx3
          refine fs_goto (tgt := 12) dd_X8_wordNumber_99 (by decide) ?_
          refine fs_weak (ls2 := [.ref 4, .int v1, .int v2, .int (bi false), .int x3, fz_J]) (fz_le_e (fz_le_e (fz_le_e (fz_le_e (fz_le_e (fz_le_j fz_le_n)))))) ?_
          exact hK12 H
        · replace H := H.2 hc
          refine fs_aload_n (k0 := 0) (i := 0) dd_X8_wordNumber_77 rfl rfl ?_
          refine fs_getr (ci := 8) (j := 0) (q := 3) dd_X8_wordNumber_78 fl_X8_9 ca_4 rfl (Or.inr ⟨_, rfl⟩) rfl (by decide) ?_
          refine fs_iload_n (k0 := 2) (i := 2) dd_X8_wordNumber_81 rfl rfl ?_
          have hb := H.1
          replace H := H.2
          refine fs_iald dd_X8_wordNumber_82 ca_3 hb ?_
          refine fs_iload (i := 5) dd_X8_wordNumber_83 rfl ?_
          refine fs_icmp_ne (tgt := 94) dd_X8_wordNumber_85 (by decide) (fun hc => ?_) (fun hc => ?_)
          · replace H := H.1 hc
            refine fs_iconst (n := 0) (v := 0) dd_X8_wordNumber_94 (by decide) ?_
            refine fs_istore_n (k0 := 3) (i := 3) dd_X8_wordNumber_95 rfl (by decide) ?_
            refine fs_iincN (i := 4) (m := 1) (c := 1) dd_X8_wordNumber_96 rfl (by decide) (by decide) (fun x4 hx4 => ?_)
            replace H := H x4 hx4
            refine fs_goto (tgt := 12) dd_X8_wordNumber_99 (by decide) ?_
            refine fs_weak (ls2 := [.ref 4, .int v1, .int v2, .int (bi false), .int x4, fz_J]) (fz_le_e (fz_le_e (fz_le_e (fz_le_e (fz_le_e (fz_le_j fz_le_n)))))) ?_
            exact hK12 H
          · replace H := H.2 hc
            refine fs_iincN (i := 2) (m := 1) (c := 1) dd_X8_wordNumber_88 rfl (by decide) (by decide) (fun x5 hx5 => ?_)
            replace H := H x5 hx5
            refine fs_goto (tgt := 96) dd_X8_wordNumber_91 (by decide) ?_
            refine fs_iincN (i := 4) (m := 1) (c := 1) dd_X8_wordNumber_96 rfl (by decide) (by decide) (fun x6 hx6 => ?_)
            replace H := H x6 hx6
            refine fs_goto (tgt := 12) dd_X8_wordNumber_99 (by decide) ?_
            refine fs_weak (ls2 := [.ref 4, .int v1, .int x5, .int (bi v3), .int x6, fz_J]) (fz_le_e (fz_le_e (fz_le_e (fz_le_e (fz_le_e (fz_le_j fz_le_n)))))) ?_
            exact hK12 H
    · replace H := H.2 hc
      refine fs_iload_n (k0 := 3) (i := 3) dd_X8_wordNumber_38 rfl rfl ?_
      refine fs_if_eq (tgt := 52) dd_X8_wordNumber_39 (by decide) (fun hc => ?_) (fun hc => ?_)
      · replace H := H.1 (bi_0 hc)
        refine fs_weak (ls2 := [.ref 4, .int v1, fz_J, fz_J, .int v4, fz_J]) (fz_le_e (fz_le_e (fz_le_j (fz_le_j (fz_le_e (fz_le_j fz_le_n)))))) ?_
        exact V_nd_X8_wordNumber_52 hD   hK12 H
      · replace H := H.2 (bi_1 hc)
        refine fs_iload_n (k0 := 2) (i := 2) dd_X8_wordNumber_42 rfl rfl ?_
        refine fs_aload_n (k0 := 0) (i := 0) dd_X8_wordNumber_43 rfl rfl ?_
        refine fs_geti (ci := 8) (j := 2) dd_X8_wordNumber_44 fl_X8_28 ca_4 rfl (Or.inl rfl) ?_
        refine fs_icmp_ne (tgt := 52) dd_X8_wordNumber_47 (by decide) (fun hc => ?_) (fun hc => ?_)
        · replace H := H.1 hc
          refine fs_weak (ls2 := [.ref 4, .int v1, fz_J, fz_J, .int v4, fz_J]) (fz_le_e (fz_le_e (fz_le_j (fz_le_j (fz_le_e (fz_le_j fz_le_n)))))) ?_
          exact V_nd_X8_wordNumber_52 hD   hK12 H
        · replace H := H.2 hc
          refine fs_iload_n (k0 := 1) (i := 1) dd_X8_wordNumber_50 rfl rfl ?_
          exact fs_iret dd_X8_wordNumber_51 rfl H
set_option maxRecDepth 100000 in
set_option maxHeartbeats 4000000 in
theorem V_lp_X8_wordNumber_12 {g : fz_G} {l : Launch} {d : Nat} (hD : 8 ≤ d)    {Q : Int32 → fz_s → Prop}  (n : Nat) : ∀ {v1 : Int32} {v2 : Int32} {v3 : Bool} {v4 : Int32} {s : fz_s}, lp_X8_wordNumber_12   Q n v1 v2 v3 v4 s → fs_V g l m_X8_wordNumber d true 12 [.ref 4, .int v1, .int v2, .int (bi v3), .int v4, fz_J] [] s (rI Q) := by
  induction n with
  | zero => intro v1 v2 v3 v4 s H; exact H.elim
  | succ n ih => intro v1 v2 v3 v4 s H; exact V_nd_X8_wordNumber_12 hD  (fun H => ih H) H
set_option maxRecDepth 100000 in
set_option maxHeartbeats 4000000 in
theorem V_X8_wordNumber {g : fz_G} {l : Launch} {d : Nat} (hD : 8 ≤ d)   {s : fz_s} {Q : Int32 → fz_s → Prop} (H : wp_X8_wordNumber  s Q) : fs_V g l m_X8_wordNumber d true 0 (fz_en [.ref 4] 6) [] s (rI Q) := by
  obtain ⟨d, rfl⟩ : ∃ e, d = e + 1 := ⟨d - 1, by omega⟩
  unfold wp_X8_wordNumber at H
  refine fs_iconst (n := 0) (v := 0) dd_X8_wordNumber_0 (by decide) ?_
  refine fs_istore_n (k0 := 1) (i := 1) dd_X8_wordNumber_1 rfl (by decide) ?_
  refine fs_aload_n (k0 := 0) (i := 0) dd_X8_wordNumber_2 rfl rfl ?_
  refine fs_geti (ci := 8) (j := 4) dd_X8_wordNumber_3 fl_X8_47 ca_4 rfl (Or.inl rfl) ?_
  refine fs_topi (fun x1 hx1 => ?_)
  replace H := H x1 hx1
  refine fs_istore_n (k0 := 2) (i := 2) dd_X8_wordNumber_6 rfl (by decide) ?_
  refine fs_iconst (n := 1) (v := 1) dd_X8_wordNumber_7 (by decide) ?_
  refine fs_istore_n (k0 := 3) (i := 3) dd_X8_wordNumber_8 rfl (by decide) ?_
  refine fs_iconst (n := 0) (v := 0) dd_X8_wordNumber_9 (by decide) ?_
  refine fs_istore (i := 4) dd_X8_wordNumber_10 (by decide) ?_
  refine fs_weak (ls2 := [.ref 4, .int 0, .int x1, .int (bi true), .int 0, fz_J]) (fz_le_e (fz_le_e (fz_le_e (fz_le_e (fz_le_e (fz_le_j fz_le_n)))))) ?_
  exact V_lp_X8_wordNumber_12 hD    2048 H
theorem dd_X8_next_0 : decode m_X8_next.2.1 0 = .ok (.aload_n 0, 1) := by decide +kernel
theorem dd_X8_next_1 : decode m_X8_next.2.1 1 = .ok (.getfield 31, 3) := by decide +kernel
theorem dd_X8_next_4 : decode m_X8_next.2.1 4 = .ok (.iconst 1, 1) := by decide +kernel
theorem dd_X8_next_5 : decode m_X8_next.2.1 5 = .ok (.if_icmp .eq 11, 3) := by decide +kernel
theorem dd_X8_next_8 : decode m_X8_next.2.1 8 = .ok (.aload_n 0, 1) := by decide +kernel
theorem dd_X8_next_9 : decode m_X8_next.2.1 9 = .ok (.getfield 31, 3) := by decide +kernel
theorem dd_X8_next_12 : decode m_X8_next.2.1 12 = .ok (.iconst 2, 1) := by decide +kernel
theorem dd_X8_next_13 : decode m_X8_next.2.1 13 = .ok (.if_icmp .ne 7, 3) := by decide +kernel
theorem dd_X8_next_16 : decode m_X8_next.2.1 16 = .ok (.iconst 1, 1) := by decide +kernel
theorem dd_X8_next_17 : decode m_X8_next.2.1 17 = .ok (.goto 4, 3) := by decide +kernel
theorem dd_X8_next_20 : decode m_X8_next.2.1 20 = .ok (.iconst 0, 1) := by decide +kernel
theorem dd_X8_next_21 : decode m_X8_next.2.1 21 = .ok (.istore_n 1, 1) := by decide +kernel
theorem dd_X8_next_22 : decode m_X8_next.2.1 22 = .ok (.aload_n 0, 1) := by decide +kernel
theorem dd_X8_next_23 : decode m_X8_next.2.1 23 = .ok (.getfield 28, 3) := by decide +kernel
theorem dd_X8_next_26 : decode m_X8_next.2.1 26 = .ok (.istore_n 2, 1) := by decide +kernel
theorem dd_X8_next_27 : decode m_X8_next.2.1 27 = .ok (.aload_n 0, 1) := by decide +kernel
theorem dd_X8_next_28 : decode m_X8_next.2.1 28 = .ok (.aload_n 0, 1) := by decide +kernel
theorem dd_X8_next_29 : decode m_X8_next.2.1 29 = .ok (.aload_n 0, 1) := by decide +kernel
theorem dd_X8_next_30 : decode m_X8_next.2.1 30 = .ok (.getfield 28, 3) := by decide +kernel
theorem dd_X8_next_33 : decode m_X8_next.2.1 33 = .ok (.iconst 1, 1) := by decide +kernel
theorem dd_X8_next_34 : decode m_X8_next.2.1 34 = .ok (.bipush 32, 2) := by decide +kernel
theorem dd_X8_next_36 : decode m_X8_next.2.1 36 = .ok (.bipush 32, 2) := by decide +kernel
theorem dd_X8_next_38 : decode m_X8_next.2.1 38 = .ok (.invokevirtual 43, 3) := by decide +kernel
theorem dd_X8_next_41 : decode m_X8_next.2.1 41 = .ok (.putfield 47, 3) := by decide +kernel
theorem dd_X8_next_44 : decode m_X8_next.2.1 44 = .ok (.aload_n 0, 1) := by decide +kernel
theorem dd_X8_next_45 : decode m_X8_next.2.1 45 = .ok (.iconst (-1), 1) := by decide +kernel
theorem dd_X8_next_46 : decode m_X8_next.2.1 46 = .ok (.putfield 50, 3) := by decide +kernel
theorem dd_X8_next_49 : decode m_X8_next.2.1 49 = .ok (.aload_n 0, 1) := by decide +kernel
theorem dd_X8_next_50 : decode m_X8_next.2.1 50 = .ok (.getfield 47, 3) := by decide +kernel
theorem dd_X8_next_53 : decode m_X8_next.2.1 53 = .ok (.aload_n 0, 1) := by decide +kernel
theorem dd_X8_next_54 : decode m_X8_next.2.1 54 = .ok (.getfield 24, 3) := by decide +kernel
theorem dd_X8_next_57 : decode m_X8_next.2.1 57 = .ok (.if_icmp .lt 17, 3) := by decide +kernel
theorem dd_X8_next_60 : decode m_X8_next.2.1 60 = .ok (.aload_n 0, 1) := by decide +kernel
theorem dd_X8_next_61 : decode m_X8_next.2.1 61 = .ok (.aload_n 0, 1) := by decide +kernel
theorem dd_X8_next_62 : decode m_X8_next.2.1 62 = .ok (.getfield 24, 3) := by decide +kernel
theorem dd_X8_next_65 : decode m_X8_next.2.1 65 = .ok (.putfield 28, 3) := by decide +kernel
theorem dd_X8_next_68 : decode m_X8_next.2.1 68 = .ok (.aload_n 0, 1) := by decide +kernel
theorem dd_X8_next_69 : decode m_X8_next.2.1 69 = .ok (.iconst 0, 1) := by decide +kernel
theorem dd_X8_next_70 : decode m_X8_next.2.1 70 = .ok (.putfield 31, 3) := by decide +kernel
theorem dd_X8_next_73 : decode m_X8_next.2.1 73 = .ok (.return_, 1) := by decide +kernel
theorem dd_X8_next_74 : decode m_X8_next.2.1 74 = .ok (.aload_n 0, 1) := by decide +kernel
theorem dd_X8_next_75 : decode m_X8_next.2.1 75 = .ok (.getfield 9, 3) := by decide +kernel
theorem dd_X8_next_78 : decode m_X8_next.2.1 78 = .ok (.aload_n 0, 1) := by decide +kernel
theorem dd_X8_next_79 : decode m_X8_next.2.1 79 = .ok (.getfield 47, 3) := by decide +kernel
theorem dd_X8_next_82 : decode m_X8_next.2.1 82 = .ok (.iaload, 1) := by decide +kernel
theorem dd_X8_next_83 : decode m_X8_next.2.1 83 = .ok (.istore_n 3, 1) := by decide +kernel
theorem dd_X8_next_84 : decode m_X8_next.2.1 84 = .ok (.iload_n 3, 1) := by decide +kernel
theorem dd_X8_next_85 : decode m_X8_next.2.1 85 = .ok (.bipush 97, 2) := by decide +kernel
theorem dd_X8_next_87 : decode m_X8_next.2.1 87 = .ok (.if_icmp .lt 42, 3) := by decide +kernel
theorem dd_X8_next_90 : decode m_X8_next.2.1 90 = .ok (.iload_n 3, 1) := by decide +kernel
theorem dd_X8_next_91 : decode m_X8_next.2.1 91 = .ok (.bipush 122, 2) := by decide +kernel
theorem dd_X8_next_93 : decode m_X8_next.2.1 93 = .ok (.if_icmp .gt 36, 3) := by decide +kernel
theorem dd_X8_next_96 : decode m_X8_next.2.1 96 = .ok (.aload_n 0, 1) := by decide +kernel
theorem dd_X8_next_97 : decode m_X8_next.2.1 97 = .ok (.aload_n 0, 1) := by decide +kernel
theorem dd_X8_next_98 : decode m_X8_next.2.1 98 = .ok (.aload_n 0, 1) := by decide +kernel
theorem dd_X8_next_99 : decode m_X8_next.2.1 99 = .ok (.getfield 47, 3) := by decide +kernel
theorem dd_X8_next_102 : decode m_X8_next.2.1 102 = .ok (.iconst 0, 1) := by decide +kernel
theorem dd_X8_next_103 : decode m_X8_next.2.1 103 = .ok (.bipush 97, 2) := by decide +kernel
theorem dd_X8_next_105 : decode m_X8_next.2.1 105 = .ok (.bipush 122, 2) := by decide +kernel
theorem dd_X8_next_107 : decode m_X8_next.2.1 107 = .ok (.invokevirtual 43, 3) := by decide +kernel
theorem dd_X8_next_110 : decode m_X8_next.2.1 110 = .ok (.putfield 28, 3) := by decide +kernel
theorem dd_X8_next_113 : decode m_X8_next.2.1 113 = .ok (.aload_n 0, 1) := by decide +kernel
theorem dd_X8_next_114 : decode m_X8_next.2.1 114 = .ok (.aload_n 0, 1) := by decide +kernel
theorem dd_X8_next_115 : decode m_X8_next.2.1 115 = .ok (.invokevirtual 53, 3) := by decide +kernel
theorem dd_X8_next_118 : decode m_X8_next.2.1 118 = .ok (.putfield 50, 3) := by decide +kernel
theorem dd_X8_next_121 : decode m_X8_next.2.1 121 = .ok (.aload_n 0, 1) := by decide +kernel
theorem dd_X8_next_122 : decode m_X8_next.2.1 122 = .ok (.iconst 1, 1) := by decide +kernel
theorem dd_X8_next_123 : decode m_X8_next.2.1 123 = .ok (.putfield 31, 3) := by decide +kernel
theorem dd_X8_next_126 : decode m_X8_next.2.1 126 = .ok (.goto 56, 3) := by decide +kernel
theorem dd_X8_next_129 : decode m_X8_next.2.1 129 = .ok (.iload_n 3, 1) := by decide +kernel
theorem dd_X8_next_130 : decode m_X8_next.2.1 130 = .ok (.bipush 48, 2) := by decide +kernel
theorem dd_X8_next_132 : decode m_X8_next.2.1 132 = .ok (.if_icmp .lt 34, 3) := by decide +kernel
theorem dd_X8_next_135 : decode m_X8_next.2.1 135 = .ok (.iload_n 3, 1) := by decide +kernel
theorem dd_X8_next_136 : decode m_X8_next.2.1 136 = .ok (.bipush 57, 2) := by decide +kernel
theorem dd_X8_next_138 : decode m_X8_next.2.1 138 = .ok (.if_icmp .gt 28, 3) := by decide +kernel
theorem dd_X8_next_141 : decode m_X8_next.2.1 141 = .ok (.aload_n 0, 1) := by decide +kernel
theorem dd_X8_next_142 : decode m_X8_next.2.1 142 = .ok (.aload_n 0, 1) := by decide +kernel
theorem dd_X8_next_143 : decode m_X8_next.2.1 143 = .ok (.aload_n 0, 1) := by decide +kernel
theorem dd_X8_next_144 : decode m_X8_next.2.1 144 = .ok (.getfield 47, 3) := by decide +kernel
theorem dd_X8_next_147 : decode m_X8_next.2.1 147 = .ok (.iconst 0, 1) := by decide +kernel
theorem dd_X8_next_148 : decode m_X8_next.2.1 148 = .ok (.bipush 48, 2) := by decide +kernel
theorem dd_X8_next_150 : decode m_X8_next.2.1 150 = .ok (.bipush 57, 2) := by decide +kernel
theorem dd_X8_next_152 : decode m_X8_next.2.1 152 = .ok (.invokevirtual 43, 3) := by decide +kernel
theorem dd_X8_next_155 : decode m_X8_next.2.1 155 = .ok (.putfield 28, 3) := by decide +kernel
theorem dd_X8_next_158 : decode m_X8_next.2.1 158 = .ok (.aload_n 0, 1) := by decide +kernel
theorem dd_X8_next_159 : decode m_X8_next.2.1 159 = .ok (.iconst 2, 1) := by decide +kernel
theorem dd_X8_next_160 : decode m_X8_next.2.1 160 = .ok (.putfield 31, 3) := by decide +kernel
theorem dd_X8_next_163 : decode m_X8_next.2.1 163 = .ok (.goto 19, 3) := by decide +kernel
theorem dd_X8_next_166 : decode m_X8_next.2.1 166 = .ok (.aload_n 0, 1) := by decide +kernel
theorem dd_X8_next_167 : decode m_X8_next.2.1 167 = .ok (.aload_n 0, 1) := by decide +kernel
theorem dd_X8_next_168 : decode m_X8_next.2.1 168 = .ok (.getfield 47, 3) := by decide +kernel
theorem dd_X8_next_171 : decode m_X8_next.2.1 171 = .ok (.iconst 1, 1) := by decide +kernel
theorem dd_X8_next_172 : decode m_X8_next.2.1 172 = .ok (.iadd, 1) := by decide +kernel
theorem dd_X8_next_173 : decode m_X8_next.2.1 173 = .ok (.putfield 28, 3) := by decide +kernel
theorem dd_X8_next_176 : decode m_X8_next.2.1 176 = .ok (.aload_n 0, 1) := by decide +kernel
theorem dd_X8_next_177 : decode m_X8_next.2.1 177 = .ok (.iconst 3, 1) := by decide +kernel
theorem dd_X8_next_178 : decode m_X8_next.2.1 178 = .ok (.putfield 31, 3) := by decide +kernel
theorem dd_X8_next_181 : decode m_X8_next.2.1 181 = .ok (.return_, 1) := by decide +kernel
theorem dd_X8_next_182 : decode m_X8_next.2.1 182 = .ok (.iload_n 1, 1) := by decide +kernel
theorem dd_X8_next_183 : decode m_X8_next.2.1 183 = .ok (.ifCond .eq 16, 3) := by decide +kernel
theorem dd_X8_next_186 : decode m_X8_next.2.1 186 = .ok (.aload_n 0, 1) := by decide +kernel
theorem dd_X8_next_187 : decode m_X8_next.2.1 187 = .ok (.getfield 47, 3) := by decide +kernel
theorem dd_X8_next_190 : decode m_X8_next.2.1 190 = .ok (.iload_n 2, 1) := by decide +kernel
theorem dd_X8_next_191 : decode m_X8_next.2.1 191 = .ok (.if_icmp .ne 8, 3) := by decide +kernel
theorem dd_X8_next_194 : decode m_X8_next.2.1 194 = .ok (.aload_n 0, 1) := by decide +kernel
theorem dd_X8_next_195 : decode m_X8_next.2.1 195 = .ok (.iconst 4, 1) := by decide +kernel
theorem dd_X8_next_196 : decode m_X8_next.2.1 196 = .ok (.putfield 31, 3) := by decide +kernel
theorem dd_X8_next_199 : decode m_X8_next.2.1 199 = .ok (.return_, 1) := by decide +kernel
def nd_X8_next_182   (Q : fz_s → Prop) (v1 : Bool) (v2 : Int32) (s : fz_s) : Prop :=
  ((v1 = false → Q s) ∧ (v1 = true → ((¬ (s.1 4 4) = v2 → Q s) ∧ ((s.1 4 4) = v2 → ∀ s1 : fz_s, s1 = si s 4 3 4 → Q s1))))
def nd_X8_next_166   (Q : fz_s → Prop)  (s : fz_s) : Prop :=
  ∀ s1 : fz_s, s1 = si s 4 2 ((s.1 4 4) + 1) → ∀ s2 : fz_s, s2 = si s1 4 3 3 → Q s2
def nd_X8_next_129   (Q : fz_s → Prop) (v1 : Bool) (v2 : Int32) (v3 : Int32) (s : fz_s) : Prop :=
  ((v3 < 48 → nd_X8_next_166   Q  s) ∧ (¬ v3 < 48 → ((57 < v3 → nd_X8_next_166   Q  s) ∧ (¬ 57 < v3 → wp_X8_runEnd (s.1 4 4) false 48 57 s (fun r1 s2 => ∀ s3 : fz_s, s3 = si s2 4 2 r1 → ∀ s4 : fz_s, s4 = si s3 4 3 2 → nd_X8_next_182   Q v1 v2 s4)))))
def nd_X8_next_21   (Q : fz_s → Prop) (u0 : Bool) (s : fz_s) : Prop :=
  ∀ x1 : Int32, x1 = (s.1 4 2) → wp_X8_runEnd (s.1 4 2) true 32 32 s (fun r2 s3 => ∀ s4 : fz_s, s4 = si s3 4 4 r2 → ∀ s5 : fz_s, s5 = si s4 4 5 (-1) → (((s5.1 4 4) < (s5.1 4 1) → vp_in (s5.1 4 4) 1600 ∧ ∀ x6 : Int32, x6 = (s5.1 3 (s5.1 4 4).toNatClampNeg) → ((x6 < 97 → nd_X8_next_129   Q u0 x1 x6 s5) ∧ (¬ x6 < 97 → ((122 < x6 → nd_X8_next_129   Q u0 x1 x6 s5) ∧ (¬ 122 < x6 → wp_X8_runEnd (s5.1 4 4) false 97 122 s5 (fun r7 s8 => ∀ s9 : fz_s, s9 = si s8 4 2 r7 → wp_X8_wordNumber  s9 (fun r10 s11 => ∀ s12 : fz_s, s12 = si s11 4 5 r10 → ∀ s13 : fz_s, s13 = si s12 4 3 1 → nd_X8_next_182   Q u0 x1 s13))))))) ∧ (¬ (s5.1 4 4) < (s5.1 4 1) → ∀ s14 : fz_s, s14 = si s5 4 2 (s5.1 4 1) → ∀ s15 : fz_s, s15 = si s14 4 3 0 → Q s15)))
def wp_X8_next  (s : fz_s) (Q : fz_s → Prop) : Prop :=
  (((s.1 4 3) = 1 → nd_X8_next_21   Q true s) ∧ (¬ (s.1 4 3) = 1 → ((¬ (s.1 4 3) = 2 → nd_X8_next_21   Q false s) ∧ ((s.1 4 3) = 2 → nd_X8_next_21   Q true s))))
set_option maxRecDepth 100000 in
set_option maxHeartbeats 4000000 in
theorem V_nd_X8_next_182 {g : fz_G} {l : Launch} {d : Nat} (hD : 9 ≤ d)    {Q : fz_s → Prop} {v1 : Bool} {v2 : Int32} {s : fz_s}  (H : nd_X8_next_182   Q v1 v2 s) : fs_V g l m_X8_next d true 182 [.ref 4, .int (bi v1), .int v2, fz_J] [] s (rV Q) := by
  obtain ⟨d, rfl⟩ : ∃ e, d = e + 1 := ⟨d - 1, by omega⟩
  unfold nd_X8_next_182 at H
  refine fs_iload_n (k0 := 1) (i := 1) dd_X8_next_182 rfl rfl ?_
  refine fs_if_eq (tgt := 199) dd_X8_next_183 (by decide) (fun hc => ?_) (fun hc => ?_)
  · replace H := H.1 (bi_0 hc)
    exact fs_vret dd_X8_next_199 rfl H
  · replace H := H.2 (bi_1 hc)
    refine fs_aload_n (k0 := 0) (i := 0) dd_X8_next_186 rfl rfl ?_
    refine fs_geti (ci := 8) (j := 4) dd_X8_next_187 fl_X8_47 ca_4 rfl (Or.inl rfl) ?_
    refine fs_iload_n (k0 := 2) (i := 2) dd_X8_next_190 rfl rfl ?_
    refine fs_icmp_ne (tgt := 199) dd_X8_next_191 (by decide) (fun hc => ?_) (fun hc => ?_)
    · replace H := H.1 hc
      exact fs_vret dd_X8_next_199 rfl H
    · replace H := H.2 hc
      refine fs_aload_n (k0 := 0) (i := 0) dd_X8_next_194 rfl rfl ?_
      refine fs_iconst (n := 4) (v := 4) dd_X8_next_195 (by decide) ?_
      refine fs_puti (ci := 8) (j := 3) dd_X8_next_196 fl_X8_31 (fun _ _ _ h => by cases h; rfl) ca_4 rfl (Or.inl rfl) ?_
      refine fs_tops (fun s1 hs1 => ?_)
      replace H := H s1 hs1
      exact fs_vret dd_X8_next_199 rfl H
set_option maxRecDepth 100000 in
set_option maxHeartbeats 4000000 in
theorem V_nd_X8_next_166 {g : fz_G} {l : Launch} {d : Nat} (hD : 9 ≤ d)    {Q : fz_s → Prop}  {s : fz_s}  (H : nd_X8_next_166   Q  s) : fs_V g l m_X8_next d true 166 [.ref 4, fz_J, fz_J, fz_J] [] s (rV Q) := by
  obtain ⟨d, rfl⟩ : ∃ e, d = e + 1 := ⟨d - 1, by omega⟩
  unfold nd_X8_next_166 at H
  refine fs_aload_n (k0 := 0) (i := 0) dd_X8_next_166 rfl rfl ?_
  refine fs_aload_n (k0 := 0) (i := 0) dd_X8_next_167 rfl rfl ?_
  refine fs_geti (ci := 8) (j := 4) dd_X8_next_168 fl_X8_47 ca_4 rfl (Or.inl rfl) ?_
  refine fs_iconst (n := 1) (v := 1) dd_X8_next_171 (by decide) ?_
  refine fs_iadd dd_X8_next_172 ?_
  refine fs_puti (ci := 8) (j := 2) dd_X8_next_173 fl_X8_28 (fun _ _ _ h => by cases h; rfl) ca_4 rfl (Or.inl rfl) ?_
  refine fs_tops (fun s1 hs1 => ?_)
  replace H := H s1 hs1
  refine fs_aload_n (k0 := 0) (i := 0) dd_X8_next_176 rfl rfl ?_
  refine fs_iconst (n := 3) (v := 3) dd_X8_next_177 (by decide) ?_
  refine fs_puti (ci := 8) (j := 3) dd_X8_next_178 fl_X8_31 (fun _ _ _ h => by cases h; rfl) ca_4 rfl (Or.inl rfl) ?_
  refine fs_tops (fun s2 hs2 => ?_)
  replace H := H s2 hs2
  exact fs_vret dd_X8_next_181 rfl H
set_option maxRecDepth 100000 in
set_option maxHeartbeats 4000000 in
theorem V_nd_X8_next_129 {g : fz_G} {l : Launch} {d : Nat} (hD : 9 ≤ d)    {Q : fz_s → Prop} {v1 : Bool} {v2 : Int32} {v3 : Int32} {s : fz_s}  (H : nd_X8_next_129   Q v1 v2 v3 s) : fs_V g l m_X8_next d true 129 [.ref 4, .int (bi v1), .int v2, .int v3] [] s (rV Q) := by
  obtain ⟨d, rfl⟩ : ∃ e, d = e + 1 := ⟨d - 1, by omega⟩
  unfold nd_X8_next_129 at H
  refine fs_iload_n (k0 := 3) (i := 3) dd_X8_next_129 rfl rfl ?_
  refine fs_bipush (n := 48) (v := 48) dd_X8_next_130 (by decide) ?_
  refine fs_icmp_lt (tgt := 166) dd_X8_next_132 (by decide) (fun hc => ?_) (fun hc => ?_)
  · replace H := H.1 hc
    refine fs_weak (ls2 := [.ref 4, fz_J, fz_J, fz_J]) (fz_le_e (fz_le_j (fz_le_j (fz_le_j fz_le_n)))) ?_
    exact V_nd_X8_next_166 hD    H
  · replace H := H.2 hc
    refine fs_iload_n (k0 := 3) (i := 3) dd_X8_next_135 rfl rfl ?_
    refine fs_bipush (n := 57) (v := 57) dd_X8_next_136 (by decide) ?_
    refine fs_icmp_gt (tgt := 166) dd_X8_next_138 (by decide) (fun hc => ?_) (fun hc => ?_)
    · replace H := H.1 hc
      refine fs_weak (ls2 := [.ref 4, fz_J, fz_J, fz_J]) (fz_le_e (fz_le_j (fz_le_j (fz_le_j fz_le_n)))) ?_
      exact V_nd_X8_next_166 hD    H
    · replace H := H.2 hc
      refine fs_aload_n (k0 := 0) (i := 0) dd_X8_next_141 rfl rfl ?_
      refine fs_aload_n (k0 := 0) (i := 0) dd_X8_next_142 rfl rfl ?_
      refine fs_aload_n (k0 := 0) (i := 0) dd_X8_next_143 rfl rfl ?_
      refine fs_geti (ci := 8) (j := 4) dd_X8_next_144 fl_X8_47 ca_4 rfl (Or.inl rfl) ?_
      refine fs_iconst (n := 0) (v := 0) dd_X8_next_147 (by decide) ?_
      refine fs_bipush (n := 48) (v := 48) dd_X8_next_148 (by decide) ?_
      refine fs_bipush (n := 57) (v := 57) dd_X8_next_150 (by decide) ?_
      refine fs_callV (y := m_X8_runEnd) (as := [.int (s.1 4 4), .int 0, .int 48, .int 57]) dd_X8_next_152 me_X8_runEnd lk_X8_43 in_X8_runEnd se_X8_runEnd ca_4 rfl rfl rfl (Nat.le_of_ble_eq_true rfl) (Nat.le_of_ble_eq_true rfl) rfl (V_X8_runEnd (by omega)  H) (k2_I fun r1 s2 H => ?_)
      refine fs_puti (ci := 8) (j := 2) dd_X8_next_155 fl_X8_28 (fun _ _ _ h => by cases h; rfl) ca_4 rfl (Or.inl rfl) ?_
      refine fs_tops (fun s3 hs3 => ?_)
      replace H := H s3 hs3
      refine fs_aload_n (k0 := 0) (i := 0) dd_X8_next_158 rfl rfl ?_
      refine fs_iconst (n := 2) (v := 2) dd_X8_next_159 (by decide) ?_
      refine fs_puti (ci := 8) (j := 3) dd_X8_next_160 fl_X8_31 (fun _ _ _ h => by cases h; rfl) ca_4 rfl (Or.inl rfl) ?_
      refine fs_tops (fun s4 hs4 => ?_)
      replace H := H s4 hs4
      refine fs_goto (tgt := 182) dd_X8_next_163 (by decide) ?_
      refine fs_weak (ls2 := [.ref 4, .int (bi v1), .int v2, fz_J]) (fz_le_e (fz_le_e (fz_le_e (fz_le_j fz_le_n)))) ?_
      exact V_nd_X8_next_182 hD    H
set_option maxRecDepth 100000 in
set_option maxHeartbeats 4000000 in
theorem V_nd_X8_next_21 {g : fz_G} {l : Launch} {d : Nat} (hD : 9 ≤ d)    {Q : fz_s → Prop} {u0 : Bool} {s : fz_s}  (H : nd_X8_next_21   Q u0 s) : fs_V g l m_X8_next d true 21 [.ref 4, fz_J, fz_J, fz_J] [.int (bi u0)] s (rV Q) := by
  obtain ⟨d, rfl⟩ : ∃ e, d = e + 1 := ⟨d - 1, by omega⟩
  unfold nd_X8_next_21 at H
  refine fs_istore_n (k0 := 1) (i := 1) dd_X8_next_21 rfl (by decide) ?_
  refine fs_aload_n (k0 := 0) (i := 0) dd_X8_next_22 rfl rfl ?_
  refine fs_geti (ci := 8) (j := 2) dd_X8_next_23 fl_X8_28 ca_4 rfl (Or.inl rfl) ?_
  refine fs_topi (fun x1 hx1 => ?_)
  replace H := H x1 hx1
  refine fs_istore_n (k0 := 2) (i := 2) dd_X8_next_26 rfl (by decide) ?_
  refine fs_aload_n (k0 := 0) (i := 0) dd_X8_next_27 rfl rfl ?_
  refine fs_aload_n (k0 := 0) (i := 0) dd_X8_next_28 rfl rfl ?_
  refine fs_aload_n (k0 := 0) (i := 0) dd_X8_next_29 rfl rfl ?_
  refine fs_geti (ci := 8) (j := 2) dd_X8_next_30 fl_X8_28 ca_4 rfl (Or.inl rfl) ?_
  refine fs_iconst (n := 1) (v := 1) dd_X8_next_33 (by decide) ?_
  refine fs_bipush (n := 32) (v := 32) dd_X8_next_34 (by decide) ?_
  refine fs_bipush (n := 32) (v := 32) dd_X8_next_36 (by decide) ?_
  refine fs_callV (y := m_X8_runEnd) (as := [.int (s.1 4 2), .int 1, .int 32, .int 32]) dd_X8_next_38 me_X8_runEnd lk_X8_43 in_X8_runEnd se_X8_runEnd ca_4 rfl rfl rfl (Nat.le_of_ble_eq_true rfl) (Nat.le_of_ble_eq_true rfl) rfl (V_X8_runEnd (by omega)  H) (k2_I fun r2 s3 H => ?_)
  refine fs_puti (ci := 8) (j := 4) dd_X8_next_41 fl_X8_47 (fun _ _ _ h => by cases h; rfl) ca_4 rfl (Or.inl rfl) ?_
  refine fs_tops (fun s4 hs4 => ?_)
  replace H := H s4 hs4
  refine fs_aload_n (k0 := 0) (i := 0) dd_X8_next_44 rfl rfl ?_
  refine fs_iconst (n := -1) (v := -1) dd_X8_next_45 (by decide) ?_
  refine fs_puti (ci := 8) (j := 5) dd_X8_next_46 fl_X8_50 (fun _ _ _ h => by cases h; rfl) ca_4 rfl (Or.inl rfl) ?_
  refine fs_tops (fun s5 hs5 => ?_)
  replace H := H s5 hs5
  refine fs_aload_n (k0 := 0) (i := 0) dd_X8_next_49 rfl rfl ?_
  refine fs_geti (ci := 8) (j := 4) dd_X8_next_50 fl_X8_47 ca_4 rfl (Or.inl rfl) ?_
  refine fs_aload_n (k0 := 0) (i := 0) dd_X8_next_53 rfl rfl ?_
  refine fs_geti (ci := 8) (j := 1) dd_X8_next_54 fl_X8_24 ca_4 rfl (Or.inl rfl) ?_
  refine fs_icmp_lt (tgt := 74) dd_X8_next_57 (by decide) (fun hc => ?_) (fun hc => ?_)
  · replace H := H.1 hc
    refine fs_aload_n (k0 := 0) (i := 0) dd_X8_next_74 rfl rfl ?_
    refine fs_getr (ci := 8) (j := 0) (q := 3) dd_X8_next_75 fl_X8_9 ca_4 rfl (Or.inr ⟨_, rfl⟩) rfl (by decide) ?_
    refine fs_aload_n (k0 := 0) (i := 0) dd_X8_next_78 rfl rfl ?_
    refine fs_geti (ci := 8) (j := 4) dd_X8_next_79 fl_X8_47 ca_4 rfl (Or.inl rfl) ?_
    have hb := H.1
    replace H := H.2
    refine fs_iald dd_X8_next_82 ca_3 hb ?_
    refine fs_topi (fun x6 hx6 => ?_)
    replace H := H x6 hx6
    refine fs_istore_n (k0 := 3) (i := 3) dd_X8_next_83 rfl (by decide) ?_
    refine fs_iload_n (k0 := 3) (i := 3) dd_X8_next_84 rfl rfl ?_
    refine fs_bipush (n := 97) (v := 97) dd_X8_next_85 (by decide) ?_
    refine fs_icmp_lt (tgt := 129) dd_X8_next_87 (by decide) (fun hc => ?_) (fun hc => ?_)
    · replace H := H.1 hc
      refine fs_weak (ls2 := [.ref 4, .int (bi u0), .int x1, .int x6]) (fz_le_e (fz_le_e (fz_le_e (fz_le_e fz_le_n)))) ?_
      exact V_nd_X8_next_129 hD    H
    · replace H := H.2 hc
      refine fs_iload_n (k0 := 3) (i := 3) dd_X8_next_90 rfl rfl ?_
      refine fs_bipush (n := 122) (v := 122) dd_X8_next_91 (by decide) ?_
      refine fs_icmp_gt (tgt := 129) dd_X8_next_93 (by decide) (fun hc => ?_) (fun hc => ?_)
      · replace H := H.1 hc
        refine fs_weak (ls2 := [.ref 4, .int (bi u0), .int x1, .int x6]) (fz_le_e (fz_le_e (fz_le_e (fz_le_e fz_le_n)))) ?_
        exact V_nd_X8_next_129 hD    H
      · replace H := H.2 hc
        refine fs_aload_n (k0 := 0) (i := 0) dd_X8_next_96 rfl rfl ?_
        refine fs_aload_n (k0 := 0) (i := 0) dd_X8_next_97 rfl rfl ?_
        refine fs_aload_n (k0 := 0) (i := 0) dd_X8_next_98 rfl rfl ?_
        refine fs_geti (ci := 8) (j := 4) dd_X8_next_99 fl_X8_47 ca_4 rfl (Or.inl rfl) ?_
        refine fs_iconst (n := 0) (v := 0) dd_X8_next_102 (by decide) ?_
        refine fs_bipush (n := 97) (v := 97) dd_X8_next_103 (by decide) ?_
        refine fs_bipush (n := 122) (v := 122) dd_X8_next_105 (by decide) ?_
        refine fs_callV (y := m_X8_runEnd) (as := [.int (s5.1 4 4), .int 0, .int 97, .int 122]) dd_X8_next_107 me_X8_runEnd lk_X8_43 in_X8_runEnd se_X8_runEnd ca_4 rfl rfl rfl (Nat.le_of_ble_eq_true rfl) (Nat.le_of_ble_eq_true rfl) rfl (V_X8_runEnd (by omega)  H) (k2_I fun r7 s8 H => ?_)
        refine fs_puti (ci := 8) (j := 2) dd_X8_next_110 fl_X8_28 (fun _ _ _ h => by cases h; rfl) ca_4 rfl (Or.inl rfl) ?_
        refine fs_tops (fun s9 hs9 => ?_)
        replace H := H s9 hs9
        refine fs_aload_n (k0 := 0) (i := 0) dd_X8_next_113 rfl rfl ?_
        refine fs_aload_n (k0 := 0) (i := 0) dd_X8_next_114 rfl rfl ?_
        refine fs_callV (y := m_X8_wordNumber) (as := []) dd_X8_next_115 me_X8_wordNumber lk_X8_53 in_X8_wordNumber se_X8_wordNumber ca_4 rfl rfl rfl (Nat.le_of_ble_eq_true rfl) (Nat.le_of_ble_eq_true rfl) rfl (V_X8_wordNumber (by omega)  H) (k2_I fun r10 s11 H => ?_)
        refine fs_puti (ci := 8) (j := 5) dd_X8_next_118 fl_X8_50 (fun _ _ _ h => by cases h; rfl) ca_4 rfl (Or.inl rfl) ?_
        refine fs_tops (fun s12 hs12 => ?_)
        replace H := H s12 hs12
        refine fs_aload_n (k0 := 0) (i := 0) dd_X8_next_121 rfl rfl ?_
        refine fs_iconst (n := 1) (v := 1) dd_X8_next_122 (by decide) ?_
        refine fs_puti (ci := 8) (j := 3) dd_X8_next_123 fl_X8_31 (fun _ _ _ h => by cases h; rfl) ca_4 rfl (Or.inl rfl) ?_
        refine fs_tops (fun s13 hs13 => ?_)
        replace H := H s13 hs13
        refine fs_goto (tgt := 182) dd_X8_next_126 (by decide) ?_
        refine fs_weak (ls2 := [.ref 4, .int (bi u0), .int x1, fz_J]) (fz_le_e (fz_le_e (fz_le_e (fz_le_j fz_le_n)))) ?_
        exact V_nd_X8_next_182 hD    H
  · replace H := H.2 hc
    refine fs_aload_n (k0 := 0) (i := 0) dd_X8_next_60 rfl rfl ?_
    refine fs_aload_n (k0 := 0) (i := 0) dd_X8_next_61 rfl rfl ?_
    refine fs_geti (ci := 8) (j := 1) dd_X8_next_62 fl_X8_24 ca_4 rfl (Or.inl rfl) ?_
    refine fs_puti (ci := 8) (j := 2) dd_X8_next_65 fl_X8_28 (fun _ _ _ h => by cases h; rfl) ca_4 rfl (Or.inl rfl) ?_
    refine fs_tops (fun s14 hs14 => ?_)
    replace H := H s14 hs14
    refine fs_aload_n (k0 := 0) (i := 0) dd_X8_next_68 rfl rfl ?_
    refine fs_iconst (n := 0) (v := 0) dd_X8_next_69 (by decide) ?_
    refine fs_puti (ci := 8) (j := 3) dd_X8_next_70 fl_X8_31 (fun _ _ _ h => by cases h; rfl) ca_4 rfl (Or.inl rfl) ?_
    refine fs_tops (fun s15 hs15 => ?_)
    replace H := H s15 hs15
    exact fs_vret dd_X8_next_73 rfl H
set_option maxRecDepth 100000 in
set_option maxHeartbeats 4000000 in
theorem V_X8_next {g : fz_G} {l : Launch} {d : Nat} (hD : 9 ≤ d)   {s : fz_s} {Q : fz_s → Prop} (H : wp_X8_next  s Q) : fs_V g l m_X8_next d true 0 (fz_en [.ref 4] 4) [] s (rV Q) := by
  obtain ⟨d, rfl⟩ : ∃ e, d = e + 1 := ⟨d - 1, by omega⟩
  unfold wp_X8_next at H
  refine fs_aload_n (k0 := 0) (i := 0) dd_X8_next_0 rfl rfl ?_
  refine fs_geti (ci := 8) (j := 3) dd_X8_next_1 fl_X8_31 ca_4 rfl (Or.inl rfl) ?_
  refine fs_iconst (n := 1) (v := 1) dd_X8_next_4 (by decide) ?_
  refine fs_icmp_eq (tgt := 16) dd_X8_next_5 (by decide) (fun hc => ?_) (fun hc => ?_)
  · replace H := H.1 hc
    refine fs_iconst (n := 1) (v := 1) dd_X8_next_16 (by decide) ?_
    refine fs_goto (tgt := 21) dd_X8_next_17 (by decide) ?_
    refine fs_weak (ls2 := [.ref 4, fz_J, fz_J, fz_J]) (fz_le_e (fz_le_j (fz_le_j (fz_le_j fz_le_n)))) ?_
    exact V_nd_X8_next_21 hD    H
  · replace H := H.2 hc
    refine fs_aload_n (k0 := 0) (i := 0) dd_X8_next_8 rfl rfl ?_
    refine fs_geti (ci := 8) (j := 3) dd_X8_next_9 fl_X8_31 ca_4 rfl (Or.inl rfl) ?_
    refine fs_iconst (n := 2) (v := 2) dd_X8_next_12 (by decide) ?_
    refine fs_icmp_ne (tgt := 20) dd_X8_next_13 (by decide) (fun hc => ?_) (fun hc => ?_)
    · replace H := H.1 hc
      refine fs_iconst (n := 0) (v := 0) dd_X8_next_20 (by decide) ?_
      refine fs_weak (ls2 := [.ref 4, fz_J, fz_J, fz_J]) (fz_le_e (fz_le_j (fz_le_j (fz_le_j fz_le_n)))) ?_
      exact V_nd_X8_next_21 hD    H
    · replace H := H.2 hc
      refine fs_iconst (n := 1) (v := 1) dd_X8_next_16 (by decide) ?_
      refine fs_goto (tgt := 21) dd_X8_next_17 (by decide) ?_
      refine fs_weak (ls2 := [.ref 4, fz_J, fz_J, fz_J]) (fz_le_e (fz_le_j (fz_le_j (fz_le_j fz_le_n)))) ?_
      exact V_nd_X8_next_21 hD    H
theorem dd_X8_open_0 : decode m_X8_open.2.1 0 = .ok (.aload_n 0, 1) := by decide +kernel
theorem dd_X8_open_1 : decode m_X8_open.2.1 1 = .ok (.iconst 0, 1) := by decide +kernel
theorem dd_X8_open_2 : decode m_X8_open.2.1 2 = .ok (.iload_n 1, 1) := by decide +kernel
theorem dd_X8_open_3 : decode m_X8_open.2.1 3 = .ok (.aload_n 0, 1) := by decide +kernel
theorem dd_X8_open_4 : decode m_X8_open.2.1 4 = .ok (.getfield 9, 3) := by decide +kernel
theorem dd_X8_open_7 : decode m_X8_open.2.1 7 = .ok (.arraylength, 1) := by decide +kernel
theorem dd_X8_open_8 : decode m_X8_open.2.1 8 = .ok (.invokestatic 15, 3) := by decide +kernel
theorem dd_X8_open_11 : decode m_X8_open.2.1 11 = .ok (.invokestatic 21, 3) := by decide +kernel
theorem dd_X8_open_14 : decode m_X8_open.2.1 14 = .ok (.putfield 24, 3) := by decide +kernel
theorem dd_X8_open_17 : decode m_X8_open.2.1 17 = .ok (.aload_n 0, 1) := by decide +kernel
theorem dd_X8_open_18 : decode m_X8_open.2.1 18 = .ok (.iconst 0, 1) := by decide +kernel
theorem dd_X8_open_19 : decode m_X8_open.2.1 19 = .ok (.putfield 28, 3) := by decide +kernel
theorem dd_X8_open_22 : decode m_X8_open.2.1 22 = .ok (.aload_n 0, 1) := by decide +kernel
theorem dd_X8_open_23 : decode m_X8_open.2.1 23 = .ok (.iconst 3, 1) := by decide +kernel
theorem dd_X8_open_24 : decode m_X8_open.2.1 24 = .ok (.putfield 31, 3) := by decide +kernel
theorem dd_X8_open_27 : decode m_X8_open.2.1 27 = .ok (.aload_n 0, 1) := by decide +kernel
theorem dd_X8_open_28 : decode m_X8_open.2.1 28 = .ok (.iconst 0, 1) := by decide +kernel
theorem dd_X8_open_29 : decode m_X8_open.2.1 29 = .ok (.putfield 34, 3) := by decide +kernel
theorem dd_X8_open_32 : decode m_X8_open.2.1 32 = .ok (.aload_n 0, 1) := by decide +kernel
theorem dd_X8_open_33 : decode m_X8_open.2.1 33 = .ok (.iconst (-1), 1) := by decide +kernel
theorem dd_X8_open_34 : decode m_X8_open.2.1 34 = .ok (.putfield 37, 3) := by decide +kernel
theorem dd_X8_open_37 : decode m_X8_open.2.1 37 = .ok (.aload_n 0, 1) := by decide +kernel
theorem dd_X8_open_38 : decode m_X8_open.2.1 38 = .ok (.invokevirtual 40, 3) := by decide +kernel
theorem dd_X8_open_41 : decode m_X8_open.2.1 41 = .ok (.return_, 1) := by decide +kernel
def wp_X8_open (p0 : Int32) (s : fz_s) (Q : fz_s → Prop) : Prop :=
  ∀ s1 : fz_s, s1 = si s 4 1 (if 0 < (if (nI 1600) < p0 then (nI 1600) else p0) then (if (nI 1600) < p0 then (nI 1600) else p0) else 0) → ∀ s2 : fz_s, s2 = si s1 4 2 0 → ∀ s3 : fz_s, s3 = si s2 4 3 3 → ∀ s4 : fz_s, s4 = si s3 4 7 0 → ∀ s5 : fz_s, s5 = si s4 4 8 (-1) → wp_X8_next  s5 (fun s7 => Q s7)
set_option maxRecDepth 100000 in
set_option maxHeartbeats 4000000 in
theorem V_X8_open {g : fz_G} {l : Launch} {d : Nat} (hD : 10 ≤ d) {p0 : Int32}  {s : fz_s} {Q : fz_s → Prop} (H : wp_X8_open p0 s Q) : fs_V g l m_X8_open d true 0 (fz_en [.ref 4, .int p0] 2) [] s (rV Q) := by
  obtain ⟨d, rfl⟩ : ∃ e, d = e + 1 := ⟨d - 1, by omega⟩
  unfold wp_X8_open at H
  refine fs_aload_n (k0 := 0) (i := 0) dd_X8_open_0 rfl rfl ?_
  refine fs_iconst (n := 0) (v := 0) dd_X8_open_1 (by decide) ?_
  refine fs_iload_n (k0 := 1) (i := 1) dd_X8_open_2 rfl rfl ?_
  refine fs_aload_n (k0 := 0) (i := 0) dd_X8_open_3 rfl rfl ?_
  refine fs_getr (ci := 8) (j := 0) (q := 3) dd_X8_open_4 fl_X8_9 ca_4 rfl (Or.inr ⟨_, rfl⟩) rfl (by decide) ?_
  refine fs_alen dd_X8_open_7 ca_3 ?_
  refine fs_mmin dd_X8_open_8 lk_X8_15 (Nat.le_of_ble_eq_true rfl) ?_
  refine fs_mmax dd_X8_open_11 lk_X8_21 (Nat.le_of_ble_eq_true rfl) ?_
  refine fs_puti (ci := 8) (j := 1) dd_X8_open_14 fl_X8_24 (fun _ _ _ h => by cases h; rfl) ca_4 rfl (Or.inl rfl) ?_
  refine fs_tops (fun s1 hs1 => ?_)
  replace H := H s1 hs1
  refine fs_aload_n (k0 := 0) (i := 0) dd_X8_open_17 rfl rfl ?_
  refine fs_iconst (n := 0) (v := 0) dd_X8_open_18 (by decide) ?_
  refine fs_puti (ci := 8) (j := 2) dd_X8_open_19 fl_X8_28 (fun _ _ _ h => by cases h; rfl) ca_4 rfl (Or.inl rfl) ?_
  refine fs_tops (fun s2 hs2 => ?_)
  replace H := H s2 hs2
  refine fs_aload_n (k0 := 0) (i := 0) dd_X8_open_22 rfl rfl ?_
  refine fs_iconst (n := 3) (v := 3) dd_X8_open_23 (by decide) ?_
  refine fs_puti (ci := 8) (j := 3) dd_X8_open_24 fl_X8_31 (fun _ _ _ h => by cases h; rfl) ca_4 rfl (Or.inl rfl) ?_
  refine fs_tops (fun s3 hs3 => ?_)
  replace H := H s3 hs3
  refine fs_aload_n (k0 := 0) (i := 0) dd_X8_open_27 rfl rfl ?_
  refine fs_iconst (n := 0) (v := 0) dd_X8_open_28 (by decide) ?_
  refine fs_puti (ci := 8) (j := 7) dd_X8_open_29 fl_X8_34 (fun _ _ _ h => by cases h; rfl) ca_4 rfl (Or.inl rfl) ?_
  refine fs_tops (fun s4 hs4 => ?_)
  replace H := H s4 hs4
  refine fs_aload_n (k0 := 0) (i := 0) dd_X8_open_32 rfl rfl ?_
  refine fs_iconst (n := -1) (v := -1) dd_X8_open_33 (by decide) ?_
  refine fs_puti (ci := 8) (j := 8) dd_X8_open_34 fl_X8_37 (fun _ _ _ h => by cases h; rfl) ca_4 rfl (Or.inl rfl) ?_
  refine fs_tops (fun s5 hs5 => ?_)
  replace H := H s5 hs5
  refine fs_aload_n (k0 := 0) (i := 0) dd_X8_open_37 rfl rfl ?_
  refine fs_callV (y := m_X8_next) (as := []) dd_X8_open_38 me_X8_next lk_X8_40 in_X8_next se_X8_next ca_4 rfl rfl rfl (Nat.le_of_ble_eq_true rfl) (Nat.le_of_ble_eq_true rfl) rfl (V_X8_next (by omega)  H) (k2_V fun s7 H => ?_)
  exact fs_vret dd_X8_open_41 rfl H
theorem dd_X9_beginRule_0 : decode m_X9_beginRule.2.1 0 = .ok (.aload_n 0, 1) := by decide +kernel
theorem dd_X9_beginRule_1 : decode m_X9_beginRule.2.1 1 = .ok (.getfield 36, 3) := by decide +kernel
theorem dd_X9_beginRule_4 : decode m_X9_beginRule.2.1 4 = .ok (.iload_n 3, 1) := by decide +kernel
theorem dd_X9_beginRule_5 : decode m_X9_beginRule.2.1 5 = .ok (.iaload, 1) := by decide +kernel
theorem dd_X9_beginRule_6 : decode m_X9_beginRule.2.1 6 = .ok (.iconst (-1), 1) := by decide +kernel
theorem dd_X9_beginRule_7 : decode m_X9_beginRule.2.1 7 = .ok (.if_icmp .eq 13, 3) := by decide +kernel
theorem dd_X9_beginRule_10 : decode m_X9_beginRule.2.1 10 = .ok (.aload_n 1, 1) := by decide +kernel
theorem dd_X9_beginRule_11 : decode m_X9_beginRule.2.1 11 = .ok (.iconst 5, 1) := by decide +kernel
theorem dd_X9_beginRule_12 : decode m_X9_beginRule.2.1 12 = .ok (.aload_n 1, 1) := by decide +kernel
theorem dd_X9_beginRule_13 : decode m_X9_beginRule.2.1 13 = .ok (.getfield 79, 3) := by decide +kernel
theorem dd_X9_beginRule_16 : decode m_X9_beginRule.2.1 16 = .ok (.invokevirtual 82, 3) := by decide +kernel
theorem dd_X9_beginRule_19 : decode m_X9_beginRule.2.1 19 = .ok (.ireturn, 1) := by decide +kernel
theorem dd_X9_beginRule_20 : decode m_X9_beginRule.2.1 20 = .ok (.aload_n 1, 1) := by decide +kernel
theorem dd_X9_beginRule_21 : decode m_X9_beginRule.2.1 21 = .ok (.invokevirtual 130, 3) := by decide +kernel
theorem dd_X9_beginRule_24 : decode m_X9_beginRule.2.1 24 = .ok (.aload_n 2, 1) := by decide +kernel
theorem dd_X9_beginRule_25 : decode m_X9_beginRule.2.1 25 = .ok (.aload_n 0, 1) := by decide +kernel
theorem dd_X9_beginRule_26 : decode m_X9_beginRule.2.1 26 = .ok (.getfield 33, 3) := by decide +kernel
theorem dd_X9_beginRule_29 : decode m_X9_beginRule.2.1 29 = .ok (.aload_n 0, 1) := by decide +kernel
theorem dd_X9_beginRule_30 : decode m_X9_beginRule.2.1 30 = .ok (.getfield 48, 3) := by decide +kernel
theorem dd_X9_beginRule_33 : decode m_X9_beginRule.2.1 33 = .ok (.iload_n 3, 1) := by decide +kernel
theorem dd_X9_beginRule_34 : decode m_X9_beginRule.2.1 34 = .ok (.iconst 3, 1) := by decide +kernel
theorem dd_X9_beginRule_35 : decode m_X9_beginRule.2.1 35 = .ok (.if_icmp .ne 9, 3) := by decide +kernel
theorem dd_X9_beginRule_38 : decode m_X9_beginRule.2.1 38 = .ok (.sipush 135, 3) := by decide +kernel
theorem dd_X9_beginRule_41 : decode m_X9_beginRule.2.1 41 = .ok (.goto 5, 3) := by decide +kernel
theorem dd_X9_beginRule_44 : decode m_X9_beginRule.2.1 44 = .ok (.bipush 127, 2) := by decide +kernel
theorem dd_X9_beginRule_46 : decode m_X9_beginRule.2.1 46 = .ok (.iconst 0, 1) := by decide +kernel
theorem dd_X9_beginRule_47 : decode m_X9_beginRule.2.1 47 = .ok (.invokevirtual 153, 3) := by decide +kernel
theorem dd_X9_beginRule_50 : decode m_X9_beginRule.2.1 50 = .ok (.iconst 1, 1) := by decide +kernel
theorem dd_X9_beginRule_51 : decode m_X9_beginRule.2.1 51 = .ok (.ireturn, 1) := by decide +kernel
def nd_X9_beginRule_17_46   (Q : Bool → fz_s → Prop) (u0 : Int32) (u1 : Int32) (s : fz_s) : Prop :=
  wp_X2_begin 25 1632 u1 u0 false s (fun s2 => Q true s2)
def wp_X9_beginRule_17 (p2 : Int32) (s : fz_s) (Q : Bool → fz_s → Prop) : Prop :=
  vp_in p2 5 ∧ (((s.1 26 p2.toNatClampNeg) = (-1) → wp_X8_next  s (fun s2 => ((¬ p2 = 3 → nd_X9_beginRule_17_46   Q 127 (s2.1 17 10) s2) ∧ (p2 = 3 → nd_X9_beginRule_17_46   Q 135 (s2.1 17 10) s2)))) ∧ (¬ (s.1 26 p2.toNatClampNeg) = (-1) → wp_X8_fail 5 (s.1 4 4) s (fun r3 s4 => Q r3 s4)))
set_option maxRecDepth 100000 in
set_option maxHeartbeats 4000000 in
theorem V_nd_X9_beginRule_17_46 {g : fz_G} {l : Launch} {d : Nat} (hD : 10 ≤ d)    {Q : Bool → fz_s → Prop} {u0 : Int32} {u1 : Int32} {s : fz_s}  (H : nd_X9_beginRule_17_46   Q u0 u1 s) : fs_V g l m_X9_beginRule d true 46 [fz_J, fz_J, fz_J, fz_J] [.int u0, .int u1, .ref 25, .ref 5] s (rZ Q) := by
  obtain ⟨d, rfl⟩ : ∃ e, d = e + 1 := ⟨d - 1, by omega⟩
  unfold nd_X9_beginRule_17_46 at H
  refine fs_iconst (n := 0) (v := 0) dd_X9_beginRule_46 (by decide) ?_
  refine fs_callV (y := m_X2_begin) (as := [.ref 25, .int u1, .int u0, .int 0]) dd_X9_beginRule_47 me_X2_begin lk_X9_153 in_X2_begin se_X2_begin ca_5 rfl rfl rfl (Nat.le_of_ble_eq_true rfl) (Nat.le_of_ble_eq_true rfl) rfl (V_X2_begin (by omega) ca_25 H) (k2_V fun s2 H => ?_)
  refine fs_iconst (n := 1) (v := 1) dd_X9_beginRule_50 (by decide) ?_
  exact fs_zret true dd_X9_beginRule_51 rfl rfl H
set_option maxRecDepth 100000 in
set_option maxHeartbeats 4000000 in
theorem V_X9_beginRule_17 {g : fz_G} {l : Launch} {d : Nat} (hD : 10 ≤ d) {p2 : Int32}  {s : fz_s} {Q : Bool → fz_s → Prop} (H : wp_X9_beginRule_17 p2 s Q) : fs_V g l m_X9_beginRule d true 0 (fz_en [.ref 17, .ref 4, .ref 5, .int p2] 4) [] s (rZ Q) := by
  obtain ⟨d, rfl⟩ : ∃ e, d = e + 1 := ⟨d - 1, by omega⟩
  unfold wp_X9_beginRule_17 at H
  refine fs_aload_n (k0 := 0) (i := 0) dd_X9_beginRule_0 rfl rfl ?_
  refine fs_getr (ci := 9) (j := 8) (q := 26) dd_X9_beginRule_1 fl_X9_36 ca_17 rfl (Or.inr ⟨_, rfl⟩) rfl (by decide) ?_
  refine fs_iload_n (k0 := 3) (i := 3) dd_X9_beginRule_4 rfl rfl ?_
  have hb := H.1
  replace H := H.2
  refine fs_iald dd_X9_beginRule_5 ca_26 hb ?_
  refine fs_iconst (n := -1) (v := -1) dd_X9_beginRule_6 (by decide) ?_
  refine fs_icmp_eq (tgt := 20) dd_X9_beginRule_7 (by decide) (fun hc => ?_) (fun hc => ?_)
  · replace H := H.1 hc
    refine fs_aload_n (k0 := 1) (i := 1) dd_X9_beginRule_20 rfl rfl ?_
    refine fs_callV (y := m_X8_next) (as := []) dd_X9_beginRule_21 me_X8_next lk_X9_130 in_X8_next se_X8_next ca_4 rfl rfl rfl (Nat.le_of_ble_eq_true rfl) (Nat.le_of_ble_eq_true rfl) rfl (V_X8_next (by omega)  H) (k2_V fun s2 H => ?_)
    refine fs_aload_n (k0 := 2) (i := 2) dd_X9_beginRule_24 rfl rfl ?_
    refine fs_aload_n (k0 := 0) (i := 0) dd_X9_beginRule_25 rfl rfl ?_
    refine fs_getr (ci := 9) (j := 7) (q := 25) dd_X9_beginRule_26 fl_X9_33 ca_17 rfl (Or.inr ⟨_, rfl⟩) rfl (by decide) ?_
    refine fs_aload_n (k0 := 0) (i := 0) dd_X9_beginRule_29 rfl rfl ?_
    refine fs_geti (ci := 9) (j := 10) dd_X9_beginRule_30 fl_X9_48 ca_17 rfl (Or.inl rfl) ?_
    refine fs_iload_n (k0 := 3) (i := 3) dd_X9_beginRule_33 rfl rfl ?_
    refine fs_iconst (n := 3) (v := 3) dd_X9_beginRule_34 (by decide) ?_
    refine fs_icmp_ne (tgt := 44) dd_X9_beginRule_35 (by decide) (fun hc => ?_) (fun hc => ?_)
    · replace H := H.1 hc
      refine fs_bipush (n := 127) (v := 127) dd_X9_beginRule_44 (by decide) ?_
      refine fs_weak (ls2 := [fz_J, fz_J, fz_J, fz_J]) (fz_le_j (fz_le_j (fz_le_j (fz_le_j fz_le_n)))) ?_
      exact V_nd_X9_beginRule_17_46 hD    H
    · replace H := H.2 hc
      refine fs_sipush (n := 135) (v := 135) dd_X9_beginRule_38 (by decide) ?_
      refine fs_goto (tgt := 46) dd_X9_beginRule_41 (by decide) ?_
      refine fs_weak (ls2 := [fz_J, fz_J, fz_J, fz_J]) (fz_le_j (fz_le_j (fz_le_j (fz_le_j fz_le_n)))) ?_
      exact V_nd_X9_beginRule_17_46 hD    H
  · replace H := H.2 hc
    refine fs_aload_n (k0 := 1) (i := 1) dd_X9_beginRule_10 rfl rfl ?_
    refine fs_iconst (n := 5) (v := 5) dd_X9_beginRule_11 (by decide) ?_
    refine fs_aload_n (k0 := 1) (i := 1) dd_X9_beginRule_12 rfl rfl ?_
    refine fs_geti (ci := 8) (j := 4) dd_X9_beginRule_13 fl_X9_79 ca_4 rfl (Or.inl rfl) ?_
    refine fs_callV (y := m_X8_fail) (as := [.int 5, .int (s.1 4 4)]) dd_X9_beginRule_16 me_X8_fail lk_X9_82 in_X8_fail se_X8_fail ca_4 rfl rfl rfl (Nat.le_of_ble_eq_true rfl) (Nat.le_of_ble_eq_true rfl) rfl (V_X8_fail (by omega)  H) (k2_Z fun r3 s4 H => ?_)
    exact fs_zret r3 dd_X9_beginRule_19 rfl rfl H
theorem dd_X2_readTest_0 : decode m_X2_readTest.2.1 0 = .ok (.aload_n 0, 1) := by decide +kernel
theorem dd_X2_readTest_1 : decode m_X2_readTest.2.1 1 = .ok (.iload_n 1, 1) := by decide +kernel
theorem dd_X2_readTest_2 : decode m_X2_readTest.2.1 2 = .ok (.invokevirtual 34, 3) := by decide +kernel
theorem dd_X2_readTest_5 : decode m_X2_readTest.2.1 5 = .ok (.istore_n 2, 1) := by decide +kernel
theorem dd_X2_readTest_6 : decode m_X2_readTest.2.1 6 = .ok (.iconst 0, 1) := by decide +kernel
theorem dd_X2_readTest_7 : decode m_X2_readTest.2.1 7 = .ok (.istore_n 3, 1) := by decide +kernel
theorem dd_X2_readTest_8 : decode m_X2_readTest.2.1 8 = .ok (.iload_n 3, 1) := by decide +kernel
theorem dd_X2_readTest_9 : decode m_X2_readTest.2.1 9 = .ok (.sipush 1600, 3) := by decide +kernel
theorem dd_X2_readTest_12 : decode m_X2_readTest.2.1 12 = .ok (.if_icmp .ge 56, 3) := by decide +kernel
theorem dd_X2_readTest_15 : decode m_X2_readTest.2.1 15 = .ok (.iload_n 2, 1) := by decide +kernel
theorem dd_X2_readTest_16 : decode m_X2_readTest.2.1 16 = .ok (.ifCond .eq 52, 3) := by decide +kernel
theorem dd_X2_readTest_19 : decode m_X2_readTest.2.1 19 = .ok (.aload_n 0, 1) := by decide +kernel
theorem dd_X2_readTest_20 : decode m_X2_readTest.2.1 20 = .ok (.getfield 9, 3) := by decide +kernel
theorem dd_X2_readTest_23 : decode m_X2_readTest.2.1 23 = .ok (.bipush 20, 2) := by decide +kernel
theorem dd_X2_readTest_25 : decode m_X2_readTest.2.1 25 = .ok (.invokevirtual 38, 3) := by decide +kernel
theorem dd_X2_readTest_28 : decode m_X2_readTest.2.1 28 = .ok (.ifCond .eq 40, 3) := by decide +kernel
theorem dd_X2_readTest_31 : decode m_X2_readTest.2.1 31 = .ok (.aload_n 0, 1) := by decide +kernel
theorem dd_X2_readTest_32 : decode m_X2_readTest.2.1 32 = .ok (.getfield 9, 3) := by decide +kernel
theorem dd_X2_readTest_35 : decode m_X2_readTest.2.1 35 = .ok (.invokevirtual 43, 3) := by decide +kernel
theorem dd_X2_readTest_38 : decode m_X2_readTest.2.1 38 = .ok (.aload_n 0, 1) := by decide +kernel
theorem dd_X2_readTest_39 : decode m_X2_readTest.2.1 39 = .ok (.iload_n 1, 1) := by decide +kernel
theorem dd_X2_readTest_40 : decode m_X2_readTest.2.1 40 = .ok (.invokevirtual 34, 3) := by decide +kernel
theorem dd_X2_readTest_43 : decode m_X2_readTest.2.1 43 = .ok (.ifCond .eq 17, 3) := by decide +kernel
theorem dd_X2_readTest_46 : decode m_X2_readTest.2.1 46 = .ok (.aload_n 0, 1) := by decide +kernel
theorem dd_X2_readTest_47 : decode m_X2_readTest.2.1 47 = .ok (.sipush 20013, 3) := by decide +kernel
theorem dd_X2_readTest_50 : decode m_X2_readTest.2.1 50 = .ok (.invokevirtual 46, 3) := by decide +kernel
theorem dd_X2_readTest_53 : decode m_X2_readTest.2.1 53 = .ok (.ifCond .eq 7, 3) := by decide +kernel
theorem dd_X2_readTest_56 : decode m_X2_readTest.2.1 56 = .ok (.iconst 1, 1) := by decide +kernel
theorem dd_X2_readTest_57 : decode m_X2_readTest.2.1 57 = .ok (.goto 4, 3) := by decide +kernel
theorem dd_X2_readTest_60 : decode m_X2_readTest.2.1 60 = .ok (.iconst 0, 1) := by decide +kernel
theorem dd_X2_readTest_61 : decode m_X2_readTest.2.1 61 = .ok (.istore_n 2, 1) := by decide +kernel
theorem dd_X2_readTest_62 : decode m_X2_readTest.2.1 62 = .ok (.iinc 3 1, 3) := by decide +kernel
theorem dd_X2_readTest_65 : decode m_X2_readTest.2.1 65 = .ok (.goto (-57), 3) := by decide +kernel
theorem dd_X2_readTest_68 : decode m_X2_readTest.2.1 68 = .ok (.iload_n 2, 1) := by decide +kernel
theorem dd_X2_readTest_69 : decode m_X2_readTest.2.1 69 = .ok (.ireturn, 1) := by decide +kernel
def nd_X2_readTest_8 (R : Nat → Int32 → fz_s → (Bool → fz_s → Prop) → Prop)  (K8 : Int32 → Bool → Int32 → fz_s → Prop) (Q : Bool → fz_s → Prop) (v1 : Int32) (v2 : Bool) (v3 : Int32) (s : fz_s) : Prop :=
  ((1600 ≤ v3 → Q v2 s) ∧ (¬ 1600 ≤ v3 → ((v2 = false → Q v2 s) ∧ (v2 = true → wp_X8_isWord 20 s (fun r1 s2 => ((r1 = false → Q v2 s2) ∧ (r1 = true → wp_X8_next  s2 (fun s4 => R 1 v1 s4 (fun r5 s6 => ((r5 = false → ∀ x7 : Int32, x7 = v3 + 1 → K8 v1 false x7 s6) ∧ (r5 = true → wp_X2_done 20013 s6 (fun r8 s9 => ((r8 = false → ∀ x10 : Int32, x10 = v3 + 1 → K8 v1 false x10 s9) ∧ (r8 = true → ∀ x11 : Int32, x11 = v3 + 1 → K8 v1 true x11 s9))))))))))))))
def lp_X2_readTest_8 (R : Nat → Int32 → fz_s → (Bool → fz_s → Prop) → Prop)   (Q : Bool → fz_s → Prop) : Nat → Int32 → Bool → Int32 → fz_s → Prop
  | 0 => fun _ _ _ _ => False
  | n + 1 => nd_X2_readTest_8 R  (lp_X2_readTest_8 R   Q n) Q
def wp_X2_readTest (R : Nat → Int32 → fz_s → (Bool → fz_s → Prop) → Prop) (p0 : Int32) (s : fz_s) (Q : Bool → fz_s → Prop) : Prop :=
  R 1 p0 s (fun r1 s2 => lp_X2_readTest_8 R   Q 2048 p0 r1 0 s2)
set_option maxRecDepth 100000 in
set_option maxHeartbeats 4000000 in
theorem V_nd_X2_readTest_8 {g : fz_G} {l : Launch} {R : Nat → Int32 → fz_s → (Bool → fz_s → Prop) → Prop} {m0 : Nat} {d : Nat} (hD : m0 + 1 ≤ d) (hm : 10 ≤ m0) (hR : OR g l m0 R)   {K8 : Int32 → Bool → Int32 → fz_s → Prop} {Q : Bool → fz_s → Prop} {v1 : Int32} {v2 : Bool} {v3 : Int32} {s : fz_s} (hK8 : ∀ {v1 : Int32} {v2 : Bool} {v3 : Int32} {s : fz_s}, K8 v1 v2 v3 s → fs_V g l m_X2_readTest d true 8 [.ref 5, .int v1, .int (bi v2), .int v3] [] s (rZ Q)) (H : nd_X2_readTest_8 R  K8 Q v1 v2 v3 s) : fs_V g l m_X2_readTest d true 8 [.ref 5, .int v1, .int (bi v2), .int v3] [] s (rZ Q) := by
  obtain ⟨d, rfl⟩ : ∃ e, d = e + 1 := ⟨d - 1, by omega⟩
  unfold nd_X2_readTest_8 at H
  refine fs_iload_n (k0 := 3) (i := 3) dd_X2_readTest_8 rfl rfl ?_
  refine fs_sipush (n := 1600) (v := 1600) dd_X2_readTest_9 (by decide) ?_
  refine fs_icmp_ge (tgt := 68) dd_X2_readTest_12 (by decide) (fun hc => ?_) (fun hc => ?_)
  · replace H := H.1 hc
    refine fs_iload_n (k0 := 2) (i := 2) dd_X2_readTest_68 rfl rfl ?_
    exact fs_zret v2 dd_X2_readTest_69 rfl rfl H
  · replace H := H.2 hc
    refine fs_iload_n (k0 := 2) (i := 2) dd_X2_readTest_15 rfl rfl ?_
    refine fs_if_eq (tgt := 68) dd_X2_readTest_16 (by decide) (fun hc => ?_) (fun hc => ?_)
    · replace H := H.1 (bi_0 hc)
      refine fs_iload_n (k0 := 2) (i := 2) dd_X2_readTest_68 rfl rfl ?_
      exact fs_zret v2 dd_X2_readTest_69 rfl rfl H
    · replace H := H.2 (bi_1 hc)
      refine fs_aload_n (k0 := 0) (i := 0) dd_X2_readTest_19 rfl rfl ?_
      refine fs_getr (ci := 2) (j := 0) (q := 4) dd_X2_readTest_20 fl_X2_9 ca_5 rfl (Or.inl ⟨_, rfl⟩) rfl (by decide) ?_
      refine fs_bipush (n := 20) (v := 20) dd_X2_readTest_23 (by decide) ?_
      refine fs_callV (y := m_X8_isWord) (as := [.int 20]) dd_X2_readTest_25 me_X8_isWord lk_X2_38 in_X8_isWord se_X8_isWord ca_4 rfl rfl rfl (Nat.le_of_ble_eq_true rfl) (Nat.le_of_ble_eq_true rfl) rfl (V_X8_isWord (by omega)  H) (k2_Z fun r1 s2 H => ?_)
      refine fs_if_eq (tgt := 68) dd_X2_readTest_28 (by decide) (fun hc => ?_) (fun hc => ?_)
      · replace H := H.1 (bi_0 hc)
        refine fs_iload_n (k0 := 2) (i := 2) dd_X2_readTest_68 rfl rfl ?_
        exact fs_zret v2 dd_X2_readTest_69 rfl rfl H
      · replace H := H.2 (bi_1 hc)
        refine fs_aload_n (k0 := 0) (i := 0) dd_X2_readTest_31 rfl rfl ?_
        refine fs_getr (ci := 2) (j := 0) (q := 4) dd_X2_readTest_32 fl_X2_9 ca_5 rfl (Or.inl ⟨_, rfl⟩) rfl (by decide) ?_
        refine fs_callV (y := m_X8_next) (as := []) dd_X2_readTest_35 me_X8_next lk_X2_43 in_X8_next se_X8_next ca_4 rfl rfl rfl (Nat.le_of_ble_eq_true rfl) (Nat.le_of_ble_eq_true rfl) rfl (V_X8_next (by omega)  H) (k2_V fun s4 H => ?_)
        refine fs_aload_n (k0 := 0) (i := 0) dd_X2_readTest_38 rfl rfl ?_
        refine fs_iload_n (k0 := 1) (i := 1) dd_X2_readTest_39 rfl rfl ?_
        refine fs_callV (y := m_X2_both) (as := [.int v1]) dd_X2_readTest_40 me_X2_both lk_X2_34 in_X2_both se_X2_both ca_5 rfl rfl rfl (Nat.le_of_ble_eq_true rfl) (Nat.le_of_ble_eq_true rfl) rfl (hR 1 _ (by omega) _ _ _ H) (k2_Z fun r5 s6 H => ?_)
        refine fs_if_eq (tgt := 60) dd_X2_readTest_43 (by decide) (fun hc => ?_) (fun hc => ?_)
        · replace H := H.1 (bi_0 hc)
          refine fs_iconst (n := 0) (v := 0) dd_X2_readTest_60 (by decide) ?_
          refine fs_istore_n (k0 := 2) (i := 2) dd_X2_readTest_61 rfl (by decide) ?_
          refine fs_iincN (i := 3) (m := 1) (c := 1) dd_X2_readTest_62 rfl (by decide) (by decide) (fun x7 hx7 => ?_)
          replace H := H x7 hx7
          refine fs_goto (tgt := 8) dd_X2_readTest_65 (by decide) ?_
          refine fs_weak (ls2 := [.ref 5, .int v1, .int (bi false), .int x7]) (fz_le_e (fz_le_e (fz_le_e (fz_le_e fz_le_n)))) ?_
          exact hK8 H
        · replace H := H.2 (bi_1 hc)
          refine fs_aload_n (k0 := 0) (i := 0) dd_X2_readTest_46 rfl rfl ?_
          refine fs_sipush (n := 20013) (v := 20013) dd_X2_readTest_47 (by decide) ?_
          refine fs_callV (y := m_X2_done) (as := [.int 20013]) dd_X2_readTest_50 me_X2_done lk_X2_46 in_X2_done se_X2_done ca_5 rfl rfl rfl (Nat.le_of_ble_eq_true rfl) (Nat.le_of_ble_eq_true rfl) rfl (V_X2_done (by omega)  H) (k2_Z fun r8 s9 H => ?_)
          refine fs_if_eq (tgt := 60) dd_X2_readTest_53 (by decide) (fun hc => ?_) (fun hc => ?_)
          · replace H := H.1 (bi_0 hc)
            refine fs_iconst (n := 0) (v := 0) dd_X2_readTest_60 (by decide) ?_
            refine fs_istore_n (k0 := 2) (i := 2) dd_X2_readTest_61 rfl (by decide) ?_
            refine fs_iincN (i := 3) (m := 1) (c := 1) dd_X2_readTest_62 rfl (by decide) (by decide) (fun x10 hx10 => ?_)
            replace H := H x10 hx10
            refine fs_goto (tgt := 8) dd_X2_readTest_65 (by decide) ?_
            refine fs_weak (ls2 := [.ref 5, .int v1, .int (bi false), .int x10]) (fz_le_e (fz_le_e (fz_le_e (fz_le_e fz_le_n)))) ?_
            exact hK8 H
          · replace H := H.2 (bi_1 hc)
            refine fs_iconst (n := 1) (v := 1) dd_X2_readTest_56 (by decide) ?_
            refine fs_goto (tgt := 61) dd_X2_readTest_57 (by decide) ?_
            refine fs_istore_n (k0 := 2) (i := 2) dd_X2_readTest_61 rfl (by decide) ?_
            refine fs_iincN (i := 3) (m := 1) (c := 1) dd_X2_readTest_62 rfl (by decide) (by decide) (fun x11 hx11 => ?_)
            replace H := H x11 hx11
            refine fs_goto (tgt := 8) dd_X2_readTest_65 (by decide) ?_
            refine fs_weak (ls2 := [.ref 5, .int v1, .int (bi true), .int x11]) (fz_le_e (fz_le_e (fz_le_e (fz_le_e fz_le_n)))) ?_
            exact hK8 H
set_option maxRecDepth 100000 in
set_option maxHeartbeats 4000000 in
theorem V_lp_X2_readTest_8 {g : fz_G} {l : Launch} {R : Nat → Int32 → fz_s → (Bool → fz_s → Prop) → Prop} {m0 : Nat} {d : Nat} (hD : m0 + 1 ≤ d) (hm : 10 ≤ m0) (hR : OR g l m0 R)    {Q : Bool → fz_s → Prop}  (n : Nat) : ∀ {v1 : Int32} {v2 : Bool} {v3 : Int32} {s : fz_s}, lp_X2_readTest_8 R   Q n v1 v2 v3 s → fs_V g l m_X2_readTest d true 8 [.ref 5, .int v1, .int (bi v2), .int v3] [] s (rZ Q) := by
  induction n with
  | zero => intro v1 v2 v3 s H; exact H.elim
  | succ n ih => intro v1 v2 v3 s H; exact V_nd_X2_readTest_8 hD hm hR  (fun H => ih H) H
set_option maxRecDepth 100000 in
set_option maxHeartbeats 4000000 in
theorem V_X2_readTest {g : fz_G} {l : Launch} {R : Nat → Int32 → fz_s → (Bool → fz_s → Prop) → Prop} {m0 : Nat} {d : Nat} (hD : m0 + 1 ≤ d) (hm : 10 ≤ m0) (hR : OR g l m0 R) {p0 : Int32}  {s : fz_s} {Q : Bool → fz_s → Prop} (H : wp_X2_readTest R p0 s Q) : fs_V g l m_X2_readTest d true 0 (fz_en [.ref 5, .int p0] 4) [] s (rZ Q) := by
  obtain ⟨d, rfl⟩ : ∃ e, d = e + 1 := ⟨d - 1, by omega⟩
  unfold wp_X2_readTest at H
  refine fs_aload_n (k0 := 0) (i := 0) dd_X2_readTest_0 rfl rfl ?_
  refine fs_iload_n (k0 := 1) (i := 1) dd_X2_readTest_1 rfl rfl ?_
  refine fs_callV (y := m_X2_both) (as := [.int p0]) dd_X2_readTest_2 me_X2_both lk_X2_34 in_X2_both se_X2_both ca_5 rfl rfl rfl (Nat.le_of_ble_eq_true rfl) (Nat.le_of_ble_eq_true rfl) rfl (hR 1 _ (by omega) _ _ _ H) (k2_Z fun r1 s2 H => ?_)
  refine fs_istore_n (k0 := 2) (i := 2) dd_X2_readTest_5 rfl (by decide) ?_
  refine fs_iconst (n := 0) (v := 0) dd_X2_readTest_6 (by decide) ?_
  refine fs_istore_n (k0 := 3) (i := 3) dd_X2_readTest_7 rfl (by decide) ?_
  refine fs_weak (ls2 := [.ref 5, .int p0, .int (bi r1), .int 0]) (fz_le_e (fz_le_e (fz_le_e (fz_le_e fz_le_n)))) ?_
  exact V_lp_X2_readTest_8 hD hm hR   2048 H
theorem dd_X2_both_0 : decode m_X2_both.2.1 0 = .ok (.aload_n 0, 1) := by decide +kernel
theorem dd_X2_both_1 : decode m_X2_both.2.1 1 = .ok (.iload_n 1, 1) := by decide +kernel
theorem dd_X2_both_2 : decode m_X2_both.2.1 2 = .ok (.invokevirtual 49, 3) := by decide +kernel
theorem dd_X2_both_5 : decode m_X2_both.2.1 5 = .ok (.istore_n 2, 1) := by decide +kernel
theorem dd_X2_both_6 : decode m_X2_both.2.1 6 = .ok (.iconst 0, 1) := by decide +kernel
theorem dd_X2_both_7 : decode m_X2_both.2.1 7 = .ok (.istore_n 3, 1) := by decide +kernel
theorem dd_X2_both_8 : decode m_X2_both.2.1 8 = .ok (.iload_n 3, 1) := by decide +kernel
theorem dd_X2_both_9 : decode m_X2_both.2.1 9 = .ok (.sipush 1600, 3) := by decide +kernel
theorem dd_X2_both_12 : decode m_X2_both.2.1 12 = .ok (.if_icmp .ge 56, 3) := by decide +kernel
theorem dd_X2_both_15 : decode m_X2_both.2.1 15 = .ok (.iload_n 2, 1) := by decide +kernel
theorem dd_X2_both_16 : decode m_X2_both.2.1 16 = .ok (.ifCond .eq 52, 3) := by decide +kernel
theorem dd_X2_both_19 : decode m_X2_both.2.1 19 = .ok (.aload_n 0, 1) := by decide +kernel
theorem dd_X2_both_20 : decode m_X2_both.2.1 20 = .ok (.getfield 9, 3) := by decide +kernel
theorem dd_X2_both_23 : decode m_X2_both.2.1 23 = .ok (.bipush 21, 2) := by decide +kernel
theorem dd_X2_both_25 : decode m_X2_both.2.1 25 = .ok (.invokevirtual 38, 3) := by decide +kernel
theorem dd_X2_both_28 : decode m_X2_both.2.1 28 = .ok (.ifCond .eq 40, 3) := by decide +kernel
theorem dd_X2_both_31 : decode m_X2_both.2.1 31 = .ok (.aload_n 0, 1) := by decide +kernel
theorem dd_X2_both_32 : decode m_X2_both.2.1 32 = .ok (.getfield 9, 3) := by decide +kernel
theorem dd_X2_both_35 : decode m_X2_both.2.1 35 = .ok (.invokevirtual 43, 3) := by decide +kernel
theorem dd_X2_both_38 : decode m_X2_both.2.1 38 = .ok (.aload_n 0, 1) := by decide +kernel
theorem dd_X2_both_39 : decode m_X2_both.2.1 39 = .ok (.iload_n 1, 1) := by decide +kernel
theorem dd_X2_both_40 : decode m_X2_both.2.1 40 = .ok (.invokevirtual 49, 3) := by decide +kernel
theorem dd_X2_both_43 : decode m_X2_both.2.1 43 = .ok (.ifCond .eq 17, 3) := by decide +kernel
theorem dd_X2_both_46 : decode m_X2_both.2.1 46 = .ok (.aload_n 0, 1) := by decide +kernel
theorem dd_X2_both_47 : decode m_X2_both.2.1 47 = .ok (.sipush 20012, 3) := by decide +kernel
theorem dd_X2_both_50 : decode m_X2_both.2.1 50 = .ok (.invokevirtual 46, 3) := by decide +kernel
theorem dd_X2_both_53 : decode m_X2_both.2.1 53 = .ok (.ifCond .eq 7, 3) := by decide +kernel
theorem dd_X2_both_56 : decode m_X2_both.2.1 56 = .ok (.iconst 1, 1) := by decide +kernel
theorem dd_X2_both_57 : decode m_X2_both.2.1 57 = .ok (.goto 4, 3) := by decide +kernel
theorem dd_X2_both_60 : decode m_X2_both.2.1 60 = .ok (.iconst 0, 1) := by decide +kernel
theorem dd_X2_both_61 : decode m_X2_both.2.1 61 = .ok (.istore_n 2, 1) := by decide +kernel
theorem dd_X2_both_62 : decode m_X2_both.2.1 62 = .ok (.iinc 3 1, 3) := by decide +kernel
theorem dd_X2_both_65 : decode m_X2_both.2.1 65 = .ok (.goto (-57), 3) := by decide +kernel
theorem dd_X2_both_68 : decode m_X2_both.2.1 68 = .ok (.iload_n 2, 1) := by decide +kernel
theorem dd_X2_both_69 : decode m_X2_both.2.1 69 = .ok (.ireturn, 1) := by decide +kernel
def nd_X2_both_8 (R : Nat → Int32 → fz_s → (Bool → fz_s → Prop) → Prop)  (K8 : Int32 → Bool → Int32 → fz_s → Prop) (Q : Bool → fz_s → Prop) (v1 : Int32) (v2 : Bool) (v3 : Int32) (s : fz_s) : Prop :=
  ((1600 ≤ v3 → Q v2 s) ∧ (¬ 1600 ≤ v3 → ((v2 = false → Q v2 s) ∧ (v2 = true → wp_X8_isWord 21 s (fun r1 s2 => ((r1 = false → Q v2 s2) ∧ (r1 = true → wp_X8_next  s2 (fun s4 => R 2 v1 s4 (fun r5 s6 => ((r5 = false → ∀ x7 : Int32, x7 = v3 + 1 → K8 v1 false x7 s6) ∧ (r5 = true → wp_X2_done 20012 s6 (fun r8 s9 => ((r8 = false → ∀ x10 : Int32, x10 = v3 + 1 → K8 v1 false x10 s9) ∧ (r8 = true → ∀ x11 : Int32, x11 = v3 + 1 → K8 v1 true x11 s9))))))))))))))
def lp_X2_both_8 (R : Nat → Int32 → fz_s → (Bool → fz_s → Prop) → Prop)   (Q : Bool → fz_s → Prop) : Nat → Int32 → Bool → Int32 → fz_s → Prop
  | 0 => fun _ _ _ _ => False
  | n + 1 => nd_X2_both_8 R  (lp_X2_both_8 R   Q n) Q
def wp_X2_both (R : Nat → Int32 → fz_s → (Bool → fz_s → Prop) → Prop) (p0 : Int32) (s : fz_s) (Q : Bool → fz_s → Prop) : Prop :=
  R 2 p0 s (fun r1 s2 => lp_X2_both_8 R   Q 2048 p0 r1 0 s2)
set_option maxRecDepth 100000 in
set_option maxHeartbeats 4000000 in
theorem V_nd_X2_both_8 {g : fz_G} {l : Launch} {R : Nat → Int32 → fz_s → (Bool → fz_s → Prop) → Prop} {m0 : Nat} {d : Nat} (hD : m0 + 1 ≤ d) (hm : 10 ≤ m0) (hR : OR g l m0 R)   {K8 : Int32 → Bool → Int32 → fz_s → Prop} {Q : Bool → fz_s → Prop} {v1 : Int32} {v2 : Bool} {v3 : Int32} {s : fz_s} (hK8 : ∀ {v1 : Int32} {v2 : Bool} {v3 : Int32} {s : fz_s}, K8 v1 v2 v3 s → fs_V g l m_X2_both d true 8 [.ref 5, .int v1, .int (bi v2), .int v3] [] s (rZ Q)) (H : nd_X2_both_8 R  K8 Q v1 v2 v3 s) : fs_V g l m_X2_both d true 8 [.ref 5, .int v1, .int (bi v2), .int v3] [] s (rZ Q) := by
  obtain ⟨d, rfl⟩ : ∃ e, d = e + 1 := ⟨d - 1, by omega⟩
  unfold nd_X2_both_8 at H
  refine fs_iload_n (k0 := 3) (i := 3) dd_X2_both_8 rfl rfl ?_
  refine fs_sipush (n := 1600) (v := 1600) dd_X2_both_9 (by decide) ?_
  refine fs_icmp_ge (tgt := 68) dd_X2_both_12 (by decide) (fun hc => ?_) (fun hc => ?_)
  · replace H := H.1 hc
    refine fs_iload_n (k0 := 2) (i := 2) dd_X2_both_68 rfl rfl ?_
    exact fs_zret v2 dd_X2_both_69 rfl rfl H
  · replace H := H.2 hc
    refine fs_iload_n (k0 := 2) (i := 2) dd_X2_both_15 rfl rfl ?_
    refine fs_if_eq (tgt := 68) dd_X2_both_16 (by decide) (fun hc => ?_) (fun hc => ?_)
    · replace H := H.1 (bi_0 hc)
      refine fs_iload_n (k0 := 2) (i := 2) dd_X2_both_68 rfl rfl ?_
      exact fs_zret v2 dd_X2_both_69 rfl rfl H
    · replace H := H.2 (bi_1 hc)
      refine fs_aload_n (k0 := 0) (i := 0) dd_X2_both_19 rfl rfl ?_
      refine fs_getr (ci := 2) (j := 0) (q := 4) dd_X2_both_20 fl_X2_9 ca_5 rfl (Or.inl ⟨_, rfl⟩) rfl (by decide) ?_
      refine fs_bipush (n := 21) (v := 21) dd_X2_both_23 (by decide) ?_
      refine fs_callV (y := m_X8_isWord) (as := [.int 21]) dd_X2_both_25 me_X8_isWord lk_X2_38 in_X8_isWord se_X8_isWord ca_4 rfl rfl rfl (Nat.le_of_ble_eq_true rfl) (Nat.le_of_ble_eq_true rfl) rfl (V_X8_isWord (by omega)  H) (k2_Z fun r1 s2 H => ?_)
      refine fs_if_eq (tgt := 68) dd_X2_both_28 (by decide) (fun hc => ?_) (fun hc => ?_)
      · replace H := H.1 (bi_0 hc)
        refine fs_iload_n (k0 := 2) (i := 2) dd_X2_both_68 rfl rfl ?_
        exact fs_zret v2 dd_X2_both_69 rfl rfl H
      · replace H := H.2 (bi_1 hc)
        refine fs_aload_n (k0 := 0) (i := 0) dd_X2_both_31 rfl rfl ?_
        refine fs_getr (ci := 2) (j := 0) (q := 4) dd_X2_both_32 fl_X2_9 ca_5 rfl (Or.inl ⟨_, rfl⟩) rfl (by decide) ?_
        refine fs_callV (y := m_X8_next) (as := []) dd_X2_both_35 me_X8_next lk_X2_43 in_X8_next se_X8_next ca_4 rfl rfl rfl (Nat.le_of_ble_eq_true rfl) (Nat.le_of_ble_eq_true rfl) rfl (V_X8_next (by omega)  H) (k2_V fun s4 H => ?_)
        refine fs_aload_n (k0 := 0) (i := 0) dd_X2_both_38 rfl rfl ?_
        refine fs_iload_n (k0 := 1) (i := 1) dd_X2_both_39 rfl rfl ?_
        refine fs_callV (y := m_X2_fact) (as := [.int v1]) dd_X2_both_40 me_X2_fact lk_X2_49 in_X2_fact se_X2_fact ca_5 rfl rfl rfl (Nat.le_of_ble_eq_true rfl) (Nat.le_of_ble_eq_true rfl) rfl (hR 2 _ (by omega) _ _ _ H) (k2_Z fun r5 s6 H => ?_)
        refine fs_if_eq (tgt := 60) dd_X2_both_43 (by decide) (fun hc => ?_) (fun hc => ?_)
        · replace H := H.1 (bi_0 hc)
          refine fs_iconst (n := 0) (v := 0) dd_X2_both_60 (by decide) ?_
          refine fs_istore_n (k0 := 2) (i := 2) dd_X2_both_61 rfl (by decide) ?_
          refine fs_iincN (i := 3) (m := 1) (c := 1) dd_X2_both_62 rfl (by decide) (by decide) (fun x7 hx7 => ?_)
          replace H := H x7 hx7
          refine fs_goto (tgt := 8) dd_X2_both_65 (by decide) ?_
          refine fs_weak (ls2 := [.ref 5, .int v1, .int (bi false), .int x7]) (fz_le_e (fz_le_e (fz_le_e (fz_le_e fz_le_n)))) ?_
          exact hK8 H
        · replace H := H.2 (bi_1 hc)
          refine fs_aload_n (k0 := 0) (i := 0) dd_X2_both_46 rfl rfl ?_
          refine fs_sipush (n := 20012) (v := 20012) dd_X2_both_47 (by decide) ?_
          refine fs_callV (y := m_X2_done) (as := [.int 20012]) dd_X2_both_50 me_X2_done lk_X2_46 in_X2_done se_X2_done ca_5 rfl rfl rfl (Nat.le_of_ble_eq_true rfl) (Nat.le_of_ble_eq_true rfl) rfl (V_X2_done (by omega)  H) (k2_Z fun r8 s9 H => ?_)
          refine fs_if_eq (tgt := 60) dd_X2_both_53 (by decide) (fun hc => ?_) (fun hc => ?_)
          · replace H := H.1 (bi_0 hc)
            refine fs_iconst (n := 0) (v := 0) dd_X2_both_60 (by decide) ?_
            refine fs_istore_n (k0 := 2) (i := 2) dd_X2_both_61 rfl (by decide) ?_
            refine fs_iincN (i := 3) (m := 1) (c := 1) dd_X2_both_62 rfl (by decide) (by decide) (fun x10 hx10 => ?_)
            replace H := H x10 hx10
            refine fs_goto (tgt := 8) dd_X2_both_65 (by decide) ?_
            refine fs_weak (ls2 := [.ref 5, .int v1, .int (bi false), .int x10]) (fz_le_e (fz_le_e (fz_le_e (fz_le_e fz_le_n)))) ?_
            exact hK8 H
          · replace H := H.2 (bi_1 hc)
            refine fs_iconst (n := 1) (v := 1) dd_X2_both_56 (by decide) ?_
            refine fs_goto (tgt := 61) dd_X2_both_57 (by decide) ?_
            refine fs_istore_n (k0 := 2) (i := 2) dd_X2_both_61 rfl (by decide) ?_
            refine fs_iincN (i := 3) (m := 1) (c := 1) dd_X2_both_62 rfl (by decide) (by decide) (fun x11 hx11 => ?_)
            replace H := H x11 hx11
            refine fs_goto (tgt := 8) dd_X2_both_65 (by decide) ?_
            refine fs_weak (ls2 := [.ref 5, .int v1, .int (bi true), .int x11]) (fz_le_e (fz_le_e (fz_le_e (fz_le_e fz_le_n)))) ?_
            exact hK8 H
set_option maxRecDepth 100000 in
set_option maxHeartbeats 4000000 in
theorem V_lp_X2_both_8 {g : fz_G} {l : Launch} {R : Nat → Int32 → fz_s → (Bool → fz_s → Prop) → Prop} {m0 : Nat} {d : Nat} (hD : m0 + 1 ≤ d) (hm : 10 ≤ m0) (hR : OR g l m0 R)    {Q : Bool → fz_s → Prop}  (n : Nat) : ∀ {v1 : Int32} {v2 : Bool} {v3 : Int32} {s : fz_s}, lp_X2_both_8 R   Q n v1 v2 v3 s → fs_V g l m_X2_both d true 8 [.ref 5, .int v1, .int (bi v2), .int v3] [] s (rZ Q) := by
  induction n with
  | zero => intro v1 v2 v3 s H; exact H.elim
  | succ n ih => intro v1 v2 v3 s H; exact V_nd_X2_both_8 hD hm hR  (fun H => ih H) H
set_option maxRecDepth 100000 in
set_option maxHeartbeats 4000000 in
theorem V_X2_both {g : fz_G} {l : Launch} {R : Nat → Int32 → fz_s → (Bool → fz_s → Prop) → Prop} {m0 : Nat} {d : Nat} (hD : m0 + 1 ≤ d) (hm : 10 ≤ m0) (hR : OR g l m0 R) {p0 : Int32}  {s : fz_s} {Q : Bool → fz_s → Prop} (H : wp_X2_both R p0 s Q) : fs_V g l m_X2_both d true 0 (fz_en [.ref 5, .int p0] 4) [] s (rZ Q) := by
  obtain ⟨d, rfl⟩ : ∃ e, d = e + 1 := ⟨d - 1, by omega⟩
  unfold wp_X2_both at H
  refine fs_aload_n (k0 := 0) (i := 0) dd_X2_both_0 rfl rfl ?_
  refine fs_iload_n (k0 := 1) (i := 1) dd_X2_both_1 rfl rfl ?_
  refine fs_callV (y := m_X2_fact) (as := [.int p0]) dd_X2_both_2 me_X2_fact lk_X2_49 in_X2_fact se_X2_fact ca_5 rfl rfl rfl (Nat.le_of_ble_eq_true rfl) (Nat.le_of_ble_eq_true rfl) rfl (hR 2 _ (by omega) _ _ _ H) (k2_Z fun r1 s2 H => ?_)
  refine fs_istore_n (k0 := 2) (i := 2) dd_X2_both_5 rfl (by decide) ?_
  refine fs_iconst (n := 0) (v := 0) dd_X2_both_6 (by decide) ?_
  refine fs_istore_n (k0 := 3) (i := 3) dd_X2_both_7 rfl (by decide) ?_
  refine fs_weak (ls2 := [.ref 5, .int p0, .int (bi r1), .int 0]) (fz_le_e (fz_le_e (fz_le_e (fz_le_e fz_le_n)))) ?_
  exact V_lp_X2_both_8 hD hm hR   2048 H
theorem dd_X2_opens_0 : decode m_X2_opens.2.1 0 = .ok (.iload_n 1, 1) := by decide +kernel
theorem dd_X2_opens_1 : decode m_X2_opens.2.1 1 = .ok (.bipush 6, 2) := by decide +kernel
theorem dd_X2_opens_3 : decode m_X2_opens.2.1 3 = .ok (.if_icmp .lt 19, 3) := by decide +kernel
theorem dd_X2_opens_6 : decode m_X2_opens.2.1 6 = .ok (.aload_n 0, 1) := by decide +kernel
theorem dd_X2_opens_7 : decode m_X2_opens.2.1 7 = .ok (.getfield 9, 3) := by decide +kernel
theorem dd_X2_opens_10 : decode m_X2_opens.2.1 10 = .ok (.iconst 4, 1) := by decide +kernel
theorem dd_X2_opens_11 : decode m_X2_opens.2.1 11 = .ok (.aload_n 0, 1) := by decide +kernel
theorem dd_X2_opens_12 : decode m_X2_opens.2.1 12 = .ok (.getfield 9, 3) := by decide +kernel
theorem dd_X2_opens_15 : decode m_X2_opens.2.1 15 = .ok (.getfield 76, 3) := by decide +kernel
theorem dd_X2_opens_18 : decode m_X2_opens.2.1 18 = .ok (.invokevirtual 79, 3) := by decide +kernel
theorem dd_X2_opens_21 : decode m_X2_opens.2.1 21 = .ok (.ireturn, 1) := by decide +kernel
theorem dd_X2_opens_22 : decode m_X2_opens.2.1 22 = .ok (.aload_n 0, 1) := by decide +kernel
theorem dd_X2_opens_23 : decode m_X2_opens.2.1 23 = .ok (.getfield 9, 3) := by decide +kernel
theorem dd_X2_opens_26 : decode m_X2_opens.2.1 26 = .ok (.invokevirtual 43, 3) := by decide +kernel
theorem dd_X2_opens_29 : decode m_X2_opens.2.1 29 = .ok (.iconst 1, 1) := by decide +kernel
theorem dd_X2_opens_30 : decode m_X2_opens.2.1 30 = .ok (.ireturn, 1) := by decide +kernel
def wp_X2_opens (p0 : Int32) (s : fz_s) (Q : Bool → fz_s → Prop) : Prop :=
  ((p0 < 6 → wp_X8_next  s (fun s2 => Q true s2)) ∧ (¬ p0 < 6 → wp_X8_fail 4 (s.1 4 4) s (fun r3 s4 => Q r3 s4)))
set_option maxRecDepth 100000 in
set_option maxHeartbeats 4000000 in
theorem V_X2_opens {g : fz_G} {l : Launch} {d : Nat} (hD : 10 ≤ d) {p0 : Int32}  {s : fz_s} {Q : Bool → fz_s → Prop} (H : wp_X2_opens p0 s Q) : fs_V g l m_X2_opens d true 0 (fz_en [.ref 5, .int p0] 2) [] s (rZ Q) := by
  obtain ⟨d, rfl⟩ : ∃ e, d = e + 1 := ⟨d - 1, by omega⟩
  unfold wp_X2_opens at H
  refine fs_iload_n (k0 := 1) (i := 1) dd_X2_opens_0 rfl rfl ?_
  refine fs_bipush (n := 6) (v := 6) dd_X2_opens_1 (by decide) ?_
  refine fs_icmp_lt (tgt := 22) dd_X2_opens_3 (by decide) (fun hc => ?_) (fun hc => ?_)
  · replace H := H.1 hc
    refine fs_aload_n (k0 := 0) (i := 0) dd_X2_opens_22 rfl rfl ?_
    refine fs_getr (ci := 2) (j := 0) (q := 4) dd_X2_opens_23 fl_X2_9 ca_5 rfl (Or.inl ⟨_, rfl⟩) rfl (by decide) ?_
    refine fs_callV (y := m_X8_next) (as := []) dd_X2_opens_26 me_X8_next lk_X2_43 in_X8_next se_X8_next ca_4 rfl rfl rfl (Nat.le_of_ble_eq_true rfl) (Nat.le_of_ble_eq_true rfl) rfl (V_X8_next (by omega)  H) (k2_V fun s2 H => ?_)
    refine fs_iconst (n := 1) (v := 1) dd_X2_opens_29 (by decide) ?_
    exact fs_zret true dd_X2_opens_30 rfl rfl H
  · replace H := H.2 hc
    refine fs_aload_n (k0 := 0) (i := 0) dd_X2_opens_6 rfl rfl ?_
    refine fs_getr (ci := 2) (j := 0) (q := 4) dd_X2_opens_7 fl_X2_9 ca_5 rfl (Or.inl ⟨_, rfl⟩) rfl (by decide) ?_
    refine fs_iconst (n := 4) (v := 4) dd_X2_opens_10 (by decide) ?_
    refine fs_aload_n (k0 := 0) (i := 0) dd_X2_opens_11 rfl rfl ?_
    refine fs_getr (ci := 2) (j := 0) (q := 4) dd_X2_opens_12 fl_X2_9 ca_5 rfl (Or.inl ⟨_, rfl⟩) rfl (by decide) ?_
    refine fs_geti (ci := 8) (j := 4) dd_X2_opens_15 fl_X2_76 ca_4 rfl (Or.inl rfl) ?_
    refine fs_callV (y := m_X8_fail) (as := [.int 4, .int (s.1 4 4)]) dd_X2_opens_18 me_X8_fail lk_X2_79 in_X8_fail se_X8_fail ca_4 rfl rfl rfl (Nat.le_of_ble_eq_true rfl) (Nat.le_of_ble_eq_true rfl) rfl (V_X8_fail (by omega)  H) (k2_Z fun r3 s4 H => ?_)
    exact fs_zret r3 dd_X2_opens_21 rfl rfl H
theorem dd_X8_takeSign_0 : decode m_X8_takeSign.2.1 0 = .ok (.aload_n 0, 1) := by decide +kernel
theorem dd_X8_takeSign_1 : decode m_X8_takeSign.2.1 1 = .ok (.iload_n 1, 1) := by decide +kernel
theorem dd_X8_takeSign_2 : decode m_X8_takeSign.2.1 2 = .ok (.invokevirtual 71, 3) := by decide +kernel
theorem dd_X8_takeSign_5 : decode m_X8_takeSign.2.1 5 = .ok (.ifCond .ne 8, 3) := by decide +kernel
theorem dd_X8_takeSign_8 : decode m_X8_takeSign.2.1 8 = .ok (.aload_n 0, 1) := by decide +kernel
theorem dd_X8_takeSign_9 : decode m_X8_takeSign.2.1 9 = .ok (.invokevirtual 75, 3) := by decide +kernel
theorem dd_X8_takeSign_12 : decode m_X8_takeSign.2.1 12 = .ok (.ireturn, 1) := by decide +kernel
theorem dd_X8_takeSign_13 : decode m_X8_takeSign.2.1 13 = .ok (.aload_n 0, 1) := by decide +kernel
theorem dd_X8_takeSign_14 : decode m_X8_takeSign.2.1 14 = .ok (.invokevirtual 40, 3) := by decide +kernel
theorem dd_X8_takeSign_17 : decode m_X8_takeSign.2.1 17 = .ok (.iconst 1, 1) := by decide +kernel
theorem dd_X8_takeSign_18 : decode m_X8_takeSign.2.1 18 = .ok (.ireturn, 1) := by decide +kernel
def wp_X8_takeSign (p0 : Int32) (s : fz_s) (Q : Bool → fz_s → Prop) : Prop :=
  wp_X8_isSign p0 s (fun r1 s2 => ((r1 = true → wp_X8_next  s2 (fun s4 => Q true s4)) ∧ (r1 = false → wp_X8_failHere  s2 (fun r5 s6 => Q r5 s6))))
set_option maxRecDepth 100000 in
set_option maxHeartbeats 4000000 in
theorem V_X8_takeSign {g : fz_G} {l : Launch} {d : Nat} (hD : 10 ≤ d) {p0 : Int32}  {s : fz_s} {Q : Bool → fz_s → Prop} (H : wp_X8_takeSign p0 s Q) : fs_V g l m_X8_takeSign d true 0 (fz_en [.ref 4, .int p0] 2) [] s (rZ Q) := by
  obtain ⟨d, rfl⟩ : ∃ e, d = e + 1 := ⟨d - 1, by omega⟩
  unfold wp_X8_takeSign at H
  refine fs_aload_n (k0 := 0) (i := 0) dd_X8_takeSign_0 rfl rfl ?_
  refine fs_iload_n (k0 := 1) (i := 1) dd_X8_takeSign_1 rfl rfl ?_
  refine fs_callV (y := m_X8_isSign) (as := [.int p0]) dd_X8_takeSign_2 me_X8_isSign lk_X8_71 in_X8_isSign se_X8_isSign ca_4 rfl rfl rfl (Nat.le_of_ble_eq_true rfl) (Nat.le_of_ble_eq_true rfl) rfl (V_X8_isSign (by omega)  H) (k2_Z fun r1 s2 H => ?_)
  refine fs_if_ne (tgt := 13) dd_X8_takeSign_5 (by decide) (fun hc => ?_) (fun hc => ?_)
  · replace H := H.1 (bi_1 hc)
    refine fs_aload_n (k0 := 0) (i := 0) dd_X8_takeSign_13 rfl rfl ?_
    refine fs_callV (y := m_X8_next) (as := []) dd_X8_takeSign_14 me_X8_next lk_X8_40 in_X8_next se_X8_next ca_4 rfl rfl rfl (Nat.le_of_ble_eq_true rfl) (Nat.le_of_ble_eq_true rfl) rfl (V_X8_next (by omega)  H) (k2_V fun s4 H => ?_)
    refine fs_iconst (n := 1) (v := 1) dd_X8_takeSign_17 (by decide) ?_
    exact fs_zret true dd_X8_takeSign_18 rfl rfl H
  · replace H := H.2 (bi_0 hc)
    refine fs_aload_n (k0 := 0) (i := 0) dd_X8_takeSign_8 rfl rfl ?_
    refine fs_callV (y := m_X8_failHere) (as := []) dd_X8_takeSign_9 me_X8_failHere lk_X8_75 in_X8_failHere se_X8_failHere ca_4 rfl rfl rfl (Nat.le_of_ble_eq_true rfl) (Nat.le_of_ble_eq_true rfl) rfl (V_X8_failHere (by omega)  H) (k2_Z fun r5 s6 H => ?_)
    exact fs_zret r5 dd_X8_takeSign_12 rfl rfl H
theorem dd_X2_fact_0 : decode m_X2_fact.2.1 0 = .ok (.aload_n 0, 1) := by decide +kernel
theorem dd_X2_fact_1 : decode m_X2_fact.2.1 1 = .ok (.getfield 9, 3) := by decide +kernel
theorem dd_X2_fact_4 : decode m_X2_fact.2.1 4 = .ok (.bipush 22, 2) := by decide +kernel
theorem dd_X2_fact_6 : decode m_X2_fact.2.1 6 = .ok (.invokevirtual 38, 3) := by decide +kernel
theorem dd_X2_fact_9 : decode m_X2_fact.2.1 9 = .ok (.ifCond .eq 37, 3) := by decide +kernel
theorem dd_X2_fact_12 : decode m_X2_fact.2.1 12 = .ok (.aload_n 0, 1) := by decide +kernel
theorem dd_X2_fact_13 : decode m_X2_fact.2.1 13 = .ok (.iload_n 1, 1) := by decide +kernel
theorem dd_X2_fact_14 : decode m_X2_fact.2.1 14 = .ok (.invokevirtual 52, 3) := by decide +kernel
theorem dd_X2_fact_17 : decode m_X2_fact.2.1 17 = .ok (.ifCond .eq 27, 3) := by decide +kernel
theorem dd_X2_fact_20 : decode m_X2_fact.2.1 20 = .ok (.aload_n 0, 1) := by decide +kernel
theorem dd_X2_fact_21 : decode m_X2_fact.2.1 21 = .ok (.iload_n 1, 1) := by decide +kernel
theorem dd_X2_fact_22 : decode m_X2_fact.2.1 22 = .ok (.iconst 1, 1) := by decide +kernel
theorem dd_X2_fact_23 : decode m_X2_fact.2.1 23 = .ok (.iadd, 1) := by decide +kernel
theorem dd_X2_fact_24 : decode m_X2_fact.2.1 24 = .ok (.invokevirtual 49, 3) := by decide +kernel
theorem dd_X2_fact_27 : decode m_X2_fact.2.1 27 = .ok (.ifCond .eq 17, 3) := by decide +kernel
theorem dd_X2_fact_30 : decode m_X2_fact.2.1 30 = .ok (.aload_n 0, 1) := by decide +kernel
theorem dd_X2_fact_31 : decode m_X2_fact.2.1 31 = .ok (.sipush 20000, 3) := by decide +kernel
theorem dd_X2_fact_34 : decode m_X2_fact.2.1 34 = .ok (.invokevirtual 46, 3) := by decide +kernel
theorem dd_X2_fact_37 : decode m_X2_fact.2.1 37 = .ok (.ifCond .eq 7, 3) := by decide +kernel
theorem dd_X2_fact_40 : decode m_X2_fact.2.1 40 = .ok (.iconst 1, 1) := by decide +kernel
theorem dd_X2_fact_41 : decode m_X2_fact.2.1 41 = .ok (.goto 4, 3) := by decide +kernel
theorem dd_X2_fact_44 : decode m_X2_fact.2.1 44 = .ok (.iconst 0, 1) := by decide +kernel
theorem dd_X2_fact_45 : decode m_X2_fact.2.1 45 = .ok (.ireturn, 1) := by decide +kernel
theorem dd_X2_fact_46 : decode m_X2_fact.2.1 46 = .ok (.aload_n 0, 1) := by decide +kernel
theorem dd_X2_fact_47 : decode m_X2_fact.2.1 47 = .ok (.getfield 9, 3) := by decide +kernel
theorem dd_X2_fact_50 : decode m_X2_fact.2.1 50 = .ok (.bipush 91, 2) := by decide +kernel
theorem dd_X2_fact_52 : decode m_X2_fact.2.1 52 = .ok (.invokevirtual 55, 3) := by decide +kernel
theorem dd_X2_fact_55 : decode m_X2_fact.2.1 55 = .ok (.ifCond .eq 39, 3) := by decide +kernel
theorem dd_X2_fact_58 : decode m_X2_fact.2.1 58 = .ok (.aload_n 0, 1) := by decide +kernel
theorem dd_X2_fact_59 : decode m_X2_fact.2.1 59 = .ok (.iload_n 1, 1) := by decide +kernel
theorem dd_X2_fact_60 : decode m_X2_fact.2.1 60 = .ok (.invokevirtual 52, 3) := by decide +kernel
theorem dd_X2_fact_63 : decode m_X2_fact.2.1 63 = .ok (.ifCond .eq 29, 3) := by decide +kernel
theorem dd_X2_fact_66 : decode m_X2_fact.2.1 66 = .ok (.aload_n 0, 1) := by decide +kernel
theorem dd_X2_fact_67 : decode m_X2_fact.2.1 67 = .ok (.iload_n 1, 1) := by decide +kernel
theorem dd_X2_fact_68 : decode m_X2_fact.2.1 68 = .ok (.iconst 1, 1) := by decide +kernel
theorem dd_X2_fact_69 : decode m_X2_fact.2.1 69 = .ok (.iadd, 1) := by decide +kernel
theorem dd_X2_fact_70 : decode m_X2_fact.2.1 70 = .ok (.invokevirtual 59, 3) := by decide +kernel
theorem dd_X2_fact_73 : decode m_X2_fact.2.1 73 = .ok (.ifCond .eq 19, 3) := by decide +kernel
theorem dd_X2_fact_76 : decode m_X2_fact.2.1 76 = .ok (.aload_n 0, 1) := by decide +kernel
theorem dd_X2_fact_77 : decode m_X2_fact.2.1 77 = .ok (.getfield 9, 3) := by decide +kernel
theorem dd_X2_fact_80 : decode m_X2_fact.2.1 80 = .ok (.bipush 93, 2) := by decide +kernel
theorem dd_X2_fact_82 : decode m_X2_fact.2.1 82 = .ok (.invokevirtual 62, 3) := by decide +kernel
theorem dd_X2_fact_85 : decode m_X2_fact.2.1 85 = .ok (.ifCond .eq 7, 3) := by decide +kernel
theorem dd_X2_fact_88 : decode m_X2_fact.2.1 88 = .ok (.iconst 1, 1) := by decide +kernel
theorem dd_X2_fact_89 : decode m_X2_fact.2.1 89 = .ok (.goto 4, 3) := by decide +kernel
theorem dd_X2_fact_92 : decode m_X2_fact.2.1 92 = .ok (.iconst 0, 1) := by decide +kernel
theorem dd_X2_fact_93 : decode m_X2_fact.2.1 93 = .ok (.ireturn, 1) := by decide +kernel
theorem dd_X2_fact_94 : decode m_X2_fact.2.1 94 = .ok (.aload_n 0, 1) := by decide +kernel
theorem dd_X2_fact_95 : decode m_X2_fact.2.1 95 = .ok (.getfield 9, 3) := by decide +kernel
theorem dd_X2_fact_98 : decode m_X2_fact.2.1 98 = .ok (.bipush 23, 2) := by decide +kernel
theorem dd_X2_fact_100 : decode m_X2_fact.2.1 100 = .ok (.invokevirtual 38, 3) := by decide +kernel
theorem dd_X2_fact_103 : decode m_X2_fact.2.1 103 = .ok (.ifCond .eq 16, 3) := by decide +kernel
theorem dd_X2_fact_106 : decode m_X2_fact.2.1 106 = .ok (.aload_n 0, 1) := by decide +kernel
theorem dd_X2_fact_107 : decode m_X2_fact.2.1 107 = .ok (.getfield 9, 3) := by decide +kernel
theorem dd_X2_fact_110 : decode m_X2_fact.2.1 110 = .ok (.invokevirtual 43, 3) := by decide +kernel
theorem dd_X2_fact_113 : decode m_X2_fact.2.1 113 = .ok (.aload_n 0, 1) := by decide +kernel
theorem dd_X2_fact_114 : decode m_X2_fact.2.1 114 = .ok (.iconst 1, 1) := by decide +kernel
theorem dd_X2_fact_115 : decode m_X2_fact.2.1 115 = .ok (.invokevirtual 46, 3) := by decide +kernel
theorem dd_X2_fact_118 : decode m_X2_fact.2.1 118 = .ok (.ireturn, 1) := by decide +kernel
theorem dd_X2_fact_119 : decode m_X2_fact.2.1 119 = .ok (.aload_n 0, 1) := by decide +kernel
theorem dd_X2_fact_120 : decode m_X2_fact.2.1 120 = .ok (.iload_n 1, 1) := by decide +kernel
theorem dd_X2_fact_121 : decode m_X2_fact.2.1 121 = .ok (.invokevirtual 65, 3) := by decide +kernel
theorem dd_X2_fact_124 : decode m_X2_fact.2.1 124 = .ok (.ifCond .ne 5, 3) := by decide +kernel
theorem dd_X2_fact_127 : decode m_X2_fact.2.1 127 = .ok (.iconst 0, 1) := by decide +kernel
theorem dd_X2_fact_128 : decode m_X2_fact.2.1 128 = .ok (.ireturn, 1) := by decide +kernel
theorem dd_X2_fact_129 : decode m_X2_fact.2.1 129 = .ok (.aload_n 0, 1) := by decide +kernel
theorem dd_X2_fact_130 : decode m_X2_fact.2.1 130 = .ok (.invokevirtual 68, 3) := by decide +kernel
theorem dd_X2_fact_133 : decode m_X2_fact.2.1 133 = .ok (.istore_n 2, 1) := by decide +kernel
theorem dd_X2_fact_134 : decode m_X2_fact.2.1 134 = .ok (.iload_n 2, 1) := by decide +kernel
theorem dd_X2_fact_135 : decode m_X2_fact.2.1 135 = .ok (.iconst (-1), 1) := by decide +kernel
theorem dd_X2_fact_136 : decode m_X2_fact.2.1 136 = .ok (.if_icmp .ne 11, 3) := by decide +kernel
theorem dd_X2_fact_139 : decode m_X2_fact.2.1 139 = .ok (.aload_n 0, 1) := by decide +kernel
theorem dd_X2_fact_140 : decode m_X2_fact.2.1 140 = .ok (.getfield 9, 3) := by decide +kernel
theorem dd_X2_fact_143 : decode m_X2_fact.2.1 143 = .ok (.invokevirtual 72, 3) := by decide +kernel
theorem dd_X2_fact_146 : decode m_X2_fact.2.1 146 = .ok (.ireturn, 1) := by decide +kernel
theorem dd_X2_fact_147 : decode m_X2_fact.2.1 147 = .ok (.aload_n 0, 1) := by decide +kernel
theorem dd_X2_fact_148 : decode m_X2_fact.2.1 148 = .ok (.getfield 9, 3) := by decide +kernel
theorem dd_X2_fact_151 : decode m_X2_fact.2.1 151 = .ok (.invokevirtual 43, 3) := by decide +kernel
theorem dd_X2_fact_154 : decode m_X2_fact.2.1 154 = .ok (.aload_n 0, 1) := by decide +kernel
theorem dd_X2_fact_155 : decode m_X2_fact.2.1 155 = .ok (.iload_n 1, 1) := by decide +kernel
theorem dd_X2_fact_156 : decode m_X2_fact.2.1 156 = .ok (.invokevirtual 65, 3) := by decide +kernel
theorem dd_X2_fact_159 : decode m_X2_fact.2.1 159 = .ok (.ifCond .eq 15, 3) := by decide +kernel
theorem dd_X2_fact_162 : decode m_X2_fact.2.1 162 = .ok (.aload_n 0, 1) := by decide +kernel
theorem dd_X2_fact_163 : decode m_X2_fact.2.1 163 = .ok (.iload_n 2, 1) := by decide +kernel
theorem dd_X2_fact_164 : decode m_X2_fact.2.1 164 = .ok (.invokevirtual 46, 3) := by decide +kernel
theorem dd_X2_fact_167 : decode m_X2_fact.2.1 167 = .ok (.ifCond .eq 7, 3) := by decide +kernel
theorem dd_X2_fact_170 : decode m_X2_fact.2.1 170 = .ok (.iconst 1, 1) := by decide +kernel
theorem dd_X2_fact_171 : decode m_X2_fact.2.1 171 = .ok (.goto 4, 3) := by decide +kernel
theorem dd_X2_fact_174 : decode m_X2_fact.2.1 174 = .ok (.iconst 0, 1) := by decide +kernel
theorem dd_X2_fact_175 : decode m_X2_fact.2.1 175 = .ok (.ireturn, 1) := by decide +kernel
def wp_X2_fact (R : Nat → Int32 → fz_s → (Bool → fz_s → Prop) → Prop) (p0 : Int32) (s : fz_s) (Q : Bool → fz_s → Prop) : Prop :=
  wp_X8_isWord 22 s (fun r1 s2 => ((r1 = false → wp_X8_isSign 91 s2 (fun r3 s4 => ((r3 = false → wp_X8_isWord 23 s4 (fun r5 s6 => ((r5 = false → R 3 p0 s6 (fun r7 s8 => ((r7 = true → wp_X2_comparisonHere  s8 (fun r9 s10 => ((¬ r9 = (-1) → wp_X8_next  s10 (fun s12 => R 3 p0 s12 (fun r13 s14 => ((r13 = false → Q false s14) ∧ (r13 = true → wp_X2_done r9 s14 (fun r15 s16 => ((r15 = false → Q false s16) ∧ (r15 = true → Q true s16)))))))) ∧ (r9 = (-1) → wp_X8_failHere  s10 (fun r17 s18 => Q r17 s18))))) ∧ (r7 = false → Q false s8)))) ∧ (r5 = true → wp_X8_next  s6 (fun s20 => wp_X2_done 1 s20 (fun r21 s22 => Q r21 s22)))))) ∧ (r3 = true → wp_X2_opens p0 s4 (fun r23 s24 => ((r23 = false → Q false s24) ∧ (r23 = true → R 0 (p0 + 1) s24 (fun r25 s26 => ((r25 = false → Q false s26) ∧ (r25 = true → wp_X8_takeSign 93 s26 (fun r27 s28 => ((r27 = false → Q false s28) ∧ (r27 = true → Q true s28))))))))))))) ∧ (r1 = true → wp_X2_opens p0 s2 (fun r29 s30 => ((r29 = false → Q false s30) ∧ (r29 = true → R 2 (p0 + 1) s30 (fun r31 s32 => ((r31 = false → Q false s32) ∧ (r31 = true → wp_X2_done 20000 s32 (fun r33 s34 => ((r33 = false → Q false s34) ∧ (r33 = true → Q true s34))))))))))))
set_option maxRecDepth 100000 in
set_option maxHeartbeats 4000000 in
theorem V_X2_fact {g : fz_G} {l : Launch} {R : Nat → Int32 → fz_s → (Bool → fz_s → Prop) → Prop} {m0 : Nat} {d : Nat} (hD : m0 + 1 ≤ d) (hm : 11 ≤ m0) (hR : OR g l m0 R) {p0 : Int32}  {s : fz_s} {Q : Bool → fz_s → Prop} (H : wp_X2_fact R p0 s Q) : fs_V g l m_X2_fact d true 0 (fz_en [.ref 5, .int p0] 3) [] s (rZ Q) := by
  obtain ⟨d, rfl⟩ : ∃ e, d = e + 1 := ⟨d - 1, by omega⟩
  unfold wp_X2_fact at H
  refine fs_aload_n (k0 := 0) (i := 0) dd_X2_fact_0 rfl rfl ?_
  refine fs_getr (ci := 2) (j := 0) (q := 4) dd_X2_fact_1 fl_X2_9 ca_5 rfl (Or.inl ⟨_, rfl⟩) rfl (by decide) ?_
  refine fs_bipush (n := 22) (v := 22) dd_X2_fact_4 (by decide) ?_
  refine fs_callV (y := m_X8_isWord) (as := [.int 22]) dd_X2_fact_6 me_X8_isWord lk_X2_38 in_X8_isWord se_X8_isWord ca_4 rfl rfl rfl (Nat.le_of_ble_eq_true rfl) (Nat.le_of_ble_eq_true rfl) rfl (V_X8_isWord (by omega)  H) (k2_Z fun r1 s2 H => ?_)
  refine fs_if_eq (tgt := 46) dd_X2_fact_9 (by decide) (fun hc => ?_) (fun hc => ?_)
  · replace H := H.1 (bi_0 hc)
    refine fs_aload_n (k0 := 0) (i := 0) dd_X2_fact_46 rfl rfl ?_
    refine fs_getr (ci := 2) (j := 0) (q := 4) dd_X2_fact_47 fl_X2_9 ca_5 rfl (Or.inl ⟨_, rfl⟩) rfl (by decide) ?_
    refine fs_bipush (n := 91) (v := 91) dd_X2_fact_50 (by decide) ?_
    refine fs_callV (y := m_X8_isSign) (as := [.int 91]) dd_X2_fact_52 me_X8_isSign lk_X2_55 in_X8_isSign se_X8_isSign ca_4 rfl rfl rfl (Nat.le_of_ble_eq_true rfl) (Nat.le_of_ble_eq_true rfl) rfl (V_X8_isSign (by omega)  H) (k2_Z fun r3 s4 H => ?_)
    refine fs_if_eq (tgt := 94) dd_X2_fact_55 (by decide) (fun hc => ?_) (fun hc => ?_)
    · replace H := H.1 (bi_0 hc)
      refine fs_aload_n (k0 := 0) (i := 0) dd_X2_fact_94 rfl rfl ?_
      refine fs_getr (ci := 2) (j := 0) (q := 4) dd_X2_fact_95 fl_X2_9 ca_5 rfl (Or.inl ⟨_, rfl⟩) rfl (by decide) ?_
      refine fs_bipush (n := 23) (v := 23) dd_X2_fact_98 (by decide) ?_
      refine fs_callV (y := m_X8_isWord) (as := [.int 23]) dd_X2_fact_100 me_X8_isWord lk_X2_38 in_X8_isWord se_X8_isWord ca_4 rfl rfl rfl (Nat.le_of_ble_eq_true rfl) (Nat.le_of_ble_eq_true rfl) rfl (V_X8_isWord (by omega)  H) (k2_Z fun r5 s6 H => ?_)
      refine fs_if_eq (tgt := 119) dd_X2_fact_103 (by decide) (fun hc => ?_) (fun hc => ?_)
      · replace H := H.1 (bi_0 hc)
        refine fs_aload_n (k0 := 0) (i := 0) dd_X2_fact_119 rfl rfl ?_
        refine fs_iload_n (k0 := 1) (i := 1) dd_X2_fact_120 rfl rfl ?_
        refine fs_callV (y := m_X2_readSum) (as := [.int p0]) dd_X2_fact_121 me_X2_readSum lk_X2_65 in_X2_readSum se_X2_readSum ca_5 rfl rfl rfl (Nat.le_of_ble_eq_true rfl) (Nat.le_of_ble_eq_true rfl) rfl (hR 3 _ (by omega) _ _ _ H) (k2_Z fun r7 s8 H => ?_)
        refine fs_if_ne (tgt := 129) dd_X2_fact_124 (by decide) (fun hc => ?_) (fun hc => ?_)
        · replace H := H.1 (bi_1 hc)
          refine fs_aload_n (k0 := 0) (i := 0) dd_X2_fact_129 rfl rfl ?_
          refine fs_callV (y := m_X2_comparisonHere) (as := []) dd_X2_fact_130 me_X2_comparisonHere lk_X2_68 in_X2_comparisonHere se_X2_comparisonHere ca_5 rfl rfl rfl (Nat.le_of_ble_eq_true rfl) (Nat.le_of_ble_eq_true rfl) rfl (V_X2_comparisonHere (by omega)  H) (k2_I fun r9 s10 H => ?_)
          refine fs_istore_n (k0 := 2) (i := 2) dd_X2_fact_133 rfl (by decide) ?_
          refine fs_iload_n (k0 := 2) (i := 2) dd_X2_fact_134 rfl rfl ?_
          refine fs_iconst (n := -1) (v := -1) dd_X2_fact_135 (by decide) ?_
          refine fs_icmp_ne (tgt := 147) dd_X2_fact_136 (by decide) (fun hc => ?_) (fun hc => ?_)
          · replace H := H.1 hc
            refine fs_aload_n (k0 := 0) (i := 0) dd_X2_fact_147 rfl rfl ?_
            refine fs_getr (ci := 2) (j := 0) (q := 4) dd_X2_fact_148 fl_X2_9 ca_5 rfl (Or.inl ⟨_, rfl⟩) rfl (by decide) ?_
            refine fs_callV (y := m_X8_next) (as := []) dd_X2_fact_151 me_X8_next lk_X2_43 in_X8_next se_X8_next ca_4 rfl rfl rfl (Nat.le_of_ble_eq_true rfl) (Nat.le_of_ble_eq_true rfl) rfl (V_X8_next (by omega)  H) (k2_V fun s12 H => ?_)
            refine fs_aload_n (k0 := 0) (i := 0) dd_X2_fact_154 rfl rfl ?_
            refine fs_iload_n (k0 := 1) (i := 1) dd_X2_fact_155 rfl rfl ?_
            refine fs_callV (y := m_X2_readSum) (as := [.int p0]) dd_X2_fact_156 me_X2_readSum lk_X2_65 in_X2_readSum se_X2_readSum ca_5 rfl rfl rfl (Nat.le_of_ble_eq_true rfl) (Nat.le_of_ble_eq_true rfl) rfl (hR 3 _ (by omega) _ _ _ H) (k2_Z fun r13 s14 H => ?_)
            refine fs_if_eq (tgt := 174) dd_X2_fact_159 (by decide) (fun hc => ?_) (fun hc => ?_)
            · replace H := H.1 (bi_0 hc)
              refine fs_iconst (n := 0) (v := 0) dd_X2_fact_174 (by decide) ?_
              exact fs_zret false dd_X2_fact_175 rfl rfl H
            · replace H := H.2 (bi_1 hc)
              refine fs_aload_n (k0 := 0) (i := 0) dd_X2_fact_162 rfl rfl ?_
              refine fs_iload_n (k0 := 2) (i := 2) dd_X2_fact_163 rfl rfl ?_
              refine fs_callV (y := m_X2_done) (as := [.int r9]) dd_X2_fact_164 me_X2_done lk_X2_46 in_X2_done se_X2_done ca_5 rfl rfl rfl (Nat.le_of_ble_eq_true rfl) (Nat.le_of_ble_eq_true rfl) rfl (V_X2_done (by omega)  H) (k2_Z fun r15 s16 H => ?_)
              refine fs_if_eq (tgt := 174) dd_X2_fact_167 (by decide) (fun hc => ?_) (fun hc => ?_)
              · replace H := H.1 (bi_0 hc)
                refine fs_iconst (n := 0) (v := 0) dd_X2_fact_174 (by decide) ?_
                exact fs_zret false dd_X2_fact_175 rfl rfl H
              · replace H := H.2 (bi_1 hc)
                refine fs_iconst (n := 1) (v := 1) dd_X2_fact_170 (by decide) ?_
                refine fs_goto (tgt := 175) dd_X2_fact_171 (by decide) ?_
                exact fs_zret true dd_X2_fact_175 rfl rfl H
          · replace H := H.2 hc
            refine fs_aload_n (k0 := 0) (i := 0) dd_X2_fact_139 rfl rfl ?_
            refine fs_getr (ci := 2) (j := 0) (q := 4) dd_X2_fact_140 fl_X2_9 ca_5 rfl (Or.inl ⟨_, rfl⟩) rfl (by decide) ?_
            refine fs_callV (y := m_X8_failHere) (as := []) dd_X2_fact_143 me_X8_failHere lk_X2_72 in_X8_failHere se_X8_failHere ca_4 rfl rfl rfl (Nat.le_of_ble_eq_true rfl) (Nat.le_of_ble_eq_true rfl) rfl (V_X8_failHere (by omega)  H) (k2_Z fun r17 s18 H => ?_)
            exact fs_zret r17 dd_X2_fact_146 rfl rfl H
        · replace H := H.2 (bi_0 hc)
          refine fs_iconst (n := 0) (v := 0) dd_X2_fact_127 (by decide) ?_
          exact fs_zret false dd_X2_fact_128 rfl rfl H
      · replace H := H.2 (bi_1 hc)
        refine fs_aload_n (k0 := 0) (i := 0) dd_X2_fact_106 rfl rfl ?_
        refine fs_getr (ci := 2) (j := 0) (q := 4) dd_X2_fact_107 fl_X2_9 ca_5 rfl (Or.inl ⟨_, rfl⟩) rfl (by decide) ?_
        refine fs_callV (y := m_X8_next) (as := []) dd_X2_fact_110 me_X8_next lk_X2_43 in_X8_next se_X8_next ca_4 rfl rfl rfl (Nat.le_of_ble_eq_true rfl) (Nat.le_of_ble_eq_true rfl) rfl (V_X8_next (by omega)  H) (k2_V fun s20 H => ?_)
        refine fs_aload_n (k0 := 0) (i := 0) dd_X2_fact_113 rfl rfl ?_
        refine fs_iconst (n := 1) (v := 1) dd_X2_fact_114 (by decide) ?_
        refine fs_callV (y := m_X2_done) (as := [.int 1]) dd_X2_fact_115 me_X2_done lk_X2_46 in_X2_done se_X2_done ca_5 rfl rfl rfl (Nat.le_of_ble_eq_true rfl) (Nat.le_of_ble_eq_true rfl) rfl (V_X2_done (by omega)  H) (k2_Z fun r21 s22 H => ?_)
        exact fs_zret r21 dd_X2_fact_118 rfl rfl H
    · replace H := H.2 (bi_1 hc)
      refine fs_aload_n (k0 := 0) (i := 0) dd_X2_fact_58 rfl rfl ?_
      refine fs_iload_n (k0 := 1) (i := 1) dd_X2_fact_59 rfl rfl ?_
      refine fs_callV (y := m_X2_opens) (as := [.int p0]) dd_X2_fact_60 me_X2_opens lk_X2_52 in_X2_opens se_X2_opens ca_5 rfl rfl rfl (Nat.le_of_ble_eq_true rfl) (Nat.le_of_ble_eq_true rfl) rfl (V_X2_opens (by omega)  H) (k2_Z fun r23 s24 H => ?_)
      refine fs_if_eq (tgt := 92) dd_X2_fact_63 (by decide) (fun hc => ?_) (fun hc => ?_)
      · replace H := H.1 (bi_0 hc)
        refine fs_iconst (n := 0) (v := 0) dd_X2_fact_92 (by decide) ?_
        exact fs_zret false dd_X2_fact_93 rfl rfl H
      · replace H := H.2 (bi_1 hc)
        refine fs_aload_n (k0 := 0) (i := 0) dd_X2_fact_66 rfl rfl ?_
        refine fs_iload_n (k0 := 1) (i := 1) dd_X2_fact_67 rfl rfl ?_
        refine fs_iconst (n := 1) (v := 1) dd_X2_fact_68 (by decide) ?_
        refine fs_iadd dd_X2_fact_69 ?_
        refine fs_callV (y := m_X2_readTest) (as := [.int (p0 + 1)]) dd_X2_fact_70 me_X2_readTest lk_X2_59 in_X2_readTest se_X2_readTest ca_5 rfl rfl rfl (Nat.le_of_ble_eq_true rfl) (Nat.le_of_ble_eq_true rfl) rfl (hR 0 _ (by omega) _ _ _ H) (k2_Z fun r25 s26 H => ?_)
        refine fs_if_eq (tgt := 92) dd_X2_fact_73 (by decide) (fun hc => ?_) (fun hc => ?_)
        · replace H := H.1 (bi_0 hc)
          refine fs_iconst (n := 0) (v := 0) dd_X2_fact_92 (by decide) ?_
          exact fs_zret false dd_X2_fact_93 rfl rfl H
        · replace H := H.2 (bi_1 hc)
          refine fs_aload_n (k0 := 0) (i := 0) dd_X2_fact_76 rfl rfl ?_
          refine fs_getr (ci := 2) (j := 0) (q := 4) dd_X2_fact_77 fl_X2_9 ca_5 rfl (Or.inl ⟨_, rfl⟩) rfl (by decide) ?_
          refine fs_bipush (n := 93) (v := 93) dd_X2_fact_80 (by decide) ?_
          refine fs_callV (y := m_X8_takeSign) (as := [.int 93]) dd_X2_fact_82 me_X8_takeSign lk_X2_62 in_X8_takeSign se_X8_takeSign ca_4 rfl rfl rfl (Nat.le_of_ble_eq_true rfl) (Nat.le_of_ble_eq_true rfl) rfl (V_X8_takeSign (by omega)  H) (k2_Z fun r27 s28 H => ?_)
          refine fs_if_eq (tgt := 92) dd_X2_fact_85 (by decide) (fun hc => ?_) (fun hc => ?_)
          · replace H := H.1 (bi_0 hc)
            refine fs_iconst (n := 0) (v := 0) dd_X2_fact_92 (by decide) ?_
            exact fs_zret false dd_X2_fact_93 rfl rfl H
          · replace H := H.2 (bi_1 hc)
            refine fs_iconst (n := 1) (v := 1) dd_X2_fact_88 (by decide) ?_
            refine fs_goto (tgt := 93) dd_X2_fact_89 (by decide) ?_
            exact fs_zret true dd_X2_fact_93 rfl rfl H
  · replace H := H.2 (bi_1 hc)
    refine fs_aload_n (k0 := 0) (i := 0) dd_X2_fact_12 rfl rfl ?_
    refine fs_iload_n (k0 := 1) (i := 1) dd_X2_fact_13 rfl rfl ?_
    refine fs_callV (y := m_X2_opens) (as := [.int p0]) dd_X2_fact_14 me_X2_opens lk_X2_52 in_X2_opens se_X2_opens ca_5 rfl rfl rfl (Nat.le_of_ble_eq_true rfl) (Nat.le_of_ble_eq_true rfl) rfl (V_X2_opens (by omega)  H) (k2_Z fun r29 s30 H => ?_)
    refine fs_if_eq (tgt := 44) dd_X2_fact_17 (by decide) (fun hc => ?_) (fun hc => ?_)
    · replace H := H.1 (bi_0 hc)
      refine fs_iconst (n := 0) (v := 0) dd_X2_fact_44 (by decide) ?_
      exact fs_zret false dd_X2_fact_45 rfl rfl H
    · replace H := H.2 (bi_1 hc)
      refine fs_aload_n (k0 := 0) (i := 0) dd_X2_fact_20 rfl rfl ?_
      refine fs_iload_n (k0 := 1) (i := 1) dd_X2_fact_21 rfl rfl ?_
      refine fs_iconst (n := 1) (v := 1) dd_X2_fact_22 (by decide) ?_
      refine fs_iadd dd_X2_fact_23 ?_
      refine fs_callV (y := m_X2_fact) (as := [.int (p0 + 1)]) dd_X2_fact_24 me_X2_fact lk_X2_49 in_X2_fact se_X2_fact ca_5 rfl rfl rfl (Nat.le_of_ble_eq_true rfl) (Nat.le_of_ble_eq_true rfl) rfl (hR 2 _ (by omega) _ _ _ H) (k2_Z fun r31 s32 H => ?_)
      refine fs_if_eq (tgt := 44) dd_X2_fact_27 (by decide) (fun hc => ?_) (fun hc => ?_)
      · replace H := H.1 (bi_0 hc)
        refine fs_iconst (n := 0) (v := 0) dd_X2_fact_44 (by decide) ?_
        exact fs_zret false dd_X2_fact_45 rfl rfl H
      · replace H := H.2 (bi_1 hc)
        refine fs_aload_n (k0 := 0) (i := 0) dd_X2_fact_30 rfl rfl ?_
        refine fs_sipush (n := 20000) (v := 20000) dd_X2_fact_31 (by decide) ?_
        refine fs_callV (y := m_X2_done) (as := [.int 20000]) dd_X2_fact_34 me_X2_done lk_X2_46 in_X2_done se_X2_done ca_5 rfl rfl rfl (Nat.le_of_ble_eq_true rfl) (Nat.le_of_ble_eq_true rfl) rfl (V_X2_done (by omega)  H) (k2_Z fun r33 s34 H => ?_)
        refine fs_if_eq (tgt := 44) dd_X2_fact_37 (by decide) (fun hc => ?_) (fun hc => ?_)
        · replace H := H.1 (bi_0 hc)
          refine fs_iconst (n := 0) (v := 0) dd_X2_fact_44 (by decide) ?_
          exact fs_zret false dd_X2_fact_45 rfl rfl H
        · replace H := H.2 (bi_1 hc)
          refine fs_iconst (n := 1) (v := 1) dd_X2_fact_40 (by decide) ?_
          refine fs_goto (tgt := 45) dd_X2_fact_41 (by decide) ?_
          exact fs_zret true dd_X2_fact_45 rfl rfl H
theorem dd_X2_readSum_0 : decode m_X2_readSum.2.1 0 = .ok (.aload_n 0, 1) := by decide +kernel
theorem dd_X2_readSum_1 : decode m_X2_readSum.2.1 1 = .ok (.iload_n 1, 1) := by decide +kernel
theorem dd_X2_readSum_2 : decode m_X2_readSum.2.1 2 = .ok (.invokevirtual 83, 3) := by decide +kernel
theorem dd_X2_readSum_5 : decode m_X2_readSum.2.1 5 = .ok (.istore_n 2, 1) := by decide +kernel
theorem dd_X2_readSum_6 : decode m_X2_readSum.2.1 6 = .ok (.iconst 0, 1) := by decide +kernel
theorem dd_X2_readSum_7 : decode m_X2_readSum.2.1 7 = .ok (.istore_n 3, 1) := by decide +kernel
theorem dd_X2_readSum_8 : decode m_X2_readSum.2.1 8 = .ok (.iload_n 3, 1) := by decide +kernel
theorem dd_X2_readSum_9 : decode m_X2_readSum.2.1 9 = .ok (.sipush 1600, 3) := by decide +kernel
theorem dd_X2_readSum_12 : decode m_X2_readSum.2.1 12 = .ok (.if_icmp .ge 90, 3) := by decide +kernel
theorem dd_X2_readSum_15 : decode m_X2_readSum.2.1 15 = .ok (.iload_n 2, 1) := by decide +kernel
theorem dd_X2_readSum_16 : decode m_X2_readSum.2.1 16 = .ok (.ifCond .eq 86, 3) := by decide +kernel
theorem dd_X2_readSum_19 : decode m_X2_readSum.2.1 19 = .ok (.aload_n 0, 1) := by decide +kernel
theorem dd_X2_readSum_20 : decode m_X2_readSum.2.1 20 = .ok (.getfield 9, 3) := by decide +kernel
theorem dd_X2_readSum_23 : decode m_X2_readSum.2.1 23 = .ok (.bipush 43, 2) := by decide +kernel
theorem dd_X2_readSum_25 : decode m_X2_readSum.2.1 25 = .ok (.invokevirtual 55, 3) := by decide +kernel
theorem dd_X2_readSum_28 : decode m_X2_readSum.2.1 28 = .ok (.ifCond .ne 15, 3) := by decide +kernel
theorem dd_X2_readSum_31 : decode m_X2_readSum.2.1 31 = .ok (.aload_n 0, 1) := by decide +kernel
theorem dd_X2_readSum_32 : decode m_X2_readSum.2.1 32 = .ok (.getfield 9, 3) := by decide +kernel
theorem dd_X2_readSum_35 : decode m_X2_readSum.2.1 35 = .ok (.bipush 45, 2) := by decide +kernel
theorem dd_X2_readSum_37 : decode m_X2_readSum.2.1 37 = .ok (.invokevirtual 55, 3) := by decide +kernel
theorem dd_X2_readSum_40 : decode m_X2_readSum.2.1 40 = .ok (.ifCond .eq 62, 3) := by decide +kernel
theorem dd_X2_readSum_43 : decode m_X2_readSum.2.1 43 = .ok (.aload_n 0, 1) := by decide +kernel
theorem dd_X2_readSum_44 : decode m_X2_readSum.2.1 44 = .ok (.getfield 9, 3) := by decide +kernel
theorem dd_X2_readSum_47 : decode m_X2_readSum.2.1 47 = .ok (.bipush 43, 2) := by decide +kernel
theorem dd_X2_readSum_49 : decode m_X2_readSum.2.1 49 = .ok (.invokevirtual 55, 3) := by decide +kernel
theorem dd_X2_readSum_52 : decode m_X2_readSum.2.1 52 = .ok (.ifCond .eq 9, 3) := by decide +kernel
theorem dd_X2_readSum_55 : decode m_X2_readSum.2.1 55 = .ok (.sipush 20003, 3) := by decide +kernel
theorem dd_X2_readSum_58 : decode m_X2_readSum.2.1 58 = .ok (.goto 6, 3) := by decide +kernel
theorem dd_X2_readSum_61 : decode m_X2_readSum.2.1 61 = .ok (.sipush 20004, 3) := by decide +kernel
theorem dd_X2_readSum_64 : decode m_X2_readSum.2.1 64 = .ok (.istore 4, 2) := by decide +kernel
theorem dd_X2_readSum_66 : decode m_X2_readSum.2.1 66 = .ok (.aload_n 0, 1) := by decide +kernel
theorem dd_X2_readSum_67 : decode m_X2_readSum.2.1 67 = .ok (.getfield 9, 3) := by decide +kernel
theorem dd_X2_readSum_70 : decode m_X2_readSum.2.1 70 = .ok (.invokevirtual 43, 3) := by decide +kernel
theorem dd_X2_readSum_73 : decode m_X2_readSum.2.1 73 = .ok (.aload_n 0, 1) := by decide +kernel
theorem dd_X2_readSum_74 : decode m_X2_readSum.2.1 74 = .ok (.iload_n 1, 1) := by decide +kernel
theorem dd_X2_readSum_75 : decode m_X2_readSum.2.1 75 = .ok (.invokevirtual 83, 3) := by decide +kernel
theorem dd_X2_readSum_78 : decode m_X2_readSum.2.1 78 = .ok (.ifCond .eq 16, 3) := by decide +kernel
theorem dd_X2_readSum_81 : decode m_X2_readSum.2.1 81 = .ok (.aload_n 0, 1) := by decide +kernel
theorem dd_X2_readSum_82 : decode m_X2_readSum.2.1 82 = .ok (.iload 4, 2) := by decide +kernel
theorem dd_X2_readSum_84 : decode m_X2_readSum.2.1 84 = .ok (.invokevirtual 46, 3) := by decide +kernel
theorem dd_X2_readSum_87 : decode m_X2_readSum.2.1 87 = .ok (.ifCond .eq 7, 3) := by decide +kernel
theorem dd_X2_readSum_90 : decode m_X2_readSum.2.1 90 = .ok (.iconst 1, 1) := by decide +kernel
theorem dd_X2_readSum_91 : decode m_X2_readSum.2.1 91 = .ok (.goto 4, 3) := by decide +kernel
theorem dd_X2_readSum_94 : decode m_X2_readSum.2.1 94 = .ok (.iconst 0, 1) := by decide +kernel
theorem dd_X2_readSum_95 : decode m_X2_readSum.2.1 95 = .ok (.istore_n 2, 1) := by decide +kernel
theorem dd_X2_readSum_96 : decode m_X2_readSum.2.1 96 = .ok (.iinc 3 1, 3) := by decide +kernel
theorem dd_X2_readSum_99 : decode m_X2_readSum.2.1 99 = .ok (.goto (-91), 3) := by decide +kernel
theorem dd_X2_readSum_102 : decode m_X2_readSum.2.1 102 = .ok (.iload_n 2, 1) := by decide +kernel
theorem dd_X2_readSum_103 : decode m_X2_readSum.2.1 103 = .ok (.ireturn, 1) := by decide +kernel
def nd_X2_readSum_64 (R : Nat → Int32 → fz_s → (Bool → fz_s → Prop) → Prop)  (K8 : Int32 → Bool → Int32 → fz_s → Prop) (Q : Bool → fz_s → Prop) (v1 : Int32) (v3 : Int32) (u0 : Int32) (s : fz_s) : Prop :=
  wp_X8_next  s (fun s2 => R 4 v1 s2 (fun r3 s4 => ((r3 = false → ∀ x5 : Int32, x5 = v3 + 1 → K8 v1 false x5 s4) ∧ (r3 = true → wp_X2_done u0 s4 (fun r6 s7 => ((r6 = false → ∀ x8 : Int32, x8 = v3 + 1 → K8 v1 false x8 s7) ∧ (r6 = true → ∀ x9 : Int32, x9 = v3 + 1 → K8 v1 true x9 s7)))))))
def nd_X2_readSum_43 (R : Nat → Int32 → fz_s → (Bool → fz_s → Prop) → Prop)  (K8 : Int32 → Bool → Int32 → fz_s → Prop) (Q : Bool → fz_s → Prop) (v1 : Int32) (v3 : Int32) (s : fz_s) : Prop :=
  wp_X8_isSign 43 s (fun r1 s2 => ((r1 = false → nd_X2_readSum_64 R  K8 Q v1 v3 20004 s2) ∧ (r1 = true → nd_X2_readSum_64 R  K8 Q v1 v3 20003 s2)))
def nd_X2_readSum_8 (R : Nat → Int32 → fz_s → (Bool → fz_s → Prop) → Prop)  (K8 : Int32 → Bool → Int32 → fz_s → Prop) (Q : Bool → fz_s → Prop) (v1 : Int32) (v2 : Bool) (v3 : Int32) (s : fz_s) : Prop :=
  ((1600 ≤ v3 → Q v2 s) ∧ (¬ 1600 ≤ v3 → ((v2 = false → Q v2 s) ∧ (v2 = true → wp_X8_isSign 43 s (fun r1 s2 => ((r1 = true → nd_X2_readSum_43 R  K8 Q v1 v3 s2) ∧ (r1 = false → wp_X8_isSign 45 s2 (fun r3 s4 => ((r3 = false → Q v2 s4) ∧ (r3 = true → nd_X2_readSum_43 R  K8 Q v1 v3 s4))))))))))
def lp_X2_readSum_8 (R : Nat → Int32 → fz_s → (Bool → fz_s → Prop) → Prop)   (Q : Bool → fz_s → Prop) : Nat → Int32 → Bool → Int32 → fz_s → Prop
  | 0 => fun _ _ _ _ => False
  | n + 1 => nd_X2_readSum_8 R  (lp_X2_readSum_8 R   Q n) Q
def wp_X2_readSum (R : Nat → Int32 → fz_s → (Bool → fz_s → Prop) → Prop) (p0 : Int32) (s : fz_s) (Q : Bool → fz_s → Prop) : Prop :=
  R 4 p0 s (fun r1 s2 => lp_X2_readSum_8 R   Q 2048 p0 r1 0 s2)
set_option maxRecDepth 100000 in
set_option maxHeartbeats 4000000 in
theorem V_nd_X2_readSum_64 {g : fz_G} {l : Launch} {R : Nat → Int32 → fz_s → (Bool → fz_s → Prop) → Prop} {m0 : Nat} {d : Nat} (hD : m0 + 1 ≤ d) (hm : 10 ≤ m0) (hR : OR g l m0 R)   {K8 : Int32 → Bool → Int32 → fz_s → Prop} {Q : Bool → fz_s → Prop} {v1 : Int32} {v3 : Int32} {u0 : Int32} {s : fz_s} (hK8 : ∀ {v1 : Int32} {v2 : Bool} {v3 : Int32} {s : fz_s}, K8 v1 v2 v3 s → fs_V g l m_X2_readSum d true 8 [.ref 5, .int v1, .int (bi v2), .int v3, fz_J] [] s (rZ Q)) (H : nd_X2_readSum_64 R  K8 Q v1 v3 u0 s) : fs_V g l m_X2_readSum d true 64 [.ref 5, .int v1, fz_J, .int v3, fz_J] [.int u0] s (rZ Q) := by
  obtain ⟨d, rfl⟩ : ∃ e, d = e + 1 := ⟨d - 1, by omega⟩
  unfold nd_X2_readSum_64 at H
  refine fs_istore (i := 4) dd_X2_readSum_64 (by decide) ?_
  refine fs_aload_n (k0 := 0) (i := 0) dd_X2_readSum_66 rfl rfl ?_
  refine fs_getr (ci := 2) (j := 0) (q := 4) dd_X2_readSum_67 fl_X2_9 ca_5 rfl (Or.inl ⟨_, rfl⟩) rfl (by decide) ?_
  refine fs_callV (y := m_X8_next) (as := []) dd_X2_readSum_70 me_X8_next lk_X2_43 in_X8_next se_X8_next ca_4 rfl rfl rfl (Nat.le_of_ble_eq_true rfl) (Nat.le_of_ble_eq_true rfl) rfl (V_X8_next (by omega)  H) (k2_V fun s2 H => ?_)
  refine fs_aload_n (k0 := 0) (i := 0) dd_X2_readSum_73 rfl rfl ?_
  refine fs_iload_n (k0 := 1) (i := 1) dd_X2_readSum_74 rfl rfl ?_
  refine fs_callV (y := m_X2_product) (as := [.int v1]) dd_X2_readSum_75 me_X2_product lk_X2_83 in_X2_product se_X2_product ca_5 rfl rfl rfl (Nat.le_of_ble_eq_true rfl) (Nat.le_of_ble_eq_true rfl) rfl (hR 4 _ (by omega) _ _ _ H) (k2_Z fun r3 s4 H => ?_)
  refine fs_if_eq (tgt := 94) dd_X2_readSum_78 (by decide) (fun hc => ?_) (fun hc => ?_)
  · replace H := H.1 (bi_0 hc)
    refine fs_iconst (n := 0) (v := 0) dd_X2_readSum_94 (by decide) ?_
    refine fs_istore_n (k0 := 2) (i := 2) dd_X2_readSum_95 rfl (by decide) ?_
    refine fs_iincN (i := 3) (m := 1) (c := 1) dd_X2_readSum_96 rfl (by decide) (by decide) (fun x5 hx5 => ?_)
    replace H := H x5 hx5
    refine fs_goto (tgt := 8) dd_X2_readSum_99 (by decide) ?_
    refine fs_weak (ls2 := [.ref 5, .int v1, .int (bi false), .int x5, fz_J]) (fz_le_e (fz_le_e (fz_le_e (fz_le_e (fz_le_j fz_le_n))))) ?_
    exact hK8 H
  · replace H := H.2 (bi_1 hc)
    refine fs_aload_n (k0 := 0) (i := 0) dd_X2_readSum_81 rfl rfl ?_
    refine fs_iload (i := 4) dd_X2_readSum_82 rfl ?_
    refine fs_callV (y := m_X2_done) (as := [.int u0]) dd_X2_readSum_84 me_X2_done lk_X2_46 in_X2_done se_X2_done ca_5 rfl rfl rfl (Nat.le_of_ble_eq_true rfl) (Nat.le_of_ble_eq_true rfl) rfl (V_X2_done (by omega)  H) (k2_Z fun r6 s7 H => ?_)
    refine fs_if_eq (tgt := 94) dd_X2_readSum_87 (by decide) (fun hc => ?_) (fun hc => ?_)
    · replace H := H.1 (bi_0 hc)
      refine fs_iconst (n := 0) (v := 0) dd_X2_readSum_94 (by decide) ?_
      refine fs_istore_n (k0 := 2) (i := 2) dd_X2_readSum_95 rfl (by decide) ?_
      refine fs_iincN (i := 3) (m := 1) (c := 1) dd_X2_readSum_96 rfl (by decide) (by decide) (fun x8 hx8 => ?_)
      replace H := H x8 hx8
      refine fs_goto (tgt := 8) dd_X2_readSum_99 (by decide) ?_
      refine fs_weak (ls2 := [.ref 5, .int v1, .int (bi false), .int x8, fz_J]) (fz_le_e (fz_le_e (fz_le_e (fz_le_e (fz_le_j fz_le_n))))) ?_
      exact hK8 H
    · replace H := H.2 (bi_1 hc)
      refine fs_iconst (n := 1) (v := 1) dd_X2_readSum_90 (by decide) ?_
      refine fs_goto (tgt := 95) dd_X2_readSum_91 (by decide) ?_
      refine fs_istore_n (k0 := 2) (i := 2) dd_X2_readSum_95 rfl (by decide) ?_
      refine fs_iincN (i := 3) (m := 1) (c := 1) dd_X2_readSum_96 rfl (by decide) (by decide) (fun x9 hx9 => ?_)
      replace H := H x9 hx9
      refine fs_goto (tgt := 8) dd_X2_readSum_99 (by decide) ?_
      refine fs_weak (ls2 := [.ref 5, .int v1, .int (bi true), .int x9, fz_J]) (fz_le_e (fz_le_e (fz_le_e (fz_le_e (fz_le_j fz_le_n))))) ?_
      exact hK8 H
set_option maxRecDepth 100000 in
set_option maxHeartbeats 4000000 in
theorem V_nd_X2_readSum_43 {g : fz_G} {l : Launch} {R : Nat → Int32 → fz_s → (Bool → fz_s → Prop) → Prop} {m0 : Nat} {d : Nat} (hD : m0 + 1 ≤ d) (hm : 10 ≤ m0) (hR : OR g l m0 R)   {K8 : Int32 → Bool → Int32 → fz_s → Prop} {Q : Bool → fz_s → Prop} {v1 : Int32} {v3 : Int32} {s : fz_s} (hK8 : ∀ {v1 : Int32} {v2 : Bool} {v3 : Int32} {s : fz_s}, K8 v1 v2 v3 s → fs_V g l m_X2_readSum d true 8 [.ref 5, .int v1, .int (bi v2), .int v3, fz_J] [] s (rZ Q)) (H : nd_X2_readSum_43 R  K8 Q v1 v3 s) : fs_V g l m_X2_readSum d true 43 [.ref 5, .int v1, fz_J, .int v3, fz_J] [] s (rZ Q) := by
  obtain ⟨d, rfl⟩ : ∃ e, d = e + 1 := ⟨d - 1, by omega⟩
  unfold nd_X2_readSum_43 at H
  refine fs_aload_n (k0 := 0) (i := 0) dd_X2_readSum_43 rfl rfl ?_
  refine fs_getr (ci := 2) (j := 0) (q := 4) dd_X2_readSum_44 fl_X2_9 ca_5 rfl (Or.inl ⟨_, rfl⟩) rfl (by decide) ?_
  refine fs_bipush (n := 43) (v := 43) dd_X2_readSum_47 (by decide) ?_
  refine fs_callV (y := m_X8_isSign) (as := [.int 43]) dd_X2_readSum_49 me_X8_isSign lk_X2_55 in_X8_isSign se_X8_isSign ca_4 rfl rfl rfl (Nat.le_of_ble_eq_true rfl) (Nat.le_of_ble_eq_true rfl) rfl (V_X8_isSign (by omega)  H) (k2_Z fun r1 s2 H => ?_)
  refine fs_if_eq (tgt := 61) dd_X2_readSum_52 (by decide) (fun hc => ?_) (fun hc => ?_)
  · replace H := H.1 (bi_0 hc)
    refine fs_sipush (n := 20004) (v := 20004) dd_X2_readSum_61 (by decide) ?_
    refine fs_weak (ls2 := [.ref 5, .int v1, fz_J, .int v3, fz_J]) (fz_le_e (fz_le_e (fz_le_j (fz_le_e (fz_le_j fz_le_n))))) ?_
    exact V_nd_X2_readSum_64 hD hm hR  hK8 H
  · replace H := H.2 (bi_1 hc)
    refine fs_sipush (n := 20003) (v := 20003) dd_X2_readSum_55 (by decide) ?_
    refine fs_goto (tgt := 64) dd_X2_readSum_58 (by decide) ?_
    refine fs_weak (ls2 := [.ref 5, .int v1, fz_J, .int v3, fz_J]) (fz_le_e (fz_le_e (fz_le_j (fz_le_e (fz_le_j fz_le_n))))) ?_
    exact V_nd_X2_readSum_64 hD hm hR  hK8 H
set_option maxRecDepth 100000 in
set_option maxHeartbeats 4000000 in
theorem V_nd_X2_readSum_8 {g : fz_G} {l : Launch} {R : Nat → Int32 → fz_s → (Bool → fz_s → Prop) → Prop} {m0 : Nat} {d : Nat} (hD : m0 + 1 ≤ d) (hm : 10 ≤ m0) (hR : OR g l m0 R)   {K8 : Int32 → Bool → Int32 → fz_s → Prop} {Q : Bool → fz_s → Prop} {v1 : Int32} {v2 : Bool} {v3 : Int32} {s : fz_s} (hK8 : ∀ {v1 : Int32} {v2 : Bool} {v3 : Int32} {s : fz_s}, K8 v1 v2 v3 s → fs_V g l m_X2_readSum d true 8 [.ref 5, .int v1, .int (bi v2), .int v3, fz_J] [] s (rZ Q)) (H : nd_X2_readSum_8 R  K8 Q v1 v2 v3 s) : fs_V g l m_X2_readSum d true 8 [.ref 5, .int v1, .int (bi v2), .int v3, fz_J] [] s (rZ Q) := by
  obtain ⟨d, rfl⟩ : ∃ e, d = e + 1 := ⟨d - 1, by omega⟩
  unfold nd_X2_readSum_8 at H
  refine fs_iload_n (k0 := 3) (i := 3) dd_X2_readSum_8 rfl rfl ?_
  refine fs_sipush (n := 1600) (v := 1600) dd_X2_readSum_9 (by decide) ?_
  refine fs_icmp_ge (tgt := 102) dd_X2_readSum_12 (by decide) (fun hc => ?_) (fun hc => ?_)
  · replace H := H.1 hc
    refine fs_iload_n (k0 := 2) (i := 2) dd_X2_readSum_102 rfl rfl ?_
    exact fs_zret v2 dd_X2_readSum_103 rfl rfl H
  · replace H := H.2 hc
    refine fs_iload_n (k0 := 2) (i := 2) dd_X2_readSum_15 rfl rfl ?_
    refine fs_if_eq (tgt := 102) dd_X2_readSum_16 (by decide) (fun hc => ?_) (fun hc => ?_)
    · replace H := H.1 (bi_0 hc)
      refine fs_iload_n (k0 := 2) (i := 2) dd_X2_readSum_102 rfl rfl ?_
      exact fs_zret v2 dd_X2_readSum_103 rfl rfl H
    · replace H := H.2 (bi_1 hc)
      refine fs_aload_n (k0 := 0) (i := 0) dd_X2_readSum_19 rfl rfl ?_
      refine fs_getr (ci := 2) (j := 0) (q := 4) dd_X2_readSum_20 fl_X2_9 ca_5 rfl (Or.inl ⟨_, rfl⟩) rfl (by decide) ?_
      refine fs_bipush (n := 43) (v := 43) dd_X2_readSum_23 (by decide) ?_
      refine fs_callV (y := m_X8_isSign) (as := [.int 43]) dd_X2_readSum_25 me_X8_isSign lk_X2_55 in_X8_isSign se_X8_isSign ca_4 rfl rfl rfl (Nat.le_of_ble_eq_true rfl) (Nat.le_of_ble_eq_true rfl) rfl (V_X8_isSign (by omega)  H) (k2_Z fun r1 s2 H => ?_)
      refine fs_if_ne (tgt := 43) dd_X2_readSum_28 (by decide) (fun hc => ?_) (fun hc => ?_)
      · replace H := H.1 (bi_1 hc)
        refine fs_weak (ls2 := [.ref 5, .int v1, fz_J, .int v3, fz_J]) (fz_le_e (fz_le_e (fz_le_j (fz_le_e (fz_le_j fz_le_n))))) ?_
        exact V_nd_X2_readSum_43 hD hm hR  hK8 H
      · replace H := H.2 (bi_0 hc)
        refine fs_aload_n (k0 := 0) (i := 0) dd_X2_readSum_31 rfl rfl ?_
        refine fs_getr (ci := 2) (j := 0) (q := 4) dd_X2_readSum_32 fl_X2_9 ca_5 rfl (Or.inl ⟨_, rfl⟩) rfl (by decide) ?_
        refine fs_bipush (n := 45) (v := 45) dd_X2_readSum_35 (by decide) ?_
        refine fs_callV (y := m_X8_isSign) (as := [.int 45]) dd_X2_readSum_37 me_X8_isSign lk_X2_55 in_X8_isSign se_X8_isSign ca_4 rfl rfl rfl (Nat.le_of_ble_eq_true rfl) (Nat.le_of_ble_eq_true rfl) rfl (V_X8_isSign (by omega)  H) (k2_Z fun r3 s4 H => ?_)
        refine fs_if_eq (tgt := 102) dd_X2_readSum_40 (by decide) (fun hc => ?_) (fun hc => ?_)
        · replace H := H.1 (bi_0 hc)
          refine fs_iload_n (k0 := 2) (i := 2) dd_X2_readSum_102 rfl rfl ?_
          exact fs_zret v2 dd_X2_readSum_103 rfl rfl H
        · replace H := H.2 (bi_1 hc)
          refine fs_weak (ls2 := [.ref 5, .int v1, fz_J, .int v3, fz_J]) (fz_le_e (fz_le_e (fz_le_j (fz_le_e (fz_le_j fz_le_n))))) ?_
          exact V_nd_X2_readSum_43 hD hm hR  hK8 H
set_option maxRecDepth 100000 in
set_option maxHeartbeats 4000000 in
theorem V_lp_X2_readSum_8 {g : fz_G} {l : Launch} {R : Nat → Int32 → fz_s → (Bool → fz_s → Prop) → Prop} {m0 : Nat} {d : Nat} (hD : m0 + 1 ≤ d) (hm : 10 ≤ m0) (hR : OR g l m0 R)    {Q : Bool → fz_s → Prop}  (n : Nat) : ∀ {v1 : Int32} {v2 : Bool} {v3 : Int32} {s : fz_s}, lp_X2_readSum_8 R   Q n v1 v2 v3 s → fs_V g l m_X2_readSum d true 8 [.ref 5, .int v1, .int (bi v2), .int v3, fz_J] [] s (rZ Q) := by
  induction n with
  | zero => intro v1 v2 v3 s H; exact H.elim
  | succ n ih => intro v1 v2 v3 s H; exact V_nd_X2_readSum_8 hD hm hR  (fun H => ih H) H
set_option maxRecDepth 100000 in
set_option maxHeartbeats 4000000 in
theorem V_X2_readSum {g : fz_G} {l : Launch} {R : Nat → Int32 → fz_s → (Bool → fz_s → Prop) → Prop} {m0 : Nat} {d : Nat} (hD : m0 + 1 ≤ d) (hm : 10 ≤ m0) (hR : OR g l m0 R) {p0 : Int32}  {s : fz_s} {Q : Bool → fz_s → Prop} (H : wp_X2_readSum R p0 s Q) : fs_V g l m_X2_readSum d true 0 (fz_en [.ref 5, .int p0] 5) [] s (rZ Q) := by
  obtain ⟨d, rfl⟩ : ∃ e, d = e + 1 := ⟨d - 1, by omega⟩
  unfold wp_X2_readSum at H
  refine fs_aload_n (k0 := 0) (i := 0) dd_X2_readSum_0 rfl rfl ?_
  refine fs_iload_n (k0 := 1) (i := 1) dd_X2_readSum_1 rfl rfl ?_
  refine fs_callV (y := m_X2_product) (as := [.int p0]) dd_X2_readSum_2 me_X2_product lk_X2_83 in_X2_product se_X2_product ca_5 rfl rfl rfl (Nat.le_of_ble_eq_true rfl) (Nat.le_of_ble_eq_true rfl) rfl (hR 4 _ (by omega) _ _ _ H) (k2_Z fun r1 s2 H => ?_)
  refine fs_istore_n (k0 := 2) (i := 2) dd_X2_readSum_5 rfl (by decide) ?_
  refine fs_iconst (n := 0) (v := 0) dd_X2_readSum_6 (by decide) ?_
  refine fs_istore_n (k0 := 3) (i := 3) dd_X2_readSum_7 rfl (by decide) ?_
  refine fs_weak (ls2 := [.ref 5, .int p0, .int (bi r1), .int 0, fz_J]) (fz_le_e (fz_le_e (fz_le_e (fz_le_e (fz_le_j fz_le_n))))) ?_
  exact V_lp_X2_readSum_8 hD hm hR   2048 H

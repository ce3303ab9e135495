theorem dd_X6_farthestYear_0 : decode m_X6_farthestYear.2.1 0 = .ok (.bipush 30, 2) := by decide +kernel
theorem dd_X6_farthestYear_2 : decode m_X6_farthestYear.2.1 2 = .ok (.sipush 999, 3) := by decide +kernel
theorem dd_X6_farthestYear_5 : decode m_X6_farthestYear.2.1 5 = .ok (.aload_n 0, 1) := by decide +kernel
theorem dd_X6_farthestYear_6 : decode m_X6_farthestYear.2.1 6 = .ok (.getfield 52, 3) := by decide +kernel
theorem dd_X6_farthestYear_9 : decode m_X6_farthestYear.2.1 9 = .ok (.isub, 1) := by decide +kernel
theorem dd_X6_farthestYear_10 : decode m_X6_farthestYear.2.1 10 = .ok (.invokestatic 55, 3) := by decide +kernel
theorem dd_X6_farthestYear_13 : decode m_X6_farthestYear.2.1 13 = .ok (.ireturn, 1) := by decide +kernel
def wp_X6_farthestYear (w0 : Nat) (s : fz_s) (Q : Int32 → fz_s → Prop) : Prop :=
  Q (if (999 - (s.1 w0 5)) < 30 then (999 - (s.1 w0 5)) else 30) s
set_option maxRecDepth 100000 in
set_option maxHeartbeats 4000000 in
theorem V_X6_farthestYear {g : fz_G} {l : Launch} {d : Nat} (hD : 1 ≤ d) {w0 : Nat} (hw0 : fz_at true w0 10 7) {s : fz_s} {Q : Int32 → fz_s → Prop} (H : wp_X6_farthestYear w0 s Q) : fs_V g l m_X6_farthestYear d true 0 (fz_en [.ref w0] 1) [] s (rI Q) := by
  obtain ⟨d, rfl⟩ : ∃ e, d = e + 1 := ⟨d - 1, by omega⟩
  unfold wp_X6_farthestYear at H
  refine fs_bipush (n := 30) (v := 30) dd_X6_farthestYear_0 (by decide) ?_
  refine fs_sipush (n := 999) (v := 999) dd_X6_farthestYear_2 (by decide) ?_
  refine fs_aload_n (k0 := 0) (i := 0) dd_X6_farthestYear_5 rfl rfl ?_
  refine fs_geti (ci := 10) (j := 5) dd_X6_farthestYear_6 fl_X6_52 hw0 rfl (Or.inl rfl) ?_
  refine fs_isub dd_X6_farthestYear_9 ?_
  refine fs_mmin dd_X6_farthestYear_10 lk_X6_55 (Nat.le_of_ble_eq_true rfl) ?_
  exact fs_iret dd_X6_farthestYear_13 rfl H
theorem dd_X6_cell_0 : decode m_X6_cell.2.1 0 = .ok (.iload_n 0, 1) := by decide +kernel
theorem dd_X6_cell_1 : decode m_X6_cell.2.1 1 = .ok (.bipush 31, 2) := by decide +kernel
theorem dd_X6_cell_3 : decode m_X6_cell.2.1 3 = .ok (.imul, 1) := by decide +kernel
theorem dd_X6_cell_4 : decode m_X6_cell.2.1 4 = .ok (.iload_n 1, 1) := by decide +kernel
theorem dd_X6_cell_5 : decode m_X6_cell.2.1 5 = .ok (.iadd, 1) := by decide +kernel
theorem dd_X6_cell_6 : decode m_X6_cell.2.1 6 = .ok (.iconst 2, 1) := by decide +kernel
theorem dd_X6_cell_7 : decode m_X6_cell.2.1 7 = .ok (.imul, 1) := by decide +kernel
theorem dd_X6_cell_8 : decode m_X6_cell.2.1 8 = .ok (.iload_n 2, 1) := by decide +kernel
theorem dd_X6_cell_9 : decode m_X6_cell.2.1 9 = .ok (.iadd, 1) := by decide +kernel
theorem dd_X6_cell_10 : decode m_X6_cell.2.1 10 = .ok (.ireturn, 1) := by decide +kernel
def wp_X6_cell (p0 : Int32) (p1 : Int32) (p2 : Int32) (s : fz_s) (Q : Int32 → fz_s → Prop) : Prop :=
  Q ((((p0 * 31) + p1) * 2) + p2) s
set_option maxRecDepth 100000 in
set_option maxHeartbeats 4000000 in
theorem V_X6_cell {g : fz_G} {l : Launch} {d : Nat} (hD : 0 ≤ d) {p0 : Int32} {p1 : Int32} {p2 : Int32}  {s : fz_s} {Q : Int32 → fz_s → Prop} (H : wp_X6_cell p0 p1 p2 s Q) : fs_V g l m_X6_cell d true 0 (fz_en [.int p0, .int p1, .int p2] 3) [] s (rI Q) := by
  unfold wp_X6_cell at H
  refine fs_iload_n (k0 := 0) (i := 0) dd_X6_cell_0 rfl rfl ?_
  refine fs_bipush (n := 31) (v := 31) dd_X6_cell_1 (by decide) ?_
  refine fs_imul dd_X6_cell_3 ?_
  refine fs_iload_n (k0 := 1) (i := 1) dd_X6_cell_4 rfl rfl ?_
  refine fs_iadd dd_X6_cell_5 ?_
  refine fs_iconst (n := 2) (v := 2) dd_X6_cell_6 (by decide) ?_
  refine fs_imul dd_X6_cell_7 ?_
  refine fs_iload_n (k0 := 2) (i := 2) dd_X6_cell_8 rfl rfl ?_
  refine fs_iadd dd_X6_cell_9 ?_
  exact fs_iret dd_X6_cell_10 rfl H
theorem dd_X6_foresee_0 : decode m_X6_foresee.2.1 0 = .ok (.iload_n 3, 1) := by decide +kernel
theorem dd_X6_foresee_1 : decode m_X6_foresee.2.1 1 = .ok (.aload_n 1, 1) := by decide +kernel
theorem dd_X6_foresee_2 : decode m_X6_foresee.2.1 2 = .ok (.invokestatic 58, 3) := by decide +kernel
theorem dd_X6_foresee_5 : decode m_X6_foresee.2.1 5 = .ok (.invokestatic 55, 3) := by decide +kernel
theorem dd_X6_foresee_8 : decode m_X6_foresee.2.1 8 = .ok (.istore 4, 2) := by decide +kernel
theorem dd_X6_foresee_10 : decode m_X6_foresee.2.1 10 = .ok (.iconst 0, 1) := by decide +kernel
theorem dd_X6_foresee_11 : decode m_X6_foresee.2.1 11 = .ok (.istore 5, 2) := by decide +kernel
theorem dd_X6_foresee_13 : decode m_X6_foresee.2.1 13 = .ok (.iload 5, 2) := by decide +kernel
theorem dd_X6_foresee_15 : decode m_X6_foresee.2.1 15 = .ok (.bipush 10, 2) := by decide +kernel
theorem dd_X6_foresee_17 : decode m_X6_foresee.2.1 17 = .ok (.if_icmp .ge 106, 3) := by decide +kernel
theorem dd_X6_foresee_20 : decode m_X6_foresee.2.1 20 = .ok (.aload_n 0, 1) := by decide +kernel
theorem dd_X6_foresee_21 : decode m_X6_foresee.2.1 21 = .ok (.getfield 12, 3) := by decide +kernel
theorem dd_X6_foresee_24 : decode m_X6_foresee.2.1 24 = .ok (.aload_n 1, 1) := by decide +kernel
theorem dd_X6_foresee_25 : decode m_X6_foresee.2.1 25 = .ok (.invokevirtual 62, 3) := by decide +kernel
theorem dd_X6_foresee_28 : decode m_X6_foresee.2.1 28 = .ok (.aload_n 0, 1) := by decide +kernel
theorem dd_X6_foresee_29 : decode m_X6_foresee.2.1 29 = .ok (.getfield 12, 3) := by decide +kernel
theorem dd_X6_foresee_32 : decode m_X6_foresee.2.1 32 = .ok (.getfield 66, 3) := by decide +kernel
theorem dd_X6_foresee_35 : decode m_X6_foresee.2.1 35 = .ok (.iload_n 2, 1) := by decide +kernel
theorem dd_X6_foresee_36 : decode m_X6_foresee.2.1 36 = .ok (.iload 5, 2) := by decide +kernel
theorem dd_X6_foresee_38 : decode m_X6_foresee.2.1 38 = .ok (.iastore, 1) := by decide +kernel
theorem dd_X6_foresee_39 : decode m_X6_foresee.2.1 39 = .ok (.iconst 0, 1) := by decide +kernel
theorem dd_X6_foresee_40 : decode m_X6_foresee.2.1 40 = .ok (.istore 6, 2) := by decide +kernel
theorem dd_X6_foresee_42 : decode m_X6_foresee.2.1 42 = .ok (.iload 6, 2) := by decide +kernel
theorem dd_X6_foresee_44 : decode m_X6_foresee.2.1 44 = .ok (.iload 4, 2) := by decide +kernel
theorem dd_X6_foresee_46 : decode m_X6_foresee.2.1 46 = .ok (.if_icmp .gt 71, 3) := by decide +kernel
theorem dd_X6_foresee_49 : decode m_X6_foresee.2.1 49 = .ok (.aload_n 0, 1) := by decide +kernel
theorem dd_X6_foresee_50 : decode m_X6_foresee.2.1 50 = .ok (.getfield 22, 3) := by decide +kernel
theorem dd_X6_foresee_53 : decode m_X6_foresee.2.1 53 = .ok (.iload 5, 2) := by decide +kernel
theorem dd_X6_foresee_55 : decode m_X6_foresee.2.1 55 = .ok (.iload 6, 2) := by decide +kernel
theorem dd_X6_foresee_57 : decode m_X6_foresee.2.1 57 = .ok (.iconst 0, 1) := by decide +kernel
theorem dd_X6_foresee_58 : decode m_X6_foresee.2.1 58 = .ok (.invokestatic 69, 3) := by decide +kernel
theorem dd_X6_foresee_61 : decode m_X6_foresee.2.1 61 = .ok (.aload_n 0, 1) := by decide +kernel
theorem dd_X6_foresee_62 : decode m_X6_foresee.2.1 62 = .ok (.getfield 12, 3) := by decide +kernel
theorem dd_X6_foresee_65 : decode m_X6_foresee.2.1 65 = .ok (.getfield 73, 3) := by decide +kernel
theorem dd_X6_foresee_68 : decode m_X6_foresee.2.1 68 = .ok (.iconst 0, 1) := by decide +kernel
theorem dd_X6_foresee_69 : decode m_X6_foresee.2.1 69 = .ok (.iaload, 1) := by decide +kernel
theorem dd_X6_foresee_70 : decode m_X6_foresee.2.1 70 = .ok (.iastore, 1) := by decide +kernel
theorem dd_X6_foresee_71 : decode m_X6_foresee.2.1 71 = .ok (.aload_n 0, 1) := by decide +kernel
theorem dd_X6_foresee_72 : decode m_X6_foresee.2.1 72 = .ok (.getfield 22, 3) := by decide +kernel
theorem dd_X6_foresee_75 : decode m_X6_foresee.2.1 75 = .ok (.iload 5, 2) := by decide +kernel
theorem dd_X6_foresee_77 : decode m_X6_foresee.2.1 77 = .ok (.iload 6, 2) := by decide +kernel
theorem dd_X6_foresee_79 : decode m_X6_foresee.2.1 79 = .ok (.iconst 1, 1) := by decide +kernel
theorem dd_X6_foresee_80 : decode m_X6_foresee.2.1 80 = .ok (.invokestatic 69, 3) := by decide +kernel
theorem dd_X6_foresee_83 : decode m_X6_foresee.2.1 83 = .ok (.aload_n 0, 1) := by decide +kernel
theorem dd_X6_foresee_84 : decode m_X6_foresee.2.1 84 = .ok (.getfield 12, 3) := by decide +kernel
theorem dd_X6_foresee_87 : decode m_X6_foresee.2.1 87 = .ok (.getfield 73, 3) := by decide +kernel
theorem dd_X6_foresee_90 : decode m_X6_foresee.2.1 90 = .ok (.iconst 1, 1) := by decide +kernel
theorem dd_X6_foresee_91 : decode m_X6_foresee.2.1 91 = .ok (.iaload, 1) := by decide +kernel
theorem dd_X6_foresee_92 : decode m_X6_foresee.2.1 92 = .ok (.iastore, 1) := by decide +kernel
theorem dd_X6_foresee_93 : decode m_X6_foresee.2.1 93 = .ok (.iload 6, 2) := by decide +kernel
theorem dd_X6_foresee_95 : decode m_X6_foresee.2.1 95 = .ok (.iload 4, 2) := by decide +kernel
theorem dd_X6_foresee_97 : decode m_X6_foresee.2.1 97 = .ok (.if_icmp .ge 14, 3) := by decide +kernel
theorem dd_X6_foresee_100 : decode m_X6_foresee.2.1 100 = .ok (.aload_n 0, 1) := by decide +kernel
theorem dd_X6_foresee_101 : decode m_X6_foresee.2.1 101 = .ok (.getfield 28, 3) := by decide +kernel
theorem dd_X6_foresee_104 : decode m_X6_foresee.2.1 104 = .ok (.aload_n 0, 1) := by decide +kernel
theorem dd_X6_foresee_105 : decode m_X6_foresee.2.1 105 = .ok (.getfield 12, 3) := by decide +kernel
theorem dd_X6_foresee_108 : decode m_X6_foresee.2.1 108 = .ok (.invokevirtual 76, 3) := by decide +kernel
theorem dd_X6_foresee_111 : decode m_X6_foresee.2.1 111 = .ok (.iinc 6 1, 3) := by decide +kernel
theorem dd_X6_foresee_114 : decode m_X6_foresee.2.1 114 = .ok (.goto (-72), 3) := by decide +kernel
theorem dd_X6_foresee_117 : decode m_X6_foresee.2.1 117 = .ok (.iinc 5 1, 3) := by decide +kernel
theorem dd_X6_foresee_120 : decode m_X6_foresee.2.1 120 = .ok (.goto (-107), 3) := by decide +kernel
theorem dd_X6_foresee_123 : decode m_X6_foresee.2.1 123 = .ok (.return_, 1) := by decide +kernel
def nd_X6_foresee_42 (w0 : Nat) (K13 : Int32 → Int32 → Int32 → fz_s → Prop) (K42 : Int32 → Int32 → Int32 → Int32 → fz_s → Prop) (Q : fz_s → Prop) (v2 : Int32) (v4 : Int32) (v5 : Int32) (v6 : Int32) (s : fz_s) : Prop :=
  ((v4 < v6 → ∀ x1 : Int32, x1 = v5 + 1 → K13 v2 v4 x1 s) ∧ (¬ v4 < v6 → wp_X6_cell v5 v6 0 s (fun r2 s3 => vp_in r2 620 ∧ ∀ s4 : fz_s, s4 = si s3 192 r2.toNatClampNeg (s3.1 186 (0 : Int32).toNatClampNeg) → wp_X6_cell v5 v6 1 s4 (fun r5 s6 => vp_in r5 620 ∧ ∀ s7 : fz_s, s7 = si s6 192 r5.toNatClampNeg (s6.1 186 (1 : Int32).toNatClampNeg) → ((v4 ≤ v6 → ∀ x8 : Int32, x8 = v6 + 1 → K42 v2 v4 v5 x8 s7) ∧ (¬ v4 ≤ v6 → wp_X0_ordinaryYear 185 s7 (fun s10 => ∀ x11 : Int32, x11 = v6 + 1 → K42 v2 v4 v5 x11 s10)))))))
def lp_X6_foresee_42 (w0 : Nat) (K13 : Int32 → Int32 → Int32 → fz_s → Prop) (Q : fz_s → Prop) : Nat → Int32 → Int32 → Int32 → Int32 → fz_s → Prop
  | 0 => fun _ _ _ _ _ => False
  | n + 1 => nd_X6_foresee_42 w0 K13 (lp_X6_foresee_42 w0 K13 Q n) Q
def nd_X6_foresee_13 (w0 : Nat) (K13 : Int32 → Int32 → Int32 → fz_s → Prop) (Q : fz_s → Prop) (v2 : Int32) (v4 : Int32) (v5 : Int32) (s : fz_s) : Prop :=
  ((10 ≤ v5 → Q s) ∧ (¬ 10 ≤ v5 → wp_X10_take 185 w0 s (fun s2 => vp_in v2 8 ∧ ∀ s3 : fz_s, s3 = si s2 188 v2.toNatClampNeg v5 → lp_X6_foresee_42 w0 K13 Q 2048 v2 v4 v5 0 s3)))
def lp_X6_foresee_13 (w0 : Nat)  (Q : fz_s → Prop) : Nat → Int32 → Int32 → Int32 → fz_s → Prop
  | 0 => fun _ _ _ _ => False
  | n + 1 => nd_X6_foresee_13 w0 (lp_X6_foresee_13 w0  Q n) Q
def wp_X6_foresee (w0 : Nat) (p1 : Int32) (p2 : Int32) (s : fz_s) (Q : fz_s → Prop) : Prop :=
  wp_X6_farthestYear w0 s (fun r1 s2 => ∀ x3 : Int32, x3 = (if r1 < p2 then r1 else p2) → lp_X6_foresee_13 w0  Q 2048 p1 x3 0 s2)
set_option maxRecDepth 100000 in
set_option maxHeartbeats 4000000 in
theorem V_nd_X6_foresee_42 {g : fz_G} {l : Launch} {d : Nat} (hD : 7 ≤ d) {w0 : Nat} (hw0 : fz_at true w0 10 7) {K13 : Int32 → Int32 → Int32 → fz_s → Prop} {K42 : Int32 → Int32 → Int32 → Int32 → fz_s → Prop} {Q : fz_s → Prop} {v2 : Int32} {v4 : Int32} {v5 : Int32} {v6 : Int32} {s : fz_s} (hK13 : ∀ {v2 : Int32} {v4 : Int32} {v5 : Int32} {s : fz_s}, K13 v2 v4 v5 s → fs_V g l m_X6_foresee d true 13 [.ref 184, .ref w0, .int v2, fz_J, .int v4, .int v5, fz_J] [] s (rV Q)) (hK42 : ∀ {v2 : Int32} {v4 : Int32} {v5 : Int32} {v6 : Int32} {s : fz_s}, K42 v2 v4 v5 v6 s → fs_V g l m_X6_foresee d true 42 [.ref 184, .ref w0, .int v2, fz_J, .int v4, .int v5, .int v6] [] s (rV Q)) (H : nd_X6_foresee_42 w0 K13 K42 Q v2 v4 v5 v6 s) : fs_V g l m_X6_foresee d true 42 [.ref 184, .ref w0, .int v2, fz_J, .int v4, .int v5, .int v6] [] s (rV Q) := by
  obtain ⟨d, rfl⟩ : ∃ e, d = e + 1 := ⟨d - 1, by omega⟩
  unfold nd_X6_foresee_42 at H
  refine fs_iload (i := 6) dd_X6_foresee_42 rfl ?_
  refine fs_iload (i := 4) dd_X6_foresee_44 rfl ?_
  refine fs_icmp_gt (tgt := 117) dd_X6_foresee_46 (by decide) (fun hc => ?_) (fun hc => ?_)
  · replace H := H.1 hc
    refine fs_iincN (i := 5) (m := 1) (c := 1) dd_X6_foresee_117 rfl (by decide) (by decide) (fun x1 hx1 => ?_)
    replace H := H x1 hx1
    refine fs_goto (tgt := 13) dd_X6_foresee_120 (by decide) ?_
    refine fs_weak (ls2 := [.ref 184, .ref w0, .int v2, fz_J, .int v4, .int x1, fz_J]) (fz_le_e (fz_le_e (fz_le_e (fz_le_j (fz_le_e (fz_le_e (fz_le_j fz_le_n))))))) ?_
    exact hK13 H
  · replace H := H.2 hc
    refine fs_aload_n (k0 := 0) (i := 0) dd_X6_foresee_49 rfl rfl ?_
    refine fs_getr (ci := 6) (j := 3) (q := 192) dd_X6_foresee_50 fl_X6_22 ca_184 rfl (Or.inr ⟨_, rfl⟩) rfl (by decide) ?_
    refine fs_iload (i := 5) dd_X6_foresee_53 rfl ?_
    refine fs_iload (i := 6) dd_X6_foresee_55 rfl ?_
    refine fs_iconst (n := 0) (v := 0) dd_X6_foresee_57 (by decide) ?_
    refine fs_callS (y := m_X6_cell) (as := [.int v5, .int v6, .int 0]) dd_X6_foresee_58 me_X6_cell (Or.inl lk_X6_69) st_X6_cell rfl (Nat.le_of_ble_eq_true rfl) (Nat.le_of_ble_eq_true rfl) rfl (V_X6_cell (by omega)  H) (k2_I fun r2 s3 H => ?_)
    refine fs_aload_n (k0 := 0) (i := 0) dd_X6_foresee_61 rfl rfl ?_
    refine fs_getr (ci := 6) (j := 1) (q := 185) dd_X6_foresee_62 fl_X6_12 ca_184 rfl (Or.inl ⟨_, rfl⟩) rfl (by decide) ?_
    refine fs_getr (ci := 10) (j := 0) (q := 186) dd_X6_foresee_65 fl_X6_73 ca_185 rfl (Or.inr ⟨_, rfl⟩) rfl (by decide) ?_
    refine fs_iconst (n := 0) (v := 0) dd_X6_foresee_68 (by decide) ?_
    refine fs_iald dd_X6_foresee_69 ca_186 (vp_in_nI (n := 0) (by decide) (by decide)) ?_
    have hb := H.1
    replace H := H.2
    refine fs_iast dd_X6_foresee_70 ca_192 hb ?_
    refine fs_tops (fun s4 hs4 => ?_)
    replace H := H s4 hs4
    refine fs_aload_n (k0 := 0) (i := 0) dd_X6_foresee_71 rfl rfl ?_
    refine fs_getr (ci := 6) (j := 3) (q := 192) dd_X6_foresee_72 fl_X6_22 ca_184 rfl (Or.inr ⟨_, rfl⟩) rfl (by decide) ?_
    refine fs_iload (i := 5) dd_X6_foresee_75 rfl ?_
    refine fs_iload (i := 6) dd_X6_foresee_77 rfl ?_
    refine fs_iconst (n := 1) (v := 1) dd_X6_foresee_79 (by decide) ?_
    refine fs_callS (y := m_X6_cell) (as := [.int v5, .int v6, .int 1]) dd_X6_foresee_80 me_X6_cell (Or.inl lk_X6_69) st_X6_cell rfl (Nat.le_of_ble_eq_true rfl) (Nat.le_of_ble_eq_true rfl) rfl (V_X6_cell (by omega)  H) (k2_I fun r5 s6 H => ?_)
    refine fs_aload_n (k0 := 0) (i := 0) dd_X6_foresee_83 rfl rfl ?_
    refine fs_getr (ci := 6) (j := 1) (q := 185) dd_X6_foresee_84 fl_X6_12 ca_184 rfl (Or.inl ⟨_, rfl⟩) rfl (by decide) ?_
    refine fs_getr (ci := 10) (j := 0) (q := 186) dd_X6_foresee_87 fl_X6_73 ca_185 rfl (Or.inr ⟨_, rfl⟩) rfl (by decide) ?_
    refine fs_iconst (n := 1) (v := 1) dd_X6_foresee_90 (by decide) ?_
    refine fs_iald dd_X6_foresee_91 ca_186 (vp_in_nI (n := 1) (by decide) (by decide)) ?_
    have hb := H.1
    replace H := H.2
    refine fs_iast dd_X6_foresee_92 ca_192 hb ?_
    refine fs_tops (fun s7 hs7 => ?_)
    replace H := H s7 hs7
    refine fs_iload (i := 6) dd_X6_foresee_93 rfl ?_
    refine fs_iload (i := 4) dd_X6_foresee_95 rfl ?_
    refine fs_icmp_ge (tgt := 111) dd_X6_foresee_97 (by decide) (fun hc => ?_) (fun hc => ?_)
    · replace H := H.1 hc
      refine fs_iincN (i := 6) (m := 1) (c := 1) dd_X6_foresee_111 rfl (by decide) (by decide) (fun x8 hx8 => ?_)
      replace H := H x8 hx8
      refine fs_goto (tgt := 42) dd_X6_foresee_114 (by decide) ?_
      refine fs_weak (ls2 := [.ref 184, .ref w0, .int v2, fz_J, .int v4, .int v5, .int x8]) (fz_le_e (fz_le_e (fz_le_e (fz_le_j (fz_le_e (fz_le_e (fz_le_e fz_le_n))))))) ?_
      exact hK42 H
    · replace H := H.2 hc
      refine fs_aload_n (k0 := 0) (i := 0) dd_X6_foresee_100 rfl rfl ?_
      refine fs_getr (ci := 6) (j := 0) (q := 30) dd_X6_foresee_101 fl_X6_28 ca_184 rfl (Or.inl ⟨_, rfl⟩) rfl (by decide) ?_
      refine fs_aload_n (k0 := 0) (i := 0) dd_X6_foresee_104 rfl rfl ?_
      refine fs_getr (ci := 6) (j := 1) (q := 185) dd_X6_foresee_105 fl_X6_12 ca_184 rfl (Or.inl ⟨_, rfl⟩) rfl (by decide) ?_
      refine fs_callV (y := m_X0_ordinaryYear) (as := [.ref 185]) dd_X6_foresee_108 me_X0_ordinaryYear lk_X6_76 in_X0_ordinaryYear se_X0_ordinaryYear ca_30 rfl rfl rfl (Nat.le_of_ble_eq_true rfl) (Nat.le_of_ble_eq_true rfl) rfl (V_X0_ordinaryYear (by omega) ca_185 H) (k2_V fun s10 H => ?_)
      refine fs_iincN (i := 6) (m := 1) (c := 1) dd_X6_foresee_111 rfl (by decide) (by decide) (fun x11 hx11 => ?_)
      replace H := H x11 hx11
      refine fs_goto (tgt := 42) dd_X6_foresee_114 (by decide) ?_
      refine fs_weak (ls2 := [.ref 184, .ref w0, .int v2, fz_J, .int v4, .int v5, .int x11]) (fz_le_e (fz_le_e (fz_le_e (fz_le_j (fz_le_e (fz_le_e (fz_le_e fz_le_n))))))) ?_
      exact hK42 H
set_option maxRecDepth 100000 in
set_option maxHeartbeats 4000000 in
theorem V_lp_X6_foresee_42 {g : fz_G} {l : Launch} {d : Nat} (hD : 7 ≤ d) {w0 : Nat} (hw0 : fz_at true w0 10 7) {K13 : Int32 → Int32 → Int32 → fz_s → Prop} {Q : fz_s → Prop} (hK13 : ∀ {v2 : Int32} {v4 : Int32} {v5 : Int32} {s : fz_s}, K13 v2 v4 v5 s → fs_V g l m_X6_foresee d true 13 [.ref 184, .ref w0, .int v2, fz_J, .int v4, .int v5, fz_J] [] s (rV Q)) (n : Nat) : ∀ {v2 : Int32} {v4 : Int32} {v5 : Int32} {v6 : Int32} {s : fz_s}, lp_X6_foresee_42 w0 K13 Q n v2 v4 v5 v6 s → fs_V g l m_X6_foresee d true 42 [.ref 184, .ref w0, .int v2, fz_J, .int v4, .int v5, .int v6] [] s (rV Q) := by
  induction n with
  | zero => intro v2 v4 v5 v6 s H; exact H.elim
  | succ n ih => intro v2 v4 v5 v6 s H; exact V_nd_X6_foresee_42 hD hw0 hK13 (fun H => ih H) H
set_option maxRecDepth 100000 in
set_option maxHeartbeats 4000000 in
theorem V_nd_X6_foresee_13 {g : fz_G} {l : Launch} {d : Nat} (hD : 7 ≤ d) {w0 : Nat} (hw0 : fz_at true w0 10 7) {K13 : Int32 → Int32 → Int32 → fz_s → Prop} {Q : fz_s → Prop} {v2 : Int32} {v4 : Int32} {v5 : Int32} {s : fz_s} (hK13 : ∀ {v2 : Int32} {v4 : Int32} {v5 : Int32} {s : fz_s}, K13 v2 v4 v5 s → fs_V g l m_X6_foresee d true 13 [.ref 184, .ref w0, .int v2, fz_J, .int v4, .int v5, fz_J] [] s (rV Q)) (H : nd_X6_foresee_13 w0 K13 Q v2 v4 v5 s) : fs_V g l m_X6_foresee d true 13 [.ref 184, .ref w0, .int v2, fz_J, .int v4, .int v5, fz_J] [] s (rV Q) := by
  obtain ⟨d, rfl⟩ : ∃ e, d = e + 1 := ⟨d - 1, by omega⟩
  unfold nd_X6_foresee_13 at H
  refine fs_iload (i := 5) dd_X6_foresee_13 rfl ?_
  refine fs_bipush (n := 10) (v := 10) dd_X6_foresee_15 (by decide) ?_
  refine fs_icmp_ge (tgt := 123) dd_X6_foresee_17 (by decide) (fun hc => ?_) (fun hc => ?_)
  · replace H := H.1 hc
    exact fs_vret dd_X6_foresee_123 rfl H
  · replace H := H.2 hc
    refine fs_aload_n (k0 := 0) (i := 0) dd_X6_foresee_20 rfl rfl ?_
    refine fs_getr (ci := 6) (j := 1) (q := 185) dd_X6_foresee_21 fl_X6_12 ca_184 rfl (Or.inl ⟨_, rfl⟩) rfl (by decide) ?_
    refine fs_aload_n (k0 := 1) (i := 1) dd_X6_foresee_24 rfl rfl ?_
    refine fs_callV (y := m_X10_take) (as := [.ref w0]) dd_X6_foresee_25 me_X10_take lk_X6_62 in_X10_take se_X10_take ca_185 rfl rfl rfl (Nat.le_of_ble_eq_true rfl) (Nat.le_of_ble_eq_true rfl) rfl (V_X10_take (by omega) ca_185 hw0 H) (k2_V fun s2 H => ?_)
    refine fs_aload_n (k0 := 0) (i := 0) dd_X6_foresee_28 rfl rfl ?_
    refine fs_getr (ci := 6) (j := 1) (q := 185) dd_X6_foresee_29 fl_X6_12 ca_184 rfl (Or.inl ⟨_, rfl⟩) rfl (by decide) ?_
    refine fs_getr (ci := 10) (j := 2) (q := 188) dd_X6_foresee_32 fl_X6_66 ca_185 rfl (Or.inr ⟨_, rfl⟩) rfl (by decide) ?_
    refine fs_iload_n (k0 := 2) (i := 2) dd_X6_foresee_35 rfl rfl ?_
    refine fs_iload (i := 5) dd_X6_foresee_36 rfl ?_
    have hb := H.1
    replace H := H.2
    refine fs_iast dd_X6_foresee_38 ca_188 hb ?_
    refine fs_tops (fun s3 hs3 => ?_)
    replace H := H s3 hs3
    refine fs_iconst (n := 0) (v := 0) dd_X6_foresee_39 (by decide) ?_
    refine fs_istore (i := 6) dd_X6_foresee_40 (by decide) ?_
    refine fs_weak (ls2 := [.ref 184, .ref w0, .int v2, fz_J, .int v4, .int v5, .int 0]) (fz_le_e (fz_le_e (fz_le_e (fz_le_j (fz_le_e (fz_le_e (fz_le_e fz_le_n))))))) ?_
    exact V_lp_X6_foresee_42 hD  hw0 hK13 2048 H
set_option maxRecDepth 100000 in
set_option maxHeartbeats 4000000 in
theorem V_lp_X6_foresee_13 {g : fz_G} {l : Launch} {d : Nat} (hD : 7 ≤ d) {w0 : Nat} (hw0 : fz_at true w0 10 7)  {Q : fz_s → Prop}  (n : Nat) : ∀ {v2 : Int32} {v4 : Int32} {v5 : Int32} {s : fz_s}, lp_X6_foresee_13 w0  Q n v2 v4 v5 s → fs_V g l m_X6_foresee d true 13 [.ref 184, .ref w0, .int v2, fz_J, .int v4, .int v5, fz_J] [] s (rV Q) := by
  induction n with
  | zero => intro v2 v4 v5 s H; exact H.elim
  | succ n ih => intro v2 v4 v5 s H; exact V_nd_X6_foresee_13 hD hw0 (fun H => ih H) H
set_option maxRecDepth 100000 in
set_option maxHeartbeats 4000000 in
theorem V_X6_foresee {g : fz_G} {l : Launch} {d : Nat} (hD : 7 ≤ d) {w0 : Nat} {p1 : Int32} {p2 : Int32} (hw0 : fz_at true w0 10 7) {s : fz_s} {Q : fz_s → Prop} (H : wp_X6_foresee w0 p1 p2 s Q) : fs_V g l m_X6_foresee d true 0 (fz_en [.ref 184, .ref w0, .int p1, .int p2] 7) [] s (rV Q) := by
  obtain ⟨d, rfl⟩ : ∃ e, d = e + 1 := ⟨d - 1, by omega⟩
  unfold wp_X6_foresee at H
  refine fs_iload_n (k0 := 3) (i := 3) dd_X6_foresee_0 rfl rfl ?_
  refine fs_aload_n (k0 := 1) (i := 1) dd_X6_foresee_1 rfl rfl ?_
  refine fs_callS (y := m_X6_farthestYear) (as := [.ref w0]) dd_X6_foresee_2 me_X6_farthestYear (Or.inl lk_X6_58) st_X6_farthestYear rfl (Nat.le_of_ble_eq_true rfl) (Nat.le_of_ble_eq_true rfl) rfl (V_X6_farthestYear (by omega) hw0 H) (k2_I fun r1 s2 H => ?_)
  refine fs_mmin dd_X6_foresee_5 lk_X6_55 (Nat.le_of_ble_eq_true rfl) ?_
  refine fs_topi (fun x3 hx3 => ?_)
  replace H := H x3 hx3
  refine fs_istore (i := 4) dd_X6_foresee_8 (by decide) ?_
  refine fs_iconst (n := 0) (v := 0) dd_X6_foresee_10 (by decide) ?_
  refine fs_istore (i := 5) dd_X6_foresee_11 (by decide) ?_
  refine fs_weak (ls2 := [.ref 184, .ref w0, .int p1, fz_J, .int x3, .int 0, fz_J]) (fz_le_e (fz_le_e (fz_le_e (fz_le_j (fz_le_e (fz_le_e (fz_le_j fz_le_n))))))) ?_
  exact V_lp_X6_foresee_13 hD  hw0  2048 H
theorem dd_X6_fits_0 : decode m_X6_fits.2.1 0 = .ok (.iconst 0, 1) := by decide +kernel
theorem dd_X6_fits_1 : decode m_X6_fits.2.1 1 = .ok (.istore_n 2, 1) := by decide +kernel
theorem dd_X6_fits_2 : decode m_X6_fits.2.1 2 = .ok (.iload_n 2, 1) := by decide +kernel
theorem dd_X6_fits_3 : decode m_X6_fits.2.1 3 = .ok (.aload_n 0, 1) := by decide +kernel
theorem dd_X6_fits_4 : decode m_X6_fits.2.1 4 = .ok (.getfield 32, 3) := by decide +kernel
theorem dd_X6_fits_7 : decode m_X6_fits.2.1 7 = .ok (.if_icmp .ge 51, 3) := by decide +kernel
theorem dd_X6_fits_10 : decode m_X6_fits.2.1 10 = .ok (.iload_n 2, 1) := by decide +kernel
theorem dd_X6_fits_11 : decode m_X6_fits.2.1 11 = .ok (.iconst 4, 1) := by decide +kernel
theorem dd_X6_fits_12 : decode m_X6_fits.2.1 12 = .ok (.imul, 1) := by decide +kernel
theorem dd_X6_fits_13 : decode m_X6_fits.2.1 13 = .ok (.istore_n 3, 1) := by decide +kernel
theorem dd_X6_fits_14 : decode m_X6_fits.2.1 14 = .ok (.aload_n 0, 1) := by decide +kernel
theorem dd_X6_fits_15 : decode m_X6_fits.2.1 15 = .ok (.getfield 22, 3) := by decide +kernel
theorem dd_X6_fits_18 : decode m_X6_fits.2.1 18 = .ok (.iload_n 1, 1) := by decide +kernel
theorem dd_X6_fits_19 : decode m_X6_fits.2.1 19 = .ok (.aload_n 0, 1) := by decide +kernel
theorem dd_X6_fits_20 : decode m_X6_fits.2.1 20 = .ok (.getfield 18, 3) := by decide +kernel
theorem dd_X6_fits_23 : decode m_X6_fits.2.1 23 = .ok (.iload_n 3, 1) := by decide +kernel
theorem dd_X6_fits_24 : decode m_X6_fits.2.1 24 = .ok (.iaload, 1) := by decide +kernel
theorem dd_X6_fits_25 : decode m_X6_fits.2.1 25 = .ok (.aload_n 0, 1) := by decide +kernel
theorem dd_X6_fits_26 : decode m_X6_fits.2.1 26 = .ok (.getfield 18, 3) := by decide +kernel
theorem dd_X6_fits_29 : decode m_X6_fits.2.1 29 = .ok (.iload_n 3, 1) := by decide +kernel
theorem dd_X6_fits_30 : decode m_X6_fits.2.1 30 = .ok (.iconst 1, 1) := by decide +kernel
theorem dd_X6_fits_31 : decode m_X6_fits.2.1 31 = .ok (.iadd, 1) := by decide +kernel
theorem dd_X6_fits_32 : decode m_X6_fits.2.1 32 = .ok (.iaload, 1) := by decide +kernel
theorem dd_X6_fits_33 : decode m_X6_fits.2.1 33 = .ok (.invokestatic 69, 3) := by decide +kernel
theorem dd_X6_fits_36 : decode m_X6_fits.2.1 36 = .ok (.iaload, 1) := by decide +kernel
theorem dd_X6_fits_37 : decode m_X6_fits.2.1 37 = .ok (.aload_n 0, 1) := by decide +kernel
theorem dd_X6_fits_38 : decode m_X6_fits.2.1 38 = .ok (.getfield 18, 3) := by decide +kernel
theorem dd_X6_fits_41 : decode m_X6_fits.2.1 41 = .ok (.iload_n 3, 1) := by decide +kernel
theorem dd_X6_fits_42 : decode m_X6_fits.2.1 42 = .ok (.iconst 2, 1) := by decide +kernel
theorem dd_X6_fits_43 : decode m_X6_fits.2.1 43 = .ok (.iadd, 1) := by decide +kernel
theorem dd_X6_fits_44 : decode m_X6_fits.2.1 44 = .ok (.invokestatic 36, 3) := by decide +kernel
theorem dd_X6_fits_47 : decode m_X6_fits.2.1 47 = .ok (.if_icmp .eq 5, 3) := by decide +kernel
theorem dd_X6_fits_50 : decode m_X6_fits.2.1 50 = .ok (.iconst 0, 1) := by decide +kernel
theorem dd_X6_fits_51 : decode m_X6_fits.2.1 51 = .ok (.ireturn, 1) := by decide +kernel
theorem dd_X6_fits_52 : decode m_X6_fits.2.1 52 = .ok (.iinc 2 1, 3) := by decide +kernel
theorem dd_X6_fits_55 : decode m_X6_fits.2.1 55 = .ok (.goto (-53), 3) := by decide +kernel
theorem dd_X6_fits_58 : decode m_X6_fits.2.1 58 = .ok (.iconst 1, 1) := by decide +kernel
theorem dd_X6_fits_59 : decode m_X6_fits.2.1 59 = .ok (.ireturn, 1) := by decide +kernel
def nd_X6_fits_2  (K2 : Int32 → Int32 → fz_s → Prop) (Q : Bool → fz_s → Prop) (v1 : Int32) (v2 : Int32) (s : fz_s) : Prop :=
  (((s.1 184 5) ≤ v2 → Q true s) ∧ (¬ (s.1 184 5) ≤ v2 → ∀ x1 : Int32, x1 = (v2 * 4) → vp_in x1 64 ∧ vp_in (x1 + 1) 64 ∧ wp_X6_cell v1 (s.1 191 x1.toNatClampNeg) (s.1 191 (x1 + 1).toNatClampNeg) s (fun r2 s3 => vp_in r2 620 ∧ wp_X11_pairAt 191 64 (x1 + 2) s3 (fun r4 s5 => (((s3.1 192 r2.toNatClampNeg) = r4 → ∀ x6 : Int32, x6 = v2 + 1 → K2 v1 x6 s5) ∧ (¬ (s3.1 192 r2.toNatClampNeg) = r4 → Q false s5))))))
def lp_X6_fits_2   (Q : Bool → fz_s → Prop) : Nat → Int32 → Int32 → fz_s → Prop
  | 0 => fun _ _ _ => False
  | n + 1 => nd_X6_fits_2  (lp_X6_fits_2   Q n) Q
def wp_X6_fits (p0 : Int32) (s : fz_s) (Q : Bool → fz_s → Prop) : Prop :=
  lp_X6_fits_2   Q 2048 p0 0 s
set_option maxRecDepth 100000 in
set_option maxHeartbeats 4000000 in
theorem V_nd_X6_fits_2 {g : fz_G} {l : Launch} {d : Nat} (hD : 1 ≤ d)   {K2 : Int32 → Int32 → fz_s → Prop} {Q : Bool → fz_s → Prop} {v1 : Int32} {v2 : Int32} {s : fz_s} (hK2 : ∀ {v1 : Int32} {v2 : Int32} {s : fz_s}, K2 v1 v2 s → fs_V g l m_X6_fits d true 2 [.ref 184, .int v1, .int v2, fz_J] [] s (rZ Q)) (H : nd_X6_fits_2  K2 Q v1 v2 s) : fs_V g l m_X6_fits d true 2 [.ref 184, .int v1, .int v2, fz_J] [] s (rZ Q) := by
  obtain ⟨d, rfl⟩ : ∃ e, d = e + 1 := ⟨d - 1, by omega⟩
  unfold nd_X6_fits_2 at H
  refine fs_iload_n (k0 := 2) (i := 2) dd_X6_fits_2 rfl rfl ?_
  refine fs_aload_n (k0 := 0) (i := 0) dd_X6_fits_3 rfl rfl ?_
  refine fs_geti (ci := 6) (j := 5) dd_X6_fits_4 fl_X6_32 ca_184 rfl (Or.inl rfl) ?_
  refine fs_icmp_ge (tgt := 58) dd_X6_fits_7 (by decide) (fun hc => ?_) (fun hc => ?_)
  · replace H := H.1 hc
    refine fs_iconst (n := 1) (v := 1) dd_X6_fits_58 (by decide) ?_
    exact fs_zret true dd_X6_fits_59 rfl rfl H
  · replace H := H.2 hc
    refine fs_iload_n (k0 := 2) (i := 2) dd_X6_fits_10 rfl rfl ?_
    refine fs_iconst (n := 4) (v := 4) dd_X6_fits_11 (by decide) ?_
    refine fs_imul dd_X6_fits_12 ?_
    refine fs_topi (fun x1 hx1 => ?_)
    replace H := H x1 hx1
    refine fs_istore_n (k0 := 3) (i := 3) dd_X6_fits_13 rfl (by decide) ?_
    refine fs_aload_n (k0 := 0) (i := 0) dd_X6_fits_14 rfl rfl ?_
    refine fs_getr (ci := 6) (j := 3) (q := 192) dd_X6_fits_15 fl_X6_22 ca_184 rfl (Or.inr ⟨_, rfl⟩) rfl (by decide) ?_
    refine fs_iload_n (k0 := 1) (i := 1) dd_X6_fits_18 rfl rfl ?_
    refine fs_aload_n (k0 := 0) (i := 0) dd_X6_fits_19 rfl rfl ?_
    refine fs_getr (ci := 6) (j := 2) (q := 191) dd_X6_fits_20 fl_X6_18 ca_184 rfl (Or.inr ⟨_, rfl⟩) rfl (by decide) ?_
    refine fs_iload_n (k0 := 3) (i := 3) dd_X6_fits_23 rfl rfl ?_
    have hb := H.1
    replace H := H.2
    refine fs_iald dd_X6_fits_24 ca_191 hb ?_
    refine fs_aload_n (k0 := 0) (i := 0) dd_X6_fits_25 rfl rfl ?_
    refine fs_getr (ci := 6) (j := 2) (q := 191) dd_X6_fits_26 fl_X6_18 ca_184 rfl (Or.inr ⟨_, rfl⟩) rfl (by decide) ?_
    refine fs_iload_n (k0 := 3) (i := 3) dd_X6_fits_29 rfl rfl ?_
    refine fs_iconst (n := 1) (v := 1) dd_X6_fits_30 (by decide) ?_
    refine fs_iadd dd_X6_fits_31 ?_
    have hb := H.1
    replace H := H.2
    refine fs_iald dd_X6_fits_32 ca_191 hb ?_
    refine fs_callS (y := m_X6_cell) (as := [.int v1, .int (s.1 191 x1.toNatClampNeg), .int (s.1 191 (x1 + 1).toNatClampNeg)]) dd_X6_fits_33 me_X6_cell (Or.inl lk_X6_69) st_X6_cell rfl (Nat.le_of_ble_eq_true rfl) (Nat.le_of_ble_eq_true rfl) rfl (V_X6_cell (by omega)  H) (k2_I fun r2 s3 H => ?_)
    have hb := H.1
    replace H := H.2
    refine fs_iald dd_X6_fits_36 ca_192 hb ?_
    refine fs_aload_n (k0 := 0) (i := 0) dd_X6_fits_37 rfl rfl ?_
    refine fs_getr (ci := 6) (j := 2) (q := 191) dd_X6_fits_38 fl_X6_18 ca_184 rfl (Or.inr ⟨_, rfl⟩) rfl (by decide) ?_
    refine fs_iload_n (k0 := 3) (i := 3) dd_X6_fits_41 rfl rfl ?_
    refine fs_iconst (n := 2) (v := 2) dd_X6_fits_42 (by decide) ?_
    refine fs_iadd dd_X6_fits_43 ?_
    refine fs_callS (y := m_X11_pairAt) (as := [.ref 191, .int (x1 + 2)]) dd_X6_fits_44 me_X11_pairAt (Or.inr ⟨_, ln_X6_36⟩) st_X11_pairAt rfl (Nat.le_of_ble_eq_true rfl) (Nat.le_of_ble_eq_true rfl) rfl (V_X11_pairAt (by omega) ca_191 H) (k2_I fun r4 s5 H => ?_)
    refine fs_icmp_eq (tgt := 52) dd_X6_fits_47 (by decide) (fun hc => ?_) (fun hc => ?_)
    · replace H := H.1 hc
      refine fs_iincN (i := 2) (m := 1) (c := 1) dd_X6_fits_52 rfl (by decide) (by decide) (fun x6 hx6 => ?_)
      replace H := H x6 hx6
      refine fs_goto (tgt := 2) dd_X6_fits_55 (by decide) ?_
      refine fs_weak (ls2 := [.ref 184, .int v1, .int x6, fz_J]) (fz_le_e (fz_le_e (fz_le_e (fz_le_j fz_le_n)))) ?_
      exact hK2 H
    · replace H := H.2 hc
      refine fs_iconst (n := 0) (v := 0) dd_X6_fits_50 (by decide) ?_
      exact fs_zret false dd_X6_fits_51 rfl rfl H
set_option maxRecDepth 100000 in
set_option maxHeartbeats 4000000 in
theorem V_lp_X6_fits_2 {g : fz_G} {l : Launch} {d : Nat} (hD : 1 ≤ d)    {Q : Bool → fz_s → Prop}  (n : Nat) : ∀ {v1 : Int32} {v2 : Int32} {s : fz_s}, lp_X6_fits_2   Q n v1 v2 s → fs_V g l m_X6_fits d true 2 [.ref 184, .int v1, .int v2, fz_J] [] s (rZ Q) := by
  induction n with
  | zero => intro v1 v2 s H; exact H.elim
  | succ n ih => intro v1 v2 s H; exact V_nd_X6_fits_2 hD  (fun H => ih H) H
set_option maxRecDepth 100000 in
set_option maxHeartbeats 4000000 in
theorem V_X6_fits {g : fz_G} {l : Launch} {d : Nat} (hD : 1 ≤ d) {p0 : Int32}  {s : fz_s} {Q : Bool → fz_s → Prop} (H : wp_X6_fits p0 s Q) : fs_V g l m_X6_fits d true 0 (fz_en [.ref 184, .int p0] 4) [] s (rZ Q) := by
  obtain ⟨d, rfl⟩ : ∃ e, d = e + 1 := ⟨d - 1, by omega⟩
  unfold wp_X6_fits at H
  refine fs_iconst (n := 0) (v := 0) dd_X6_fits_0 (by decide) ?_
  refine fs_istore_n (k0 := 2) (i := 2) dd_X6_fits_1 rfl (by decide) ?_
  refine fs_weak (ls2 := [.ref 184, .int p0, .int 0, fz_J]) (fz_le_e (fz_le_e (fz_le_e (fz_le_j fz_le_n)))) ?_
  exact V_lp_X6_fits_2 hD    2048 H
theorem dd_X6_possible_0 : decode m_X6_possible.2.1 0 = .ok (.aload_n 0, 1) := by decide +kernel
theorem dd_X6_possible_1 : decode m_X6_possible.2.1 1 = .ok (.invokevirtual 81, 3) := by decide +kernel
theorem dd_X6_possible_4 : decode m_X6_possible.2.1 4 = .ok (.aload_n 1, 1) := by decide +kernel
theorem dd_X6_possible_5 : decode m_X6_possible.2.1 5 = .ok (.invokestatic 58, 3) := by decide +kernel
theorem dd_X6_possible_8 : decode m_X6_possible.2.1 8 = .ok (.if_icmp .le 5, 3) := by decide +kernel
theorem dd_X6_possible_11 : decode m_X6_possible.2.1 11 = .ok (.iconst 0, 1) := by decide +kernel
theorem dd_X6_possible_12 : decode m_X6_possible.2.1 12 = .ok (.ireturn, 1) := by decide +kernel
theorem dd_X6_possible_13 : decode m_X6_possible.2.1 13 = .ok (.iconst 0, 1) := by decide +kernel
theorem dd_X6_possible_14 : decode m_X6_possible.2.1 14 = .ok (.istore_n 2, 1) := by decide +kernel
theorem dd_X6_possible_15 : decode m_X6_possible.2.1 15 = .ok (.iconst 0, 1) := by decide +kernel
theorem dd_X6_possible_16 : decode m_X6_possible.2.1 16 = .ok (.istore_n 3, 1) := by decide +kernel
theorem dd_X6_possible_17 : decode m_X6_possible.2.1 17 = .ok (.iload_n 3, 1) := by decide +kernel
theorem dd_X6_possible_18 : decode m_X6_possible.2.1 18 = .ok (.bipush 10, 2) := by decide +kernel
theorem dd_X6_possible_20 : decode m_X6_possible.2.1 20 = .ok (.if_icmp .ge 22, 3) := by decide +kernel
theorem dd_X6_possible_23 : decode m_X6_possible.2.1 23 = .ok (.iload_n 2, 1) := by decide +kernel
theorem dd_X6_possible_24 : decode m_X6_possible.2.1 24 = .ok (.aload_n 0, 1) := by decide +kernel
theorem dd_X6_possible_25 : decode m_X6_possible.2.1 25 = .ok (.iload_n 3, 1) := by decide +kernel
theorem dd_X6_possible_26 : decode m_X6_possible.2.1 26 = .ok (.invokevirtual 85, 3) := by decide +kernel
theorem dd_X6_possible_29 : decode m_X6_possible.2.1 29 = .ok (.invokestatic 89, 3) := by decide +kernel
theorem dd_X6_possible_32 : decode m_X6_possible.2.1 32 = .ok (.iload_n 3, 1) := by decide +kernel
theorem dd_X6_possible_33 : decode m_X6_possible.2.1 33 = .ok (.ishl, 1) := by decide +kernel
theorem dd_X6_possible_34 : decode m_X6_possible.2.1 34 = .ok (.ior, 1) := by decide +kernel
theorem dd_X6_possible_35 : decode m_X6_possible.2.1 35 = .ok (.istore_n 2, 1) := by decide +kernel
theorem dd_X6_possible_36 : decode m_X6_possible.2.1 36 = .ok (.iinc 3 1, 3) := by decide +kernel
theorem dd_X6_possible_39 : decode m_X6_possible.2.1 39 = .ok (.goto (-22), 3) := by decide +kernel
theorem dd_X6_possible_42 : decode m_X6_possible.2.1 42 = .ok (.iload_n 2, 1) := by decide +kernel
theorem dd_X6_possible_43 : decode m_X6_possible.2.1 43 = .ok (.ireturn, 1) := by decide +kernel
def nd_X6_possible_17 (w0 : Nat) (K17 : Int32 → Int32 → fz_s → Prop) (Q : Int32 → fz_s → Prop) (v2 : Int32) (v3 : Int32) (s : fz_s) : Prop :=
  ((10 ≤ v3 → Q v2 s) ∧ (¬ 10 ≤ v3 → wp_X6_fits v3 s (fun r1 s2 => wp_X11_bit r1 s2 (fun r3 s4 => ∀ x5 : Int32, x5 = (v2 ||| (r3 <<< (v3 &&& 31))) → ∀ x6 : Int32, x6 = v3 + 1 → K17 x5 x6 s4))))
def lp_X6_possible_17 (w0 : Nat)  (Q : Int32 → fz_s → Prop) : Nat → Int32 → Int32 → fz_s → Prop
  | 0 => fun _ _ _ => False
  | n + 1 => nd_X6_possible_17 w0 (lp_X6_possible_17 w0  Q n) Q
def wp_X6_possible (w0 : Nat) (s : fz_s) (Q : Int32 → fz_s → Prop) : Prop :=
  wp_X6_farthestSeen  s (fun r1 s2 => wp_X6_farthestYear w0 s2 (fun r3 s4 => ((r1 ≤ r3 → lp_X6_possible_17 w0  Q 2048 0 0 s4) ∧ (¬ r1 ≤ r3 → Q 0 s4))))
set_option maxRecDepth 100000 in
set_option maxHeartbeats 4000000 in
theorem V_nd_X6_possible_17 {g : fz_G} {l : Launch} {d : Nat} (hD : 2 ≤ d) {w0 : Nat} (hw0 : fz_at true w0 10 7) {K17 : Int32 → Int32 → fz_s → Prop} {Q : Int32 → fz_s → Prop} {v2 : Int32} {v3 : Int32} {s : fz_s} (hK17 : ∀ {v2 : Int32} {v3 : Int32} {s : fz_s}, K17 v2 v3 s → fs_V g l m_X6_possible d true 17 [.ref 184, fz_J, .int v2, .int v3] [] s (rI Q)) (H : nd_X6_possible_17 w0 K17 Q v2 v3 s) : fs_V g l m_X6_possible d true 17 [.ref 184, fz_J, .int v2, .int v3] [] s (rI Q) := by
  obtain ⟨d, rfl⟩ : ∃ e, d = e + 1 := ⟨d - 1, by omega⟩
  unfold nd_X6_possible_17 at H
  refine fs_iload_n (k0 := 3) (i := 3) dd_X6_possible_17 rfl rfl ?_
  refine fs_bipush (n := 10) (v := 10) dd_X6_possible_18 (by decide) ?_
  refine fs_icmp_ge (tgt := 42) dd_X6_possible_20 (by decide) (fun hc => ?_) (fun hc => ?_)
  · replace H := H.1 hc
    refine fs_iload_n (k0 := 2) (i := 2) dd_X6_possible_42 rfl rfl ?_
    exact fs_iret dd_X6_possible_43 rfl H
  · replace H := H.2 hc
    refine fs_iload_n (k0 := 2) (i := 2) dd_X6_possible_23 rfl rfl ?_
    refine fs_aload_n (k0 := 0) (i := 0) dd_X6_possible_24 rfl rfl ?_
    refine fs_iload_n (k0 := 3) (i := 3) dd_X6_possible_25 rfl rfl ?_
    refine fs_callV (y := m_X6_fits) (as := [.int v3]) dd_X6_possible_26 me_X6_fits lk_X6_85 in_X6_fits se_X6_fits ca_184 rfl rfl rfl (Nat.le_of_ble_eq_true rfl) (Nat.le_of_ble_eq_true rfl) rfl (V_X6_fits (by omega)  H) (k2_Z fun r1 s2 H => ?_)
    refine fs_callS (y := m_X11_bit) (as := [.int (bi r1)]) dd_X6_possible_29 me_X11_bit (Or.inr ⟨_, ln_X6_89⟩) st_X11_bit rfl (Nat.le_of_ble_eq_true rfl) (Nat.le_of_ble_eq_true rfl) rfl (V_X11_bit (by omega)  H) (k2_I fun r3 s4 H => ?_)
    refine fs_iload_n (k0 := 3) (i := 3) dd_X6_possible_32 rfl rfl ?_
    refine fs_ishl dd_X6_possible_33 ?_
    refine fs_ior dd_X6_possible_34 ?_
    refine fs_topi (fun x5 hx5 => ?_)
    replace H := H x5 hx5
    refine fs_istore_n (k0 := 2) (i := 2) dd_X6_possible_35 rfl (by decide) ?_
    refine fs_iincN (i := 3) (m := 1) (c := 1) dd_X6_possible_36 rfl (by decide) (by decide) (fun x6 hx6 => ?_)
    replace H := H x6 hx6
    refine fs_goto (tgt := 17) dd_X6_possible_39 (by decide) ?_
    refine fs_weak (ls2 := [.ref 184, fz_J, .int x5, .int x6]) (fz_le_e (fz_le_j (fz_le_e (fz_le_e fz_le_n)))) ?_
    exact hK17 H
set_option maxRecDepth 100000 in
set_option maxHeartbeats 4000000 in
theorem V_lp_X6_possible_17 {g : fz_G} {l : Launch} {d : Nat} (hD : 2 ≤ d) {w0 : Nat} (hw0 : fz_at true w0 10 7)  {Q : Int32 → fz_s → Prop}  (n : Nat) : ∀ {v2 : Int32} {v3 : Int32} {s : fz_s}, lp_X6_possible_17 w0  Q n v2 v3 s → fs_V g l m_X6_possible d true 17 [.ref 184, fz_J, .int v2, .int v3] [] s (rI Q) := by
  induction n with
  | zero => intro v2 v3 s H; exact H.elim
  | succ n ih => intro v2 v3 s H; exact V_nd_X6_possible_17 hD hw0 (fun H => ih H) H
set_option maxRecDepth 100000 in
set_option maxHeartbeats 4000000 in
theorem V_X6_possible {g : fz_G} {l : Launch} {d : Nat} (hD : 2 ≤ d) {w0 : Nat} (hw0 : fz_at true w0 10 7) {s : fz_s} {Q : Int32 → fz_s → Prop} (H : wp_X6_possible w0 s Q) : fs_V g l m_X6_possible d true 0 (fz_en [.ref 184, .ref w0] 4) [] s (rI Q) := by
  obtain ⟨d, rfl⟩ : ∃ e, d = e + 1 := ⟨d - 1, by omega⟩
  unfold wp_X6_possible at H
  refine fs_aload_n (k0 := 0) (i := 0) dd_X6_possible_0 rfl rfl ?_
  refine fs_callV (y := m_X6_farthestSeen) (as := []) dd_X6_possible_1 me_X6_farthestSeen lk_X6_81 in_X6_farthestSeen se_X6_farthestSeen ca_184 rfl rfl rfl (Nat.le_of_ble_eq_true rfl) (Nat.le_of_ble_eq_true rfl) rfl (V_X6_farthestSeen (by omega)  H) (k2_I fun r1 s2 H => ?_)
  refine fs_aload_n (k0 := 1) (i := 1) dd_X6_possible_4 rfl rfl ?_
  refine fs_callS (y := m_X6_farthestYear) (as := [.ref w0]) dd_X6_possible_5 me_X6_farthestYear (Or.inl lk_X6_58) st_X6_farthestYear rfl (Nat.le_of_ble_eq_true rfl) (Nat.le_of_ble_eq_true rfl) rfl (V_X6_farthestYear (by omega) hw0 H) (k2_I fun r3 s4 H => ?_)
  refine fs_icmp_le (tgt := 13) dd_X6_possible_8 (by decide) (fun hc => ?_) (fun hc => ?_)
  · replace H := H.1 hc
    refine fs_iconst (n := 0) (v := 0) dd_X6_possible_13 (by decide) ?_
    refine fs_istore_n (k0 := 2) (i := 2) dd_X6_possible_14 rfl (by decide) ?_
    refine fs_iconst (n := 0) (v := 0) dd_X6_possible_15 (by decide) ?_
    refine fs_istore_n (k0 := 3) (i := 3) dd_X6_possible_16 rfl (by decide) ?_
    refine fs_weak (ls2 := [.ref 184, fz_J, .int 0, .int 0]) (fz_le_e (fz_le_j (fz_le_e (fz_le_e fz_le_n)))) ?_
    exact V_lp_X6_possible_17 hD  hw0  2048 H
  · replace H := H.2 hc
    refine fs_iconst (n := 0) (v := 0) dd_X6_possible_11 (by decide) ?_
    exact fs_iret dd_X6_possible_12 rfl H
theorem dd_X11_wits_0 : decode m_X11_wits.2.1 0 = .ok (.aload_n 0, 1) := by decide +kernel
theorem dd_X11_wits_1 : decode m_X11_wits.2.1 1 = .ok (.iload_n 1, 1) := by decide +kernel
theorem dd_X11_wits_2 : decode m_X11_wits.2.1 2 = .ok (.invokevirtual 192, 3) := by decide +kernel
theorem dd_X11_wits_5 : decode m_X11_wits.2.1 5 = .ok (.ifCond .eq 5, 3) := by decide +kernel
theorem dd_X11_wits_8 : decode m_X11_wits.2.1 8 = .ok (.iconst (-1), 1) := by decide +kernel
theorem dd_X11_wits_9 : decode m_X11_wits.2.1 9 = .ok (.ireturn, 1) := by decide +kernel
theorem dd_X11_wits_10 : decode m_X11_wits.2.1 10 = .ok (.aload_n 0, 1) := by decide +kernel
theorem dd_X11_wits_11 : decode m_X11_wits.2.1 11 = .ok (.getfield 98, 3) := by decide +kernel
theorem dd_X11_wits_14 : decode m_X11_wits.2.1 14 = .ok (.aload_n 0, 1) := by decide +kernel
theorem dd_X11_wits_15 : decode m_X11_wits.2.1 15 = .ok (.getfield 63, 3) := by decide +kernel
theorem dd_X11_wits_18 : decode m_X11_wits.2.1 18 = .ok (.iload_n 1, 1) := by decide +kernel
theorem dd_X11_wits_19 : decode m_X11_wits.2.1 19 = .ok (.aload_n 0, 1) := by decide +kernel
theorem dd_X11_wits_20 : decode m_X11_wits.2.1 20 = .ok (.getfield 98, 3) := by decide +kernel
theorem dd_X11_wits_23 : decode m_X11_wits.2.1 23 = .ok (.invokevirtual 302, 3) := by decide +kernel
theorem dd_X11_wits_26 : decode m_X11_wits.2.1 26 = .ok (.invokevirtual 306, 3) := by decide +kernel
theorem dd_X11_wits_29 : decode m_X11_wits.2.1 29 = .ok (.aload_n 0, 1) := by decide +kernel
theorem dd_X11_wits_30 : decode m_X11_wits.2.1 30 = .ok (.getfield 98, 3) := by decide +kernel
theorem dd_X11_wits_33 : decode m_X11_wits.2.1 33 = .ok (.aload_n 0, 1) := by decide +kernel
theorem dd_X11_wits_34 : decode m_X11_wits.2.1 34 = .ok (.getfield 63, 3) := by decide +kernel
theorem dd_X11_wits_37 : decode m_X11_wits.2.1 37 = .ok (.invokevirtual 310, 3) := by decide +kernel
theorem dd_X11_wits_40 : decode m_X11_wits.2.1 40 = .ok (.ireturn, 1) := by decide +kernel
def wp_X11_wits (p0 : Int32) (s : fz_s) (Q : Int32 → fz_s → Prop) : Prop :=
  wp_X11_noPerson p0 s (fun r1 s2 => ((r1 = false → wp_X6_farthestSeen  s2 (fun r3 s4 => wp_X6_foresee 35 p0 r3 s4 (fun s6 => wp_X6_possible 35 s6 (fun r7 s8 => Q r7 s8)))) ∧ (r1 = true → Q (-1) s2)))
set_option maxRecDepth 100000 in
set_option maxHeartbeats 4000000 in
theorem V_X11_wits {g : fz_G} {l : Launch} {d : Nat} (hD : 8 ≤ d) {p0 : Int32}  {s : fz_s} {Q : Int32 → fz_s → Prop} (H : wp_X11_wits p0 s Q) : fs_V g l m_X11_wits d true 0 (fz_en [.ref 2, .int p0] 2) [] s (rI Q) := by
  obtain ⟨d, rfl⟩ : ∃ e, d = e + 1 := ⟨d - 1, by omega⟩
  unfold wp_X11_wits at H
  refine fs_aload_n (k0 := 0) (i := 0) dd_X11_wits_0 rfl rfl ?_
  refine fs_iload_n (k0 := 1) (i := 1) dd_X11_wits_1 rfl rfl ?_
  refine fs_callV (y := m_X11_noPerson) (as := [.int p0]) dd_X11_wits_2 me_X11_noPerson lk_X11_192 in_X11_noPerson se_X11_noPerson ca_2 rfl rfl rfl (Nat.le_of_ble_eq_true rfl) (Nat.le_of_ble_eq_true rfl) rfl (V_X11_noPerson (by omega)  H) (k2_Z fun r1 s2 H => ?_)
  refine fs_if_eq (tgt := 10) dd_X11_wits_5 (by decide) (fun hc => ?_) (fun hc => ?_)
  · replace H := H.1 (bi_0 hc)
    refine fs_aload_n (k0 := 0) (i := 0) dd_X11_wits_10 rfl rfl ?_
    refine fs_getr (ci := 11) (j := 13) (q := 184) dd_X11_wits_11 fl_X11_98 ca_2 rfl (Or.inl ⟨_, rfl⟩) rfl (by decide) ?_
    refine fs_aload_n (k0 := 0) (i := 0) dd_X11_wits_14 rfl rfl ?_
    refine fs_getr (ci := 11) (j := 8) (q := 35) dd_X11_wits_15 fl_X11_63 ca_2 rfl (Or.inl ⟨_, rfl⟩) rfl (by decide) ?_
    refine fs_iload_n (k0 := 1) (i := 1) dd_X11_wits_18 rfl rfl ?_
    refine fs_aload_n (k0 := 0) (i := 0) dd_X11_wits_19 rfl rfl ?_
    refine fs_getr (ci := 11) (j := 13) (q := 184) dd_X11_wits_20 fl_X11_98 ca_2 rfl (Or.inl ⟨_, rfl⟩) rfl (by decide) ?_
    refine fs_callV (y := m_X6_farthestSeen) (as := []) dd_X11_wits_23 me_X6_farthestSeen lk_X11_302 in_X6_farthestSeen se_X6_farthestSeen ca_184 rfl rfl rfl (Nat.le_of_ble_eq_true rfl) (Nat.le_of_ble_eq_true rfl) rfl (V_X6_farthestSeen (by omega)  H) (k2_I fun r3 s4 H => ?_)
    refine fs_callV (y := m_X6_foresee) (as := [.ref 35, .int p0, .int r3]) dd_X11_wits_26 me_X6_foresee lk_X11_306 in_X6_foresee se_X6_foresee ca_184 rfl rfl rfl (Nat.le_of_ble_eq_true rfl) (Nat.le_of_ble_eq_true rfl) rfl (V_X6_foresee (by omega) ca_35 H) (k2_V fun s6 H => ?_)
    refine fs_aload_n (k0 := 0) (i := 0) dd_X11_wits_29 rfl rfl ?_
    refine fs_getr (ci := 11) (j := 13) (q := 184) dd_X11_wits_30 fl_X11_98 ca_2 rfl (Or.inl ⟨_, rfl⟩) rfl (by decide) ?_
    refine fs_aload_n (k0 := 0) (i := 0) dd_X11_wits_33 rfl rfl ?_
    refine fs_getr (ci := 11) (j := 8) (q := 35) dd_X11_wits_34 fl_X11_63 ca_2 rfl (Or.inl ⟨_, rfl⟩) rfl (by decide) ?_
    refine fs_callV (y := m_X6_possible) (as := [.ref 35]) dd_X11_wits_37 me_X6_possible lk_X11_310 in_X6_possible se_X6_possible ca_184 rfl rfl rfl (Nat.le_of_ble_eq_true rfl) (Nat.le_of_ble_eq_true rfl) rfl (V_X6_possible (by omega) ca_35 H) (k2_I fun r7 s8 H => ?_)
    exact fs_iret dd_X11_wits_40 rfl H
  · replace H := H.2 (bi_1 hc)
    refine fs_iconst (n := -1) (v := -1) dd_X11_wits_8 (by decide) ?_
    exact fs_iret dd_X11_wits_9 rfl H
theorem dd_X6_countAlike_0 : decode m_X6_countAlike.2.1 0 = .ok (.iconst 0, 1) := by decide +kernel
theorem dd_X6_countAlike_1 : decode m_X6_countAlike.2.1 1 = .ok (.istore 5, 2) := by decide +kernel
theorem dd_X6_countAlike_3 : decode m_X6_countAlike.2.1 3 = .ok (.iconst 0, 1) := by decide +kernel
theorem dd_X6_countAlike_4 : decode m_X6_countAlike.2.1 4 = .ok (.istore 6, 2) := by decide +kernel
theorem dd_X6_countAlike_6 : decode m_X6_countAlike.2.1 6 = .ok (.iload 6, 2) := by decide +kernel
theorem dd_X6_countAlike_8 : decode m_X6_countAlike.2.1 8 = .ok (.bipush 10, 2) := by decide +kernel
theorem dd_X6_countAlike_10 : decode m_X6_countAlike.2.1 10 = .ok (.if_icmp .ge 38, 3) := by decide +kernel
theorem dd_X6_countAlike_13 : decode m_X6_countAlike.2.1 13 = .ok (.iload_n 1, 1) := by decide +kernel
theorem dd_X6_countAlike_14 : decode m_X6_countAlike.2.1 14 = .ok (.iload 6, 2) := by decide +kernel
theorem dd_X6_countAlike_16 : decode m_X6_countAlike.2.1 16 = .ok (.ishr, 1) := by decide +kernel
theorem dd_X6_countAlike_17 : decode m_X6_countAlike.2.1 17 = .ok (.iconst 1, 1) := by decide +kernel
theorem dd_X6_countAlike_18 : decode m_X6_countAlike.2.1 18 = .ok (.iand, 1) := by decide +kernel
theorem dd_X6_countAlike_19 : decode m_X6_countAlike.2.1 19 = .ok (.ifCond .eq 23, 3) := by decide +kernel
theorem dd_X6_countAlike_22 : decode m_X6_countAlike.2.1 22 = .ok (.aload_n 0, 1) := by decide +kernel
theorem dd_X6_countAlike_23 : decode m_X6_countAlike.2.1 23 = .ok (.getfield 22, 3) := by decide +kernel
theorem dd_X6_countAlike_26 : decode m_X6_countAlike.2.1 26 = .ok (.iload 6, 2) := by decide +kernel
theorem dd_X6_countAlike_28 : decode m_X6_countAlike.2.1 28 = .ok (.iload_n 2, 1) := by decide +kernel
theorem dd_X6_countAlike_29 : decode m_X6_countAlike.2.1 29 = .ok (.iload_n 3, 1) := by decide +kernel
theorem dd_X6_countAlike_30 : decode m_X6_countAlike.2.1 30 = .ok (.invokestatic 69, 3) := by decide +kernel
theorem dd_X6_countAlike_33 : decode m_X6_countAlike.2.1 33 = .ok (.iaload, 1) := by decide +kernel
theorem dd_X6_countAlike_34 : decode m_X6_countAlike.2.1 34 = .ok (.iload 4, 2) := by decide +kernel
theorem dd_X6_countAlike_36 : decode m_X6_countAlike.2.1 36 = .ok (.if_icmp .ne 6, 3) := by decide +kernel
theorem dd_X6_countAlike_39 : decode m_X6_countAlike.2.1 39 = .ok (.iinc 5 1, 3) := by decide +kernel
theorem dd_X6_countAlike_42 : decode m_X6_countAlike.2.1 42 = .ok (.iinc 6 1, 3) := by decide +kernel
theorem dd_X6_countAlike_45 : decode m_X6_countAlike.2.1 45 = .ok (.goto (-39), 3) := by decide +kernel
theorem dd_X6_countAlike_48 : decode m_X6_countAlike.2.1 48 = .ok (.iload 5, 2) := by decide +kernel
theorem dd_X6_countAlike_50 : decode m_X6_countAlike.2.1 50 = .ok (.ireturn, 1) := by decide +kernel
def nd_X6_countAlike_6  (K6 : Int32 → Int32 → Int32 → Int32 → Int32 → Int32 → fz_s → Prop) (Q : Int32 → fz_s → Prop) (v1 : Int32) (v2 : Int32) (v3 : Int32) (v4 : Int32) (v5 : Int32) (v6 : Int32) (s : fz_s) : Prop :=
  ((10 ≤ v6 → Q v5 s) ∧ (¬ 10 ≤ v6 → ((((v1 >>> (v6 &&& 31)) &&& 1) = 0 → ∀ x1 : Int32, x1 = v6 + 1 → K6 v1 v2 v3 v4 v5 x1 s) ∧ (¬ ((v1 >>> (v6 &&& 31)) &&& 1) = 0 → wp_X6_cell v6 v2 v3 s (fun r2 s3 => vp_in r2 620 ∧ ((¬ (s3.1 192 r2.toNatClampNeg) = v4 → ∀ x4 : Int32, x4 = v6 + 1 → K6 v1 v2 v3 v4 v5 x4 s3) ∧ ((s3.1 192 r2.toNatClampNeg) = v4 → ∀ x5 : Int32, x5 = v5 + 1 → ∀ x6 : Int32, x6 = v6 + 1 → K6 v1 v2 v3 v4 x5 x6 s3)))))))
def lp_X6_countAlike_6   (Q : Int32 → fz_s → Prop) : Nat → Int32 → Int32 → Int32 → Int32 → Int32 → Int32 → fz_s → Prop
  | 0 => fun _ _ _ _ _ _ _ => False
  | n + 1 => nd_X6_countAlike_6  (lp_X6_countAlike_6   Q n) Q
def wp_X6_countAlike (p0 : Int32) (p1 : Int32) (p2 : Int32) (p3 : Int32) (s : fz_s) (Q : Int32 → fz_s → Prop) : Prop :=
  lp_X6_countAlike_6   Q 2048 p0 p1 p2 p3 0 0 s
set_option maxRecDepth 100000 in
set_option maxHeartbeats 4000000 in
theorem V_nd_X6_countAlike_6 {g : fz_G} {l : Launch} {d : Nat} (hD : 1 ≤ d)   {K6 : Int32 → Int32 → Int32 → Int32 → Int32 → Int32 → fz_s → Prop} {Q : Int32 → fz_s → Prop} {v1 : Int32} {v2 : Int32} {v3 : Int32} {v4 : Int32} {v5 : Int32} {v6 : Int32} {s : fz_s} (hK6 : ∀ {v1 : Int32} {v2 : Int32} {v3 : Int32} {v4 : Int32} {v5 : Int32} {v6 : Int32} {s : fz_s}, K6 v1 v2 v3 v4 v5 v6 s → fs_V g l m_X6_countAlike d true 6 [.ref 184, .int v1, .int v2, .int v3, .int v4, .int v5, .int v6] [] s (rI Q)) (H : nd_X6_countAlike_6  K6 Q v1 v2 v3 v4 v5 v6 s) : fs_V g l m_X6_countAlike d true 6 [.ref 184, .int v1, .int v2, .int v3, .int v4, .int v5, .int v6] [] s (rI Q) := by
  obtain ⟨d, rfl⟩ : ∃ e, d = e + 1 := ⟨d - 1, by omega⟩
  unfold nd_X6_countAlike_6 at H
  refine fs_iload (i := 6) dd_X6_countAlike_6 rfl ?_
  refine fs_bipush (n := 10) (v := 10) dd_X6_countAlike_8 (by decide) ?_
  refine fs_icmp_ge (tgt := 48) dd_X6_countAlike_10 (by decide) (fun hc => ?_) (fun hc => ?_)
  · replace H := H.1 hc
    refine fs_iload (i := 5) dd_X6_countAlike_48 rfl ?_
    exact fs_iret dd_X6_countAlike_50 rfl H
  · replace H := H.2 hc
    refine fs_iload_n (k0 := 1) (i := 1) dd_X6_countAlike_13 rfl rfl ?_
    refine fs_iload (i := 6) dd_X6_countAlike_14 rfl ?_
    refine fs_ishr dd_X6_countAlike_16 ?_
    refine fs_iconst (n := 1) (v := 1) dd_X6_countAlike_17 (by decide) ?_
    refine fs_iand dd_X6_countAlike_18 ?_
    refine fs_if_eq (tgt := 42) dd_X6_countAlike_19 (by decide) (fun hc => ?_) (fun hc => ?_)
    · replace H := H.1 hc
      refine fs_iincN (i := 6) (m := 1) (c := 1) dd_X6_countAlike_42 rfl (by decide) (by decide) (fun x1 hx1 => ?_)
      replace H := H x1 hx1
      refine fs_goto (tgt := 6) dd_X6_countAlike_45 (by decide) ?_
      refine fs_weak (ls2 := [.ref 184, .int v1, .int v2, .int v3, .int v4, .int v5, .int x1]) (fz_le_e (fz_le_e (fz_le_e (fz_le_e (fz_le_e (fz_le_e (fz_le_e fz_le_n))))))) ?_
      exact hK6 H
    · replace H := H.2 hc
      refine fs_aload_n (k0 := 0) (i := 0) dd_X6_countAlike_22 rfl rfl ?_
      refine fs_getr (ci := 6) (j := 3) (q := 192) dd_X6_countAlike_23 fl_X6_22 ca_184 rfl (Or.inr ⟨_, rfl⟩) rfl (by decide) ?_
      refine fs_iload (i := 6) dd_X6_countAlike_26 rfl ?_
      refine fs_iload_n (k0 := 2) (i := 2) dd_X6_countAlike_28 rfl rfl ?_
      refine fs_iload_n (k0 := 3) (i := 3) dd_X6_countAlike_29 rfl rfl ?_
      refine fs_callS (y := m_X6_cell) (as := [.int v6, .int v2, .int v3]) dd_X6_countAlike_30 me_X6_cell (Or.inl lk_X6_69) st_X6_cell rfl (Nat.le_of_ble_eq_true rfl) (Nat.le_of_ble_eq_true rfl) rfl (V_X6_cell (by omega)  H) (k2_I fun r2 s3 H => ?_)
      have hb := H.1
      replace H := H.2
      refine fs_iald dd_X6_countAlike_33 ca_192 hb ?_
      refine fs_iload (i := 4) dd_X6_countAlike_34 rfl ?_
      refine fs_icmp_ne (tgt := 42) dd_X6_countAlike_36 (by decide) (fun hc => ?_) (fun hc => ?_)
      · replace H := H.1 hc
        refine fs_iincN (i := 6) (m := 1) (c := 1) dd_X6_countAlike_42 rfl (by decide) (by decide) (fun x4 hx4 => ?_)
        replace H := H x4 hx4
        refine fs_goto (tgt := 6) dd_X6_countAlike_45 (by decide) ?_
        refine fs_weak (ls2 := [.ref 184, .int v1, .int v2, .int v3, .int v4, .int v5, .int x4]) (fz_le_e (fz_le_e (fz_le_e (fz_le_e (fz_le_e (fz_le_e (fz_le_e fz_le_n))))))) ?_
        exact hK6 H
      · replace H := H.2 hc
        refine fs_iincN (i := 5) (m := 1) (c := 1) dd_X6_countAlike_39 rfl (by decide) (by decide) (fun x5 hx5 => ?_)
        replace H := H x5 hx5
        refine fs_iincN (i := 6) (m := 1) (c := 1) dd_X6_countAlike_42 rfl (by decide) (by decide) (fun x6 hx6 => ?_)
        replace H := H x6 hx6
        refine fs_goto (tgt := 6) dd_X6_countAlike_45 (by decide) ?_
        refine fs_weak (ls2 := [.ref 184, .int v1, .int v2, .int v3, .int v4, .int x5, .int x6]) (fz_le_e (fz_le_e (fz_le_e (fz_le_e (fz_le_e (fz_le_e (fz_le_e fz_le_n))))))) ?_
        exact hK6 H
set_option maxRecDepth 100000 in
set_option maxHeartbeats 4000000 in
theorem V_lp_X6_countAlike_6 {g : fz_G} {l : Launch} {d : Nat} (hD : 1 ≤ d)    {Q : Int32 → fz_s → Prop}  (n : Nat) : ∀ {v1 : Int32} {v2 : Int32} {v3 : Int32} {v4 : Int32} {v5 : Int32} {v6 : Int32} {s : fz_s}, lp_X6_countAlike_6   Q n v1 v2 v3 v4 v5 v6 s → fs_V g l m_X6_countAlike d true 6 [.ref 184, .int v1, .int v2, .int v3, .int v4, .int v5, .int v6] [] s (rI Q) := by
  induction n with
  | zero => intro v1 v2 v3 v4 v5 v6 s H; exact H.elim
  | succ n ih => intro v1 v2 v3 v4 v5 v6 s H; exact V_nd_X6_countAlike_6 hD  (fun H => ih H) H
set_option maxRecDepth 100000 in
set_option maxHeartbeats 4000000 in
theorem V_X6_countAlike {g : fz_G} {l : Launch} {d : Nat} (hD : 1 ≤ d) {p0 : Int32} {p1 : Int32} {p2 : Int32} {p3 : Int32}  {s : fz_s} {Q : Int32 → fz_s → Prop} (H : wp_X6_countAlike p0 p1 p2 p3 s Q) : fs_V g l m_X6_countAlike d true 0 (fz_en [.ref 184, .int p0, .int p1, .int p2, .int p3] 7) [] s (rI Q) := by
  obtain ⟨d, rfl⟩ : ∃ e, d = e + 1 := ⟨d - 1, by omega⟩
  unfold wp_X6_countAlike at H
  refine fs_iconst (n := 0) (v := 0) dd_X6_countAlike_0 (by decide) ?_
  refine fs_istore (i := 5) dd_X6_countAlike_1 (by decide) ?_
  refine fs_iconst (n := 0) (v := 0) dd_X6_countAlike_3 (by decide) ?_
  refine fs_istore (i := 6) dd_X6_countAlike_4 (by decide) ?_
  refine fs_weak (ls2 := [.ref 184, .int p0, .int p1, .int p2, .int p3, .int 0, .int 0]) (fz_le_e (fz_le_e (fz_le_e (fz_le_e (fz_le_e (fz_le_e (fz_le_e fz_le_n))))))) ?_
  exact V_lp_X6_countAlike_6 hD    2048 H
theorem dd_X6_mostLeft_0 : decode m_X6_mostLeft.2.1 0 = .ok (.iconst 0, 1) := by decide +kernel
theorem dd_X6_mostLeft_1 : decode m_X6_mostLeft.2.1 1 = .ok (.istore 4, 2) := by decide +kernel
theorem dd_X6_mostLeft_3 : decode m_X6_mostLeft.2.1 3 = .ok (.iconst 0, 1) := by decide +kernel
theorem dd_X6_mostLeft_4 : decode m_X6_mostLeft.2.1 4 = .ok (.istore 5, 2) := by decide +kernel
theorem dd_X6_mostLeft_6 : decode m_X6_mostLeft.2.1 6 = .ok (.iload 5, 2) := by decide +kernel
theorem dd_X6_mostLeft_8 : decode m_X6_mostLeft.2.1 8 = .ok (.bipush 10, 2) := by decide +kernel
theorem dd_X6_mostLeft_10 : decode m_X6_mostLeft.2.1 10 = .ok (.if_icmp .ge 44, 3) := by decide +kernel
theorem dd_X6_mostLeft_13 : decode m_X6_mostLeft.2.1 13 = .ok (.iload_n 1, 1) := by decide +kernel
theorem dd_X6_mostLeft_14 : decode m_X6_mostLeft.2.1 14 = .ok (.iload 5, 2) := by decide +kernel
theorem dd_X6_mostLeft_16 : decode m_X6_mostLeft.2.1 16 = .ok (.ishr, 1) := by decide +kernel
theorem dd_X6_mostLeft_17 : decode m_X6_mostLeft.2.1 17 = .ok (.iconst 1, 1) := by decide +kernel
theorem dd_X6_mostLeft_18 : decode m_X6_mostLeft.2.1 18 = .ok (.iand, 1) := by decide +kernel
theorem dd_X6_mostLeft_19 : decode m_X6_mostLeft.2.1 19 = .ok (.ifCond .eq 29, 3) := by decide +kernel
theorem dd_X6_mostLeft_22 : decode m_X6_mostLeft.2.1 22 = .ok (.iload 4, 2) := by decide +kernel
theorem dd_X6_mostLeft_24 : decode m_X6_mostLeft.2.1 24 = .ok (.aload_n 0, 1) := by decide +kernel
theorem dd_X6_mostLeft_25 : decode m_X6_mostLeft.2.1 25 = .ok (.iload_n 1, 1) := by decide +kernel
theorem dd_X6_mostLeft_26 : decode m_X6_mostLeft.2.1 26 = .ok (.iload_n 2, 1) := by decide +kernel
theorem dd_X6_mostLeft_27 : decode m_X6_mostLeft.2.1 27 = .ok (.iload_n 3, 1) := by decide +kernel
theorem dd_X6_mostLeft_28 : decode m_X6_mostLeft.2.1 28 = .ok (.aload_n 0, 1) := by decide +kernel
theorem dd_X6_mostLeft_29 : decode m_X6_mostLeft.2.1 29 = .ok (.getfield 22, 3) := by decide +kernel
theorem dd_X6_mostLeft_32 : decode m_X6_mostLeft.2.1 32 = .ok (.iload 5, 2) := by decide +kernel
theorem dd_X6_mostLeft_34 : decode m_X6_mostLeft.2.1 34 = .ok (.iload_n 2, 1) := by decide +kernel
theorem dd_X6_mostLeft_35 : decode m_X6_mostLeft.2.1 35 = .ok (.iload_n 3, 1) := by decide +kernel
theorem dd_X6_mostLeft_36 : decode m_X6_mostLeft.2.1 36 = .ok (.invokestatic 69, 3) := by decide +kernel
theorem dd_X6_mostLeft_39 : decode m_X6_mostLeft.2.1 39 = .ok (.iaload, 1) := by decide +kernel
theorem dd_X6_mostLeft_40 : decode m_X6_mostLeft.2.1 40 = .ok (.invokevirtual 99, 3) := by decide +kernel
theorem dd_X6_mostLeft_43 : decode m_X6_mostLeft.2.1 43 = .ok (.invokestatic 46, 3) := by decide +kernel
theorem dd_X6_mostLeft_46 : decode m_X6_mostLeft.2.1 46 = .ok (.istore 4, 2) := by decide +kernel
theorem dd_X6_mostLeft_48 : decode m_X6_mostLeft.2.1 48 = .ok (.iinc 5 1, 3) := by decide +kernel
theorem dd_X6_mostLeft_51 : decode m_X6_mostLeft.2.1 51 = .ok (.goto (-45), 3) := by decide +kernel
theorem dd_X6_mostLeft_54 : decode m_X6_mostLeft.2.1 54 = .ok (.iload 4, 2) := by decide +kernel
theorem dd_X6_mostLeft_56 : decode m_X6_mostLeft.2.1 56 = .ok (.ireturn, 1) := by decide +kernel
def nd_X6_mostLeft_6  (K6 : Int32 → Int32 → Int32 → Int32 → Int32 → fz_s → Prop) (Q : Int32 → fz_s → Prop) (v1 : Int32) (v2 : Int32) (v3 : Int32) (v4 : Int32) (v5 : Int32) (s : fz_s) : Prop :=
  ((10 ≤ v5 → Q v4 s) ∧ (¬ 10 ≤ v5 → ((((v1 >>> (v5 &&& 31)) &&& 1) = 0 → ∀ x1 : Int32, x1 = v5 + 1 → K6 v1 v2 v3 v4 x1 s) ∧ (¬ ((v1 >>> (v5 &&& 31)) &&& 1) = 0 → wp_X6_cell v5 v2 v3 s (fun r2 s3 => vp_in r2 620 ∧ wp_X6_countAlike v1 v2 v3 (s3.1 192 r2.toNatClampNeg) s3 (fun r4 s5 => ∀ x6 : Int32, x6 = (if v4 < r4 then r4 else v4) → ∀ x7 : Int32, x7 = v5 + 1 → K6 v1 v2 v3 x6 x7 s5))))))
def lp_X6_mostLeft_6   (Q : Int32 → fz_s → Prop) : Nat → Int32 → Int32 → Int32 → Int32 → Int32 → fz_s → Prop
  | 0 => fun _ _ _ _ _ _ => False
  | n + 1 => nd_X6_mostLeft_6  (lp_X6_mostLeft_6   Q n) Q
def wp_X6_mostLeft (p0 : Int32) (p1 : Int32) (p2 : Int32) (s : fz_s) (Q : Int32 → fz_s → Prop) : Prop :=
  lp_X6_mostLeft_6   Q 2048 p0 p1 p2 0 0 s
set_option maxRecDepth 100000 in
set_option maxHeartbeats 4000000 in
theorem V_nd_X6_mostLeft_6 {g : fz_G} {l : Launch} {d : Nat} (hD : 2 ≤ d)   {K6 : Int32 → Int32 → Int32 → Int32 → Int32 → fz_s → Prop} {Q : Int32 → fz_s → Prop} {v1 : Int32} {v2 : Int32} {v3 : Int32} {v4 : Int32} {v5 : Int32} {s : fz_s} (hK6 : ∀ {v1 : Int32} {v2 : Int32} {v3 : Int32} {v4 : Int32} {v5 : Int32} {s : fz_s}, K6 v1 v2 v3 v4 v5 s → fs_V g l m_X6_mostLeft d true 6 [.ref 184, .int v1, .int v2, .int v3, .int v4, .int v5] [] s (rI Q)) (H : nd_X6_mostLeft_6  K6 Q v1 v2 v3 v4 v5 s) : fs_V g l m_X6_mostLeft d true 6 [.ref 184, .int v1, .int v2, .int v3, .int v4, .int v5] [] s (rI Q) := by
  obtain ⟨d, rfl⟩ : ∃ e, d = e + 1 := ⟨d - 1, by omega⟩
  unfold nd_X6_mostLeft_6 at H
  refine fs_iload (i := 5) dd_X6_mostLeft_6 rfl ?_
  refine fs_bipush (n := 10) (v := 10) dd_X6_mostLeft_8 (by decide) ?_
  refine fs_icmp_ge (tgt := 54) dd_X6_mostLeft_10 (by decide) (fun hc => ?_) (fun hc => ?_)
  · replace H := H.1 hc
    refine fs_iload (i := 4) dd_X6_mostLeft_54 rfl ?_
    exact fs_iret dd_X6_mostLeft_56 rfl H
  · replace H := H.2 hc
    refine fs_iload_n (k0 := 1) (i := 1) dd_X6_mostLeft_13 rfl rfl ?_
    refine fs_iload (i := 5) dd_X6_mostLeft_14 rfl ?_
    refine fs_ishr dd_X6_mostLeft_16 ?_
    refine fs_iconst (n := 1) (v := 1) dd_X6_mostLeft_17 (by decide) ?_
    refine fs_iand dd_X6_mostLeft_18 ?_
    refine fs_if_eq (tgt := 48) dd_X6_mostLeft_19 (by decide) (fun hc => ?_) (fun hc => ?_)
    · replace H := H.1 hc
      refine fs_iincN (i := 5) (m := 1) (c := 1) dd_X6_mostLeft_48 rfl (by decide) (by decide) (fun x1 hx1 => ?_)
      replace H := H x1 hx1
      refine fs_goto (tgt := 6) dd_X6_mostLeft_51 (by decide) ?_
      refine fs_weak (ls2 := [.ref 184, .int v1, .int v2, .int v3, .int v4, .int x1]) (fz_le_e (fz_le_e (fz_le_e (fz_le_e (fz_le_e (fz_le_e fz_le_n)))))) ?_
      exact hK6 H
    · replace H := H.2 hc
      refine fs_iload (i := 4) dd_X6_mostLeft_22 rfl ?_
      refine fs_aload_n (k0 := 0) (i := 0) dd_X6_mostLeft_24 rfl rfl ?_
      refine fs_iload_n (k0 := 1) (i := 1) dd_X6_mostLeft_25 rfl rfl ?_
      refine fs_iload_n (k0 := 2) (i := 2) dd_X6_mostLeft_26 rfl rfl ?_
      refine fs_iload_n (k0 := 3) (i := 3) dd_X6_mostLeft_27 rfl rfl ?_
      refine fs_aload_n (k0 := 0) (i := 0) dd_X6_mostLeft_28 rfl rfl ?_
      refine fs_getr (ci := 6) (j := 3) (q := 192) dd_X6_mostLeft_29 fl_X6_22 ca_184 rfl (Or.inr ⟨_, rfl⟩) rfl (by decide) ?_
      refine fs_iload (i := 5) dd_X6_mostLeft_32 rfl ?_
      refine fs_iload_n (k0 := 2) (i := 2) dd_X6_mostLeft_34 rfl rfl ?_
      refine fs_iload_n (k0 := 3) (i := 3) dd_X6_mostLeft_35 rfl rfl ?_
      refine fs_callS (y := m_X6_cell) (as := [.int v5, .int v2, .int v3]) dd_X6_mostLeft_36 me_X6_cell (Or.inl lk_X6_69) st_X6_cell rfl (Nat.le_of_ble_eq_true rfl) (Nat.le_of_ble_eq_true rfl) rfl (V_X6_cell (by omega)  H) (k2_I fun r2 s3 H => ?_)
      have hb := H.1
      replace H := H.2
      refine fs_iald dd_X6_mostLeft_39 ca_192 hb ?_
      refine fs_callV (y := m_X6_countAlike) (as := [.int v1, .int v2, .int v3, .int (s3.1 192 r2.toNatClampNeg)]) dd_X6_mostLeft_40 me_X6_countAlike lk_X6_99 in_X6_countAlike se_X6_countAlike ca_184 rfl rfl rfl (Nat.le_of_ble_eq_true rfl) (Nat.le_of_ble_eq_true rfl) rfl (V_X6_countAlike (by omega)  H) (k2_I fun r4 s5 H => ?_)
      refine fs_mmax dd_X6_mostLeft_43 lk_X6_46 (Nat.le_of_ble_eq_true rfl) ?_
      refine fs_topi (fun x6 hx6 => ?_)
      replace H := H x6 hx6
      refine fs_istore (i := 4) dd_X6_mostLeft_46 (by decide) ?_
      refine fs_iincN (i := 5) (m := 1) (c := 1) dd_X6_mostLeft_48 rfl (by decide) (by decide) (fun x7 hx7 => ?_)
      replace H := H x7 hx7
      refine fs_goto (tgt := 6) dd_X6_mostLeft_51 (by decide) ?_
      refine fs_weak (ls2 := [.ref 184, .int v1, .int v2, .int v3, .int x6, .int x7]) (fz_le_e (fz_le_e (fz_le_e (fz_le_e (fz_le_e (fz_le_e fz_le_n)))))) ?_
      exact hK6 H
set_option maxRecDepth 100000 in
set_option maxHeartbeats 4000000 in
theorem V_lp_X6_mostLeft_6 {g : fz_G} {l : Launch} {d : Nat} (hD : 2 ≤ d)    {Q : Int32 → fz_s → Prop}  (n : Nat) : ∀ {v1 : Int32} {v2 : Int32} {v3 : Int32} {v4 : Int32} {v5 : Int32} {s : fz_s}, lp_X6_mostLeft_6   Q n v1 v2 v3 v4 v5 s → fs_V g l m_X6_mostLeft d true 6 [.ref 184, .int v1, .int v2, .int v3, .int v4, .int v5] [] s (rI Q) := by
  induction n with
  | zero => intro v1 v2 v3 v4 v5 s H; exact H.elim
  | succ n ih => intro v1 v2 v3 v4 v5 s H; exact V_nd_X6_mostLeft_6 hD  (fun H => ih H) H
set_option maxRecDepth 100000 in
set_option maxHeartbeats 4000000 in
theorem V_X6_mostLeft {g : fz_G} {l : Launch} {d : Nat} (hD : 2 ≤ d) {p0 : Int32} {p1 : Int32} {p2 : Int32}  {s : fz_s} {Q : Int32 → fz_s → Prop} (H : wp_X6_mostLeft p0 p1 p2 s Q) : fs_V g l m_X6_mostLeft d true 0 (fz_en [.ref 184, .int p0, .int p1, .int p2] 6) [] s (rI Q) := by
  obtain ⟨d, rfl⟩ : ∃ e, d = e + 1 := ⟨d - 1, by omega⟩
  unfold wp_X6_mostLeft at H
  refine fs_iconst (n := 0) (v := 0) dd_X6_mostLeft_0 (by decide) ?_
  refine fs_istore (i := 4) dd_X6_mostLeft_1 (by decide) ?_
  refine fs_iconst (n := 0) (v := 0) dd_X6_mostLeft_3 (by decide) ?_
  refine fs_istore (i := 5) dd_X6_mostLeft_4 (by decide) ?_
  refine fs_weak (ls2 := [.ref 184, .int p0, .int p1, .int p2, .int 0, .int 0]) (fz_le_e (fz_le_e (fz_le_e (fz_le_e (fz_le_e (fz_le_e fz_le_n)))))) ?_
  exact V_lp_X6_mostLeft_6 hD    2048 H
theorem dd_X6_findTelling_0 : decode m_X6_findTelling.2.1 0 = .ok (.aload_n 0, 1) := by decide +kernel
theorem dd_X6_findTelling_1 : decode m_X6_findTelling.2.1 1 = .ok (.aload_n 1, 1) := by decide +kernel
theorem dd_X6_findTelling_2 : decode m_X6_findTelling.2.1 2 = .ok (.invokevirtual 93, 3) := by decide +kernel
theorem dd_X6_findTelling_5 : decode m_X6_findTelling.2.1 5 = .ok (.istore_n 2, 1) := by decide +kernel
theorem dd_X6_findTelling_6 : decode m_X6_findTelling.2.1 6 = .ok (.aload_n 1, 1) := by decide +kernel
theorem dd_X6_findTelling_7 : decode m_X6_findTelling.2.1 7 = .ok (.invokestatic 58, 3) := by decide +kernel
theorem dd_X6_findTelling_10 : decode m_X6_findTelling.2.1 10 = .ok (.istore_n 3, 1) := by decide +kernel
theorem dd_X6_findTelling_11 : decode m_X6_findTelling.2.1 11 = .ok (.iload_n 2, 1) := by decide +kernel
theorem dd_X6_findTelling_12 : decode m_X6_findTelling.2.1 12 = .ok (.ifCond .eq 8, 3) := by decide +kernel
theorem dd_X6_findTelling_15 : decode m_X6_findTelling.2.1 15 = .ok (.iload_n 3, 1) := by decide +kernel
theorem dd_X6_findTelling_16 : decode m_X6_findTelling.2.1 16 = .ok (.iconst 1, 1) := by decide +kernel
theorem dd_X6_findTelling_17 : decode m_X6_findTelling.2.1 17 = .ok (.if_icmp .ge 5, 3) := by decide +kernel
theorem dd_X6_findTelling_20 : decode m_X6_findTelling.2.1 20 = .ok (.iconst 0, 1) := by decide +kernel
theorem dd_X6_findTelling_21 : decode m_X6_findTelling.2.1 21 = .ok (.ireturn, 1) := by decide +kernel
theorem dd_X6_findTelling_22 : decode m_X6_findTelling.2.1 22 = .ok (.aload_n 0, 1) := by decide +kernel
theorem dd_X6_findTelling_23 : decode m_X6_findTelling.2.1 23 = .ok (.getfield 25, 3) := by decide +kernel
theorem dd_X6_findTelling_26 : decode m_X6_findTelling.2.1 26 = .ok (.iconst 2, 1) := by decide +kernel
theorem dd_X6_findTelling_27 : decode m_X6_findTelling.2.1 27 = .ok (.bipush 11, 2) := by decide +kernel
theorem dd_X6_findTelling_29 : decode m_X6_findTelling.2.1 29 = .ok (.iastore, 1) := by decide +kernel
theorem dd_X6_findTelling_30 : decode m_X6_findTelling.2.1 30 = .ok (.iconst 1, 1) := by decide +kernel
theorem dd_X6_findTelling_31 : decode m_X6_findTelling.2.1 31 = .ok (.istore 4, 2) := by decide +kernel
theorem dd_X6_findTelling_33 : decode m_X6_findTelling.2.1 33 = .ok (.iload 4, 2) := by decide +kernel
theorem dd_X6_findTelling_35 : decode m_X6_findTelling.2.1 35 = .ok (.iload_n 3, 1) := by decide +kernel
theorem dd_X6_findTelling_36 : decode m_X6_findTelling.2.1 36 = .ok (.if_icmp .gt 70, 3) := by decide +kernel
theorem dd_X6_findTelling_39 : decode m_X6_findTelling.2.1 39 = .ok (.iconst 0, 1) := by decide +kernel
theorem dd_X6_findTelling_40 : decode m_X6_findTelling.2.1 40 = .ok (.istore 5, 2) := by decide +kernel
theorem dd_X6_findTelling_42 : decode m_X6_findTelling.2.1 42 = .ok (.iload 5, 2) := by decide +kernel
theorem dd_X6_findTelling_44 : decode m_X6_findTelling.2.1 44 = .ok (.iconst 2, 1) := by decide +kernel
theorem dd_X6_findTelling_45 : decode m_X6_findTelling.2.1 45 = .ok (.if_icmp .ge 55, 3) := by decide +kernel
theorem dd_X6_findTelling_48 : decode m_X6_findTelling.2.1 48 = .ok (.aload_n 0, 1) := by decide +kernel
theorem dd_X6_findTelling_49 : decode m_X6_findTelling.2.1 49 = .ok (.iload_n 2, 1) := by decide +kernel
theorem dd_X6_findTelling_50 : decode m_X6_findTelling.2.1 50 = .ok (.iload 4, 2) := by decide +kernel
theorem dd_X6_findTelling_52 : decode m_X6_findTelling.2.1 52 = .ok (.iload 5, 2) := by decide +kernel
theorem dd_X6_findTelling_54 : decode m_X6_findTelling.2.1 54 = .ok (.invokevirtual 96, 3) := by decide +kernel
theorem dd_X6_findTelling_57 : decode m_X6_findTelling.2.1 57 = .ok (.istore 6, 2) := by decide +kernel
theorem dd_X6_findTelling_59 : decode m_X6_findTelling.2.1 59 = .ok (.iload 6, 2) := by decide +kernel
theorem dd_X6_findTelling_61 : decode m_X6_findTelling.2.1 61 = .ok (.aload_n 0, 1) := by decide +kernel
theorem dd_X6_findTelling_62 : decode m_X6_findTelling.2.1 62 = .ok (.getfield 25, 3) := by decide +kernel
theorem dd_X6_findTelling_65 : decode m_X6_findTelling.2.1 65 = .ok (.iconst 2, 1) := by decide +kernel
theorem dd_X6_findTelling_66 : decode m_X6_findTelling.2.1 66 = .ok (.iaload, 1) := by decide +kernel
theorem dd_X6_findTelling_67 : decode m_X6_findTelling.2.1 67 = .ok (.if_icmp .ge 27, 3) := by decide +kernel
theorem dd_X6_findTelling_70 : decode m_X6_findTelling.2.1 70 = .ok (.aload_n 0, 1) := by decide +kernel
theorem dd_X6_findTelling_71 : decode m_X6_findTelling.2.1 71 = .ok (.getfield 25, 3) := by decide +kernel
theorem dd_X6_findTelling_74 : decode m_X6_findTelling.2.1 74 = .ok (.iconst 0, 1) := by decide +kernel
theorem dd_X6_findTelling_75 : decode m_X6_findTelling.2.1 75 = .ok (.iload 4, 2) := by decide +kernel
theorem dd_X6_findTelling_77 : decode m_X6_findTelling.2.1 77 = .ok (.iastore, 1) := by decide +kernel
theorem dd_X6_findTelling_78 : decode m_X6_findTelling.2.1 78 = .ok (.aload_n 0, 1) := by decide +kernel
theorem dd_X6_findTelling_79 : decode m_X6_findTelling.2.1 79 = .ok (.getfield 25, 3) := by decide +kernel
theorem dd_X6_findTelling_82 : decode m_X6_findTelling.2.1 82 = .ok (.iconst 1, 1) := by decide +kernel
theorem dd_X6_findTelling_83 : decode m_X6_findTelling.2.1 83 = .ok (.iload 5, 2) := by decide +kernel
theorem dd_X6_findTelling_85 : decode m_X6_findTelling.2.1 85 = .ok (.iastore, 1) := by decide +kernel
theorem dd_X6_findTelling_86 : decode m_X6_findTelling.2.1 86 = .ok (.aload_n 0, 1) := by decide +kernel
theorem dd_X6_findTelling_87 : decode m_X6_findTelling.2.1 87 = .ok (.getfield 25, 3) := by decide +kernel
theorem dd_X6_findTelling_90 : decode m_X6_findTelling.2.1 90 = .ok (.iconst 2, 1) := by decide +kernel
theorem dd_X6_findTelling_91 : decode m_X6_findTelling.2.1 91 = .ok (.iload 6, 2) := by decide +kernel
theorem dd_X6_findTelling_93 : decode m_X6_findTelling.2.1 93 = .ok (.iastore, 1) := by decide +kernel
theorem dd_X6_findTelling_94 : decode m_X6_findTelling.2.1 94 = .ok (.iinc 5 1, 3) := by decide +kernel
theorem dd_X6_findTelling_97 : decode m_X6_findTelling.2.1 97 = .ok (.goto (-55), 3) := by decide +kernel
theorem dd_X6_findTelling_100 : decode m_X6_findTelling.2.1 100 = .ok (.iinc 4 1, 3) := by decide +kernel
theorem dd_X6_findTelling_103 : decode m_X6_findTelling.2.1 103 = .ok (.goto (-70), 3) := by decide +kernel
theorem dd_X6_findTelling_106 : decode m_X6_findTelling.2.1 106 = .ok (.iconst 1, 1) := by decide +kernel
theorem dd_X6_findTelling_107 : decode m_X6_findTelling.2.1 107 = .ok (.ireturn, 1) := by decide +kernel
def nd_X6_findTelling_42 (w0 : Nat) (K33 : Int32 → Int32 → Int32 → fz_s → Prop) (K42 : Int32 → Int32 → Int32 → Int32 → fz_s → Prop) (Q : Bool → fz_s → Prop) (v2 : Int32) (v3 : Int32) (v4 : Int32) (v5 : Int32) (s : fz_s) : Prop :=
  ((2 ≤ v5 → ∀ x1 : Int32, x1 = v4 + 1 → K33 v2 v3 x1 s) ∧ (¬ 2 ≤ v5 → wp_X6_mostLeft v2 v4 v5 s (fun r2 s3 => (((s3.1 193 (2 : Int32).toNatClampNeg) ≤ r2 → ∀ x4 : Int32, x4 = v5 + 1 → K42 v2 v3 v4 x4 s3) ∧ (¬ (s3.1 193 (2 : Int32).toNatClampNeg) ≤ r2 → ∀ s5 : fz_s, s5 = si s3 193 (0 : Int32).toNatClampNeg v4 → ∀ s6 : fz_s, s6 = si s5 193 (1 : Int32).toNatClampNeg v5 → ∀ s7 : fz_s, s7 = si s6 193 (2 : Int32).toNatClampNeg r2 → ∀ x8 : Int32, x8 = v5 + 1 → K42 v2 v3 v4 x8 s7)))))
def lp_X6_findTelling_42 (w0 : Nat) (K33 : Int32 → Int32 → Int32 → fz_s → Prop) (Q : Bool → fz_s → Prop) : Nat → Int32 → Int32 → Int32 → Int32 → fz_s → Prop
  | 0 => fun _ _ _ _ _ => False
  | n + 1 => nd_X6_findTelling_42 w0 K33 (lp_X6_findTelling_42 w0 K33 Q n) Q
def nd_X6_findTelling_33 (w0 : Nat) (K33 : Int32 → Int32 → Int32 → fz_s → Prop) (Q : Bool → fz_s → Prop) (v2 : Int32) (v3 : Int32) (v4 : Int32) (s : fz_s) : Prop :=
  ((v3 < v4 → Q true s) ∧ (¬ v3 < v4 → lp_X6_findTelling_42 w0 K33 Q 2048 v2 v3 v4 0 s))
def lp_X6_findTelling_33 (w0 : Nat)  (Q : Bool → fz_s → Prop) : Nat → Int32 → Int32 → Int32 → fz_s → Prop
  | 0 => fun _ _ _ _ => False
  | n + 1 => nd_X6_findTelling_33 w0 (lp_X6_findTelling_33 w0  Q n) Q
def wp_X6_findTelling (w0 : Nat) (s : fz_s) (Q : Bool → fz_s → Prop) : Prop :=
  wp_X6_possible w0 s (fun r1 s2 => wp_X6_farthestYear w0 s2 (fun r3 s4 => ((r1 = 0 → Q false s4) ∧ (¬ r1 = 0 → ((1 ≤ r3 → ∀ s5 : fz_s, s5 = si s4 193 (2 : Int32).toNatClampNeg 11 → lp_X6_findTelling_33 w0  Q 2048 r1 r3 1 s5) ∧ (¬ 1 ≤ r3 → Q false s4))))))
set_option maxRecDepth 100000 in
set_option maxHeartbeats 4000000 in
theorem V_nd_X6_findTelling_42 {g : fz_G} {l : Launch} {d : Nat} (hD : 3 ≤ d) {w0 : Nat} (hw0 : fz_at true w0 10 7) {K33 : Int32 → Int32 → Int32 → fz_s → Prop} {K42 : Int32 → Int32 → Int32 → Int32 → fz_s → Prop} {Q : Bool → fz_s → Prop} {v2 : Int32} {v3 : Int32} {v4 : Int32} {v5 : Int32} {s : fz_s} (hK33 : ∀ {v2 : Int32} {v3 : Int32} {v4 : Int32} {s : fz_s}, K33 v2 v3 v4 s → fs_V g l m_X6_findTelling d true 33 [.ref 184, fz_J, .int v2, .int v3, .int v4, fz_J, fz_J] [] s (rZ Q)) (hK42 : ∀ {v2 : Int32} {v3 : Int32} {v4 : Int32} {v5 : Int32} {s : fz_s}, K42 v2 v3 v4 v5 s → fs_V g l m_X6_findTelling d true 42 [.ref 184, fz_J, .int v2, .int v3, .int v4, .int v5, fz_J] [] s (rZ Q)) (H : nd_X6_findTelling_42 w0 K33 K42 Q v2 v3 v4 v5 s) : fs_V g l m_X6_findTelling d true 42 [.ref 184, fz_J, .int v2, .int v3, .int v4, .int v5, fz_J] [] s (rZ Q) := by
  obtain ⟨d, rfl⟩ : ∃ e, d = e + 1 := ⟨d - 1, by omega⟩
  unfold nd_X6_findTelling_42 at H
  refine fs_iload (i := 5) dd_X6_findTelling_42 rfl ?_
  refine fs_iconst (n := 2) (v := 2) dd_X6_findTelling_44 (by decide) ?_
  refine fs_icmp_ge (tgt := 100) dd_X6_findTelling_45 (by decide) (fun hc => ?_) (fun hc => ?_)
  · replace H := H.1 hc
    refine fs_iincN (i := 4) (m := 1) (c := 1) dd_X6_findTelling_100 rfl (by decide) (by decide) (fun x1 hx1 => ?_)
    replace H := H x1 hx1
    refine fs_goto (tgt := 33) dd_X6_findTelling_103 (by decide) ?_
    refine fs_weak (ls2 := [.ref 184, fz_J, .int v2, .int v3, .int x1, fz_J, fz_J]) (fz_le_e (fz_le_j (fz_le_e (fz_le_e (fz_le_e (fz_le_j (fz_le_j fz_le_n))))))) ?_
    exact hK33 H
  · replace H := H.2 hc
    refine fs_aload_n (k0 := 0) (i := 0) dd_X6_findTelling_48 rfl rfl ?_
    refine fs_iload_n (k0 := 2) (i := 2) dd_X6_findTelling_49 rfl rfl ?_
    refine fs_iload (i := 4) dd_X6_findTelling_50 rfl ?_
    refine fs_iload (i := 5) dd_X6_findTelling_52 rfl ?_
    refine fs_callV (y := m_X6_mostLeft) (as := [.int v2, .int v4, .int v5]) dd_X6_findTelling_54 me_X6_mostLeft lk_X6_96 in_X6_mostLeft se_X6_mostLeft ca_184 rfl rfl rfl (Nat.le_of_ble_eq_true rfl) (Nat.le_of_ble_eq_true rfl) rfl (V_X6_mostLeft (by omega)  H) (k2_I fun r2 s3 H => ?_)
    refine fs_istore (i := 6) dd_X6_findTelling_57 (by decide) ?_
    refine fs_iload (i := 6) dd_X6_findTelling_59 rfl ?_
    refine fs_aload_n (k0 := 0) (i := 0) dd_X6_findTelling_61 rfl rfl ?_
    refine fs_getr (ci := 6) (j := 4) (q := 193) dd_X6_findTelling_62 fl_X6_25 ca_184 rfl (Or.inr ⟨_, rfl⟩) rfl (by decide) ?_
    refine fs_iconst (n := 2) (v := 2) dd_X6_findTelling_65 (by decide) ?_
    refine fs_iald dd_X6_findTelling_66 ca_193 (vp_in_nI (n := 2) (by decide) (by decide)) ?_
    refine fs_icmp_ge (tgt := 94) dd_X6_findTelling_67 (by decide) (fun hc => ?_) (fun hc => ?_)
    · replace H := H.1 hc
      refine fs_iincN (i := 5) (m := 1) (c := 1) dd_X6_findTelling_94 rfl (by decide) (by decide) (fun x4 hx4 => ?_)
      replace H := H x4 hx4
      refine fs_goto (tgt := 42) dd_X6_findTelling_97 (by decide) ?_
      refine fs_weak (ls2 := [.ref 184, fz_J, .int v2, .int v3, .int v4, .int x4, fz_J]) (fz_le_e (fz_le_j (fz_le_e (fz_le_e (fz_le_e (fz_le_e (fz_le_j fz_le_n))))))) ?_
      exact hK42 H
    · replace H := H.2 hc
      refine fs_aload_n (k0 := 0) (i := 0) dd_X6_findTelling_70 rfl rfl ?_
      refine fs_getr (ci := 6) (j := 4) (q := 193) dd_X6_findTelling_71 fl_X6_25 ca_184 rfl (Or.inr ⟨_, rfl⟩) rfl (by decide) ?_
      refine fs_iconst (n := 0) (v := 0) dd_X6_findTelling_74 (by decide) ?_
      refine fs_iload (i := 4) dd_X6_findTelling_75 rfl ?_
      refine fs_iast dd_X6_findTelling_77 ca_193 (vp_in_nI (n := 0) (by decide) (by decide)) ?_
      refine fs_tops (fun s5 hs5 => ?_)
      replace H := H s5 hs5
      refine fs_aload_n (k0 := 0) (i := 0) dd_X6_findTelling_78 rfl rfl ?_
      refine fs_getr (ci := 6) (j := 4) (q := 193) dd_X6_findTelling_79 fl_X6_25 ca_184 rfl (Or.inr ⟨_, rfl⟩) rfl (by decide) ?_
      refine fs_iconst (n := 1) (v := 1) dd_X6_findTelling_82 (by decide) ?_
      refine fs_iload (i := 5) dd_X6_findTelling_83 rfl ?_
      refine fs_iast dd_X6_findTelling_85 ca_193 (vp_in_nI (n := 1) (by decide) (by decide)) ?_
      refine fs_tops (fun s6 hs6 => ?_)
      replace H := H s6 hs6
      refine fs_aload_n (k0 := 0) (i := 0) dd_X6_findTelling_86 rfl rfl ?_
      refine fs_getr (ci := 6) (j := 4) (q := 193) dd_X6_findTelling_87 fl_X6_25 ca_184 rfl (Or.inr ⟨_, rfl⟩) rfl (by decide) ?_
      refine fs_iconst (n := 2) (v := 2) dd_X6_findTelling_90 (by decide) ?_
      refine fs_iload (i := 6) dd_X6_findTelling_91 rfl ?_
      refine fs_iast dd_X6_findTelling_93 ca_193 (vp_in_nI (n := 2) (by decide) (by decide)) ?_
      refine fs_tops (fun s7 hs7 => ?_)
      replace H := H s7 hs7
      refine fs_iincN (i := 5) (m := 1) (c := 1) dd_X6_findTelling_94 rfl (by decide) (by decide) (fun x8 hx8 => ?_)
      replace H := H x8 hx8
      refine fs_goto (tgt := 42) dd_X6_findTelling_97 (by decide) ?_
      refine fs_weak (ls2 := [.ref 184, fz_J, .int v2, .int v3, .int v4, .int x8, fz_J]) (fz_le_e (fz_le_j (fz_le_e (fz_le_e (fz_le_e (fz_le_e (fz_le_j fz_le_n))))))) ?_
      exact hK42 H
set_option maxRecDepth 100000 in
set_option maxHeartbeats 4000000 in
theorem V_lp_X6_findTelling_42 {g : fz_G} {l : Launch} {d : Nat} (hD : 3 ≤ d) {w0 : Nat} (hw0 : fz_at true w0 10 7) {K33 : Int32 → Int32 → Int32 → fz_s → Prop} {Q : Bool → fz_s → Prop} (hK33 : ∀ {v2 : Int32} {v3 : Int32} {v4 : Int32} {s : fz_s}, K33 v2 v3 v4 s → fs_V g l m_X6_findTelling d true 33 [.ref 184, fz_J, .int v2, .int v3, .int v4, fz_J, fz_J] [] s (rZ Q)) (n : Nat) : ∀ {v2 : Int32} {v3 : Int32} {v4 : Int32} {v5 : Int32} {s : fz_s}, lp_X6_findTelling_42 w0 K33 Q n v2 v3 v4 v5 s → fs_V g l m_X6_findTelling d true 42 [.ref 184, fz_J, .int v2, .int v3, .int v4, .int v5, fz_J] [] s (rZ Q) := by
  induction n with
  | zero => intro v2 v3 v4 v5 s H; exact H.elim
  | succ n ih => intro v2 v3 v4 v5 s H; exact V_nd_X6_findTelling_42 hD hw0 hK33 (fun H => ih H) H
set_option maxRecDepth 100000 in
set_option maxHeartbeats 4000000 in
theorem V_nd_X6_findTelling_33 {g : fz_G} {l : Launch} {d : Nat} (hD : 3 ≤ d) {w0 : Nat} (hw0 : fz_at true w0 10 7) {K33 : Int32 → Int32 → Int32 → fz_s → Prop} {Q : Bool → fz_s → Prop} {v2 : Int32} {v3 : Int32} {v4 : Int32} {s : fz_s} (hK33 : ∀ {v2 : Int32} {v3 : Int32} {v4 : Int32} {s : fz_s}, K33 v2 v3 v4 s → fs_V g l m_X6_findTelling d true 33 [.ref 184, fz_J, .int v2, .int v3, .int v4, fz_J, fz_J] [] s (rZ Q)) (H : nd_X6_findTelling_33 w0 K33 Q v2 v3 v4 s) : fs_V g l m_X6_findTelling d true 33 [.ref 184, fz_J, .int v2, .int v3, .int v4, fz_J, fz_J] [] s (rZ Q) := by
  obtain ⟨d, rfl⟩ : ∃ e, d = e + 1 := ⟨d - 1, by omega⟩
  unfold nd_X6_findTelling_33 at H
  refine fs_iload (i := 4) dd_X6_findTelling_33 rfl ?_
  refine fs_iload_n (k0 := 3) (i := 3) dd_X6_findTelling_35 rfl rfl ?_
  refine fs_icmp_gt (tgt := 106) dd_X6_findTelling_36 (by decide) (fun hc => ?_) (fun hc => ?_)
  · replace H := H.1 hc
    refine fs_iconst (n := 1) (v := 1) dd_X6_findTelling_106 (by decide) ?_
    exact fs_zret true dd_X6_findTelling_107 rfl rfl H
  · replace H := H.2 hc
    refine fs_iconst (n := 0) (v := 0) dd_X6_findTelling_39 (by decide) ?_
    refine fs_istore (i := 5) dd_X6_findTelling_40 (by decide) ?_
    refine fs_weak (ls2 := [.ref 184, fz_J, .int v2, .int v3, .int v4, .int 0, fz_J]) (fz_le_e (fz_le_j (fz_le_e (fz_le_e (fz_le_e (fz_le_e (fz_le_j fz_le_n))))))) ?_
    exact V_lp_X6_findTelling_42 hD  hw0 hK33 2048 H
set_option maxRecDepth 100000 in
set_option maxHeartbeats 4000000 in
theorem V_lp_X6_findTelling_33 {g : fz_G} {l : Launch} {d : Nat} (hD : 3 ≤ d) {w0 : Nat} (hw0 : fz_at true w0 10 7)  {Q : Bool → fz_s → Prop}  (n : Nat) : ∀ {v2 : Int32} {v3 : Int32} {v4 : Int32} {s : fz_s}, lp_X6_findTelling_33 w0  Q n v2 v3 v4 s → fs_V g l m_X6_findTelling d true 33 [.ref 184, fz_J, .int v2, .int v3, .int v4, fz_J, fz_J] [] s (rZ Q) := by
  induction n with
  | zero => intro v2 v3 v4 s H; exact H.elim
  | succ n ih => intro v2 v3 v4 s H; exact V_nd_X6_findTelling_33 hD hw0 (fun H => ih H) H
set_option maxRecDepth 100000 in
set_option maxHeartbeats 4000000 in
theorem V_X6_findTelling {g : fz_G} {l : Launch} {d : Nat} (hD : 3 ≤ d) {w0 : Nat} (hw0 : fz_at true w0 10 7) {s : fz_s} {Q : Bool → fz_s → Prop} (H : wp_X6_findTelling w0 s Q) : fs_V g l m_X6_findTelling d true 0 (fz_en [.ref 184, .ref w0] 7) [] s (rZ Q) := by
  obtain ⟨d, rfl⟩ : ∃ e, d = e + 1 := ⟨d - 1, by omega⟩
  unfold wp_X6_findTelling at H
  refine fs_aload_n (k0 := 0) (i := 0) dd_X6_findTelling_0 rfl rfl ?_
  refine fs_aload_n (k0 := 1) (i := 1) dd_X6_findTelling_1 rfl rfl ?_
  refine fs_callV (y := m_X6_possible) (as := [.ref w0]) dd_X6_findTelling_2 me_X6_possible lk_X6_93 in_X6_possible se_X6_possible ca_184 rfl rfl rfl (Nat.le_of_ble_eq_true rfl) (Nat.le_of_ble_eq_true rfl) rfl (V_X6_possible (by omega) hw0 H) (k2_I fun r1 s2 H => ?_)
  refine fs_istore_n (k0 := 2) (i := 2) dd_X6_findTelling_5 rfl (by decide) ?_
  refine fs_aload_n (k0 := 1) (i := 1) dd_X6_findTelling_6 rfl rfl ?_
  refine fs_callS (y := m_X6_farthestYear) (as := [.ref w0]) dd_X6_findTelling_7 me_X6_farthestYear (Or.inl lk_X6_58) st_X6_farthestYear rfl (Nat.le_of_ble_eq_true rfl) (Nat.le_of_ble_eq_true rfl) rfl (V_X6_farthestYear (by omega) hw0 H) (k2_I fun r3 s4 H => ?_)
  refine fs_istore_n (k0 := 3) (i := 3) dd_X6_findTelling_10 rfl (by decide) ?_
  refine fs_iload_n (k0 := 2) (i := 2) dd_X6_findTelling_11 rfl rfl ?_
  refine fs_if_eq (tgt := 20) dd_X6_findTelling_12 (by decide) (fun hc => ?_) (fun hc => ?_)
  · replace H := H.1 hc
    refine fs_iconst (n := 0) (v := 0) dd_X6_findTelling_20 (by decide) ?_
    exact fs_zret false dd_X6_findTelling_21 rfl rfl H
  · replace H := H.2 hc
    refine fs_iload_n (k0 := 3) (i := 3) dd_X6_findTelling_15 rfl rfl ?_
    refine fs_iconst (n := 1) (v := 1) dd_X6_findTelling_16 (by decide) ?_
    refine fs_icmp_ge (tgt := 22) dd_X6_findTelling_17 (by decide) (fun hc => ?_) (fun hc => ?_)
    · replace H := H.1 hc
      refine fs_aload_n (k0 := 0) (i := 0) dd_X6_findTelling_22 rfl rfl ?_
      refine fs_getr (ci := 6) (j := 4) (q := 193) dd_X6_findTelling_23 fl_X6_25 ca_184 rfl (Or.inr ⟨_, rfl⟩) rfl (by decide) ?_
      refine fs_iconst (n := 2) (v := 2) dd_X6_findTelling_26 (by decide) ?_
      refine fs_bipush (n := 11) (v := 11) dd_X6_findTelling_27 (by decide) ?_
      refine fs_iast dd_X6_findTelling_29 ca_193 (vp_in_nI (n := 2) (by decide) (by decide)) ?_
      refine fs_tops (fun s5 hs5 => ?_)
      replace H := H s5 hs5
      refine fs_iconst (n := 1) (v := 1) dd_X6_findTelling_30 (by decide) ?_
      refine fs_istore (i := 4) dd_X6_findTelling_31 (by decide) ?_
      refine fs_weak (ls2 := [.ref 184, fz_J, .int r1, .int r3, .int 1, fz_J, fz_J]) (fz_le_e (fz_le_j (fz_le_e (fz_le_e (fz_le_e (fz_le_j (fz_le_j fz_le_n))))))) ?_
      exact V_lp_X6_findTelling_33 hD  hw0  2048 H
    · replace H := H.2 hc
      refine fs_iconst (n := 0) (v := 0) dd_X6_findTelling_20 (by decide) ?_
      exact fs_zret false dd_X6_findTelling_21 rfl rfl H
theorem dd_X11_tells_0 : decode m_X11_tells.2.1 0 = .ok (.aload_n 0, 1) := by decide +kernel
theorem dd_X11_tells_1 : decode m_X11_tells.2.1 1 = .ok (.iload_n 1, 1) := by decide +kernel
theorem dd_X11_tells_2 : decode m_X11_tells.2.1 2 = .ok (.invokevirtual 192, 3) := by decide +kernel
theorem dd_X11_tells_5 : decode m_X11_tells.2.1 5 = .ok (.ifCond .ne 20, 3) := by decide +kernel
theorem dd_X11_tells_8 : decode m_X11_tells.2.1 8 = .ok (.iload_n 2, 1) := by decide +kernel
theorem dd_X11_tells_9 : decode m_X11_tells.2.1 9 = .ok (.ifCond .lt 16, 3) := by decide +kernel
theorem dd_X11_tells_12 : decode m_X11_tells.2.1 12 = .ok (.iload_n 2, 1) := by decide +kernel
theorem dd_X11_tells_13 : decode m_X11_tells.2.1 13 = .ok (.iconst 2, 1) := by decide +kernel
theorem dd_X11_tells_14 : decode m_X11_tells.2.1 14 = .ok (.if_icmp .gt 11, 3) := by decide +kernel
theorem dd_X11_tells_17 : decode m_X11_tells.2.1 17 = .ok (.aload_n 0, 1) := by decide +kernel
theorem dd_X11_tells_18 : decode m_X11_tells.2.1 18 = .ok (.iconst 1, 1) := by decide +kernel
theorem dd_X11_tells_19 : decode m_X11_tells.2.1 19 = .ok (.invokevirtual 249, 3) := by decide +kernel
theorem dd_X11_tells_22 : decode m_X11_tells.2.1 22 = .ok (.ifCond .eq 5, 3) := by decide +kernel
theorem dd_X11_tells_25 : decode m_X11_tells.2.1 25 = .ok (.iconst (-1), 1) := by decide +kernel
theorem dd_X11_tells_26 : decode m_X11_tells.2.1 26 = .ok (.ireturn, 1) := by decide +kernel
theorem dd_X11_tells_27 : decode m_X11_tells.2.1 27 = .ok (.aload_n 0, 1) := by decide +kernel
theorem dd_X11_tells_28 : decode m_X11_tells.2.1 28 = .ok (.getfield 98, 3) := by decide +kernel
theorem dd_X11_tells_31 : decode m_X11_tells.2.1 31 = .ok (.aload_n 0, 1) := by decide +kernel
theorem dd_X11_tells_32 : decode m_X11_tells.2.1 32 = .ok (.getfield 63, 3) := by decide +kernel
theorem dd_X11_tells_35 : decode m_X11_tells.2.1 35 = .ok (.iload_n 1, 1) := by decide +kernel
theorem dd_X11_tells_36 : decode m_X11_tells.2.1 36 = .ok (.bipush 30, 2) := by decide +kernel
theorem dd_X11_tells_38 : decode m_X11_tells.2.1 38 = .ok (.invokevirtual 306, 3) := by decide +kernel
theorem dd_X11_tells_41 : decode m_X11_tells.2.1 41 = .ok (.aload_n 0, 1) := by decide +kernel
theorem dd_X11_tells_42 : decode m_X11_tells.2.1 42 = .ok (.getfield 98, 3) := by decide +kernel
theorem dd_X11_tells_45 : decode m_X11_tells.2.1 45 = .ok (.aload_n 0, 1) := by decide +kernel
theorem dd_X11_tells_46 : decode m_X11_tells.2.1 46 = .ok (.getfield 63, 3) := by decide +kernel
theorem dd_X11_tells_49 : decode m_X11_tells.2.1 49 = .ok (.invokevirtual 313, 3) := by decide +kernel
theorem dd_X11_tells_52 : decode m_X11_tells.2.1 52 = .ok (.ifCond .eq 15, 3) := by decide +kernel
theorem dd_X11_tells_55 : decode m_X11_tells.2.1 55 = .ok (.aload_n 0, 1) := by decide +kernel
theorem dd_X11_tells_56 : decode m_X11_tells.2.1 56 = .ok (.getfield 98, 3) := by decide +kernel
theorem dd_X11_tells_59 : decode m_X11_tells.2.1 59 = .ok (.getfield 316, 3) := by decide +kernel
theorem dd_X11_tells_62 : decode m_X11_tells.2.1 62 = .ok (.iload_n 2, 1) := by decide +kernel
theorem dd_X11_tells_63 : decode m_X11_tells.2.1 63 = .ok (.iaload, 1) := by decide +kernel
theorem dd_X11_tells_64 : decode m_X11_tells.2.1 64 = .ok (.goto 4, 3) := by decide +kernel
theorem dd_X11_tells_67 : decode m_X11_tells.2.1 67 = .ok (.iconst (-1), 1) := by decide +kernel
theorem dd_X11_tells_68 : decode m_X11_tells.2.1 68 = .ok (.ireturn, 1) := by decide +kernel
def wp_X11_tells (p0 : Int32) (p1 : Int32) (s : fz_s) (Q : Int32 → fz_s → Prop) : Prop :=
  wp_X11_noPerson p0 s (fun r1 s2 => ((r1 = true → Q (-1) s2) ∧ (r1 = false → ((p1 < 0 → Q (-1) s2) ∧ (¬ p1 < 0 → ((2 < p1 → Q (-1) s2) ∧ (¬ 2 < p1 → wp_X11_beyond 1 s2 (fun r3 s4 => ((r3 = false → wp_X6_foresee 35 p0 30 s4 (fun s6 => wp_X6_findTelling 35 s6 (fun r7 s8 => ((r7 = false → Q (-1) s8) ∧ (r7 = true → vp_in p1 3 ∧ Q (s8.1 193 p1.toNatClampNeg) s8))))) ∧ (r3 = true → Q (-1) s4))))))))))
set_option maxRecDepth 100000 in
set_option maxHeartbeats 4000000 in
theorem V_X11_tells {g : fz_G} {l : Launch} {d : Nat} (hD : 8 ≤ d) {p0 : Int32} {p1 : Int32}  {s : fz_s} {Q : Int32 → fz_s → Prop} (H : wp_X11_tells p0 p1 s Q) : fs_V g l m_X11_tells d true 0 (fz_en [.ref 2, .int p0, .int p1] 3) [] s (rI Q) := by
  obtain ⟨d, rfl⟩ : ∃ e, d = e + 1 := ⟨d - 1, by omega⟩
  unfold wp_X11_tells at H
  refine fs_aload_n (k0 := 0) (i := 0) dd_X11_tells_0 rfl rfl ?_
  refine fs_iload_n (k0 := 1) (i := 1) dd_X11_tells_1 rfl rfl ?_
  refine fs_callV (y := m_X11_noPerson) (as := [.int p0]) dd_X11_tells_2 me_X11_noPerson lk_X11_192 in_X11_noPerson se_X11_noPerson ca_2 rfl rfl rfl (Nat.le_of_ble_eq_true rfl) (Nat.le_of_ble_eq_true rfl) rfl (V_X11_noPerson (by omega)  H) (k2_Z fun r1 s2 H => ?_)
  refine fs_if_ne (tgt := 25) dd_X11_tells_5 (by decide) (fun hc => ?_) (fun hc => ?_)
  · replace H := H.1 (bi_1 hc)
    refine fs_iconst (n := -1) (v := -1) dd_X11_tells_25 (by decide) ?_
    exact fs_iret dd_X11_tells_26 rfl H
  · replace H := H.2 (bi_0 hc)
    refine fs_iload_n (k0 := 2) (i := 2) dd_X11_tells_8 rfl rfl ?_
    refine fs_if_lt (tgt := 25) dd_X11_tells_9 (by decide) (fun hc => ?_) (fun hc => ?_)
    · replace H := H.1 hc
      refine fs_iconst (n := -1) (v := -1) dd_X11_tells_25 (by decide) ?_
      exact fs_iret dd_X11_tells_26 rfl H
    · replace H := H.2 hc
      refine fs_iload_n (k0 := 2) (i := 2) dd_X11_tells_12 rfl rfl ?_
      refine fs_iconst (n := 2) (v := 2) dd_X11_tells_13 (by decide) ?_
      refine fs_icmp_gt (tgt := 25) dd_X11_tells_14 (by decide) (fun hc => ?_) (fun hc => ?_)
      · replace H := H.1 hc
        refine fs_iconst (n := -1) (v := -1) dd_X11_tells_25 (by decide) ?_
        exact fs_iret dd_X11_tells_26 rfl H
      · replace H := H.2 hc
        refine fs_aload_n (k0 := 0) (i := 0) dd_X11_tells_17 rfl rfl ?_
        refine fs_iconst (n := 1) (v := 1) dd_X11_tells_18 (by decide) ?_
        refine fs_callV (y := m_X11_beyond) (as := [.int 1]) dd_X11_tells_19 me_X11_beyond lk_X11_249 in_X11_beyond se_X11_beyond ca_2 rfl rfl rfl (Nat.le_of_ble_eq_true rfl) (Nat.le_of_ble_eq_true rfl) rfl (V_X11_beyond (by omega)  H) (k2_Z fun r3 s4 H => ?_)
        refine fs_if_eq (tgt := 27) dd_X11_tells_22 (by decide) (fun hc => ?_) (fun hc => ?_)
        · replace H := H.1 (bi_0 hc)
          refine fs_aload_n (k0 := 0) (i := 0) dd_X11_tells_27 rfl rfl ?_
          refine fs_getr (ci := 11) (j := 13) (q := 184) dd_X11_tells_28 fl_X11_98 ca_2 rfl (Or.inl ⟨_, rfl⟩) rfl (by decide) ?_
          refine fs_aload_n (k0 := 0) (i := 0) dd_X11_tells_31 rfl rfl ?_
          refine fs_getr (ci := 11) (j := 8) (q := 35) dd_X11_tells_32 fl_X11_63 ca_2 rfl (Or.inl ⟨_, rfl⟩) rfl (by decide) ?_
          refine fs_iload_n (k0 := 1) (i := 1) dd_X11_tells_35 rfl rfl ?_
          refine fs_bipush (n := 30) (v := 30) dd_X11_tells_36 (by decide) ?_
          refine fs_callV (y := m_X6_foresee) (as := [.ref 35, .int p0, .int 30]) dd_X11_tells_38 me_X6_foresee lk_X11_306 in_X6_foresee se_X6_foresee ca_184 rfl rfl rfl (Nat.le_of_ble_eq_true rfl) (Nat.le_of_ble_eq_true rfl) rfl (V_X6_foresee (by omega) ca_35 H) (k2_V fun s6 H => ?_)
          refine fs_aload_n (k0 := 0) (i := 0) dd_X11_tells_41 rfl rfl ?_
          refine fs_getr (ci := 11) (j := 13) (q := 184) dd_X11_tells_42 fl_X11_98 ca_2 rfl (Or.inl ⟨_, rfl⟩) rfl (by decide) ?_
          refine fs_aload_n (k0 := 0) (i := 0) dd_X11_tells_45 rfl rfl ?_
          refine fs_getr (ci := 11) (j := 8) (q := 35) dd_X11_tells_46 fl_X11_63 ca_2 rfl (Or.inl ⟨_, rfl⟩) rfl (by decide) ?_
          refine fs_callV (y := m_X6_findTelling) (as := [.ref 35]) dd_X11_tells_49 me_X6_findTelling lk_X11_313 in_X6_findTelling se_X6_findTelling ca_184 rfl rfl rfl (Nat.le_of_ble_eq_true rfl) (Nat.le_of_ble_eq_true rfl) rfl (V_X6_findTelling (by omega) ca_35 H) (k2_Z fun r7 s8 H => ?_)
          refine fs_if_eq (tgt := 67) dd_X11_tells_52 (by decide) (fun hc => ?_) (fun hc => ?_)
          · replace H := H.1 (bi_0 hc)
            refine fs_iconst (n := -1) (v := -1) dd_X11_tells_67 (by decide) ?_
            exact fs_iret dd_X11_tells_68 rfl H
          · replace H := H.2 (bi_1 hc)
            refine fs_aload_n (k0 := 0) (i := 0) dd_X11_tells_55 rfl rfl ?_
            refine fs_getr (ci := 11) (j := 13) (q := 184) dd_X11_tells_56 fl_X11_98 ca_2 rfl (Or.inl ⟨_, rfl⟩) rfl (by decide) ?_
            refine fs_getr (ci := 6) (j := 4) (q := 193) dd_X11_tells_59 fl_X11_316 ca_184 rfl (Or.inr ⟨_, rfl⟩) rfl (by decide) ?_
            refine fs_iload_n (k0 := 2) (i := 2) dd_X11_tells_62 rfl rfl ?_
            have hb := H.1
            replace H := H.2
            refine fs_iald dd_X11_tells_63 ca_193 hb ?_
            refine fs_goto (tgt := 68) dd_X11_tells_64 (by decide) ?_
            exact fs_iret dd_X11_tells_68 rfl H
        · replace H := H.2 (bi_1 hc)
          refine fs_iconst (n := -1) (v := -1) dd_X11_tells_25 (by decide) ?_
          exact fs_iret dd_X11_tells_26 rfl H
theorem dd_X4_remember_0 : decode m_X4_remember.2.1 0 = .ok (.aload_n 0, 1) := by decide +kernel
theorem dd_X4_remember_1 : decode m_X4_remember.2.1 1 = .ok (.getfield 11, 3) := by decide +kernel
theorem dd_X4_remember_4 : decode m_X4_remember.2.1 4 = .ok (.aload_n 0, 1) := by decide +kernel
theorem dd_X4_remember_5 : decode m_X4_remember.2.1 5 = .ok (.getfield 32, 3) := by decide +kernel
theorem dd_X4_remember_8 : decode m_X4_remember.2.1 8 = .ok (.aload_n 0, 1) := by decide +kernel
theorem dd_X4_remember_9 : decode m_X4_remember.2.1 9 = .ok (.getfield 28, 3) := by decide +kernel
theorem dd_X4_remember_12 : decode m_X4_remember.2.1 12 = .ok (.iadd, 1) := by decide +kernel
theorem dd_X4_remember_13 : decode m_X4_remember.2.1 13 = .ok (.bipush 20, 2) := by decide +kernel
theorem dd_X4_remember_15 : decode m_X4_remember.2.1 15 = .ok (.irem, 1) := by decide +kernel
theorem dd_X4_remember_16 : decode m_X4_remember.2.1 16 = .ok (.aaload, 1) := by decide +kernel
theorem dd_X4_remember_17 : decode m_X4_remember.2.1 17 = .ok (.aload_n 1, 1) := by decide +kernel
theorem dd_X4_remember_18 : decode m_X4_remember.2.1 18 = .ok (.invokevirtual 35, 3) := by decide +kernel
theorem dd_X4_remember_21 : decode m_X4_remember.2.1 21 = .ok (.aload_n 0, 1) := by decide +kernel
theorem dd_X4_remember_22 : decode m_X4_remember.2.1 22 = .ok (.getfield 28, 3) := by decide +kernel
theorem dd_X4_remember_25 : decode m_X4_remember.2.1 25 = .ok (.bipush 20, 2) := by decide +kernel
theorem dd_X4_remember_27 : decode m_X4_remember.2.1 27 = .ok (.if_icmp .ge 16, 3) := by decide +kernel
theorem dd_X4_remember_30 : decode m_X4_remember.2.1 30 = .ok (.aload_n 0, 1) := by decide +kernel
theorem dd_X4_remember_31 : decode m_X4_remember.2.1 31 = .ok (.dup, 1) := by decide +kernel
theorem dd_X4_remember_32 : decode m_X4_remember.2.1 32 = .ok (.getfield 28, 3) := by decide +kernel
theorem dd_X4_remember_35 : decode m_X4_remember.2.1 35 = .ok (.iconst 1, 1) := by decide +kernel
theorem dd_X4_remember_36 : decode m_X4_remember.2.1 36 = .ok (.iadd, 1) := by decide +kernel
theorem dd_X4_remember_37 : decode m_X4_remember.2.1 37 = .ok (.putfield 28, 3) := by decide +kernel
theorem dd_X4_remember_40 : decode m_X4_remember.2.1 40 = .ok (.goto 16, 3) := by decide +kernel
theorem dd_X4_remember_43 : decode m_X4_remember.2.1 43 = .ok (.aload_n 0, 1) := by decide +kernel
theorem dd_X4_remember_44 : decode m_X4_remember.2.1 44 = .ok (.aload_n 0, 1) := by decide +kernel
theorem dd_X4_remember_45 : decode m_X4_remember.2.1 45 = .ok (.getfield 32, 3) := by decide +kernel
theorem dd_X4_remember_48 : decode m_X4_remember.2.1 48 = .ok (.iconst 1, 1) := by decide +kernel
theorem dd_X4_remember_49 : decode m_X4_remember.2.1 49 = .ok (.iadd, 1) := by decide +kernel
theorem dd_X4_remember_50 : decode m_X4_remember.2.1 50 = .ok (.bipush 20, 2) := by decide +kernel
theorem dd_X4_remember_52 : decode m_X4_remember.2.1 52 = .ok (.irem, 1) := by decide +kernel
theorem dd_X4_remember_53 : decode m_X4_remember.2.1 53 = .ok (.putfield 32, 3) := by decide +kernel
theorem dd_X4_remember_56 : decode m_X4_remember.2.1 56 = .ok (.return_, 1) := by decide +kernel
def wp_X4_remember (w0 : Nat) (s : fz_s) (Q : fz_s → Prop) : Prop :=
  vp_in (((s.1 47 4) + (s.1 47 5)) - ((s.1 47 4) + (s.1 47 5)) / 20 * 20) 20 ∧ wp_X10_take (52 + 6 * (((s.1 47 4) + (s.1 47 5)) - ((s.1 47 4) + (s.1 47 5)) / 20 * 20).toNatClampNeg) w0 s (fun s2 => ((20 ≤ (s2.1 47 5) → ∀ s3 : fz_s, s3 = si s2 47 4 (((s2.1 47 4) + 1) - ((s2.1 47 4) + 1) / 20 * 20) → Q s3) ∧ (¬ 20 ≤ (s2.1 47 5) → ∀ s4 : fz_s, s4 = si s2 47 5 ((s2.1 47 5) + 1) → Q s4)))
set_option maxRecDepth 100000 in
set_option maxHeartbeats 4000000 in
theorem V_X4_remember {g : fz_G} {l : Launch} {d : Nat} (hD : 2 ≤ d) {w0 : Nat} (hw0 : fz_at true w0 10 7) {s : fz_s} {Q : fz_s → Prop} (H : wp_X4_remember w0 s Q) : fs_V g l m_X4_remember d true 0 (fz_en [.ref 47, .ref w0] 2) [] s (rV Q) := by
  obtain ⟨d, rfl⟩ : ∃ e, d = e + 1 := ⟨d - 1, by omega⟩
  unfold wp_X4_remember at H
  refine fs_aload_n (k0 := 0) (i := 0) dd_X4_remember_0 rfl rfl ?_
  refine fs_getr (ci := 4) (j := 0) (q := 48) dd_X4_remember_1 fl_X4_11 ca_47 rfl (Or.inr ⟨_, rfl⟩) rfl (by decide) ?_
  refine fs_aload_n (k0 := 0) (i := 0) dd_X4_remember_4 rfl rfl ?_
  refine fs_geti (ci := 4) (j := 4) dd_X4_remember_5 fl_X4_32 ca_47 rfl (Or.inl rfl) ?_
  refine fs_aload_n (k0 := 0) (i := 0) dd_X4_remember_8 rfl rfl ?_
  refine fs_geti (ci := 4) (j := 5) dd_X4_remember_9 fl_X4_28 ca_47 rfl (Or.inl rfl) ?_
  refine fs_iadd dd_X4_remember_12 ?_
  refine fs_bipush (n := 20) (v := 20) dd_X4_remember_13 (by decide) ?_
  refine fs_irem dd_X4_remember_15 (by decide) ?_
  have hb := H.1
  replace H := H.2
  refine fs_aald (q := 52 + 6 * (((s.1 47 4) + (s.1 47 5)) - ((s.1 47 4) + (s.1 47 5)) / 20 * 20).toNatClampNeg) dd_X4_remember_16 hb (fz_Wq (Nat.not_le.mp fun q => hb (Or.inr q))).1 ?_
  refine fs_aload_n (k0 := 1) (i := 1) dd_X4_remember_17 rfl rfl ?_
  refine fs_callV (y := m_X10_take) (as := [.ref w0]) dd_X4_remember_18 me_X10_take lk_X4_35 in_X10_take se_X10_take ((fz_Wq (Nat.not_le.mp fun q => hb (Or.inr q))).2) rfl rfl rfl (Nat.le_of_ble_eq_true rfl) (Nat.le_of_ble_eq_true rfl) rfl (V_X10_take (by omega) ((fz_Wq (Nat.not_le.mp fun q => hb (Or.inr q))).2) hw0 H) (k2_V fun s2 H => ?_)
  refine fs_aload_n (k0 := 0) (i := 0) dd_X4_remember_21 rfl rfl ?_
  refine fs_geti (ci := 4) (j := 5) dd_X4_remember_22 fl_X4_28 ca_47 rfl (Or.inl rfl) ?_
  refine fs_bipush (n := 20) (v := 20) dd_X4_remember_25 (by decide) ?_
  refine fs_icmp_ge (tgt := 43) dd_X4_remember_27 (by decide) (fun hc => ?_) (fun hc => ?_)
  · replace H := H.1 hc
    refine fs_aload_n (k0 := 0) (i := 0) dd_X4_remember_43 rfl rfl ?_
    refine fs_aload_n (k0 := 0) (i := 0) dd_X4_remember_44 rfl rfl ?_
    refine fs_geti (ci := 4) (j := 4) dd_X4_remember_45 fl_X4_32 ca_47 rfl (Or.inl rfl) ?_
    refine fs_iconst (n := 1) (v := 1) dd_X4_remember_48 (by decide) ?_
    refine fs_iadd dd_X4_remember_49 ?_
    refine fs_bipush (n := 20) (v := 20) dd_X4_remember_50 (by decide) ?_
    refine fs_irem dd_X4_remember_52 (by decide) ?_
    refine fs_puti (ci := 4) (j := 4) dd_X4_remember_53 fl_X4_32 (fun _ _ _ h => by cases h; rfl) ca_47 rfl (Or.inl rfl) ?_
    refine fs_tops (fun s3 hs3 => ?_)
    replace H := H s3 hs3
    exact fs_vret dd_X4_remember_56 rfl H
  · replace H := H.2 hc
    refine fs_aload_n (k0 := 0) (i := 0) dd_X4_remember_30 rfl rfl ?_
    refine fs_dup dd_X4_remember_31 rfl ?_
    refine fs_geti (ci := 4) (j := 5) dd_X4_remember_32 fl_X4_28 ca_47 rfl (Or.inl rfl) ?_
    refine fs_iconst (n := 1) (v := 1) dd_X4_remember_35 (by decide) ?_
    refine fs_iadd dd_X4_remember_36 ?_
    refine fs_puti (ci := 4) (j := 5) dd_X4_remember_37 fl_X4_28 (fun _ _ _ h => by cases h; rfl) ca_47 rfl (Or.inl rfl) ?_
    refine fs_tops (fun s4 hs4 => ?_)
    replace H := H s4 hs4
    refine fs_goto (tgt := 56) dd_X4_remember_40 (by decide) ?_
    exact fs_vret dd_X4_remember_56 rfl H
theorem dd_X11_teach_0 : decode m_X11_teach.2.1 0 = .ok (.aload_n 0, 1) := by decide +kernel
theorem dd_X11_teach_1 : decode m_X11_teach.2.1 1 = .ok (.iload_n 1, 1) := by decide +kernel
theorem dd_X11_teach_2 : decode m_X11_teach.2.1 2 = .ok (.invokevirtual 192, 3) := by decide +kernel
theorem dd_X11_teach_5 : decode m_X11_teach.2.1 5 = .ok (.ifCond .ne 26, 3) := by decide +kernel
theorem dd_X11_teach_8 : decode m_X11_teach.2.1 8 = .ok (.iload_n 2, 1) := by decide +kernel
theorem dd_X11_teach_9 : decode m_X11_teach.2.1 9 = .ok (.ifCond .lt 22, 3) := by decide +kernel
theorem dd_X11_teach_12 : decode m_X11_teach.2.1 12 = .ok (.iload_n 2, 1) := by decide +kernel
theorem dd_X11_teach_13 : decode m_X11_teach.2.1 13 = .ok (.bipush 9, 2) := by decide +kernel
theorem dd_X11_teach_15 : decode m_X11_teach.2.1 15 = .ok (.if_icmp .gt 16, 3) := by decide +kernel
theorem dd_X11_teach_18 : decode m_X11_teach.2.1 18 = .ok (.aload_n 0, 1) := by decide +kernel
theorem dd_X11_teach_19 : decode m_X11_teach.2.1 19 = .ok (.getfield 63, 3) := by decide +kernel
theorem dd_X11_teach_22 : decode m_X11_teach.2.1 22 = .ok (.getfield 224, 3) := by decide +kernel
theorem dd_X11_teach_25 : decode m_X11_teach.2.1 25 = .ok (.iload_n 1, 1) := by decide +kernel
theorem dd_X11_teach_26 : decode m_X11_teach.2.1 26 = .ok (.iaload, 1) := by decide +kernel
theorem dd_X11_teach_27 : decode m_X11_teach.2.1 27 = .ok (.iload_n 2, 1) := by decide +kernel
theorem dd_X11_teach_28 : decode m_X11_teach.2.1 28 = .ok (.if_icmp .ne 11, 3) := by decide +kernel
theorem dd_X11_teach_31 : decode m_X11_teach.2.1 31 = .ok (.aload_n 0, 1) := by decide +kernel
theorem dd_X11_teach_32 : decode m_X11_teach.2.1 32 = .ok (.iconst 2, 1) := by decide +kernel
theorem dd_X11_teach_33 : decode m_X11_teach.2.1 33 = .ok (.invokevirtual 118, 3) := by decide +kernel
theorem dd_X11_teach_36 : decode m_X11_teach.2.1 36 = .ok (.pop, 1) := by decide +kernel
theorem dd_X11_teach_37 : decode m_X11_teach.2.1 37 = .ok (.iconst 0, 1) := by decide +kernel
theorem dd_X11_teach_38 : decode m_X11_teach.2.1 38 = .ok (.ireturn, 1) := by decide +kernel
theorem dd_X11_teach_39 : decode m_X11_teach.2.1 39 = .ok (.aload_n 0, 1) := by decide +kernel
theorem dd_X11_teach_40 : decode m_X11_teach.2.1 40 = .ok (.getfield 73, 3) := by decide +kernel
theorem dd_X11_teach_43 : decode m_X11_teach.2.1 43 = .ok (.aload_n 0, 1) := by decide +kernel
theorem dd_X11_teach_44 : decode m_X11_teach.2.1 44 = .ok (.getfield 63, 3) := by decide +kernel
theorem dd_X11_teach_47 : decode m_X11_teach.2.1 47 = .ok (.invokevirtual 319, 3) := by decide +kernel
theorem dd_X11_teach_50 : decode m_X11_teach.2.1 50 = .ok (.aload_n 0, 1) := by decide +kernel
theorem dd_X11_teach_51 : decode m_X11_teach.2.1 51 = .ok (.getfield 63, 3) := by decide +kernel
theorem dd_X11_teach_54 : decode m_X11_teach.2.1 54 = .ok (.getfield 224, 3) := by decide +kernel
theorem dd_X11_teach_57 : decode m_X11_teach.2.1 57 = .ok (.iload_n 1, 1) := by decide +kernel
theorem dd_X11_teach_58 : decode m_X11_teach.2.1 58 = .ok (.iload_n 2, 1) := by decide +kernel
theorem dd_X11_teach_59 : decode m_X11_teach.2.1 59 = .ok (.iastore, 1) := by decide +kernel
theorem dd_X11_teach_60 : decode m_X11_teach.2.1 60 = .ok (.iconst 1, 1) := by decide +kernel
theorem dd_X11_teach_61 : decode m_X11_teach.2.1 61 = .ok (.ireturn, 1) := by decide +kernel
def nd_X11_teach_31   (Q : Bool → fz_s → Prop)  (s : fz_s) : Prop :=
  wp_X11_refuse 2 s (fun r1 s2 => Q false s2)
def wp_X11_teach (p0 : Int32) (p1 : Int32) (s : fz_s) (Q : Bool → fz_s → Prop) : Prop :=
  wp_X11_noPerson p0 s (fun r1 s2 => ((r1 = true → nd_X11_teach_31   Q  s2) ∧ (r1 = false → ((p1 < 0 → nd_X11_teach_31   Q  s2) ∧ (¬ p1 < 0 → ((9 < p1 → nd_X11_teach_31   Q  s2) ∧ (¬ 9 < p1 → vp_in p0 8 ∧ ((¬ (s2.1 38 p0.toNatClampNeg) = p1 → wp_X4_remember 35 s2 (fun s4 => vp_in p0 8 ∧ ∀ s5 : fz_s, s5 = si s4 38 p0.toNatClampNeg p1 → Q true s5)) ∧ ((s2.1 38 p0.toNatClampNeg) = p1 → nd_X11_teach_31   Q  s2)))))))))
set_option maxRecDepth 100000 in
set_option maxHeartbeats 4000000 in
theorem V_nd_X11_teach_31 {g : fz_G} {l : Launch} {d : Nat} (hD : 3 ≤ d)    {Q : Bool → fz_s → Prop}  {s : fz_s}  (H : nd_X11_teach_31   Q  s) : fs_V g l m_X11_teach d true 31 [.ref 2, fz_J, fz_J] [] s (rZ Q) := by
  obtain ⟨d, rfl⟩ : ∃ e, d = e + 1 := ⟨d - 1, by omega⟩
  unfold nd_X11_teach_31 at H
  refine fs_aload_n (k0 := 0) (i := 0) dd_X11_teach_31 rfl rfl ?_
  refine fs_iconst (n := 2) (v := 2) dd_X11_teach_32 (by decide) ?_
  refine fs_callV (y := m_X11_refuse) (as := [.int 2]) dd_X11_teach_33 me_X11_refuse lk_X11_118 in_X11_refuse se_X11_refuse ca_2 rfl rfl rfl (Nat.le_of_ble_eq_true rfl) (Nat.le_of_ble_eq_true rfl) rfl (V_X11_refuse (by omega)  H) (k2_I fun r1 s2 H => ?_)
  refine fs_pop dd_X11_teach_36 rfl ?_
  refine fs_iconst (n := 0) (v := 0) dd_X11_teach_37 (by decide) ?_
  exact fs_zret false dd_X11_teach_38 rfl rfl H
set_option maxRecDepth 100000 in
set_option maxHeartbeats 4000000 in
theorem V_X11_teach {g : fz_G} {l : Launch} {d : Nat} (hD : 3 ≤ d) {p0 : Int32} {p1 : Int32}  {s : fz_s} {Q : Bool → fz_s → Prop} (H : wp_X11_teach p0 p1 s Q) : fs_V g l m_X11_teach d true 0 (fz_en [.ref 2, .int p0, .int p1] 3) [] s (rZ Q) := by
  obtain ⟨d, rfl⟩ : ∃ e, d = e + 1 := ⟨d - 1, by omega⟩
  unfold wp_X11_teach at H
  refine fs_aload_n (k0 := 0) (i := 0) dd_X11_teach_0 rfl rfl ?_
  refine fs_iload_n (k0 := 1) (i := 1) dd_X11_teach_1 rfl rfl ?_
  refine fs_callV (y := m_X11_noPerson) (as := [.int p0]) dd_X11_teach_2 me_X11_noPerson lk_X11_192 in_X11_noPerson se_X11_noPerson ca_2 rfl rfl rfl (Nat.le_of_ble_eq_true rfl) (Nat.le_of_ble_eq_true rfl) rfl (V_X11_noPerson (by omega)  H) (k2_Z fun r1 s2 H => ?_)
  refine fs_if_ne (tgt := 31) dd_X11_teach_5 (by decide) (fun hc => ?_) (fun hc => ?_)
  · replace H := H.1 (bi_1 hc)
    refine fs_weak (ls2 := [.ref 2, fz_J, fz_J]) (fz_le_e (fz_le_j (fz_le_j fz_le_n))) ?_
    exact V_nd_X11_teach_31 hD    H
  · replace H := H.2 (bi_0 hc)
    refine fs_iload_n (k0 := 2) (i := 2) dd_X11_teach_8 rfl rfl ?_
    refine fs_if_lt (tgt := 31) dd_X11_teach_9 (by decide) (fun hc => ?_) (fun hc => ?_)
    · replace H := H.1 hc
      refine fs_weak (ls2 := [.ref 2, fz_J, fz_J]) (fz_le_e (fz_le_j (fz_le_j fz_le_n))) ?_
      exact V_nd_X11_teach_31 hD    H
    · replace H := H.2 hc
      refine fs_iload_n (k0 := 2) (i := 2) dd_X11_teach_12 rfl rfl ?_
      refine fs_bipush (n := 9) (v := 9) dd_X11_teach_13 (by decide) ?_
      refine fs_icmp_gt (tgt := 31) dd_X11_teach_15 (by decide) (fun hc => ?_) (fun hc => ?_)
      · replace H := H.1 hc
        refine fs_weak (ls2 := [.ref 2, fz_J, fz_J]) (fz_le_e (fz_le_j (fz_le_j fz_le_n))) ?_
        exact V_nd_X11_teach_31 hD    H
      · replace H := H.2 hc
        refine fs_aload_n (k0 := 0) (i := 0) dd_X11_teach_18 rfl rfl ?_
        refine fs_getr (ci := 11) (j := 8) (q := 35) dd_X11_teach_19 fl_X11_63 ca_2 rfl (Or.inl ⟨_, rfl⟩) rfl (by decide) ?_
        refine fs_getr (ci := 10) (j := 2) (q := 38) dd_X11_teach_22 fl_X11_224 ca_35 rfl (Or.inr ⟨_, rfl⟩) rfl (by decide) ?_
        refine fs_iload_n (k0 := 1) (i := 1) dd_X11_teach_25 rfl rfl ?_
        have hb := H.1
        replace H := H.2
        refine fs_iald dd_X11_teach_26 ca_38 hb ?_
        refine fs_iload_n (k0 := 2) (i := 2) dd_X11_teach_27 rfl rfl ?_
        refine fs_icmp_ne (tgt := 39) dd_X11_teach_28 (by decide) (fun hc => ?_) (fun hc => ?_)
        · replace H := H.1 hc
          refine fs_aload_n (k0 := 0) (i := 0) dd_X11_teach_39 rfl rfl ?_
          refine fs_getr (ci := 11) (j := 10) (q := 47) dd_X11_teach_40 fl_X11_73 ca_2 rfl (Or.inl ⟨_, rfl⟩) rfl (by decide) ?_
          refine fs_aload_n (k0 := 0) (i := 0) dd_X11_teach_43 rfl rfl ?_
          refine fs_getr (ci := 11) (j := 8) (q := 35) dd_X11_teach_44 fl_X11_63 ca_2 rfl (Or.inl ⟨_, rfl⟩) rfl (by decide) ?_
          refine fs_callV (y := m_X4_remember) (as := [.ref 35]) dd_X11_teach_47 me_X4_remember lk_X11_319 in_X4_remember se_X4_remember ca_47 rfl rfl rfl (Nat.le_of_ble_eq_true rfl) (Nat.le_of_ble_eq_true rfl) rfl (V_X4_remember (by omega) ca_35 H) (k2_V fun s4 H => ?_)
          refine fs_aload_n (k0 := 0) (i := 0) dd_X11_teach_50 rfl rfl ?_
          refine fs_getr (ci := 11) (j := 8) (q := 35) dd_X11_teach_51 fl_X11_63 ca_2 rfl (Or.inl ⟨_, rfl⟩) rfl (by decide) ?_
          refine fs_getr (ci := 10) (j := 2) (q := 38) dd_X11_teach_54 fl_X11_224 ca_35 rfl (Or.inr ⟨_, rfl⟩) rfl (by decide) ?_
          refine fs_iload_n (k0 := 1) (i := 1) dd_X11_teach_57 rfl rfl ?_
          refine fs_iload_n (k0 := 2) (i := 2) dd_X11_teach_58 rfl rfl ?_
          have hb := H.1
          replace H := H.2
          refine fs_iast dd_X11_teach_59 ca_38 hb ?_
          refine fs_tops (fun s5 hs5 => ?_)
          replace H := H s5 hs5
          refine fs_iconst (n := 1) (v := 1) dd_X11_teach_60 (by decide) ?_
          exact fs_zret true dd_X11_teach_61 rfl rfl H
        · replace H := H.2 hc
          refine fs_weak (ls2 := [.ref 2, fz_J, fz_J]) (fz_le_e (fz_le_j (fz_le_j fz_le_n))) ?_
          exact V_nd_X11_teach_31 hD    H
theorem dd_X11_bring_0 : decode m_X11_bring.2.1 0 = .ok (.aload_n 0, 1) := by decide +kernel
theorem dd_X11_bring_1 : decode m_X11_bring.2.1 1 = .ok (.iload_n 1, 1) := by decide +kernel
theorem dd_X11_bring_2 : decode m_X11_bring.2.1 2 = .ok (.invokevirtual 192, 3) := by decide +kernel
theorem dd_X11_bring_5 : decode m_X11_bring.2.1 5 = .ok (.ifCond .eq 9, 3) := by decide +kernel
theorem dd_X11_bring_8 : decode m_X11_bring.2.1 8 = .ok (.aload_n 0, 1) := by decide +kernel
theorem dd_X11_bring_9 : decode m_X11_bring.2.1 9 = .ok (.iconst 2, 1) := by decide +kernel
theorem dd_X11_bring_10 : decode m_X11_bring.2.1 10 = .ok (.invokevirtual 118, 3) := by decide +kernel
theorem dd_X11_bring_13 : decode m_X11_bring.2.1 13 = .ok (.ireturn, 1) := by decide +kernel
theorem dd_X11_bring_14 : decode m_X11_bring.2.1 14 = .ok (.aload_n 0, 1) := by decide +kernel
theorem dd_X11_bring_15 : decode m_X11_bring.2.1 15 = .ok (.getfield 73, 3) := by decide +kernel
theorem dd_X11_bring_18 : decode m_X11_bring.2.1 18 = .ok (.aload_n 0, 1) := by decide +kernel
theorem dd_X11_bring_19 : decode m_X11_bring.2.1 19 = .ok (.getfield 63, 3) := by decide +kernel
theorem dd_X11_bring_22 : decode m_X11_bring.2.1 22 = .ok (.invokevirtual 319, 3) := by decide +kernel
theorem dd_X11_bring_25 : decode m_X11_bring.2.1 25 = .ok (.aload_n 0, 1) := by decide +kernel
theorem dd_X11_bring_26 : decode m_X11_bring.2.1 26 = .ok (.getfield 63, 3) := by decide +kernel
theorem dd_X11_bring_29 : decode m_X11_bring.2.1 29 = .ok (.iload_n 1, 1) := by decide +kernel
theorem dd_X11_bring_30 : decode m_X11_bring.2.1 30 = .ok (.invokevirtual 322, 3) := by decide +kernel
theorem dd_X11_bring_33 : decode m_X11_bring.2.1 33 = .ok (.aload_n 0, 1) := by decide +kernel
theorem dd_X11_bring_34 : decode m_X11_bring.2.1 34 = .ok (.getfield 63, 3) := by decide +kernel
theorem dd_X11_bring_37 : decode m_X11_bring.2.1 37 = .ok (.getfield 222, 3) := by decide +kernel
theorem dd_X11_bring_40 : decode m_X11_bring.2.1 40 = .ok (.iload_n 1, 1) := by decide +kernel
theorem dd_X11_bring_41 : decode m_X11_bring.2.1 41 = .ok (.iaload, 1) := by decide +kernel
theorem dd_X11_bring_42 : decode m_X11_bring.2.1 42 = .ok (.ireturn, 1) := by decide +kernel
def wp_X11_bring (p0 : Int32) (s : fz_s) (Q : Int32 → fz_s → Prop) : Prop :=
  wp_X11_noPerson p0 s (fun r1 s2 => ((r1 = false → wp_X4_remember 35 s2 (fun s4 => wp_X10_cross 35 p0 s4 (fun s6 => vp_in p0 8 ∧ Q (s6.1 39 p0.toNatClampNeg) s6))) ∧ (r1 = true → wp_X11_refuse 2 s2 (fun r7 s8 => Q r7 s8))))
set_option maxRecDepth 100000 in
set_option maxHeartbeats 4000000 in
theorem V_X11_bring {g : fz_G} {l : Launch} {d : Nat} (hD : 3 ≤ d) {p0 : Int32}  {s : fz_s} {Q : Int32 → fz_s → Prop} (H : wp_X11_bring p0 s Q) : fs_V g l m_X11_bring d true 0 (fz_en [.ref 2, .int p0] 2) [] s (rI Q) := by
  obtain ⟨d, rfl⟩ : ∃ e, d = e + 1 := ⟨d - 1, by omega⟩
  unfold wp_X11_bring at H
  refine fs_aload_n (k0 := 0) (i := 0) dd_X11_bring_0 rfl rfl ?_
  refine fs_iload_n (k0 := 1) (i := 1) dd_X11_bring_1 rfl rfl ?_
  refine fs_callV (y := m_X11_noPerson) (as := [.int p0]) dd_X11_bring_2 me_X11_noPerson lk_X11_192 in_X11_noPerson se_X11_noPerson ca_2 rfl rfl rfl (Nat.le_of_ble_eq_true rfl) (Nat.le_of_ble_eq_true rfl) rfl (V_X11_noPerson (by omega)  H) (k2_Z fun r1 s2 H => ?_)
  refine fs_if_eq (tgt := 14) dd_X11_bring_5 (by decide) (fun hc => ?_) (fun hc => ?_)
  · replace H := H.1 (bi_0 hc)
    refine fs_aload_n (k0 := 0) (i := 0) dd_X11_bring_14 rfl rfl ?_
    refine fs_getr (ci := 11) (j := 10) (q := 47) dd_X11_bring_15 fl_X11_73 ca_2 rfl (Or.inl ⟨_, rfl⟩) rfl (by decide) ?_
    refine fs_aload_n (k0 := 0) (i := 0) dd_X11_bring_18 rfl rfl ?_
    refine fs_getr (ci := 11) (j := 8) (q := 35) dd_X11_bring_19 fl_X11_63 ca_2 rfl (Or.inl ⟨_, rfl⟩) rfl (by decide) ?_
    refine fs_callV (y := m_X4_remember) (as := [.ref 35]) dd_X11_bring_22 me_X4_remember lk_X11_319 in_X4_remember se_X4_remember ca_47 rfl rfl rfl (Nat.le_of_ble_eq_true rfl) (Nat.le_of_ble_eq_true rfl) rfl (V_X4_remember (by omega) ca_35 H) (k2_V fun s4 H => ?_)
    refine fs_aload_n (k0 := 0) (i := 0) dd_X11_bring_25 rfl rfl ?_
    refine fs_getr (ci := 11) (j := 8) (q := 35) dd_X11_bring_26 fl_X11_63 ca_2 rfl (Or.inl ⟨_, rfl⟩) rfl (by decide) ?_
    refine fs_iload_n (k0 := 1) (i := 1) dd_X11_bring_29 rfl rfl ?_
    refine fs_callV (y := m_X10_cross) (as := [.int p0]) dd_X11_bring_30 me_X10_cross lk_X11_322 in_X10_cross se_X10_cross ca_35 rfl rfl rfl (Nat.le_of_ble_eq_true rfl) (Nat.le_of_ble_eq_true rfl) rfl (V_X10_cross (by omega) ca_35 H) (k2_V fun s6 H => ?_)
    refine fs_aload_n (k0 := 0) (i := 0) dd_X11_bring_33 rfl rfl ?_
    refine fs_getr (ci := 11) (j := 8) (q := 35) dd_X11_bring_34 fl_X11_63 ca_2 rfl (Or.inl ⟨_, rfl⟩) rfl (by decide) ?_
    refine fs_getr (ci := 10) (j := 3) (q := 39) dd_X11_bring_37 fl_X11_222 ca_35 rfl (Or.inr ⟨_, rfl⟩) rfl (by decide) ?_
    refine fs_iload_n (k0 := 1) (i := 1) dd_X11_bring_40 rfl rfl ?_
    have hb := H.1
    replace H := H.2
    refine fs_iald dd_X11_bring_41 ca_39 hb ?_
    exact fs_iret dd_X11_bring_42 rfl H
  · replace H := H.2 (bi_1 hc)
    refine fs_aload_n (k0 := 0) (i := 0) dd_X11_bring_8 rfl rfl ?_
    refine fs_iconst (n := 2) (v := 2) dd_X11_bring_9 (by decide) ?_
    refine fs_callV (y := m_X11_refuse) (as := [.int 2]) dd_X11_bring_10 me_X11_refuse lk_X11_118 in_X11_refuse se_X11_refuse ca_2 rfl rfl rfl (Nat.le_of_ble_eq_true rfl) (Nat.le_of_ble_eq_true rfl) rfl (V_X11_refuse (by omega)  H) (k2_I fun r7 s8 H => ?_)
    exact fs_iret dd_X11_bring_13 rfl H
theorem dd_X11_calm_0 : decode m_X11_calm.2.1 0 = .ok (.aload_n 0, 1) := by decide +kernel
theorem dd_X11_calm_1 : decode m_X11_calm.2.1 1 = .ok (.iload_n 1, 1) := by decide +kernel
theorem dd_X11_calm_2 : decode m_X11_calm.2.1 2 = .ok (.invokevirtual 184, 3) := by decide +kernel
theorem dd_X11_calm_5 : decode m_X11_calm.2.1 5 = .ok (.ifCond .ne 15, 3) := by decide +kernel
theorem dd_X11_calm_8 : decode m_X11_calm.2.1 8 = .ok (.aload_n 0, 1) := by decide +kernel
theorem dd_X11_calm_9 : decode m_X11_calm.2.1 9 = .ok (.getfield 63, 3) := by decide +kernel
theorem dd_X11_calm_12 : decode m_X11_calm.2.1 12 = .ok (.getfield 198, 3) := by decide +kernel
theorem dd_X11_calm_15 : decode m_X11_calm.2.1 15 = .ok (.iload_n 1, 1) := by decide +kernel
theorem dd_X11_calm_16 : decode m_X11_calm.2.1 16 = .ok (.iaload, 1) := by decide +kernel
theorem dd_X11_calm_17 : decode m_X11_calm.2.1 17 = .ok (.ifCond .ne 11, 3) := by decide +kernel
theorem dd_X11_calm_20 : decode m_X11_calm.2.1 20 = .ok (.aload_n 0, 1) := by decide +kernel
theorem dd_X11_calm_21 : decode m_X11_calm.2.1 21 = .ok (.iconst 2, 1) := by decide +kernel
theorem dd_X11_calm_22 : decode m_X11_calm.2.1 22 = .ok (.invokevirtual 118, 3) := by decide +kernel
theorem dd_X11_calm_25 : decode m_X11_calm.2.1 25 = .ok (.pop, 1) := by decide +kernel
theorem dd_X11_calm_26 : decode m_X11_calm.2.1 26 = .ok (.iconst 0, 1) := by decide +kernel
theorem dd_X11_calm_27 : decode m_X11_calm.2.1 27 = .ok (.ireturn, 1) := by decide +kernel
theorem dd_X11_calm_28 : decode m_X11_calm.2.1 28 = .ok (.aload_n 0, 1) := by decide +kernel
theorem dd_X11_calm_29 : decode m_X11_calm.2.1 29 = .ok (.getfield 73, 3) := by decide +kernel
theorem dd_X11_calm_32 : decode m_X11_calm.2.1 32 = .ok (.aload_n 0, 1) := by decide +kernel
theorem dd_X11_calm_33 : decode m_X11_calm.2.1 33 = .ok (.getfield 63, 3) := by decide +kernel
theorem dd_X11_calm_36 : decode m_X11_calm.2.1 36 = .ok (.invokevirtual 319, 3) := by decide +kernel
theorem dd_X11_calm_39 : decode m_X11_calm.2.1 39 = .ok (.aload_n 0, 1) := by decide +kernel
theorem dd_X11_calm_40 : decode m_X11_calm.2.1 40 = .ok (.getfield 63, 3) := by decide +kernel
theorem dd_X11_calm_43 : decode m_X11_calm.2.1 43 = .ok (.getfield 198, 3) := by decide +kernel
theorem dd_X11_calm_46 : decode m_X11_calm.2.1 46 = .ok (.iload_n 1, 1) := by decide +kernel
theorem dd_X11_calm_47 : decode m_X11_calm.2.1 47 = .ok (.iconst 0, 1) := by decide +kernel
theorem dd_X11_calm_48 : decode m_X11_calm.2.1 48 = .ok (.iastore, 1) := by decide +kernel
theorem dd_X11_calm_49 : decode m_X11_calm.2.1 49 = .ok (.iconst 1, 1) := by decide +kernel
theorem dd_X11_calm_50 : decode m_X11_calm.2.1 50 = .ok (.ireturn, 1) := by decide +kernel
def nd_X11_calm_20   (Q : Bool → fz_s → Prop)  (s : fz_s) : Prop :=
  wp_X11_refuse 2 s (fun r1 s2 => Q false s2)
def wp_X11_calm (p0 : Int32) (s : fz_s) (Q : Bool → fz_s → Prop) : Prop :=
  wp_X11_noVillage p0 s (fun r1 s2 => ((r1 = true → nd_X11_calm_20   Q  s2) ∧ (r1 = false → vp_in p0 2 ∧ ((¬ (s2.1 37 p0.toNatClampNeg) = 0 → wp_X4_remember 35 s2 (fun s4 => vp_in p0 2 ∧ ∀ s5 : fz_s, s5 = si s4 37 p0.toNatClampNeg 0 → Q true s5)) ∧ ((s2.1 37 p0.toNatClampNeg) = 0 → nd_X11_calm_20   Q  s2)))))
set_option maxRecDepth 100000 in
set_option maxHeartbeats 4000000 in
theorem V_nd_X11_calm_20 {g : fz_G} {l : Launch} {d : Nat} (hD : 3 ≤ d)    {Q : Bool → fz_s → Prop}  {s : fz_s}  (H : nd_X11_calm_20   Q  s) : fs_V g l m_X11_calm d true 20 [.ref 2, fz_J] [] s (rZ Q) := by
  obtain ⟨d, rfl⟩ : ∃ e, d = e + 1 := ⟨d - 1, by omega⟩
  unfold nd_X11_calm_20 at H
  refine fs_aload_n (k0 := 0) (i := 0) dd_X11_calm_20 rfl rfl ?_
  refine fs_iconst (n := 2) (v := 2) dd_X11_calm_21 (by decide) ?_
  refine fs_callV (y := m_X11_refuse) (as := [.int 2]) dd_X11_calm_22 me_X11_refuse lk_X11_118 in_X11_refuse se_X11_refuse ca_2 rfl rfl rfl (Nat.le_of_ble_eq_true rfl) (Nat.le_of_ble_eq_true rfl) rfl (V_X11_refuse (by omega)  H) (k2_I fun r1 s2 H => ?_)
  refine fs_pop dd_X11_calm_25 rfl ?_
  refine fs_iconst (n := 0) (v := 0) dd_X11_calm_26 (by decide) ?_
  exact fs_zret false dd_X11_calm_27 rfl rfl H
set_option maxRecDepth 100000 in
set_option maxHeartbeats 4000000 in
theorem V_X11_calm {g : fz_G} {l : Launch} {d : Nat} (hD : 3 ≤ d) {p0 : Int32}  {s : fz_s} {Q : Bool → fz_s → Prop} (H : wp_X11_calm p0 s Q) : fs_V g l m_X11_calm d true 0 (fz_en [.ref 2, .int p0] 2) [] s (rZ Q) := by
  obtain ⟨d, rfl⟩ : ∃ e, d = e + 1 := ⟨d - 1, by omega⟩
  unfold wp_X11_calm at H
  refine fs_aload_n (k0 := 0) (i := 0) dd_X11_calm_0 rfl rfl ?_
  refine fs_iload_n (k0 := 1) (i := 1) dd_X11_calm_1 rfl rfl ?_
  refine fs_callV (y := m_X11_noVillage) (as := [.int p0]) dd_X11_calm_2 me_X11_noVillage lk_X11_184 in_X11_noVillage se_X11_noVillage ca_2 rfl rfl rfl (Nat.le_of_ble_eq_true rfl) (Nat.le_of_ble_eq_true rfl) rfl (V_X11_noVillage (by omega)  H) (k2_Z fun r1 s2 H => ?_)
  refine fs_if_ne (tgt := 20) dd_X11_calm_5 (by decide) (fun hc => ?_) (fun hc => ?_)
  · replace H := H.1 (bi_1 hc)
    refine fs_weak (ls2 := [.ref 2, fz_J]) (fz_le_e (fz_le_j fz_le_n)) ?_
    exact V_nd_X11_calm_20 hD    H
  · replace H := H.2 (bi_0 hc)
    refine fs_aload_n (k0 := 0) (i := 0) dd_X11_calm_8 rfl rfl ?_
    refine fs_getr (ci := 11) (j := 8) (q := 35) dd_X11_calm_9 fl_X11_63 ca_2 rfl (Or.inl ⟨_, rfl⟩) rfl (by decide) ?_
    refine fs_getr (ci := 10) (j := 1) (q := 37) dd_X11_calm_12 fl_X11_198 ca_35 rfl (Or.inr ⟨_, rfl⟩) rfl (by decide) ?_
    refine fs_iload_n (k0 := 1) (i := 1) dd_X11_calm_15 rfl rfl ?_
    have hb := H.1
    replace H := H.2
    refine fs_iald dd_X11_calm_16 ca_37 hb ?_
    refine fs_if_ne (tgt := 28) dd_X11_calm_17 (by decide) (fun hc => ?_) (fun hc => ?_)
    · replace H := H.1 hc
      refine fs_aload_n (k0 := 0) (i := 0) dd_X11_calm_28 rfl rfl ?_
      refine fs_getr (ci := 11) (j := 10) (q := 47) dd_X11_calm_29 fl_X11_73 ca_2 rfl (Or.inl ⟨_, rfl⟩) rfl (by decide) ?_
      refine fs_aload_n (k0 := 0) (i := 0) dd_X11_calm_32 rfl rfl ?_
      refine fs_getr (ci := 11) (j := 8) (q := 35) dd_X11_calm_33 fl_X11_63 ca_2 rfl (Or.inl ⟨_, rfl⟩) rfl (by decide) ?_
      refine fs_callV (y := m_X4_remember) (as := [.ref 35]) dd_X11_calm_36 me_X4_remember lk_X11_319 in_X4_remember se_X4_remember ca_47 rfl rfl rfl (Nat.le_of_ble_eq_true rfl) (Nat.le_of_ble_eq_true rfl) rfl (V_X4_remember (by omega) ca_35 H) (k2_V fun s4 H => ?_)
      refine fs_aload_n (k0 := 0) (i := 0) dd_X11_calm_39 rfl rfl ?_
      refine fs_getr (ci := 11) (j := 8) (q := 35) dd_X11_calm_40 fl_X11_63 ca_2 rfl (Or.inl ⟨_, rfl⟩) rfl (by decide) ?_
      refine fs_getr (ci := 10) (j := 1) (q := 37) dd_X11_calm_43 fl_X11_198 ca_35 rfl (Or.inr ⟨_, rfl⟩) rfl (by decide) ?_
      refine fs_iload_n (k0 := 1) (i := 1) dd_X11_calm_46 rfl rfl ?_
      refine fs_iconst (n := 0) (v := 0) dd_X11_calm_47 (by decide) ?_
      have hb := H.1
      replace H := H.2
      refine fs_iast dd_X11_calm_48 ca_37 hb ?_
      refine fs_tops (fun s5 hs5 => ?_)
      replace H := H s5 hs5
      refine fs_iconst (n := 1) (v := 1) dd_X11_calm_49 (by decide) ?_
      exact fs_zret true dd_X11_calm_50 rfl rfl H
    · replace H := H.2 hc
      refine fs_weak (ls2 := [.ref 2, fz_J]) (fz_le_e (fz_le_j fz_le_n)) ?_
      exact V_nd_X11_calm_20 hD    H
theorem dd_X11_cannotPass_0 : decode m_X11_cannotPass.2.1 0 = .ok (.aload_n 0, 1) := by decide +kernel
theorem dd_X11_cannotPass_1 : decode m_X11_cannotPass.2.1 1 = .ok (.invokevirtual 265, 3) := by decide +kernel
theorem dd_X11_cannotPass_4 : decode m_X11_cannotPass.2.1 4 = .ok (.ifCond .ne 22, 3) := by decide +kernel
theorem dd_X11_cannotPass_7 : decode m_X11_cannotPass.2.1 7 = .ok (.iload_n 1, 1) := by decide +kernel
theorem dd_X11_cannotPass_8 : decode m_X11_cannotPass.2.1 8 = .ok (.iconst 1, 1) := by decide +kernel
theorem dd_X11_cannotPass_9 : decode m_X11_cannotPass.2.1 9 = .ok (.if_icmp .lt 17, 3) := by decide +kernel
theorem dd_X11_cannotPass_12 : decode m_X11_cannotPass.2.1 12 = .ok (.iload_n 1, 1) := by decide +kernel
theorem dd_X11_cannotPass_13 : decode m_X11_cannotPass.2.1 13 = .ok (.bipush 100, 2) := by decide +kernel
theorem dd_X11_cannotPass_15 : decode m_X11_cannotPass.2.1 15 = .ok (.if_icmp .gt 11, 3) := by decide +kernel
theorem dd_X11_cannotPass_18 : decode m_X11_cannotPass.2.1 18 = .ok (.aload_n 0, 1) := by decide +kernel
theorem dd_X11_cannotPass_19 : decode m_X11_cannotPass.2.1 19 = .ok (.iload_n 1, 1) := by decide +kernel
theorem dd_X11_cannotPass_20 : decode m_X11_cannotPass.2.1 20 = .ok (.invokevirtual 249, 3) := by decide +kernel
theorem dd_X11_cannotPass_23 : decode m_X11_cannotPass.2.1 23 = .ok (.ifCond .eq 7, 3) := by decide +kernel
theorem dd_X11_cannotPass_26 : decode m_X11_cannotPass.2.1 26 = .ok (.iconst 1, 1) := by decide +kernel
theorem dd_X11_cannotPass_27 : decode m_X11_cannotPass.2.1 27 = .ok (.goto 4, 3) := by decide +kernel
theorem dd_X11_cannotPass_30 : decode m_X11_cannotPass.2.1 30 = .ok (.iconst 0, 1) := by decide +kernel
theorem dd_X11_cannotPass_31 : decode m_X11_cannotPass.2.1 31 = .ok (.ireturn, 1) := by decide +kernel
def wp_X11_cannotPass (p0 : Int32) (s : fz_s) (Q : Bool → fz_s → Prop) : Prop :=
  wp_X11_noTreaty  s (fun r1 s2 => ((r1 = true → Q true s2) ∧ (r1 = false → ((p0 < 1 → Q true s2) ∧ (¬ p0 < 1 → ((100 < p0 → Q true s2) ∧ (¬ 100 < p0 → wp_X11_beyond p0 s2 (fun r3 s4 => ((r3 = false → Q false s4) ∧ (r3 = true → Q true s4))))))))))
set_option maxRecDepth 100000 in
set_option maxHeartbeats 4000000 in
theorem V_X11_cannotPass {g : fz_G} {l : Launch} {d : Nat} (hD : 1 ≤ d) {p0 : Int32}  {s : fz_s} {Q : Bool → fz_s → Prop} (H : wp_X11_cannotPass p0 s Q) : fs_V g l m_X11_cannotPass d true 0 (fz_en [.ref 2, .int p0] 2) [] s (rZ Q) := by
  obtain ⟨d, rfl⟩ : ∃ e, d = e + 1 := ⟨d - 1, by omega⟩
  unfold wp_X11_cannotPass at H
  refine fs_aload_n (k0 := 0) (i := 0) dd_X11_cannotPass_0 rfl rfl ?_
  refine fs_callV (y := m_X11_noTreaty) (as := []) dd_X11_cannotPass_1 me_X11_noTreaty lk_X11_265 in_X11_noTreaty se_X11_noTreaty ca_2 rfl rfl rfl (Nat.le_of_ble_eq_true rfl) (Nat.le_of_ble_eq_true rfl) rfl (V_X11_noTreaty (by omega)  H) (k2_Z fun r1 s2 H => ?_)
  refine fs_if_ne (tgt := 26) dd_X11_cannotPass_4 (by decide) (fun hc => ?_) (fun hc => ?_)
  · replace H := H.1 (bi_1 hc)
    refine fs_iconst (n := 1) (v := 1) dd_X11_cannotPass_26 (by decide) ?_
    refine fs_goto (tgt := 31) dd_X11_cannotPass_27 (by decide) ?_
    exact fs_zret true dd_X11_cannotPass_31 rfl rfl H
  · replace H := H.2 (bi_0 hc)
    refine fs_iload_n (k0 := 1) (i := 1) dd_X11_cannotPass_7 rfl rfl ?_
    refine fs_iconst (n := 1) (v := 1) dd_X11_cannotPass_8 (by decide) ?_
    refine fs_icmp_lt (tgt := 26) dd_X11_cannotPass_9 (by decide) (fun hc => ?_) (fun hc => ?_)
    · replace H := H.1 hc
      refine fs_iconst (n := 1) (v := 1) dd_X11_cannotPass_26 (by decide) ?_
      refine fs_goto (tgt := 31) dd_X11_cannotPass_27 (by decide) ?_
      exact fs_zret true dd_X11_cannotPass_31 rfl rfl H
    · replace H := H.2 hc
      refine fs_iload_n (k0 := 1) (i := 1) dd_X11_cannotPass_12 rfl rfl ?_
      refine fs_bipush (n := 100) (v := 100) dd_X11_cannotPass_13 (by decide) ?_
      refine fs_icmp_gt (tgt := 26) dd_X11_cannotPass_15 (by decide) (fun hc => ?_) (fun hc => ?_)
      · replace H := H.1 hc
        refine fs_iconst (n := 1) (v := 1) dd_X11_cannotPass_26 (by decide) ?_
        refine fs_goto (tgt := 31) dd_X11_cannotPass_27 (by decide) ?_
        exact fs_zret true dd_X11_cannotPass_31 rfl rfl H
      · replace H := H.2 hc
        refine fs_aload_n (k0 := 0) (i := 0) dd_X11_cannotPass_18 rfl rfl ?_
        refine fs_iload_n (k0 := 1) (i := 1) dd_X11_cannotPass_19 rfl rfl ?_
        refine fs_callV (y := m_X11_beyond) (as := [.int p0]) dd_X11_cannotPass_20 me_X11_beyond lk_X11_249 in_X11_beyond se_X11_beyond ca_2 rfl rfl rfl (Nat.le_of_ble_eq_true rfl) (Nat.le_of_ble_eq_true rfl) rfl (V_X11_beyond (by omega)  H) (k2_Z fun r3 s4 H => ?_)
        refine fs_if_eq (tgt := 30) dd_X11_cannotPass_23 (by decide) (fun hc => ?_) (fun hc => ?_)
        · replace H := H.1 (bi_0 hc)
          refine fs_iconst (n := 0) (v := 0) dd_X11_cannotPass_30 (by decide) ?_
          exact fs_zret false dd_X11_cannotPass_31 rfl rfl H
        · replace H := H.2 (bi_1 hc)
          refine fs_iconst (n := 1) (v := 1) dd_X11_cannotPass_26 (by decide) ?_
          refine fs_goto (tgt := 31) dd_X11_cannotPass_27 (by decide) ?_
          exact fs_zret true dd_X11_cannotPass_31 rfl rfl H

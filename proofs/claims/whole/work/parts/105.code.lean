theorem dd_X1_fillParts_0 : decode m_X1_fillParts.2.1 0 = .ok (.aload_n 0, 1) := by decide +kernel
theorem dd_X1_fillParts_1 : decode m_X1_fillParts.2.1 1 = .ok (.lconst 0, 1) := by decide +kernel
theorem dd_X1_fillParts_2 : decode m_X1_fillParts.2.1 2 = .ok (.putfield 39, 3) := by decide +kernel
theorem dd_X1_fillParts_5 : decode m_X1_fillParts.2.1 5 = .ok (.iconst 0, 1) := by decide +kernel
theorem dd_X1_fillParts_6 : decode m_X1_fillParts.2.1 6 = .ok (.istore_n 2, 1) := by decide +kernel
theorem dd_X1_fillParts_7 : decode m_X1_fillParts.2.1 7 = .ok (.iload_n 2, 1) := by decide +kernel
theorem dd_X1_fillParts_8 : decode m_X1_fillParts.2.1 8 = .ok (.bipush 27, 2) := by decide +kernel
theorem dd_X1_fillParts_10 : decode m_X1_fillParts.2.1 10 = .ok (.if_icmp .ge 16, 3) := by decide +kernel
theorem dd_X1_fillParts_13 : decode m_X1_fillParts.2.1 13 = .ok (.aload_n 0, 1) := by decide +kernel
theorem dd_X1_fillParts_14 : decode m_X1_fillParts.2.1 14 = .ok (.getfield 11, 3) := by decide +kernel
theorem dd_X1_fillParts_17 : decode m_X1_fillParts.2.1 17 = .ok (.iload_n 2, 1) := by decide +kernel
theorem dd_X1_fillParts_18 : decode m_X1_fillParts.2.1 18 = .ok (.lconst 0, 1) := by decide +kernel
theorem dd_X1_fillParts_19 : decode m_X1_fillParts.2.1 19 = .ok (.lastore, 1) := by decide +kernel
theorem dd_X1_fillParts_20 : decode m_X1_fillParts.2.1 20 = .ok (.iinc 2 1, 3) := by decide +kernel
theorem dd_X1_fillParts_23 : decode m_X1_fillParts.2.1 23 = .ok (.goto (-16), 3) := by decide +kernel
theorem dd_X1_fillParts_26 : decode m_X1_fillParts.2.1 26 = .ok (.iconst 0, 1) := by decide +kernel
theorem dd_X1_fillParts_27 : decode m_X1_fillParts.2.1 27 = .ok (.istore_n 2, 1) := by decide +kernel
theorem dd_X1_fillParts_28 : decode m_X1_fillParts.2.1 28 = .ok (.iconst 0, 1) := by decide +kernel
theorem dd_X1_fillParts_29 : decode m_X1_fillParts.2.1 29 = .ok (.istore_n 3, 1) := by decide +kernel
theorem dd_X1_fillParts_30 : decode m_X1_fillParts.2.1 30 = .ok (.iload_n 3, 1) := by decide +kernel
theorem dd_X1_fillParts_31 : decode m_X1_fillParts.2.1 31 = .ok (.aload_n 0, 1) := by decide +kernel
theorem dd_X1_fillParts_32 : decode m_X1_fillParts.2.1 32 = .ok (.getfield 19, 3) := by decide +kernel
theorem dd_X1_fillParts_35 : decode m_X1_fillParts.2.1 35 = .ok (.getfield 43, 3) := by decide +kernel
theorem dd_X1_fillParts_38 : decode m_X1_fillParts.2.1 38 = .ok (.if_icmp .ge 26, 3) := by decide +kernel
theorem dd_X1_fillParts_41 : decode m_X1_fillParts.2.1 41 = .ok (.iload_n 2, 1) := by decide +kernel
theorem dd_X1_fillParts_42 : decode m_X1_fillParts.2.1 42 = .ok (.aload_n 0, 1) := by decide +kernel
theorem dd_X1_fillParts_43 : decode m_X1_fillParts.2.1 43 = .ok (.getfield 23, 3) := by decide +kernel
theorem dd_X1_fillParts_46 : decode m_X1_fillParts.2.1 46 = .ok (.aload_n 1, 1) := by decide +kernel
theorem dd_X1_fillParts_47 : decode m_X1_fillParts.2.1 47 = .ok (.iload_n 3, 1) := by decide +kernel
theorem dd_X1_fillParts_48 : decode m_X1_fillParts.2.1 48 = .ok (.invokevirtual 48, 3) := by decide +kernel
theorem dd_X1_fillParts_51 : decode m_X1_fillParts.2.1 51 = .ok (.invokestatic 54, 3) := by decide +kernel
theorem dd_X1_fillParts_54 : decode m_X1_fillParts.2.1 54 = .ok (.iload_n 3, 1) := by decide +kernel
theorem dd_X1_fillParts_55 : decode m_X1_fillParts.2.1 55 = .ok (.ishl, 1) := by decide +kernel
theorem dd_X1_fillParts_56 : decode m_X1_fillParts.2.1 56 = .ok (.ior, 1) := by decide +kernel
theorem dd_X1_fillParts_57 : decode m_X1_fillParts.2.1 57 = .ok (.istore_n 2, 1) := by decide +kernel
theorem dd_X1_fillParts_58 : decode m_X1_fillParts.2.1 58 = .ok (.iinc 3 1, 3) := by decide +kernel
theorem dd_X1_fillParts_61 : decode m_X1_fillParts.2.1 61 = .ok (.goto (-31), 3) := by decide +kernel
theorem dd_X1_fillParts_64 : decode m_X1_fillParts.2.1 64 = .ok (.iconst 0, 1) := by decide +kernel
theorem dd_X1_fillParts_65 : decode m_X1_fillParts.2.1 65 = .ok (.istore_n 3, 1) := by decide +kernel
theorem dd_X1_fillParts_66 : decode m_X1_fillParts.2.1 66 = .ok (.iload_n 3, 1) := by decide +kernel
theorem dd_X1_fillParts_67 : decode m_X1_fillParts.2.1 67 = .ok (.aload_n 0, 1) := by decide +kernel
theorem dd_X1_fillParts_68 : decode m_X1_fillParts.2.1 68 = .ok (.getfield 19, 3) := by decide +kernel
theorem dd_X1_fillParts_71 : decode m_X1_fillParts.2.1 71 = .ok (.getfield 43, 3) := by decide +kernel
theorem dd_X1_fillParts_74 : decode m_X1_fillParts.2.1 74 = .ok (.if_icmp .ge 55, 3) := by decide +kernel
theorem dd_X1_fillParts_77 : decode m_X1_fillParts.2.1 77 = .ok (.iconst 0, 1) := by decide +kernel
theorem dd_X1_fillParts_78 : decode m_X1_fillParts.2.1 78 = .ok (.istore 4, 2) := by decide +kernel
theorem dd_X1_fillParts_80 : decode m_X1_fillParts.2.1 80 = .ok (.iload 4, 2) := by decide +kernel
theorem dd_X1_fillParts_82 : decode m_X1_fillParts.2.1 82 = .ok (.aload_n 0, 1) := by decide +kernel
theorem dd_X1_fillParts_83 : decode m_X1_fillParts.2.1 83 = .ok (.getfield 19, 3) := by decide +kernel
theorem dd_X1_fillParts_86 : decode m_X1_fillParts.2.1 86 = .ok (.getfield 43, 3) := by decide +kernel
theorem dd_X1_fillParts_89 : decode m_X1_fillParts.2.1 89 = .ok (.if_icmp .ge 34, 3) := by decide +kernel
theorem dd_X1_fillParts_92 : decode m_X1_fillParts.2.1 92 = .ok (.iload_n 2, 1) := by decide +kernel
theorem dd_X1_fillParts_93 : decode m_X1_fillParts.2.1 93 = .ok (.iload_n 3, 1) := by decide +kernel
theorem dd_X1_fillParts_94 : decode m_X1_fillParts.2.1 94 = .ok (.ishr, 1) := by decide +kernel
theorem dd_X1_fillParts_95 : decode m_X1_fillParts.2.1 95 = .ok (.iconst 1, 1) := by decide +kernel
theorem dd_X1_fillParts_96 : decode m_X1_fillParts.2.1 96 = .ok (.iand, 1) := by decide +kernel
theorem dd_X1_fillParts_97 : decode m_X1_fillParts.2.1 97 = .ok (.ifCond .eq 20, 3) := by decide +kernel
theorem dd_X1_fillParts_100 : decode m_X1_fillParts.2.1 100 = .ok (.iload_n 2, 1) := by decide +kernel
theorem dd_X1_fillParts_101 : decode m_X1_fillParts.2.1 101 = .ok (.iload 4, 2) := by decide +kernel
theorem dd_X1_fillParts_103 : decode m_X1_fillParts.2.1 103 = .ok (.ishr, 1) := by decide +kernel
theorem dd_X1_fillParts_104 : decode m_X1_fillParts.2.1 104 = .ok (.iconst 1, 1) := by decide +kernel
theorem dd_X1_fillParts_105 : decode m_X1_fillParts.2.1 105 = .ok (.iand, 1) := by decide +kernel
theorem dd_X1_fillParts_106 : decode m_X1_fillParts.2.1 106 = .ok (.ifCond .ne 11, 3) := by decide +kernel
theorem dd_X1_fillParts_109 : decode m_X1_fillParts.2.1 109 = .ok (.aload_n 0, 1) := by decide +kernel
theorem dd_X1_fillParts_110 : decode m_X1_fillParts.2.1 110 = .ok (.aload_n 1, 1) := by decide +kernel
theorem dd_X1_fillParts_111 : decode m_X1_fillParts.2.1 111 = .ok (.iload_n 3, 1) := by decide +kernel
theorem dd_X1_fillParts_112 : decode m_X1_fillParts.2.1 112 = .ok (.iload 4, 2) := by decide +kernel
theorem dd_X1_fillParts_114 : decode m_X1_fillParts.2.1 114 = .ok (.invokevirtual 58, 3) := by decide +kernel
theorem dd_X1_fillParts_117 : decode m_X1_fillParts.2.1 117 = .ok (.iinc 4 1, 3) := by decide +kernel
theorem dd_X1_fillParts_120 : decode m_X1_fillParts.2.1 120 = .ok (.goto (-40), 3) := by decide +kernel
theorem dd_X1_fillParts_123 : decode m_X1_fillParts.2.1 123 = .ok (.iinc 3 1, 3) := by decide +kernel
theorem dd_X1_fillParts_126 : decode m_X1_fillParts.2.1 126 = .ok (.goto (-60), 3) := by decide +kernel
theorem dd_X1_fillParts_129 : decode m_X1_fillParts.2.1 129 = .ok (.return_, 1) := by decide +kernel
def nd_X1_fillParts_80 (w0 : Nat) (K66 : Int32 → Int32 → fz_s → Prop) (K80 : Int32 → Int32 → Int32 → fz_s → Prop) (Q : fz_s → Prop) (v2 : Int32) (v3 : Int32) (v4 : Int32) (s : fz_s) : Prop :=
  (((s.1 6 12) ≤ v4 → ∀ x1 : Int32, x1 = v3 + 1 → K66 v2 x1 s) ∧ (¬ (s.1 6 12) ≤ v4 → ((((v2 >>> (v3 &&& 31)) &&& 1) = 0 → ∀ x2 : Int32, x2 = v4 + 1 → K80 v2 v3 x2 s) ∧ (¬ ((v2 >>> (v3 &&& 31)) &&& 1) = 0 → ((¬ ((v2 >>> (v4 &&& 31)) &&& 1) = 0 → ∀ x3 : Int32, x3 = v4 + 1 → K80 v2 v3 x3 s) ∧ (((v2 >>> (v4 &&& 31)) &&& 1) = 0 → wp_X1_addPair w0 v3 v4 s (fun s5 => ∀ x6 : Int32, x6 = v4 + 1 → K80 v2 v3 x6 s5)))))))
def lp_X1_fillParts_80 (w0 : Nat) (K66 : Int32 → Int32 → fz_s → Prop) (Q : fz_s → Prop) : Nat → Int32 → Int32 → Int32 → fz_s → Prop
  | 0 => fun _ _ _ _ => False
  | n + 1 => nd_X1_fillParts_80 w0 K66 (lp_X1_fillParts_80 w0 K66 Q n) Q
def nd_X1_fillParts_66 (w0 : Nat) (K66 : Int32 → Int32 → fz_s → Prop) (Q : fz_s → Prop) (v2 : Int32) (v3 : Int32) (s : fz_s) : Prop :=
  (((s.1 6 12) ≤ v3 → Q s) ∧ (¬ (s.1 6 12) ≤ v3 → lp_X1_fillParts_80 w0 K66 Q 2048 v2 v3 0 s))
def lp_X1_fillParts_66 (w0 : Nat)  (Q : fz_s → Prop) : Nat → Int32 → Int32 → fz_s → Prop
  | 0 => fun _ _ _ => False
  | n + 1 => nd_X1_fillParts_66 w0 (lp_X1_fillParts_66 w0  Q n) Q
def nd_X1_fillParts_30 (w0 : Nat) (K30 : Int32 → Int32 → fz_s → Prop) (Q : fz_s → Prop) (v2 : Int32) (v3 : Int32) (s : fz_s) : Prop :=
  (((s.1 6 12) ≤ v3 → lp_X1_fillParts_66 w0  Q 2048 v2 0 s) ∧ (¬ (s.1 6 12) ≤ v3 → wp_X0_wouldPass w0 v3 s (fun r1 s2 => wp_X11_bit r1 s2 (fun r3 s4 => ∀ x5 : Int32, x5 = (v2 ||| (r3 <<< (v3 &&& 31))) → ∀ x6 : Int32, x6 = v3 + 1 → K30 x5 x6 s4))))
def lp_X1_fillParts_30 (w0 : Nat)  (Q : fz_s → Prop) : Nat → Int32 → Int32 → fz_s → Prop
  | 0 => fun _ _ _ => False
  | n + 1 => nd_X1_fillParts_30 w0 (lp_X1_fillParts_30 w0  Q n) Q
def nd_X1_fillParts_7 (w0 : Nat) (K7 : Int32 → fz_s → Prop) (Q : fz_s → Prop) (v2 : Int32) (s : fz_s) : Prop :=
  ((27 ≤ v2 → lp_X1_fillParts_30 w0  Q 2048 0 0 s) ∧ (¬ 27 ≤ v2 → vp_in v2 27 ∧ ∀ s1 : fz_s, s1 = sl s 182 v2.toNatClampNeg 0 → ∀ x2 : Int32, x2 = v2 + 1 → K7 x2 s1))
def lp_X1_fillParts_7 (w0 : Nat)  (Q : fz_s → Prop) : Nat → Int32 → fz_s → Prop
  | 0 => fun _ _ => False
  | n + 1 => nd_X1_fillParts_7 w0 (lp_X1_fillParts_7 w0  Q n) Q
def wp_X1_fillParts (w0 : Nat) (s : fz_s) (Q : fz_s → Prop) : Prop :=
  ∀ s1 : fz_s, s1 = sl s 181 4 0 → lp_X1_fillParts_7 w0  Q 2048 0 s1
set_option maxRecDepth 100000 in
set_option maxHeartbeats 4000000 in
theorem V_nd_X1_fillParts_80 {g : fz_G} {l : Launch} {d : Nat} (hD : 5 ≤ d) {w0 : Nat} (hw0 : fz_at true w0 10 7) {K66 : Int32 → Int32 → fz_s → Prop} {K80 : Int32 → Int32 → Int32 → fz_s → Prop} {Q : fz_s → Prop} {v2 : Int32} {v3 : Int32} {v4 : Int32} {s : fz_s} (hK66 : ∀ {v2 : Int32} {v3 : Int32} {s : fz_s}, K66 v2 v3 s → fs_V g l m_X1_fillParts d true 66 [.ref 181, .ref w0, .int v2, .int v3, fz_J] [] s (rV Q)) (hK80 : ∀ {v2 : Int32} {v3 : Int32} {v4 : Int32} {s : fz_s}, K80 v2 v3 v4 s → fs_V g l m_X1_fillParts d true 80 [.ref 181, .ref w0, .int v2, .int v3, .int v4] [] s (rV Q)) (H : nd_X1_fillParts_80 w0 K66 K80 Q v2 v3 v4 s) : fs_V g l m_X1_fillParts d true 80 [.ref 181, .ref w0, .int v2, .int v3, .int v4] [] s (rV Q) := by
  obtain ⟨d, rfl⟩ : ∃ e, d = e + 1 := ⟨d - 1, by omega⟩
  unfold nd_X1_fillParts_80 at H
  refine fs_iload (i := 4) dd_X1_fillParts_80 rfl ?_
  refine fs_aload_n (k0 := 0) (i := 0) dd_X1_fillParts_82 rfl rfl ?_
  refine fs_getr (ci := 1) (j := 0) (q := 6) dd_X1_fillParts_83 fl_X1_19 ca_181 rfl (Or.inl ⟨_, rfl⟩) rfl (by decide) ?_
  refine fs_geti (ci := 9) (j := 12) dd_X1_fillParts_86 fl_X1_43 ca_6 rfl (Or.inl rfl) ?_
  refine fs_icmp_ge (tgt := 123) dd_X1_fillParts_89 (by decide) (fun hc => ?_) (fun hc => ?_)
  · replace H := H.1 hc
    refine fs_iincN (i := 3) (m := 1) (c := 1) dd_X1_fillParts_123 rfl (by decide) (by decide) (fun x1 hx1 => ?_)
    replace H := H x1 hx1
    refine fs_goto (tgt := 66) dd_X1_fillParts_126 (by decide) ?_
    refine fs_weak (ls2 := [.ref 181, .ref w0, .int v2, .int x1, fz_J]) (fz_le_e (fz_le_e (fz_le_e (fz_le_e (fz_le_j fz_le_n))))) ?_
    exact hK66 H
  · replace H := H.2 hc
    refine fs_iload_n (k0 := 2) (i := 2) dd_X1_fillParts_92 rfl rfl ?_
    refine fs_iload_n (k0 := 3) (i := 3) dd_X1_fillParts_93 rfl rfl ?_
    refine fs_ishr dd_X1_fillParts_94 ?_
    refine fs_iconst (n := 1) (v := 1) dd_X1_fillParts_95 (by decide) ?_
    refine fs_iand dd_X1_fillParts_96 ?_
    refine fs_if_eq (tgt := 117) dd_X1_fillParts_97 (by decide) (fun hc => ?_) (fun hc => ?_)
    · replace H := H.1 hc
      refine fs_iincN (i := 4) (m := 1) (c := 1) dd_X1_fillParts_117 rfl (by decide) (by decide) (fun x2 hx2 => ?_)
      replace H := H x2 hx2
      refine fs_goto (tgt := 80) dd_X1_fillParts_120 (by decide) ?_
      refine fs_weak (ls2 := [.ref 181, .ref w0, .int v2, .int v3, .int x2]) (fz_le_e (fz_le_e (fz_le_e (fz_le_e (fz_le_e fz_le_n))))) ?_
      exact hK80 H
    · replace H := H.2 hc
      refine fs_iload_n (k0 := 2) (i := 2) dd_X1_fillParts_100 rfl rfl ?_
      refine fs_iload (i := 4) dd_X1_fillParts_101 rfl ?_
      refine fs_ishr dd_X1_fillParts_103 ?_
      refine fs_iconst (n := 1) (v := 1) dd_X1_fillParts_104 (by decide) ?_
      refine fs_iand dd_X1_fillParts_105 ?_
      refine fs_if_ne (tgt := 117) dd_X1_fillParts_106 (by decide) (fun hc => ?_) (fun hc => ?_)
      · replace H := H.1 hc
        refine fs_iincN (i := 4) (m := 1) (c := 1) dd_X1_fillParts_117 rfl (by decide) (by decide) (fun x3 hx3 => ?_)
        replace H := H x3 hx3
        refine fs_goto (tgt := 80) dd_X1_fillParts_120 (by decide) ?_
        refine fs_weak (ls2 := [.ref 181, .ref w0, .int v2, .int v3, .int x3]) (fz_le_e (fz_le_e (fz_le_e (fz_le_e (fz_le_e fz_le_n))))) ?_
        exact hK80 H
      · replace H := H.2 hc
        refine fs_aload_n (k0 := 0) (i := 0) dd_X1_fillParts_109 rfl rfl ?_
        refine fs_aload_n (k0 := 1) (i := 1) dd_X1_fillParts_110 rfl rfl ?_
        refine fs_iload_n (k0 := 3) (i := 3) dd_X1_fillParts_111 rfl rfl ?_
        refine fs_iload (i := 4) dd_X1_fillParts_112 rfl ?_
        refine fs_callV (y := m_X1_addPair) (as := [.ref w0, .int v3, .int v4]) dd_X1_fillParts_114 me_X1_addPair lk_X1_58 in_X1_addPair se_X1_addPair ca_181 rfl rfl rfl (Nat.le_of_ble_eq_true rfl) (Nat.le_of_ble_eq_true rfl) rfl (V_X1_addPair (by omega) hw0 H) (k2_V fun s5 H => ?_)
        refine fs_iincN (i := 4) (m := 1) (c := 1) dd_X1_fillParts_117 rfl (by decide) (by decide) (fun x6 hx6 => ?_)
        replace H := H x6 hx6
        refine fs_goto (tgt := 80) dd_X1_fillParts_120 (by decide) ?_
        refine fs_weak (ls2 := [.ref 181, .ref w0, .int v2, .int v3, .int x6]) (fz_le_e (fz_le_e (fz_le_e (fz_le_e (fz_le_e fz_le_n))))) ?_
        exact hK80 H
set_option maxRecDepth 100000 in
set_option maxHeartbeats 4000000 in
theorem V_lp_X1_fillParts_80 {g : fz_G} {l : Launch} {d : Nat} (hD : 5 ≤ d) {w0 : Nat} (hw0 : fz_at true w0 10 7) {K66 : Int32 → Int32 → fz_s → Prop} {Q : fz_s → Prop} (hK66 : ∀ {v2 : Int32} {v3 : Int32} {s : fz_s}, K66 v2 v3 s → fs_V g l m_X1_fillParts d true 66 [.ref 181, .ref w0, .int v2, .int v3, fz_J] [] s (rV Q)) (n : Nat) : ∀ {v2 : Int32} {v3 : Int32} {v4 : Int32} {s : fz_s}, lp_X1_fillParts_80 w0 K66 Q n v2 v3 v4 s → fs_V g l m_X1_fillParts d true 80 [.ref 181, .ref w0, .int v2, .int v3, .int v4] [] s (rV Q) := by
  induction n with
  | zero => intro v2 v3 v4 s H; exact H.elim
  | succ n ih => intro v2 v3 v4 s H; exact V_nd_X1_fillParts_80 hD hw0 hK66 (fun H => ih H) H
set_option maxRecDepth 100000 in
set_option maxHeartbeats 4000000 in
theorem V_nd_X1_fillParts_66 {g : fz_G} {l : Launch} {d : Nat} (hD : 5 ≤ d) {w0 : Nat} (hw0 : fz_at true w0 10 7) {K66 : Int32 → Int32 → fz_s → Prop} {Q : fz_s → Prop} {v2 : Int32} {v3 : Int32} {s : fz_s} (hK66 : ∀ {v2 : Int32} {v3 : Int32} {s : fz_s}, K66 v2 v3 s → fs_V g l m_X1_fillParts d true 66 [.ref 181, .ref w0, .int v2, .int v3, fz_J] [] s (rV Q)) (H : nd_X1_fillParts_66 w0 K66 Q v2 v3 s) : fs_V g l m_X1_fillParts d true 66 [.ref 181, .ref w0, .int v2, .int v3, fz_J] [] s (rV Q) := by
  obtain ⟨d, rfl⟩ : ∃ e, d = e + 1 := ⟨d - 1, by omega⟩
  unfold nd_X1_fillParts_66 at H
  refine fs_iload_n (k0 := 3) (i := 3) dd_X1_fillParts_66 rfl rfl ?_
  refine fs_aload_n (k0 := 0) (i := 0) dd_X1_fillParts_67 rfl rfl ?_
  refine fs_getr (ci := 1) (j := 0) (q := 6) dd_X1_fillParts_68 fl_X1_19 ca_181 rfl (Or.inl ⟨_, rfl⟩) rfl (by decide) ?_
  refine fs_geti (ci := 9) (j := 12) dd_X1_fillParts_71 fl_X1_43 ca_6 rfl (Or.inl rfl) ?_
  refine fs_icmp_ge (tgt := 129) dd_X1_fillParts_74 (by decide) (fun hc => ?_) (fun hc => ?_)
  · replace H := H.1 hc
    exact fs_vret dd_X1_fillParts_129 rfl H
  · replace H := H.2 hc
    refine fs_iconst (n := 0) (v := 0) dd_X1_fillParts_77 (by decide) ?_
    refine fs_istore (i := 4) dd_X1_fillParts_78 (by decide) ?_
    refine fs_weak (ls2 := [.ref 181, .ref w0, .int v2, .int v3, .int 0]) (fz_le_e (fz_le_e (fz_le_e (fz_le_e (fz_le_e fz_le_n))))) ?_
    exact V_lp_X1_fillParts_80 hD  hw0 hK66 2048 H
set_option maxRecDepth 100000 in
set_option maxHeartbeats 4000000 in
theorem V_lp_X1_fillParts_66 {g : fz_G} {l : Launch} {d : Nat} (hD : 5 ≤ d) {w0 : Nat} (hw0 : fz_at true w0 10 7)  {Q : fz_s → Prop}  (n : Nat) : ∀ {v2 : Int32} {v3 : Int32} {s : fz_s}, lp_X1_fillParts_66 w0  Q n v2 v3 s → fs_V g l m_X1_fillParts d true 66 [.ref 181, .ref w0, .int v2, .int v3, fz_J] [] s (rV Q) := by
  induction n with
  | zero => intro v2 v3 s H; exact H.elim
  | succ n ih => intro v2 v3 s H; exact V_nd_X1_fillParts_66 hD hw0 (fun H => ih H) H
set_option maxRecDepth 100000 in
set_option maxHeartbeats 4000000 in
theorem V_nd_X1_fillParts_30 {g : fz_G} {l : Launch} {d : Nat} (hD : 5 ≤ d) {w0 : Nat} (hw0 : fz_at true w0 10 7) {K30 : Int32 → Int32 → fz_s → Prop} {Q : fz_s → Prop} {v2 : Int32} {v3 : Int32} {s : fz_s} (hK30 : ∀ {v2 : Int32} {v3 : Int32} {s : fz_s}, K30 v2 v3 s → fs_V g l m_X1_fillParts d true 30 [.ref 181, .ref w0, .int v2, .int v3, fz_J] [] s (rV Q)) (H : nd_X1_fillParts_30 w0 K30 Q v2 v3 s) : fs_V g l m_X1_fillParts d true 30 [.ref 181, .ref w0, .int v2, .int v3, fz_J] [] s (rV Q) := by
  obtain ⟨d, rfl⟩ : ∃ e, d = e + 1 := ⟨d - 1, by omega⟩
  unfold nd_X1_fillParts_30 at H
  refine fs_iload_n (k0 := 3) (i := 3) dd_X1_fillParts_30 rfl rfl ?_
  refine fs_aload_n (k0 := 0) (i := 0) dd_X1_fillParts_31 rfl rfl ?_
  refine fs_getr (ci := 1) (j := 0) (q := 6) dd_X1_fillParts_32 fl_X1_19 ca_181 rfl (Or.inl ⟨_, rfl⟩) rfl (by decide) ?_
  refine fs_geti (ci := 9) (j := 12) dd_X1_fillParts_35 fl_X1_43 ca_6 rfl (Or.inl rfl) ?_
  refine fs_icmp_ge (tgt := 64) dd_X1_fillParts_38 (by decide) (fun hc => ?_) (fun hc => ?_)
  · replace H := H.1 hc
    refine fs_iconst (n := 0) (v := 0) dd_X1_fillParts_64 (by decide) ?_
    refine fs_istore_n (k0 := 3) (i := 3) dd_X1_fillParts_65 rfl (by decide) ?_
    refine fs_weak (ls2 := [.ref 181, .ref w0, .int v2, .int 0, fz_J]) (fz_le_e (fz_le_e (fz_le_e (fz_le_e (fz_le_j fz_le_n))))) ?_
    exact V_lp_X1_fillParts_66 hD  hw0  2048 H
  · replace H := H.2 hc
    refine fs_iload_n (k0 := 2) (i := 2) dd_X1_fillParts_41 rfl rfl ?_
    refine fs_aload_n (k0 := 0) (i := 0) dd_X1_fillParts_42 rfl rfl ?_
    refine fs_getr (ci := 1) (j := 1) (q := 30) dd_X1_fillParts_43 fl_X1_23 ca_181 rfl (Or.inl ⟨_, rfl⟩) rfl (by decide) ?_
    refine fs_aload_n (k0 := 1) (i := 1) dd_X1_fillParts_46 rfl rfl ?_
    refine fs_iload_n (k0 := 3) (i := 3) dd_X1_fillParts_47 rfl rfl ?_
    refine fs_callV (y := m_X0_wouldPass) (as := [.ref w0, .int v3]) dd_X1_fillParts_48 me_X0_wouldPass lk_X1_48 in_X0_wouldPass se_X0_wouldPass ca_30 rfl rfl rfl (Nat.le_of_ble_eq_true rfl) (Nat.le_of_ble_eq_true rfl) rfl (V_X0_wouldPass (by omega) hw0 H) (k2_Z fun r1 s2 H => ?_)
    refine fs_callS (y := m_X11_bit) (as := [.int (bi r1)]) dd_X1_fillParts_51 me_X11_bit (Or.inr ⟨_, ln_X1_54⟩) st_X11_bit rfl (Nat.le_of_ble_eq_true rfl) (Nat.le_of_ble_eq_true rfl) rfl (V_X11_bit (by omega)  H) (k2_I fun r3 s4 H => ?_)
    refine fs_iload_n (k0 := 3) (i := 3) dd_X1_fillParts_54 rfl rfl ?_
    refine fs_ishl dd_X1_fillParts_55 ?_
    refine fs_ior dd_X1_fillParts_56 ?_
    refine fs_topi (fun x5 hx5 => ?_)
    replace H := H x5 hx5
    refine fs_istore_n (k0 := 2) (i := 2) dd_X1_fillParts_57 rfl (by decide) ?_
    refine fs_iincN (i := 3) (m := 1) (c := 1) dd_X1_fillParts_58 rfl (by decide) (by decide) (fun x6 hx6 => ?_)
    replace H := H x6 hx6
    refine fs_goto (tgt := 30) dd_X1_fillParts_61 (by decide) ?_
    refine fs_weak (ls2 := [.ref 181, .ref w0, .int x5, .int x6, fz_J]) (fz_le_e (fz_le_e (fz_le_e (fz_le_e (fz_le_j fz_le_n))))) ?_
    exact hK30 H
set_option maxRecDepth 100000 in
set_option maxHeartbeats 4000000 in
theorem V_lp_X1_fillParts_30 {g : fz_G} {l : Launch} {d : Nat} (hD : 5 ≤ d) {w0 : Nat} (hw0 : fz_at true w0 10 7)  {Q : fz_s → Prop}  (n : Nat) : ∀ {v2 : Int32} {v3 : Int32} {s : fz_s}, lp_X1_fillParts_30 w0  Q n v2 v3 s → fs_V g l m_X1_fillParts d true 30 [.ref 181, .ref w0, .int v2, .int v3, fz_J] [] s (rV Q) := by
  induction n with
  | zero => intro v2 v3 s H; exact H.elim
  | succ n ih => intro v2 v3 s H; exact V_nd_X1_fillParts_30 hD hw0 (fun H => ih H) H
set_option maxRecDepth 100000 in
set_option maxHeartbeats 4000000 in
theorem V_nd_X1_fillParts_7 {g : fz_G} {l : Launch} {d : Nat} (hD : 5 ≤ d) {w0 : Nat} (hw0 : fz_at true w0 10 7) {K7 : Int32 → fz_s → Prop} {Q : fz_s → Prop} {v2 : Int32} {s : fz_s} (hK7 : ∀ {v2 : Int32} {s : fz_s}, K7 v2 s → fs_V g l m_X1_fillParts d true 7 [.ref 181, .ref w0, .int v2, fz_J, fz_J] [] s (rV Q)) (H : nd_X1_fillParts_7 w0 K7 Q v2 s) : fs_V g l m_X1_fillParts d true 7 [.ref 181, .ref w0, .int v2, fz_J, fz_J] [] s (rV Q) := by
  obtain ⟨d, rfl⟩ : ∃ e, d = e + 1 := ⟨d - 1, by omega⟩
  unfold nd_X1_fillParts_7 at H
  refine fs_iload_n (k0 := 2) (i := 2) dd_X1_fillParts_7 rfl rfl ?_
  refine fs_bipush (n := 27) (v := 27) dd_X1_fillParts_8 (by decide) ?_
  refine fs_icmp_ge (tgt := 26) dd_X1_fillParts_10 (by decide) (fun hc => ?_) (fun hc => ?_)
  · replace H := H.1 hc
    refine fs_iconst (n := 0) (v := 0) dd_X1_fillParts_26 (by decide) ?_
    refine fs_istore_n (k0 := 2) (i := 2) dd_X1_fillParts_27 rfl (by decide) ?_
    refine fs_iconst (n := 0) (v := 0) dd_X1_fillParts_28 (by decide) ?_
    refine fs_istore_n (k0 := 3) (i := 3) dd_X1_fillParts_29 rfl (by decide) ?_
    refine fs_weak (ls2 := [.ref 181, .ref w0, .int 0, .int 0, fz_J]) (fz_le_e (fz_le_e (fz_le_e (fz_le_e (fz_le_j fz_le_n))))) ?_
    exact V_lp_X1_fillParts_30 hD  hw0  2048 H
  · replace H := H.2 hc
    refine fs_aload_n (k0 := 0) (i := 0) dd_X1_fillParts_13 rfl rfl ?_
    refine fs_getr (ci := 1) (j := 2) (q := 182) dd_X1_fillParts_14 fl_X1_11 ca_181 rfl (Or.inr ⟨_, rfl⟩) rfl (by decide) ?_
    refine fs_iload_n (k0 := 2) (i := 2) dd_X1_fillParts_17 rfl rfl ?_
    refine fs_lconst (n := 0) (v := 0) dd_X1_fillParts_18 (by decide) ?_
    have hb := H.1
    replace H := H.2
    refine fs_last dd_X1_fillParts_19 ca_182 hb ?_
    refine fs_tops (fun s1 hs1 => ?_)
    replace H := H s1 hs1
    refine fs_iincN (i := 2) (m := 1) (c := 1) dd_X1_fillParts_20 rfl (by decide) (by decide) (fun x2 hx2 => ?_)
    replace H := H x2 hx2
    refine fs_goto (tgt := 7) dd_X1_fillParts_23 (by decide) ?_
    refine fs_weak (ls2 := [.ref 181, .ref w0, .int x2, fz_J, fz_J]) (fz_le_e (fz_le_e (fz_le_e (fz_le_j (fz_le_j fz_le_n))))) ?_
    exact hK7 H
set_option maxRecDepth 100000 in
set_option maxHeartbeats 4000000 in
theorem V_lp_X1_fillParts_7 {g : fz_G} {l : Launch} {d : Nat} (hD : 5 ≤ d) {w0 : Nat} (hw0 : fz_at true w0 10 7)  {Q : fz_s → Prop}  (n : Nat) : ∀ {v2 : Int32} {s : fz_s}, lp_X1_fillParts_7 w0  Q n v2 s → fs_V g l m_X1_fillParts d true 7 [.ref 181, .ref w0, .int v2, fz_J, fz_J] [] s (rV Q) := by
  induction n with
  | zero => intro v2 s H; exact H.elim
  | succ n ih => intro v2 s H; exact V_nd_X1_fillParts_7 hD hw0 (fun H => ih H) H
set_option maxRecDepth 100000 in
set_option maxHeartbeats 4000000 in
theorem V_X1_fillParts {g : fz_G} {l : Launch} {d : Nat} (hD : 5 ≤ d) {w0 : Nat} (hw0 : fz_at true w0 10 7) {s : fz_s} {Q : fz_s → Prop} (H : wp_X1_fillParts w0 s Q) : fs_V g l m_X1_fillParts d true 0 (fz_en [.ref 181, .ref w0] 5) [] s (rV Q) := by
  obtain ⟨d, rfl⟩ : ∃ e, d = e + 1 := ⟨d - 1, by omega⟩
  unfold wp_X1_fillParts at H
  refine fs_aload_n (k0 := 0) (i := 0) dd_X1_fillParts_0 rfl rfl ?_
  refine fs_lconst (n := 0) (v := 0) dd_X1_fillParts_1 (by decide) ?_
  refine fs_putl (ci := 1) (j := 4) dd_X1_fillParts_2 fl_X1_39 (fun _ _ _ h => by cases h; rfl) ca_181 rfl rfl ?_
  refine fs_tops (fun s1 hs1 => ?_)
  replace H := H s1 hs1
  refine fs_iconst (n := 0) (v := 0) dd_X1_fillParts_5 (by decide) ?_
  refine fs_istore_n (k0 := 2) (i := 2) dd_X1_fillParts_6 rfl (by decide) ?_
  refine fs_weak (ls2 := [.ref 181, .ref w0, .int 0, fz_J, fz_J]) (fz_le_e (fz_le_e (fz_le_e (fz_le_j (fz_le_j fz_le_n))))) ?_
  exact V_lp_X1_fillParts_7 hD  hw0  2048 H
theorem dd_X1_search_0 : decode m_X1_search.2.1 0 = .ok (.iload_n 1, 1) := by decide +kernel
theorem dd_X1_search_1 : decode m_X1_search.2.1 1 = .ok (.aload_n 0, 1) := by decide +kernel
theorem dd_X1_search_2 : decode m_X1_search.2.1 2 = .ok (.getfield 27, 3) := by decide +kernel
theorem dd_X1_search_5 : decode m_X1_search.2.1 5 = .ok (.if_icmp .ge 8, 3) := by decide +kernel
theorem dd_X1_search_8 : decode m_X1_search.2.1 8 = .ok (.iload_n 1, 1) := by decide +kernel
theorem dd_X1_search_9 : decode m_X1_search.2.1 9 = .ok (.iconst 3, 1) := by decide +kernel
theorem dd_X1_search_10 : decode m_X1_search.2.1 10 = .ok (.if_icmp .lt 18, 3) := by decide +kernel
theorem dd_X1_search_13 : decode m_X1_search.2.1 13 = .ok (.lload_n 3, 1) := by decide +kernel
theorem dd_X1_search_14 : decode m_X1_search.2.1 14 = .ok (.aload_n 0, 1) := by decide +kernel
theorem dd_X1_search_15 : decode m_X1_search.2.1 15 = .ok (.getfield 39, 3) := by decide +kernel
theorem dd_X1_search_18 : decode m_X1_search.2.1 18 = .ok (.lcmp, 1) := by decide +kernel
theorem dd_X1_search_19 : decode m_X1_search.2.1 19 = .ok (.ifCond .ne 7, 3) := by decide +kernel
theorem dd_X1_search_22 : decode m_X1_search.2.1 22 = .ok (.iconst 1, 1) := by decide +kernel
theorem dd_X1_search_23 : decode m_X1_search.2.1 23 = .ok (.goto 4, 3) := by decide +kernel
theorem dd_X1_search_26 : decode m_X1_search.2.1 26 = .ok (.iconst 0, 1) := by decide +kernel
theorem dd_X1_search_27 : decode m_X1_search.2.1 27 = .ok (.ireturn, 1) := by decide +kernel
theorem dd_X1_search_28 : decode m_X1_search.2.1 28 = .ok (.iload_n 2, 1) := by decide +kernel
theorem dd_X1_search_29 : decode m_X1_search.2.1 29 = .ok (.istore 5, 2) := by decide +kernel
theorem dd_X1_search_31 : decode m_X1_search.2.1 31 = .ok (.iload 5, 2) := by decide +kernel
theorem dd_X1_search_33 : decode m_X1_search.2.1 33 = .ok (.bipush 27, 2) := by decide +kernel
theorem dd_X1_search_35 : decode m_X1_search.2.1 35 = .ok (.if_icmp .ge 42, 3) := by decide +kernel
theorem dd_X1_search_38 : decode m_X1_search.2.1 38 = .ok (.aload_n 0, 1) := by decide +kernel
theorem dd_X1_search_39 : decode m_X1_search.2.1 39 = .ok (.getfield 15, 3) := by decide +kernel
theorem dd_X1_search_42 : decode m_X1_search.2.1 42 = .ok (.iload_n 1, 1) := by decide +kernel
theorem dd_X1_search_43 : decode m_X1_search.2.1 43 = .ok (.iload 5, 2) := by decide +kernel
theorem dd_X1_search_45 : decode m_X1_search.2.1 45 = .ok (.iastore, 1) := by decide +kernel
theorem dd_X1_search_46 : decode m_X1_search.2.1 46 = .ok (.aload_n 0, 1) := by decide +kernel
theorem dd_X1_search_47 : decode m_X1_search.2.1 47 = .ok (.iload_n 1, 1) := by decide +kernel
theorem dd_X1_search_48 : decode m_X1_search.2.1 48 = .ok (.iconst 1, 1) := by decide +kernel
theorem dd_X1_search_49 : decode m_X1_search.2.1 49 = .ok (.iadd, 1) := by decide +kernel
theorem dd_X1_search_50 : decode m_X1_search.2.1 50 = .ok (.iload 5, 2) := by decide +kernel
theorem dd_X1_search_52 : decode m_X1_search.2.1 52 = .ok (.iconst 1, 1) := by decide +kernel
theorem dd_X1_search_53 : decode m_X1_search.2.1 53 = .ok (.iadd, 1) := by decide +kernel
theorem dd_X1_search_54 : decode m_X1_search.2.1 54 = .ok (.lload_n 3, 1) := by decide +kernel
theorem dd_X1_search_55 : decode m_X1_search.2.1 55 = .ok (.aload_n 0, 1) := by decide +kernel
theorem dd_X1_search_56 : decode m_X1_search.2.1 56 = .ok (.getfield 11, 3) := by decide +kernel
theorem dd_X1_search_59 : decode m_X1_search.2.1 59 = .ok (.iload 5, 2) := by decide +kernel
theorem dd_X1_search_61 : decode m_X1_search.2.1 61 = .ok (.laload, 1) := by decide +kernel
theorem dd_X1_search_62 : decode m_X1_search.2.1 62 = .ok (.lor, 1) := by decide +kernel
theorem dd_X1_search_63 : decode m_X1_search.2.1 63 = .ok (.invokevirtual 35, 3) := by decide +kernel
theorem dd_X1_search_66 : decode m_X1_search.2.1 66 = .ok (.ifCond .eq 5, 3) := by decide +kernel
theorem dd_X1_search_69 : decode m_X1_search.2.1 69 = .ok (.iconst 1, 1) := by decide +kernel
theorem dd_X1_search_70 : decode m_X1_search.2.1 70 = .ok (.ireturn, 1) := by decide +kernel
theorem dd_X1_search_71 : decode m_X1_search.2.1 71 = .ok (.iinc 5 1, 3) := by decide +kernel
theorem dd_X1_search_74 : decode m_X1_search.2.1 74 = .ok (.goto (-43), 3) := by decide +kernel
theorem dd_X1_search_77 : decode m_X1_search.2.1 77 = .ok (.iconst 0, 1) := by decide +kernel
theorem dd_X1_search_78 : decode m_X1_search.2.1 78 = .ok (.ireturn, 1) := by decide +kernel
def nd_X1_search_31 (R : Int32 → Int32 → Int64 → fz_s → (Bool → fz_s → Prop) → Prop)  (K31 : Int32 → Int64 → Int32 → fz_s → Prop) (Q : Bool → fz_s → Prop) (v1 : Int32) (v3 : Int64) (v5 : Int32) (s : fz_s) : Prop :=
  ((27 ≤ v5 → Q false s) ∧ (¬ 27 ≤ v5 → vp_in v1 3 ∧ ∀ s1 : fz_s, s1 = si s 183 v1.toNatClampNeg v5 → vp_in v5 27 ∧ R (v1 + 1) (v5 + 1) (v3 ||| (s1.2.1 182 v5.toNatClampNeg)) s1 (fun r2 s3 => ((r2 = false → ∀ x4 : Int32, x4 = v5 + 1 → K31 v1 v3 x4 s3) ∧ (r2 = true → Q true s3)))))
def lp_X1_search_31 (R : Int32 → Int32 → Int64 → fz_s → (Bool → fz_s → Prop) → Prop)   (Q : Bool → fz_s → Prop) : Nat → Int32 → Int64 → Int32 → fz_s → Prop
  | 0 => fun _ _ _ _ => False
  | n + 1 => nd_X1_search_31 R  (lp_X1_search_31 R   Q n) Q
def nd_X1_search_13 (R : Int32 → Int32 → Int64 → fz_s → (Bool → fz_s → Prop) → Prop)   (Q : Bool → fz_s → Prop) (v3 : Int64) (s : fz_s) : Prop :=
  ((¬ (lg_cmp v3 (s.2.1 181 4)) = 0 → Q false s) ∧ ((lg_cmp v3 (s.2.1 181 4)) = 0 → Q true s))
def wp_X1_search (R : Int32 → Int32 → Int64 → fz_s → (Bool → fz_s → Prop) → Prop) (p0 : Int32) (p1 : Int32) (p2 : Int64) (s : fz_s) (Q : Bool → fz_s → Prop) : Prop :=
  (((s.1 181 5) ≤ p0 → nd_X1_search_13 R   Q p2 s) ∧ (¬ (s.1 181 5) ≤ p0 → ((p0 < 3 → lp_X1_search_31 R   Q 2048 p0 p2 p1 s) ∧ (¬ p0 < 3 → nd_X1_search_13 R   Q p2 s))))
set_option maxRecDepth 100000 in
set_option maxHeartbeats 4000000 in
theorem V_nd_X1_search_31 {g : fz_G} {l : Launch} {R : Int32 → Int32 → Int64 → fz_s → (Bool → fz_s → Prop) → Prop} {m0 : Nat} {d : Nat} (hD : m0 + 1 ≤ d) (hm : 1 ≤ m0) (hR : OS g l m0 R)   {K31 : Int32 → Int64 → Int32 → fz_s → Prop} {Q : Bool → fz_s → Prop} {v1 : Int32} {v3 : Int64} {v5 : Int32} {s : fz_s} (hK31 : ∀ {v1 : Int32} {v3 : Int64} {v5 : Int32} {s : fz_s}, K31 v1 v3 v5 s → fs_V g l m_X1_search d true 31 [.ref 181, .int v1, fz_J, .long v3, fz_J, .int v5] [] s (rZ Q)) (H : nd_X1_search_31 R  K31 Q v1 v3 v5 s) : fs_V g l m_X1_search d true 31 [.ref 181, .int v1, fz_J, .long v3, fz_J, .int v5] [] s (rZ Q) := by
  obtain ⟨d, rfl⟩ : ∃ e, d = e + 1 := ⟨d - 1, by omega⟩
  unfold nd_X1_search_31 at H
  refine fs_iload (i := 5) dd_X1_search_31 rfl ?_
  refine fs_bipush (n := 27) (v := 27) dd_X1_search_33 (by decide) ?_
  refine fs_icmp_ge (tgt := 77) dd_X1_search_35 (by decide) (fun hc => ?_) (fun hc => ?_)
  · replace H := H.1 hc
    refine fs_iconst (n := 0) (v := 0) dd_X1_search_77 (by decide) ?_
    exact fs_zret false dd_X1_search_78 rfl rfl H
  · replace H := H.2 hc
    refine fs_aload_n (k0 := 0) (i := 0) dd_X1_search_38 rfl rfl ?_
    refine fs_getr (ci := 1) (j := 3) (q := 183) dd_X1_search_39 fl_X1_15 ca_181 rfl (Or.inr ⟨_, rfl⟩) rfl (by decide) ?_
    refine fs_iload_n (k0 := 1) (i := 1) dd_X1_search_42 rfl rfl ?_
    refine fs_iload (i := 5) dd_X1_search_43 rfl ?_
    have hb := H.1
    replace H := H.2
    refine fs_iast dd_X1_search_45 ca_183 hb ?_
    refine fs_tops (fun s1 hs1 => ?_)
    replace H := H s1 hs1
    refine fs_aload_n (k0 := 0) (i := 0) dd_X1_search_46 rfl rfl ?_
    refine fs_iload_n (k0 := 1) (i := 1) dd_X1_search_47 rfl rfl ?_
    refine fs_iconst (n := 1) (v := 1) dd_X1_search_48 (by decide) ?_
    refine fs_iadd dd_X1_search_49 ?_
    refine fs_iload (i := 5) dd_X1_search_50 rfl ?_
    refine fs_iconst (n := 1) (v := 1) dd_X1_search_52 (by decide) ?_
    refine fs_iadd dd_X1_search_53 ?_
    refine fs_lload_n (k0 := 3) (i := 3) dd_X1_search_54 rfl rfl ?_
    refine fs_aload_n (k0 := 0) (i := 0) dd_X1_search_55 rfl rfl ?_
    refine fs_getr (ci := 1) (j := 2) (q := 182) dd_X1_search_56 fl_X1_11 ca_181 rfl (Or.inr ⟨_, rfl⟩) rfl (by decide) ?_
    refine fs_iload (i := 5) dd_X1_search_59 rfl ?_
    have hb := H.1
    replace H := H.2
    refine fs_lald dd_X1_search_61 ca_182 hb ?_
    refine fs_lor dd_X1_search_62 ?_
    refine fs_callV (y := m_X1_search) (as := [.int (v1 + 1), .int (v5 + 1), .long (v3 ||| (s1.2.1 182 v5.toNatClampNeg))]) dd_X1_search_63 me_X1_search lk_X1_35 in_X1_search se_X1_search ca_181 rfl rfl rfl (Nat.le_of_ble_eq_true rfl) (Nat.le_of_ble_eq_true rfl) rfl (hR _ (by omega) _ _ _ _ _ H) (k2_Z fun r2 s3 H => ?_)
    refine fs_if_eq (tgt := 71) dd_X1_search_66 (by decide) (fun hc => ?_) (fun hc => ?_)
    · replace H := H.1 (bi_0 hc)
      refine fs_iincN (i := 5) (m := 1) (c := 1) dd_X1_search_71 rfl (by decide) (by decide) (fun x4 hx4 => ?_)
      replace H := H x4 hx4
      refine fs_goto (tgt := 31) dd_X1_search_74 (by decide) ?_
      refine fs_weak (ls2 := [.ref 181, .int v1, fz_J, .long v3, fz_J, .int x4]) (fz_le_e (fz_le_e (fz_le_j (fz_le_e (fz_le_j (fz_le_e fz_le_n)))))) ?_
      exact hK31 H
    · replace H := H.2 (bi_1 hc)
      refine fs_iconst (n := 1) (v := 1) dd_X1_search_69 (by decide) ?_
      exact fs_zret true dd_X1_search_70 rfl rfl H
set_option maxRecDepth 100000 in
set_option maxHeartbeats 4000000 in
theorem V_lp_X1_search_31 {g : fz_G} {l : Launch} {R : Int32 → Int32 → Int64 → fz_s → (Bool → fz_s → Prop) → Prop} {m0 : Nat} {d : Nat} (hD : m0 + 1 ≤ d) (hm : 1 ≤ m0) (hR : OS g l m0 R)    {Q : Bool → fz_s → Prop}  (n : Nat) : ∀ {v1 : Int32} {v3 : Int64} {v5 : Int32} {s : fz_s}, lp_X1_search_31 R   Q n v1 v3 v5 s → fs_V g l m_X1_search d true 31 [.ref 181, .int v1, fz_J, .long v3, fz_J, .int v5] [] s (rZ Q) := by
  induction n with
  | zero => intro v1 v3 v5 s H; exact H.elim
  | succ n ih => intro v1 v3 v5 s H; exact V_nd_X1_search_31 hD hm hR  (fun H => ih H) H
set_option maxRecDepth 100000 in
set_option maxHeartbeats 4000000 in
theorem V_nd_X1_search_13 {g : fz_G} {l : Launch} {R : Int32 → Int32 → Int64 → fz_s → (Bool → fz_s → Prop) → Prop} {m0 : Nat} {d : Nat} (hD : m0 + 1 ≤ d) (hm : 1 ≤ m0) (hR : OS g l m0 R)    {Q : Bool → fz_s → Prop} {v3 : Int64} {s : fz_s}  (H : nd_X1_search_13 R   Q v3 s) : fs_V g l m_X1_search d true 13 [.ref 181, fz_J, fz_J, .long v3, fz_J, fz_J] [] s (rZ Q) := by
  obtain ⟨d, rfl⟩ : ∃ e, d = e + 1 := ⟨d - 1, by omega⟩
  unfold nd_X1_search_13 at H
  refine fs_lload_n (k0 := 3) (i := 3) dd_X1_search_13 rfl rfl ?_
  refine fs_aload_n (k0 := 0) (i := 0) dd_X1_search_14 rfl rfl ?_
  refine fs_getl (ci := 1) (j := 4) dd_X1_search_15 fl_X1_39 ca_181 rfl rfl ?_
  refine fs_lcmp dd_X1_search_18 ?_
  refine fs_if_ne (tgt := 26) dd_X1_search_19 (by decide) (fun hc => ?_) (fun hc => ?_)
  · replace H := H.1 hc
    refine fs_iconst (n := 0) (v := 0) dd_X1_search_26 (by decide) ?_
    exact fs_zret false dd_X1_search_27 rfl rfl H
  · replace H := H.2 hc
    refine fs_iconst (n := 1) (v := 1) dd_X1_search_22 (by decide) ?_
    refine fs_goto (tgt := 27) dd_X1_search_23 (by decide) ?_
    exact fs_zret true dd_X1_search_27 rfl rfl H
set_option maxRecDepth 100000 in
set_option maxHeartbeats 4000000 in
theorem V_X1_search {g : fz_G} {l : Launch} {R : Int32 → Int32 → Int64 → fz_s → (Bool → fz_s → Prop) → Prop} {m0 : Nat} {d : Nat} (hD : m0 + 1 ≤ d) (hm : 1 ≤ m0) (hR : OS g l m0 R) {p0 : Int32} {p1 : Int32} {p2 : Int64}  {s : fz_s} {Q : Bool → fz_s → Prop} (H : wp_X1_search R p0 p1 p2 s Q) : fs_V g l m_X1_search d true 0 (fz_en [.ref 181, .int p0, .int p1, .long p2] 6) [] s (rZ Q) := by
  obtain ⟨d, rfl⟩ : ∃ e, d = e + 1 := ⟨d - 1, by omega⟩
  unfold wp_X1_search at H
  refine fs_iload_n (k0 := 1) (i := 1) dd_X1_search_0 rfl rfl ?_
  refine fs_aload_n (k0 := 0) (i := 0) dd_X1_search_1 rfl rfl ?_
  refine fs_geti (ci := 1) (j := 5) dd_X1_search_2 fl_X1_27 ca_181 rfl (Or.inl rfl) ?_
  refine fs_icmp_ge (tgt := 13) dd_X1_search_5 (by decide) (fun hc => ?_) (fun hc => ?_)
  · replace H := H.1 hc
    refine fs_weak (ls2 := [.ref 181, fz_J, fz_J, .long p2, fz_J, fz_J]) (fz_le_e (fz_le_j (fz_le_j (fz_le_e (fz_le_j (fz_le_j fz_le_n)))))) ?_
    exact V_nd_X1_search_13 hD hm hR   H
  · replace H := H.2 hc
    refine fs_iload_n (k0 := 1) (i := 1) dd_X1_search_8 rfl rfl ?_
    refine fs_iconst (n := 3) (v := 3) dd_X1_search_9 (by decide) ?_
    refine fs_icmp_lt (tgt := 28) dd_X1_search_10 (by decide) (fun hc => ?_) (fun hc => ?_)
    · replace H := H.1 hc
      refine fs_iload_n (k0 := 2) (i := 2) dd_X1_search_28 rfl rfl ?_
      refine fs_istore (i := 5) dd_X1_search_29 (by decide) ?_
      refine fs_weak (ls2 := [.ref 181, .int p0, fz_J, .long p2, fz_J, .int p1]) (fz_le_e (fz_le_e (fz_le_j (fz_le_e (fz_le_j (fz_le_e fz_le_n)))))) ?_
      exact V_lp_X1_search_31 hD hm hR   2048 H
    · replace H := H.2 hc
      refine fs_weak (ls2 := [.ref 181, fz_J, fz_J, .long p2, fz_J, fz_J]) (fz_le_e (fz_le_j (fz_le_j (fz_le_e (fz_le_j (fz_le_j fz_le_n)))))) ?_
      exact V_nd_X1_search_13 hD hm hR   H
def wp_S : Nat → Int32 → Int32 → Int64 → fz_s → (Bool → fz_s → Prop) → Prop
  | 0 => fun _ _ _ _ _ => False
  | n + 1 => wp_X1_search (wp_S n)
set_option maxRecDepth 100000 in
set_option maxHeartbeats 4000000 in
theorem V_Sn {g : fz_G} {l : Launch} (n : Nat) : OS g l (1 + n) (wp_S n) := by
  induction n with
  | zero => intro d hd o i j s Q H; exact H.elim
  | succ n ih =>
    intro d hd o i j s Q H
    exact V_X1_search (m0 := 1 + n) (by omega) (by omega) ih H
set_option maxRecDepth 100000 in
set_option maxHeartbeats 4000000 in
theorem V_S {g : fz_G} {l : Launch} (n : Nat) {d : Nat} (hD : 1 + n ≤ d) {o i : Int32} {j : Int64} {s : fz_s} {Q : Bool → fz_s → Prop} (H : wp_S n o i j s Q) : fs_V g l m_X1_search d true 0 (fz_en [.ref 181, .int o, .int i, .long j] m_X1_search.2.2.1) [] s (rZ Q) := V_Sn n d hD o i j s Q H
theorem dd_X1_find_0 : decode m_X1_find.2.1 0 = .ok (.aload_n 0, 1) := by decide +kernel
theorem dd_X1_find_1 : decode m_X1_find.2.1 1 = .ok (.aload_n 1, 1) := by decide +kernel
theorem dd_X1_find_2 : decode m_X1_find.2.1 2 = .ok (.invokevirtual 31, 3) := by decide +kernel
theorem dd_X1_find_5 : decode m_X1_find.2.1 5 = .ok (.aload_n 0, 1) := by decide +kernel
theorem dd_X1_find_6 : decode m_X1_find.2.1 6 = .ok (.iconst 0, 1) := by decide +kernel
theorem dd_X1_find_7 : decode m_X1_find.2.1 7 = .ok (.putfield 27, 3) := by decide +kernel
theorem dd_X1_find_10 : decode m_X1_find.2.1 10 = .ok (.aload_n 0, 1) := by decide +kernel
theorem dd_X1_find_11 : decode m_X1_find.2.1 11 = .ok (.getfield 27, 3) := by decide +kernel
theorem dd_X1_find_14 : decode m_X1_find.2.1 14 = .ok (.iconst 3, 1) := by decide +kernel
theorem dd_X1_find_15 : decode m_X1_find.2.1 15 = .ok (.if_icmp .gt 28, 3) := by decide +kernel
theorem dd_X1_find_18 : decode m_X1_find.2.1 18 = .ok (.aload_n 0, 1) := by decide +kernel
theorem dd_X1_find_19 : decode m_X1_find.2.1 19 = .ok (.iconst 0, 1) := by decide +kernel
theorem dd_X1_find_20 : decode m_X1_find.2.1 20 = .ok (.iconst 0, 1) := by decide +kernel
theorem dd_X1_find_21 : decode m_X1_find.2.1 21 = .ok (.lconst 0, 1) := by decide +kernel
theorem dd_X1_find_22 : decode m_X1_find.2.1 22 = .ok (.invokevirtual 35, 3) := by decide +kernel
theorem dd_X1_find_25 : decode m_X1_find.2.1 25 = .ok (.ifCond .eq 5, 3) := by decide +kernel
theorem dd_X1_find_28 : decode m_X1_find.2.1 28 = .ok (.iconst 1, 1) := by decide +kernel
theorem dd_X1_find_29 : decode m_X1_find.2.1 29 = .ok (.ireturn, 1) := by decide +kernel
theorem dd_X1_find_30 : decode m_X1_find.2.1 30 = .ok (.aload_n 0, 1) := by decide +kernel
theorem dd_X1_find_31 : decode m_X1_find.2.1 31 = .ok (.dup, 1) := by decide +kernel
theorem dd_X1_find_32 : decode m_X1_find.2.1 32 = .ok (.getfield 27, 3) := by decide +kernel
theorem dd_X1_find_35 : decode m_X1_find.2.1 35 = .ok (.iconst 1, 1) := by decide +kernel
theorem dd_X1_find_36 : decode m_X1_find.2.1 36 = .ok (.iadd, 1) := by decide +kernel
theorem dd_X1_find_37 : decode m_X1_find.2.1 37 = .ok (.putfield 27, 3) := by decide +kernel
theorem dd_X1_find_40 : decode m_X1_find.2.1 40 = .ok (.goto (-30), 3) := by decide +kernel
theorem dd_X1_find_43 : decode m_X1_find.2.1 43 = .ok (.iconst 0, 1) := by decide +kernel
theorem dd_X1_find_44 : decode m_X1_find.2.1 44 = .ok (.ireturn, 1) := by decide +kernel
def nd_X1_find_10 (w0 : Nat) (K10 : fz_s → Prop) (Q : Bool → fz_s → Prop)  (s : fz_s) : Prop :=
  ((3 < (s.1 181 5) → Q false s) ∧ (¬ 3 < (s.1 181 5) → wp_S 8 0 0 0 s (fun r1 s2 => ((r1 = false → ∀ s3 : fz_s, s3 = si s2 181 5 ((s2.1 181 5) + 1) → K10  s3) ∧ (r1 = true → Q true s2)))))
def lp_X1_find_10 (w0 : Nat)  (Q : Bool → fz_s → Prop) : Nat → fz_s → Prop
  | 0 => fun  _ => False
  | n + 1 => nd_X1_find_10 w0 (lp_X1_find_10 w0  Q n) Q
def wp_X1_find (w0 : Nat) (s : fz_s) (Q : Bool → fz_s → Prop) : Prop :=
  wp_X1_fillParts w0 s (fun s2 => ∀ s3 : fz_s, s3 = si s2 181 5 0 → lp_X1_find_10 w0  Q 2048  s3)
set_option maxRecDepth 100000 in
set_option maxHeartbeats 4000000 in
theorem V_nd_X1_find_10 {g : fz_G} {l : Launch} {d : Nat} (hD : 10 ≤ d) {w0 : Nat} (hw0 : fz_at true w0 10 7) {K10 : fz_s → Prop} {Q : Bool → fz_s → Prop}  {s : fz_s} (hK10 : ∀ {s : fz_s}, K10 s → fs_V g l m_X1_find d true 10 [.ref 181, fz_J] [] s (rZ Q)) (H : nd_X1_find_10 w0 K10 Q  s) : fs_V g l m_X1_find d true 10 [.ref 181, fz_J] [] s (rZ Q) := by
  obtain ⟨d, rfl⟩ : ∃ e, d = e + 1 := ⟨d - 1, by omega⟩
  unfold nd_X1_find_10 at H
  refine fs_aload_n (k0 := 0) (i := 0) dd_X1_find_10 rfl rfl ?_
  refine fs_geti (ci := 1) (j := 5) dd_X1_find_11 fl_X1_27 ca_181 rfl (Or.inl rfl) ?_
  refine fs_iconst (n := 3) (v := 3) dd_X1_find_14 (by decide) ?_
  refine fs_icmp_gt (tgt := 43) dd_X1_find_15 (by decide) (fun hc => ?_) (fun hc => ?_)
  · replace H := H.1 hc
    refine fs_iconst (n := 0) (v := 0) dd_X1_find_43 (by decide) ?_
    exact fs_zret false dd_X1_find_44 rfl rfl H
  · replace H := H.2 hc
    refine fs_aload_n (k0 := 0) (i := 0) dd_X1_find_18 rfl rfl ?_
    refine fs_iconst (n := 0) (v := 0) dd_X1_find_19 (by decide) ?_
    refine fs_iconst (n := 0) (v := 0) dd_X1_find_20 (by decide) ?_
    refine fs_lconst (n := 0) (v := 0) dd_X1_find_21 (by decide) ?_
    refine fs_callV (y := m_X1_search) (as := [.int 0, .int 0, .long 0]) dd_X1_find_22 me_X1_search lk_X1_35 in_X1_search se_X1_search ca_181 rfl rfl rfl (Nat.le_of_ble_eq_true rfl) (Nat.le_of_ble_eq_true rfl) rfl (V_S 8  (by omega) H) (k2_Z fun r1 s2 H => ?_)
    refine fs_if_eq (tgt := 30) dd_X1_find_25 (by decide) (fun hc => ?_) (fun hc => ?_)
    · replace H := H.1 (bi_0 hc)
      refine fs_aload_n (k0 := 0) (i := 0) dd_X1_find_30 rfl rfl ?_
      refine fs_dup dd_X1_find_31 rfl ?_
      refine fs_geti (ci := 1) (j := 5) dd_X1_find_32 fl_X1_27 ca_181 rfl (Or.inl rfl) ?_
      refine fs_iconst (n := 1) (v := 1) dd_X1_find_35 (by decide) ?_
      refine fs_iadd dd_X1_find_36 ?_
      refine fs_puti (ci := 1) (j := 5) dd_X1_find_37 fl_X1_27 (fun _ _ _ h => by cases h; rfl) ca_181 rfl (Or.inl rfl) ?_
      refine fs_tops (fun s3 hs3 => ?_)
      replace H := H s3 hs3
      refine fs_goto (tgt := 10) dd_X1_find_40 (by decide) ?_
      refine fs_weak (ls2 := [.ref 181, fz_J]) (fz_le_e (fz_le_j fz_le_n)) ?_
      exact hK10 H
    · replace H := H.2 (bi_1 hc)
      refine fs_iconst (n := 1) (v := 1) dd_X1_find_28 (by decide) ?_
      exact fs_zret true dd_X1_find_29 rfl rfl H
set_option maxRecDepth 100000 in
set_option maxHeartbeats 4000000 in
theorem V_lp_X1_find_10 {g : fz_G} {l : Launch} {d : Nat} (hD : 10 ≤ d) {w0 : Nat} (hw0 : fz_at true w0 10 7)  {Q : Bool → fz_s → Prop}  (n : Nat) : ∀ {s : fz_s}, lp_X1_find_10 w0  Q n  s → fs_V g l m_X1_find d true 10 [.ref 181, fz_J] [] s (rZ Q) := by
  induction n with
  | zero => intro  s H; exact H.elim
  | succ n ih => intro  s H; exact V_nd_X1_find_10 hD hw0 (fun H => ih H) H
set_option maxRecDepth 100000 in
set_option maxHeartbeats 4000000 in
theorem V_X1_find {g : fz_G} {l : Launch} {d : Nat} (hD : 10 ≤ d) {w0 : Nat} (hw0 : fz_at true w0 10 7) {s : fz_s} {Q : Bool → fz_s → Prop} (H : wp_X1_find w0 s Q) : fs_V g l m_X1_find d true 0 (fz_en [.ref 181, .ref w0] 2) [] s (rZ Q) := by
  obtain ⟨d, rfl⟩ : ∃ e, d = e + 1 := ⟨d - 1, by omega⟩
  unfold wp_X1_find at H
  refine fs_aload_n (k0 := 0) (i := 0) dd_X1_find_0 rfl rfl ?_
  refine fs_aload_n (k0 := 1) (i := 1) dd_X1_find_1 rfl rfl ?_
  refine fs_callV (y := m_X1_fillParts) (as := [.ref w0]) dd_X1_find_2 me_X1_fillParts lk_X1_31 in_X1_fillParts se_X1_fillParts ca_181 rfl rfl rfl (Nat.le_of_ble_eq_true rfl) (Nat.le_of_ble_eq_true rfl) rfl (V_X1_fillParts (by omega) hw0 H) (k2_V fun s2 H => ?_)
  refine fs_aload_n (k0 := 0) (i := 0) dd_X1_find_5 rfl rfl ?_
  refine fs_iconst (n := 0) (v := 0) dd_X1_find_6 (by decide) ?_
  refine fs_puti (ci := 1) (j := 5) dd_X1_find_7 fl_X1_27 (fun _ _ _ h => by cases h; rfl) ca_181 rfl (Or.inl rfl) ?_
  refine fs_tops (fun s3 hs3 => ?_)
  replace H := H s3 hs3
  refine fs_weak (ls2 := [.ref 181, fz_J]) (fz_le_e (fz_le_j fz_le_n)) ?_
  exact V_lp_X1_find_10 hD  hw0  2048 H
theorem dd_X1_told_0 : decode m_X1_told.2.1 0 = .ok (.iload_n 1, 1) := by decide +kernel
theorem dd_X1_told_1 : decode m_X1_told.2.1 1 = .ok (.ifCond .lt 11, 3) := by decide +kernel
theorem dd_X1_told_4 : decode m_X1_told.2.1 4 = .ok (.iload_n 1, 1) := by decide +kernel
theorem dd_X1_told_5 : decode m_X1_told.2.1 5 = .ok (.aload_n 0, 1) := by decide +kernel
theorem dd_X1_told_6 : decode m_X1_told.2.1 6 = .ok (.getfield 27, 3) := by decide +kernel
theorem dd_X1_told_9 : decode m_X1_told.2.1 9 = .ok (.if_icmp .lt 7, 3) := by decide +kernel
theorem dd_X1_told_12 : decode m_X1_told.2.1 12 = .ok (.iconst (-1), 1) := by decide +kernel
theorem dd_X1_told_13 : decode m_X1_told.2.1 13 = .ok (.goto 27, 3) := by decide +kernel
theorem dd_X1_told_16 : decode m_X1_told.2.1 16 = .ok (.aload_n 0, 1) := by decide +kernel
theorem dd_X1_told_17 : decode m_X1_told.2.1 17 = .ok (.getfield 15, 3) := by decide +kernel
theorem dd_X1_told_20 : decode m_X1_told.2.1 20 = .ok (.iload_n 1, 1) := by decide +kernel
theorem dd_X1_told_21 : decode m_X1_told.2.1 21 = .ok (.iaload, 1) := by decide +kernel
theorem dd_X1_told_22 : decode m_X1_told.2.1 22 = .ok (.bipush 9, 2) := by decide +kernel
theorem dd_X1_told_24 : decode m_X1_told.2.1 24 = .ok (.idiv, 1) := by decide +kernel
theorem dd_X1_told_25 : decode m_X1_told.2.1 25 = .ok (.bipush 10, 2) := by decide +kernel
theorem dd_X1_told_27 : decode m_X1_told.2.1 27 = .ok (.imul, 1) := by decide +kernel
theorem dd_X1_told_28 : decode m_X1_told.2.1 28 = .ok (.aload_n 0, 1) := by decide +kernel
theorem dd_X1_told_29 : decode m_X1_told.2.1 29 = .ok (.getfield 15, 3) := by decide +kernel
theorem dd_X1_told_32 : decode m_X1_told.2.1 32 = .ok (.iload_n 1, 1) := by decide +kernel
theorem dd_X1_told_33 : decode m_X1_told.2.1 33 = .ok (.iaload, 1) := by decide +kernel
theorem dd_X1_told_34 : decode m_X1_told.2.1 34 = .ok (.bipush 9, 2) := by decide +kernel
theorem dd_X1_told_36 : decode m_X1_told.2.1 36 = .ok (.irem, 1) := by decide +kernel
theorem dd_X1_told_37 : decode m_X1_told.2.1 37 = .ok (.iadd, 1) := by decide +kernel
theorem dd_X1_told_38 : decode m_X1_told.2.1 38 = .ok (.iconst 1, 1) := by decide +kernel
theorem dd_X1_told_39 : decode m_X1_told.2.1 39 = .ok (.iadd, 1) := by decide +kernel
theorem dd_X1_told_40 : decode m_X1_told.2.1 40 = .ok (.ireturn, 1) := by decide +kernel
def wp_X1_told (p0 : Int32) (s : fz_s) (Q : Int32 → fz_s → Prop) : Prop :=
  ((p0 < 0 → Q (-1) s) ∧ (¬ p0 < 0 → ((p0 < (s.1 181 5) → vp_in p0 3 ∧ vp_in p0 3 ∧ Q (((((s.1 183 p0.toNatClampNeg) / 9) * 10) + ((s.1 183 p0.toNatClampNeg) - (s.1 183 p0.toNatClampNeg) / 9 * 9)) + 1) s) ∧ (¬ p0 < (s.1 181 5) → Q (-1) s))))
set_option maxRecDepth 100000 in
set_option maxHeartbeats 4000000 in
theorem V_X1_told {g : fz_G} {l : Launch} {d : Nat} (hD : 0 ≤ d) {p0 : Int32}  {s : fz_s} {Q : Int32 → fz_s → Prop} (H : wp_X1_told p0 s Q) : fs_V g l m_X1_told d true 0 (fz_en [.ref 181, .int p0] 2) [] s (rI Q) := by
  unfold wp_X1_told at H
  refine fs_iload_n (k0 := 1) (i := 1) dd_X1_told_0 rfl rfl ?_
  refine fs_if_lt (tgt := 12) dd_X1_told_1 (by decide) (fun hc => ?_) (fun hc => ?_)
  · replace H := H.1 hc
    refine fs_iconst (n := -1) (v := -1) dd_X1_told_12 (by decide) ?_
    refine fs_goto (tgt := 40) dd_X1_told_13 (by decide) ?_
    exact fs_iret dd_X1_told_40 rfl H
  · replace H := H.2 hc
    refine fs_iload_n (k0 := 1) (i := 1) dd_X1_told_4 rfl rfl ?_
    refine fs_aload_n (k0 := 0) (i := 0) dd_X1_told_5 rfl rfl ?_
    refine fs_geti (ci := 1) (j := 5) dd_X1_told_6 fl_X1_27 ca_181 rfl (Or.inl rfl) ?_
    refine fs_icmp_lt (tgt := 16) dd_X1_told_9 (by decide) (fun hc => ?_) (fun hc => ?_)
    · replace H := H.1 hc
      refine fs_aload_n (k0 := 0) (i := 0) dd_X1_told_16 rfl rfl ?_
      refine fs_getr (ci := 1) (j := 3) (q := 183) dd_X1_told_17 fl_X1_15 ca_181 rfl (Or.inr ⟨_, rfl⟩) rfl (by decide) ?_
      refine fs_iload_n (k0 := 1) (i := 1) dd_X1_told_20 rfl rfl ?_
      have hb := H.1
      replace H := H.2
      refine fs_iald dd_X1_told_21 ca_183 hb ?_
      refine fs_bipush (n := 9) (v := 9) dd_X1_told_22 (by decide) ?_
      refine fs_idiv dd_X1_told_24 (by decide) ?_
      refine fs_bipush (n := 10) (v := 10) dd_X1_told_25 (by decide) ?_
      refine fs_imul dd_X1_told_27 ?_
      refine fs_aload_n (k0 := 0) (i := 0) dd_X1_told_28 rfl rfl ?_
      refine fs_getr (ci := 1) (j := 3) (q := 183) dd_X1_told_29 fl_X1_15 ca_181 rfl (Or.inr ⟨_, rfl⟩) rfl (by decide) ?_
      refine fs_iload_n (k0 := 1) (i := 1) dd_X1_told_32 rfl rfl ?_
      have hb := H.1
      replace H := H.2
      refine fs_iald dd_X1_told_33 ca_183 hb ?_
      refine fs_bipush (n := 9) (v := 9) dd_X1_told_34 (by decide) ?_
      refine fs_irem dd_X1_told_36 (by decide) ?_
      refine fs_iadd dd_X1_told_37 ?_
      refine fs_iconst (n := 1) (v := 1) dd_X1_told_38 (by decide) ?_
      refine fs_iadd dd_X1_told_39 ?_
      exact fs_iret dd_X1_told_40 rfl H
    · replace H := H.2 hc
      refine fs_iconst (n := -1) (v := -1) dd_X1_told_12 (by decide) ?_
      refine fs_goto (tgt := 40) dd_X1_told_13 (by decide) ?_
      exact fs_iret dd_X1_told_40 rfl H
theorem dd_X11_exam_0 : decode m_X11_exam.2.1 0 = .ok (.aload_n 0, 1) := by decide +kernel
theorem dd_X11_exam_1 : decode m_X11_exam.2.1 1 = .ok (.invokevirtual 265, 3) := by decide +kernel
theorem dd_X11_exam_4 : decode m_X11_exam.2.1 4 = .ok (.ifCond .ne 27, 3) := by decide +kernel
theorem dd_X11_exam_7 : decode m_X11_exam.2.1 7 = .ok (.iload_n 1, 1) := by decide +kernel
theorem dd_X11_exam_8 : decode m_X11_exam.2.1 8 = .ok (.iconst (-1), 1) := by decide +kernel
theorem dd_X11_exam_9 : decode m_X11_exam.2.1 9 = .ok (.if_icmp .lt 22, 3) := by decide +kernel
theorem dd_X11_exam_12 : decode m_X11_exam.2.1 12 = .ok (.iload_n 1, 1) := by decide +kernel
theorem dd_X11_exam_13 : decode m_X11_exam.2.1 13 = .ok (.iconst 3, 1) := by decide +kernel
theorem dd_X11_exam_14 : decode m_X11_exam.2.1 14 = .ok (.if_icmp .ge 17, 3) := by decide +kernel
theorem dd_X11_exam_17 : decode m_X11_exam.2.1 17 = .ok (.aload_n 0, 1) := by decide +kernel
theorem dd_X11_exam_18 : decode m_X11_exam.2.1 18 = .ok (.getfield 89, 3) := by decide +kernel
theorem dd_X11_exam_21 : decode m_X11_exam.2.1 21 = .ok (.aload_n 0, 1) := by decide +kernel
theorem dd_X11_exam_22 : decode m_X11_exam.2.1 22 = .ok (.getfield 63, 3) := by decide +kernel
theorem dd_X11_exam_25 : decode m_X11_exam.2.1 25 = .ok (.invokevirtual 282, 3) := by decide +kernel
theorem dd_X11_exam_28 : decode m_X11_exam.2.1 28 = .ok (.ifCond .ne 5, 3) := by decide +kernel
theorem dd_X11_exam_31 : decode m_X11_exam.2.1 31 = .ok (.iconst (-1), 1) := by decide +kernel
theorem dd_X11_exam_32 : decode m_X11_exam.2.1 32 = .ok (.ireturn, 1) := by decide +kernel
theorem dd_X11_exam_33 : decode m_X11_exam.2.1 33 = .ok (.iload_n 1, 1) := by decide +kernel
theorem dd_X11_exam_34 : decode m_X11_exam.2.1 34 = .ok (.iconst (-1), 1) := by decide +kernel
theorem dd_X11_exam_35 : decode m_X11_exam.2.1 35 = .ok (.if_icmp .ne 11, 3) := by decide +kernel
theorem dd_X11_exam_38 : decode m_X11_exam.2.1 38 = .ok (.aload_n 0, 1) := by decide +kernel
theorem dd_X11_exam_39 : decode m_X11_exam.2.1 39 = .ok (.getfield 89, 3) := by decide +kernel
theorem dd_X11_exam_42 : decode m_X11_exam.2.1 42 = .ok (.getfield 285, 3) := by decide +kernel
theorem dd_X11_exam_45 : decode m_X11_exam.2.1 45 = .ok (.ireturn, 1) := by decide +kernel
theorem dd_X11_exam_46 : decode m_X11_exam.2.1 46 = .ok (.iload_n 1, 1) := by decide +kernel
theorem dd_X11_exam_47 : decode m_X11_exam.2.1 47 = .ok (.aload_n 0, 1) := by decide +kernel
theorem dd_X11_exam_48 : decode m_X11_exam.2.1 48 = .ok (.getfield 89, 3) := by decide +kernel
theorem dd_X11_exam_51 : decode m_X11_exam.2.1 51 = .ok (.getfield 285, 3) := by decide +kernel
theorem dd_X11_exam_54 : decode m_X11_exam.2.1 54 = .ok (.if_icmp .ge 14, 3) := by decide +kernel
theorem dd_X11_exam_57 : decode m_X11_exam.2.1 57 = .ok (.aload_n 0, 1) := by decide +kernel
theorem dd_X11_exam_58 : decode m_X11_exam.2.1 58 = .ok (.getfield 89, 3) := by decide +kernel
theorem dd_X11_exam_61 : decode m_X11_exam.2.1 61 = .ok (.iload_n 1, 1) := by decide +kernel
theorem dd_X11_exam_62 : decode m_X11_exam.2.1 62 = .ok (.invokevirtual 288, 3) := by decide +kernel
theorem dd_X11_exam_65 : decode m_X11_exam.2.1 65 = .ok (.goto 4, 3) := by decide +kernel
theorem dd_X11_exam_68 : decode m_X11_exam.2.1 68 = .ok (.iconst (-1), 1) := by decide +kernel
theorem dd_X11_exam_69 : decode m_X11_exam.2.1 69 = .ok (.ireturn, 1) := by decide +kernel
def wp_X11_exam (p0 : Int32) (s : fz_s) (Q : Int32 → fz_s → Prop) : Prop :=
  wp_X11_noTreaty  s (fun r1 s2 => ((r1 = true → Q (-1) s2) ∧ (r1 = false → ((p0 < (-1) → Q (-1) s2) ∧ (¬ p0 < (-1) → ((3 ≤ p0 → Q (-1) s2) ∧ (¬ 3 ≤ p0 → wp_X1_find 35 s2 (fun r3 s4 => ((r3 = true → ((¬ p0 = (-1) → (((s4.1 181 5) ≤ p0 → Q (-1) s4) ∧ (¬ (s4.1 181 5) ≤ p0 → wp_X1_told p0 s4 (fun r5 s6 => Q r5 s6)))) ∧ (p0 = (-1) → Q (s4.1 181 5) s4))) ∧ (r3 = false → Q (-1) s4))))))))))
set_option maxRecDepth 100000 in
set_option maxHeartbeats 4000000 in
theorem V_X11_exam {g : fz_G} {l : Launch} {d : Nat} (hD : 11 ≤ d) {p0 : Int32}  {s : fz_s} {Q : Int32 → fz_s → Prop} (H : wp_X11_exam p0 s Q) : fs_V g l m_X11_exam d true 0 (fz_en [.ref 2, .int p0] 2) [] s (rI Q) := by
  obtain ⟨d, rfl⟩ : ∃ e, d = e + 1 := ⟨d - 1, by omega⟩
  unfold wp_X11_exam at H
  refine fs_aload_n (k0 := 0) (i := 0) dd_X11_exam_0 rfl rfl ?_
  refine fs_callV (y := m_X11_noTreaty) (as := []) dd_X11_exam_1 me_X11_noTreaty lk_X11_265 in_X11_noTreaty se_X11_noTreaty ca_2 rfl rfl rfl (Nat.le_of_ble_eq_true rfl) (Nat.le_of_ble_eq_true rfl) rfl (V_X11_noTreaty (by omega)  H) (k2_Z fun r1 s2 H => ?_)
  refine fs_if_ne (tgt := 31) dd_X11_exam_4 (by decide) (fun hc => ?_) (fun hc => ?_)
  · replace H := H.1 (bi_1 hc)
    refine fs_iconst (n := -1) (v := -1) dd_X11_exam_31 (by decide) ?_
    exact fs_iret dd_X11_exam_32 rfl H
  · replace H := H.2 (bi_0 hc)
    refine fs_iload_n (k0 := 1) (i := 1) dd_X11_exam_7 rfl rfl ?_
    refine fs_iconst (n := -1) (v := -1) dd_X11_exam_8 (by decide) ?_
    refine fs_icmp_lt (tgt := 31) dd_X11_exam_9 (by decide) (fun hc => ?_) (fun hc => ?_)
    · replace H := H.1 hc
      refine fs_iconst (n := -1) (v := -1) dd_X11_exam_31 (by decide) ?_
      exact fs_iret dd_X11_exam_32 rfl H
    · replace H := H.2 hc
      refine fs_iload_n (k0 := 1) (i := 1) dd_X11_exam_12 rfl rfl ?_
      refine fs_iconst (n := 3) (v := 3) dd_X11_exam_13 (by decide) ?_
      refine fs_icmp_ge (tgt := 31) dd_X11_exam_14 (by decide) (fun hc => ?_) (fun hc => ?_)
      · replace H := H.1 hc
        refine fs_iconst (n := -1) (v := -1) dd_X11_exam_31 (by decide) ?_
        exact fs_iret dd_X11_exam_32 rfl H
      · replace H := H.2 hc
        refine fs_aload_n (k0 := 0) (i := 0) dd_X11_exam_17 rfl rfl ?_
        refine fs_getr (ci := 11) (j := 12) (q := 181) dd_X11_exam_18 fl_X11_89 ca_2 rfl (Or.inl ⟨_, rfl⟩) rfl (by decide) ?_
        refine fs_aload_n (k0 := 0) (i := 0) dd_X11_exam_21 rfl rfl ?_
        refine fs_getr (ci := 11) (j := 8) (q := 35) dd_X11_exam_22 fl_X11_63 ca_2 rfl (Or.inl ⟨_, rfl⟩) rfl (by decide) ?_
        refine fs_callV (y := m_X1_find) (as := [.ref 35]) dd_X11_exam_25 me_X1_find lk_X11_282 in_X1_find se_X1_find ca_181 rfl rfl rfl (Nat.le_of_ble_eq_true rfl) (Nat.le_of_ble_eq_true rfl) rfl (V_X1_find (by omega) ca_35 H) (k2_Z fun r3 s4 H => ?_)
        refine fs_if_ne (tgt := 33) dd_X11_exam_28 (by decide) (fun hc => ?_) (fun hc => ?_)
        · replace H := H.1 (bi_1 hc)
          refine fs_iload_n (k0 := 1) (i := 1) dd_X11_exam_33 rfl rfl ?_
          refine fs_iconst (n := -1) (v := -1) dd_X11_exam_34 (by decide) ?_
          refine fs_icmp_ne (tgt := 46) dd_X11_exam_35 (by decide) (fun hc => ?_) (fun hc => ?_)
          · replace H := H.1 hc
            refine fs_iload_n (k0 := 1) (i := 1) dd_X11_exam_46 rfl rfl ?_
            refine fs_aload_n (k0 := 0) (i := 0) dd_X11_exam_47 rfl rfl ?_
            refine fs_getr (ci := 11) (j := 12) (q := 181) dd_X11_exam_48 fl_X11_89 ca_2 rfl (Or.inl ⟨_, rfl⟩) rfl (by decide) ?_
            refine fs_geti (ci := 1) (j := 5) dd_X11_exam_51 fl_X11_285 ca_181 rfl (Or.inl rfl) ?_
            refine fs_icmp_ge (tgt := 68) dd_X11_exam_54 (by decide) (fun hc => ?_) (fun hc => ?_)
            · replace H := H.1 hc
              refine fs_iconst (n := -1) (v := -1) dd_X11_exam_68 (by decide) ?_
              exact fs_iret dd_X11_exam_69 rfl H
            · replace H := H.2 hc
              refine fs_aload_n (k0 := 0) (i := 0) dd_X11_exam_57 rfl rfl ?_
              refine fs_getr (ci := 11) (j := 12) (q := 181) dd_X11_exam_58 fl_X11_89 ca_2 rfl (Or.inl ⟨_, rfl⟩) rfl (by decide) ?_
              refine fs_iload_n (k0 := 1) (i := 1) dd_X11_exam_61 rfl rfl ?_
              refine fs_callV (y := m_X1_told) (as := [.int p0]) dd_X11_exam_62 me_X1_told lk_X11_288 in_X1_told se_X1_told ca_181 rfl rfl rfl (Nat.le_of_ble_eq_true rfl) (Nat.le_of_ble_eq_true rfl) rfl (V_X1_told (by omega)  H) (k2_I fun r5 s6 H => ?_)
              refine fs_goto (tgt := 69) dd_X11_exam_65 (by decide) ?_
              exact fs_iret dd_X11_exam_69 rfl H
          · replace H := H.2 hc
            refine fs_aload_n (k0 := 0) (i := 0) dd_X11_exam_38 rfl rfl ?_
            refine fs_getr (ci := 11) (j := 12) (q := 181) dd_X11_exam_39 fl_X11_89 ca_2 rfl (Or.inl ⟨_, rfl⟩) rfl (by decide) ?_
            refine fs_geti (ci := 1) (j := 5) dd_X11_exam_42 fl_X11_285 ca_181 rfl (Or.inl rfl) ?_
            exact fs_iret dd_X11_exam_45 rfl H
        · replace H := H.2 (bi_0 hc)
          refine fs_iconst (n := -1) (v := -1) dd_X11_exam_31 (by decide) ?_
          exact fs_iret dd_X11_exam_32 rfl H
theorem dd_X11_feigned_0 : decode m_X11_feigned.2.1 0 = .ok (.iload_n 2, 1) := by decide +kernel
theorem dd_X11_feigned_1 : decode m_X11_feigned.2.1 1 = .ok (.ifCond .lt 9, 3) := by decide +kernel
theorem dd_X11_feigned_4 : decode m_X11_feigned.2.1 4 = .ok (.iload_n 2, 1) := by decide +kernel
theorem dd_X11_feigned_5 : decode m_X11_feigned.2.1 5 = .ok (.bipush 9, 2) := by decide +kernel
theorem dd_X11_feigned_7 : decode m_X11_feigned.2.1 7 = .ok (.if_icmp .le 5, 3) := by decide +kernel
theorem dd_X11_feigned_10 : decode m_X11_feigned.2.1 10 = .ok (.iconst 0, 1) := by decide +kernel
theorem dd_X11_feigned_11 : decode m_X11_feigned.2.1 11 = .ok (.ireturn, 1) := by decide +kernel
theorem dd_X11_feigned_12 : decode m_X11_feigned.2.1 12 = .ok (.aload_n 0, 1) := by decide +kernel
theorem dd_X11_feigned_13 : decode m_X11_feigned.2.1 13 = .ok (.getfield 67, 3) := by decide +kernel
theorem dd_X11_feigned_16 : decode m_X11_feigned.2.1 16 = .ok (.getfield 224, 3) := by decide +kernel
theorem dd_X11_feigned_19 : decode m_X11_feigned.2.1 19 = .ok (.iload_n 1, 1) := by decide +kernel
theorem dd_X11_feigned_20 : decode m_X11_feigned.2.1 20 = .ok (.iload_n 2, 1) := by decide +kernel
theorem dd_X11_feigned_21 : decode m_X11_feigned.2.1 21 = .ok (.iastore, 1) := by decide +kernel
theorem dd_X11_feigned_22 : decode m_X11_feigned.2.1 22 = .ok (.aload_n 0, 1) := by decide +kernel
theorem dd_X11_feigned_23 : decode m_X11_feigned.2.1 23 = .ok (.getfield 56, 3) := by decide +kernel
theorem dd_X11_feigned_26 : decode m_X11_feigned.2.1 26 = .ok (.aload_n 0, 1) := by decide +kernel
theorem dd_X11_feigned_27 : decode m_X11_feigned.2.1 27 = .ok (.getfield 67, 3) := by decide +kernel
theorem dd_X11_feigned_30 : decode m_X11_feigned.2.1 30 = .ok (.aload_n 0, 1) := by decide +kernel
theorem dd_X11_feigned_31 : decode m_X11_feigned.2.1 31 = .ok (.getfield 34, 3) := by decide +kernel
theorem dd_X11_feigned_34 : decode m_X11_feigned.2.1 34 = .ok (.getfield 219, 3) := by decide +kernel
theorem dd_X11_feigned_37 : decode m_X11_feigned.2.1 37 = .ok (.iload_n 1, 1) := by decide +kernel
theorem dd_X11_feigned_38 : decode m_X11_feigned.2.1 38 = .ok (.iaload, 1) := by decide +kernel
theorem dd_X11_feigned_39 : decode m_X11_feigned.2.1 39 = .ok (.invokevirtual 208, 3) := by decide +kernel
theorem dd_X11_feigned_42 : decode m_X11_feigned.2.1 42 = .ok (.iload_n 1, 1) := by decide +kernel
theorem dd_X11_feigned_43 : decode m_X11_feigned.2.1 43 = .ok (.if_icmp .ne 22, 3) := by decide +kernel
theorem dd_X11_feigned_46 : decode m_X11_feigned.2.1 46 = .ok (.aload_n 0, 1) := by decide +kernel
theorem dd_X11_feigned_47 : decode m_X11_feigned.2.1 47 = .ok (.getfield 56, 3) := by decide +kernel
theorem dd_X11_feigned_50 : decode m_X11_feigned.2.1 50 = .ok (.aload_n 0, 1) := by decide +kernel
theorem dd_X11_feigned_51 : decode m_X11_feigned.2.1 51 = .ok (.getfield 67, 3) := by decide +kernel
theorem dd_X11_feigned_54 : decode m_X11_feigned.2.1 54 = .ok (.iload_n 1, 1) := by decide +kernel
theorem dd_X11_feigned_55 : decode m_X11_feigned.2.1 55 = .ok (.invokevirtual 211, 3) := by decide +kernel
theorem dd_X11_feigned_58 : decode m_X11_feigned.2.1 58 = .ok (.ifCond .eq 7, 3) := by decide +kernel
theorem dd_X11_feigned_61 : decode m_X11_feigned.2.1 61 = .ok (.iconst 1, 1) := by decide +kernel
theorem dd_X11_feigned_62 : decode m_X11_feigned.2.1 62 = .ok (.goto 4, 3) := by decide +kernel
theorem dd_X11_feigned_65 : decode m_X11_feigned.2.1 65 = .ok (.iconst 0, 1) := by decide +kernel
theorem dd_X11_feigned_66 : decode m_X11_feigned.2.1 66 = .ok (.ireturn, 1) := by decide +kernel
def wp_X11_feigned (p0 : Int32) (p1 : Int32) (s : fz_s) (Q : Bool → fz_s → Prop) : Prop :=
  ((p1 < 0 → Q false s) ∧ (¬ p1 < 0 → ((p1 ≤ 9 → vp_in p0 8 ∧ ∀ s1 : fz_s, s1 = si s 44 p0.toNatClampNeg p1 → vp_in p0 8 ∧ wp_X0_toSend 41 (s1.1 10 p0.toNatClampNeg) s1 (fun r2 s3 => ((¬ r2 = p0 → Q false s3) ∧ (r2 = p0 → wp_X0_wouldPass 41 p0 s3 (fun r4 s5 => ((r4 = false → Q false s5) ∧ (r4 = true → Q true s5))))))) ∧ (¬ p1 ≤ 9 → Q false s))))
set_option maxRecDepth 100000 in
set_option maxHeartbeats 4000000 in
theorem V_X11_feigned {g : fz_G} {l : Launch} {d : Nat} (hD : 5 ≤ d) {p0 : Int32} {p1 : Int32}  {s : fz_s} {Q : Bool → fz_s → Prop} (H : wp_X11_feigned p0 p1 s Q) : fs_V g l m_X11_feigned d true 0 (fz_en [.ref 2, .int p0, .int p1] 3) [] s (rZ Q) := by
  obtain ⟨d, rfl⟩ : ∃ e, d = e + 1 := ⟨d - 1, by omega⟩
  unfold wp_X11_feigned at H
  refine fs_iload_n (k0 := 2) (i := 2) dd_X11_feigned_0 rfl rfl ?_
  refine fs_if_lt (tgt := 10) dd_X11_feigned_1 (by decide) (fun hc => ?_) (fun hc => ?_)
  · replace H := H.1 hc
    refine fs_iconst (n := 0) (v := 0) dd_X11_feigned_10 (by decide) ?_
    exact fs_zret false dd_X11_feigned_11 rfl rfl H
  · replace H := H.2 hc
    refine fs_iload_n (k0 := 2) (i := 2) dd_X11_feigned_4 rfl rfl ?_
    refine fs_bipush (n := 9) (v := 9) dd_X11_feigned_5 (by decide) ?_
    refine fs_icmp_le (tgt := 12) dd_X11_feigned_7 (by decide) (fun hc => ?_) (fun hc => ?_)
    · replace H := H.1 hc
      refine fs_aload_n (k0 := 0) (i := 0) dd_X11_feigned_12 rfl rfl ?_
      refine fs_getr (ci := 11) (j := 9) (q := 41) dd_X11_feigned_13 fl_X11_67 ca_2 rfl (Or.inl ⟨_, rfl⟩) rfl (by decide) ?_
      refine fs_getr (ci := 10) (j := 2) (q := 44) dd_X11_feigned_16 fl_X11_224 ca_41 rfl (Or.inr ⟨_, rfl⟩) rfl (by decide) ?_
      refine fs_iload_n (k0 := 1) (i := 1) dd_X11_feigned_19 rfl rfl ?_
      refine fs_iload_n (k0 := 2) (i := 2) dd_X11_feigned_20 rfl rfl ?_
      have hb := H.1
      replace H := H.2
      refine fs_iast dd_X11_feigned_21 ca_44 hb ?_
      refine fs_tops (fun s1 hs1 => ?_)
      replace H := H s1 hs1
      refine fs_aload_n (k0 := 0) (i := 0) dd_X11_feigned_22 rfl rfl ?_
      refine fs_getr (ci := 11) (j := 7) (q := 30) dd_X11_feigned_23 fl_X11_56 ca_2 rfl (Or.inl ⟨_, rfl⟩) rfl (by decide) ?_
      refine fs_aload_n (k0 := 0) (i := 0) dd_X11_feigned_26 rfl rfl ?_
      refine fs_getr (ci := 11) (j := 9) (q := 41) dd_X11_feigned_27 fl_X11_67 ca_2 rfl (Or.inl ⟨_, rfl⟩) rfl (by decide) ?_
      refine fs_aload_n (k0 := 0) (i := 0) dd_X11_feigned_30 rfl rfl ?_
      refine fs_getr (ci := 11) (j := 4) (q := 6) dd_X11_feigned_31 fl_X11_34 ca_2 rfl (Or.inl ⟨_, rfl⟩) rfl (by decide) ?_
      refine fs_getr (ci := 9) (j := 3) (q := 10) dd_X11_feigned_34 fl_X11_219 ca_6 rfl (Or.inr ⟨_, rfl⟩) rfl (by decide) ?_
      refine fs_iload_n (k0 := 1) (i := 1) dd_X11_feigned_37 rfl rfl ?_
      have hb := H.1
      replace H := H.2
      refine fs_iald dd_X11_feigned_38 ca_10 hb ?_
      refine fs_callV (y := m_X0_toSend) (as := [.ref 41, .int (s1.1 10 p0.toNatClampNeg)]) dd_X11_feigned_39 me_X0_toSend lk_X11_208 in_X0_toSend se_X0_toSend ca_30 rfl rfl rfl (Nat.le_of_ble_eq_true rfl) (Nat.le_of_ble_eq_true rfl) rfl (V_X0_toSend (by omega) ca_41 H) (k2_I fun r2 s3 H => ?_)
      refine fs_iload_n (k0 := 1) (i := 1) dd_X11_feigned_42 rfl rfl ?_
      refine fs_icmp_ne (tgt := 65) dd_X11_feigned_43 (by decide) (fun hc => ?_) (fun hc => ?_)
      · replace H := H.1 hc
        refine fs_iconst (n := 0) (v := 0) dd_X11_feigned_65 (by decide) ?_
        exact fs_zret false dd_X11_feigned_66 rfl rfl H
      · replace H := H.2 hc
        refine fs_aload_n (k0 := 0) (i := 0) dd_X11_feigned_46 rfl rfl ?_
        refine fs_getr (ci := 11) (j := 7) (q := 30) dd_X11_feigned_47 fl_X11_56 ca_2 rfl (Or.inl ⟨_, rfl⟩) rfl (by decide) ?_
        refine fs_aload_n (k0 := 0) (i := 0) dd_X11_feigned_50 rfl rfl ?_
        refine fs_getr (ci := 11) (j := 9) (q := 41) dd_X11_feigned_51 fl_X11_67 ca_2 rfl (Or.inl ⟨_, rfl⟩) rfl (by decide) ?_
        refine fs_iload_n (k0 := 1) (i := 1) dd_X11_feigned_54 rfl rfl ?_
        refine fs_callV (y := m_X0_wouldPass) (as := [.ref 41, .int p0]) dd_X11_feigned_55 me_X0_wouldPass lk_X11_211 in_X0_wouldPass se_X0_wouldPass ca_30 rfl rfl rfl (Nat.le_of_ble_eq_true rfl) (Nat.le_of_ble_eq_true rfl) rfl (V_X0_wouldPass (by omega) ca_41 H) (k2_Z fun r4 s5 H => ?_)
        refine fs_if_eq (tgt := 65) dd_X11_feigned_58 (by decide) (fun hc => ?_) (fun hc => ?_)
        · replace H := H.1 (bi_0 hc)
          refine fs_iconst (n := 0) (v := 0) dd_X11_feigned_65 (by decide) ?_
          exact fs_zret false dd_X11_feigned_66 rfl rfl H
        · replace H := H.2 (bi_1 hc)
          refine fs_iconst (n := 1) (v := 1) dd_X11_feigned_61 (by decide) ?_
          refine fs_goto (tgt := 66) dd_X11_feigned_62 (by decide) ?_
          exact fs_zret true dd_X11_feigned_66 rfl rfl H
    · replace H := H.2 hc
      refine fs_iconst (n := 0) (v := 0) dd_X11_feigned_10 (by decide) ?_
      exact fs_zret false dd_X11_feigned_11 rfl rfl H
theorem dd_X11_feign_0 : decode m_X11_feign.2.1 0 = .ok (.aload_n 0, 1) := by decide +kernel
theorem dd_X11_feign_1 : decode m_X11_feign.2.1 1 = .ok (.iload_n 1, 1) := by decide +kernel
theorem dd_X11_feign_2 : decode m_X11_feign.2.1 2 = .ok (.invokevirtual 192, 3) := by decide +kernel
theorem dd_X11_feign_5 : decode m_X11_feign.2.1 5 = .ok (.ifCond .ne 32, 3) := by decide +kernel
theorem dd_X11_feign_8 : decode m_X11_feign.2.1 8 = .ok (.aload_n 0, 1) := by decide +kernel
theorem dd_X11_feign_9 : decode m_X11_feign.2.1 9 = .ok (.iconst 1, 1) := by decide +kernel
theorem dd_X11_feign_10 : decode m_X11_feign.2.1 10 = .ok (.invokevirtual 249, 3) := by decide +kernel
theorem dd_X11_feign_13 : decode m_X11_feign.2.1 13 = .ok (.ifCond .ne 24, 3) := by decide +kernel
theorem dd_X11_feign_16 : decode m_X11_feign.2.1 16 = .ok (.aload_n 0, 1) := by decide +kernel
theorem dd_X11_feign_17 : decode m_X11_feign.2.1 17 = .ok (.getfield 63, 3) := by decide +kernel
theorem dd_X11_feign_20 : decode m_X11_feign.2.1 20 = .ok (.getfield 222, 3) := by decide +kernel
theorem dd_X11_feign_23 : decode m_X11_feign.2.1 23 = .ok (.iload_n 1, 1) := by decide +kernel
theorem dd_X11_feign_24 : decode m_X11_feign.2.1 24 = .ok (.iaload, 1) := by decide +kernel
theorem dd_X11_feign_25 : decode m_X11_feign.2.1 25 = .ok (.aload_n 0, 1) := by decide +kernel
theorem dd_X11_feign_26 : decode m_X11_feign.2.1 26 = .ok (.getfield 34, 3) := by decide +kernel
theorem dd_X11_feign_29 : decode m_X11_feign.2.1 29 = .ok (.getfield 219, 3) := by decide +kernel
theorem dd_X11_feign_32 : decode m_X11_feign.2.1 32 = .ok (.iload_n 1, 1) := by decide +kernel
theorem dd_X11_feign_33 : decode m_X11_feign.2.1 33 = .ok (.iaload, 1) := by decide +kernel
theorem dd_X11_feign_34 : decode m_X11_feign.2.1 34 = .ok (.if_icmp .eq 5, 3) := by decide +kernel
theorem dd_X11_feign_37 : decode m_X11_feign.2.1 37 = .ok (.iconst (-1), 1) := by decide +kernel
theorem dd_X11_feign_38 : decode m_X11_feign.2.1 38 = .ok (.ireturn, 1) := by decide +kernel
theorem dd_X11_feign_39 : decode m_X11_feign.2.1 39 = .ok (.aload_n 0, 1) := by decide +kernel
theorem dd_X11_feign_40 : decode m_X11_feign.2.1 40 = .ok (.getfield 63, 3) := by decide +kernel
theorem dd_X11_feign_43 : decode m_X11_feign.2.1 43 = .ok (.getfield 224, 3) := by decide +kernel
theorem dd_X11_feign_46 : decode m_X11_feign.2.1 46 = .ok (.iload_n 1, 1) := by decide +kernel
theorem dd_X11_feign_47 : decode m_X11_feign.2.1 47 = .ok (.iaload, 1) := by decide +kernel
theorem dd_X11_feign_48 : decode m_X11_feign.2.1 48 = .ok (.istore_n 2, 1) := by decide +kernel
theorem dd_X11_feign_49 : decode m_X11_feign.2.1 49 = .ok (.aload_n 0, 1) := by decide +kernel
theorem dd_X11_feign_50 : decode m_X11_feign.2.1 50 = .ok (.getfield 67, 3) := by decide +kernel
theorem dd_X11_feign_53 : decode m_X11_feign.2.1 53 = .ok (.aload_n 0, 1) := by decide +kernel
theorem dd_X11_feign_54 : decode m_X11_feign.2.1 54 = .ok (.getfield 63, 3) := by decide +kernel
theorem dd_X11_feign_57 : decode m_X11_feign.2.1 57 = .ok (.invokevirtual 252, 3) := by decide +kernel
theorem dd_X11_feign_60 : decode m_X11_feign.2.1 60 = .ok (.iconst 0, 1) := by decide +kernel
theorem dd_X11_feign_61 : decode m_X11_feign.2.1 61 = .ok (.istore_n 3, 1) := by decide +kernel
theorem dd_X11_feign_62 : decode m_X11_feign.2.1 62 = .ok (.iload_n 3, 1) := by decide +kernel
theorem dd_X11_feign_63 : decode m_X11_feign.2.1 63 = .ok (.bipush 9, 2) := by decide +kernel
theorem dd_X11_feign_65 : decode m_X11_feign.2.1 65 = .ok (.if_icmp .gt 39, 3) := by decide +kernel
theorem dd_X11_feign_68 : decode m_X11_feign.2.1 68 = .ok (.aload_n 0, 1) := by decide +kernel
theorem dd_X11_feign_69 : decode m_X11_feign.2.1 69 = .ok (.iload_n 1, 1) := by decide +kernel
theorem dd_X11_feign_70 : decode m_X11_feign.2.1 70 = .ok (.iload_n 2, 1) := by decide +kernel
theorem dd_X11_feign_71 : decode m_X11_feign.2.1 71 = .ok (.iload_n 3, 1) := by decide +kernel
theorem dd_X11_feign_72 : decode m_X11_feign.2.1 72 = .ok (.isub, 1) := by decide +kernel
theorem dd_X11_feign_73 : decode m_X11_feign.2.1 73 = .ok (.invokevirtual 291, 3) := by decide +kernel
theorem dd_X11_feign_76 : decode m_X11_feign.2.1 76 = .ok (.ifCond .eq 7, 3) := by decide +kernel
theorem dd_X11_feign_79 : decode m_X11_feign.2.1 79 = .ok (.iload_n 2, 1) := by decide +kernel
theorem dd_X11_feign_80 : decode m_X11_feign.2.1 80 = .ok (.iload_n 3, 1) := by decide +kernel
theorem dd_X11_feign_81 : decode m_X11_feign.2.1 81 = .ok (.isub, 1) := by decide +kernel
theorem dd_X11_feign_82 : decode m_X11_feign.2.1 82 = .ok (.ireturn, 1) := by decide +kernel
theorem dd_X11_feign_83 : decode m_X11_feign.2.1 83 = .ok (.aload_n 0, 1) := by decide +kernel
theorem dd_X11_feign_84 : decode m_X11_feign.2.1 84 = .ok (.iload_n 1, 1) := by decide +kernel
theorem dd_X11_feign_85 : decode m_X11_feign.2.1 85 = .ok (.iload_n 2, 1) := by decide +kernel
theorem dd_X11_feign_86 : decode m_X11_feign.2.1 86 = .ok (.iload_n 3, 1) := by decide +kernel
theorem dd_X11_feign_87 : decode m_X11_feign.2.1 87 = .ok (.iadd, 1) := by decide +kernel
theorem dd_X11_feign_88 : decode m_X11_feign.2.1 88 = .ok (.invokevirtual 291, 3) := by decide +kernel
theorem dd_X11_feign_91 : decode m_X11_feign.2.1 91 = .ok (.ifCond .eq 7, 3) := by decide +kernel
theorem dd_X11_feign_94 : decode m_X11_feign.2.1 94 = .ok (.iload_n 2, 1) := by decide +kernel
theorem dd_X11_feign_95 : decode m_X11_feign.2.1 95 = .ok (.iload_n 3, 1) := by decide +kernel
theorem dd_X11_feign_96 : decode m_X11_feign.2.1 96 = .ok (.iadd, 1) := by decide +kernel
theorem dd_X11_feign_97 : decode m_X11_feign.2.1 97 = .ok (.ireturn, 1) := by decide +kernel
theorem dd_X11_feign_98 : decode m_X11_feign.2.1 98 = .ok (.iinc 3 1, 3) := by decide +kernel
theorem dd_X11_feign_101 : decode m_X11_feign.2.1 101 = .ok (.goto (-39), 3) := by decide +kernel
theorem dd_X11_feign_104 : decode m_X11_feign.2.1 104 = .ok (.iconst (-1), 1) := by decide +kernel
theorem dd_X11_feign_105 : decode m_X11_feign.2.1 105 = .ok (.ireturn, 1) := by decide +kernel
def nd_X11_feign_62  (K62 : Int32 → Int32 → Int32 → fz_s → Prop) (Q : Int32 → fz_s → Prop) (v1 : Int32) (v2 : Int32) (v3 : Int32) (s : fz_s) : Prop :=
  ((9 < v3 → Q (-1) s) ∧ (¬ 9 < v3 → wp_X11_feigned v1 (v2 - v3) s (fun r1 s2 => ((r1 = false → wp_X11_feigned v1 (v2 + v3) s2 (fun r3 s4 => ((r3 = false → ∀ x5 : Int32, x5 = v3 + 1 → K62 v1 v2 x5 s4) ∧ (r3 = true → Q (v2 + v3) s4)))) ∧ (r1 = true → Q (v2 - v3) s2)))))
def lp_X11_feign_62   (Q : Int32 → fz_s → Prop) : Nat → Int32 → Int32 → Int32 → fz_s → Prop
  | 0 => fun _ _ _ _ => False
  | n + 1 => nd_X11_feign_62  (lp_X11_feign_62   Q n) Q
def wp_X11_feign (p0 : Int32) (s : fz_s) (Q : Int32 → fz_s → Prop) : Prop :=
  wp_X11_noPerson p0 s (fun r1 s2 => ((r1 = true → Q (-1) s2) ∧ (r1 = false → wp_X11_beyond 1 s2 (fun r3 s4 => ((r3 = true → Q (-1) s4) ∧ (r3 = false → vp_in p0 8 ∧ vp_in p0 8 ∧ (((s4.1 39 p0.toNatClampNeg) = (s4.1 10 p0.toNatClampNeg) → vp_in p0 8 ∧ ∀ x5 : Int32, x5 = (s4.1 38 p0.toNatClampNeg) → wp_X10_take 41 35 s4 (fun s7 => lp_X11_feign_62   Q 2048 p0 x5 0 s7)) ∧ (¬ (s4.1 39 p0.toNatClampNeg) = (s4.1 10 p0.toNatClampNeg) → Q (-1) s4))))))))
set_option maxRecDepth 100000 in
set_option maxHeartbeats 4000000 in
theorem V_nd_X11_feign_62 {g : fz_G} {l : Launch} {d : Nat} (hD : 6 ≤ d)   {K62 : Int32 → Int32 → Int32 → fz_s → Prop} {Q : Int32 → fz_s → Prop} {v1 : Int32} {v2 : Int32} {v3 : Int32} {s : fz_s} (hK62 : ∀ {v1 : Int32} {v2 : Int32} {v3 : Int32} {s : fz_s}, K62 v1 v2 v3 s → fs_V g l m_X11_feign d true 62 [.ref 2, .int v1, .int v2, .int v3] [] s (rI Q)) (H : nd_X11_feign_62  K62 Q v1 v2 v3 s) : fs_V g l m_X11_feign d true 62 [.ref 2, .int v1, .int v2, .int v3] [] s (rI Q) := by
  obtain ⟨d, rfl⟩ : ∃ e, d = e + 1 := ⟨d - 1, by omega⟩
  unfold nd_X11_feign_62 at H
  refine fs_iload_n (k0 := 3) (i := 3) dd_X11_feign_62 rfl rfl ?_
  refine fs_bipush (n := 9) (v := 9) dd_X11_feign_63 (by decide) ?_
  refine fs_icmp_gt (tgt := 104) dd_X11_feign_65 (by decide) (fun hc => ?_) (fun hc => ?_)
  · replace H := H.1 hc
    refine fs_iconst (n := -1) (v := -1) dd_X11_feign_104 (by decide) ?_
    exact fs_iret dd_X11_feign_105 rfl H
  · replace H := H.2 hc
    refine fs_aload_n (k0 := 0) (i := 0) dd_X11_feign_68 rfl rfl ?_
    refine fs_iload_n (k0 := 1) (i := 1) dd_X11_feign_69 rfl rfl ?_
    refine fs_iload_n (k0 := 2) (i := 2) dd_X11_feign_70 rfl rfl ?_
    refine fs_iload_n (k0 := 3) (i := 3) dd_X11_feign_71 rfl rfl ?_
    refine fs_isub dd_X11_feign_72 ?_
    refine fs_callV (y := m_X11_feigned) (as := [.int v1, .int (v2 - v3)]) dd_X11_feign_73 me_X11_feigned lk_X11_291 in_X11_feigned se_X11_feigned ca_2 rfl rfl rfl (Nat.le_of_ble_eq_true rfl) (Nat.le_of_ble_eq_true rfl) rfl (V_X11_feigned (by omega)  H) (k2_Z fun r1 s2 H => ?_)
    refine fs_if_eq (tgt := 83) dd_X11_feign_76 (by decide) (fun hc => ?_) (fun hc => ?_)
    · replace H := H.1 (bi_0 hc)
      refine fs_aload_n (k0 := 0) (i := 0) dd_X11_feign_83 rfl rfl ?_
      refine fs_iload_n (k0 := 1) (i := 1) dd_X11_feign_84 rfl rfl ?_
      refine fs_iload_n (k0 := 2) (i := 2) dd_X11_feign_85 rfl rfl ?_
      refine fs_iload_n (k0 := 3) (i := 3) dd_X11_feign_86 rfl rfl ?_
      refine fs_iadd dd_X11_feign_87 ?_
      refine fs_callV (y := m_X11_feigned) (as := [.int v1, .int (v2 + v3)]) dd_X11_feign_88 me_X11_feigned lk_X11_291 in_X11_feigned se_X11_feigned ca_2 rfl rfl rfl (Nat.le_of_ble_eq_true rfl) (Nat.le_of_ble_eq_true rfl) rfl (V_X11_feigned (by omega)  H) (k2_Z fun r3 s4 H => ?_)
      refine fs_if_eq (tgt := 98) dd_X11_feign_91 (by decide) (fun hc => ?_) (fun hc => ?_)
      · replace H := H.1 (bi_0 hc)
        refine fs_iincN (i := 3) (m := 1) (c := 1) dd_X11_feign_98 rfl (by decide) (by decide) (fun x5 hx5 => ?_)
        replace H := H x5 hx5
        refine fs_goto (tgt := 62) dd_X11_feign_101 (by decide) ?_
        refine fs_weak (ls2 := [.ref 2, .int v1, .int v2, .int x5]) (fz_le_e (fz_le_e (fz_le_e (fz_le_e fz_le_n)))) ?_
        exact hK62 H
      · replace H := H.2 (bi_1 hc)
        refine fs_iload_n (k0 := 2) (i := 2) dd_X11_feign_94 rfl rfl ?_
        refine fs_iload_n (k0 := 3) (i := 3) dd_X11_feign_95 rfl rfl ?_
        refine fs_iadd dd_X11_feign_96 ?_
        exact fs_iret dd_X11_feign_97 rfl H
    · replace H := H.2 (bi_1 hc)
      refine fs_iload_n (k0 := 2) (i := 2) dd_X11_feign_79 rfl rfl ?_
      refine fs_iload_n (k0 := 3) (i := 3) dd_X11_feign_80 rfl rfl ?_
      refine fs_isub dd_X11_feign_81 ?_
      exact fs_iret dd_X11_feign_82 rfl H
set_option maxRecDepth 100000 in
set_option maxHeartbeats 4000000 in
theorem V_lp_X11_feign_62 {g : fz_G} {l : Launch} {d : Nat} (hD : 6 ≤ d)    {Q : Int32 → fz_s → Prop}  (n : Nat) : ∀ {v1 : Int32} {v2 : Int32} {v3 : Int32} {s : fz_s}, lp_X11_feign_62   Q n v1 v2 v3 s → fs_V g l m_X11_feign d true 62 [.ref 2, .int v1, .int v2, .int v3] [] s (rI Q) := by
  induction n with
  | zero => intro v1 v2 v3 s H; exact H.elim
  | succ n ih => intro v1 v2 v3 s H; exact V_nd_X11_feign_62 hD  (fun H => ih H) H
set_option maxRecDepth 100000 in
set_option maxHeartbeats 4000000 in
theorem V_X11_feign {g : fz_G} {l : Launch} {d : Nat} (hD : 6 ≤ d) {p0 : Int32}  {s : fz_s} {Q : Int32 → fz_s → Prop} (H : wp_X11_feign p0 s Q) : fs_V g l m_X11_feign d true 0 (fz_en [.ref 2, .int p0] 4) [] s (rI Q) := by
  obtain ⟨d, rfl⟩ : ∃ e, d = e + 1 := ⟨d - 1, by omega⟩
  unfold wp_X11_feign at H
  refine fs_aload_n (k0 := 0) (i := 0) dd_X11_feign_0 rfl rfl ?_
  refine fs_iload_n (k0 := 1) (i := 1) dd_X11_feign_1 rfl rfl ?_
  refine fs_callV (y := m_X11_noPerson) (as := [.int p0]) dd_X11_feign_2 me_X11_noPerson lk_X11_192 in_X11_noPerson se_X11_noPerson ca_2 rfl rfl rfl (Nat.le_of_ble_eq_true rfl) (Nat.le_of_ble_eq_true rfl) rfl (V_X11_noPerson (by omega)  H) (k2_Z fun r1 s2 H => ?_)
  refine fs_if_ne (tgt := 37) dd_X11_feign_5 (by decide) (fun hc => ?_) (fun hc => ?_)
  · replace H := H.1 (bi_1 hc)
    refine fs_iconst (n := -1) (v := -1) dd_X11_feign_37 (by decide) ?_
    exact fs_iret dd_X11_feign_38 rfl H
  · replace H := H.2 (bi_0 hc)
    refine fs_aload_n (k0 := 0) (i := 0) dd_X11_feign_8 rfl rfl ?_
    refine fs_iconst (n := 1) (v := 1) dd_X11_feign_9 (by decide) ?_
    refine fs_callV (y := m_X11_beyond) (as := [.int 1]) dd_X11_feign_10 me_X11_beyond lk_X11_249 in_X11_beyond se_X11_beyond ca_2 rfl rfl rfl (Nat.le_of_ble_eq_true rfl) (Nat.le_of_ble_eq_true rfl) rfl (V_X11_beyond (by omega)  H) (k2_Z fun r3 s4 H => ?_)
    refine fs_if_ne (tgt := 37) dd_X11_feign_13 (by decide) (fun hc => ?_) (fun hc => ?_)
    · replace H := H.1 (bi_1 hc)
      refine fs_iconst (n := -1) (v := -1) dd_X11_feign_37 (by decide) ?_
      exact fs_iret dd_X11_feign_38 rfl H
    · replace H := H.2 (bi_0 hc)
      refine fs_aload_n (k0 := 0) (i := 0) dd_X11_feign_16 rfl rfl ?_
      refine fs_getr (ci := 11) (j := 8) (q := 35) dd_X11_feign_17 fl_X11_63 ca_2 rfl (Or.inl ⟨_, rfl⟩) rfl (by decide) ?_
      refine fs_getr (ci := 10) (j := 3) (q := 39) dd_X11_feign_20 fl_X11_222 ca_35 rfl (Or.inr ⟨_, rfl⟩) rfl (by decide) ?_
      refine fs_iload_n (k0 := 1) (i := 1) dd_X11_feign_23 rfl rfl ?_
      have hb := H.1
      replace H := H.2
      refine fs_iald dd_X11_feign_24 ca_39 hb ?_
      refine fs_aload_n (k0 := 0) (i := 0) dd_X11_feign_25 rfl rfl ?_
      refine fs_getr (ci := 11) (j := 4) (q := 6) dd_X11_feign_26 fl_X11_34 ca_2 rfl (Or.inl ⟨_, rfl⟩) rfl (by decide) ?_
      refine fs_getr (ci := 9) (j := 3) (q := 10) dd_X11_feign_29 fl_X11_219 ca_6 rfl (Or.inr ⟨_, rfl⟩) rfl (by decide) ?_
      refine fs_iload_n (k0 := 1) (i := 1) dd_X11_feign_32 rfl rfl ?_
      have hb := H.1
      replace H := H.2
      refine fs_iald dd_X11_feign_33 ca_10 hb ?_
      refine fs_icmp_eq (tgt := 39) dd_X11_feign_34 (by decide) (fun hc => ?_) (fun hc => ?_)
      · replace H := H.1 hc
        refine fs_aload_n (k0 := 0) (i := 0) dd_X11_feign_39 rfl rfl ?_
        refine fs_getr (ci := 11) (j := 8) (q := 35) dd_X11_feign_40 fl_X11_63 ca_2 rfl (Or.inl ⟨_, rfl⟩) rfl (by decide) ?_
        refine fs_getr (ci := 10) (j := 2) (q := 38) dd_X11_feign_43 fl_X11_224 ca_35 rfl (Or.inr ⟨_, rfl⟩) rfl (by decide) ?_
        refine fs_iload_n (k0 := 1) (i := 1) dd_X11_feign_46 rfl rfl ?_
        have hb := H.1
        replace H := H.2
        refine fs_iald dd_X11_feign_47 ca_38 hb ?_
        refine fs_topi (fun x5 hx5 => ?_)
        replace H := H x5 hx5
        refine fs_istore_n (k0 := 2) (i := 2) dd_X11_feign_48 rfl (by decide) ?_
        refine fs_aload_n (k0 := 0) (i := 0) dd_X11_feign_49 rfl rfl ?_
        refine fs_getr (ci := 11) (j := 9) (q := 41) dd_X11_feign_50 fl_X11_67 ca_2 rfl (Or.inl ⟨_, rfl⟩) rfl (by decide) ?_
        refine fs_aload_n (k0 := 0) (i := 0) dd_X11_feign_53 rfl rfl ?_
        refine fs_getr (ci := 11) (j := 8) (q := 35) dd_X11_feign_54 fl_X11_63 ca_2 rfl (Or.inl ⟨_, rfl⟩) rfl (by decide) ?_
        refine fs_callV (y := m_X10_take) (as := [.ref 35]) dd_X11_feign_57 me_X10_take lk_X11_252 in_X10_take se_X10_take ca_41 rfl rfl rfl (Nat.le_of_ble_eq_true rfl) (Nat.le_of_ble_eq_true rfl) rfl (V_X10_take (by omega) ca_41 ca_35 H) (k2_V fun s7 H => ?_)
        refine fs_iconst (n := 0) (v := 0) dd_X11_feign_60 (by decide) ?_
        refine fs_istore_n (k0 := 3) (i := 3) dd_X11_feign_61 rfl (by decide) ?_
        refine fs_weak (ls2 := [.ref 2, .int p0, .int x5, .int 0]) (fz_le_e (fz_le_e (fz_le_e (fz_le_e fz_le_n)))) ?_
        exact V_lp_X11_feign_62 hD    2048 H
      · replace H := H.2 hc
        refine fs_iconst (n := -1) (v := -1) dd_X11_feign_37 (by decide) ?_
        exact fs_iret dd_X11_feign_38 rfl H
theorem dd_X0_quietYear_0 : decode m_X0_quietYear.2.1 0 = .ok (.aload_n 0, 1) := by decide +kernel
theorem dd_X0_quietYear_1 : decode m_X0_quietYear.2.1 1 = .ok (.invokevirtual 105, 3) := by decide +kernel
theorem dd_X0_quietYear_4 : decode m_X0_quietYear.2.1 4 = .ok (.aload_n 0, 1) := by decide +kernel
theorem dd_X0_quietYear_5 : decode m_X0_quietYear.2.1 5 = .ok (.aload_n 1, 1) := by decide +kernel
theorem dd_X0_quietYear_6 : decode m_X0_quietYear.2.1 6 = .ok (.invokevirtual 96, 3) := by decide +kernel
theorem dd_X0_quietYear_9 : decode m_X0_quietYear.2.1 9 = .ok (.aload_n 0, 1) := by decide +kernel
theorem dd_X0_quietYear_10 : decode m_X0_quietYear.2.1 10 = .ok (.aload_n 1, 1) := by decide +kernel
theorem dd_X0_quietYear_11 : decode m_X0_quietYear.2.1 11 = .ok (.invokevirtual 99, 3) := by decide +kernel
theorem dd_X0_quietYear_14 : decode m_X0_quietYear.2.1 14 = .ok (.aload_n 1, 1) := by decide +kernel
theorem dd_X0_quietYear_15 : decode m_X0_quietYear.2.1 15 = .ok (.invokestatic 102, 3) := by decide +kernel
theorem dd_X0_quietYear_18 : decode m_X0_quietYear.2.1 18 = .ok (.return_, 1) := by decide +kernel
def wp_X0_quietYear (w0 : Nat) (s : fz_s) (Q : fz_s → Prop) : Prop :=
  wp_X0_sendNobody  s (fun s2 => wp_X0_summer w0 s2 (fun s4 => wp_X0_autumn w0 s4 (fun s6 => wp_X0_turn w0 s6 (fun s8 => Q s8))))
set_option maxRecDepth 100000 in
set_option maxHeartbeats 4000000 in
theorem V_X0_quietYear {g : fz_G} {l : Launch} {d : Nat} (hD : 6 ≤ d) {w0 : Nat} (hw0 : fz_at true w0 10 7) {s : fz_s} {Q : fz_s → Prop} (H : wp_X0_quietYear w0 s Q) : fs_V g l m_X0_quietYear d true 0 (fz_en [.ref 30, .ref w0] 2) [] s (rV Q) := by
  obtain ⟨d, rfl⟩ : ∃ e, d = e + 1 := ⟨d - 1, by omega⟩
  unfold wp_X0_quietYear at H
  refine fs_aload_n (k0 := 0) (i := 0) dd_X0_quietYear_0 rfl rfl ?_
  refine fs_callV (y := m_X0_sendNobody) (as := []) dd_X0_quietYear_1 me_X0_sendNobody lk_X0_105 in_X0_sendNobody se_X0_sendNobody ca_30 rfl rfl rfl (Nat.le_of_ble_eq_true rfl) (Nat.le_of_ble_eq_true rfl) rfl (V_X0_sendNobody (by omega)  H) (k2_V fun s2 H => ?_)
  refine fs_aload_n (k0 := 0) (i := 0) dd_X0_quietYear_4 rfl rfl ?_
  refine fs_aload_n (k0 := 1) (i := 1) dd_X0_quietYear_5 rfl rfl ?_
  refine fs_callV (y := m_X0_summer) (as := [.ref w0]) dd_X0_quietYear_6 me_X0_summer lk_X0_96 in_X0_summer se_X0_summer ca_30 rfl rfl rfl (Nat.le_of_ble_eq_true rfl) (Nat.le_of_ble_eq_true rfl) rfl (V_X0_summer (by omega) hw0 H) (k2_V fun s4 H => ?_)
  refine fs_aload_n (k0 := 0) (i := 0) dd_X0_quietYear_9 rfl rfl ?_
  refine fs_aload_n (k0 := 1) (i := 1) dd_X0_quietYear_10 rfl rfl ?_
  refine fs_callV (y := m_X0_autumn) (as := [.ref w0]) dd_X0_quietYear_11 me_X0_autumn lk_X0_99 in_X0_autumn se_X0_autumn ca_30 rfl rfl rfl (Nat.le_of_ble_eq_true rfl) (Nat.le_of_ble_eq_true rfl) rfl (V_X0_autumn (by omega) hw0 H) (k2_V fun s6 H => ?_)
  refine fs_aload_n (k0 := 1) (i := 1) dd_X0_quietYear_14 rfl rfl ?_
  refine fs_callS (y := m_X0_turn) (as := [.ref w0]) dd_X0_quietYear_15 me_X0_turn (Or.inl lk_X0_102) st_X0_turn rfl (Nat.le_of_ble_eq_true rfl) (Nat.le_of_ble_eq_true rfl) rfl (V_X0_turn (by omega) hw0 H) (k2_V fun s8 H => ?_)
  exact fs_vret dd_X0_quietYear_18 rfl H
theorem dd_X11_worth_0 : decode m_X11_worth.2.1 0 = .ok (.aload_n 0, 1) := by decide +kernel
theorem dd_X11_worth_1 : decode m_X11_worth.2.1 1 = .ok (.iload_n 1, 1) := by decide +kernel
theorem dd_X11_worth_2 : decode m_X11_worth.2.1 2 = .ok (.invokevirtual 184, 3) := by decide +kernel
theorem dd_X11_worth_5 : decode m_X11_worth.2.1 5 = .ok (.ifCond .ne 16, 3) := by decide +kernel
theorem dd_X11_worth_8 : decode m_X11_worth.2.1 8 = .ok (.iload_n 2, 1) := by decide +kernel
theorem dd_X11_worth_9 : decode m_X11_worth.2.1 9 = .ok (.iconst 1, 1) := by decide +kernel
theorem dd_X11_worth_10 : decode m_X11_worth.2.1 10 = .ok (.if_icmp .lt 11, 3) := by decide +kernel
theorem dd_X11_worth_13 : decode m_X11_worth.2.1 13 = .ok (.aload_n 0, 1) := by decide +kernel
theorem dd_X11_worth_14 : decode m_X11_worth.2.1 14 = .ok (.iload_n 2, 1) := by decide +kernel
theorem dd_X11_worth_15 : decode m_X11_worth.2.1 15 = .ok (.invokevirtual 246, 3) := by decide +kernel
theorem dd_X11_worth_18 : decode m_X11_worth.2.1 18 = .ok (.ifCond .ne 7, 3) := by decide +kernel
theorem dd_X11_worth_21 : decode m_X11_worth.2.1 21 = .ok (.ldc2_w 236, 3) := by decide +kernel
theorem dd_X11_worth_24 : decode m_X11_worth.2.1 24 = .ok (.lreturn, 1) := by decide +kernel
theorem dd_X11_worth_25 : decode m_X11_worth.2.1 25 = .ok (.aload_n 0, 1) := by decide +kernel
theorem dd_X11_worth_26 : decode m_X11_worth.2.1 26 = .ok (.getfield 67, 3) := by decide +kernel
theorem dd_X11_worth_29 : decode m_X11_worth.2.1 29 = .ok (.getfield 195, 3) := by decide +kernel
theorem dd_X11_worth_32 : decode m_X11_worth.2.1 32 = .ok (.iload_n 1, 1) := by decide +kernel
theorem dd_X11_worth_33 : decode m_X11_worth.2.1 33 = .ok (.iaload, 1) := by decide +kernel
theorem dd_X11_worth_34 : decode m_X11_worth.2.1 34 = .ok (.istore_n 3, 1) := by decide +kernel
theorem dd_X11_worth_35 : decode m_X11_worth.2.1 35 = .ok (.aload_n 0, 1) := by decide +kernel
theorem dd_X11_worth_36 : decode m_X11_worth.2.1 36 = .ok (.getfield 67, 3) := by decide +kernel
theorem dd_X11_worth_39 : decode m_X11_worth.2.1 39 = .ok (.aload_n 0, 1) := by decide +kernel
theorem dd_X11_worth_40 : decode m_X11_worth.2.1 40 = .ok (.getfield 63, 3) := by decide +kernel
theorem dd_X11_worth_43 : decode m_X11_worth.2.1 43 = .ok (.invokevirtual 252, 3) := by decide +kernel
theorem dd_X11_worth_46 : decode m_X11_worth.2.1 46 = .ok (.iconst 0, 1) := by decide +kernel
theorem dd_X11_worth_47 : decode m_X11_worth.2.1 47 = .ok (.istore 4, 2) := by decide +kernel
theorem dd_X11_worth_49 : decode m_X11_worth.2.1 49 = .ok (.iload 4, 2) := by decide +kernel
theorem dd_X11_worth_51 : decode m_X11_worth.2.1 51 = .ok (.iload_n 2, 1) := by decide +kernel
theorem dd_X11_worth_52 : decode m_X11_worth.2.1 52 = .ok (.if_icmp .ge 20, 3) := by decide +kernel
theorem dd_X11_worth_55 : decode m_X11_worth.2.1 55 = .ok (.aload_n 0, 1) := by decide +kernel
theorem dd_X11_worth_56 : decode m_X11_worth.2.1 56 = .ok (.getfield 56, 3) := by decide +kernel
theorem dd_X11_worth_59 : decode m_X11_worth.2.1 59 = .ok (.aload_n 0, 1) := by decide +kernel
theorem dd_X11_worth_60 : decode m_X11_worth.2.1 60 = .ok (.getfield 67, 3) := by decide +kernel
theorem dd_X11_worth_63 : decode m_X11_worth.2.1 63 = .ok (.invokevirtual 295, 3) := by decide +kernel
theorem dd_X11_worth_66 : decode m_X11_worth.2.1 66 = .ok (.iinc 4 1, 3) := by decide +kernel
theorem dd_X11_worth_69 : decode m_X11_worth.2.1 69 = .ok (.goto (-20), 3) := by decide +kernel
theorem dd_X11_worth_72 : decode m_X11_worth.2.1 72 = .ok (.iload_n 3, 1) := by decide +kernel
theorem dd_X11_worth_73 : decode m_X11_worth.2.1 73 = .ok (.i2l, 1) := by decide +kernel
theorem dd_X11_worth_74 : decode m_X11_worth.2.1 74 = .ok (.aload_n 0, 1) := by decide +kernel
theorem dd_X11_worth_75 : decode m_X11_worth.2.1 75 = .ok (.getfield 67, 3) := by decide +kernel
theorem dd_X11_worth_78 : decode m_X11_worth.2.1 78 = .ok (.getfield 195, 3) := by decide +kernel
theorem dd_X11_worth_81 : decode m_X11_worth.2.1 81 = .ok (.iload_n 1, 1) := by decide +kernel
theorem dd_X11_worth_82 : decode m_X11_worth.2.1 82 = .ok (.iaload, 1) := by decide +kernel
theorem dd_X11_worth_83 : decode m_X11_worth.2.1 83 = .ok (.i2l, 1) := by decide +kernel
theorem dd_X11_worth_84 : decode m_X11_worth.2.1 84 = .ok (.lsub, 1) := by decide +kernel
theorem dd_X11_worth_85 : decode m_X11_worth.2.1 85 = .ok (.lreturn, 1) := by decide +kernel
def nd_X11_worth_49  (K49 : Int32 → Int32 → Int32 → Int32 → fz_s → Prop) (Q : Int64 → fz_s → Prop) (v1 : Int32) (v2 : Int32) (v3 : Int32) (v4 : Int32) (s : fz_s) : Prop :=
  ((v2 ≤ v4 → vp_in v1 2 ∧ Q (v3.toInt64 - ((s.1 42 v1.toNatClampNeg).toInt64)) s) ∧ (¬ v2 ≤ v4 → wp_X0_quietYear 41 s (fun s2 => ∀ x3 : Int32, x3 = v4 + 1 → K49 v1 v2 v3 x3 s2)))
def lp_X11_worth_49   (Q : Int64 → fz_s → Prop) : Nat → Int32 → Int32 → Int32 → Int32 → fz_s → Prop
  | 0 => fun _ _ _ _ _ => False
  | n + 1 => nd_X11_worth_49  (lp_X11_worth_49   Q n) Q
def wp_X11_worth (p0 : Int32) (p1 : Int32) (s : fz_s) (Q : Int64 → fz_s → Prop) : Prop :=
  wp_X11_noVillage p0 s (fun r1 s2 => ((r1 = true → Q (-1000000000000000) s2) ∧ (r1 = false → ((p1 < 1 → Q (-1000000000000000) s2) ∧ (¬ p1 < 1 → wp_X11_goAhead p1 s2 (fun r3 s4 => ((r3 = true → vp_in p0 2 ∧ ∀ x5 : Int32, x5 = (s4.1 42 p0.toNatClampNeg) → wp_X10_take 41 35 s4 (fun s7 => lp_X11_worth_49   Q 2048 p0 p1 x5 0 s7)) ∧ (r3 = false → Q (-1000000000000000) s4))))))))
set_option maxRecDepth 100000 in
set_option maxHeartbeats 4000000 in
theorem V_nd_X11_worth_49 {g : fz_G} {l : Launch} {d : Nat} (hD : 8 ≤ d)   {K49 : Int32 → Int32 → Int32 → Int32 → fz_s → Prop} {Q : Int64 → fz_s → Prop} {v1 : Int32} {v2 : Int32} {v3 : Int32} {v4 : Int32} {s : fz_s} (hK49 : ∀ {v1 : Int32} {v2 : Int32} {v3 : Int32} {v4 : Int32} {s : fz_s}, K49 v1 v2 v3 v4 s → fs_V g l m_X11_worth d true 49 [.ref 2, .int v1, .int v2, .int v3, .int v4] [] s (rL Q)) (H : nd_X11_worth_49  K49 Q v1 v2 v3 v4 s) : fs_V g l m_X11_worth d true 49 [.ref 2, .int v1, .int v2, .int v3, .int v4] [] s (rL Q) := by
  obtain ⟨d, rfl⟩ : ∃ e, d = e + 1 := ⟨d - 1, by omega⟩
  unfold nd_X11_worth_49 at H
  refine fs_iload (i := 4) dd_X11_worth_49 rfl ?_
  refine fs_iload_n (k0 := 2) (i := 2) dd_X11_worth_51 rfl rfl ?_
  refine fs_icmp_ge (tgt := 72) dd_X11_worth_52 (by decide) (fun hc => ?_) (fun hc => ?_)
  · replace H := H.1 hc
    refine fs_iload_n (k0 := 3) (i := 3) dd_X11_worth_72 rfl rfl ?_
    refine fs_i2l dd_X11_worth_73 ?_
    refine fs_aload_n (k0 := 0) (i := 0) dd_X11_worth_74 rfl rfl ?_
    refine fs_getr (ci := 11) (j := 9) (q := 41) dd_X11_worth_75 fl_X11_67 ca_2 rfl (Or.inl ⟨_, rfl⟩) rfl (by decide) ?_
    refine fs_getr (ci := 10) (j := 0) (q := 42) dd_X11_worth_78 fl_X11_195 ca_41 rfl (Or.inr ⟨_, rfl⟩) rfl (by decide) ?_
    refine fs_iload_n (k0 := 1) (i := 1) dd_X11_worth_81 rfl rfl ?_
    have hb := H.1
    replace H := H.2
    refine fs_iald dd_X11_worth_82 ca_42 hb ?_
    refine fs_i2l dd_X11_worth_83 ?_
    refine fs_lsub dd_X11_worth_84 ?_
    exact fs_lret dd_X11_worth_85 rfl H
  · replace H := H.2 hc
    refine fs_aload_n (k0 := 0) (i := 0) dd_X11_worth_55 rfl rfl ?_
    refine fs_getr (ci := 11) (j := 7) (q := 30) dd_X11_worth_56 fl_X11_56 ca_2 rfl (Or.inl ⟨_, rfl⟩) rfl (by decide) ?_
    refine fs_aload_n (k0 := 0) (i := 0) dd_X11_worth_59 rfl rfl ?_
    refine fs_getr (ci := 11) (j := 9) (q := 41) dd_X11_worth_60 fl_X11_67 ca_2 rfl (Or.inl ⟨_, rfl⟩) rfl (by decide) ?_
    refine fs_callV (y := m_X0_quietYear) (as := [.ref 41]) dd_X11_worth_63 me_X0_quietYear lk_X11_295 in_X0_quietYear se_X0_quietYear ca_30 rfl rfl rfl (Nat.le_of_ble_eq_true rfl) (Nat.le_of_ble_eq_true rfl) rfl (V_X0_quietYear (by omega) ca_41 H) (k2_V fun s2 H => ?_)
    refine fs_iincN (i := 4) (m := 1) (c := 1) dd_X11_worth_66 rfl (by decide) (by decide) (fun x3 hx3 => ?_)
    replace H := H x3 hx3
    refine fs_goto (tgt := 49) dd_X11_worth_69 (by decide) ?_
    refine fs_weak (ls2 := [.ref 2, .int v1, .int v2, .int v3, .int x3]) (fz_le_e (fz_le_e (fz_le_e (fz_le_e (fz_le_e fz_le_n))))) ?_
    exact hK49 H
set_option maxRecDepth 100000 in
set_option maxHeartbeats 4000000 in
theorem V_lp_X11_worth_49 {g : fz_G} {l : Launch} {d : Nat} (hD : 8 ≤ d)    {Q : Int64 → fz_s → Prop}  (n : Nat) : ∀ {v1 : Int32} {v2 : Int32} {v3 : Int32} {v4 : Int32} {s : fz_s}, lp_X11_worth_49   Q n v1 v2 v3 v4 s → fs_V g l m_X11_worth d true 49 [.ref 2, .int v1, .int v2, .int v3, .int v4] [] s (rL Q) := by
  induction n with
  | zero => intro v1 v2 v3 v4 s H; exact H.elim
  | succ n ih => intro v1 v2 v3 v4 s H; exact V_nd_X11_worth_49 hD  (fun H => ih H) H
set_option maxRecDepth 100000 in
set_option maxHeartbeats 4000000 in
theorem V_X11_worth {g : fz_G} {l : Launch} {d : Nat} (hD : 8 ≤ d) {p0 : Int32} {p1 : Int32}  {s : fz_s} {Q : Int64 → fz_s → Prop} (H : wp_X11_worth p0 p1 s Q) : fs_V g l m_X11_worth d true 0 (fz_en [.ref 2, .int p0, .int p1] 5) [] s (rL Q) := by
  obtain ⟨d, rfl⟩ : ∃ e, d = e + 1 := ⟨d - 1, by omega⟩
  unfold wp_X11_worth at H
  refine fs_aload_n (k0 := 0) (i := 0) dd_X11_worth_0 rfl rfl ?_
  refine fs_iload_n (k0 := 1) (i := 1) dd_X11_worth_1 rfl rfl ?_
  refine fs_callV (y := m_X11_noVillage) (as := [.int p0]) dd_X11_worth_2 me_X11_noVillage lk_X11_184 in_X11_noVillage se_X11_noVillage ca_2 rfl rfl rfl (Nat.le_of_ble_eq_true rfl) (Nat.le_of_ble_eq_true rfl) rfl (V_X11_noVillage (by omega)  H) (k2_Z fun r1 s2 H => ?_)
  refine fs_if_ne (tgt := 21) dd_X11_worth_5 (by decide) (fun hc => ?_) (fun hc => ?_)
  · replace H := H.1 (bi_1 hc)
    refine fs_ldc2 (idx := 236) (v := -1000000000000000) dd_X11_worth_21 cl_X11_236 ?_
    exact fs_lret dd_X11_worth_24 rfl H
  · replace H := H.2 (bi_0 hc)
    refine fs_iload_n (k0 := 2) (i := 2) dd_X11_worth_8 rfl rfl ?_
    refine fs_iconst (n := 1) (v := 1) dd_X11_worth_9 (by decide) ?_
    refine fs_icmp_lt (tgt := 21) dd_X11_worth_10 (by decide) (fun hc => ?_) (fun hc => ?_)
    · replace H := H.1 hc
      refine fs_ldc2 (idx := 236) (v := -1000000000000000) dd_X11_worth_21 cl_X11_236 ?_
      exact fs_lret dd_X11_worth_24 rfl H
    · replace H := H.2 hc
      refine fs_aload_n (k0 := 0) (i := 0) dd_X11_worth_13 rfl rfl ?_
      refine fs_iload_n (k0 := 2) (i := 2) dd_X11_worth_14 rfl rfl ?_
      refine fs_callV (y := m_X11_goAhead) (as := [.int p1]) dd_X11_worth_15 me_X11_goAhead lk_X11_246 in_X11_goAhead se_X11_goAhead ca_2 rfl rfl rfl (Nat.le_of_ble_eq_true rfl) (Nat.le_of_ble_eq_true rfl) rfl (V_X11_goAhead (by omega)  H) (k2_Z fun r3 s4 H => ?_)
      refine fs_if_ne (tgt := 25) dd_X11_worth_18 (by decide) (fun hc => ?_) (fun hc => ?_)
      · replace H := H.1 (bi_1 hc)
        refine fs_aload_n (k0 := 0) (i := 0) dd_X11_worth_25 rfl rfl ?_
        refine fs_getr (ci := 11) (j := 9) (q := 41) dd_X11_worth_26 fl_X11_67 ca_2 rfl (Or.inl ⟨_, rfl⟩) rfl (by decide) ?_
        refine fs_getr (ci := 10) (j := 0) (q := 42) dd_X11_worth_29 fl_X11_195 ca_41 rfl (Or.inr ⟨_, rfl⟩) rfl (by decide) ?_
        refine fs_iload_n (k0 := 1) (i := 1) dd_X11_worth_32 rfl rfl ?_
        have hb := H.1
        replace H := H.2
        refine fs_iald dd_X11_worth_33 ca_42 hb ?_
        refine fs_topi (fun x5 hx5 => ?_)
        replace H := H x5 hx5
        refine fs_istore_n (k0 := 3) (i := 3) dd_X11_worth_34 rfl (by decide) ?_
        refine fs_aload_n (k0 := 0) (i := 0) dd_X11_worth_35 rfl rfl ?_
        refine fs_getr (ci := 11) (j := 9) (q := 41) dd_X11_worth_36 fl_X11_67 ca_2 rfl (Or.inl ⟨_, rfl⟩) rfl (by decide) ?_
        refine fs_aload_n (k0 := 0) (i := 0) dd_X11_worth_39 rfl rfl ?_
        refine fs_getr (ci := 11) (j := 8) (q := 35) dd_X11_worth_40 fl_X11_63 ca_2 rfl (Or.inl ⟨_, rfl⟩) rfl (by decide) ?_
        refine fs_callV (y := m_X10_take) (as := [.ref 35]) dd_X11_worth_43 me_X10_take lk_X11_252 in_X10_take se_X10_take ca_41 rfl rfl rfl (Nat.le_of_ble_eq_true rfl) (Nat.le_of_ble_eq_true rfl) rfl (V_X10_take (by omega) ca_41 ca_35 H) (k2_V fun s7 H => ?_)
        refine fs_iconst (n := 0) (v := 0) dd_X11_worth_46 (by decide) ?_
        refine fs_istore (i := 4) dd_X11_worth_47 (by decide) ?_
        refine fs_weak (ls2 := [.ref 2, .int p0, .int p1, .int x5, .int 0]) (fz_le_e (fz_le_e (fz_le_e (fz_le_e (fz_le_e fz_le_n))))) ?_
        exact V_lp_X11_worth_49 hD    2048 H
      · replace H := H.2 (bi_0 hc)
        refine fs_ldc2 (idx := 236) (v := -1000000000000000) dd_X11_worth_21 cl_X11_236 ?_
        exact fs_lret dd_X11_worth_24 rfl H
theorem dd_X11_pairAt_0 : decode m_X11_pairAt.2.1 0 = .ok (.iload_n 1, 1) := by decide +kernel
theorem dd_X11_pairAt_1 : decode m_X11_pairAt.2.1 1 = .ok (.ifCond .lt 11, 3) := by decide +kernel
theorem dd_X11_pairAt_4 : decode m_X11_pairAt.2.1 4 = .ok (.iload_n 1, 1) := by decide +kernel
theorem dd_X11_pairAt_5 : decode m_X11_pairAt.2.1 5 = .ok (.iconst 1, 1) := by decide +kernel
theorem dd_X11_pairAt_6 : decode m_X11_pairAt.2.1 6 = .ok (.iadd, 1) := by decide +kernel
theorem dd_X11_pairAt_7 : decode m_X11_pairAt.2.1 7 = .ok (.aload_n 0, 1) := by decide +kernel
theorem dd_X11_pairAt_8 : decode m_X11_pairAt.2.1 8 = .ok (.arraylength, 1) := by decide +kernel
theorem dd_X11_pairAt_9 : decode m_X11_pairAt.2.1 9 = .ok (.if_icmp .lt 7, 3) := by decide +kernel
theorem dd_X11_pairAt_12 : decode m_X11_pairAt.2.1 12 = .ok (.iconst 0, 1) := by decide +kernel
theorem dd_X11_pairAt_13 : decode m_X11_pairAt.2.1 13 = .ok (.goto 16, 3) := by decide +kernel
theorem dd_X11_pairAt_16 : decode m_X11_pairAt.2.1 16 = .ok (.aload_n 0, 1) := by decide +kernel
theorem dd_X11_pairAt_17 : decode m_X11_pairAt.2.1 17 = .ok (.iload_n 1, 1) := by decide +kernel
theorem dd_X11_pairAt_18 : decode m_X11_pairAt.2.1 18 = .ok (.iaload, 1) := by decide +kernel
theorem dd_X11_pairAt_19 : decode m_X11_pairAt.2.1 19 = .ok (.sipush 256, 3) := by decide +kernel
theorem dd_X11_pairAt_22 : decode m_X11_pairAt.2.1 22 = .ok (.imul, 1) := by decide +kernel
theorem dd_X11_pairAt_23 : decode m_X11_pairAt.2.1 23 = .ok (.aload_n 0, 1) := by decide +kernel
theorem dd_X11_pairAt_24 : decode m_X11_pairAt.2.1 24 = .ok (.iload_n 1, 1) := by decide +kernel
theorem dd_X11_pairAt_25 : decode m_X11_pairAt.2.1 25 = .ok (.iconst 1, 1) := by decide +kernel
theorem dd_X11_pairAt_26 : decode m_X11_pairAt.2.1 26 = .ok (.iadd, 1) := by decide +kernel
theorem dd_X11_pairAt_27 : decode m_X11_pairAt.2.1 27 = .ok (.iaload, 1) := by decide +kernel
theorem dd_X11_pairAt_28 : decode m_X11_pairAt.2.1 28 = .ok (.iadd, 1) := by decide +kernel
theorem dd_X11_pairAt_29 : decode m_X11_pairAt.2.1 29 = .ok (.ireturn, 1) := by decide +kernel
def wp_X11_pairAt (a0 : Nat) (n0 : Nat) (p1 : Int32) (s : fz_s) (Q : Int32 → fz_s → Prop) : Prop :=
  ((p1 < 0 → Q 0 s) ∧ (¬ p1 < 0 → (((p1 + 1) < (nI n0) → vp_in p1 n0 ∧ vp_in (p1 + 1) n0 ∧ Q (((s.1 a0 p1.toNatClampNeg) * 256) + (s.1 a0 (p1 + 1).toNatClampNeg)) s) ∧ (¬ (p1 + 1) < (nI n0) → Q 0 s))))
set_option maxRecDepth 100000 in
set_option maxHeartbeats 4000000 in
theorem V_X11_pairAt {g : fz_G} {l : Launch} {d : Nat} (hD : 0 ≤ d) {a0 : Nat} {n0 : Nat} {p1 : Int32} (ha0 : fz_at true a0 14 n0) {s : fz_s} {Q : Int32 → fz_s → Prop} (H : wp_X11_pairAt a0 n0 p1 s Q) : fs_V g l m_X11_pairAt d true 0 (fz_en [.ref a0, .int p1] 2) [] s (rI Q) := by
  unfold wp_X11_pairAt at H
  refine fs_iload_n (k0 := 1) (i := 1) dd_X11_pairAt_0 rfl rfl ?_
  refine fs_if_lt (tgt := 12) dd_X11_pairAt_1 (by decide) (fun hc => ?_) (fun hc => ?_)
  · replace H := H.1 hc
    refine fs_iconst (n := 0) (v := 0) dd_X11_pairAt_12 (by decide) ?_
    refine fs_goto (tgt := 29) dd_X11_pairAt_13 (by decide) ?_
    exact fs_iret dd_X11_pairAt_29 rfl H
  · replace H := H.2 hc
    refine fs_iload_n (k0 := 1) (i := 1) dd_X11_pairAt_4 rfl rfl ?_
    refine fs_iconst (n := 1) (v := 1) dd_X11_pairAt_5 (by decide) ?_
    refine fs_iadd dd_X11_pairAt_6 ?_
    refine fs_aload_n (k0 := 0) (i := 0) dd_X11_pairAt_7 rfl rfl ?_
    refine fs_alen dd_X11_pairAt_8 ha0 ?_
    refine fs_icmp_lt (tgt := 16) dd_X11_pairAt_9 (by decide) (fun hc => ?_) (fun hc => ?_)
    · replace H := H.1 hc
      refine fs_aload_n (k0 := 0) (i := 0) dd_X11_pairAt_16 rfl rfl ?_
      refine fs_iload_n (k0 := 1) (i := 1) dd_X11_pairAt_17 rfl rfl ?_
      have hb := H.1
      replace H := H.2
      refine fs_iald dd_X11_pairAt_18 ha0 hb ?_
      refine fs_sipush (n := 256) (v := 256) dd_X11_pairAt_19 (by decide) ?_
      refine fs_imul dd_X11_pairAt_22 ?_
      refine fs_aload_n (k0 := 0) (i := 0) dd_X11_pairAt_23 rfl rfl ?_
      refine fs_iload_n (k0 := 1) (i := 1) dd_X11_pairAt_24 rfl rfl ?_
      refine fs_iconst (n := 1) (v := 1) dd_X11_pairAt_25 (by decide) ?_
      refine fs_iadd dd_X11_pairAt_26 ?_
      have hb := H.1
      replace H := H.2
      refine fs_iald dd_X11_pairAt_27 ha0 hb ?_
      refine fs_iadd dd_X11_pairAt_28 ?_
      exact fs_iret dd_X11_pairAt_29 rfl H
    · replace H := H.2 hc
      refine fs_iconst (n := 0) (v := 0) dd_X11_pairAt_12 (by decide) ?_
      refine fs_goto (tgt := 29) dd_X11_pairAt_13 (by decide) ?_
      exact fs_iret dd_X11_pairAt_29 rfl H
theorem dd_X6_look_0 : decode m_X6_look.2.1 0 = .ok (.iload_n 2, 1) := by decide +kernel
theorem dd_X6_look_1 : decode m_X6_look.2.1 1 = .ok (.iconst 4, 1) := by decide +kernel
theorem dd_X6_look_2 : decode m_X6_look.2.1 2 = .ok (.if_icmp .lt 18, 3) := by decide +kernel
theorem dd_X6_look_5 : decode m_X6_look.2.1 5 = .ok (.iload_n 2, 1) := by decide +kernel
theorem dd_X6_look_6 : decode m_X6_look.2.1 6 = .ok (.aload_n 0, 1) := by decide +kernel
theorem dd_X6_look_7 : decode m_X6_look.2.1 7 = .ok (.getfield 18, 3) := by decide +kernel
theorem dd_X6_look_10 : decode m_X6_look.2.1 10 = .ok (.arraylength, 1) := by decide +kernel
theorem dd_X6_look_11 : decode m_X6_look.2.1 11 = .ok (.if_icmp .gt 9, 3) := by decide +kernel
theorem dd_X6_look_14 : decode m_X6_look.2.1 14 = .ok (.iload_n 2, 1) := by decide +kernel
theorem dd_X6_look_15 : decode m_X6_look.2.1 15 = .ok (.iconst 4, 1) := by decide +kernel
theorem dd_X6_look_16 : decode m_X6_look.2.1 16 = .ok (.irem, 1) := by decide +kernel
theorem dd_X6_look_17 : decode m_X6_look.2.1 17 = .ok (.ifCond .eq 5, 3) := by decide +kernel
theorem dd_X6_look_20 : decode m_X6_look.2.1 20 = .ok (.iconst 0, 1) := by decide +kernel
theorem dd_X6_look_21 : decode m_X6_look.2.1 21 = .ok (.ireturn, 1) := by decide +kernel
theorem dd_X6_look_22 : decode m_X6_look.2.1 22 = .ok (.iconst 0, 1) := by decide +kernel
theorem dd_X6_look_23 : decode m_X6_look.2.1 23 = .ok (.istore_n 3, 1) := by decide +kernel
theorem dd_X6_look_24 : decode m_X6_look.2.1 24 = .ok (.iload_n 3, 1) := by decide +kernel
theorem dd_X6_look_25 : decode m_X6_look.2.1 25 = .ok (.iload_n 2, 1) := by decide +kernel
theorem dd_X6_look_26 : decode m_X6_look.2.1 26 = .ok (.if_icmp .ge 41, 3) := by decide +kernel
theorem dd_X6_look_29 : decode m_X6_look.2.1 29 = .ok (.aload_n 1, 1) := by decide +kernel
theorem dd_X6_look_30 : decode m_X6_look.2.1 30 = .ok (.iload_n 3, 1) := by decide +kernel
theorem dd_X6_look_31 : decode m_X6_look.2.1 31 = .ok (.iaload, 1) := by decide +kernel
theorem dd_X6_look_32 : decode m_X6_look.2.1 32 = .ok (.bipush 30, 2) := by decide +kernel
theorem dd_X6_look_34 : decode m_X6_look.2.1 34 = .ok (.if_icmp .gt 25, 3) := by decide +kernel
theorem dd_X6_look_37 : decode m_X6_look.2.1 37 = .ok (.aload_n 1, 1) := by decide +kernel
theorem dd_X6_look_38 : decode m_X6_look.2.1 38 = .ok (.iload_n 3, 1) := by decide +kernel
theorem dd_X6_look_39 : decode m_X6_look.2.1 39 = .ok (.iconst 1, 1) := by decide +kernel
theorem dd_X6_look_40 : decode m_X6_look.2.1 40 = .ok (.iadd, 1) := by decide +kernel
theorem dd_X6_look_41 : decode m_X6_look.2.1 41 = .ok (.iaload, 1) := by decide +kernel
theorem dd_X6_look_42 : decode m_X6_look.2.1 42 = .ok (.iconst 2, 1) := by decide +kernel
theorem dd_X6_look_43 : decode m_X6_look.2.1 43 = .ok (.if_icmp .ge 16, 3) := by decide +kernel
theorem dd_X6_look_46 : decode m_X6_look.2.1 46 = .ok (.aload_n 1, 1) := by decide +kernel
theorem dd_X6_look_47 : decode m_X6_look.2.1 47 = .ok (.iload_n 3, 1) := by decide +kernel
theorem dd_X6_look_48 : decode m_X6_look.2.1 48 = .ok (.iconst 2, 1) := by decide +kernel
theorem dd_X6_look_49 : decode m_X6_look.2.1 49 = .ok (.iadd, 1) := by decide +kernel
theorem dd_X6_look_50 : decode m_X6_look.2.1 50 = .ok (.invokestatic 36, 3) := by decide +kernel
theorem dd_X6_look_53 : decode m_X6_look.2.1 53 = .ok (.sipush 999, 3) := by decide +kernel
theorem dd_X6_look_56 : decode m_X6_look.2.1 56 = .ok (.if_icmp .le 5, 3) := by decide +kernel
theorem dd_X6_look_59 : decode m_X6_look.2.1 59 = .ok (.iconst 0, 1) := by decide +kernel
theorem dd_X6_look_60 : decode m_X6_look.2.1 60 = .ok (.ireturn, 1) := by decide +kernel
theorem dd_X6_look_61 : decode m_X6_look.2.1 61 = .ok (.iinc 3 4, 3) := by decide +kernel
theorem dd_X6_look_64 : decode m_X6_look.2.1 64 = .ok (.goto (-40), 3) := by decide +kernel
theorem dd_X6_look_67 : decode m_X6_look.2.1 67 = .ok (.aload_n 1, 1) := by decide +kernel
theorem dd_X6_look_68 : decode m_X6_look.2.1 68 = .ok (.iconst 0, 1) := by decide +kernel
theorem dd_X6_look_69 : decode m_X6_look.2.1 69 = .ok (.aload_n 0, 1) := by decide +kernel
theorem dd_X6_look_70 : decode m_X6_look.2.1 70 = .ok (.getfield 18, 3) := by decide +kernel
theorem dd_X6_look_73 : decode m_X6_look.2.1 73 = .ok (.iconst 0, 1) := by decide +kernel
theorem dd_X6_look_74 : decode m_X6_look.2.1 74 = .ok (.iload_n 2, 1) := by decide +kernel
theorem dd_X6_look_75 : decode m_X6_look.2.1 75 = .ok (.invokestatic 40, 3) := by decide +kernel
theorem dd_X6_look_78 : decode m_X6_look.2.1 78 = .ok (.aload_n 0, 1) := by decide +kernel
theorem dd_X6_look_79 : decode m_X6_look.2.1 79 = .ok (.iload_n 2, 1) := by decide +kernel
theorem dd_X6_look_80 : decode m_X6_look.2.1 80 = .ok (.iconst 4, 1) := by decide +kernel
theorem dd_X6_look_81 : decode m_X6_look.2.1 81 = .ok (.idiv, 1) := by decide +kernel
theorem dd_X6_look_82 : decode m_X6_look.2.1 82 = .ok (.putfield 32, 3) := by decide +kernel
theorem dd_X6_look_85 : decode m_X6_look.2.1 85 = .ok (.iconst 1, 1) := by decide +kernel
theorem dd_X6_look_86 : decode m_X6_look.2.1 86 = .ok (.ireturn, 1) := by decide +kernel
def nd_X6_look_24 (a0 : Nat) (n0 : Nat) (K24 : Int32 → Int32 → fz_s → Prop) (Q : Bool → fz_s → Prop) (v2 : Int32) (v3 : Int32) (s : fz_s) : Prop :=
  ((v2 ≤ v3 → (¬ v2 < 0) ∧ ((0 : Int32).toNatClampNeg + v2.toNatClampNeg ≤ n0) ∧ ((0 : Int32).toNatClampNeg + v2.toNatClampNeg ≤ 64) ∧ ∀ s4 : fz_s, s4 = sa s 191 (va_cpy (s.1 a0) (s.1 191) (0 : Int32).toNatClampNeg (0 : Int32).toNatClampNeg v2.toNatClampNeg) → ∀ s5 : fz_s, s5 = si s4 184 5 (v2 / 4) → Q true s5) ∧ (¬ v2 ≤ v3 → vp_in v3 n0 ∧ ((30 < (s.1 a0 v3.toNatClampNeg) → Q false s) ∧ (¬ 30 < (s.1 a0 v3.toNatClampNeg) → vp_in (v3 + 1) n0 ∧ ((2 ≤ (s.1 a0 (v3 + 1).toNatClampNeg) → Q false s) ∧ (¬ 2 ≤ (s.1 a0 (v3 + 1).toNatClampNeg) → wp_X11_pairAt a0 n0 (v3 + 2) s (fun r6 s7 => ((r6 ≤ 999 → ∀ x8 : Int32, x8 = v3 + 4 → K24 v2 x8 s7) ∧ (¬ r6 ≤ 999 → Q false s7)))))))))
def lp_X6_look_24 (a0 : Nat) (n0 : Nat)  (Q : Bool → fz_s → Prop) : Nat → Int32 → Int32 → fz_s → Prop
  | 0 => fun _ _ _ => False
  | n + 1 => nd_X6_look_24 a0 n0 (lp_X6_look_24 a0 n0  Q n) Q
def wp_X6_look (a0 : Nat) (n0 : Nat) (p1 : Int32) (s : fz_s) (Q : Bool → fz_s → Prop) : Prop :=
  ((p1 < 4 → Q false s) ∧ (¬ p1 < 4 → (((nI 64) < p1 → Q false s) ∧ (¬ (nI 64) < p1 → (((p1 - p1 / 4 * 4) = 0 → lp_X6_look_24 a0 n0  Q 2048 p1 0 s) ∧ (¬ (p1 - p1 / 4 * 4) = 0 → Q false s))))))
set_option maxRecDepth 100000 in
set_option maxHeartbeats 4000000 in
theorem V_nd_X6_look_24 {g : fz_G} {l : Launch} {d : Nat} (hD : 1 ≤ d) {a0 : Nat} {n0 : Nat} (ha0 : fz_at true a0 14 n0) {K24 : Int32 → Int32 → fz_s → Prop} {Q : Bool → fz_s → Prop} {v2 : Int32} {v3 : Int32} {s : fz_s} (hK24 : ∀ {v2 : Int32} {v3 : Int32} {s : fz_s}, K24 v2 v3 s → fs_V g l m_X6_look d true 24 [.ref 184, .ref a0, .int v2, .int v3] [] s (rZ Q)) (H : nd_X6_look_24 a0 n0 K24 Q v2 v3 s) : fs_V g l m_X6_look d true 24 [.ref 184, .ref a0, .int v2, .int v3] [] s (rZ Q) := by
  obtain ⟨d, rfl⟩ : ∃ e, d = e + 1 := ⟨d - 1, by omega⟩
  unfold nd_X6_look_24 at H
  refine fs_iload_n (k0 := 3) (i := 3) dd_X6_look_24 rfl rfl ?_
  refine fs_iload_n (k0 := 2) (i := 2) dd_X6_look_25 rfl rfl ?_
  refine fs_icmp_ge (tgt := 67) dd_X6_look_26 (by decide) (fun hc => ?_) (fun hc => ?_)
  · replace H := H.1 hc
    refine fs_aload_n (k0 := 1) (i := 1) dd_X6_look_67 rfl rfl ?_
    refine fs_iconst (n := 0) (v := 0) dd_X6_look_68 (by decide) ?_
    refine fs_aload_n (k0 := 0) (i := 0) dd_X6_look_69 rfl rfl ?_
    refine fs_getr (ci := 6) (j := 2) (q := 191) dd_X6_look_70 fl_X6_18 ca_184 rfl (Or.inr ⟨_, rfl⟩) rfl (by decide) ?_
    refine fs_iconst (n := 0) (v := 0) dd_X6_look_73 (by decide) ?_
    refine fs_iload_n (k0 := 2) (i := 2) dd_X6_look_74 rfl rfl ?_
    have hc1 := H.1
    replace H := H.2
    have hc2 := H.1
    replace H := H.2
    have hc3 := H.1
    replace H := H.2
    refine fs_copy dd_X6_look_75 lk_X6_40 ha0 ca_191 (by decide) (by decide) hc1 hc2 hc3 (Nat.le_of_ble_eq_true rfl) ?_
    refine fs_tops (fun s4 hs4 => ?_)
    replace H := H s4 hs4
    refine fs_aload_n (k0 := 0) (i := 0) dd_X6_look_78 rfl rfl ?_
    refine fs_iload_n (k0 := 2) (i := 2) dd_X6_look_79 rfl rfl ?_
    refine fs_iconst (n := 4) (v := 4) dd_X6_look_80 (by decide) ?_
    refine fs_idiv dd_X6_look_81 (by decide) ?_
    refine fs_puti (ci := 6) (j := 5) dd_X6_look_82 fl_X6_32 (fun _ _ _ h => by cases h; rfl) ca_184 rfl (Or.inl rfl) ?_
    refine fs_tops (fun s5 hs5 => ?_)
    replace H := H s5 hs5
    refine fs_iconst (n := 1) (v := 1) dd_X6_look_85 (by decide) ?_
    exact fs_zret true dd_X6_look_86 rfl rfl H
  · replace H := H.2 hc
    refine fs_aload_n (k0 := 1) (i := 1) dd_X6_look_29 rfl rfl ?_
    refine fs_iload_n (k0 := 3) (i := 3) dd_X6_look_30 rfl rfl ?_
    have hb := H.1
    replace H := H.2
    refine fs_iald dd_X6_look_31 ha0 hb ?_
    refine fs_bipush (n := 30) (v := 30) dd_X6_look_32 (by decide) ?_
    refine fs_icmp_gt (tgt := 59) dd_X6_look_34 (by decide) (fun hc => ?_) (fun hc => ?_)
    · replace H := H.1 hc
      refine fs_iconst (n := 0) (v := 0) dd_X6_look_59 (by decide) ?_
      exact fs_zret false dd_X6_look_60 rfl rfl H
    · replace H := H.2 hc
      refine fs_aload_n (k0 := 1) (i := 1) dd_X6_look_37 rfl rfl ?_
      refine fs_iload_n (k0 := 3) (i := 3) dd_X6_look_38 rfl rfl ?_
      refine fs_iconst (n := 1) (v := 1) dd_X6_look_39 (by decide) ?_
      refine fs_iadd dd_X6_look_40 ?_
      have hb := H.1
      replace H := H.2
      refine fs_iald dd_X6_look_41 ha0 hb ?_
      refine fs_iconst (n := 2) (v := 2) dd_X6_look_42 (by decide) ?_
      refine fs_icmp_ge (tgt := 59) dd_X6_look_43 (by decide) (fun hc => ?_) (fun hc => ?_)
      · replace H := H.1 hc
        refine fs_iconst (n := 0) (v := 0) dd_X6_look_59 (by decide) ?_
        exact fs_zret false dd_X6_look_60 rfl rfl H
      · replace H := H.2 hc
        refine fs_aload_n (k0 := 1) (i := 1) dd_X6_look_46 rfl rfl ?_
        refine fs_iload_n (k0 := 3) (i := 3) dd_X6_look_47 rfl rfl ?_
        refine fs_iconst (n := 2) (v := 2) dd_X6_look_48 (by decide) ?_
        refine fs_iadd dd_X6_look_49 ?_
        refine fs_callS (y := m_X11_pairAt) (as := [.ref a0, .int (v3 + 2)]) dd_X6_look_50 me_X11_pairAt (Or.inr ⟨_, ln_X6_36⟩) st_X11_pairAt rfl (Nat.le_of_ble_eq_true rfl) (Nat.le_of_ble_eq_true rfl) rfl (V_X11_pairAt (by omega) ha0 H) (k2_I fun r6 s7 H => ?_)
        refine fs_sipush (n := 999) (v := 999) dd_X6_look_53 (by decide) ?_
        refine fs_icmp_le (tgt := 61) dd_X6_look_56 (by decide) (fun hc => ?_) (fun hc => ?_)
        · replace H := H.1 hc
          refine fs_iincN (i := 3) (m := 4) (c := 4) dd_X6_look_61 rfl (by decide) (by decide) (fun x8 hx8 => ?_)
          replace H := H x8 hx8
          refine fs_goto (tgt := 24) dd_X6_look_64 (by decide) ?_
          refine fs_weak (ls2 := [.ref 184, .ref a0, .int v2, .int x8]) (fz_le_e (fz_le_e (fz_le_e (fz_le_e fz_le_n)))) ?_
          exact hK24 H
        · replace H := H.2 hc
          refine fs_iconst (n := 0) (v := 0) dd_X6_look_59 (by decide) ?_
          exact fs_zret false dd_X6_look_60 rfl rfl H
set_option maxRecDepth 100000 in
set_option maxHeartbeats 4000000 in
theorem V_lp_X6_look_24 {g : fz_G} {l : Launch} {d : Nat} (hD : 1 ≤ d) {a0 : Nat} {n0 : Nat} (ha0 : fz_at true a0 14 n0)  {Q : Bool → fz_s → Prop}  (n : Nat) : ∀ {v2 : Int32} {v3 : Int32} {s : fz_s}, lp_X6_look_24 a0 n0  Q n v2 v3 s → fs_V g l m_X6_look d true 24 [.ref 184, .ref a0, .int v2, .int v3] [] s (rZ Q) := by
  induction n with
  | zero => intro v2 v3 s H; exact H.elim
  | succ n ih => intro v2 v3 s H; exact V_nd_X6_look_24 hD ha0 (fun H => ih H) H
set_option maxRecDepth 100000 in
set_option maxHeartbeats 4000000 in
theorem V_X6_look {g : fz_G} {l : Launch} {d : Nat} (hD : 1 ≤ d) {a0 : Nat} {n0 : Nat} {p1 : Int32} (ha0 : fz_at true a0 14 n0) {s : fz_s} {Q : Bool → fz_s → Prop} (H : wp_X6_look a0 n0 p1 s Q) : fs_V g l m_X6_look d true 0 (fz_en [.ref 184, .ref a0, .int p1] 4) [] s (rZ Q) := by
  obtain ⟨d, rfl⟩ : ∃ e, d = e + 1 := ⟨d - 1, by omega⟩
  unfold wp_X6_look at H
  refine fs_iload_n (k0 := 2) (i := 2) dd_X6_look_0 rfl rfl ?_
  refine fs_iconst (n := 4) (v := 4) dd_X6_look_1 (by decide) ?_
  refine fs_icmp_lt (tgt := 20) dd_X6_look_2 (by decide) (fun hc => ?_) (fun hc => ?_)
  · replace H := H.1 hc
    refine fs_iconst (n := 0) (v := 0) dd_X6_look_20 (by decide) ?_
    exact fs_zret false dd_X6_look_21 rfl rfl H
  · replace H := H.2 hc
    refine fs_iload_n (k0 := 2) (i := 2) dd_X6_look_5 rfl rfl ?_
    refine fs_aload_n (k0 := 0) (i := 0) dd_X6_look_6 rfl rfl ?_
    refine fs_getr (ci := 6) (j := 2) (q := 191) dd_X6_look_7 fl_X6_18 ca_184 rfl (Or.inr ⟨_, rfl⟩) rfl (by decide) ?_
    refine fs_alen dd_X6_look_10 ca_191 ?_
    refine fs_icmp_gt (tgt := 20) dd_X6_look_11 (by decide) (fun hc => ?_) (fun hc => ?_)
    · replace H := H.1 hc
      refine fs_iconst (n := 0) (v := 0) dd_X6_look_20 (by decide) ?_
      exact fs_zret false dd_X6_look_21 rfl rfl H
    · replace H := H.2 hc
      refine fs_iload_n (k0 := 2) (i := 2) dd_X6_look_14 rfl rfl ?_
      refine fs_iconst (n := 4) (v := 4) dd_X6_look_15 (by decide) ?_
      refine fs_irem dd_X6_look_16 (by decide) ?_
      refine fs_if_eq (tgt := 22) dd_X6_look_17 (by decide) (fun hc => ?_) (fun hc => ?_)
      · replace H := H.1 hc
        refine fs_iconst (n := 0) (v := 0) dd_X6_look_22 (by decide) ?_
        refine fs_istore_n (k0 := 3) (i := 3) dd_X6_look_23 rfl (by decide) ?_
        refine fs_weak (ls2 := [.ref 184, .ref a0, .int p1, .int 0]) (fz_le_e (fz_le_e (fz_le_e (fz_le_e fz_le_n)))) ?_
        exact V_lp_X6_look_24 hD  ha0  2048 H
      · replace H := H.2 hc
        refine fs_iconst (n := 0) (v := 0) dd_X6_look_20 (by decide) ?_
        exact fs_zret false dd_X6_look_21 rfl rfl H
theorem dd_X11_see_0 : decode m_X11_see.2.1 0 = .ok (.aload_n 0, 1) := by decide +kernel
theorem dd_X11_see_1 : decode m_X11_see.2.1 1 = .ok (.getfield 115, 3) := by decide +kernel
theorem dd_X11_see_4 : decode m_X11_see.2.1 4 = .ok (.istore_n 1, 1) := by decide +kernel
theorem dd_X11_see_5 : decode m_X11_see.2.1 5 = .ok (.aload_n 0, 1) := by decide +kernel
theorem dd_X11_see_6 : decode m_X11_see.2.1 6 = .ok (.iconst 0, 1) := by decide +kernel
theorem dd_X11_see_7 : decode m_X11_see.2.1 7 = .ok (.putfield 115, 3) := by decide +kernel
theorem dd_X11_see_10 : decode m_X11_see.2.1 10 = .ok (.aload_n 0, 1) := by decide +kernel
theorem dd_X11_see_11 : decode m_X11_see.2.1 11 = .ok (.invokevirtual 265, 3) := by decide +kernel
theorem dd_X11_see_14 : decode m_X11_see.2.1 14 = .ok (.ifCond .ne 18, 3) := by decide +kernel
theorem dd_X11_see_17 : decode m_X11_see.2.1 17 = .ok (.aload_n 0, 1) := by decide +kernel
theorem dd_X11_see_18 : decode m_X11_see.2.1 18 = .ok (.getfield 98, 3) := by decide +kernel
theorem dd_X11_see_21 : decode m_X11_see.2.1 21 = .ok (.aload_n 0, 1) := by decide +kernel
theorem dd_X11_see_22 : decode m_X11_see.2.1 22 = .ok (.getfield 9, 3) := by decide +kernel
theorem dd_X11_see_25 : decode m_X11_see.2.1 25 = .ok (.iload_n 1, 1) := by decide +kernel
theorem dd_X11_see_26 : decode m_X11_see.2.1 26 = .ok (.invokevirtual 298, 3) := by decide +kernel
theorem dd_X11_see_29 : decode m_X11_see.2.1 29 = .ok (.ifCond .ne 9, 3) := by decide +kernel
theorem dd_X11_see_32 : decode m_X11_see.2.1 32 = .ok (.aload_n 0, 1) := by decide +kernel
theorem dd_X11_see_33 : decode m_X11_see.2.1 33 = .ok (.iconst 1, 1) := by decide +kernel
theorem dd_X11_see_34 : decode m_X11_see.2.1 34 = .ok (.invokevirtual 118, 3) := by decide +kernel
theorem dd_X11_see_37 : decode m_X11_see.2.1 37 = .ok (.ireturn, 1) := by decide +kernel
theorem dd_X11_see_38 : decode m_X11_see.2.1 38 = .ok (.aload_n 0, 1) := by decide +kernel
theorem dd_X11_see_39 : decode m_X11_see.2.1 39 = .ok (.getfield 98, 3) := by decide +kernel
theorem dd_X11_see_42 : decode m_X11_see.2.1 42 = .ok (.getfield 178, 3) := by decide +kernel
theorem dd_X11_see_45 : decode m_X11_see.2.1 45 = .ok (.ireturn, 1) := by decide +kernel
def nd_X11_see_32   (Q : Int32 → fz_s → Prop)  (s : fz_s) : Prop :=
  wp_X11_refuse 1 s (fun r1 s2 => Q r1 s2)
def wp_X11_see  (s : fz_s) (Q : Int32 → fz_s → Prop) : Prop :=
  ∀ x1 : Int32, x1 = (s.1 2 1) → ∀ s2 : fz_s, s2 = si s 2 1 0 → wp_X11_noTreaty  s2 (fun r3 s4 => ((r3 = true → nd_X11_see_32   Q  s4) ∧ (r3 = false → wp_X6_look 3 1600 x1 s4 (fun r5 s6 => ((r5 = true → Q (s6.1 184 5) s6) ∧ (r5 = false → nd_X11_see_32   Q  s6))))))
set_option maxRecDepth 100000 in
set_option maxHeartbeats 4000000 in
theorem V_nd_X11_see_32 {g : fz_G} {l : Launch} {d : Nat} (hD : 2 ≤ d)    {Q : Int32 → fz_s → Prop}  {s : fz_s}  (H : nd_X11_see_32   Q  s) : fs_V g l m_X11_see d true 32 [.ref 2, fz_J] [] s (rI Q) := by
  obtain ⟨d, rfl⟩ : ∃ e, d = e + 1 := ⟨d - 1, by omega⟩
  unfold nd_X11_see_32 at H
  refine fs_aload_n (k0 := 0) (i := 0) dd_X11_see_32 rfl rfl ?_
  refine fs_iconst (n := 1) (v := 1) dd_X11_see_33 (by decide) ?_
  refine fs_callV (y := m_X11_refuse) (as := [.int 1]) dd_X11_see_34 me_X11_refuse lk_X11_118 in_X11_refuse se_X11_refuse ca_2 rfl rfl rfl (Nat.le_of_ble_eq_true rfl) (Nat.le_of_ble_eq_true rfl) rfl (V_X11_refuse (by omega)  H) (k2_I fun r1 s2 H => ?_)
  exact fs_iret dd_X11_see_37 rfl H
set_option maxRecDepth 100000 in
set_option maxHeartbeats 4000000 in
theorem V_X11_see {g : fz_G} {l : Launch} {d : Nat} (hD : 2 ≤ d)   {s : fz_s} {Q : Int32 → fz_s → Prop} (H : wp_X11_see  s Q) : fs_V g l m_X11_see d true 0 (fz_en [.ref 2] 2) [] s (rI Q) := by
  obtain ⟨d, rfl⟩ : ∃ e, d = e + 1 := ⟨d - 1, by omega⟩
  unfold wp_X11_see at H
  refine fs_aload_n (k0 := 0) (i := 0) dd_X11_see_0 rfl rfl ?_
  refine fs_geti (ci := 11) (j := 1) dd_X11_see_1 fl_X11_115 ca_2 rfl (Or.inl rfl) ?_
  refine fs_topi (fun x1 hx1 => ?_)
  replace H := H x1 hx1
  refine fs_istore_n (k0 := 1) (i := 1) dd_X11_see_4 rfl (by decide) ?_
  refine fs_aload_n (k0 := 0) (i := 0) dd_X11_see_5 rfl rfl ?_
  refine fs_iconst (n := 0) (v := 0) dd_X11_see_6 (by decide) ?_
  refine fs_puti (ci := 11) (j := 1) dd_X11_see_7 fl_X11_115 (fun _ _ _ h => by cases h; rfl) ca_2 rfl (Or.inl rfl) ?_
  refine fs_tops (fun s2 hs2 => ?_)
  replace H := H s2 hs2
  refine fs_aload_n (k0 := 0) (i := 0) dd_X11_see_10 rfl rfl ?_
  refine fs_callV (y := m_X11_noTreaty) (as := []) dd_X11_see_11 me_X11_noTreaty lk_X11_265 in_X11_noTreaty se_X11_noTreaty ca_2 rfl rfl rfl (Nat.le_of_ble_eq_true rfl) (Nat.le_of_ble_eq_true rfl) rfl (V_X11_noTreaty (by omega)  H) (k2_Z fun r3 s4 H => ?_)
  refine fs_if_ne (tgt := 32) dd_X11_see_14 (by decide) (fun hc => ?_) (fun hc => ?_)
  · replace H := H.1 (bi_1 hc)
    refine fs_weak (ls2 := [.ref 2, fz_J]) (fz_le_e (fz_le_j fz_le_n)) ?_
    exact V_nd_X11_see_32 hD    H
  · replace H := H.2 (bi_0 hc)
    refine fs_aload_n (k0 := 0) (i := 0) dd_X11_see_17 rfl rfl ?_
    refine fs_getr (ci := 11) (j := 13) (q := 184) dd_X11_see_18 fl_X11_98 ca_2 rfl (Or.inl ⟨_, rfl⟩) rfl (by decide) ?_
    refine fs_aload_n (k0 := 0) (i := 0) dd_X11_see_21 rfl rfl ?_
    refine fs_getr (ci := 11) (j := 0) (q := 3) dd_X11_see_22 fl_X11_9 ca_2 rfl (Or.inr ⟨_, rfl⟩) rfl (by decide) ?_
    refine fs_iload_n (k0 := 1) (i := 1) dd_X11_see_25 rfl rfl ?_
    refine fs_callV (y := m_X6_look) (as := [.ref 3, .int x1]) dd_X11_see_26 me_X6_look lk_X11_298 in_X6_look se_X6_look ca_184 rfl rfl rfl (Nat.le_of_ble_eq_true rfl) (Nat.le_of_ble_eq_true rfl) rfl (V_X6_look (by omega) ca_3 H) (k2_Z fun r5 s6 H => ?_)
    refine fs_if_ne (tgt := 38) dd_X11_see_29 (by decide) (fun hc => ?_) (fun hc => ?_)
    · replace H := H.1 (bi_1 hc)
      refine fs_aload_n (k0 := 0) (i := 0) dd_X11_see_38 rfl rfl ?_
      refine fs_getr (ci := 11) (j := 13) (q := 184) dd_X11_see_39 fl_X11_98 ca_2 rfl (Or.inl ⟨_, rfl⟩) rfl (by decide) ?_
      refine fs_geti (ci := 6) (j := 5) dd_X11_see_42 fl_X11_178 ca_184 rfl (Or.inl rfl) ?_
      exact fs_iret dd_X11_see_45 rfl H
    · replace H := H.2 (bi_0 hc)
      refine fs_weak (ls2 := [.ref 2, fz_J]) (fz_le_e (fz_le_j fz_le_n)) ?_
      exact V_nd_X11_see_32 hD    H
theorem dd_X6_farthestSeen_0 : decode m_X6_farthestSeen.2.1 0 = .ok (.iconst 0, 1) := by decide +kernel
theorem dd_X6_farthestSeen_1 : decode m_X6_farthestSeen.2.1 1 = .ok (.istore_n 1, 1) := by decide +kernel
theorem dd_X6_farthestSeen_2 : decode m_X6_farthestSeen.2.1 2 = .ok (.iconst 0, 1) := by decide +kernel
theorem dd_X6_farthestSeen_3 : decode m_X6_farthestSeen.2.1 3 = .ok (.istore_n 2, 1) := by decide +kernel
theorem dd_X6_farthestSeen_4 : decode m_X6_farthestSeen.2.1 4 = .ok (.iload_n 2, 1) := by decide +kernel
theorem dd_X6_farthestSeen_5 : decode m_X6_farthestSeen.2.1 5 = .ok (.aload_n 0, 1) := by decide +kernel
theorem dd_X6_farthestSeen_6 : decode m_X6_farthestSeen.2.1 6 = .ok (.getfield 32, 3) := by decide +kernel
theorem dd_X6_farthestSeen_9 : decode m_X6_farthestSeen.2.1 9 = .ok (.if_icmp .ge 22, 3) := by decide +kernel
theorem dd_X6_farthestSeen_12 : decode m_X6_farthestSeen.2.1 12 = .ok (.iload_n 1, 1) := by decide +kernel
theorem dd_X6_farthestSeen_13 : decode m_X6_farthestSeen.2.1 13 = .ok (.aload_n 0, 1) := by decide +kernel
theorem dd_X6_farthestSeen_14 : decode m_X6_farthestSeen.2.1 14 = .ok (.getfield 18, 3) := by decide +kernel
theorem dd_X6_farthestSeen_17 : decode m_X6_farthestSeen.2.1 17 = .ok (.iload_n 2, 1) := by decide +kernel
theorem dd_X6_farthestSeen_18 : decode m_X6_farthestSeen.2.1 18 = .ok (.iconst 4, 1) := by decide +kernel
theorem dd_X6_farthestSeen_19 : decode m_X6_farthestSeen.2.1 19 = .ok (.imul, 1) := by decide +kernel
theorem dd_X6_farthestSeen_20 : decode m_X6_farthestSeen.2.1 20 = .ok (.iaload, 1) := by decide +kernel
theorem dd_X6_farthestSeen_21 : decode m_X6_farthestSeen.2.1 21 = .ok (.invokestatic 46, 3) := by decide +kernel
theorem dd_X6_farthestSeen_24 : decode m_X6_farthestSeen.2.1 24 = .ok (.istore_n 1, 1) := by decide +kernel
theorem dd_X6_farthestSeen_25 : decode m_X6_farthestSeen.2.1 25 = .ok (.iinc 2 1, 3) := by decide +kernel
theorem dd_X6_farthestSeen_28 : decode m_X6_farthestSeen.2.1 28 = .ok (.goto (-24), 3) := by decide +kernel
theorem dd_X6_farthestSeen_31 : decode m_X6_farthestSeen.2.1 31 = .ok (.iload_n 1, 1) := by decide +kernel
theorem dd_X6_farthestSeen_32 : decode m_X6_farthestSeen.2.1 32 = .ok (.ireturn, 1) := by decide +kernel
def nd_X6_farthestSeen_4  (K4 : Int32 → Int32 → fz_s → Prop) (Q : Int32 → fz_s → Prop) (v1 : Int32) (v2 : Int32) (s : fz_s) : Prop :=
  (((s.1 184 5) ≤ v2 → Q v1 s) ∧ (¬ (s.1 184 5) ≤ v2 → vp_in (v2 * 4) 64 ∧ ∀ x1 : Int32, x1 = (if v1 < (s.1 191 (v2 * 4).toNatClampNeg) then (s.1 191 (v2 * 4).toNatClampNeg) else v1) → ∀ x2 : Int32, x2 = v2 + 1 → K4 x1 x2 s))
def lp_X6_farthestSeen_4   (Q : Int32 → fz_s → Prop) : Nat → Int32 → Int32 → fz_s → Prop
  | 0 => fun _ _ _ => False
  | n + 1 => nd_X6_farthestSeen_4  (lp_X6_farthestSeen_4   Q n) Q
def wp_X6_farthestSeen  (s : fz_s) (Q : Int32 → fz_s → Prop) : Prop :=
  lp_X6_farthestSeen_4   Q 2048 0 0 s
set_option maxRecDepth 100000 in
set_option maxHeartbeats 4000000 in
theorem V_nd_X6_farthestSeen_4 {g : fz_G} {l : Launch} {d : Nat} (hD : 1 ≤ d)   {K4 : Int32 → Int32 → fz_s → Prop} {Q : Int32 → fz_s → Prop} {v1 : Int32} {v2 : Int32} {s : fz_s} (hK4 : ∀ {v1 : Int32} {v2 : Int32} {s : fz_s}, K4 v1 v2 s → fs_V g l m_X6_farthestSeen d true 4 [.ref 184, .int v1, .int v2] [] s (rI Q)) (H : nd_X6_farthestSeen_4  K4 Q v1 v2 s) : fs_V g l m_X6_farthestSeen d true 4 [.ref 184, .int v1, .int v2] [] s (rI Q) := by
  obtain ⟨d, rfl⟩ : ∃ e, d = e + 1 := ⟨d - 1, by omega⟩
  unfold nd_X6_farthestSeen_4 at H
  refine fs_iload_n (k0 := 2) (i := 2) dd_X6_farthestSeen_4 rfl rfl ?_
  refine fs_aload_n (k0 := 0) (i := 0) dd_X6_farthestSeen_5 rfl rfl ?_
  refine fs_geti (ci := 6) (j := 5) dd_X6_farthestSeen_6 fl_X6_32 ca_184 rfl (Or.inl rfl) ?_
  refine fs_icmp_ge (tgt := 31) dd_X6_farthestSeen_9 (by decide) (fun hc => ?_) (fun hc => ?_)
  · replace H := H.1 hc
    refine fs_iload_n (k0 := 1) (i := 1) dd_X6_farthestSeen_31 rfl rfl ?_
    exact fs_iret dd_X6_farthestSeen_32 rfl H
  · replace H := H.2 hc
    refine fs_iload_n (k0 := 1) (i := 1) dd_X6_farthestSeen_12 rfl rfl ?_
    refine fs_aload_n (k0 := 0) (i := 0) dd_X6_farthestSeen_13 rfl rfl ?_
    refine fs_getr (ci := 6) (j := 2) (q := 191) dd_X6_farthestSeen_14 fl_X6_18 ca_184 rfl (Or.inr ⟨_, rfl⟩) rfl (by decide) ?_
    refine fs_iload_n (k0 := 2) (i := 2) dd_X6_farthestSeen_17 rfl rfl ?_
    refine fs_iconst (n := 4) (v := 4) dd_X6_farthestSeen_18 (by decide) ?_
    refine fs_imul dd_X6_farthestSeen_19 ?_
    have hb := H.1
    replace H := H.2
    refine fs_iald dd_X6_farthestSeen_20 ca_191 hb ?_
    refine fs_mmax dd_X6_farthestSeen_21 lk_X6_46 (Nat.le_of_ble_eq_true rfl) ?_
    refine fs_topi (fun x1 hx1 => ?_)
    replace H := H x1 hx1
    refine fs_istore_n (k0 := 1) (i := 1) dd_X6_farthestSeen_24 rfl (by decide) ?_
    refine fs_iincN (i := 2) (m := 1) (c := 1) dd_X6_farthestSeen_25 rfl (by decide) (by decide) (fun x2 hx2 => ?_)
    replace H := H x2 hx2
    refine fs_goto (tgt := 4) dd_X6_farthestSeen_28 (by decide) ?_
    refine fs_weak (ls2 := [.ref 184, .int x1, .int x2]) (fz_le_e (fz_le_e (fz_le_e fz_le_n))) ?_
    exact hK4 H
set_option maxRecDepth 100000 in
set_option maxHeartbeats 4000000 in
theorem V_lp_X6_farthestSeen_4 {g : fz_G} {l : Launch} {d : Nat} (hD : 1 ≤ d)    {Q : Int32 → fz_s → Prop}  (n : Nat) : ∀ {v1 : Int32} {v2 : Int32} {s : fz_s}, lp_X6_farthestSeen_4   Q n v1 v2 s → fs_V g l m_X6_farthestSeen d true 4 [.ref 184, .int v1, .int v2] [] s (rI Q) := by
  induction n with
  | zero => intro v1 v2 s H; exact H.elim
  | succ n ih => intro v1 v2 s H; exact V_nd_X6_farthestSeen_4 hD  (fun H => ih H) H
set_option maxRecDepth 100000 in
set_option maxHeartbeats 4000000 in
theorem V_X6_farthestSeen {g : fz_G} {l : Launch} {d : Nat} (hD : 1 ≤ d)   {s : fz_s} {Q : Int32 → fz_s → Prop} (H : wp_X6_farthestSeen  s Q) : fs_V g l m_X6_farthestSeen d true 0 (fz_en [.ref 184] 3) [] s (rI Q) := by
  obtain ⟨d, rfl⟩ : ∃ e, d = e + 1 := ⟨d - 1, by omega⟩
  unfold wp_X6_farthestSeen at H
  refine fs_iconst (n := 0) (v := 0) dd_X6_farthestSeen_0 (by decide) ?_
  refine fs_istore_n (k0 := 1) (i := 1) dd_X6_farthestSeen_1 rfl (by decide) ?_
  refine fs_iconst (n := 0) (v := 0) dd_X6_farthestSeen_2 (by decide) ?_
  refine fs_istore_n (k0 := 2) (i := 2) dd_X6_farthestSeen_3 rfl (by decide) ?_
  refine fs_weak (ls2 := [.ref 184, .int 0, .int 0]) (fz_le_e (fz_le_e (fz_le_e fz_le_n))) ?_
  exact V_lp_X6_farthestSeen_4 hD    2048 H

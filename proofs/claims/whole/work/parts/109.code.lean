theorem dd_X12_isHere_0 : decode m_X12_isHere.2.1 0 = .ok (.aload_n 0, 1) := by decide +kernel
theorem dd_X12_isHere_1 : decode m_X12_isHere.2.1 1 = .ok (.getfield 252, 3) := by decide +kernel
theorem dd_X12_isHere_4 : decode m_X12_isHere.2.1 4 = .ok (.ifCond .ne 24, 3) := by decide +kernel
theorem dd_X12_isHere_7 : decode m_X12_isHere.2.1 7 = .ok (.aload_n 0, 1) := by decide +kernel
theorem dd_X12_isHere_8 : decode m_X12_isHere.2.1 8 = .ok (.invokevirtual 264, 3) := by decide +kernel
theorem dd_X12_isHere_11 : decode m_X12_isHere.2.1 11 = .ok (.invokestatic 268, 3) := by decide +kernel
theorem dd_X12_isHere_14 : decode m_X12_isHere.2.1 14 = .ok (.ifCond .eq 14, 3) := by decide +kernel
theorem dd_X12_isHere_17 : decode m_X12_isHere.2.1 17 = .ok (.aload_n 0, 1) := by decide +kernel
theorem dd_X12_isHere_18 : decode m_X12_isHere.2.1 18 = .ok (.getfield 258, 3) := by decide +kernel
theorem dd_X12_isHere_21 : decode m_X12_isHere.2.1 21 = .ok (.aload_n 0, 1) := by decide +kernel
theorem dd_X12_isHere_22 : decode m_X12_isHere.2.1 22 = .ok (.getfield 272, 3) := by decide +kernel
theorem dd_X12_isHere_25 : decode m_X12_isHere.2.1 25 = .ok (.if_icmp .ne 5, 3) := by decide +kernel
theorem dd_X12_isHere_28 : decode m_X12_isHere.2.1 28 = .ok (.iconst 0, 1) := by decide +kernel
theorem dd_X12_isHere_29 : decode m_X12_isHere.2.1 29 = .ok (.ireturn, 1) := by decide +kernel
theorem dd_X12_isHere_30 : decode m_X12_isHere.2.1 30 = .ok (.aload_n 0, 1) := by decide +kernel
theorem dd_X12_isHere_31 : decode m_X12_isHere.2.1 31 = .ok (.getfield 258, 3) := by decide +kernel
theorem dd_X12_isHere_34 : decode m_X12_isHere.2.1 34 = .ok (.istore_n 2, 1) := by decide +kernel
theorem dd_X12_isHere_35 : decode m_X12_isHere.2.1 35 = .ok (.iload_n 2, 1) := by decide +kernel
theorem dd_X12_isHere_36 : decode m_X12_isHere.2.1 36 = .ok (.aload_n 0, 1) := by decide +kernel
theorem dd_X12_isHere_37 : decode m_X12_isHere.2.1 37 = .ok (.getfield 261, 3) := by decide +kernel
theorem dd_X12_isHere_40 : decode m_X12_isHere.2.1 40 = .ok (.if_icmp .ge 21, 3) := by decide +kernel
theorem dd_X12_isHere_43 : decode m_X12_isHere.2.1 43 = .ok (.aload_n 0, 1) := by decide +kernel
theorem dd_X12_isHere_44 : decode m_X12_isHere.2.1 44 = .ok (.getfield 7, 3) := by decide +kernel
theorem dd_X12_isHere_47 : decode m_X12_isHere.2.1 47 = .ok (.iload_n 2, 1) := by decide +kernel
theorem dd_X12_isHere_48 : decode m_X12_isHere.2.1 48 = .ok (.iaload, 1) := by decide +kernel
theorem dd_X12_isHere_49 : decode m_X12_isHere.2.1 49 = .ok (.invokestatic 268, 3) := by decide +kernel
theorem dd_X12_isHere_52 : decode m_X12_isHere.2.1 52 = .ok (.ifCond .eq 9, 3) := by decide +kernel
theorem dd_X12_isHere_55 : decode m_X12_isHere.2.1 55 = .ok (.iinc 2 1, 3) := by decide +kernel
theorem dd_X12_isHere_58 : decode m_X12_isHere.2.1 58 = .ok (.goto (-23), 3) := by decide +kernel
theorem dd_X12_isHere_61 : decode m_X12_isHere.2.1 61 = .ok (.iload_n 2, 1) := by decide +kernel
theorem dd_X12_isHere_62 : decode m_X12_isHere.2.1 62 = .ok (.aload_n 0, 1) := by decide +kernel
theorem dd_X12_isHere_63 : decode m_X12_isHere.2.1 63 = .ok (.getfield 258, 3) := by decide +kernel
theorem dd_X12_isHere_66 : decode m_X12_isHere.2.1 66 = .ok (.isub, 1) := by decide +kernel
theorem dd_X12_isHere_67 : decode m_X12_isHere.2.1 67 = .ok (.aload_n 1, 1) := by decide +kernel
theorem dd_X12_isHere_68 : decode m_X12_isHere.2.1 68 = .ok (.arraylength, 1) := by decide +kernel
theorem dd_X12_isHere_69 : decode m_X12_isHere.2.1 69 = .ok (.if_icmp .eq 5, 3) := by decide +kernel
theorem dd_X12_isHere_72 : decode m_X12_isHere.2.1 72 = .ok (.iconst 0, 1) := by decide +kernel
theorem dd_X12_isHere_73 : decode m_X12_isHere.2.1 73 = .ok (.ireturn, 1) := by decide +kernel
theorem dd_X12_isHere_74 : decode m_X12_isHere.2.1 74 = .ok (.iconst 0, 1) := by decide +kernel
theorem dd_X12_isHere_75 : decode m_X12_isHere.2.1 75 = .ok (.istore_n 3, 1) := by decide +kernel
theorem dd_X12_isHere_76 : decode m_X12_isHere.2.1 76 = .ok (.iload_n 3, 1) := by decide +kernel
theorem dd_X12_isHere_77 : decode m_X12_isHere.2.1 77 = .ok (.aload_n 1, 1) := by decide +kernel
theorem dd_X12_isHere_78 : decode m_X12_isHere.2.1 78 = .ok (.arraylength, 1) := by decide +kernel
theorem dd_X12_isHere_79 : decode m_X12_isHere.2.1 79 = .ok (.if_icmp .ge 28, 3) := by decide +kernel
theorem dd_X12_isHere_82 : decode m_X12_isHere.2.1 82 = .ok (.aload_n 0, 1) := by decide +kernel
theorem dd_X12_isHere_83 : decode m_X12_isHere.2.1 83 = .ok (.getfield 7, 3) := by decide +kernel
theorem dd_X12_isHere_86 : decode m_X12_isHere.2.1 86 = .ok (.aload_n 0, 1) := by decide +kernel
theorem dd_X12_isHere_87 : decode m_X12_isHere.2.1 87 = .ok (.getfield 258, 3) := by decide +kernel
theorem dd_X12_isHere_90 : decode m_X12_isHere.2.1 90 = .ok (.iload_n 3, 1) := by decide +kernel
theorem dd_X12_isHere_91 : decode m_X12_isHere.2.1 91 = .ok (.iadd, 1) := by decide +kernel
theorem dd_X12_isHere_92 : decode m_X12_isHere.2.1 92 = .ok (.iaload, 1) := by decide +kernel
theorem dd_X12_isHere_93 : decode m_X12_isHere.2.1 93 = .ok (.aload_n 1, 1) := by decide +kernel
theorem dd_X12_isHere_94 : decode m_X12_isHere.2.1 94 = .ok (.iload_n 3, 1) := by decide +kernel
theorem dd_X12_isHere_95 : decode m_X12_isHere.2.1 95 = .ok (.caload, 1) := by decide +kernel
theorem dd_X12_isHere_96 : decode m_X12_isHere.2.1 96 = .ok (.if_icmp .eq 5, 3) := by decide +kernel
theorem dd_X12_isHere_99 : decode m_X12_isHere.2.1 99 = .ok (.iconst 0, 1) := by decide +kernel
theorem dd_X12_isHere_100 : decode m_X12_isHere.2.1 100 = .ok (.ireturn, 1) := by decide +kernel
theorem dd_X12_isHere_101 : decode m_X12_isHere.2.1 101 = .ok (.iinc 3 1, 3) := by decide +kernel
theorem dd_X12_isHere_104 : decode m_X12_isHere.2.1 104 = .ok (.goto (-28), 3) := by decide +kernel
theorem dd_X12_isHere_107 : decode m_X12_isHere.2.1 107 = .ok (.iconst 1, 1) := by decide +kernel
theorem dd_X12_isHere_108 : decode m_X12_isHere.2.1 108 = .ok (.ireturn, 1) := by decide +kernel
def nd_X12_isHere_76 (a0 : Nat) (n0 : Nat) (K76 : Int32 → fz_s → Prop) (Q : Bool → fz_s → Prop) (v3 : Int32) (s : fz_s) : Prop :=
  (((nI n0) ≤ v3 → Q true s) ∧ (¬ (nI n0) ≤ v3 → vp_in ((s.1 196 2) + v3) 1600 ∧ vp_in v3 n0 ∧ (((s.1 197 ((s.1 196 2) + v3).toNatClampNeg) = (s.1 a0 v3.toNatClampNeg) → ∀ x1 : Int32, x1 = v3 + 1 → K76 x1 s) ∧ (¬ (s.1 197 ((s.1 196 2) + v3).toNatClampNeg) = (s.1 a0 v3.toNatClampNeg) → Q false s))))
def lp_X12_isHere_76 (a0 : Nat) (n0 : Nat)  (Q : Bool → fz_s → Prop) : Nat → Int32 → fz_s → Prop
  | 0 => fun _ _ => False
  | n + 1 => nd_X12_isHere_76 a0 n0 (lp_X12_isHere_76 a0 n0  Q n) Q
def nd_X12_isHere_61 (a0 : Nat) (n0 : Nat)  (Q : Bool → fz_s → Prop) (v2 : Int32) (s : fz_s) : Prop :=
  (((v2 - (s.1 196 2)) = (nI n0) → lp_X12_isHere_76 a0 n0  Q 2048 0 s) ∧ (¬ (v2 - (s.1 196 2)) = (nI n0) → Q false s))
def nd_X12_isHere_35 (a0 : Nat) (n0 : Nat) (K35 : Int32 → fz_s → Prop) (Q : Bool → fz_s → Prop) (v2 : Int32) (s : fz_s) : Prop :=
  (((s.1 196 3) ≤ v2 → nd_X12_isHere_61 a0 n0  Q v2 s) ∧ (¬ (s.1 196 3) ≤ v2 → vp_in v2 1600 ∧ wp_X12_isLetter (s.1 197 v2.toNatClampNeg) s (fun r1 s2 => ((r1 = false → nd_X12_isHere_61 a0 n0  Q v2 s2) ∧ (r1 = true → ∀ x3 : Int32, x3 = v2 + 1 → K35 x3 s2)))))
def lp_X12_isHere_35 (a0 : Nat) (n0 : Nat)  (Q : Bool → fz_s → Prop) : Nat → Int32 → fz_s → Prop
  | 0 => fun _ _ => False
  | n + 1 => nd_X12_isHere_35 a0 n0 (lp_X12_isHere_35 a0 n0  Q n) Q
def wp_X12_isHere (a0 : Nat) (n0 : Nat) (s : fz_s) (Q : Bool → fz_s → Prop) : Prop :=
  ((¬ (s.1 196 5) = 0 → Q false s) ∧ ((s.1 196 5) = 0 → wp_X12_look  s (fun r1 s2 => wp_X12_isLetter r1 s2 (fun r3 s4 => ((r3 = false → Q false s4) ∧ (r3 = true → ((¬ (s4.1 196 2) = (s4.1 196 4) → ∀ x5 : Int32, x5 = (s4.1 196 2) → lp_X12_isHere_35 a0 n0  Q 2048 x5 s4) ∧ ((s4.1 196 2) = (s4.1 196 4) → Q false s4))))))))
set_option maxRecDepth 100000 in
set_option maxHeartbeats 4000000 in
theorem V_nd_X12_isHere_76 {g : fz_G} {l : Launch} {d : Nat} (hD : 1 ≤ d) {a0 : Nat} {n0 : Nat} (ha0 : fz_at false a0 13 n0) {K76 : Int32 → fz_s → Prop} {Q : Bool → fz_s → Prop} {v3 : Int32} {s : fz_s} (hK76 : ∀ {v3 : Int32} {s : fz_s}, K76 v3 s → fs_V g l m_X12_isHere d false 76 [.ref 196, .ref a0, fz_J, .int v3] [] s (rZ Q)) (H : nd_X12_isHere_76 a0 n0 K76 Q v3 s) : fs_V g l m_X12_isHere d false 76 [.ref 196, .ref a0, fz_J, .int v3] [] s (rZ Q) := by
  obtain ⟨d, rfl⟩ : ∃ e, d = e + 1 := ⟨d - 1, by omega⟩
  unfold nd_X12_isHere_76 at H
  refine fs_iload_n (k0 := 3) (i := 3) dd_X12_isHere_76 rfl rfl ?_
  refine fs_aload_n (k0 := 1) (i := 1) dd_X12_isHere_77 rfl rfl ?_
  refine fs_alenC dd_X12_isHere_78 ha0 ?_
  refine fs_icmp_ge (tgt := 107) dd_X12_isHere_79 (by decide) (fun hc => ?_) (fun hc => ?_)
  · replace H := H.1 hc
    refine fs_iconst (n := 1) (v := 1) dd_X12_isHere_107 (by decide) ?_
    exact fs_zret true dd_X12_isHere_108 rfl rfl H
  · replace H := H.2 hc
    refine fs_aload_n (k0 := 0) (i := 0) dd_X12_isHere_82 rfl rfl ?_
    refine fs_getr (ci := 12) (j := 0) (q := 197) dd_X12_isHere_83 fl_X12_7 ca_196 rfl (Or.inr ⟨_, rfl⟩) rfl (by decide) ?_
    refine fs_aload_n (k0 := 0) (i := 0) dd_X12_isHere_86 rfl rfl ?_
    refine fs_geti (ci := 12) (j := 2) dd_X12_isHere_87 fl_X12_258 ca_196 rfl (Or.inl rfl) ?_
    refine fs_iload_n (k0 := 3) (i := 3) dd_X12_isHere_90 rfl rfl ?_
    refine fs_iadd dd_X12_isHere_91 ?_
    have hb := H.1
    replace H := H.2
    refine fs_iald dd_X12_isHere_92 ca_197 hb ?_
    refine fs_aload_n (k0 := 1) (i := 1) dd_X12_isHere_93 rfl rfl ?_
    refine fs_iload_n (k0 := 3) (i := 3) dd_X12_isHere_94 rfl rfl ?_
    have hb := H.1
    replace H := H.2
    refine fs_cald dd_X12_isHere_95 ha0 hb ?_
    refine fs_icmp_eq (tgt := 101) dd_X12_isHere_96 (by decide) (fun hc => ?_) (fun hc => ?_)
    · replace H := H.1 hc
      refine fs_iincN (i := 3) (m := 1) (c := 1) dd_X12_isHere_101 rfl (by decide) (by decide) (fun x1 hx1 => ?_)
      replace H := H x1 hx1
      refine fs_goto (tgt := 76) dd_X12_isHere_104 (by decide) ?_
      refine fs_weak (ls2 := [.ref 196, .ref a0, fz_J, .int x1]) (fz_le_e (fz_le_e (fz_le_j (fz_le_e fz_le_n)))) ?_
      exact hK76 H
    · replace H := H.2 hc
      refine fs_iconst (n := 0) (v := 0) dd_X12_isHere_99 (by decide) ?_
      exact fs_zret false dd_X12_isHere_100 rfl rfl H
set_option maxRecDepth 100000 in
set_option maxHeartbeats 4000000 in
theorem V_lp_X12_isHere_76 {g : fz_G} {l : Launch} {d : Nat} (hD : 1 ≤ d) {a0 : Nat} {n0 : Nat} (ha0 : fz_at false a0 13 n0)  {Q : Bool → fz_s → Prop}  (n : Nat) : ∀ {v3 : Int32} {s : fz_s}, lp_X12_isHere_76 a0 n0  Q n v3 s → fs_V g l m_X12_isHere d false 76 [.ref 196, .ref a0, fz_J, .int v3] [] s (rZ Q) := by
  induction n with
  | zero => intro v3 s H; exact H.elim
  | succ n ih => intro v3 s H; exact V_nd_X12_isHere_76 hD ha0 (fun H => ih H) H
set_option maxRecDepth 100000 in
set_option maxHeartbeats 4000000 in
theorem V_nd_X12_isHere_61 {g : fz_G} {l : Launch} {d : Nat} (hD : 1 ≤ d) {a0 : Nat} {n0 : Nat} (ha0 : fz_at false a0 13 n0)  {Q : Bool → fz_s → Prop} {v2 : Int32} {s : fz_s}  (H : nd_X12_isHere_61 a0 n0  Q v2 s) : fs_V g l m_X12_isHere d false 61 [.ref 196, .ref a0, .int v2, fz_J] [] s (rZ Q) := by
  obtain ⟨d, rfl⟩ : ∃ e, d = e + 1 := ⟨d - 1, by omega⟩
  unfold nd_X12_isHere_61 at H
  refine fs_iload_n (k0 := 2) (i := 2) dd_X12_isHere_61 rfl rfl ?_
  refine fs_aload_n (k0 := 0) (i := 0) dd_X12_isHere_62 rfl rfl ?_
  refine fs_geti (ci := 12) (j := 2) dd_X12_isHere_63 fl_X12_258 ca_196 rfl (Or.inl rfl) ?_
  refine fs_isub dd_X12_isHere_66 ?_
  refine fs_aload_n (k0 := 1) (i := 1) dd_X12_isHere_67 rfl rfl ?_
  refine fs_alenC dd_X12_isHere_68 ha0 ?_
  refine fs_icmp_eq (tgt := 74) dd_X12_isHere_69 (by decide) (fun hc => ?_) (fun hc => ?_)
  · replace H := H.1 hc
    refine fs_iconst (n := 0) (v := 0) dd_X12_isHere_74 (by decide) ?_
    refine fs_istore_n (k0 := 3) (i := 3) dd_X12_isHere_75 rfl (by decide) ?_
    refine fs_weak (ls2 := [.ref 196, .ref a0, fz_J, .int 0]) (fz_le_e (fz_le_e (fz_le_j (fz_le_e fz_le_n)))) ?_
    exact V_lp_X12_isHere_76 hD  ha0  2048 H
  · replace H := H.2 hc
    refine fs_iconst (n := 0) (v := 0) dd_X12_isHere_72 (by decide) ?_
    exact fs_zret false dd_X12_isHere_73 rfl rfl H
set_option maxRecDepth 100000 in
set_option maxHeartbeats 4000000 in
theorem V_nd_X12_isHere_35 {g : fz_G} {l : Launch} {d : Nat} (hD : 1 ≤ d) {a0 : Nat} {n0 : Nat} (ha0 : fz_at false a0 13 n0) {K35 : Int32 → fz_s → Prop} {Q : Bool → fz_s → Prop} {v2 : Int32} {s : fz_s} (hK35 : ∀ {v2 : Int32} {s : fz_s}, K35 v2 s → fs_V g l m_X12_isHere d false 35 [.ref 196, .ref a0, .int v2, fz_J] [] s (rZ Q)) (H : nd_X12_isHere_35 a0 n0 K35 Q v2 s) : fs_V g l m_X12_isHere d false 35 [.ref 196, .ref a0, .int v2, fz_J] [] s (rZ Q) := by
  obtain ⟨d, rfl⟩ : ∃ e, d = e + 1 := ⟨d - 1, by omega⟩
  unfold nd_X12_isHere_35 at H
  refine fs_iload_n (k0 := 2) (i := 2) dd_X12_isHere_35 rfl rfl ?_
  refine fs_aload_n (k0 := 0) (i := 0) dd_X12_isHere_36 rfl rfl ?_
  refine fs_geti (ci := 12) (j := 3) dd_X12_isHere_37 fl_X12_261 ca_196 rfl (Or.inl rfl) ?_
  refine fs_icmp_ge (tgt := 61) dd_X12_isHere_40 (by decide) (fun hc => ?_) (fun hc => ?_)
  · replace H := H.1 hc
    refine fs_weak (ls2 := [.ref 196, .ref a0, .int v2, fz_J]) (fz_le_e (fz_le_e (fz_le_e (fz_le_j fz_le_n)))) ?_
    exact V_nd_X12_isHere_61 hD  ha0  H
  · replace H := H.2 hc
    refine fs_aload_n (k0 := 0) (i := 0) dd_X12_isHere_43 rfl rfl ?_
    refine fs_getr (ci := 12) (j := 0) (q := 197) dd_X12_isHere_44 fl_X12_7 ca_196 rfl (Or.inr ⟨_, rfl⟩) rfl (by decide) ?_
    refine fs_iload_n (k0 := 2) (i := 2) dd_X12_isHere_47 rfl rfl ?_
    have hb := H.1
    replace H := H.2
    refine fs_iald dd_X12_isHere_48 ca_197 hb ?_
    refine fs_callS (y := m_X12_isLetter) (as := [.int (s.1 197 v2.toNatClampNeg)]) dd_X12_isHere_49 me_X12_isLetter (Or.inl lk_X12_268) st_X12_isLetter rfl (Nat.le_of_ble_eq_true rfl) (Nat.le_of_ble_eq_true rfl) rfl (V_X12_isLetter (by omega)  H) (k2_Z fun r1 s2 H => ?_)
    refine fs_if_eq (tgt := 61) dd_X12_isHere_52 (by decide) (fun hc => ?_) (fun hc => ?_)
    · replace H := H.1 (bi_0 hc)
      refine fs_weak (ls2 := [.ref 196, .ref a0, .int v2, fz_J]) (fz_le_e (fz_le_e (fz_le_e (fz_le_j fz_le_n)))) ?_
      exact V_nd_X12_isHere_61 hD  ha0  H
    · replace H := H.2 (bi_1 hc)
      refine fs_iincN (i := 2) (m := 1) (c := 1) dd_X12_isHere_55 rfl (by decide) (by decide) (fun x3 hx3 => ?_)
      replace H := H x3 hx3
      refine fs_goto (tgt := 35) dd_X12_isHere_58 (by decide) ?_
      refine fs_weak (ls2 := [.ref 196, .ref a0, .int x3, fz_J]) (fz_le_e (fz_le_e (fz_le_e (fz_le_j fz_le_n)))) ?_
      exact hK35 H
set_option maxRecDepth 100000 in
set_option maxHeartbeats 4000000 in
theorem V_lp_X12_isHere_35 {g : fz_G} {l : Launch} {d : Nat} (hD : 1 ≤ d) {a0 : Nat} {n0 : Nat} (ha0 : fz_at false a0 13 n0)  {Q : Bool → fz_s → Prop}  (n : Nat) : ∀ {v2 : Int32} {s : fz_s}, lp_X12_isHere_35 a0 n0  Q n v2 s → fs_V g l m_X12_isHere d false 35 [.ref 196, .ref a0, .int v2, fz_J] [] s (rZ Q) := by
  induction n with
  | zero => intro v2 s H; exact H.elim
  | succ n ih => intro v2 s H; exact V_nd_X12_isHere_35 hD ha0 (fun H => ih H) H
set_option maxRecDepth 100000 in
set_option maxHeartbeats 4000000 in
theorem V_X12_isHere {g : fz_G} {l : Launch} {d : Nat} (hD : 1 ≤ d) {a0 : Nat} {n0 : Nat} (ha0 : fz_at false a0 13 n0) {s : fz_s} {Q : Bool → fz_s → Prop} (H : wp_X12_isHere a0 n0 s Q) : fs_V g l m_X12_isHere d false 0 (fz_en [.ref 196, .ref a0] 4) [] s (rZ Q) := by
  obtain ⟨d, rfl⟩ : ∃ e, d = e + 1 := ⟨d - 1, by omega⟩
  unfold wp_X12_isHere at H
  refine fs_aload_n (k0 := 0) (i := 0) dd_X12_isHere_0 rfl rfl ?_
  refine fs_geti (ci := 12) (j := 5) dd_X12_isHere_1 fl_X12_252 ca_196 rfl (Or.inl rfl) ?_
  refine fs_if_ne (tgt := 28) dd_X12_isHere_4 (by decide) (fun hc => ?_) (fun hc => ?_)
  · replace H := H.1 hc
    refine fs_iconst (n := 0) (v := 0) dd_X12_isHere_28 (by decide) ?_
    exact fs_zret false dd_X12_isHere_29 rfl rfl H
  · replace H := H.2 hc
    refine fs_aload_n (k0 := 0) (i := 0) dd_X12_isHere_7 rfl rfl ?_
    refine fs_callV (y := m_X12_look) (as := []) dd_X12_isHere_8 me_X12_look lk_X12_264 in_X12_look se_X12_look ca_196 rfl rfl rfl (Nat.le_of_ble_eq_true rfl) (Nat.le_of_ble_eq_true rfl) rfl (V_X12_look (by omega)  H) (k2_I fun r1 s2 H => ?_)
    refine fs_callS (y := m_X12_isLetter) (as := [.int r1]) dd_X12_isHere_11 me_X12_isLetter (Or.inl lk_X12_268) st_X12_isLetter rfl (Nat.le_of_ble_eq_true rfl) (Nat.le_of_ble_eq_true rfl) rfl (V_X12_isLetter (by omega)  H) (k2_Z fun r3 s4 H => ?_)
    refine fs_if_eq (tgt := 28) dd_X12_isHere_14 (by decide) (fun hc => ?_) (fun hc => ?_)
    · replace H := H.1 (bi_0 hc)
      refine fs_iconst (n := 0) (v := 0) dd_X12_isHere_28 (by decide) ?_
      exact fs_zret false dd_X12_isHere_29 rfl rfl H
    · replace H := H.2 (bi_1 hc)
      refine fs_aload_n (k0 := 0) (i := 0) dd_X12_isHere_17 rfl rfl ?_
      refine fs_geti (ci := 12) (j := 2) dd_X12_isHere_18 fl_X12_258 ca_196 rfl (Or.inl rfl) ?_
      refine fs_aload_n (k0 := 0) (i := 0) dd_X12_isHere_21 rfl rfl ?_
      refine fs_geti (ci := 12) (j := 4) dd_X12_isHere_22 fl_X12_272 ca_196 rfl (Or.inl rfl) ?_
      refine fs_icmp_ne (tgt := 30) dd_X12_isHere_25 (by decide) (fun hc => ?_) (fun hc => ?_)
      · replace H := H.1 hc
        refine fs_aload_n (k0 := 0) (i := 0) dd_X12_isHere_30 rfl rfl ?_
        refine fs_geti (ci := 12) (j := 2) dd_X12_isHere_31 fl_X12_258 ca_196 rfl (Or.inl rfl) ?_
        refine fs_topi (fun x5 hx5 => ?_)
        replace H := H x5 hx5
        refine fs_istore_n (k0 := 2) (i := 2) dd_X12_isHere_34 rfl (by decide) ?_
        refine fs_weak (ls2 := [.ref 196, .ref a0, .int x5, fz_J]) (fz_le_e (fz_le_e (fz_le_e (fz_le_j fz_le_n)))) ?_
        exact V_lp_X12_isHere_35 hD  ha0  2048 H
      · replace H := H.2 hc
        refine fs_iconst (n := 0) (v := 0) dd_X12_isHere_28 (by decide) ?_
        exact fs_zret false dd_X12_isHere_29 rfl rfl H
theorem dd_X12_takes_0 : decode m_X12_takes.2.1 0 = .ok (.aload_n 0, 1) := by decide +kernel
theorem dd_X12_takes_1 : decode m_X12_takes.2.1 1 = .ok (.aload_n 1, 1) := by decide +kernel
theorem dd_X12_takes_2 : decode m_X12_takes.2.1 2 = .ok (.invokevirtual 275, 3) := by decide +kernel
theorem dd_X12_takes_5 : decode m_X12_takes.2.1 5 = .ok (.ifCond .ne 5, 3) := by decide +kernel
theorem dd_X12_takes_8 : decode m_X12_takes.2.1 8 = .ok (.iconst 0, 1) := by decide +kernel
theorem dd_X12_takes_9 : decode m_X12_takes.2.1 9 = .ok (.ireturn, 1) := by decide +kernel
theorem dd_X12_takes_10 : decode m_X12_takes.2.1 10 = .ok (.aload_n 0, 1) := by decide +kernel
theorem dd_X12_takes_11 : decode m_X12_takes.2.1 11 = .ok (.dup, 1) := by decide +kernel
theorem dd_X12_takes_12 : decode m_X12_takes.2.1 12 = .ok (.getfield 258, 3) := by decide +kernel
theorem dd_X12_takes_15 : decode m_X12_takes.2.1 15 = .ok (.aload_n 1, 1) := by decide +kernel
theorem dd_X12_takes_16 : decode m_X12_takes.2.1 16 = .ok (.arraylength, 1) := by decide +kernel
theorem dd_X12_takes_17 : decode m_X12_takes.2.1 17 = .ok (.iadd, 1) := by decide +kernel
theorem dd_X12_takes_18 : decode m_X12_takes.2.1 18 = .ok (.putfield 258, 3) := by decide +kernel
theorem dd_X12_takes_21 : decode m_X12_takes.2.1 21 = .ok (.aload_n 0, 1) := by decide +kernel
theorem dd_X12_takes_22 : decode m_X12_takes.2.1 22 = .ok (.aload_n 0, 1) := by decide +kernel
theorem dd_X12_takes_23 : decode m_X12_takes.2.1 23 = .ok (.getfield 258, 3) := by decide +kernel
theorem dd_X12_takes_26 : decode m_X12_takes.2.1 26 = .ok (.putfield 272, 3) := by decide +kernel
theorem dd_X12_takes_29 : decode m_X12_takes.2.1 29 = .ok (.iconst 1, 1) := by decide +kernel
theorem dd_X12_takes_30 : decode m_X12_takes.2.1 30 = .ok (.ireturn, 1) := by decide +kernel
def wp_X12_takes (a0 : Nat) (n0 : Nat) (s : fz_s) (Q : Bool → fz_s → Prop) : Prop :=
  wp_X12_isHere a0 n0 s (fun r1 s2 => ((r1 = true → ∀ s3 : fz_s, s3 = si s2 196 2 ((s2.1 196 2) + (nI n0)) → ∀ s4 : fz_s, s4 = si s3 196 4 (s3.1 196 2) → Q true s4) ∧ (r1 = false → Q false s2)))
set_option maxRecDepth 100000 in
set_option maxHeartbeats 4000000 in
theorem V_X12_takes {g : fz_G} {l : Launch} {d : Nat} (hD : 2 ≤ d) {a0 : Nat} {n0 : Nat} (ha0 : fz_at false a0 13 n0) {s : fz_s} {Q : Bool → fz_s → Prop} (H : wp_X12_takes a0 n0 s Q) : fs_V g l m_X12_takes d false 0 (fz_en [.ref 196, .ref a0] 2) [] s (rZ Q) := by
  obtain ⟨d, rfl⟩ : ∃ e, d = e + 1 := ⟨d - 1, by omega⟩
  unfold wp_X12_takes at H
  refine fs_aload_n (k0 := 0) (i := 0) dd_X12_takes_0 rfl rfl ?_
  refine fs_aload_n (k0 := 1) (i := 1) dd_X12_takes_1 rfl rfl ?_
  refine fs_callV (y := m_X12_isHere) (as := [.ref a0]) dd_X12_takes_2 me_X12_isHere lk_X12_275 in_X12_isHere se_X12_isHere ca_196 rfl rfl rfl (Nat.le_of_ble_eq_true rfl) (Nat.le_of_ble_eq_true rfl) rfl (V_X12_isHere (by omega) ha0 H) (k2_Z fun r1 s2 H => ?_)
  refine fs_if_ne (tgt := 10) dd_X12_takes_5 (by decide) (fun hc => ?_) (fun hc => ?_)
  · replace H := H.1 (bi_1 hc)
    refine fs_aload_n (k0 := 0) (i := 0) dd_X12_takes_10 rfl rfl ?_
    refine fs_dup dd_X12_takes_11 rfl ?_
    refine fs_geti (ci := 12) (j := 2) dd_X12_takes_12 fl_X12_258 ca_196 rfl (Or.inl rfl) ?_
    refine fs_aload_n (k0 := 1) (i := 1) dd_X12_takes_15 rfl rfl ?_
    refine fs_alenC dd_X12_takes_16 ha0 ?_
    refine fs_iadd dd_X12_takes_17 ?_
    refine fs_puti (ci := 12) (j := 2) dd_X12_takes_18 fl_X12_258 (fun _ _ _ h => by cases h; rfl) ca_196 rfl (Or.inl rfl) ?_
    refine fs_tops (fun s3 hs3 => ?_)
    replace H := H s3 hs3
    refine fs_aload_n (k0 := 0) (i := 0) dd_X12_takes_21 rfl rfl ?_
    refine fs_aload_n (k0 := 0) (i := 0) dd_X12_takes_22 rfl rfl ?_
    refine fs_geti (ci := 12) (j := 2) dd_X12_takes_23 fl_X12_258 ca_196 rfl (Or.inl rfl) ?_
    refine fs_puti (ci := 12) (j := 4) dd_X12_takes_26 fl_X12_272 (fun _ _ _ h => by cases h; rfl) ca_196 rfl (Or.inl rfl) ?_
    refine fs_tops (fun s4 hs4 => ?_)
    replace H := H s4 hs4
    refine fs_iconst (n := 1) (v := 1) dd_X12_takes_29 (by decide) ?_
    exact fs_zret true dd_X12_takes_30 rfl rfl H
  · replace H := H.2 (bi_0 hc)
    refine fs_iconst (n := 0) (v := 0) dd_X12_takes_8 (by decide) ?_
    exact fs_zret false dd_X12_takes_9 rfl rfl H
theorem dd_X12_asks_0 : decode m_X12_asks.2.1 0 = .ok (.aload_n 0, 1) := by decide +kernel
theorem dd_X12_asks_1 : decode m_X12_asks.2.1 1 = .ok (.getfield 252, 3) := by decide +kernel
theorem dd_X12_asks_4 : decode m_X12_asks.2.1 4 = .ok (.ifCond .ne 20, 3) := by decide +kernel
theorem dd_X12_asks_7 : decode m_X12_asks.2.1 7 = .ok (.aload_n 0, 1) := by decide +kernel
theorem dd_X12_asks_8 : decode m_X12_asks.2.1 8 = .ok (.aload_n 1, 1) := by decide +kernel
theorem dd_X12_asks_9 : decode m_X12_asks.2.1 9 = .ok (.invokevirtual 279, 3) := by decide +kernel
theorem dd_X12_asks_12 : decode m_X12_asks.2.1 12 = .ok (.ifCond .ne 12, 3) := by decide +kernel
theorem dd_X12_asks_15 : decode m_X12_asks.2.1 15 = .ok (.aload_n 0, 1) := by decide +kernel
theorem dd_X12_asks_16 : decode m_X12_asks.2.1 16 = .ok (.iconst 1, 1) := by decide +kernel
theorem dd_X12_asks_17 : decode m_X12_asks.2.1 17 = .ok (.aload_n 0, 1) := by decide +kernel
theorem dd_X12_asks_18 : decode m_X12_asks.2.1 18 = .ok (.getfield 258, 3) := by decide +kernel
theorem dd_X12_asks_21 : decode m_X12_asks.2.1 21 = .ok (.invokevirtual 282, 3) := by decide +kernel
theorem dd_X12_asks_24 : decode m_X12_asks.2.1 24 = .ok (.return_, 1) := by decide +kernel
def wp_X12_asks (a0 : Nat) (n0 : Nat) (s : fz_s) (Q : fz_s → Prop) : Prop :=
  ((¬ (s.1 196 5) = 0 → Q s) ∧ ((s.1 196 5) = 0 → wp_X12_takes a0 n0 s (fun r1 s2 => ((r1 = true → Q s2) ∧ (r1 = false → wp_X12_fail 1 (s2.1 196 2) s2 (fun s4 => Q s4))))))
set_option maxRecDepth 100000 in
set_option maxHeartbeats 4000000 in
theorem V_X12_asks {g : fz_G} {l : Launch} {d : Nat} (hD : 3 ≤ d) {a0 : Nat} {n0 : Nat} (ha0 : fz_at false a0 13 n0) {s : fz_s} {Q : fz_s → Prop} (H : wp_X12_asks a0 n0 s Q) : fs_V g l m_X12_asks d false 0 (fz_en [.ref 196, .ref a0] 2) [] s (rV Q) := by
  obtain ⟨d, rfl⟩ : ∃ e, d = e + 1 := ⟨d - 1, by omega⟩
  unfold wp_X12_asks at H
  refine fs_aload_n (k0 := 0) (i := 0) dd_X12_asks_0 rfl rfl ?_
  refine fs_geti (ci := 12) (j := 5) dd_X12_asks_1 fl_X12_252 ca_196 rfl (Or.inl rfl) ?_
  refine fs_if_ne (tgt := 24) dd_X12_asks_4 (by decide) (fun hc => ?_) (fun hc => ?_)
  · replace H := H.1 hc
    exact fs_vret dd_X12_asks_24 rfl H
  · replace H := H.2 hc
    refine fs_aload_n (k0 := 0) (i := 0) dd_X12_asks_7 rfl rfl ?_
    refine fs_aload_n (k0 := 1) (i := 1) dd_X12_asks_8 rfl rfl ?_
    refine fs_callV (y := m_X12_takes) (as := [.ref a0]) dd_X12_asks_9 me_X12_takes lk_X12_279 in_X12_takes se_X12_takes ca_196 rfl rfl rfl (Nat.le_of_ble_eq_true rfl) (Nat.le_of_ble_eq_true rfl) rfl (V_X12_takes (by omega) ha0 H) (k2_Z fun r1 s2 H => ?_)
    refine fs_if_ne (tgt := 24) dd_X12_asks_12 (by decide) (fun hc => ?_) (fun hc => ?_)
    · replace H := H.1 (bi_1 hc)
      exact fs_vret dd_X12_asks_24 rfl H
    · replace H := H.2 (bi_0 hc)
      refine fs_aload_n (k0 := 0) (i := 0) dd_X12_asks_15 rfl rfl ?_
      refine fs_iconst (n := 1) (v := 1) dd_X12_asks_16 (by decide) ?_
      refine fs_aload_n (k0 := 0) (i := 0) dd_X12_asks_17 rfl rfl ?_
      refine fs_geti (ci := 12) (j := 2) dd_X12_asks_18 fl_X12_258 ca_196 rfl (Or.inl rfl) ?_
      refine fs_callV (y := m_X12_fail) (as := [.int 1, .int (s2.1 196 2)]) dd_X12_asks_21 me_X12_fail lk_X12_282 in_X12_fail se_X12_fail ca_196 rfl rfl rfl (Nat.le_of_ble_eq_true rfl) (Nat.le_of_ble_eq_true rfl) rfl (V_X12_fail (by omega)  H) (k2_V fun s4 H => ?_)
      exact fs_vret dd_X12_asks_24 rfl H
theorem dd_X12_takesSign_0 : decode m_X12_takesSign.2.1 0 = .ok (.aload_n 0, 1) := by decide +kernel
theorem dd_X12_takesSign_1 : decode m_X12_takesSign.2.1 1 = .ok (.getfield 252, 3) := by decide +kernel
theorem dd_X12_takesSign_4 : decode m_X12_takesSign.2.1 4 = .ok (.ifCond .ne 11, 3) := by decide +kernel
theorem dd_X12_takesSign_7 : decode m_X12_takesSign.2.1 7 = .ok (.aload_n 0, 1) := by decide +kernel
theorem dd_X12_takesSign_8 : decode m_X12_takesSign.2.1 8 = .ok (.invokevirtual 264, 3) := by decide +kernel
theorem dd_X12_takesSign_11 : decode m_X12_takesSign.2.1 11 = .ok (.iload_n 1, 1) := by decide +kernel
theorem dd_X12_takesSign_12 : decode m_X12_takesSign.2.1 12 = .ok (.if_icmp .eq 5, 3) := by decide +kernel
theorem dd_X12_takesSign_15 : decode m_X12_takesSign.2.1 15 = .ok (.iconst 0, 1) := by decide +kernel
theorem dd_X12_takesSign_16 : decode m_X12_takesSign.2.1 16 = .ok (.ireturn, 1) := by decide +kernel
theorem dd_X12_takesSign_17 : decode m_X12_takesSign.2.1 17 = .ok (.aload_n 0, 1) := by decide +kernel
theorem dd_X12_takesSign_18 : decode m_X12_takesSign.2.1 18 = .ok (.dup, 1) := by decide +kernel
theorem dd_X12_takesSign_19 : decode m_X12_takesSign.2.1 19 = .ok (.getfield 258, 3) := by decide +kernel
theorem dd_X12_takesSign_22 : decode m_X12_takesSign.2.1 22 = .ok (.iconst 1, 1) := by decide +kernel
theorem dd_X12_takesSign_23 : decode m_X12_takesSign.2.1 23 = .ok (.iadd, 1) := by decide +kernel
theorem dd_X12_takesSign_24 : decode m_X12_takesSign.2.1 24 = .ok (.putfield 258, 3) := by decide +kernel
theorem dd_X12_takesSign_27 : decode m_X12_takesSign.2.1 27 = .ok (.iconst 1, 1) := by decide +kernel
theorem dd_X12_takesSign_28 : decode m_X12_takesSign.2.1 28 = .ok (.ireturn, 1) := by decide +kernel
def wp_X12_takesSign (p0 : Int32) (s : fz_s) (Q : Bool → fz_s → Prop) : Prop :=
  ((¬ (s.1 196 5) = 0 → Q false s) ∧ ((s.1 196 5) = 0 → wp_X12_look  s (fun r1 s2 => ((r1 = p0 → ∀ s3 : fz_s, s3 = si s2 196 2 ((s2.1 196 2) + 1) → Q true s3) ∧ (¬ r1 = p0 → Q false s2)))))
set_option maxRecDepth 100000 in
set_option maxHeartbeats 4000000 in
theorem V_X12_takesSign {g : fz_G} {l : Launch} {d : Nat} (hD : 1 ≤ d) {p0 : Int32}  {s : fz_s} {Q : Bool → fz_s → Prop} (H : wp_X12_takesSign p0 s Q) : fs_V g l m_X12_takesSign d false 0 (fz_en [.ref 196, .int p0] 2) [] s (rZ Q) := by
  obtain ⟨d, rfl⟩ : ∃ e, d = e + 1 := ⟨d - 1, by omega⟩
  unfold wp_X12_takesSign at H
  refine fs_aload_n (k0 := 0) (i := 0) dd_X12_takesSign_0 rfl rfl ?_
  refine fs_geti (ci := 12) (j := 5) dd_X12_takesSign_1 fl_X12_252 ca_196 rfl (Or.inl rfl) ?_
  refine fs_if_ne (tgt := 15) dd_X12_takesSign_4 (by decide) (fun hc => ?_) (fun hc => ?_)
  · replace H := H.1 hc
    refine fs_iconst (n := 0) (v := 0) dd_X12_takesSign_15 (by decide) ?_
    exact fs_zret false dd_X12_takesSign_16 rfl rfl H
  · replace H := H.2 hc
    refine fs_aload_n (k0 := 0) (i := 0) dd_X12_takesSign_7 rfl rfl ?_
    refine fs_callV (y := m_X12_look) (as := []) dd_X12_takesSign_8 me_X12_look lk_X12_264 in_X12_look se_X12_look ca_196 rfl rfl rfl (Nat.le_of_ble_eq_true rfl) (Nat.le_of_ble_eq_true rfl) rfl (V_X12_look (by omega)  H) (k2_I fun r1 s2 H => ?_)
    refine fs_iload_n (k0 := 1) (i := 1) dd_X12_takesSign_11 rfl rfl ?_
    refine fs_icmp_eq (tgt := 17) dd_X12_takesSign_12 (by decide) (fun hc => ?_) (fun hc => ?_)
    · replace H := H.1 hc
      refine fs_aload_n (k0 := 0) (i := 0) dd_X12_takesSign_17 rfl rfl ?_
      refine fs_dup dd_X12_takesSign_18 rfl ?_
      refine fs_geti (ci := 12) (j := 2) dd_X12_takesSign_19 fl_X12_258 ca_196 rfl (Or.inl rfl) ?_
      refine fs_iconst (n := 1) (v := 1) dd_X12_takesSign_22 (by decide) ?_
      refine fs_iadd dd_X12_takesSign_23 ?_
      refine fs_puti (ci := 12) (j := 2) dd_X12_takesSign_24 fl_X12_258 (fun _ _ _ h => by cases h; rfl) ca_196 rfl (Or.inl rfl) ?_
      refine fs_tops (fun s3 hs3 => ?_)
      replace H := H s3 hs3
      refine fs_iconst (n := 1) (v := 1) dd_X12_takesSign_27 (by decide) ?_
      exact fs_zret true dd_X12_takesSign_28 rfl rfl H
    · replace H := H.2 hc
      refine fs_iconst (n := 0) (v := 0) dd_X12_takesSign_15 (by decide) ?_
      exact fs_zret false dd_X12_takesSign_16 rfl rfl H
theorem dd_X12_asksSign_0 : decode m_X12_asksSign.2.1 0 = .ok (.aload_n 0, 1) := by decide +kernel
theorem dd_X12_asksSign_1 : decode m_X12_asksSign.2.1 1 = .ok (.getfield 252, 3) := by decide +kernel
theorem dd_X12_asksSign_4 : decode m_X12_asksSign.2.1 4 = .ok (.ifCond .ne 20, 3) := by decide +kernel
theorem dd_X12_asksSign_7 : decode m_X12_asksSign.2.1 7 = .ok (.aload_n 0, 1) := by decide +kernel
theorem dd_X12_asksSign_8 : decode m_X12_asksSign.2.1 8 = .ok (.iload_n 1, 1) := by decide +kernel
theorem dd_X12_asksSign_9 : decode m_X12_asksSign.2.1 9 = .ok (.invokevirtual 286, 3) := by decide +kernel
theorem dd_X12_asksSign_12 : decode m_X12_asksSign.2.1 12 = .ok (.ifCond .ne 12, 3) := by decide +kernel
theorem dd_X12_asksSign_15 : decode m_X12_asksSign.2.1 15 = .ok (.aload_n 0, 1) := by decide +kernel
theorem dd_X12_asksSign_16 : decode m_X12_asksSign.2.1 16 = .ok (.iconst 1, 1) := by decide +kernel
theorem dd_X12_asksSign_17 : decode m_X12_asksSign.2.1 17 = .ok (.aload_n 0, 1) := by decide +kernel
theorem dd_X12_asksSign_18 : decode m_X12_asksSign.2.1 18 = .ok (.getfield 258, 3) := by decide +kernel
theorem dd_X12_asksSign_21 : decode m_X12_asksSign.2.1 21 = .ok (.invokevirtual 282, 3) := by decide +kernel
theorem dd_X12_asksSign_24 : decode m_X12_asksSign.2.1 24 = .ok (.return_, 1) := by decide +kernel
def wp_X12_asksSign (p0 : Int32) (s : fz_s) (Q : fz_s → Prop) : Prop :=
  ((¬ (s.1 196 5) = 0 → Q s) ∧ ((s.1 196 5) = 0 → wp_X12_takesSign p0 s (fun r1 s2 => ((r1 = true → Q s2) ∧ (r1 = false → wp_X12_fail 1 (s2.1 196 2) s2 (fun s4 => Q s4))))))
set_option maxRecDepth 100000 in
set_option maxHeartbeats 4000000 in
theorem V_X12_asksSign {g : fz_G} {l : Launch} {d : Nat} (hD : 2 ≤ d) {p0 : Int32}  {s : fz_s} {Q : fz_s → Prop} (H : wp_X12_asksSign p0 s Q) : fs_V g l m_X12_asksSign d false 0 (fz_en [.ref 196, .int p0] 2) [] s (rV Q) := by
  obtain ⟨d, rfl⟩ : ∃ e, d = e + 1 := ⟨d - 1, by omega⟩
  unfold wp_X12_asksSign at H
  refine fs_aload_n (k0 := 0) (i := 0) dd_X12_asksSign_0 rfl rfl ?_
  refine fs_geti (ci := 12) (j := 5) dd_X12_asksSign_1 fl_X12_252 ca_196 rfl (Or.inl rfl) ?_
  refine fs_if_ne (tgt := 24) dd_X12_asksSign_4 (by decide) (fun hc => ?_) (fun hc => ?_)
  · replace H := H.1 hc
    exact fs_vret dd_X12_asksSign_24 rfl H
  · replace H := H.2 hc
    refine fs_aload_n (k0 := 0) (i := 0) dd_X12_asksSign_7 rfl rfl ?_
    refine fs_iload_n (k0 := 1) (i := 1) dd_X12_asksSign_8 rfl rfl ?_
    refine fs_callV (y := m_X12_takesSign) (as := [.int p0]) dd_X12_asksSign_9 me_X12_takesSign lk_X12_286 in_X12_takesSign se_X12_takesSign ca_196 rfl rfl rfl (Nat.le_of_ble_eq_true rfl) (Nat.le_of_ble_eq_true rfl) rfl (V_X12_takesSign (by omega)  H) (k2_Z fun r1 s2 H => ?_)
    refine fs_if_ne (tgt := 24) dd_X12_asksSign_12 (by decide) (fun hc => ?_) (fun hc => ?_)
    · replace H := H.1 (bi_1 hc)
      exact fs_vret dd_X12_asksSign_24 rfl H
    · replace H := H.2 (bi_0 hc)
      refine fs_aload_n (k0 := 0) (i := 0) dd_X12_asksSign_15 rfl rfl ?_
      refine fs_iconst (n := 1) (v := 1) dd_X12_asksSign_16 (by decide) ?_
      refine fs_aload_n (k0 := 0) (i := 0) dd_X12_asksSign_17 rfl rfl ?_
      refine fs_geti (ci := 12) (j := 2) dd_X12_asksSign_18 fl_X12_258 ca_196 rfl (Or.inl rfl) ?_
      refine fs_callV (y := m_X12_fail) (as := [.int 1, .int (s2.1 196 2)]) dd_X12_asksSign_21 me_X12_fail lk_X12_282 in_X12_fail se_X12_fail ca_196 rfl rfl rfl (Nat.le_of_ble_eq_true rfl) (Nat.le_of_ble_eq_true rfl) rfl (V_X12_fail (by omega)  H) (k2_V fun s4 H => ?_)
      exact fs_vret dd_X12_asksSign_24 rfl H
theorem dd_X12_number_0 : decode m_X12_number.2.1 0 = .ok (.aload_n 0, 1) := by decide +kernel
theorem dd_X12_number_1 : decode m_X12_number.2.1 1 = .ok (.getfield 252, 3) := by decide +kernel
theorem dd_X12_number_4 : decode m_X12_number.2.1 4 = .ok (.ifCond .eq 5, 3) := by decide +kernel
theorem dd_X12_number_7 : decode m_X12_number.2.1 7 = .ok (.iconst 0, 1) := by decide +kernel
theorem dd_X12_number_8 : decode m_X12_number.2.1 8 = .ok (.ireturn, 1) := by decide +kernel
theorem dd_X12_number_9 : decode m_X12_number.2.1 9 = .ok (.aload_n 0, 1) := by decide +kernel
theorem dd_X12_number_10 : decode m_X12_number.2.1 10 = .ok (.invokevirtual 264, 3) := by decide +kernel
theorem dd_X12_number_13 : decode m_X12_number.2.1 13 = .ok (.invokestatic 289, 3) := by decide +kernel
theorem dd_X12_number_16 : decode m_X12_number.2.1 16 = .ok (.ifCond .eq 14, 3) := by decide +kernel
theorem dd_X12_number_19 : decode m_X12_number.2.1 19 = .ok (.aload_n 0, 1) := by decide +kernel
theorem dd_X12_number_20 : decode m_X12_number.2.1 20 = .ok (.getfield 258, 3) := by decide +kernel
theorem dd_X12_number_23 : decode m_X12_number.2.1 23 = .ok (.aload_n 0, 1) := by decide +kernel
theorem dd_X12_number_24 : decode m_X12_number.2.1 24 = .ok (.getfield 272, 3) := by decide +kernel
theorem dd_X12_number_27 : decode m_X12_number.2.1 27 = .ok (.if_icmp .ne 14, 3) := by decide +kernel
theorem dd_X12_number_30 : decode m_X12_number.2.1 30 = .ok (.aload_n 0, 1) := by decide +kernel
theorem dd_X12_number_31 : decode m_X12_number.2.1 31 = .ok (.iconst 1, 1) := by decide +kernel
theorem dd_X12_number_32 : decode m_X12_number.2.1 32 = .ok (.aload_n 0, 1) := by decide +kernel
theorem dd_X12_number_33 : decode m_X12_number.2.1 33 = .ok (.getfield 258, 3) := by decide +kernel
theorem dd_X12_number_36 : decode m_X12_number.2.1 36 = .ok (.invokevirtual 282, 3) := by decide +kernel
theorem dd_X12_number_39 : decode m_X12_number.2.1 39 = .ok (.iconst 0, 1) := by decide +kernel
theorem dd_X12_number_40 : decode m_X12_number.2.1 40 = .ok (.ireturn, 1) := by decide +kernel
theorem dd_X12_number_41 : decode m_X12_number.2.1 41 = .ok (.aload_n 0, 1) := by decide +kernel
theorem dd_X12_number_42 : decode m_X12_number.2.1 42 = .ok (.getfield 258, 3) := by decide +kernel
theorem dd_X12_number_45 : decode m_X12_number.2.1 45 = .ok (.istore_n 3, 1) := by decide +kernel
theorem dd_X12_number_46 : decode m_X12_number.2.1 46 = .ok (.iconst 0, 1) := by decide +kernel
theorem dd_X12_number_47 : decode m_X12_number.2.1 47 = .ok (.istore 4, 2) := by decide +kernel
theorem dd_X12_number_49 : decode m_X12_number.2.1 49 = .ok (.aload_n 0, 1) := by decide +kernel
theorem dd_X12_number_50 : decode m_X12_number.2.1 50 = .ok (.getfield 258, 3) := by decide +kernel
theorem dd_X12_number_53 : decode m_X12_number.2.1 53 = .ok (.aload_n 0, 1) := by decide +kernel
theorem dd_X12_number_54 : decode m_X12_number.2.1 54 = .ok (.getfield 261, 3) := by decide +kernel
theorem dd_X12_number_57 : decode m_X12_number.2.1 57 = .ok (.if_icmp .ge 72, 3) := by decide +kernel
theorem dd_X12_number_60 : decode m_X12_number.2.1 60 = .ok (.aload_n 0, 1) := by decide +kernel
theorem dd_X12_number_61 : decode m_X12_number.2.1 61 = .ok (.getfield 7, 3) := by decide +kernel
theorem dd_X12_number_64 : decode m_X12_number.2.1 64 = .ok (.aload_n 0, 1) := by decide +kernel
theorem dd_X12_number_65 : decode m_X12_number.2.1 65 = .ok (.getfield 258, 3) := by decide +kernel
theorem dd_X12_number_68 : decode m_X12_number.2.1 68 = .ok (.iaload, 1) := by decide +kernel
theorem dd_X12_number_69 : decode m_X12_number.2.1 69 = .ok (.invokestatic 289, 3) := by decide +kernel
theorem dd_X12_number_72 : decode m_X12_number.2.1 72 = .ok (.ifCond .eq 57, 3) := by decide +kernel
theorem dd_X12_number_75 : decode m_X12_number.2.1 75 = .ok (.aload_n 0, 1) := by decide +kernel
theorem dd_X12_number_76 : decode m_X12_number.2.1 76 = .ok (.getfield 258, 3) := by decide +kernel
theorem dd_X12_number_79 : decode m_X12_number.2.1 79 = .ok (.iload_n 3, 1) := by decide +kernel
theorem dd_X12_number_80 : decode m_X12_number.2.1 80 = .ok (.isub, 1) := by decide +kernel
theorem dd_X12_number_81 : decode m_X12_number.2.1 81 = .ok (.iconst 4, 1) := by decide +kernel
theorem dd_X12_number_82 : decode m_X12_number.2.1 82 = .ok (.if_icmp .ne 14, 3) := by decide +kernel
theorem dd_X12_number_85 : decode m_X12_number.2.1 85 = .ok (.aload_n 0, 1) := by decide +kernel
theorem dd_X12_number_86 : decode m_X12_number.2.1 86 = .ok (.iconst 1, 1) := by decide +kernel
theorem dd_X12_number_87 : decode m_X12_number.2.1 87 = .ok (.aload_n 0, 1) := by decide +kernel
theorem dd_X12_number_88 : decode m_X12_number.2.1 88 = .ok (.getfield 258, 3) := by decide +kernel
theorem dd_X12_number_91 : decode m_X12_number.2.1 91 = .ok (.invokevirtual 282, 3) := by decide +kernel
theorem dd_X12_number_94 : decode m_X12_number.2.1 94 = .ok (.iconst 0, 1) := by decide +kernel
theorem dd_X12_number_95 : decode m_X12_number.2.1 95 = .ok (.ireturn, 1) := by decide +kernel
theorem dd_X12_number_96 : decode m_X12_number.2.1 96 = .ok (.bipush 10, 2) := by decide +kernel
theorem dd_X12_number_98 : decode m_X12_number.2.1 98 = .ok (.iload 4, 2) := by decide +kernel
theorem dd_X12_number_100 : decode m_X12_number.2.1 100 = .ok (.imul, 1) := by decide +kernel
theorem dd_X12_number_101 : decode m_X12_number.2.1 101 = .ok (.aload_n 0, 1) := by decide +kernel
theorem dd_X12_number_102 : decode m_X12_number.2.1 102 = .ok (.getfield 7, 3) := by decide +kernel
theorem dd_X12_number_105 : decode m_X12_number.2.1 105 = .ok (.aload_n 0, 1) := by decide +kernel
theorem dd_X12_number_106 : decode m_X12_number.2.1 106 = .ok (.getfield 258, 3) := by decide +kernel
theorem dd_X12_number_109 : decode m_X12_number.2.1 109 = .ok (.iaload, 1) := by decide +kernel
theorem dd_X12_number_110 : decode m_X12_number.2.1 110 = .ok (.iadd, 1) := by decide +kernel
theorem dd_X12_number_111 : decode m_X12_number.2.1 111 = .ok (.bipush 48, 2) := by decide +kernel
theorem dd_X12_number_113 : decode m_X12_number.2.1 113 = .ok (.isub, 1) := by decide +kernel
theorem dd_X12_number_114 : decode m_X12_number.2.1 114 = .ok (.istore 4, 2) := by decide +kernel
theorem dd_X12_number_116 : decode m_X12_number.2.1 116 = .ok (.aload_n 0, 1) := by decide +kernel
theorem dd_X12_number_117 : decode m_X12_number.2.1 117 = .ok (.dup, 1) := by decide +kernel
theorem dd_X12_number_118 : decode m_X12_number.2.1 118 = .ok (.getfield 258, 3) := by decide +kernel
theorem dd_X12_number_121 : decode m_X12_number.2.1 121 = .ok (.iconst 1, 1) := by decide +kernel
theorem dd_X12_number_122 : decode m_X12_number.2.1 122 = .ok (.iadd, 1) := by decide +kernel
theorem dd_X12_number_123 : decode m_X12_number.2.1 123 = .ok (.putfield 258, 3) := by decide +kernel
theorem dd_X12_number_126 : decode m_X12_number.2.1 126 = .ok (.goto (-77), 3) := by decide +kernel
theorem dd_X12_number_129 : decode m_X12_number.2.1 129 = .ok (.aload_n 0, 1) := by decide +kernel
theorem dd_X12_number_130 : decode m_X12_number.2.1 130 = .ok (.aload_n 0, 1) := by decide +kernel
theorem dd_X12_number_131 : decode m_X12_number.2.1 131 = .ok (.getfield 258, 3) := by decide +kernel
theorem dd_X12_number_134 : decode m_X12_number.2.1 134 = .ok (.putfield 272, 3) := by decide +kernel
theorem dd_X12_number_137 : decode m_X12_number.2.1 137 = .ok (.aload_n 0, 1) := by decide +kernel
theorem dd_X12_number_138 : decode m_X12_number.2.1 138 = .ok (.iload_n 3, 1) := by decide +kernel
theorem dd_X12_number_139 : decode m_X12_number.2.1 139 = .ok (.putfield 292, 3) := by decide +kernel
theorem dd_X12_number_142 : decode m_X12_number.2.1 142 = .ok (.iload 4, 2) := by decide +kernel
theorem dd_X12_number_144 : decode m_X12_number.2.1 144 = .ok (.i2l, 1) := by decide +kernel
theorem dd_X12_number_145 : decode m_X12_number.2.1 145 = .ok (.iload_n 1, 1) := by decide +kernel
theorem dd_X12_number_146 : decode m_X12_number.2.1 146 = .ok (.i2l, 1) := by decide +kernel
theorem dd_X12_number_147 : decode m_X12_number.2.1 147 = .ok (.iload_n 2, 1) := by decide +kernel
theorem dd_X12_number_148 : decode m_X12_number.2.1 148 = .ok (.i2l, 1) := by decide +kernel
theorem dd_X12_number_149 : decode m_X12_number.2.1 149 = .ok (.invokestatic 295, 3) := by decide +kernel
theorem dd_X12_number_152 : decode m_X12_number.2.1 152 = .ok (.ifCond .ne 12, 3) := by decide +kernel
theorem dd_X12_number_155 : decode m_X12_number.2.1 155 = .ok (.aload_n 0, 1) := by decide +kernel
theorem dd_X12_number_156 : decode m_X12_number.2.1 156 = .ok (.iconst 2, 1) := by decide +kernel
theorem dd_X12_number_157 : decode m_X12_number.2.1 157 = .ok (.aload_n 0, 1) := by decide +kernel
theorem dd_X12_number_158 : decode m_X12_number.2.1 158 = .ok (.getfield 292, 3) := by decide +kernel
theorem dd_X12_number_161 : decode m_X12_number.2.1 161 = .ok (.invokevirtual 282, 3) := by decide +kernel
theorem dd_X12_number_164 : decode m_X12_number.2.1 164 = .ok (.iload 4, 2) := by decide +kernel
theorem dd_X12_number_166 : decode m_X12_number.2.1 166 = .ok (.ireturn, 1) := by decide +kernel
def nd_X12_number_129   (Q : Int32 → fz_s → Prop) (v1 : Int32) (v2 : Int32) (v3 : Int32) (v4 : Int32) (s : fz_s) : Prop :=
  ∀ s1 : fz_s, s1 = si s 196 4 (s.1 196 2) → ∀ s2 : fz_s, s2 = si s1 196 10 v3 → wp_X12_isIn v4.toInt64 v1.toInt64 v2.toInt64 s2 (fun r3 s4 => ((r3 = true → Q v4 s4) ∧ (r3 = false → wp_X12_fail 2 (s4.1 196 10) s4 (fun s6 => Q v4 s6))))
def nd_X12_number_49  (K49 : Int32 → Int32 → Int32 → Int32 → fz_s → Prop) (Q : Int32 → fz_s → Prop) (v1 : Int32) (v2 : Int32) (v3 : Int32) (v4 : Int32) (s : fz_s) : Prop :=
  (((s.1 196 3) ≤ (s.1 196 2) → nd_X12_number_129   Q v1 v2 v3 v4 s) ∧ (¬ (s.1 196 3) ≤ (s.1 196 2) → vp_in (s.1 196 2) 1600 ∧ wp_X12_isDigit (s.1 197 (s.1 196 2).toNatClampNeg) s (fun r1 s2 => ((r1 = false → nd_X12_number_129   Q v1 v2 v3 v4 s2) ∧ (r1 = true → ((¬ ((s2.1 196 2) - v3) = 4 → vp_in (s2.1 196 2) 1600 ∧ ∀ x3 : Int32, x3 = (((10 * v4) + (s2.1 197 (s2.1 196 2).toNatClampNeg)) - 48) → ∀ s4 : fz_s, s4 = si s2 196 2 ((s2.1 196 2) + 1) → K49 v1 v2 v3 x3 s4) ∧ (((s2.1 196 2) - v3) = 4 → wp_X12_fail 1 (s2.1 196 2) s2 (fun s6 => Q 0 s6))))))))
def lp_X12_number_49   (Q : Int32 → fz_s → Prop) : Nat → Int32 → Int32 → Int32 → Int32 → fz_s → Prop
  | 0 => fun _ _ _ _ _ => False
  | n + 1 => nd_X12_number_49  (lp_X12_number_49   Q n) Q
def nd_X12_number_30   (Q : Int32 → fz_s → Prop)  (s : fz_s) : Prop :=
  wp_X12_fail 1 (s.1 196 2) s (fun s2 => Q 0 s2)
def wp_X12_number (p0 : Int32) (p1 : Int32) (s : fz_s) (Q : Int32 → fz_s → Prop) : Prop :=
  (((s.1 196 5) = 0 → wp_X12_look  s (fun r1 s2 => wp_X12_isDigit r1 s2 (fun r3 s4 => ((r3 = false → nd_X12_number_30   Q  s4) ∧ (r3 = true → ((¬ (s4.1 196 2) = (s4.1 196 4) → ∀ x5 : Int32, x5 = (s4.1 196 2) → lp_X12_number_49   Q 2048 p0 p1 x5 0 s4) ∧ ((s4.1 196 2) = (s4.1 196 4) → nd_X12_number_30   Q  s4))))))) ∧ (¬ (s.1 196 5) = 0 → Q 0 s))
set_option maxRecDepth 100000 in
set_option maxHeartbeats 4000000 in
theorem V_nd_X12_number_129 {g : fz_G} {l : Launch} {d : Nat} (hD : 1 ≤ d)    {Q : Int32 → fz_s → Prop} {v1 : Int32} {v2 : Int32} {v3 : Int32} {v4 : Int32} {s : fz_s}  (H : nd_X12_number_129   Q v1 v2 v3 v4 s) : fs_V g l m_X12_number d false 129 [.ref 196, .int v1, .int v2, .int v3, .int v4] [] s (rI Q) := by
  obtain ⟨d, rfl⟩ : ∃ e, d = e + 1 := ⟨d - 1, by omega⟩
  unfold nd_X12_number_129 at H
  refine fs_aload_n (k0 := 0) (i := 0) dd_X12_number_129 rfl rfl ?_
  refine fs_aload_n (k0 := 0) (i := 0) dd_X12_number_130 rfl rfl ?_
  refine fs_geti (ci := 12) (j := 2) dd_X12_number_131 fl_X12_258 ca_196 rfl (Or.inl rfl) ?_
  refine fs_puti (ci := 12) (j := 4) dd_X12_number_134 fl_X12_272 (fun _ _ _ h => by cases h; rfl) ca_196 rfl (Or.inl rfl) ?_
  refine fs_tops (fun s1 hs1 => ?_)
  replace H := H s1 hs1
  refine fs_aload_n (k0 := 0) (i := 0) dd_X12_number_137 rfl rfl ?_
  refine fs_iload_n (k0 := 3) (i := 3) dd_X12_number_138 rfl rfl ?_
  refine fs_puti (ci := 12) (j := 10) dd_X12_number_139 fl_X12_292 (fun _ _ _ h => by cases h; rfl) ca_196 rfl (Or.inl rfl) ?_
  refine fs_tops (fun s2 hs2 => ?_)
  replace H := H s2 hs2
  refine fs_iload (i := 4) dd_X12_number_142 rfl ?_
  refine fs_i2l dd_X12_number_144 ?_
  refine fs_iload_n (k0 := 1) (i := 1) dd_X12_number_145 rfl rfl ?_
  refine fs_i2l dd_X12_number_146 ?_
  refine fs_iload_n (k0 := 2) (i := 2) dd_X12_number_147 rfl rfl ?_
  refine fs_i2l dd_X12_number_148 ?_
  refine fs_callS (y := m_X12_isIn) (as := [.long v4.toInt64, .long v1.toInt64, .long v2.toInt64]) dd_X12_number_149 me_X12_isIn (Or.inl lk_X12_295) st_X12_isIn rfl (Nat.le_of_ble_eq_true rfl) (Nat.le_of_ble_eq_true rfl) rfl (V_X12_isIn (by omega)  H) (k2_Z fun r3 s4 H => ?_)
  refine fs_if_ne (tgt := 164) dd_X12_number_152 (by decide) (fun hc => ?_) (fun hc => ?_)
  · replace H := H.1 (bi_1 hc)
    refine fs_iload (i := 4) dd_X12_number_164 rfl ?_
    exact fs_iret dd_X12_number_166 rfl H
  · replace H := H.2 (bi_0 hc)
    refine fs_aload_n (k0 := 0) (i := 0) dd_X12_number_155 rfl rfl ?_
    refine fs_iconst (n := 2) (v := 2) dd_X12_number_156 (by decide) ?_
    refine fs_aload_n (k0 := 0) (i := 0) dd_X12_number_157 rfl rfl ?_
    refine fs_geti (ci := 12) (j := 10) dd_X12_number_158 fl_X12_292 ca_196 rfl (Or.inl rfl) ?_
    refine fs_callV (y := m_X12_fail) (as := [.int 2, .int (s4.1 196 10)]) dd_X12_number_161 me_X12_fail lk_X12_282 in_X12_fail se_X12_fail ca_196 rfl rfl rfl (Nat.le_of_ble_eq_true rfl) (Nat.le_of_ble_eq_true rfl) rfl (V_X12_fail (by omega)  H) (k2_V fun s6 H => ?_)
    refine fs_iload (i := 4) dd_X12_number_164 rfl ?_
    exact fs_iret dd_X12_number_166 rfl H
set_option maxRecDepth 100000 in
set_option maxHeartbeats 4000000 in
theorem V_nd_X12_number_49 {g : fz_G} {l : Launch} {d : Nat} (hD : 1 ≤ d)   {K49 : Int32 → Int32 → Int32 → Int32 → fz_s → Prop} {Q : Int32 → fz_s → Prop} {v1 : Int32} {v2 : Int32} {v3 : Int32} {v4 : Int32} {s : fz_s} (hK49 : ∀ {v1 : Int32} {v2 : Int32} {v3 : Int32} {v4 : Int32} {s : fz_s}, K49 v1 v2 v3 v4 s → fs_V g l m_X12_number d false 49 [.ref 196, .int v1, .int v2, .int v3, .int v4] [] s (rI Q)) (H : nd_X12_number_49  K49 Q v1 v2 v3 v4 s) : fs_V g l m_X12_number d false 49 [.ref 196, .int v1, .int v2, .int v3, .int v4] [] s (rI Q) := by
  obtain ⟨d, rfl⟩ : ∃ e, d = e + 1 := ⟨d - 1, by omega⟩
  unfold nd_X12_number_49 at H
  refine fs_aload_n (k0 := 0) (i := 0) dd_X12_number_49 rfl rfl ?_
  refine fs_geti (ci := 12) (j := 2) dd_X12_number_50 fl_X12_258 ca_196 rfl (Or.inl rfl) ?_
  refine fs_aload_n (k0 := 0) (i := 0) dd_X12_number_53 rfl rfl ?_
  refine fs_geti (ci := 12) (j := 3) dd_X12_number_54 fl_X12_261 ca_196 rfl (Or.inl rfl) ?_
  refine fs_icmp_ge (tgt := 129) dd_X12_number_57 (by decide) (fun hc => ?_) (fun hc => ?_)
  · replace H := H.1 hc
    refine fs_weak (ls2 := [.ref 196, .int v1, .int v2, .int v3, .int v4]) (fz_le_e (fz_le_e (fz_le_e (fz_le_e (fz_le_e fz_le_n))))) ?_
    exact V_nd_X12_number_129 hD    H
  · replace H := H.2 hc
    refine fs_aload_n (k0 := 0) (i := 0) dd_X12_number_60 rfl rfl ?_
    refine fs_getr (ci := 12) (j := 0) (q := 197) dd_X12_number_61 fl_X12_7 ca_196 rfl (Or.inr ⟨_, rfl⟩) rfl (by decide) ?_
    refine fs_aload_n (k0 := 0) (i := 0) dd_X12_number_64 rfl rfl ?_
    refine fs_geti (ci := 12) (j := 2) dd_X12_number_65 fl_X12_258 ca_196 rfl (Or.inl rfl) ?_
    have hb := H.1
    replace H := H.2
    refine fs_iald dd_X12_number_68 ca_197 hb ?_
    refine fs_callS (y := m_X12_isDigit) (as := [.int (s.1 197 (s.1 196 2).toNatClampNeg)]) dd_X12_number_69 me_X12_isDigit (Or.inl lk_X12_289) st_X12_isDigit rfl (Nat.le_of_ble_eq_true rfl) (Nat.le_of_ble_eq_true rfl) rfl (V_X12_isDigit (by omega)  H) (k2_Z fun r1 s2 H => ?_)
    refine fs_if_eq (tgt := 129) dd_X12_number_72 (by decide) (fun hc => ?_) (fun hc => ?_)
    · replace H := H.1 (bi_0 hc)
      refine fs_weak (ls2 := [.ref 196, .int v1, .int v2, .int v3, .int v4]) (fz_le_e (fz_le_e (fz_le_e (fz_le_e (fz_le_e fz_le_n))))) ?_
      exact V_nd_X12_number_129 hD    H
    · replace H := H.2 (bi_1 hc)
      refine fs_aload_n (k0 := 0) (i := 0) dd_X12_number_75 rfl rfl ?_
      refine fs_geti (ci := 12) (j := 2) dd_X12_number_76 fl_X12_258 ca_196 rfl (Or.inl rfl) ?_
      refine fs_iload_n (k0 := 3) (i := 3) dd_X12_number_79 rfl rfl ?_
      refine fs_isub dd_X12_number_80 ?_
      refine fs_iconst (n := 4) (v := 4) dd_X12_number_81 (by decide) ?_
      refine fs_icmp_ne (tgt := 96) dd_X12_number_82 (by decide) (fun hc => ?_) (fun hc => ?_)
      · replace H := H.1 hc
        refine fs_bipush (n := 10) (v := 10) dd_X12_number_96 (by decide) ?_
        refine fs_iload (i := 4) dd_X12_number_98 rfl ?_
        refine fs_imul dd_X12_number_100 ?_
        refine fs_aload_n (k0 := 0) (i := 0) dd_X12_number_101 rfl rfl ?_
        refine fs_getr (ci := 12) (j := 0) (q := 197) dd_X12_number_102 fl_X12_7 ca_196 rfl (Or.inr ⟨_, rfl⟩) rfl (by decide) ?_
        refine fs_aload_n (k0 := 0) (i := 0) dd_X12_number_105 rfl rfl ?_
        refine fs_geti (ci := 12) (j := 2) dd_X12_number_106 fl_X12_258 ca_196 rfl (Or.inl rfl) ?_
        have hb := H.1
        replace H := H.2
        refine fs_iald dd_X12_number_109 ca_197 hb ?_
        refine fs_iadd dd_X12_number_110 ?_
        refine fs_bipush (n := 48) (v := 48) dd_X12_number_111 (by decide) ?_
        refine fs_isub dd_X12_number_113 ?_
        refine fs_topi (fun x3 hx3 => ?_)
        replace H := H x3 hx3
        refine fs_istore (i := 4) dd_X12_number_114 (by decide) ?_
        refine fs_aload_n (k0 := 0) (i := 0) dd_X12_number_116 rfl rfl ?_
        refine fs_dup dd_X12_number_117 rfl ?_
        refine fs_geti (ci := 12) (j := 2) dd_X12_number_118 fl_X12_258 ca_196 rfl (Or.inl rfl) ?_
        refine fs_iconst (n := 1) (v := 1) dd_X12_number_121 (by decide) ?_
        refine fs_iadd dd_X12_number_122 ?_
        refine fs_puti (ci := 12) (j := 2) dd_X12_number_123 fl_X12_258 (fun _ _ _ h => by cases h; rfl) ca_196 rfl (Or.inl rfl) ?_
        refine fs_tops (fun s4 hs4 => ?_)
        replace H := H s4 hs4
        refine fs_goto (tgt := 49) dd_X12_number_126 (by decide) ?_
        refine fs_weak (ls2 := [.ref 196, .int v1, .int v2, .int v3, .int x3]) (fz_le_e (fz_le_e (fz_le_e (fz_le_e (fz_le_e fz_le_n))))) ?_
        exact hK49 H
      · replace H := H.2 hc
        refine fs_aload_n (k0 := 0) (i := 0) dd_X12_number_85 rfl rfl ?_
        refine fs_iconst (n := 1) (v := 1) dd_X12_number_86 (by decide) ?_
        refine fs_aload_n (k0 := 0) (i := 0) dd_X12_number_87 rfl rfl ?_
        refine fs_geti (ci := 12) (j := 2) dd_X12_number_88 fl_X12_258 ca_196 rfl (Or.inl rfl) ?_
        refine fs_callV (y := m_X12_fail) (as := [.int 1, .int (s2.1 196 2)]) dd_X12_number_91 me_X12_fail lk_X12_282 in_X12_fail se_X12_fail ca_196 rfl rfl rfl (Nat.le_of_ble_eq_true rfl) (Nat.le_of_ble_eq_true rfl) rfl (V_X12_fail (by omega)  H) (k2_V fun s6 H => ?_)
        refine fs_iconst (n := 0) (v := 0) dd_X12_number_94 (by decide) ?_
        exact fs_iret dd_X12_number_95 rfl H
set_option maxRecDepth 100000 in
set_option maxHeartbeats 4000000 in
theorem V_lp_X12_number_49 {g : fz_G} {l : Launch} {d : Nat} (hD : 1 ≤ d)    {Q : Int32 → fz_s → Prop}  (n : Nat) : ∀ {v1 : Int32} {v2 : Int32} {v3 : Int32} {v4 : Int32} {s : fz_s}, lp_X12_number_49   Q n v1 v2 v3 v4 s → fs_V g l m_X12_number d false 49 [.ref 196, .int v1, .int v2, .int v3, .int v4] [] s (rI Q) := by
  induction n with
  | zero => intro v1 v2 v3 v4 s H; exact H.elim
  | succ n ih => intro v1 v2 v3 v4 s H; exact V_nd_X12_number_49 hD  (fun H => ih H) H
set_option maxRecDepth 100000 in
set_option maxHeartbeats 4000000 in
theorem V_nd_X12_number_30 {g : fz_G} {l : Launch} {d : Nat} (hD : 1 ≤ d)    {Q : Int32 → fz_s → Prop}  {s : fz_s}  (H : nd_X12_number_30   Q  s) : fs_V g l m_X12_number d false 30 [.ref 196, fz_J, fz_J, fz_J, fz_J] [] s (rI Q) := by
  obtain ⟨d, rfl⟩ : ∃ e, d = e + 1 := ⟨d - 1, by omega⟩
  unfold nd_X12_number_30 at H
  refine fs_aload_n (k0 := 0) (i := 0) dd_X12_number_30 rfl rfl ?_
  refine fs_iconst (n := 1) (v := 1) dd_X12_number_31 (by decide) ?_
  refine fs_aload_n (k0 := 0) (i := 0) dd_X12_number_32 rfl rfl ?_
  refine fs_geti (ci := 12) (j := 2) dd_X12_number_33 fl_X12_258 ca_196 rfl (Or.inl rfl) ?_
  refine fs_callV (y := m_X12_fail) (as := [.int 1, .int (s.1 196 2)]) dd_X12_number_36 me_X12_fail lk_X12_282 in_X12_fail se_X12_fail ca_196 rfl rfl rfl (Nat.le_of_ble_eq_true rfl) (Nat.le_of_ble_eq_true rfl) rfl (V_X12_fail (by omega)  H) (k2_V fun s2 H => ?_)
  refine fs_iconst (n := 0) (v := 0) dd_X12_number_39 (by decide) ?_
  exact fs_iret dd_X12_number_40 rfl H
set_option maxRecDepth 100000 in
set_option maxHeartbeats 4000000 in
theorem V_X12_number {g : fz_G} {l : Launch} {d : Nat} (hD : 1 ≤ d) {p0 : Int32} {p1 : Int32}  {s : fz_s} {Q : Int32 → fz_s → Prop} (H : wp_X12_number p0 p1 s Q) : fs_V g l m_X12_number d false 0 (fz_en [.ref 196, .int p0, .int p1] 5) [] s (rI Q) := by
  obtain ⟨d, rfl⟩ : ∃ e, d = e + 1 := ⟨d - 1, by omega⟩
  unfold wp_X12_number at H
  refine fs_aload_n (k0 := 0) (i := 0) dd_X12_number_0 rfl rfl ?_
  refine fs_geti (ci := 12) (j := 5) dd_X12_number_1 fl_X12_252 ca_196 rfl (Or.inl rfl) ?_
  refine fs_if_eq (tgt := 9) dd_X12_number_4 (by decide) (fun hc => ?_) (fun hc => ?_)
  · replace H := H.1 hc
    refine fs_aload_n (k0 := 0) (i := 0) dd_X12_number_9 rfl rfl ?_
    refine fs_callV (y := m_X12_look) (as := []) dd_X12_number_10 me_X12_look lk_X12_264 in_X12_look se_X12_look ca_196 rfl rfl rfl (Nat.le_of_ble_eq_true rfl) (Nat.le_of_ble_eq_true rfl) rfl (V_X12_look (by omega)  H) (k2_I fun r1 s2 H => ?_)
    refine fs_callS (y := m_X12_isDigit) (as := [.int r1]) dd_X12_number_13 me_X12_isDigit (Or.inl lk_X12_289) st_X12_isDigit rfl (Nat.le_of_ble_eq_true rfl) (Nat.le_of_ble_eq_true rfl) rfl (V_X12_isDigit (by omega)  H) (k2_Z fun r3 s4 H => ?_)
    refine fs_if_eq (tgt := 30) dd_X12_number_16 (by decide) (fun hc => ?_) (fun hc => ?_)
    · replace H := H.1 (bi_0 hc)
      refine fs_weak (ls2 := [.ref 196, fz_J, fz_J, fz_J, fz_J]) (fz_le_e (fz_le_j (fz_le_j (fz_le_j (fz_le_j fz_le_n))))) ?_
      exact V_nd_X12_number_30 hD    H
    · replace H := H.2 (bi_1 hc)
      refine fs_aload_n (k0 := 0) (i := 0) dd_X12_number_19 rfl rfl ?_
      refine fs_geti (ci := 12) (j := 2) dd_X12_number_20 fl_X12_258 ca_196 rfl (Or.inl rfl) ?_
      refine fs_aload_n (k0 := 0) (i := 0) dd_X12_number_23 rfl rfl ?_
      refine fs_geti (ci := 12) (j := 4) dd_X12_number_24 fl_X12_272 ca_196 rfl (Or.inl rfl) ?_
      refine fs_icmp_ne (tgt := 41) dd_X12_number_27 (by decide) (fun hc => ?_) (fun hc => ?_)
      · replace H := H.1 hc
        refine fs_aload_n (k0 := 0) (i := 0) dd_X12_number_41 rfl rfl ?_
        refine fs_geti (ci := 12) (j := 2) dd_X12_number_42 fl_X12_258 ca_196 rfl (Or.inl rfl) ?_
        refine fs_topi (fun x5 hx5 => ?_)
        replace H := H x5 hx5
        refine fs_istore_n (k0 := 3) (i := 3) dd_X12_number_45 rfl (by decide) ?_
        refine fs_iconst (n := 0) (v := 0) dd_X12_number_46 (by decide) ?_
        refine fs_istore (i := 4) dd_X12_number_47 (by decide) ?_
        refine fs_weak (ls2 := [.ref 196, .int p0, .int p1, .int x5, .int 0]) (fz_le_e (fz_le_e (fz_le_e (fz_le_e (fz_le_e fz_le_n))))) ?_
        exact V_lp_X12_number_49 hD    2048 H
      · replace H := H.2 hc
        refine fs_weak (ls2 := [.ref 196, fz_J, fz_J, fz_J, fz_J]) (fz_le_e (fz_le_j (fz_le_j (fz_le_j (fz_le_j fz_le_n))))) ?_
        exact V_nd_X12_number_30 hD    H
  · replace H := H.2 hc
    refine fs_iconst (n := 0) (v := 0) dd_X12_number_7 (by decide) ?_
    exact fs_iret dd_X12_number_8 rfl H
theorem dd_X12_isOwnHere_0 : decode m_X12_isOwnHere.2.1 0 = .ok (.aload_n 0, 1) := by decide +kernel
theorem dd_X12_isOwnHere_1 : decode m_X12_isOwnHere.2.1 1 = .ok (.aload_n 0, 1) := by decide +kernel
theorem dd_X12_isOwnHere_2 : decode m_X12_isOwnHere.2.1 2 = .ok (.getfield 20, 3) := by decide +kernel
theorem dd_X12_isOwnHere_5 : decode m_X12_isOwnHere.2.1 5 = .ok (.invokevirtual 275, 3) := by decide +kernel
theorem dd_X12_isOwnHere_8 : decode m_X12_isOwnHere.2.1 8 = .ok (.ifCond .ne 58, 3) := by decide +kernel
theorem dd_X12_isOwnHere_11 : decode m_X12_isOwnHere.2.1 11 = .ok (.aload_n 0, 1) := by decide +kernel
theorem dd_X12_isOwnHere_12 : decode m_X12_isOwnHere.2.1 12 = .ok (.aload_n 0, 1) := by decide +kernel
theorem dd_X12_isOwnHere_13 : decode m_X12_isOwnHere.2.1 13 = .ok (.getfield 24, 3) := by decide +kernel
theorem dd_X12_isOwnHere_16 : decode m_X12_isOwnHere.2.1 16 = .ok (.invokevirtual 275, 3) := by decide +kernel
theorem dd_X12_isOwnHere_19 : decode m_X12_isOwnHere.2.1 19 = .ok (.ifCond .ne 47, 3) := by decide +kernel
theorem dd_X12_isOwnHere_22 : decode m_X12_isOwnHere.2.1 22 = .ok (.aload_n 0, 1) := by decide +kernel
theorem dd_X12_isOwnHere_23 : decode m_X12_isOwnHere.2.1 23 = .ok (.aload_n 0, 1) := by decide +kernel
theorem dd_X12_isOwnHere_24 : decode m_X12_isOwnHere.2.1 24 = .ok (.getfield 27, 3) := by decide +kernel
theorem dd_X12_isOwnHere_27 : decode m_X12_isOwnHere.2.1 27 = .ok (.invokevirtual 275, 3) := by decide +kernel
theorem dd_X12_isOwnHere_30 : decode m_X12_isOwnHere.2.1 30 = .ok (.ifCond .ne 36, 3) := by decide +kernel
theorem dd_X12_isOwnHere_33 : decode m_X12_isOwnHere.2.1 33 = .ok (.aload_n 0, 1) := by decide +kernel
theorem dd_X12_isOwnHere_34 : decode m_X12_isOwnHere.2.1 34 = .ok (.aload_n 0, 1) := by decide +kernel
theorem dd_X12_isOwnHere_35 : decode m_X12_isOwnHere.2.1 35 = .ok (.getfield 30, 3) := by decide +kernel
theorem dd_X12_isOwnHere_38 : decode m_X12_isOwnHere.2.1 38 = .ok (.invokevirtual 275, 3) := by decide +kernel
theorem dd_X12_isOwnHere_41 : decode m_X12_isOwnHere.2.1 41 = .ok (.ifCond .ne 25, 3) := by decide +kernel
theorem dd_X12_isOwnHere_44 : decode m_X12_isOwnHere.2.1 44 = .ok (.aload_n 0, 1) := by decide +kernel
theorem dd_X12_isOwnHere_45 : decode m_X12_isOwnHere.2.1 45 = .ok (.aload_n 0, 1) := by decide +kernel
theorem dd_X12_isOwnHere_46 : decode m_X12_isOwnHere.2.1 46 = .ok (.getfield 33, 3) := by decide +kernel
theorem dd_X12_isOwnHere_49 : decode m_X12_isOwnHere.2.1 49 = .ok (.invokevirtual 275, 3) := by decide +kernel
theorem dd_X12_isOwnHere_52 : decode m_X12_isOwnHere.2.1 52 = .ok (.ifCond .ne 14, 3) := by decide +kernel
theorem dd_X12_isOwnHere_55 : decode m_X12_isOwnHere.2.1 55 = .ok (.aload_n 0, 1) := by decide +kernel
theorem dd_X12_isOwnHere_56 : decode m_X12_isOwnHere.2.1 56 = .ok (.aload_n 0, 1) := by decide +kernel
theorem dd_X12_isOwnHere_57 : decode m_X12_isOwnHere.2.1 57 = .ok (.getfield 36, 3) := by decide +kernel
theorem dd_X12_isOwnHere_60 : decode m_X12_isOwnHere.2.1 60 = .ok (.invokevirtual 275, 3) := by decide +kernel
theorem dd_X12_isOwnHere_63 : decode m_X12_isOwnHere.2.1 63 = .ok (.ifCond .eq 7, 3) := by decide +kernel
theorem dd_X12_isOwnHere_66 : decode m_X12_isOwnHere.2.1 66 = .ok (.iconst 1, 1) := by decide +kernel
theorem dd_X12_isOwnHere_67 : decode m_X12_isOwnHere.2.1 67 = .ok (.goto 4, 3) := by decide +kernel
theorem dd_X12_isOwnHere_70 : decode m_X12_isOwnHere.2.1 70 = .ok (.iconst 0, 1) := by decide +kernel
theorem dd_X12_isOwnHere_71 : decode m_X12_isOwnHere.2.1 71 = .ok (.istore_n 1, 1) := by decide +kernel
theorem dd_X12_isOwnHere_72 : decode m_X12_isOwnHere.2.1 72 = .ok (.iload_n 1, 1) := by decide +kernel
theorem dd_X12_isOwnHere_73 : decode m_X12_isOwnHere.2.1 73 = .ok (.ifCond .ne 69, 3) := by decide +kernel
theorem dd_X12_isOwnHere_76 : decode m_X12_isOwnHere.2.1 76 = .ok (.aload_n 0, 1) := by decide +kernel
theorem dd_X12_isOwnHere_77 : decode m_X12_isOwnHere.2.1 77 = .ok (.aload_n 0, 1) := by decide +kernel
theorem dd_X12_isOwnHere_78 : decode m_X12_isOwnHere.2.1 78 = .ok (.getfield 39, 3) := by decide +kernel
theorem dd_X12_isOwnHere_81 : decode m_X12_isOwnHere.2.1 81 = .ok (.invokevirtual 275, 3) := by decide +kernel
theorem dd_X12_isOwnHere_84 : decode m_X12_isOwnHere.2.1 84 = .ok (.ifCond .ne 58, 3) := by decide +kernel
theorem dd_X12_isOwnHere_87 : decode m_X12_isOwnHere.2.1 87 = .ok (.aload_n 0, 1) := by decide +kernel
theorem dd_X12_isOwnHere_88 : decode m_X12_isOwnHere.2.1 88 = .ok (.aload_n 0, 1) := by decide +kernel
theorem dd_X12_isOwnHere_89 : decode m_X12_isOwnHere.2.1 89 = .ok (.getfield 42, 3) := by decide +kernel
theorem dd_X12_isOwnHere_92 : decode m_X12_isOwnHere.2.1 92 = .ok (.invokevirtual 275, 3) := by decide +kernel
theorem dd_X12_isOwnHere_95 : decode m_X12_isOwnHere.2.1 95 = .ok (.ifCond .ne 47, 3) := by decide +kernel
theorem dd_X12_isOwnHere_98 : decode m_X12_isOwnHere.2.1 98 = .ok (.aload_n 0, 1) := by decide +kernel
theorem dd_X12_isOwnHere_99 : decode m_X12_isOwnHere.2.1 99 = .ok (.aload_n 0, 1) := by decide +kernel
theorem dd_X12_isOwnHere_100 : decode m_X12_isOwnHere.2.1 100 = .ok (.getfield 45, 3) := by decide +kernel
theorem dd_X12_isOwnHere_103 : decode m_X12_isOwnHere.2.1 103 = .ok (.invokevirtual 275, 3) := by decide +kernel
theorem dd_X12_isOwnHere_106 : decode m_X12_isOwnHere.2.1 106 = .ok (.ifCond .ne 36, 3) := by decide +kernel
theorem dd_X12_isOwnHere_109 : decode m_X12_isOwnHere.2.1 109 = .ok (.aload_n 0, 1) := by decide +kernel
theorem dd_X12_isOwnHere_110 : decode m_X12_isOwnHere.2.1 110 = .ok (.aload_n 0, 1) := by decide +kernel
theorem dd_X12_isOwnHere_111 : decode m_X12_isOwnHere.2.1 111 = .ok (.getfield 48, 3) := by decide +kernel
theorem dd_X12_isOwnHere_114 : decode m_X12_isOwnHere.2.1 114 = .ok (.invokevirtual 275, 3) := by decide +kernel
theorem dd_X12_isOwnHere_117 : decode m_X12_isOwnHere.2.1 117 = .ok (.ifCond .ne 25, 3) := by decide +kernel
theorem dd_X12_isOwnHere_120 : decode m_X12_isOwnHere.2.1 120 = .ok (.aload_n 0, 1) := by decide +kernel
theorem dd_X12_isOwnHere_121 : decode m_X12_isOwnHere.2.1 121 = .ok (.aload_n 0, 1) := by decide +kernel
theorem dd_X12_isOwnHere_122 : decode m_X12_isOwnHere.2.1 122 = .ok (.getfield 51, 3) := by decide +kernel
theorem dd_X12_isOwnHere_125 : decode m_X12_isOwnHere.2.1 125 = .ok (.invokevirtual 275, 3) := by decide +kernel
theorem dd_X12_isOwnHere_128 : decode m_X12_isOwnHere.2.1 128 = .ok (.ifCond .ne 14, 3) := by decide +kernel
theorem dd_X12_isOwnHere_131 : decode m_X12_isOwnHere.2.1 131 = .ok (.aload_n 0, 1) := by decide +kernel
theorem dd_X12_isOwnHere_132 : decode m_X12_isOwnHere.2.1 132 = .ok (.aload_n 0, 1) := by decide +kernel
theorem dd_X12_isOwnHere_133 : decode m_X12_isOwnHere.2.1 133 = .ok (.getfield 54, 3) := by decide +kernel
theorem dd_X12_isOwnHere_136 : decode m_X12_isOwnHere.2.1 136 = .ok (.invokevirtual 275, 3) := by decide +kernel
theorem dd_X12_isOwnHere_139 : decode m_X12_isOwnHere.2.1 139 = .ok (.ifCond .eq 7, 3) := by decide +kernel
theorem dd_X12_isOwnHere_142 : decode m_X12_isOwnHere.2.1 142 = .ok (.iconst 1, 1) := by decide +kernel
theorem dd_X12_isOwnHere_143 : decode m_X12_isOwnHere.2.1 143 = .ok (.goto 4, 3) := by decide +kernel
theorem dd_X12_isOwnHere_146 : decode m_X12_isOwnHere.2.1 146 = .ok (.iconst 0, 1) := by decide +kernel
theorem dd_X12_isOwnHere_147 : decode m_X12_isOwnHere.2.1 147 = .ok (.istore_n 1, 1) := by decide +kernel
theorem dd_X12_isOwnHere_148 : decode m_X12_isOwnHere.2.1 148 = .ok (.iload_n 1, 1) := by decide +kernel
theorem dd_X12_isOwnHere_149 : decode m_X12_isOwnHere.2.1 149 = .ok (.ifCond .ne 69, 3) := by decide +kernel
theorem dd_X12_isOwnHere_152 : decode m_X12_isOwnHere.2.1 152 = .ok (.aload_n 0, 1) := by decide +kernel
theorem dd_X12_isOwnHere_153 : decode m_X12_isOwnHere.2.1 153 = .ok (.aload_n 0, 1) := by decide +kernel
theorem dd_X12_isOwnHere_154 : decode m_X12_isOwnHere.2.1 154 = .ok (.getfield 57, 3) := by decide +kernel
theorem dd_X12_isOwnHere_157 : decode m_X12_isOwnHere.2.1 157 = .ok (.invokevirtual 275, 3) := by decide +kernel
theorem dd_X12_isOwnHere_160 : decode m_X12_isOwnHere.2.1 160 = .ok (.ifCond .ne 58, 3) := by decide +kernel
theorem dd_X12_isOwnHere_163 : decode m_X12_isOwnHere.2.1 163 = .ok (.aload_n 0, 1) := by decide +kernel
theorem dd_X12_isOwnHere_164 : decode m_X12_isOwnHere.2.1 164 = .ok (.aload_n 0, 1) := by decide +kernel
theorem dd_X12_isOwnHere_165 : decode m_X12_isOwnHere.2.1 165 = .ok (.getfield 60, 3) := by decide +kernel
theorem dd_X12_isOwnHere_168 : decode m_X12_isOwnHere.2.1 168 = .ok (.invokevirtual 275, 3) := by decide +kernel
theorem dd_X12_isOwnHere_171 : decode m_X12_isOwnHere.2.1 171 = .ok (.ifCond .ne 47, 3) := by decide +kernel
theorem dd_X12_isOwnHere_174 : decode m_X12_isOwnHere.2.1 174 = .ok (.aload_n 0, 1) := by decide +kernel
theorem dd_X12_isOwnHere_175 : decode m_X12_isOwnHere.2.1 175 = .ok (.aload_n 0, 1) := by decide +kernel
theorem dd_X12_isOwnHere_176 : decode m_X12_isOwnHere.2.1 176 = .ok (.getfield 63, 3) := by decide +kernel
theorem dd_X12_isOwnHere_179 : decode m_X12_isOwnHere.2.1 179 = .ok (.invokevirtual 275, 3) := by decide +kernel
theorem dd_X12_isOwnHere_182 : decode m_X12_isOwnHere.2.1 182 = .ok (.ifCond .ne 36, 3) := by decide +kernel
theorem dd_X12_isOwnHere_185 : decode m_X12_isOwnHere.2.1 185 = .ok (.aload_n 0, 1) := by decide +kernel
theorem dd_X12_isOwnHere_186 : decode m_X12_isOwnHere.2.1 186 = .ok (.aload_n 0, 1) := by decide +kernel
theorem dd_X12_isOwnHere_187 : decode m_X12_isOwnHere.2.1 187 = .ok (.getfield 66, 3) := by decide +kernel
theorem dd_X12_isOwnHere_190 : decode m_X12_isOwnHere.2.1 190 = .ok (.invokevirtual 275, 3) := by decide +kernel
theorem dd_X12_isOwnHere_193 : decode m_X12_isOwnHere.2.1 193 = .ok (.ifCond .ne 25, 3) := by decide +kernel
theorem dd_X12_isOwnHere_196 : decode m_X12_isOwnHere.2.1 196 = .ok (.aload_n 0, 1) := by decide +kernel
theorem dd_X12_isOwnHere_197 : decode m_X12_isOwnHere.2.1 197 = .ok (.aload_n 0, 1) := by decide +kernel
theorem dd_X12_isOwnHere_198 : decode m_X12_isOwnHere.2.1 198 = .ok (.getfield 69, 3) := by decide +kernel
theorem dd_X12_isOwnHere_201 : decode m_X12_isOwnHere.2.1 201 = .ok (.invokevirtual 275, 3) := by decide +kernel
theorem dd_X12_isOwnHere_204 : decode m_X12_isOwnHere.2.1 204 = .ok (.ifCond .ne 14, 3) := by decide +kernel
theorem dd_X12_isOwnHere_207 : decode m_X12_isOwnHere.2.1 207 = .ok (.aload_n 0, 1) := by decide +kernel
theorem dd_X12_isOwnHere_208 : decode m_X12_isOwnHere.2.1 208 = .ok (.aload_n 0, 1) := by decide +kernel
theorem dd_X12_isOwnHere_209 : decode m_X12_isOwnHere.2.1 209 = .ok (.getfield 72, 3) := by decide +kernel
theorem dd_X12_isOwnHere_212 : decode m_X12_isOwnHere.2.1 212 = .ok (.invokevirtual 275, 3) := by decide +kernel
theorem dd_X12_isOwnHere_215 : decode m_X12_isOwnHere.2.1 215 = .ok (.ifCond .eq 7, 3) := by decide +kernel
theorem dd_X12_isOwnHere_218 : decode m_X12_isOwnHere.2.1 218 = .ok (.iconst 1, 1) := by decide +kernel
theorem dd_X12_isOwnHere_219 : decode m_X12_isOwnHere.2.1 219 = .ok (.goto 4, 3) := by decide +kernel
theorem dd_X12_isOwnHere_222 : decode m_X12_isOwnHere.2.1 222 = .ok (.iconst 0, 1) := by decide +kernel
theorem dd_X12_isOwnHere_223 : decode m_X12_isOwnHere.2.1 223 = .ok (.istore_n 1, 1) := by decide +kernel
theorem dd_X12_isOwnHere_224 : decode m_X12_isOwnHere.2.1 224 = .ok (.iload_n 1, 1) := by decide +kernel
theorem dd_X12_isOwnHere_225 : decode m_X12_isOwnHere.2.1 225 = .ok (.ifCond .ne 69, 3) := by decide +kernel
theorem dd_X12_isOwnHere_228 : decode m_X12_isOwnHere.2.1 228 = .ok (.aload_n 0, 1) := by decide +kernel
theorem dd_X12_isOwnHere_229 : decode m_X12_isOwnHere.2.1 229 = .ok (.aload_n 0, 1) := by decide +kernel
theorem dd_X12_isOwnHere_230 : decode m_X12_isOwnHere.2.1 230 = .ok (.getfield 75, 3) := by decide +kernel
theorem dd_X12_isOwnHere_233 : decode m_X12_isOwnHere.2.1 233 = .ok (.invokevirtual 275, 3) := by decide +kernel
theorem dd_X12_isOwnHere_236 : decode m_X12_isOwnHere.2.1 236 = .ok (.ifCond .ne 58, 3) := by decide +kernel
theorem dd_X12_isOwnHere_239 : decode m_X12_isOwnHere.2.1 239 = .ok (.aload_n 0, 1) := by decide +kernel
theorem dd_X12_isOwnHere_240 : decode m_X12_isOwnHere.2.1 240 = .ok (.aload_n 0, 1) := by decide +kernel
theorem dd_X12_isOwnHere_241 : decode m_X12_isOwnHere.2.1 241 = .ok (.getfield 78, 3) := by decide +kernel
theorem dd_X12_isOwnHere_244 : decode m_X12_isOwnHere.2.1 244 = .ok (.invokevirtual 275, 3) := by decide +kernel
theorem dd_X12_isOwnHere_247 : decode m_X12_isOwnHere.2.1 247 = .ok (.ifCond .ne 47, 3) := by decide +kernel
theorem dd_X12_isOwnHere_250 : decode m_X12_isOwnHere.2.1 250 = .ok (.aload_n 0, 1) := by decide +kernel
theorem dd_X12_isOwnHere_251 : decode m_X12_isOwnHere.2.1 251 = .ok (.aload_n 0, 1) := by decide +kernel
theorem dd_X12_isOwnHere_252 : decode m_X12_isOwnHere.2.1 252 = .ok (.getfield 81, 3) := by decide +kernel
theorem dd_X12_isOwnHere_255 : decode m_X12_isOwnHere.2.1 255 = .ok (.invokevirtual 275, 3) := by decide +kernel
theorem dd_X12_isOwnHere_258 : decode m_X12_isOwnHere.2.1 258 = .ok (.ifCond .ne 36, 3) := by decide +kernel
theorem dd_X12_isOwnHere_261 : decode m_X12_isOwnHere.2.1 261 = .ok (.aload_n 0, 1) := by decide +kernel
theorem dd_X12_isOwnHere_262 : decode m_X12_isOwnHere.2.1 262 = .ok (.aload_n 0, 1) := by decide +kernel
theorem dd_X12_isOwnHere_263 : decode m_X12_isOwnHere.2.1 263 = .ok (.getfield 84, 3) := by decide +kernel
theorem dd_X12_isOwnHere_266 : decode m_X12_isOwnHere.2.1 266 = .ok (.invokevirtual 275, 3) := by decide +kernel
theorem dd_X12_isOwnHere_269 : decode m_X12_isOwnHere.2.1 269 = .ok (.ifCond .ne 25, 3) := by decide +kernel
theorem dd_X12_isOwnHere_272 : decode m_X12_isOwnHere.2.1 272 = .ok (.aload_n 0, 1) := by decide +kernel
theorem dd_X12_isOwnHere_273 : decode m_X12_isOwnHere.2.1 273 = .ok (.aload_n 0, 1) := by decide +kernel
theorem dd_X12_isOwnHere_274 : decode m_X12_isOwnHere.2.1 274 = .ok (.getfield 87, 3) := by decide +kernel
theorem dd_X12_isOwnHere_277 : decode m_X12_isOwnHere.2.1 277 = .ok (.invokevirtual 275, 3) := by decide +kernel
theorem dd_X12_isOwnHere_280 : decode m_X12_isOwnHere.2.1 280 = .ok (.ifCond .ne 14, 3) := by decide +kernel
theorem dd_X12_isOwnHere_283 : decode m_X12_isOwnHere.2.1 283 = .ok (.aload_n 0, 1) := by decide +kernel
theorem dd_X12_isOwnHere_284 : decode m_X12_isOwnHere.2.1 284 = .ok (.aload_n 0, 1) := by decide +kernel
theorem dd_X12_isOwnHere_285 : decode m_X12_isOwnHere.2.1 285 = .ok (.getfield 90, 3) := by decide +kernel
theorem dd_X12_isOwnHere_288 : decode m_X12_isOwnHere.2.1 288 = .ok (.invokevirtual 275, 3) := by decide +kernel
theorem dd_X12_isOwnHere_291 : decode m_X12_isOwnHere.2.1 291 = .ok (.ifCond .eq 7, 3) := by decide +kernel
theorem dd_X12_isOwnHere_294 : decode m_X12_isOwnHere.2.1 294 = .ok (.iconst 1, 1) := by decide +kernel
theorem dd_X12_isOwnHere_295 : decode m_X12_isOwnHere.2.1 295 = .ok (.goto 4, 3) := by decide +kernel
theorem dd_X12_isOwnHere_298 : decode m_X12_isOwnHere.2.1 298 = .ok (.iconst 0, 1) := by decide +kernel
theorem dd_X12_isOwnHere_299 : decode m_X12_isOwnHere.2.1 299 = .ok (.istore_n 1, 1) := by decide +kernel
theorem dd_X12_isOwnHere_300 : decode m_X12_isOwnHere.2.1 300 = .ok (.iload_n 1, 1) := by decide +kernel
theorem dd_X12_isOwnHere_301 : decode m_X12_isOwnHere.2.1 301 = .ok (.ifCond .ne 25, 3) := by decide +kernel
theorem dd_X12_isOwnHere_304 : decode m_X12_isOwnHere.2.1 304 = .ok (.aload_n 0, 1) := by decide +kernel
theorem dd_X12_isOwnHere_305 : decode m_X12_isOwnHere.2.1 305 = .ok (.aload_n 0, 1) := by decide +kernel
theorem dd_X12_isOwnHere_306 : decode m_X12_isOwnHere.2.1 306 = .ok (.getfield 93, 3) := by decide +kernel
theorem dd_X12_isOwnHere_309 : decode m_X12_isOwnHere.2.1 309 = .ok (.invokevirtual 275, 3) := by decide +kernel
theorem dd_X12_isOwnHere_312 : decode m_X12_isOwnHere.2.1 312 = .ok (.ifCond .ne 14, 3) := by decide +kernel
theorem dd_X12_isOwnHere_315 : decode m_X12_isOwnHere.2.1 315 = .ok (.aload_n 0, 1) := by decide +kernel
theorem dd_X12_isOwnHere_316 : decode m_X12_isOwnHere.2.1 316 = .ok (.aload_n 0, 1) := by decide +kernel
theorem dd_X12_isOwnHere_317 : decode m_X12_isOwnHere.2.1 317 = .ok (.getfield 96, 3) := by decide +kernel
theorem dd_X12_isOwnHere_320 : decode m_X12_isOwnHere.2.1 320 = .ok (.invokevirtual 275, 3) := by decide +kernel
theorem dd_X12_isOwnHere_323 : decode m_X12_isOwnHere.2.1 323 = .ok (.ifCond .eq 7, 3) := by decide +kernel
theorem dd_X12_isOwnHere_326 : decode m_X12_isOwnHere.2.1 326 = .ok (.iconst 1, 1) := by decide +kernel
theorem dd_X12_isOwnHere_327 : decode m_X12_isOwnHere.2.1 327 = .ok (.goto 4, 3) := by decide +kernel
theorem dd_X12_isOwnHere_330 : decode m_X12_isOwnHere.2.1 330 = .ok (.iconst 0, 1) := by decide +kernel
theorem dd_X12_isOwnHere_331 : decode m_X12_isOwnHere.2.1 331 = .ok (.istore_n 1, 1) := by decide +kernel
theorem dd_X12_isOwnHere_332 : decode m_X12_isOwnHere.2.1 332 = .ok (.iload_n 1, 1) := by decide +kernel
theorem dd_X12_isOwnHere_333 : decode m_X12_isOwnHere.2.1 333 = .ok (.ireturn, 1) := by decide +kernel
def nd_X12_isOwnHere_299   (Q : Bool → fz_s → Prop) (u0 : Bool) (s : fz_s) : Prop :=
  ((u0 = true → Q true s) ∧ (u0 = false → wp_X12_isHere 223 3 s (fun r1 s2 => ((r1 = true → Q true s2) ∧ (r1 = false → wp_X12_isHere 224 3 s2 (fun r3 s4 => ((r3 = false → Q false s4) ∧ (r3 = true → Q true s4))))))))
def nd_X12_isOwnHere_223   (Q : Bool → fz_s → Prop) (u0 : Bool) (s : fz_s) : Prop :=
  ((u0 = true → nd_X12_isOwnHere_299   Q true s) ∧ (u0 = false → wp_X12_isHere 217 5 s (fun r1 s2 => ((r1 = true → nd_X12_isOwnHere_299   Q true s2) ∧ (r1 = false → wp_X12_isHere 218 4 s2 (fun r3 s4 => ((r3 = true → nd_X12_isOwnHere_299   Q true s4) ∧ (r3 = false → wp_X12_isHere 219 2 s4 (fun r5 s6 => ((r5 = true → nd_X12_isOwnHere_299   Q true s6) ∧ (r5 = false → wp_X12_isHere 220 3 s6 (fun r7 s8 => ((r7 = true → nd_X12_isOwnHere_299   Q true s8) ∧ (r7 = false → wp_X12_isHere 221 3 s8 (fun r9 s10 => ((r9 = true → nd_X12_isOwnHere_299   Q true s10) ∧ (r9 = false → wp_X12_isHere 222 3 s10 (fun r11 s12 => ((r11 = false → nd_X12_isOwnHere_299   Q false s12) ∧ (r11 = true → nd_X12_isOwnHere_299   Q true s12))))))))))))))))))))
def nd_X12_isOwnHere_147   (Q : Bool → fz_s → Prop) (u0 : Bool) (s : fz_s) : Prop :=
  ((u0 = true → nd_X12_isOwnHere_223   Q true s) ∧ (u0 = false → wp_X12_isHere 211 5 s (fun r1 s2 => ((r1 = true → nd_X12_isOwnHere_223   Q true s2) ∧ (r1 = false → wp_X12_isHere 212 4 s2 (fun r3 s4 => ((r3 = true → nd_X12_isOwnHere_223   Q true s4) ∧ (r3 = false → wp_X12_isHere 213 4 s4 (fun r5 s6 => ((r5 = true → nd_X12_isOwnHere_223   Q true s6) ∧ (r5 = false → wp_X12_isHere 214 4 s6 (fun r7 s8 => ((r7 = true → nd_X12_isOwnHere_223   Q true s8) ∧ (r7 = false → wp_X12_isHere 215 6 s8 (fun r9 s10 => ((r9 = true → nd_X12_isOwnHere_223   Q true s10) ∧ (r9 = false → wp_X12_isHere 216 6 s10 (fun r11 s12 => ((r11 = false → nd_X12_isOwnHere_223   Q false s12) ∧ (r11 = true → nd_X12_isOwnHere_223   Q true s12))))))))))))))))))))
def nd_X12_isOwnHere_71   (Q : Bool → fz_s → Prop) (u0 : Bool) (s : fz_s) : Prop :=
  ((u0 = true → nd_X12_isOwnHere_147   Q true s) ∧ (u0 = false → wp_X12_isHere 205 4 s (fun r1 s2 => ((r1 = true → nd_X12_isOwnHere_147   Q true s2) ∧ (r1 = false → wp_X12_isHere 206 5 s2 (fun r3 s4 => ((r3 = true → nd_X12_isOwnHere_147   Q true s4) ∧ (r3 = false → wp_X12_isHere 207 5 s4 (fun r5 s6 => ((r5 = true → nd_X12_isOwnHere_147   Q true s6) ∧ (r5 = false → wp_X12_isHere 208 5 s6 (fun r7 s8 => ((r7 = true → nd_X12_isOwnHere_147   Q true s8) ∧ (r7 = false → wp_X12_isHere 209 4 s8 (fun r9 s10 => ((r9 = true → nd_X12_isOwnHere_147   Q true s10) ∧ (r9 = false → wp_X12_isHere 210 6 s10 (fun r11 s12 => ((r11 = false → nd_X12_isOwnHere_147   Q false s12) ∧ (r11 = true → nd_X12_isOwnHere_147   Q true s12))))))))))))))))))))
def wp_X12_isOwnHere  (s : fz_s) (Q : Bool → fz_s → Prop) : Prop :=
  wp_X12_isHere 199 7 s (fun r1 s2 => ((r1 = true → nd_X12_isOwnHere_71   Q true s2) ∧ (r1 = false → wp_X12_isHere 200 7 s2 (fun r3 s4 => ((r3 = true → nd_X12_isOwnHere_71   Q true s4) ∧ (r3 = false → wp_X12_isHere 201 7 s4 (fun r5 s6 => ((r5 = true → nd_X12_isOwnHere_71   Q true s6) ∧ (r5 = false → wp_X12_isHere 202 6 s6 (fun r7 s8 => ((r7 = true → nd_X12_isOwnHere_71   Q true s8) ∧ (r7 = false → wp_X12_isHere 203 2 s8 (fun r9 s10 => ((r9 = true → nd_X12_isOwnHere_71   Q true s10) ∧ (r9 = false → wp_X12_isHere 204 4 s10 (fun r11 s12 => ((r11 = false → nd_X12_isOwnHere_71   Q false s12) ∧ (r11 = true → nd_X12_isOwnHere_71   Q true s12))))))))))))))))))
set_option maxRecDepth 100000 in
set_option maxHeartbeats 4000000 in
theorem V_nd_X12_isOwnHere_299 {g : fz_G} {l : Launch} {d : Nat} (hD : 2 ≤ d)    {Q : Bool → fz_s → Prop} {u0 : Bool} {s : fz_s}  (H : nd_X12_isOwnHere_299   Q u0 s) : fs_V g l m_X12_isOwnHere d false 299 [.ref 196, fz_J] [.int (bi u0)] s (rZ Q) := by
  obtain ⟨d, rfl⟩ : ∃ e, d = e + 1 := ⟨d - 1, by omega⟩
  unfold nd_X12_isOwnHere_299 at H
  refine fs_istore_n (k0 := 1) (i := 1) dd_X12_isOwnHere_299 rfl (by decide) ?_
  refine fs_iload_n (k0 := 1) (i := 1) dd_X12_isOwnHere_300 rfl rfl ?_
  refine fs_if_ne (tgt := 326) dd_X12_isOwnHere_301 (by decide) (fun hc => ?_) (fun hc => ?_)
  · replace H := H.1 (bi_1 hc)
    refine fs_iconst (n := 1) (v := 1) dd_X12_isOwnHere_326 (by decide) ?_
    refine fs_goto (tgt := 331) dd_X12_isOwnHere_327 (by decide) ?_
    refine fs_istore_n (k0 := 1) (i := 1) dd_X12_isOwnHere_331 rfl (by decide) ?_
    refine fs_iload_n (k0 := 1) (i := 1) dd_X12_isOwnHere_332 rfl rfl ?_
    exact fs_zret true dd_X12_isOwnHere_333 rfl rfl H
  · replace H := H.2 (bi_0 hc)
    refine fs_aload_n (k0 := 0) (i := 0) dd_X12_isOwnHere_304 rfl rfl ?_
    refine fs_aload_n (k0 := 0) (i := 0) dd_X12_isOwnHere_305 rfl rfl ?_
    refine fs_getr (ci := 12) (j := 35) (q := 223) dd_X12_isOwnHere_306 fl_X12_93 ca_196 rfl (Or.inr ⟨_, rfl⟩) rfl (by decide) ?_
    refine fs_callV (y := m_X12_isHere) (as := [.ref 223]) dd_X12_isOwnHere_309 me_X12_isHere lk_X12_275 in_X12_isHere se_X12_isHere ca_196 rfl rfl rfl (Nat.le_of_ble_eq_true rfl) (Nat.le_of_ble_eq_true rfl) rfl (V_X12_isHere (by omega) ca_223 H) (k2_Z fun r1 s2 H => ?_)
    refine fs_if_ne (tgt := 326) dd_X12_isOwnHere_312 (by decide) (fun hc => ?_) (fun hc => ?_)
    · replace H := H.1 (bi_1 hc)
      refine fs_iconst (n := 1) (v := 1) dd_X12_isOwnHere_326 (by decide) ?_
      refine fs_goto (tgt := 331) dd_X12_isOwnHere_327 (by decide) ?_
      refine fs_istore_n (k0 := 1) (i := 1) dd_X12_isOwnHere_331 rfl (by decide) ?_
      refine fs_iload_n (k0 := 1) (i := 1) dd_X12_isOwnHere_332 rfl rfl ?_
      exact fs_zret true dd_X12_isOwnHere_333 rfl rfl H
    · replace H := H.2 (bi_0 hc)
      refine fs_aload_n (k0 := 0) (i := 0) dd_X12_isOwnHere_315 rfl rfl ?_
      refine fs_aload_n (k0 := 0) (i := 0) dd_X12_isOwnHere_316 rfl rfl ?_
      refine fs_getr (ci := 12) (j := 36) (q := 224) dd_X12_isOwnHere_317 fl_X12_96 ca_196 rfl (Or.inr ⟨_, rfl⟩) rfl (by decide) ?_
      refine fs_callV (y := m_X12_isHere) (as := [.ref 224]) dd_X12_isOwnHere_320 me_X12_isHere lk_X12_275 in_X12_isHere se_X12_isHere ca_196 rfl rfl rfl (Nat.le_of_ble_eq_true rfl) (Nat.le_of_ble_eq_true rfl) rfl (V_X12_isHere (by omega) ca_224 H) (k2_Z fun r3 s4 H => ?_)
      refine fs_if_eq (tgt := 330) dd_X12_isOwnHere_323 (by decide) (fun hc => ?_) (fun hc => ?_)
      · replace H := H.1 (bi_0 hc)
        refine fs_iconst (n := 0) (v := 0) dd_X12_isOwnHere_330 (by decide) ?_
        refine fs_istore_n (k0 := 1) (i := 1) dd_X12_isOwnHere_331 rfl (by decide) ?_
        refine fs_iload_n (k0 := 1) (i := 1) dd_X12_isOwnHere_332 rfl rfl ?_
        exact fs_zret false dd_X12_isOwnHere_333 rfl rfl H
      · replace H := H.2 (bi_1 hc)
        refine fs_iconst (n := 1) (v := 1) dd_X12_isOwnHere_326 (by decide) ?_
        refine fs_goto (tgt := 331) dd_X12_isOwnHere_327 (by decide) ?_
        refine fs_istore_n (k0 := 1) (i := 1) dd_X12_isOwnHere_331 rfl (by decide) ?_
        refine fs_iload_n (k0 := 1) (i := 1) dd_X12_isOwnHere_332 rfl rfl ?_
        exact fs_zret true dd_X12_isOwnHere_333 rfl rfl H
set_option maxRecDepth 100000 in
set_option maxHeartbeats 4000000 in
theorem V_nd_X12_isOwnHere_223 {g : fz_G} {l : Launch} {d : Nat} (hD : 2 ≤ d)    {Q : Bool → fz_s → Prop} {u0 : Bool} {s : fz_s}  (H : nd_X12_isOwnHere_223   Q u0 s) : fs_V g l m_X12_isOwnHere d false 223 [.ref 196, fz_J] [.int (bi u0)] s (rZ Q) := by
  obtain ⟨d, rfl⟩ : ∃ e, d = e + 1 := ⟨d - 1, by omega⟩
  unfold nd_X12_isOwnHere_223 at H
  refine fs_istore_n (k0 := 1) (i := 1) dd_X12_isOwnHere_223 rfl (by decide) ?_
  refine fs_iload_n (k0 := 1) (i := 1) dd_X12_isOwnHere_224 rfl rfl ?_
  refine fs_if_ne (tgt := 294) dd_X12_isOwnHere_225 (by decide) (fun hc => ?_) (fun hc => ?_)
  · replace H := H.1 (bi_1 hc)
    refine fs_iconst (n := 1) (v := 1) dd_X12_isOwnHere_294 (by decide) ?_
    refine fs_goto (tgt := 299) dd_X12_isOwnHere_295 (by decide) ?_
    refine fs_weak (ls2 := [.ref 196, fz_J]) (fz_le_e (fz_le_j fz_le_n)) ?_
    exact V_nd_X12_isOwnHere_299 hD    H
  · replace H := H.2 (bi_0 hc)
    refine fs_aload_n (k0 := 0) (i := 0) dd_X12_isOwnHere_228 rfl rfl ?_
    refine fs_aload_n (k0 := 0) (i := 0) dd_X12_isOwnHere_229 rfl rfl ?_
    refine fs_getr (ci := 12) (j := 29) (q := 217) dd_X12_isOwnHere_230 fl_X12_75 ca_196 rfl (Or.inr ⟨_, rfl⟩) rfl (by decide) ?_
    refine fs_callV (y := m_X12_isHere) (as := [.ref 217]) dd_X12_isOwnHere_233 me_X12_isHere lk_X12_275 in_X12_isHere se_X12_isHere ca_196 rfl rfl rfl (Nat.le_of_ble_eq_true rfl) (Nat.le_of_ble_eq_true rfl) rfl (V_X12_isHere (by omega) ca_217 H) (k2_Z fun r1 s2 H => ?_)
    refine fs_if_ne (tgt := 294) dd_X12_isOwnHere_236 (by decide) (fun hc => ?_) (fun hc => ?_)
    · replace H := H.1 (bi_1 hc)
      refine fs_iconst (n := 1) (v := 1) dd_X12_isOwnHere_294 (by decide) ?_
      refine fs_goto (tgt := 299) dd_X12_isOwnHere_295 (by decide) ?_
      refine fs_weak (ls2 := [.ref 196, fz_J]) (fz_le_e (fz_le_j fz_le_n)) ?_
      exact V_nd_X12_isOwnHere_299 hD    H
    · replace H := H.2 (bi_0 hc)
      refine fs_aload_n (k0 := 0) (i := 0) dd_X12_isOwnHere_239 rfl rfl ?_
      refine fs_aload_n (k0 := 0) (i := 0) dd_X12_isOwnHere_240 rfl rfl ?_
      refine fs_getr (ci := 12) (j := 30) (q := 218) dd_X12_isOwnHere_241 fl_X12_78 ca_196 rfl (Or.inr ⟨_, rfl⟩) rfl (by decide) ?_
      refine fs_callV (y := m_X12_isHere) (as := [.ref 218]) dd_X12_isOwnHere_244 me_X12_isHere lk_X12_275 in_X12_isHere se_X12_isHere ca_196 rfl rfl rfl (Nat.le_of_ble_eq_true rfl) (Nat.le_of_ble_eq_true rfl) rfl (V_X12_isHere (by omega) ca_218 H) (k2_Z fun r3 s4 H => ?_)
      refine fs_if_ne (tgt := 294) dd_X12_isOwnHere_247 (by decide) (fun hc => ?_) (fun hc => ?_)
      · replace H := H.1 (bi_1 hc)
        refine fs_iconst (n := 1) (v := 1) dd_X12_isOwnHere_294 (by decide) ?_
        refine fs_goto (tgt := 299) dd_X12_isOwnHere_295 (by decide) ?_
        refine fs_weak (ls2 := [.ref 196, fz_J]) (fz_le_e (fz_le_j fz_le_n)) ?_
        exact V_nd_X12_isOwnHere_299 hD    H
      · replace H := H.2 (bi_0 hc)
        refine fs_aload_n (k0 := 0) (i := 0) dd_X12_isOwnHere_250 rfl rfl ?_
        refine fs_aload_n (k0 := 0) (i := 0) dd_X12_isOwnHere_251 rfl rfl ?_
        refine fs_getr (ci := 12) (j := 31) (q := 219) dd_X12_isOwnHere_252 fl_X12_81 ca_196 rfl (Or.inr ⟨_, rfl⟩) rfl (by decide) ?_
        refine fs_callV (y := m_X12_isHere) (as := [.ref 219]) dd_X12_isOwnHere_255 me_X12_isHere lk_X12_275 in_X12_isHere se_X12_isHere ca_196 rfl rfl rfl (Nat.le_of_ble_eq_true rfl) (Nat.le_of_ble_eq_true rfl) rfl (V_X12_isHere (by omega) ca_219 H) (k2_Z fun r5 s6 H => ?_)
        refine fs_if_ne (tgt := 294) dd_X12_isOwnHere_258 (by decide) (fun hc => ?_) (fun hc => ?_)
        · replace H := H.1 (bi_1 hc)
          refine fs_iconst (n := 1) (v := 1) dd_X12_isOwnHere_294 (by decide) ?_
          refine fs_goto (tgt := 299) dd_X12_isOwnHere_295 (by decide) ?_
          refine fs_weak (ls2 := [.ref 196, fz_J]) (fz_le_e (fz_le_j fz_le_n)) ?_
          exact V_nd_X12_isOwnHere_299 hD    H
        · replace H := H.2 (bi_0 hc)
          refine fs_aload_n (k0 := 0) (i := 0) dd_X12_isOwnHere_261 rfl rfl ?_
          refine fs_aload_n (k0 := 0) (i := 0) dd_X12_isOwnHere_262 rfl rfl ?_
          refine fs_getr (ci := 12) (j := 32) (q := 220) dd_X12_isOwnHere_263 fl_X12_84 ca_196 rfl (Or.inr ⟨_, rfl⟩) rfl (by decide) ?_
          refine fs_callV (y := m_X12_isHere) (as := [.ref 220]) dd_X12_isOwnHere_266 me_X12_isHere lk_X12_275 in_X12_isHere se_X12_isHere ca_196 rfl rfl rfl (Nat.le_of_ble_eq_true rfl) (Nat.le_of_ble_eq_true rfl) rfl (V_X12_isHere (by omega) ca_220 H) (k2_Z fun r7 s8 H => ?_)
          refine fs_if_ne (tgt := 294) dd_X12_isOwnHere_269 (by decide) (fun hc => ?_) (fun hc => ?_)
          · replace H := H.1 (bi_1 hc)
            refine fs_iconst (n := 1) (v := 1) dd_X12_isOwnHere_294 (by decide) ?_
            refine fs_goto (tgt := 299) dd_X12_isOwnHere_295 (by decide) ?_
            refine fs_weak (ls2 := [.ref 196, fz_J]) (fz_le_e (fz_le_j fz_le_n)) ?_
            exact V_nd_X12_isOwnHere_299 hD    H
          · replace H := H.2 (bi_0 hc)
            refine fs_aload_n (k0 := 0) (i := 0) dd_X12_isOwnHere_272 rfl rfl ?_
            refine fs_aload_n (k0 := 0) (i := 0) dd_X12_isOwnHere_273 rfl rfl ?_
            refine fs_getr (ci := 12) (j := 33) (q := 221) dd_X12_isOwnHere_274 fl_X12_87 ca_196 rfl (Or.inr ⟨_, rfl⟩) rfl (by decide) ?_
            refine fs_callV (y := m_X12_isHere) (as := [.ref 221]) dd_X12_isOwnHere_277 me_X12_isHere lk_X12_275 in_X12_isHere se_X12_isHere ca_196 rfl rfl rfl (Nat.le_of_ble_eq_true rfl) (Nat.le_of_ble_eq_true rfl) rfl (V_X12_isHere (by omega) ca_221 H) (k2_Z fun r9 s10 H => ?_)
            refine fs_if_ne (tgt := 294) dd_X12_isOwnHere_280 (by decide) (fun hc => ?_) (fun hc => ?_)
            · replace H := H.1 (bi_1 hc)
              refine fs_iconst (n := 1) (v := 1) dd_X12_isOwnHere_294 (by decide) ?_
              refine fs_goto (tgt := 299) dd_X12_isOwnHere_295 (by decide) ?_
              refine fs_weak (ls2 := [.ref 196, fz_J]) (fz_le_e (fz_le_j fz_le_n)) ?_
              exact V_nd_X12_isOwnHere_299 hD    H
            · replace H := H.2 (bi_0 hc)
              refine fs_aload_n (k0 := 0) (i := 0) dd_X12_isOwnHere_283 rfl rfl ?_
              refine fs_aload_n (k0 := 0) (i := 0) dd_X12_isOwnHere_284 rfl rfl ?_
              refine fs_getr (ci := 12) (j := 34) (q := 222) dd_X12_isOwnHere_285 fl_X12_90 ca_196 rfl (Or.inr ⟨_, rfl⟩) rfl (by decide) ?_
              refine fs_callV (y := m_X12_isHere) (as := [.ref 222]) dd_X12_isOwnHere_288 me_X12_isHere lk_X12_275 in_X12_isHere se_X12_isHere ca_196 rfl rfl rfl (Nat.le_of_ble_eq_true rfl) (Nat.le_of_ble_eq_true rfl) rfl (V_X12_isHere (by omega) ca_222 H) (k2_Z fun r11 s12 H => ?_)
              refine fs_if_eq (tgt := 298) dd_X12_isOwnHere_291 (by decide) (fun hc => ?_) (fun hc => ?_)
              · replace H := H.1 (bi_0 hc)
                refine fs_iconst (n := 0) (v := 0) dd_X12_isOwnHere_298 (by decide) ?_
                refine fs_weak (ls2 := [.ref 196, fz_J]) (fz_le_e (fz_le_j fz_le_n)) ?_
                exact V_nd_X12_isOwnHere_299 hD    H
              · replace H := H.2 (bi_1 hc)
                refine fs_iconst (n := 1) (v := 1) dd_X12_isOwnHere_294 (by decide) ?_
                refine fs_goto (tgt := 299) dd_X12_isOwnHere_295 (by decide) ?_
                refine fs_weak (ls2 := [.ref 196, fz_J]) (fz_le_e (fz_le_j fz_le_n)) ?_
                exact V_nd_X12_isOwnHere_299 hD    H
set_option maxRecDepth 100000 in
set_option maxHeartbeats 4000000 in
theorem V_nd_X12_isOwnHere_147 {g : fz_G} {l : Launch} {d : Nat} (hD : 2 ≤ d)    {Q : Bool → fz_s → Prop} {u0 : Bool} {s : fz_s}  (H : nd_X12_isOwnHere_147   Q u0 s) : fs_V g l m_X12_isOwnHere d false 147 [.ref 196, fz_J] [.int (bi u0)] s (rZ Q) := by
  obtain ⟨d, rfl⟩ : ∃ e, d = e + 1 := ⟨d - 1, by omega⟩
  unfold nd_X12_isOwnHere_147 at H
  refine fs_istore_n (k0 := 1) (i := 1) dd_X12_isOwnHere_147 rfl (by decide) ?_
  refine fs_iload_n (k0 := 1) (i := 1) dd_X12_isOwnHere_148 rfl rfl ?_
  refine fs_if_ne (tgt := 218) dd_X12_isOwnHere_149 (by decide) (fun hc => ?_) (fun hc => ?_)
  · replace H := H.1 (bi_1 hc)
    refine fs_iconst (n := 1) (v := 1) dd_X12_isOwnHere_218 (by decide) ?_
    refine fs_goto (tgt := 223) dd_X12_isOwnHere_219 (by decide) ?_
    refine fs_weak (ls2 := [.ref 196, fz_J]) (fz_le_e (fz_le_j fz_le_n)) ?_
    exact V_nd_X12_isOwnHere_223 hD    H
  · replace H := H.2 (bi_0 hc)
    refine fs_aload_n (k0 := 0) (i := 0) dd_X12_isOwnHere_152 rfl rfl ?_
    refine fs_aload_n (k0 := 0) (i := 0) dd_X12_isOwnHere_153 rfl rfl ?_
    refine fs_getr (ci := 12) (j := 23) (q := 211) dd_X12_isOwnHere_154 fl_X12_57 ca_196 rfl (Or.inr ⟨_, rfl⟩) rfl (by decide) ?_
    refine fs_callV (y := m_X12_isHere) (as := [.ref 211]) dd_X12_isOwnHere_157 me_X12_isHere lk_X12_275 in_X12_isHere se_X12_isHere ca_196 rfl rfl rfl (Nat.le_of_ble_eq_true rfl) (Nat.le_of_ble_eq_true rfl) rfl (V_X12_isHere (by omega) ca_211 H) (k2_Z fun r1 s2 H => ?_)
    refine fs_if_ne (tgt := 218) dd_X12_isOwnHere_160 (by decide) (fun hc => ?_) (fun hc => ?_)
    · replace H := H.1 (bi_1 hc)
      refine fs_iconst (n := 1) (v := 1) dd_X12_isOwnHere_218 (by decide) ?_
      refine fs_goto (tgt := 223) dd_X12_isOwnHere_219 (by decide) ?_
      refine fs_weak (ls2 := [.ref 196, fz_J]) (fz_le_e (fz_le_j fz_le_n)) ?_
      exact V_nd_X12_isOwnHere_223 hD    H
    · replace H := H.2 (bi_0 hc)
      refine fs_aload_n (k0 := 0) (i := 0) dd_X12_isOwnHere_163 rfl rfl ?_
      refine fs_aload_n (k0 := 0) (i := 0) dd_X12_isOwnHere_164 rfl rfl ?_
      refine fs_getr (ci := 12) (j := 24) (q := 212) dd_X12_isOwnHere_165 fl_X12_60 ca_196 rfl (Or.inr ⟨_, rfl⟩) rfl (by decide) ?_
      refine fs_callV (y := m_X12_isHere) (as := [.ref 212]) dd_X12_isOwnHere_168 me_X12_isHere lk_X12_275 in_X12_isHere se_X12_isHere ca_196 rfl rfl rfl (Nat.le_of_ble_eq_true rfl) (Nat.le_of_ble_eq_true rfl) rfl (V_X12_isHere (by omega) ca_212 H) (k2_Z fun r3 s4 H => ?_)
      refine fs_if_ne (tgt := 218) dd_X12_isOwnHere_171 (by decide) (fun hc => ?_) (fun hc => ?_)
      · replace H := H.1 (bi_1 hc)
        refine fs_iconst (n := 1) (v := 1) dd_X12_isOwnHere_218 (by decide) ?_
        refine fs_goto (tgt := 223) dd_X12_isOwnHere_219 (by decide) ?_
        refine fs_weak (ls2 := [.ref 196, fz_J]) (fz_le_e (fz_le_j fz_le_n)) ?_
        exact V_nd_X12_isOwnHere_223 hD    H
      · replace H := H.2 (bi_0 hc)
        refine fs_aload_n (k0 := 0) (i := 0) dd_X12_isOwnHere_174 rfl rfl ?_
        refine fs_aload_n (k0 := 0) (i := 0) dd_X12_isOwnHere_175 rfl rfl ?_
        refine fs_getr (ci := 12) (j := 25) (q := 213) dd_X12_isOwnHere_176 fl_X12_63 ca_196 rfl (Or.inr ⟨_, rfl⟩) rfl (by decide) ?_
        refine fs_callV (y := m_X12_isHere) (as := [.ref 213]) dd_X12_isOwnHere_179 me_X12_isHere lk_X12_275 in_X12_isHere se_X12_isHere ca_196 rfl rfl rfl (Nat.le_of_ble_eq_true rfl) (Nat.le_of_ble_eq_true rfl) rfl (V_X12_isHere (by omega) ca_213 H) (k2_Z fun r5 s6 H => ?_)
        refine fs_if_ne (tgt := 218) dd_X12_isOwnHere_182 (by decide) (fun hc => ?_) (fun hc => ?_)
        · replace H := H.1 (bi_1 hc)
          refine fs_iconst (n := 1) (v := 1) dd_X12_isOwnHere_218 (by decide) ?_
          refine fs_goto (tgt := 223) dd_X12_isOwnHere_219 (by decide) ?_
          refine fs_weak (ls2 := [.ref 196, fz_J]) (fz_le_e (fz_le_j fz_le_n)) ?_
          exact V_nd_X12_isOwnHere_223 hD    H
        · replace H := H.2 (bi_0 hc)
          refine fs_aload_n (k0 := 0) (i := 0) dd_X12_isOwnHere_185 rfl rfl ?_
          refine fs_aload_n (k0 := 0) (i := 0) dd_X12_isOwnHere_186 rfl rfl ?_
          refine fs_getr (ci := 12) (j := 26) (q := 214) dd_X12_isOwnHere_187 fl_X12_66 ca_196 rfl (Or.inr ⟨_, rfl⟩) rfl (by decide) ?_
          refine fs_callV (y := m_X12_isHere) (as := [.ref 214]) dd_X12_isOwnHere_190 me_X12_isHere lk_X12_275 in_X12_isHere se_X12_isHere ca_196 rfl rfl rfl (Nat.le_of_ble_eq_true rfl) (Nat.le_of_ble_eq_true rfl) rfl (V_X12_isHere (by omega) ca_214 H) (k2_Z fun r7 s8 H => ?_)
          refine fs_if_ne (tgt := 218) dd_X12_isOwnHere_193 (by decide) (fun hc => ?_) (fun hc => ?_)
          · replace H := H.1 (bi_1 hc)
            refine fs_iconst (n := 1) (v := 1) dd_X12_isOwnHere_218 (by decide) ?_
            refine fs_goto (tgt := 223) dd_X12_isOwnHere_219 (by decide) ?_
            refine fs_weak (ls2 := [.ref 196, fz_J]) (fz_le_e (fz_le_j fz_le_n)) ?_
            exact V_nd_X12_isOwnHere_223 hD    H
          · replace H := H.2 (bi_0 hc)
            refine fs_aload_n (k0 := 0) (i := 0) dd_X12_isOwnHere_196 rfl rfl ?_
            refine fs_aload_n (k0 := 0) (i := 0) dd_X12_isOwnHere_197 rfl rfl ?_
            refine fs_getr (ci := 12) (j := 27) (q := 215) dd_X12_isOwnHere_198 fl_X12_69 ca_196 rfl (Or.inr ⟨_, rfl⟩) rfl (by decide) ?_
            refine fs_callV (y := m_X12_isHere) (as := [.ref 215]) dd_X12_isOwnHere_201 me_X12_isHere lk_X12_275 in_X12_isHere se_X12_isHere ca_196 rfl rfl rfl (Nat.le_of_ble_eq_true rfl) (Nat.le_of_ble_eq_true rfl) rfl (V_X12_isHere (by omega) ca_215 H) (k2_Z fun r9 s10 H => ?_)
            refine fs_if_ne (tgt := 218) dd_X12_isOwnHere_204 (by decide) (fun hc => ?_) (fun hc => ?_)
            · replace H := H.1 (bi_1 hc)
              refine fs_iconst (n := 1) (v := 1) dd_X12_isOwnHere_218 (by decide) ?_
              refine fs_goto (tgt := 223) dd_X12_isOwnHere_219 (by decide) ?_
              refine fs_weak (ls2 := [.ref 196, fz_J]) (fz_le_e (fz_le_j fz_le_n)) ?_
              exact V_nd_X12_isOwnHere_223 hD    H
            · replace H := H.2 (bi_0 hc)
              refine fs_aload_n (k0 := 0) (i := 0) dd_X12_isOwnHere_207 rfl rfl ?_
              refine fs_aload_n (k0 := 0) (i := 0) dd_X12_isOwnHere_208 rfl rfl ?_
              refine fs_getr (ci := 12) (j := 28) (q := 216) dd_X12_isOwnHere_209 fl_X12_72 ca_196 rfl (Or.inr ⟨_, rfl⟩) rfl (by decide) ?_
              refine fs_callV (y := m_X12_isHere) (as := [.ref 216]) dd_X12_isOwnHere_212 me_X12_isHere lk_X12_275 in_X12_isHere se_X12_isHere ca_196 rfl rfl rfl (Nat.le_of_ble_eq_true rfl) (Nat.le_of_ble_eq_true rfl) rfl (V_X12_isHere (by omega) ca_216 H) (k2_Z fun r11 s12 H => ?_)
              refine fs_if_eq (tgt := 222) dd_X12_isOwnHere_215 (by decide) (fun hc => ?_) (fun hc => ?_)
              · replace H := H.1 (bi_0 hc)
                refine fs_iconst (n := 0) (v := 0) dd_X12_isOwnHere_222 (by decide) ?_
                refine fs_weak (ls2 := [.ref 196, fz_J]) (fz_le_e (fz_le_j fz_le_n)) ?_
                exact V_nd_X12_isOwnHere_223 hD    H
              · replace H := H.2 (bi_1 hc)
                refine fs_iconst (n := 1) (v := 1) dd_X12_isOwnHere_218 (by decide) ?_
                refine fs_goto (tgt := 223) dd_X12_isOwnHere_219 (by decide) ?_
                refine fs_weak (ls2 := [.ref 196, fz_J]) (fz_le_e (fz_le_j fz_le_n)) ?_
                exact V_nd_X12_isOwnHere_223 hD    H
set_option maxRecDepth 100000 in
set_option maxHeartbeats 4000000 in
theorem V_nd_X12_isOwnHere_71 {g : fz_G} {l : Launch} {d : Nat} (hD : 2 ≤ d)    {Q : Bool → fz_s → Prop} {u0 : Bool} {s : fz_s}  (H : nd_X12_isOwnHere_71   Q u0 s) : fs_V g l m_X12_isOwnHere d false 71 [.ref 196, fz_J] [.int (bi u0)] s (rZ Q) := by
  obtain ⟨d, rfl⟩ : ∃ e, d = e + 1 := ⟨d - 1, by omega⟩
  unfold nd_X12_isOwnHere_71 at H
  refine fs_istore_n (k0 := 1) (i := 1) dd_X12_isOwnHere_71 rfl (by decide) ?_
  refine fs_iload_n (k0 := 1) (i := 1) dd_X12_isOwnHere_72 rfl rfl ?_
  refine fs_if_ne (tgt := 142) dd_X12_isOwnHere_73 (by decide) (fun hc => ?_) (fun hc => ?_)
  · replace H := H.1 (bi_1 hc)
    refine fs_iconst (n := 1) (v := 1) dd_X12_isOwnHere_142 (by decide) ?_
    refine fs_goto (tgt := 147) dd_X12_isOwnHere_143 (by decide) ?_
    refine fs_weak (ls2 := [.ref 196, fz_J]) (fz_le_e (fz_le_j fz_le_n)) ?_
    exact V_nd_X12_isOwnHere_147 hD    H
  · replace H := H.2 (bi_0 hc)
    refine fs_aload_n (k0 := 0) (i := 0) dd_X12_isOwnHere_76 rfl rfl ?_
    refine fs_aload_n (k0 := 0) (i := 0) dd_X12_isOwnHere_77 rfl rfl ?_
    refine fs_getr (ci := 12) (j := 17) (q := 205) dd_X12_isOwnHere_78 fl_X12_39 ca_196 rfl (Or.inr ⟨_, rfl⟩) rfl (by decide) ?_
    refine fs_callV (y := m_X12_isHere) (as := [.ref 205]) dd_X12_isOwnHere_81 me_X12_isHere lk_X12_275 in_X12_isHere se_X12_isHere ca_196 rfl rfl rfl (Nat.le_of_ble_eq_true rfl) (Nat.le_of_ble_eq_true rfl) rfl (V_X12_isHere (by omega) ca_205 H) (k2_Z fun r1 s2 H => ?_)
    refine fs_if_ne (tgt := 142) dd_X12_isOwnHere_84 (by decide) (fun hc => ?_) (fun hc => ?_)
    · replace H := H.1 (bi_1 hc)
      refine fs_iconst (n := 1) (v := 1) dd_X12_isOwnHere_142 (by decide) ?_
      refine fs_goto (tgt := 147) dd_X12_isOwnHere_143 (by decide) ?_
      refine fs_weak (ls2 := [.ref 196, fz_J]) (fz_le_e (fz_le_j fz_le_n)) ?_
      exact V_nd_X12_isOwnHere_147 hD    H
    · replace H := H.2 (bi_0 hc)
      refine fs_aload_n (k0 := 0) (i := 0) dd_X12_isOwnHere_87 rfl rfl ?_
      refine fs_aload_n (k0 := 0) (i := 0) dd_X12_isOwnHere_88 rfl rfl ?_
      refine fs_getr (ci := 12) (j := 18) (q := 206) dd_X12_isOwnHere_89 fl_X12_42 ca_196 rfl (Or.inr ⟨_, rfl⟩) rfl (by decide) ?_
      refine fs_callV (y := m_X12_isHere) (as := [.ref 206]) dd_X12_isOwnHere_92 me_X12_isHere lk_X12_275 in_X12_isHere se_X12_isHere ca_196 rfl rfl rfl (Nat.le_of_ble_eq_true rfl) (Nat.le_of_ble_eq_true rfl) rfl (V_X12_isHere (by omega) ca_206 H) (k2_Z fun r3 s4 H => ?_)
      refine fs_if_ne (tgt := 142) dd_X12_isOwnHere_95 (by decide) (fun hc => ?_) (fun hc => ?_)
      · replace H := H.1 (bi_1 hc)
        refine fs_iconst (n := 1) (v := 1) dd_X12_isOwnHere_142 (by decide) ?_
        refine fs_goto (tgt := 147) dd_X12_isOwnHere_143 (by decide) ?_
        refine fs_weak (ls2 := [.ref 196, fz_J]) (fz_le_e (fz_le_j fz_le_n)) ?_
        exact V_nd_X12_isOwnHere_147 hD    H
      · replace H := H.2 (bi_0 hc)
        refine fs_aload_n (k0 := 0) (i := 0) dd_X12_isOwnHere_98 rfl rfl ?_
        refine fs_aload_n (k0 := 0) (i := 0) dd_X12_isOwnHere_99 rfl rfl ?_
        refine fs_getr (ci := 12) (j := 19) (q := 207) dd_X12_isOwnHere_100 fl_X12_45 ca_196 rfl (Or.inr ⟨_, rfl⟩) rfl (by decide) ?_
        refine fs_callV (y := m_X12_isHere) (as := [.ref 207]) dd_X12_isOwnHere_103 me_X12_isHere lk_X12_275 in_X12_isHere se_X12_isHere ca_196 rfl rfl rfl (Nat.le_of_ble_eq_true rfl) (Nat.le_of_ble_eq_true rfl) rfl (V_X12_isHere (by omega) ca_207 H) (k2_Z fun r5 s6 H => ?_)
        refine fs_if_ne (tgt := 142) dd_X12_isOwnHere_106 (by decide) (fun hc => ?_) (fun hc => ?_)
        · replace H := H.1 (bi_1 hc)
          refine fs_iconst (n := 1) (v := 1) dd_X12_isOwnHere_142 (by decide) ?_
          refine fs_goto (tgt := 147) dd_X12_isOwnHere_143 (by decide) ?_
          refine fs_weak (ls2 := [.ref 196, fz_J]) (fz_le_e (fz_le_j fz_le_n)) ?_
          exact V_nd_X12_isOwnHere_147 hD    H
        · replace H := H.2 (bi_0 hc)
          refine fs_aload_n (k0 := 0) (i := 0) dd_X12_isOwnHere_109 rfl rfl ?_
          refine fs_aload_n (k0 := 0) (i := 0) dd_X12_isOwnHere_110 rfl rfl ?_
          refine fs_getr (ci := 12) (j := 20) (q := 208) dd_X12_isOwnHere_111 fl_X12_48 ca_196 rfl (Or.inr ⟨_, rfl⟩) rfl (by decide) ?_
          refine fs_callV (y := m_X12_isHere) (as := [.ref 208]) dd_X12_isOwnHere_114 me_X12_isHere lk_X12_275 in_X12_isHere se_X12_isHere ca_196 rfl rfl rfl (Nat.le_of_ble_eq_true rfl) (Nat.le_of_ble_eq_true rfl) rfl (V_X12_isHere (by omega) ca_208 H) (k2_Z fun r7 s8 H => ?_)
          refine fs_if_ne (tgt := 142) dd_X12_isOwnHere_117 (by decide) (fun hc => ?_) (fun hc => ?_)
          · replace H := H.1 (bi_1 hc)
            refine fs_iconst (n := 1) (v := 1) dd_X12_isOwnHere_142 (by decide) ?_
            refine fs_goto (tgt := 147) dd_X12_isOwnHere_143 (by decide) ?_
            refine fs_weak (ls2 := [.ref 196, fz_J]) (fz_le_e (fz_le_j fz_le_n)) ?_
            exact V_nd_X12_isOwnHere_147 hD    H
          · replace H := H.2 (bi_0 hc)
            refine fs_aload_n (k0 := 0) (i := 0) dd_X12_isOwnHere_120 rfl rfl ?_
            refine fs_aload_n (k0 := 0) (i := 0) dd_X12_isOwnHere_121 rfl rfl ?_
            refine fs_getr (ci := 12) (j := 21) (q := 209) dd_X12_isOwnHere_122 fl_X12_51 ca_196 rfl (Or.inr ⟨_, rfl⟩) rfl (by decide) ?_
            refine fs_callV (y := m_X12_isHere) (as := [.ref 209]) dd_X12_isOwnHere_125 me_X12_isHere lk_X12_275 in_X12_isHere se_X12_isHere ca_196 rfl rfl rfl (Nat.le_of_ble_eq_true rfl) (Nat.le_of_ble_eq_true rfl) rfl (V_X12_isHere (by omega) ca_209 H) (k2_Z fun r9 s10 H => ?_)
            refine fs_if_ne (tgt := 142) dd_X12_isOwnHere_128 (by decide) (fun hc => ?_) (fun hc => ?_)
            · replace H := H.1 (bi_1 hc)
              refine fs_iconst (n := 1) (v := 1) dd_X12_isOwnHere_142 (by decide) ?_
              refine fs_goto (tgt := 147) dd_X12_isOwnHere_143 (by decide) ?_
              refine fs_weak (ls2 := [.ref 196, fz_J]) (fz_le_e (fz_le_j fz_le_n)) ?_
              exact V_nd_X12_isOwnHere_147 hD    H
            · replace H := H.2 (bi_0 hc)
              refine fs_aload_n (k0 := 0) (i := 0) dd_X12_isOwnHere_131 rfl rfl ?_
              refine fs_aload_n (k0 := 0) (i := 0) dd_X12_isOwnHere_132 rfl rfl ?_
              refine fs_getr (ci := 12) (j := 22) (q := 210) dd_X12_isOwnHere_133 fl_X12_54 ca_196 rfl (Or.inr ⟨_, rfl⟩) rfl (by decide) ?_
              refine fs_callV (y := m_X12_isHere) (as := [.ref 210]) dd_X12_isOwnHere_136 me_X12_isHere lk_X12_275 in_X12_isHere se_X12_isHere ca_196 rfl rfl rfl (Nat.le_of_ble_eq_true rfl) (Nat.le_of_ble_eq_true rfl) rfl (V_X12_isHere (by omega) ca_210 H) (k2_Z fun r11 s12 H => ?_)
              refine fs_if_eq (tgt := 146) dd_X12_isOwnHere_139 (by decide) (fun hc => ?_) (fun hc => ?_)
              · replace H := H.1 (bi_0 hc)
                refine fs_iconst (n := 0) (v := 0) dd_X12_isOwnHere_146 (by decide) ?_
                refine fs_weak (ls2 := [.ref 196, fz_J]) (fz_le_e (fz_le_j fz_le_n)) ?_
                exact V_nd_X12_isOwnHere_147 hD    H
              · replace H := H.2 (bi_1 hc)
                refine fs_iconst (n := 1) (v := 1) dd_X12_isOwnHere_142 (by decide) ?_
                refine fs_goto (tgt := 147) dd_X12_isOwnHere_143 (by decide) ?_
                refine fs_weak (ls2 := [.ref 196, fz_J]) (fz_le_e (fz_le_j fz_le_n)) ?_
                exact V_nd_X12_isOwnHere_147 hD    H
set_option maxRecDepth 100000 in
set_option maxHeartbeats 4000000 in
theorem V_X12_isOwnHere {g : fz_G} {l : Launch} {d : Nat} (hD : 2 ≤ d)   {s : fz_s} {Q : Bool → fz_s → Prop} (H : wp_X12_isOwnHere  s Q) : fs_V g l m_X12_isOwnHere d false 0 (fz_en [.ref 196] 2) [] s (rZ Q) := by
  obtain ⟨d, rfl⟩ : ∃ e, d = e + 1 := ⟨d - 1, by omega⟩
  unfold wp_X12_isOwnHere at H
  refine fs_aload_n (k0 := 0) (i := 0) dd_X12_isOwnHere_0 rfl rfl ?_
  refine fs_aload_n (k0 := 0) (i := 0) dd_X12_isOwnHere_1 rfl rfl ?_
  refine fs_getr (ci := 12) (j := 11) (q := 199) dd_X12_isOwnHere_2 fl_X12_20 ca_196 rfl (Or.inr ⟨_, rfl⟩) rfl (by decide) ?_
  refine fs_callV (y := m_X12_isHere) (as := [.ref 199]) dd_X12_isOwnHere_5 me_X12_isHere lk_X12_275 in_X12_isHere se_X12_isHere ca_196 rfl rfl rfl (Nat.le_of_ble_eq_true rfl) (Nat.le_of_ble_eq_true rfl) rfl (V_X12_isHere (by omega) ca_199 H) (k2_Z fun r1 s2 H => ?_)
  refine fs_if_ne (tgt := 66) dd_X12_isOwnHere_8 (by decide) (fun hc => ?_) (fun hc => ?_)
  · replace H := H.1 (bi_1 hc)
    refine fs_iconst (n := 1) (v := 1) dd_X12_isOwnHere_66 (by decide) ?_
    refine fs_goto (tgt := 71) dd_X12_isOwnHere_67 (by decide) ?_
    refine fs_weak (ls2 := [.ref 196, fz_J]) (fz_le_e (fz_le_j fz_le_n)) ?_
    exact V_nd_X12_isOwnHere_71 hD    H
  · replace H := H.2 (bi_0 hc)
    refine fs_aload_n (k0 := 0) (i := 0) dd_X12_isOwnHere_11 rfl rfl ?_
    refine fs_aload_n (k0 := 0) (i := 0) dd_X12_isOwnHere_12 rfl rfl ?_
    refine fs_getr (ci := 12) (j := 12) (q := 200) dd_X12_isOwnHere_13 fl_X12_24 ca_196 rfl (Or.inr ⟨_, rfl⟩) rfl (by decide) ?_
    refine fs_callV (y := m_X12_isHere) (as := [.ref 200]) dd_X12_isOwnHere_16 me_X12_isHere lk_X12_275 in_X12_isHere se_X12_isHere ca_196 rfl rfl rfl (Nat.le_of_ble_eq_true rfl) (Nat.le_of_ble_eq_true rfl) rfl (V_X12_isHere (by omega) ca_200 H) (k2_Z fun r3 s4 H => ?_)
    refine fs_if_ne (tgt := 66) dd_X12_isOwnHere_19 (by decide) (fun hc => ?_) (fun hc => ?_)
    · replace H := H.1 (bi_1 hc)
      refine fs_iconst (n := 1) (v := 1) dd_X12_isOwnHere_66 (by decide) ?_
      refine fs_goto (tgt := 71) dd_X12_isOwnHere_67 (by decide) ?_
      refine fs_weak (ls2 := [.ref 196, fz_J]) (fz_le_e (fz_le_j fz_le_n)) ?_
      exact V_nd_X12_isOwnHere_71 hD    H
    · replace H := H.2 (bi_0 hc)
      refine fs_aload_n (k0 := 0) (i := 0) dd_X12_isOwnHere_22 rfl rfl ?_
      refine fs_aload_n (k0 := 0) (i := 0) dd_X12_isOwnHere_23 rfl rfl ?_
      refine fs_getr (ci := 12) (j := 13) (q := 201) dd_X12_isOwnHere_24 fl_X12_27 ca_196 rfl (Or.inr ⟨_, rfl⟩) rfl (by decide) ?_
      refine fs_callV (y := m_X12_isHere) (as := [.ref 201]) dd_X12_isOwnHere_27 me_X12_isHere lk_X12_275 in_X12_isHere se_X12_isHere ca_196 rfl rfl rfl (Nat.le_of_ble_eq_true rfl) (Nat.le_of_ble_eq_true rfl) rfl (V_X12_isHere (by omega) ca_201 H) (k2_Z fun r5 s6 H => ?_)
      refine fs_if_ne (tgt := 66) dd_X12_isOwnHere_30 (by decide) (fun hc => ?_) (fun hc => ?_)
      · replace H := H.1 (bi_1 hc)
        refine fs_iconst (n := 1) (v := 1) dd_X12_isOwnHere_66 (by decide) ?_
        refine fs_goto (tgt := 71) dd_X12_isOwnHere_67 (by decide) ?_
        refine fs_weak (ls2 := [.ref 196, fz_J]) (fz_le_e (fz_le_j fz_le_n)) ?_
        exact V_nd_X12_isOwnHere_71 hD    H
      · replace H := H.2 (bi_0 hc)
        refine fs_aload_n (k0 := 0) (i := 0) dd_X12_isOwnHere_33 rfl rfl ?_
        refine fs_aload_n (k0 := 0) (i := 0) dd_X12_isOwnHere_34 rfl rfl ?_
        refine fs_getr (ci := 12) (j := 14) (q := 202) dd_X12_isOwnHere_35 fl_X12_30 ca_196 rfl (Or.inr ⟨_, rfl⟩) rfl (by decide) ?_
        refine fs_callV (y := m_X12_isHere) (as := [.ref 202]) dd_X12_isOwnHere_38 me_X12_isHere lk_X12_275 in_X12_isHere se_X12_isHere ca_196 rfl rfl rfl (Nat.le_of_ble_eq_true rfl) (Nat.le_of_ble_eq_true rfl) rfl (V_X12_isHere (by omega) ca_202 H) (k2_Z fun r7 s8 H => ?_)
        refine fs_if_ne (tgt := 66) dd_X12_isOwnHere_41 (by decide) (fun hc => ?_) (fun hc => ?_)
        · replace H := H.1 (bi_1 hc)
          refine fs_iconst (n := 1) (v := 1) dd_X12_isOwnHere_66 (by decide) ?_
          refine fs_goto (tgt := 71) dd_X12_isOwnHere_67 (by decide) ?_
          refine fs_weak (ls2 := [.ref 196, fz_J]) (fz_le_e (fz_le_j fz_le_n)) ?_
          exact V_nd_X12_isOwnHere_71 hD    H
        · replace H := H.2 (bi_0 hc)
          refine fs_aload_n (k0 := 0) (i := 0) dd_X12_isOwnHere_44 rfl rfl ?_
          refine fs_aload_n (k0 := 0) (i := 0) dd_X12_isOwnHere_45 rfl rfl ?_
          refine fs_getr (ci := 12) (j := 15) (q := 203) dd_X12_isOwnHere_46 fl_X12_33 ca_196 rfl (Or.inr ⟨_, rfl⟩) rfl (by decide) ?_
          refine fs_callV (y := m_X12_isHere) (as := [.ref 203]) dd_X12_isOwnHere_49 me_X12_isHere lk_X12_275 in_X12_isHere se_X12_isHere ca_196 rfl rfl rfl (Nat.le_of_ble_eq_true rfl) (Nat.le_of_ble_eq_true rfl) rfl (V_X12_isHere (by omega) ca_203 H) (k2_Z fun r9 s10 H => ?_)
          refine fs_if_ne (tgt := 66) dd_X12_isOwnHere_52 (by decide) (fun hc => ?_) (fun hc => ?_)
          · replace H := H.1 (bi_1 hc)
            refine fs_iconst (n := 1) (v := 1) dd_X12_isOwnHere_66 (by decide) ?_
            refine fs_goto (tgt := 71) dd_X12_isOwnHere_67 (by decide) ?_
            refine fs_weak (ls2 := [.ref 196, fz_J]) (fz_le_e (fz_le_j fz_le_n)) ?_
            exact V_nd_X12_isOwnHere_71 hD    H
          · replace H := H.2 (bi_0 hc)
            refine fs_aload_n (k0 := 0) (i := 0) dd_X12_isOwnHere_55 rfl rfl ?_
            refine fs_aload_n (k0 := 0) (i := 0) dd_X12_isOwnHere_56 rfl rfl ?_
            refine fs_getr (ci := 12) (j := 16) (q := 204) dd_X12_isOwnHere_57 fl_X12_36 ca_196 rfl (Or.inr ⟨_, rfl⟩) rfl (by decide) ?_
            refine fs_callV (y := m_X12_isHere) (as := [.ref 204]) dd_X12_isOwnHere_60 me_X12_isHere lk_X12_275 in_X12_isHere se_X12_isHere ca_196 rfl rfl rfl (Nat.le_of_ble_eq_true rfl) (Nat.le_of_ble_eq_true rfl) rfl (V_X12_isHere (by omega) ca_204 H) (k2_Z fun r11 s12 H => ?_)
            refine fs_if_eq (tgt := 70) dd_X12_isOwnHere_63 (by decide) (fun hc => ?_) (fun hc => ?_)
            · replace H := H.1 (bi_0 hc)
              refine fs_iconst (n := 0) (v := 0) dd_X12_isOwnHere_70 (by decide) ?_
              refine fs_weak (ls2 := [.ref 196, fz_J]) (fz_le_e (fz_le_j fz_le_n)) ?_
              exact V_nd_X12_isOwnHere_71 hD    H
            · replace H := H.2 (bi_1 hc)
              refine fs_iconst (n := 1) (v := 1) dd_X12_isOwnHere_66 (by decide) ?_
              refine fs_goto (tgt := 71) dd_X12_isOwnHere_67 (by decide) ?_
              refine fs_weak (ls2 := [.ref 196, fz_J]) (fz_le_e (fz_le_j fz_le_n)) ?_
              exact V_nd_X12_isOwnHere_71 hD    H

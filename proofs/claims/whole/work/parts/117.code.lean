theorem dd_X12_letter_0 : decode m_X12_letter.2.1 0 = .ok (.iload_n 1, 1) := by decide +kernel
theorem dd_X12_letter_1 : decode m_X12_letter.2.1 1 = .ok (.ifCond .ne 12, 3) := by decide +kernel
theorem dd_X12_letter_4 : decode m_X12_letter.2.1 4 = .ok (.aload_n 0, 1) := by decide +kernel
theorem dd_X12_letter_5 : decode m_X12_letter.2.1 5 = .ok (.iload_n 2, 1) := by decide +kernel
theorem dd_X12_letter_6 : decode m_X12_letter.2.1 6 = .ok (.i2l, 1) := by decide +kernel
theorem dd_X12_letter_7 : decode m_X12_letter.2.1 7 = .ok (.invokevirtual 509, 3) := by decide +kernel
theorem dd_X12_letter_10 : decode m_X12_letter.2.1 10 = .ok (.goto 21, 3) := by decide +kernel
theorem dd_X12_letter_13 : decode m_X12_letter.2.1 13 = .ok (.iload_n 1, 1) := by decide +kernel
theorem dd_X12_letter_14 : decode m_X12_letter.2.1 14 = .ok (.iconst 1, 1) := by decide +kernel
theorem dd_X12_letter_15 : decode m_X12_letter.2.1 15 = .ok (.if_icmp .ne 15, 3) := by decide +kernel
theorem dd_X12_letter_18 : decode m_X12_letter.2.1 18 = .ok (.aload_n 0, 1) := by decide +kernel
theorem dd_X12_letter_19 : decode m_X12_letter.2.1 19 = .ok (.iload_n 2, 1) := by decide +kernel
theorem dd_X12_letter_20 : decode m_X12_letter.2.1 20 = .ok (.invokevirtual 415, 3) := by decide +kernel
theorem dd_X12_letter_23 : decode m_X12_letter.2.1 23 = .ok (.ifCond .eq 7, 3) := by decide +kernel
theorem dd_X12_letter_26 : decode m_X12_letter.2.1 26 = .ok (.iconst 1, 1) := by decide +kernel
theorem dd_X12_letter_27 : decode m_X12_letter.2.1 27 = .ok (.goto 4, 3) := by decide +kernel
theorem dd_X12_letter_30 : decode m_X12_letter.2.1 30 = .ok (.iconst 0, 1) := by decide +kernel
theorem dd_X12_letter_31 : decode m_X12_letter.2.1 31 = .ok (.istore 4, 2) := by decide +kernel
theorem dd_X12_letter_33 : decode m_X12_letter.2.1 33 = .ok (.iload 4, 2) := by decide +kernel
theorem dd_X12_letter_35 : decode m_X12_letter.2.1 35 = .ok (.ifCond .eq 15, 3) := by decide +kernel
theorem dd_X12_letter_38 : decode m_X12_letter.2.1 38 = .ok (.iload_n 3, 1) := by decide +kernel
theorem dd_X12_letter_39 : decode m_X12_letter.2.1 39 = .ok (.i2l, 1) := by decide +kernel
theorem dd_X12_letter_40 : decode m_X12_letter.2.1 40 = .ok (.lconst 0, 1) := by decide +kernel
theorem dd_X12_letter_41 : decode m_X12_letter.2.1 41 = .ok (.ldc2_w 513, 3) := by decide +kernel
theorem dd_X12_letter_44 : decode m_X12_letter.2.1 44 = .ok (.invokestatic 295, 3) := by decide +kernel
theorem dd_X12_letter_47 : decode m_X12_letter.2.1 47 = .ok (.ifCond .ne 5, 3) := by decide +kernel
theorem dd_X12_letter_50 : decode m_X12_letter.2.1 50 = .ok (.iconst (-1), 1) := by decide +kernel
theorem dd_X12_letter_51 : decode m_X12_letter.2.1 51 = .ok (.ireturn, 1) := by decide +kernel
theorem dd_X12_letter_52 : decode m_X12_letter.2.1 52 = .ok (.aload_n 0, 1) := by decide +kernel
theorem dd_X12_letter_53 : decode m_X12_letter.2.1 53 = .ok (.getfield 99, 3) := by decide +kernel
theorem dd_X12_letter_56 : decode m_X12_letter.2.1 56 = .ok (.bipush 10, 2) := by decide +kernel
theorem dd_X12_letter_58 : decode m_X12_letter.2.1 58 = .ok (.iconst 2, 1) := by decide +kernel
theorem dd_X12_letter_59 : decode m_X12_letter.2.1 59 = .ok (.iload_n 1, 1) := by decide +kernel
theorem dd_X12_letter_60 : decode m_X12_letter.2.1 60 = .ok (.imul, 1) := by decide +kernel
theorem dd_X12_letter_61 : decode m_X12_letter.2.1 61 = .ok (.iadd, 1) := by decide +kernel
theorem dd_X12_letter_62 : decode m_X12_letter.2.1 62 = .ok (.iload_n 2, 1) := by decide +kernel
theorem dd_X12_letter_63 : decode m_X12_letter.2.1 63 = .ok (.iadd, 1) := by decide +kernel
theorem dd_X12_letter_64 : decode m_X12_letter.2.1 64 = .ok (.laload, 1) := by decide +kernel
theorem dd_X12_letter_65 : decode m_X12_letter.2.1 65 = .ok (.lstore 5, 2) := by decide +kernel
theorem dd_X12_letter_67 : decode m_X12_letter.2.1 67 = .ok (.iconst 0, 1) := by decide +kernel
theorem dd_X12_letter_68 : decode m_X12_letter.2.1 68 = .ok (.istore 7, 2) := by decide +kernel
theorem dd_X12_letter_70 : decode m_X12_letter.2.1 70 = .ok (.lload 5, 2) := by decide +kernel
theorem dd_X12_letter_72 : decode m_X12_letter.2.1 72 = .ok (.lstore 8, 2) := by decide +kernel
theorem dd_X12_letter_74 : decode m_X12_letter.2.1 74 = .ok (.lload 8, 2) := by decide +kernel
theorem dd_X12_letter_76 : decode m_X12_letter.2.1 76 = .ok (.lconst 0, 1) := by decide +kernel
theorem dd_X12_letter_77 : decode m_X12_letter.2.1 77 = .ok (.lcmp, 1) := by decide +kernel
theorem dd_X12_letter_78 : decode m_X12_letter.2.1 78 = .ok (.ifCond .le 17, 3) := by decide +kernel
theorem dd_X12_letter_81 : decode m_X12_letter.2.1 81 = .ok (.iinc 7 1, 3) := by decide +kernel
theorem dd_X12_letter_84 : decode m_X12_letter.2.1 84 = .ok (.lload 8, 2) := by decide +kernel
theorem dd_X12_letter_86 : decode m_X12_letter.2.1 86 = .ok (.ldc2_w 306, 3) := by decide +kernel
theorem dd_X12_letter_89 : decode m_X12_letter.2.1 89 = .ok (.ldiv, 1) := by decide +kernel
theorem dd_X12_letter_90 : decode m_X12_letter.2.1 90 = .ok (.lstore 8, 2) := by decide +kernel
theorem dd_X12_letter_92 : decode m_X12_letter.2.1 92 = .ok (.goto (-18), 3) := by decide +kernel
theorem dd_X12_letter_95 : decode m_X12_letter.2.1 95 = .ok (.iload_n 3, 1) := by decide +kernel
theorem dd_X12_letter_96 : decode m_X12_letter.2.1 96 = .ok (.iload 7, 2) := by decide +kernel
theorem dd_X12_letter_98 : decode m_X12_letter.2.1 98 = .ok (.if_icmp .lt 5, 3) := by decide +kernel
theorem dd_X12_letter_101 : decode m_X12_letter.2.1 101 = .ok (.iconst 0, 1) := by decide +kernel
theorem dd_X12_letter_102 : decode m_X12_letter.2.1 102 = .ok (.ireturn, 1) := by decide +kernel
theorem dd_X12_letter_103 : decode m_X12_letter.2.1 103 = .ok (.iload 7, 2) := by decide +kernel
theorem dd_X12_letter_105 : decode m_X12_letter.2.1 105 = .ok (.iconst 1, 1) := by decide +kernel
theorem dd_X12_letter_106 : decode m_X12_letter.2.1 106 = .ok (.isub, 1) := by decide +kernel
theorem dd_X12_letter_107 : decode m_X12_letter.2.1 107 = .ok (.istore 8, 2) := by decide +kernel
theorem dd_X12_letter_109 : decode m_X12_letter.2.1 109 = .ok (.iload 8, 2) := by decide +kernel
theorem dd_X12_letter_111 : decode m_X12_letter.2.1 111 = .ok (.iload_n 3, 1) := by decide +kernel
theorem dd_X12_letter_112 : decode m_X12_letter.2.1 112 = .ok (.if_icmp .le 17, 3) := by decide +kernel
theorem dd_X12_letter_115 : decode m_X12_letter.2.1 115 = .ok (.lload 5, 2) := by decide +kernel
theorem dd_X12_letter_117 : decode m_X12_letter.2.1 117 = .ok (.ldc2_w 306, 3) := by decide +kernel
theorem dd_X12_letter_120 : decode m_X12_letter.2.1 120 = .ok (.ldiv, 1) := by decide +kernel
theorem dd_X12_letter_121 : decode m_X12_letter.2.1 121 = .ok (.lstore 5, 2) := by decide +kernel
theorem dd_X12_letter_123 : decode m_X12_letter.2.1 123 = .ok (.iinc 8 (-1), 3) := by decide +kernel
theorem dd_X12_letter_126 : decode m_X12_letter.2.1 126 = .ok (.goto (-17), 3) := by decide +kernel
theorem dd_X12_letter_129 : decode m_X12_letter.2.1 129 = .ok (.lload 5, 2) := by decide +kernel
theorem dd_X12_letter_131 : decode m_X12_letter.2.1 131 = .ok (.ldc2_w 306, 3) := by decide +kernel
theorem dd_X12_letter_134 : decode m_X12_letter.2.1 134 = .ok (.lrem, 1) := by decide +kernel
theorem dd_X12_letter_135 : decode m_X12_letter.2.1 135 = .ok (.l2i, 1) := by decide +kernel
theorem dd_X12_letter_136 : decode m_X12_letter.2.1 136 = .ok (.ireturn, 1) := by decide +kernel
def nd_X12_letter_109  (K109 : Int32 → Int64 → Int32 → fz_s → Prop) (Q : Int32 → fz_s → Prop) (v3 : Int32) (v5 : Int64) (v8 : Int32) (s : fz_s) : Prop :=
  ((v8 ≤ v3 → Q ((v5 - v5 / 27 * 27).toInt32) s) ∧ (¬ v8 ≤ v3 → ∀ x1 : Int64, x1 = (v5 / 27) → ∀ x2 : Int32, x2 = v8 + (-1) → K109 v3 x1 x2 s))
def lp_X12_letter_109   (Q : Int32 → fz_s → Prop) : Nat → Int32 → Int64 → Int32 → fz_s → Prop
  | 0 => fun _ _ _ _ => False
  | n + 1 => nd_X12_letter_109  (lp_X12_letter_109   Q n) Q
def nd_X12_letter_74  (K74 : Int32 → Int64 → Int32 → Int64 → fz_s → Prop) (Q : Int32 → fz_s → Prop) (v3 : Int32) (v5 : Int64) (v7 : Int32) (v8 : Int64) (s : fz_s) : Prop :=
  (((lg_cmp v8 0) ≤ 0 → ((v3 < v7 → ∀ x1 : Int32, x1 = (v7 - 1) → lp_X12_letter_109   Q 2048 v3 v5 x1 s) ∧ (¬ v3 < v7 → Q 0 s))) ∧ (¬ (lg_cmp v8 0) ≤ 0 → ∀ x2 : Int32, x2 = v7 + 1 → ∀ x3 : Int64, x3 = (v8 / 27) → K74 v3 v5 x2 x3 s))
def lp_X12_letter_74   (Q : Int32 → fz_s → Prop) : Nat → Int32 → Int64 → Int32 → Int64 → fz_s → Prop
  | 0 => fun _ _ _ _ _ => False
  | n + 1 => nd_X12_letter_74  (lp_X12_letter_74   Q n) Q
def nd_X12_letter_31   (Q : Int32 → fz_s → Prop) (v1 : Int32) (v2 : Int32) (v3 : Int32) (u0 : Bool) (s : fz_s) : Prop :=
  ((u0 = false → Q (-1) s) ∧ (u0 = true → wp_X12_isIn v3.toInt64 0 5 s (fun r1 s2 => ((r1 = true → vp_in ((10 + (2 * v1)) + v2) 20 ∧ ∀ x3 : Int64, x3 = (s2.2.1 225 ((10 + (2 * v1)) + v2).toNatClampNeg) → lp_X12_letter_74   Q 2048 v3 x3 0 x3 s2) ∧ (r1 = false → Q (-1) s2)))))
def wp_X12_letter (p0 : Int32) (p1 : Int32) (p2 : Int32) (s : fz_s) (Q : Int32 → fz_s → Prop) : Prop :=
  ((¬ p0 = 0 → ((¬ p0 = 1 → nd_X12_letter_31   Q p0 p1 p2 false s) ∧ (p0 = 1 → wp_X12_isPerson p1 s (fun r1 s2 => ((r1 = false → nd_X12_letter_31   Q p0 p1 p2 false s2) ∧ (r1 = true → nd_X12_letter_31   Q p0 p1 p2 true s2)))))) ∧ (p0 = 0 → wp_X12_isVillage p1.toInt64 s (fun r3 s4 => nd_X12_letter_31   Q p0 p1 p2 r3 s4)))
set_option maxRecDepth 100000 in
set_option maxHeartbeats 4000000 in
theorem V_nd_X12_letter_109 {g : fz_G} {l : Launch} {d : Nat} (hD : 2 ≤ d)   {K109 : Int32 → Int64 → Int32 → fz_s → Prop} {Q : Int32 → fz_s → Prop} {v3 : Int32} {v5 : Int64} {v8 : Int32} {s : fz_s} (hK109 : ∀ {v3 : Int32} {v5 : Int64} {v8 : Int32} {s : fz_s}, K109 v3 v5 v8 s → fs_V g l m_X12_letter d false 109 [fz_J, fz_J, fz_J, .int v3, fz_J, .long v5, fz_J, fz_J, .int v8, fz_J] [] s (rI Q)) (H : nd_X12_letter_109  K109 Q v3 v5 v8 s) : fs_V g l m_X12_letter d false 109 [fz_J, fz_J, fz_J, .int v3, fz_J, .long v5, fz_J, fz_J, .int v8, fz_J] [] s (rI Q) := by
  obtain ⟨d, rfl⟩ : ∃ e, d = e + 1 := ⟨d - 1, by omega⟩
  unfold nd_X12_letter_109 at H
  refine fs_iload (i := 8) dd_X12_letter_109 rfl ?_
  refine fs_iload_n (k0 := 3) (i := 3) dd_X12_letter_111 rfl rfl ?_
  refine fs_icmp_le (tgt := 129) dd_X12_letter_112 (by decide) (fun hc => ?_) (fun hc => ?_)
  · replace H := H.1 hc
    refine fs_lload (i := 5) dd_X12_letter_129 rfl ?_
    refine fs_ldc2 (idx := 306) (v := 27) dd_X12_letter_131 cl_X12_306 ?_
    refine fs_lrem dd_X12_letter_134 (by decide) ?_
    refine fs_l2i dd_X12_letter_135 ?_
    exact fs_iret dd_X12_letter_136 rfl H
  · replace H := H.2 hc
    refine fs_lload (i := 5) dd_X12_letter_115 rfl ?_
    refine fs_ldc2 (idx := 306) (v := 27) dd_X12_letter_117 cl_X12_306 ?_
    refine fs_ldiv dd_X12_letter_120 (by decide) ?_
    refine fs_topl (fun x1 hx1 => ?_)
    replace H := H x1 hx1
    refine fs_lstore (i := 5) dd_X12_letter_121 (by decide) ?_
    refine fs_iincN (i := 8) (m := -1) (c := -1) dd_X12_letter_123 rfl (by decide) (by decide) (fun x2 hx2 => ?_)
    replace H := H x2 hx2
    refine fs_goto (tgt := 109) dd_X12_letter_126 (by decide) ?_
    refine fs_weak (ls2 := [fz_J, fz_J, fz_J, .int v3, fz_J, .long x1, fz_J, fz_J, .int x2, fz_J]) (fz_le_j (fz_le_j (fz_le_j (fz_le_e (fz_le_j (fz_le_e (fz_le_j (fz_le_j (fz_le_e (fz_le_j fz_le_n)))))))))) ?_
    exact hK109 H
set_option maxRecDepth 100000 in
set_option maxHeartbeats 4000000 in
theorem V_lp_X12_letter_109 {g : fz_G} {l : Launch} {d : Nat} (hD : 2 ≤ d)    {Q : Int32 → fz_s → Prop}  (n : Nat) : ∀ {v3 : Int32} {v5 : Int64} {v8 : Int32} {s : fz_s}, lp_X12_letter_109   Q n v3 v5 v8 s → fs_V g l m_X12_letter d false 109 [fz_J, fz_J, fz_J, .int v3, fz_J, .long v5, fz_J, fz_J, .int v8, fz_J] [] s (rI Q) := by
  induction n with
  | zero => intro v3 v5 v8 s H; exact H.elim
  | succ n ih => intro v3 v5 v8 s H; exact V_nd_X12_letter_109 hD  (fun H => ih H) H
set_option maxRecDepth 100000 in
set_option maxHeartbeats 4000000 in
theorem V_nd_X12_letter_74 {g : fz_G} {l : Launch} {d : Nat} (hD : 2 ≤ d)   {K74 : Int32 → Int64 → Int32 → Int64 → fz_s → Prop} {Q : Int32 → fz_s → Prop} {v3 : Int32} {v5 : Int64} {v7 : Int32} {v8 : Int64} {s : fz_s} (hK74 : ∀ {v3 : Int32} {v5 : Int64} {v7 : Int32} {v8 : Int64} {s : fz_s}, K74 v3 v5 v7 v8 s → fs_V g l m_X12_letter d false 74 [fz_J, fz_J, fz_J, .int v3, fz_J, .long v5, fz_J, .int v7, .long v8, fz_J] [] s (rI Q)) (H : nd_X12_letter_74  K74 Q v3 v5 v7 v8 s) : fs_V g l m_X12_letter d false 74 [fz_J, fz_J, fz_J, .int v3, fz_J, .long v5, fz_J, .int v7, .long v8, fz_J] [] s (rI Q) := by
  obtain ⟨d, rfl⟩ : ∃ e, d = e + 1 := ⟨d - 1, by omega⟩
  unfold nd_X12_letter_74 at H
  refine fs_lload (i := 8) dd_X12_letter_74 rfl ?_
  refine fs_lconst (n := 0) (v := 0) dd_X12_letter_76 (by decide) ?_
  refine fs_lcmp dd_X12_letter_77 ?_
  refine fs_if_le (tgt := 95) dd_X12_letter_78 (by decide) (fun hc => ?_) (fun hc => ?_)
  · replace H := H.1 hc
    refine fs_iload_n (k0 := 3) (i := 3) dd_X12_letter_95 rfl rfl ?_
    refine fs_iload (i := 7) dd_X12_letter_96 rfl ?_
    refine fs_icmp_lt (tgt := 103) dd_X12_letter_98 (by decide) (fun hc => ?_) (fun hc => ?_)
    · replace H := H.1 hc
      refine fs_iload (i := 7) dd_X12_letter_103 rfl ?_
      refine fs_iconst (n := 1) (v := 1) dd_X12_letter_105 (by decide) ?_
      refine fs_isub dd_X12_letter_106 ?_
      refine fs_topi (fun x1 hx1 => ?_)
      replace H := H x1 hx1
      refine fs_istore (i := 8) dd_X12_letter_107 (by decide) ?_
      refine fs_weak (ls2 := [fz_J, fz_J, fz_J, .int v3, fz_J, .long v5, fz_J, fz_J, .int x1, fz_J]) (fz_le_j (fz_le_j (fz_le_j (fz_le_e (fz_le_j (fz_le_e (fz_le_j (fz_le_j (fz_le_e (fz_le_j fz_le_n)))))))))) ?_
      exact V_lp_X12_letter_109 hD    2048 H
    · replace H := H.2 hc
      refine fs_iconst (n := 0) (v := 0) dd_X12_letter_101 (by decide) ?_
      exact fs_iret dd_X12_letter_102 rfl H
  · replace H := H.2 hc
    refine fs_iincN (i := 7) (m := 1) (c := 1) dd_X12_letter_81 rfl (by decide) (by decide) (fun x2 hx2 => ?_)
    replace H := H x2 hx2
    refine fs_lload (i := 8) dd_X12_letter_84 rfl ?_
    refine fs_ldc2 (idx := 306) (v := 27) dd_X12_letter_86 cl_X12_306 ?_
    refine fs_ldiv dd_X12_letter_89 (by decide) ?_
    refine fs_topl (fun x3 hx3 => ?_)
    replace H := H x3 hx3
    refine fs_lstore (i := 8) dd_X12_letter_90 (by decide) ?_
    refine fs_goto (tgt := 74) dd_X12_letter_92 (by decide) ?_
    refine fs_weak (ls2 := [fz_J, fz_J, fz_J, .int v3, fz_J, .long v5, fz_J, .int x2, .long x3, fz_J]) (fz_le_j (fz_le_j (fz_le_j (fz_le_e (fz_le_j (fz_le_e (fz_le_j (fz_le_e (fz_le_e (fz_le_j fz_le_n)))))))))) ?_
    exact hK74 H
set_option maxRecDepth 100000 in
set_option maxHeartbeats 4000000 in
theorem V_lp_X12_letter_74 {g : fz_G} {l : Launch} {d : Nat} (hD : 2 ≤ d)    {Q : Int32 → fz_s → Prop}  (n : Nat) : ∀ {v3 : Int32} {v5 : Int64} {v7 : Int32} {v8 : Int64} {s : fz_s}, lp_X12_letter_74   Q n v3 v5 v7 v8 s → fs_V g l m_X12_letter d false 74 [fz_J, fz_J, fz_J, .int v3, fz_J, .long v5, fz_J, .int v7, .long v8, fz_J] [] s (rI Q) := by
  induction n with
  | zero => intro v3 v5 v7 v8 s H; exact H.elim
  | succ n ih => intro v3 v5 v7 v8 s H; exact V_nd_X12_letter_74 hD  (fun H => ih H) H
set_option maxRecDepth 100000 in
set_option maxHeartbeats 4000000 in
theorem V_nd_X12_letter_31 {g : fz_G} {l : Launch} {d : Nat} (hD : 2 ≤ d)    {Q : Int32 → fz_s → Prop} {v1 : Int32} {v2 : Int32} {v3 : Int32} {u0 : Bool} {s : fz_s}  (H : nd_X12_letter_31   Q v1 v2 v3 u0 s) : fs_V g l m_X12_letter d false 31 [.ref 196, .int v1, .int v2, .int v3, fz_J, fz_J, fz_J, fz_J, fz_J, fz_J] [.int (bi u0)] s (rI Q) := by
  obtain ⟨d, rfl⟩ : ∃ e, d = e + 1 := ⟨d - 1, by omega⟩
  unfold nd_X12_letter_31 at H
  refine fs_istore (i := 4) dd_X12_letter_31 (by decide) ?_
  refine fs_iload (i := 4) dd_X12_letter_33 rfl ?_
  refine fs_if_eq (tgt := 50) dd_X12_letter_35 (by decide) (fun hc => ?_) (fun hc => ?_)
  · replace H := H.1 (bi_0 hc)
    refine fs_iconst (n := -1) (v := -1) dd_X12_letter_50 (by decide) ?_
    exact fs_iret dd_X12_letter_51 rfl H
  · replace H := H.2 (bi_1 hc)
    refine fs_iload_n (k0 := 3) (i := 3) dd_X12_letter_38 rfl rfl ?_
    refine fs_i2l dd_X12_letter_39 ?_
    refine fs_lconst (n := 0) (v := 0) dd_X12_letter_40 (by decide) ?_
    refine fs_ldc2 (idx := 513) (v := 5) dd_X12_letter_41 cl_X12_513 ?_
    refine fs_callS (y := m_X12_isIn) (as := [.long v3.toInt64, .long 0, .long 5]) dd_X12_letter_44 me_X12_isIn (Or.inl lk_X12_295) st_X12_isIn rfl (Nat.le_of_ble_eq_true rfl) (Nat.le_of_ble_eq_true rfl) rfl (V_X12_isIn (by omega)  H) (k2_Z fun r1 s2 H => ?_)
    refine fs_if_ne (tgt := 52) dd_X12_letter_47 (by decide) (fun hc => ?_) (fun hc => ?_)
    · replace H := H.1 (bi_1 hc)
      refine fs_aload_n (k0 := 0) (i := 0) dd_X12_letter_52 rfl rfl ?_
      refine fs_getr (ci := 12) (j := 41) (q := 225) dd_X12_letter_53 fl_X12_99 ca_196 rfl (Or.inr ⟨_, rfl⟩) rfl (by decide) ?_
      refine fs_bipush (n := 10) (v := 10) dd_X12_letter_56 (by decide) ?_
      refine fs_iconst (n := 2) (v := 2) dd_X12_letter_58 (by decide) ?_
      refine fs_iload_n (k0 := 1) (i := 1) dd_X12_letter_59 rfl rfl ?_
      refine fs_imul dd_X12_letter_60 ?_
      refine fs_iadd dd_X12_letter_61 ?_
      refine fs_iload_n (k0 := 2) (i := 2) dd_X12_letter_62 rfl rfl ?_
      refine fs_iadd dd_X12_letter_63 ?_
      have hb := H.1
      replace H := H.2
      refine fs_lald dd_X12_letter_64 ca_225 hb ?_
      refine fs_topl (fun x3 hx3 => ?_)
      replace H := H x3 hx3
      refine fs_lstore (i := 5) dd_X12_letter_65 (by decide) ?_
      refine fs_iconst (n := 0) (v := 0) dd_X12_letter_67 (by decide) ?_
      refine fs_istore (i := 7) dd_X12_letter_68 (by decide) ?_
      refine fs_lload (i := 5) dd_X12_letter_70 rfl ?_
      refine fs_lstore (i := 8) dd_X12_letter_72 (by decide) ?_
      refine fs_weak (ls2 := [fz_J, fz_J, fz_J, .int v3, fz_J, .long x3, fz_J, .int 0, .long x3, fz_J]) (fz_le_j (fz_le_j (fz_le_j (fz_le_e (fz_le_j (fz_le_e (fz_le_j (fz_le_e (fz_le_e (fz_le_j fz_le_n)))))))))) ?_
      exact V_lp_X12_letter_74 hD    2048 H
    · replace H := H.2 (bi_0 hc)
      refine fs_iconst (n := -1) (v := -1) dd_X12_letter_50 (by decide) ?_
      exact fs_iret dd_X12_letter_51 rfl H
set_option maxRecDepth 100000 in
set_option maxHeartbeats 4000000 in
theorem V_X12_letter {g : fz_G} {l : Launch} {d : Nat} (hD : 2 ≤ d) {p0 : Int32} {p1 : Int32} {p2 : Int32}  {s : fz_s} {Q : Int32 → fz_s → Prop} (H : wp_X12_letter p0 p1 p2 s Q) : fs_V g l m_X12_letter d false 0 (fz_en [.ref 196, .int p0, .int p1, .int p2] 10) [] s (rI Q) := by
  obtain ⟨d, rfl⟩ : ∃ e, d = e + 1 := ⟨d - 1, by omega⟩
  unfold wp_X12_letter at H
  refine fs_iload_n (k0 := 1) (i := 1) dd_X12_letter_0 rfl rfl ?_
  refine fs_if_ne (tgt := 13) dd_X12_letter_1 (by decide) (fun hc => ?_) (fun hc => ?_)
  · replace H := H.1 hc
    refine fs_iload_n (k0 := 1) (i := 1) dd_X12_letter_13 rfl rfl ?_
    refine fs_iconst (n := 1) (v := 1) dd_X12_letter_14 (by decide) ?_
    refine fs_icmp_ne (tgt := 30) dd_X12_letter_15 (by decide) (fun hc => ?_) (fun hc => ?_)
    · replace H := H.1 hc
      refine fs_iconst (n := 0) (v := 0) dd_X12_letter_30 (by decide) ?_
      refine fs_weak (ls2 := [.ref 196, .int p0, .int p1, .int p2, fz_J, fz_J, fz_J, fz_J, fz_J, fz_J]) (fz_le_e (fz_le_e (fz_le_e (fz_le_e (fz_le_j (fz_le_j (fz_le_j (fz_le_j (fz_le_j (fz_le_j fz_le_n)))))))))) ?_
      exact V_nd_X12_letter_31 hD    H
    · replace H := H.2 hc
      refine fs_aload_n (k0 := 0) (i := 0) dd_X12_letter_18 rfl rfl ?_
      refine fs_iload_n (k0 := 2) (i := 2) dd_X12_letter_19 rfl rfl ?_
      refine fs_callV (y := m_X12_isPerson) (as := [.int p1]) dd_X12_letter_20 me_X12_isPerson lk_X12_415 in_X12_isPerson se_X12_isPerson ca_196 rfl rfl rfl (Nat.le_of_ble_eq_true rfl) (Nat.le_of_ble_eq_true rfl) rfl (V_X12_isPerson (by omega)  H) (k2_Z fun r1 s2 H => ?_)
      refine fs_if_eq (tgt := 30) dd_X12_letter_23 (by decide) (fun hc => ?_) (fun hc => ?_)
      · replace H := H.1 (bi_0 hc)
        refine fs_iconst (n := 0) (v := 0) dd_X12_letter_30 (by decide) ?_
        refine fs_weak (ls2 := [.ref 196, .int p0, .int p1, .int p2, fz_J, fz_J, fz_J, fz_J, fz_J, fz_J]) (fz_le_e (fz_le_e (fz_le_e (fz_le_e (fz_le_j (fz_le_j (fz_le_j (fz_le_j (fz_le_j (fz_le_j fz_le_n)))))))))) ?_
        exact V_nd_X12_letter_31 hD    H
      · replace H := H.2 (bi_1 hc)
        refine fs_iconst (n := 1) (v := 1) dd_X12_letter_26 (by decide) ?_
        refine fs_goto (tgt := 31) dd_X12_letter_27 (by decide) ?_
        refine fs_weak (ls2 := [.ref 196, .int p0, .int p1, .int p2, fz_J, fz_J, fz_J, fz_J, fz_J, fz_J]) (fz_le_e (fz_le_e (fz_le_e (fz_le_e (fz_le_j (fz_le_j (fz_le_j (fz_le_j (fz_le_j (fz_le_j fz_le_n)))))))))) ?_
        exact V_nd_X12_letter_31 hD    H
  · replace H := H.2 hc
    refine fs_aload_n (k0 := 0) (i := 0) dd_X12_letter_4 rfl rfl ?_
    refine fs_iload_n (k0 := 2) (i := 2) dd_X12_letter_5 rfl rfl ?_
    refine fs_i2l dd_X12_letter_6 ?_
    refine fs_callV (y := m_X12_isVillage) (as := [.long p1.toInt64]) dd_X12_letter_7 me_X12_isVillage lk_X12_509 in_X12_isVillage se_X12_isVillage ca_196 rfl rfl rfl (Nat.le_of_ble_eq_true rfl) (Nat.le_of_ble_eq_true rfl) rfl (V_X12_isVillage (by omega)  H) (k2_Z fun r3 s4 H => ?_)
    refine fs_goto (tgt := 31) dd_X12_letter_10 (by decide) ?_
    refine fs_weak (ls2 := [.ref 196, .int p0, .int p1, .int p2, fz_J, fz_J, fz_J, fz_J, fz_J, fz_J]) (fz_le_e (fz_le_e (fz_le_e (fz_le_e (fz_le_j (fz_le_j (fz_le_j (fz_le_j (fz_le_j (fz_le_j fz_le_n)))))))))) ?_
    exact V_nd_X12_letter_31 hD    H
theorem dd_X12_village_0 : decode m_X12_village.2.1 0 = .ok (.aload_n 0, 1) := by decide +kernel
theorem dd_X12_village_1 : decode m_X12_village.2.1 1 = .ok (.iload_n 1, 1) := by decide +kernel
theorem dd_X12_village_2 : decode m_X12_village.2.1 2 = .ok (.i2l, 1) := by decide +kernel
theorem dd_X12_village_3 : decode m_X12_village.2.1 3 = .ok (.invokevirtual 509, 3) := by decide +kernel
theorem dd_X12_village_6 : decode m_X12_village.2.1 6 = .ok (.ifCond .ne 5, 3) := by decide +kernel
theorem dd_X12_village_9 : decode m_X12_village.2.1 9 = .ok (.iconst (-1), 1) := by decide +kernel
theorem dd_X12_village_10 : decode m_X12_village.2.1 10 = .ok (.ireturn, 1) := by decide +kernel
theorem dd_X12_village_11 : decode m_X12_village.2.1 11 = .ok (.aload_n 0, 1) := by decide +kernel
theorem dd_X12_village_12 : decode m_X12_village.2.1 12 = .ok (.iload_n 1, 1) := by decide +kernel
theorem dd_X12_village_13 : decode m_X12_village.2.1 13 = .ok (.invokevirtual 484, 3) := by decide +kernel
theorem dd_X12_village_16 : decode m_X12_village.2.1 16 = .ok (.istore_n 3, 1) := by decide +kernel
theorem dd_X12_village_17 : decode m_X12_village.2.1 17 = .ok (.iload_n 2, 1) := by decide +kernel
theorem dd_X12_village_18 : decode m_X12_village.2.1 18 = .ok (.tableswitch 90 0 5 #[38, 38, 51, 57, 69, 71], 38) := by decide +kernel
theorem dd_X12_village_56 : decode m_X12_village.2.1 56 = .ok (.aload_n 0, 1) := by decide +kernel
theorem dd_X12_village_57 : decode m_X12_village.2.1 57 = .ok (.getfield 121, 3) := by decide +kernel
theorem dd_X12_village_60 : decode m_X12_village.2.1 60 = .ok (.iconst 1, 1) := by decide +kernel
theorem dd_X12_village_61 : decode m_X12_village.2.1 61 = .ok (.iconst 2, 1) := by decide +kernel
theorem dd_X12_village_62 : decode m_X12_village.2.1 62 = .ok (.iload_n 1, 1) := by decide +kernel
theorem dd_X12_village_63 : decode m_X12_village.2.1 63 = .ok (.imul, 1) := by decide +kernel
theorem dd_X12_village_64 : decode m_X12_village.2.1 64 = .ok (.iadd, 1) := by decide +kernel
theorem dd_X12_village_65 : decode m_X12_village.2.1 65 = .ok (.iload_n 2, 1) := by decide +kernel
theorem dd_X12_village_66 : decode m_X12_village.2.1 66 = .ok (.iadd, 1) := by decide +kernel
theorem dd_X12_village_67 : decode m_X12_village.2.1 67 = .ok (.iaload, 1) := by decide +kernel
theorem dd_X12_village_68 : decode m_X12_village.2.1 68 = .ok (.ireturn, 1) := by decide +kernel
theorem dd_X12_village_69 : decode m_X12_village.2.1 69 = .ok (.aload_n 0, 1) := by decide +kernel
theorem dd_X12_village_70 : decode m_X12_village.2.1 70 = .ok (.iload_n 1, 1) := by decide +kernel
theorem dd_X12_village_71 : decode m_X12_village.2.1 71 = .ok (.invokevirtual 515, 3) := by decide +kernel
theorem dd_X12_village_74 : decode m_X12_village.2.1 74 = .ok (.ireturn, 1) := by decide +kernel
theorem dd_X12_village_75 : decode m_X12_village.2.1 75 = .ok (.aload_n 0, 1) := by decide +kernel
theorem dd_X12_village_76 : decode m_X12_village.2.1 76 = .ok (.iload_n 1, 1) := by decide +kernel
theorem dd_X12_village_77 : decode m_X12_village.2.1 77 = .ok (.invokevirtual 515, 3) := by decide +kernel
theorem dd_X12_village_80 : decode m_X12_village.2.1 80 = .ok (.aload_n 0, 1) := by decide +kernel
theorem dd_X12_village_81 : decode m_X12_village.2.1 81 = .ok (.iload_n 1, 1) := by decide +kernel
theorem dd_X12_village_82 : decode m_X12_village.2.1 82 = .ok (.invokevirtual 518, 3) := by decide +kernel
theorem dd_X12_village_85 : decode m_X12_village.2.1 85 = .ok (.isub, 1) := by decide +kernel
theorem dd_X12_village_86 : decode m_X12_village.2.1 86 = .ok (.ireturn, 1) := by decide +kernel
theorem dd_X12_village_87 : decode m_X12_village.2.1 87 = .ok (.iload_n 3, 1) := by decide +kernel
theorem dd_X12_village_88 : decode m_X12_village.2.1 88 = .ok (.ireturn, 1) := by decide +kernel
theorem dd_X12_village_89 : decode m_X12_village.2.1 89 = .ok (.iload_n 3, 1) := by decide +kernel
theorem dd_X12_village_90 : decode m_X12_village.2.1 90 = .ok (.iconst (-1), 1) := by decide +kernel
theorem dd_X12_village_91 : decode m_X12_village.2.1 91 = .ok (.if_icmp .eq 15, 3) := by decide +kernel
theorem dd_X12_village_94 : decode m_X12_village.2.1 94 = .ok (.aload_n 0, 1) := by decide +kernel
theorem dd_X12_village_95 : decode m_X12_village.2.1 95 = .ok (.iload_n 3, 1) := by decide +kernel
theorem dd_X12_village_96 : decode m_X12_village.2.1 96 = .ok (.invokevirtual 487, 3) := by decide +kernel
theorem dd_X12_village_99 : decode m_X12_village.2.1 99 = .ok (.ifCond .eq 7, 3) := by decide +kernel
theorem dd_X12_village_102 : decode m_X12_village.2.1 102 = .ok (.iconst 1, 1) := by decide +kernel
theorem dd_X12_village_103 : decode m_X12_village.2.1 103 = .ok (.goto 4, 3) := by decide +kernel
theorem dd_X12_village_106 : decode m_X12_village.2.1 106 = .ok (.iconst 0, 1) := by decide +kernel
theorem dd_X12_village_107 : decode m_X12_village.2.1 107 = .ok (.ireturn, 1) := by decide +kernel
theorem dd_X12_village_108 : decode m_X12_village.2.1 108 = .ok (.iconst (-1), 1) := by decide +kernel
theorem dd_X12_village_109 : decode m_X12_village.2.1 109 = .ok (.ireturn, 1) := by decide +kernel
def wp_X12_village (p0 : Int32) (p1 : Int32) (s : fz_s) (Q : Int32 → fz_s → Prop) : Prop :=
  wp_X12_isVillage p0.toInt64 s (fun r1 s2 => ((r1 = true → wp_X12_sentOf p0 s2 (fun r3 s4 => ((p1 = 0 → vp_in ((1 + (2 * p0)) + p1) 150 ∧ Q (s4.1 232 ((1 + (2 * p0)) + p1).toNatClampNeg) s4) ∧ (p1 = 1 → vp_in ((1 + (2 * p0)) + p1) 150 ∧ Q (s4.1 232 ((1 + (2 * p0)) + p1).toNatClampNeg) s4) ∧ (p1 = 2 → wp_X12_liversOf p0 s4 (fun r5 s6 => Q r5 s6)) ∧ (p1 = 3 → wp_X12_liversOf p0 s4 (fun r7 s8 => wp_X12_guestsOf p0 s8 (fun r9 s10 => Q (r7 - r9) s10))) ∧ (p1 = 4 → Q r3 s4) ∧ (p1 = 5 → ((r3 = (-1) → Q 0 s4) ∧ (¬ r3 = (-1) → wp_X12_doesPass r3 s4 (fun r11 s12 => ((r11 = false → Q 0 s12) ∧ (r11 = true → Q 1 s12)))))) ∧ (¬ p1 = 0 ∧ ¬ p1 = 1 ∧ ¬ p1 = 2 ∧ ¬ p1 = 3 ∧ ¬ p1 = 4 ∧ ¬ p1 = 5 → Q (-1) s4)))) ∧ (r1 = false → Q (-1) s2)))
set_option maxRecDepth 100000 in
set_option maxHeartbeats 4000000 in
theorem V_X12_village {g : fz_G} {l : Launch} {d : Nat} (hD : 7 ≤ d) {p0 : Int32} {p1 : Int32}  {s : fz_s} {Q : Int32 → fz_s → Prop} (H : wp_X12_village p0 p1 s Q) : fs_V g l m_X12_village d false 0 (fz_en [.ref 196, .int p0, .int p1] 4) [] s (rI Q) := by
  obtain ⟨d, rfl⟩ : ∃ e, d = e + 1 := ⟨d - 1, by omega⟩
  unfold wp_X12_village at H
  refine fs_aload_n (k0 := 0) (i := 0) dd_X12_village_0 rfl rfl ?_
  refine fs_iload_n (k0 := 1) (i := 1) dd_X12_village_1 rfl rfl ?_
  refine fs_i2l dd_X12_village_2 ?_
  refine fs_callV (y := m_X12_isVillage) (as := [.long p0.toInt64]) dd_X12_village_3 me_X12_isVillage lk_X12_509 in_X12_isVillage se_X12_isVillage ca_196 rfl rfl rfl (Nat.le_of_ble_eq_true rfl) (Nat.le_of_ble_eq_true rfl) rfl (V_X12_isVillage (by omega)  H) (k2_Z fun r1 s2 H => ?_)
  refine fs_if_ne (tgt := 11) dd_X12_village_6 (by decide) (fun hc => ?_) (fun hc => ?_)
  · replace H := H.1 (bi_1 hc)
    refine fs_aload_n (k0 := 0) (i := 0) dd_X12_village_11 rfl rfl ?_
    refine fs_iload_n (k0 := 1) (i := 1) dd_X12_village_12 rfl rfl ?_
    refine fs_callV (y := m_X12_sentOf) (as := [.int p0]) dd_X12_village_13 me_X12_sentOf lk_X12_484 in_X12_sentOf se_X12_sentOf ca_196 rfl rfl rfl (Nat.le_of_ble_eq_true rfl) (Nat.le_of_ble_eq_true rfl) rfl (V_X12_sentOf (by omega)  H) (k2_I fun r3 s4 H => ?_)
    refine fs_istore_n (k0 := 3) (i := 3) dd_X12_village_16 rfl (by decide) ?_
    refine fs_iload_n (k0 := 2) (i := 2) dd_X12_village_17 rfl rfl ?_
    by_cases hc0 : p1 = 0
    · replace H := H.1 hc0
      refine fs_tableAt (k := 0) (off := 38) (tgt := 56) hc0 dd_X12_village_18 (by decide) (by decide) rfl (by decide) ?_
      refine fs_aload_n (k0 := 0) (i := 0) dd_X12_village_56 rfl rfl ?_
      refine fs_getr (ci := 12) (j := 54) (q := 232) dd_X12_village_57 fl_X12_121 ca_196 rfl (Or.inr ⟨_, rfl⟩) rfl (by decide) ?_
      refine fs_iconst (n := 1) (v := 1) dd_X12_village_60 (by decide) ?_
      refine fs_iconst (n := 2) (v := 2) dd_X12_village_61 (by decide) ?_
      refine fs_iload_n (k0 := 1) (i := 1) dd_X12_village_62 rfl rfl ?_
      refine fs_imul dd_X12_village_63 ?_
      refine fs_iadd dd_X12_village_64 ?_
      refine fs_iload_n (k0 := 2) (i := 2) dd_X12_village_65 rfl rfl ?_
      refine fs_iadd dd_X12_village_66 ?_
      have hb := H.1
      replace H := H.2
      refine fs_iald dd_X12_village_67 ca_232 hb ?_
      exact fs_iret dd_X12_village_68 rfl H
    by_cases hc1 : p1 = 1
    · replace H := H.2.1 hc1
      refine fs_tableAt (k := 1) (off := 38) (tgt := 56) hc1 dd_X12_village_18 (by decide) (by decide) rfl (by decide) ?_
      refine fs_aload_n (k0 := 0) (i := 0) dd_X12_village_56 rfl rfl ?_
      refine fs_getr (ci := 12) (j := 54) (q := 232) dd_X12_village_57 fl_X12_121 ca_196 rfl (Or.inr ⟨_, rfl⟩) rfl (by decide) ?_
      refine fs_iconst (n := 1) (v := 1) dd_X12_village_60 (by decide) ?_
      refine fs_iconst (n := 2) (v := 2) dd_X12_village_61 (by decide) ?_
      refine fs_iload_n (k0 := 1) (i := 1) dd_X12_village_62 rfl rfl ?_
      refine fs_imul dd_X12_village_63 ?_
      refine fs_iadd dd_X12_village_64 ?_
      refine fs_iload_n (k0 := 2) (i := 2) dd_X12_village_65 rfl rfl ?_
      refine fs_iadd dd_X12_village_66 ?_
      have hb := H.1
      replace H := H.2
      refine fs_iald dd_X12_village_67 ca_232 hb ?_
      exact fs_iret dd_X12_village_68 rfl H
    by_cases hc2 : p1 = 2
    · replace H := H.2.2.1 hc2
      refine fs_tableAt (k := 2) (off := 51) (tgt := 69) hc2 dd_X12_village_18 (by decide) (by decide) rfl (by decide) ?_
      refine fs_aload_n (k0 := 0) (i := 0) dd_X12_village_69 rfl rfl ?_
      refine fs_iload_n (k0 := 1) (i := 1) dd_X12_village_70 rfl rfl ?_
      refine fs_callV (y := m_X12_liversOf) (as := [.int p0]) dd_X12_village_71 me_X12_liversOf lk_X12_515 in_X12_liversOf se_X12_liversOf ca_196 rfl rfl rfl (Nat.le_of_ble_eq_true rfl) (Nat.le_of_ble_eq_true rfl) rfl (V_X12_liversOf (by omega)  H) (k2_I fun r5 s6 H => ?_)
      exact fs_iret dd_X12_village_74 rfl H
    by_cases hc3 : p1 = 3
    · replace H := H.2.2.2.1 hc3
      refine fs_tableAt (k := 3) (off := 57) (tgt := 75) hc3 dd_X12_village_18 (by decide) (by decide) rfl (by decide) ?_
      refine fs_aload_n (k0 := 0) (i := 0) dd_X12_village_75 rfl rfl ?_
      refine fs_iload_n (k0 := 1) (i := 1) dd_X12_village_76 rfl rfl ?_
      refine fs_callV (y := m_X12_liversOf) (as := [.int p0]) dd_X12_village_77 me_X12_liversOf lk_X12_515 in_X12_liversOf se_X12_liversOf ca_196 rfl rfl rfl (Nat.le_of_ble_eq_true rfl) (Nat.le_of_ble_eq_true rfl) rfl (V_X12_liversOf (by omega)  H) (k2_I fun r7 s8 H => ?_)
      refine fs_aload_n (k0 := 0) (i := 0) dd_X12_village_80 rfl rfl ?_
      refine fs_iload_n (k0 := 1) (i := 1) dd_X12_village_81 rfl rfl ?_
      refine fs_callV (y := m_X12_guestsOf) (as := [.int p0]) dd_X12_village_82 me_X12_guestsOf lk_X12_518 in_X12_guestsOf se_X12_guestsOf ca_196 rfl rfl rfl (Nat.le_of_ble_eq_true rfl) (Nat.le_of_ble_eq_true rfl) rfl (V_X12_guestsOf (by omega)  H) (k2_I fun r9 s10 H => ?_)
      refine fs_isub dd_X12_village_85 ?_
      exact fs_iret dd_X12_village_86 rfl H
    by_cases hc4 : p1 = 4
    · replace H := H.2.2.2.2.1 hc4
      refine fs_tableAt (k := 4) (off := 69) (tgt := 87) hc4 dd_X12_village_18 (by decide) (by decide) rfl (by decide) ?_
      refine fs_iload_n (k0 := 3) (i := 3) dd_X12_village_87 rfl rfl ?_
      exact fs_iret dd_X12_village_88 rfl H
    by_cases hc5 : p1 = 5
    · replace H := H.2.2.2.2.2.1 hc5
      refine fs_tableAt (k := 5) (off := 71) (tgt := 89) hc5 dd_X12_village_18 (by decide) (by decide) rfl (by decide) ?_
      refine fs_iload_n (k0 := 3) (i := 3) dd_X12_village_89 rfl rfl ?_
      refine fs_iconst (n := -1) (v := -1) dd_X12_village_90 (by decide) ?_
      refine fs_icmp_eq (tgt := 106) dd_X12_village_91 (by decide) (fun hc => ?_) (fun hc => ?_)
      · replace H := H.1 hc
        refine fs_iconst (n := 0) (v := 0) dd_X12_village_106 (by decide) ?_
        exact fs_iret dd_X12_village_107 rfl H
      · replace H := H.2 hc
        refine fs_aload_n (k0 := 0) (i := 0) dd_X12_village_94 rfl rfl ?_
        refine fs_iload_n (k0 := 3) (i := 3) dd_X12_village_95 rfl rfl ?_
        refine fs_callV (y := m_X12_doesPass) (as := [.int r3]) dd_X12_village_96 me_X12_doesPass lk_X12_487 in_X12_doesPass se_X12_doesPass ca_196 rfl rfl rfl (Nat.le_of_ble_eq_true rfl) (Nat.le_of_ble_eq_true rfl) rfl (V_X12_doesPass (by omega)  H) (k2_Z fun r11 s12 H => ?_)
        refine fs_if_eq (tgt := 106) dd_X12_village_99 (by decide) (fun hc => ?_) (fun hc => ?_)
        · replace H := H.1 (bi_0 hc)
          refine fs_iconst (n := 0) (v := 0) dd_X12_village_106 (by decide) ?_
          exact fs_iret dd_X12_village_107 rfl H
        · replace H := H.2 (bi_1 hc)
          refine fs_iconst (n := 1) (v := 1) dd_X12_village_102 (by decide) ?_
          refine fs_goto (tgt := 107) dd_X12_village_103 (by decide) ?_
          exact fs_iret dd_X12_village_107 rfl H
    replace H := H.2.2.2.2.2.2 ⟨hc0, hc1, hc2, hc3, hc4, hc5⟩
    refine fs_tableOut' (ks := [0, 1, 2, 3, 4, 5]) (tgt := 108) (by simp only [List.forall_mem_cons]; exact ⟨hc0, hc1, hc2, hc3, hc4, hc5, fun _ h => by cases h⟩) dd_X12_village_18 (by decide) (by decide) ?_
    refine fs_iconst (n := -1) (v := -1) dd_X12_village_108 (by decide) ?_
    exact fs_iret dd_X12_village_109 rfl H
  · replace H := H.2 (bi_0 hc)
    refine fs_iconst (n := -1) (v := -1) dd_X12_village_9 (by decide) ?_
    exact fs_iret dd_X12_village_10 rfl H
theorem dd_X12_person_0 : decode m_X12_person.2.1 0 = .ok (.aload_n 0, 1) := by decide +kernel
theorem dd_X12_person_1 : decode m_X12_person.2.1 1 = .ok (.iload_n 1, 1) := by decide +kernel
theorem dd_X12_person_2 : decode m_X12_person.2.1 2 = .ok (.invokevirtual 415, 3) := by decide +kernel
theorem dd_X12_person_5 : decode m_X12_person.2.1 5 = .ok (.ifCond .ne 5, 3) := by decide +kernel
theorem dd_X12_person_8 : decode m_X12_person.2.1 8 = .ok (.iconst (-1), 1) := by decide +kernel
theorem dd_X12_person_9 : decode m_X12_person.2.1 9 = .ok (.ireturn, 1) := by decide +kernel
theorem dd_X12_person_10 : decode m_X12_person.2.1 10 = .ok (.iload_n 2, 1) := by decide +kernel
theorem dd_X12_person_11 : decode m_X12_person.2.1 11 = .ok (.tableswitch 93 0 6 #[41, 47, 53, 59, 59, 73, 79], 41) := by decide +kernel
theorem dd_X12_person_52 : decode m_X12_person.2.1 52 = .ok (.aload_n 0, 1) := by decide +kernel
theorem dd_X12_person_53 : decode m_X12_person.2.1 53 = .ok (.iload_n 1, 1) := by decide +kernel
theorem dd_X12_person_54 : decode m_X12_person.2.1 54 = .ok (.invokevirtual 408, 3) := by decide +kernel
theorem dd_X12_person_57 : decode m_X12_person.2.1 57 = .ok (.ireturn, 1) := by decide +kernel
theorem dd_X12_person_58 : decode m_X12_person.2.1 58 = .ok (.aload_n 0, 1) := by decide +kernel
theorem dd_X12_person_59 : decode m_X12_person.2.1 59 = .ok (.iload_n 1, 1) := by decide +kernel
theorem dd_X12_person_60 : decode m_X12_person.2.1 60 = .ok (.invokevirtual 412, 3) := by decide +kernel
theorem dd_X12_person_63 : decode m_X12_person.2.1 63 = .ok (.ireturn, 1) := by decide +kernel
theorem dd_X12_person_64 : decode m_X12_person.2.1 64 = .ok (.aload_n 0, 1) := by decide +kernel
theorem dd_X12_person_65 : decode m_X12_person.2.1 65 = .ok (.iload_n 1, 1) := by decide +kernel
theorem dd_X12_person_66 : decode m_X12_person.2.1 66 = .ok (.invokevirtual 442, 3) := by decide +kernel
theorem dd_X12_person_69 : decode m_X12_person.2.1 69 = .ok (.ireturn, 1) := by decide +kernel
theorem dd_X12_person_70 : decode m_X12_person.2.1 70 = .ok (.aload_n 0, 1) := by decide +kernel
theorem dd_X12_person_71 : decode m_X12_person.2.1 71 = .ok (.getfield 106, 3) := by decide +kernel
theorem dd_X12_person_74 : decode m_X12_person.2.1 74 = .ok (.bipush 22, 2) := by decide +kernel
theorem dd_X12_person_76 : decode m_X12_person.2.1 76 = .ok (.iconst 3, 1) := by decide +kernel
theorem dd_X12_person_77 : decode m_X12_person.2.1 77 = .ok (.iload_n 1, 1) := by decide +kernel
theorem dd_X12_person_78 : decode m_X12_person.2.1 78 = .ok (.imul, 1) := by decide +kernel
theorem dd_X12_person_79 : decode m_X12_person.2.1 79 = .ok (.iadd, 1) := by decide +kernel
theorem dd_X12_person_80 : decode m_X12_person.2.1 80 = .ok (.iload_n 2, 1) := by decide +kernel
theorem dd_X12_person_81 : decode m_X12_person.2.1 81 = .ok (.iadd, 1) := by decide +kernel
theorem dd_X12_person_82 : decode m_X12_person.2.1 82 = .ok (.iaload, 1) := by decide +kernel
theorem dd_X12_person_83 : decode m_X12_person.2.1 83 = .ok (.ireturn, 1) := by decide +kernel
theorem dd_X12_person_84 : decode m_X12_person.2.1 84 = .ok (.aload_n 0, 1) := by decide +kernel
theorem dd_X12_person_85 : decode m_X12_person.2.1 85 = .ok (.iload_n 1, 1) := by decide +kernel
theorem dd_X12_person_86 : decode m_X12_person.2.1 86 = .ok (.invokevirtual 469, 3) := by decide +kernel
theorem dd_X12_person_89 : decode m_X12_person.2.1 89 = .ok (.ireturn, 1) := by decide +kernel
theorem dd_X12_person_90 : decode m_X12_person.2.1 90 = .ok (.aload_n 0, 1) := by decide +kernel
theorem dd_X12_person_91 : decode m_X12_person.2.1 91 = .ok (.iload_n 1, 1) := by decide +kernel
theorem dd_X12_person_92 : decode m_X12_person.2.1 92 = .ok (.invokevirtual 487, 3) := by decide +kernel
theorem dd_X12_person_95 : decode m_X12_person.2.1 95 = .ok (.ifCond .eq 7, 3) := by decide +kernel
theorem dd_X12_person_98 : decode m_X12_person.2.1 98 = .ok (.iconst 1, 1) := by decide +kernel
theorem dd_X12_person_99 : decode m_X12_person.2.1 99 = .ok (.goto 4, 3) := by decide +kernel
theorem dd_X12_person_102 : decode m_X12_person.2.1 102 = .ok (.iconst 0, 1) := by decide +kernel
theorem dd_X12_person_103 : decode m_X12_person.2.1 103 = .ok (.ireturn, 1) := by decide +kernel
theorem dd_X12_person_104 : decode m_X12_person.2.1 104 = .ok (.iconst (-1), 1) := by decide +kernel
theorem dd_X12_person_105 : decode m_X12_person.2.1 105 = .ok (.ireturn, 1) := by decide +kernel
def wp_X12_person (p0 : Int32) (p1 : Int32) (s : fz_s) (Q : Int32 → fz_s → Prop) : Prop :=
  wp_X12_isPerson p0 s (fun r1 s2 => ((r1 = true → ((p1 = 0 → wp_X12_homeOf p0 s2 (fun r3 s4 => Q r3 s4)) ∧ (p1 = 1 → wp_X12_livesIn p0 s2 (fun r5 s6 => Q r5 s6)) ∧ (p1 = 2 → wp_X12_witsOf p0 s2 (fun r7 s8 => Q r7 s8)) ∧ (p1 = 3 → vp_in ((22 + (3 * p0)) + p1) 48 ∧ Q (s2.1 227 ((22 + (3 * p0)) + p1).toNatClampNeg) s2) ∧ (p1 = 4 → vp_in ((22 + (3 * p0)) + p1) 48 ∧ Q (s2.1 227 ((22 + (3 * p0)) + p1).toNatClampNeg) s2) ∧ (p1 = 5 → wp_X12_awayOf p0 s2 (fun r9 s10 => Q r9 s10)) ∧ (p1 = 6 → wp_X12_doesPass p0 s2 (fun r11 s12 => ((r11 = false → Q 0 s12) ∧ (r11 = true → Q 1 s12)))) ∧ (¬ p1 = 0 ∧ ¬ p1 = 1 ∧ ¬ p1 = 2 ∧ ¬ p1 = 3 ∧ ¬ p1 = 4 ∧ ¬ p1 = 5 ∧ ¬ p1 = 6 → Q (-1) s2))) ∧ (r1 = false → Q (-1) s2)))
set_option maxRecDepth 100000 in
set_option maxHeartbeats 4000000 in
theorem V_X12_person {g : fz_G} {l : Launch} {d : Nat} (hD : 6 ≤ d) {p0 : Int32} {p1 : Int32}  {s : fz_s} {Q : Int32 → fz_s → Prop} (H : wp_X12_person p0 p1 s Q) : fs_V g l m_X12_person d false 0 (fz_en [.ref 196, .int p0, .int p1] 3) [] s (rI Q) := by
  obtain ⟨d, rfl⟩ : ∃ e, d = e + 1 := ⟨d - 1, by omega⟩
  unfold wp_X12_person at H
  refine fs_aload_n (k0 := 0) (i := 0) dd_X12_person_0 rfl rfl ?_
  refine fs_iload_n (k0 := 1) (i := 1) dd_X12_person_1 rfl rfl ?_
  refine fs_callV (y := m_X12_isPerson) (as := [.int p0]) dd_X12_person_2 me_X12_isPerson lk_X12_415 in_X12_isPerson se_X12_isPerson ca_196 rfl rfl rfl (Nat.le_of_ble_eq_true rfl) (Nat.le_of_ble_eq_true rfl) rfl (V_X12_isPerson (by omega)  H) (k2_Z fun r1 s2 H => ?_)
  refine fs_if_ne (tgt := 10) dd_X12_person_5 (by decide) (fun hc => ?_) (fun hc => ?_)
  · replace H := H.1 (bi_1 hc)
    refine fs_iload_n (k0 := 2) (i := 2) dd_X12_person_10 rfl rfl ?_
    by_cases hc0 : p1 = 0
    · replace H := H.1 hc0
      refine fs_tableAt (k := 0) (off := 41) (tgt := 52) hc0 dd_X12_person_11 (by decide) (by decide) rfl (by decide) ?_
      refine fs_aload_n (k0 := 0) (i := 0) dd_X12_person_52 rfl rfl ?_
      refine fs_iload_n (k0 := 1) (i := 1) dd_X12_person_53 rfl rfl ?_
      refine fs_callV (y := m_X12_homeOf) (as := [.int p0]) dd_X12_person_54 me_X12_homeOf lk_X12_408 in_X12_homeOf se_X12_homeOf ca_196 rfl rfl rfl (Nat.le_of_ble_eq_true rfl) (Nat.le_of_ble_eq_true rfl) rfl (V_X12_homeOf (by omega)  H) (k2_I fun r3 s4 H => ?_)
      exact fs_iret dd_X12_person_57 rfl H
    by_cases hc1 : p1 = 1
    · replace H := H.2.1 hc1
      refine fs_tableAt (k := 1) (off := 47) (tgt := 58) hc1 dd_X12_person_11 (by decide) (by decide) rfl (by decide) ?_
      refine fs_aload_n (k0 := 0) (i := 0) dd_X12_person_58 rfl rfl ?_
      refine fs_iload_n (k0 := 1) (i := 1) dd_X12_person_59 rfl rfl ?_
      refine fs_callV (y := m_X12_livesIn) (as := [.int p0]) dd_X12_person_60 me_X12_livesIn lk_X12_412 in_X12_livesIn se_X12_livesIn ca_196 rfl rfl rfl (Nat.le_of_ble_eq_true rfl) (Nat.le_of_ble_eq_true rfl) rfl (V_X12_livesIn (by omega)  H) (k2_I fun r5 s6 H => ?_)
      exact fs_iret dd_X12_person_63 rfl H
    by_cases hc2 : p1 = 2
    · replace H := H.2.2.1 hc2
      refine fs_tableAt (k := 2) (off := 53) (tgt := 64) hc2 dd_X12_person_11 (by decide) (by decide) rfl (by decide) ?_
      refine fs_aload_n (k0 := 0) (i := 0) dd_X12_person_64 rfl rfl ?_
      refine fs_iload_n (k0 := 1) (i := 1) dd_X12_person_65 rfl rfl ?_
      refine fs_callV (y := m_X12_witsOf) (as := [.int p0]) dd_X12_person_66 me_X12_witsOf lk_X12_442 in_X12_witsOf se_X12_witsOf ca_196 rfl rfl rfl (Nat.le_of_ble_eq_true rfl) (Nat.le_of_ble_eq_true rfl) rfl (V_X12_witsOf (by omega)  H) (k2_I fun r7 s8 H => ?_)
      exact fs_iret dd_X12_person_69 rfl H
    by_cases hc3 : p1 = 3
    · replace H := H.2.2.2.1 hc3
      refine fs_tableAt (k := 3) (off := 59) (tgt := 70) hc3 dd_X12_person_11 (by decide) (by decide) rfl (by decide) ?_
      refine fs_aload_n (k0 := 0) (i := 0) dd_X12_person_70 rfl rfl ?_
      refine fs_getr (ci := 12) (j := 43) (q := 227) dd_X12_person_71 fl_X12_106 ca_196 rfl (Or.inr ⟨_, rfl⟩) rfl (by decide) ?_
      refine fs_bipush (n := 22) (v := 22) dd_X12_person_74 (by decide) ?_
      refine fs_iconst (n := 3) (v := 3) dd_X12_person_76 (by decide) ?_
      refine fs_iload_n (k0 := 1) (i := 1) dd_X12_person_77 rfl rfl ?_
      refine fs_imul dd_X12_person_78 ?_
      refine fs_iadd dd_X12_person_79 ?_
      refine fs_iload_n (k0 := 2) (i := 2) dd_X12_person_80 rfl rfl ?_
      refine fs_iadd dd_X12_person_81 ?_
      have hb := H.1
      replace H := H.2
      refine fs_iald dd_X12_person_82 ca_227 hb ?_
      exact fs_iret dd_X12_person_83 rfl H
    by_cases hc4 : p1 = 4
    · replace H := H.2.2.2.2.1 hc4
      refine fs_tableAt (k := 4) (off := 59) (tgt := 70) hc4 dd_X12_person_11 (by decide) (by decide) rfl (by decide) ?_
      refine fs_aload_n (k0 := 0) (i := 0) dd_X12_person_70 rfl rfl ?_
      refine fs_getr (ci := 12) (j := 43) (q := 227) dd_X12_person_71 fl_X12_106 ca_196 rfl (Or.inr ⟨_, rfl⟩) rfl (by decide) ?_
      refine fs_bipush (n := 22) (v := 22) dd_X12_person_74 (by decide) ?_
      refine fs_iconst (n := 3) (v := 3) dd_X12_person_76 (by decide) ?_
      refine fs_iload_n (k0 := 1) (i := 1) dd_X12_person_77 rfl rfl ?_
      refine fs_imul dd_X12_person_78 ?_
      refine fs_iadd dd_X12_person_79 ?_
      refine fs_iload_n (k0 := 2) (i := 2) dd_X12_person_80 rfl rfl ?_
      refine fs_iadd dd_X12_person_81 ?_
      have hb := H.1
      replace H := H.2
      refine fs_iald dd_X12_person_82 ca_227 hb ?_
      exact fs_iret dd_X12_person_83 rfl H
    by_cases hc5 : p1 = 5
    · replace H := H.2.2.2.2.2.1 hc5
      refine fs_tableAt (k := 5) (off := 73) (tgt := 84) hc5 dd_X12_person_11 (by decide) (by decide) rfl (by decide) ?_
      refine fs_aload_n (k0 := 0) (i := 0) dd_X12_person_84 rfl rfl ?_
      refine fs_iload_n (k0 := 1) (i := 1) dd_X12_person_85 rfl rfl ?_
      refine fs_callV (y := m_X12_awayOf) (as := [.int p0]) dd_X12_person_86 me_X12_awayOf lk_X12_469 in_X12_awayOf se_X12_awayOf ca_196 rfl rfl rfl (Nat.le_of_ble_eq_true rfl) (Nat.le_of_ble_eq_true rfl) rfl (V_X12_awayOf (by omega)  H) (k2_I fun r9 s10 H => ?_)
      exact fs_iret dd_X12_person_89 rfl H
    by_cases hc6 : p1 = 6
    · replace H := H.2.2.2.2.2.2.1 hc6
      refine fs_tableAt (k := 6) (off := 79) (tgt := 90) hc6 dd_X12_person_11 (by decide) (by decide) rfl (by decide) ?_
      refine fs_aload_n (k0 := 0) (i := 0) dd_X12_person_90 rfl rfl ?_
      refine fs_iload_n (k0 := 1) (i := 1) dd_X12_person_91 rfl rfl ?_
      refine fs_callV (y := m_X12_doesPass) (as := [.int p0]) dd_X12_person_92 me_X12_doesPass lk_X12_487 in_X12_doesPass se_X12_doesPass ca_196 rfl rfl rfl (Nat.le_of_ble_eq_true rfl) (Nat.le_of_ble_eq_true rfl) rfl (V_X12_doesPass (by omega)  H) (k2_Z fun r11 s12 H => ?_)
      refine fs_if_eq (tgt := 102) dd_X12_person_95 (by decide) (fun hc => ?_) (fun hc => ?_)
      · replace H := H.1 (bi_0 hc)
        refine fs_iconst (n := 0) (v := 0) dd_X12_person_102 (by decide) ?_
        exact fs_iret dd_X12_person_103 rfl H
      · replace H := H.2 (bi_1 hc)
        refine fs_iconst (n := 1) (v := 1) dd_X12_person_98 (by decide) ?_
        refine fs_goto (tgt := 103) dd_X12_person_99 (by decide) ?_
        exact fs_iret dd_X12_person_103 rfl H
    replace H := H.2.2.2.2.2.2.2 ⟨hc0, hc1, hc2, hc3, hc4, hc5, hc6⟩
    refine fs_tableOut' (ks := [0, 1, 2, 3, 4, 5, 6]) (tgt := 104) (by simp only [List.forall_mem_cons]; exact ⟨hc0, hc1, hc2, hc3, hc4, hc5, hc6, fun _ h => by cases h⟩) dd_X12_person_11 (by decide) (by decide) ?_
    refine fs_iconst (n := -1) (v := -1) dd_X12_person_104 (by decide) ?_
    exact fs_iret dd_X12_person_105 rfl H
  · replace H := H.2 (bi_0 hc)
    refine fs_iconst (n := -1) (v := -1) dd_X12_person_8 (by decide) ?_
    exact fs_iret dd_X12_person_9 rfl H
theorem dd_X12_does_0 : decode m_X12_does.2.1 0 = .ok (.aload_n 0, 1) := by decide +kernel
theorem dd_X12_does_1 : decode m_X12_does.2.1 1 = .ok (.iload_n 1, 1) := by decide +kernel
theorem dd_X12_does_2 : decode m_X12_does.2.1 2 = .ok (.invokevirtual 415, 3) := by decide +kernel
theorem dd_X12_does_5 : decode m_X12_does.2.1 5 = .ok (.ifCond .eq 21, 3) := by decide +kernel
theorem dd_X12_does_8 : decode m_X12_does.2.1 8 = .ok (.aload_n 0, 1) := by decide +kernel
theorem dd_X12_does_9 : decode m_X12_does.2.1 9 = .ok (.iload_n 2, 1) := by decide +kernel
theorem dd_X12_does_10 : decode m_X12_does.2.1 10 = .ok (.i2l, 1) := by decide +kernel
theorem dd_X12_does_11 : decode m_X12_does.2.1 11 = .ok (.invokevirtual 509, 3) := by decide +kernel
theorem dd_X12_does_14 : decode m_X12_does.2.1 14 = .ok (.ifCond .eq 12, 3) := by decide +kernel
theorem dd_X12_does_17 : decode m_X12_does.2.1 17 = .ok (.aload_n 0, 1) := by decide +kernel
theorem dd_X12_does_18 : decode m_X12_does.2.1 18 = .ok (.iload_n 1, 1) := by decide +kernel
theorem dd_X12_does_19 : decode m_X12_does.2.1 19 = .ok (.iload_n 2, 1) := by decide +kernel
theorem dd_X12_does_20 : decode m_X12_does.2.1 20 = .ok (.invokevirtual 456, 3) := by decide +kernel
theorem dd_X12_does_23 : decode m_X12_does.2.1 23 = .ok (.goto 6, 3) := by decide +kernel
theorem dd_X12_does_26 : decode m_X12_does.2.1 26 = .ok (.ldc2_w 521, 3) := by decide +kernel
theorem dd_X12_does_29 : decode m_X12_does.2.1 29 = .ok (.lreturn, 1) := by decide +kernel
def wp_X12_does (p0 : Int32) (p1 : Int32) (s : fz_s) (Q : Int64 → fz_s → Prop) : Prop :=
  wp_X12_isPerson p0 s (fun r1 s2 => ((r1 = false → Q (-1000000000000000) s2) ∧ (r1 = true → wp_X12_isVillage p1.toInt64 s2 (fun r3 s4 => ((r3 = false → Q (-1000000000000000) s4) ∧ (r3 = true → wp_X12_doesIn p0 p1 s4 (fun r5 s6 => Q r5 s6)))))))
set_option maxRecDepth 100000 in
set_option maxHeartbeats 4000000 in
theorem V_X12_does {g : fz_G} {l : Launch} {d : Nat} (hD : 6 ≤ d) {p0 : Int32} {p1 : Int32}  {s : fz_s} {Q : Int64 → fz_s → Prop} (H : wp_X12_does p0 p1 s Q) : fs_V g l m_X12_does d false 0 (fz_en [.ref 196, .int p0, .int p1] 3) [] s (rL Q) := by
  obtain ⟨d, rfl⟩ : ∃ e, d = e + 1 := ⟨d - 1, by omega⟩
  unfold wp_X12_does at H
  refine fs_aload_n (k0 := 0) (i := 0) dd_X12_does_0 rfl rfl ?_
  refine fs_iload_n (k0 := 1) (i := 1) dd_X12_does_1 rfl rfl ?_
  refine fs_callV (y := m_X12_isPerson) (as := [.int p0]) dd_X12_does_2 me_X12_isPerson lk_X12_415 in_X12_isPerson se_X12_isPerson ca_196 rfl rfl rfl (Nat.le_of_ble_eq_true rfl) (Nat.le_of_ble_eq_true rfl) rfl (V_X12_isPerson (by omega)  H) (k2_Z fun r1 s2 H => ?_)
  refine fs_if_eq (tgt := 26) dd_X12_does_5 (by decide) (fun hc => ?_) (fun hc => ?_)
  · replace H := H.1 (bi_0 hc)
    refine fs_ldc2 (idx := 521) (v := -1000000000000000) dd_X12_does_26 cl_X12_521 ?_
    exact fs_lret dd_X12_does_29 rfl H
  · replace H := H.2 (bi_1 hc)
    refine fs_aload_n (k0 := 0) (i := 0) dd_X12_does_8 rfl rfl ?_
    refine fs_iload_n (k0 := 2) (i := 2) dd_X12_does_9 rfl rfl ?_
    refine fs_i2l dd_X12_does_10 ?_
    refine fs_callV (y := m_X12_isVillage) (as := [.long p1.toInt64]) dd_X12_does_11 me_X12_isVillage lk_X12_509 in_X12_isVillage se_X12_isVillage ca_196 rfl rfl rfl (Nat.le_of_ble_eq_true rfl) (Nat.le_of_ble_eq_true rfl) rfl (V_X12_isVillage (by omega)  H) (k2_Z fun r3 s4 H => ?_)
    refine fs_if_eq (tgt := 26) dd_X12_does_14 (by decide) (fun hc => ?_) (fun hc => ?_)
    · replace H := H.1 (bi_0 hc)
      refine fs_ldc2 (idx := 521) (v := -1000000000000000) dd_X12_does_26 cl_X12_521 ?_
      exact fs_lret dd_X12_does_29 rfl H
    · replace H := H.2 (bi_1 hc)
      refine fs_aload_n (k0 := 0) (i := 0) dd_X12_does_17 rfl rfl ?_
      refine fs_iload_n (k0 := 1) (i := 1) dd_X12_does_18 rfl rfl ?_
      refine fs_iload_n (k0 := 2) (i := 2) dd_X12_does_19 rfl rfl ?_
      refine fs_callV (y := m_X12_doesIn) (as := [.int p0, .int p1]) dd_X12_does_20 me_X12_doesIn lk_X12_456 in_X12_doesIn se_X12_doesIn ca_196 rfl rfl rfl (Nat.le_of_ble_eq_true rfl) (Nat.le_of_ble_eq_true rfl) rfl (V_X12_doesIn (by omega)  H) (k2_L fun r5 s6 H => ?_)
      refine fs_goto (tgt := 29) dd_X12_does_23 (by decide) ?_
      exact fs_lret dd_X12_does_29 rfl H
theorem dd_X12_kept_0 : decode m_X12_kept.2.1 0 = .ok (.iload_n 1, 1) := by decide +kernel
theorem dd_X12_kept_1 : decode m_X12_kept.2.1 1 = .ok (.i2l, 1) := by decide +kernel
theorem dd_X12_kept_2 : decode m_X12_kept.2.1 2 = .ok (.lconst 0, 1) := by decide +kernel
theorem dd_X12_kept_3 : decode m_X12_kept.2.1 3 = .ok (.aload_n 0, 1) := by decide +kernel
theorem dd_X12_kept_4 : decode m_X12_kept.2.1 4 = .ok (.getfield 121, 3) := by decide +kernel
theorem dd_X12_kept_7 : decode m_X12_kept.2.1 7 = .ok (.bipush 29, 2) := by decide +kernel
theorem dd_X12_kept_9 : decode m_X12_kept.2.1 9 = .ok (.iaload, 1) := by decide +kernel
theorem dd_X12_kept_10 : decode m_X12_kept.2.1 10 = .ok (.iconst 1, 1) := by decide +kernel
theorem dd_X12_kept_11 : decode m_X12_kept.2.1 11 = .ok (.isub, 1) := by decide +kernel
theorem dd_X12_kept_12 : decode m_X12_kept.2.1 12 = .ok (.i2l, 1) := by decide +kernel
theorem dd_X12_kept_13 : decode m_X12_kept.2.1 13 = .ok (.invokestatic 295, 3) := by decide +kernel
theorem dd_X12_kept_16 : decode m_X12_kept.2.1 16 = .ok (.ifCond .eq 31, 3) := by decide +kernel
theorem dd_X12_kept_19 : decode m_X12_kept.2.1 19 = .ok (.iload_n 2, 1) := by decide +kernel
theorem dd_X12_kept_20 : decode m_X12_kept.2.1 20 = .ok (.i2l, 1) := by decide +kernel
theorem dd_X12_kept_21 : decode m_X12_kept.2.1 21 = .ok (.lconst 0, 1) := by decide +kernel
theorem dd_X12_kept_22 : decode m_X12_kept.2.1 22 = .ok (.ldc2_w 523, 3) := by decide +kernel
theorem dd_X12_kept_25 : decode m_X12_kept.2.1 25 = .ok (.invokestatic 295, 3) := by decide +kernel
theorem dd_X12_kept_28 : decode m_X12_kept.2.1 28 = .ok (.ifCond .eq 19, 3) := by decide +kernel
theorem dd_X12_kept_31 : decode m_X12_kept.2.1 31 = .ok (.aload_n 0, 1) := by decide +kernel
theorem dd_X12_kept_32 : decode m_X12_kept.2.1 32 = .ok (.getfield 121, 3) := by decide +kernel
theorem dd_X12_kept_35 : decode m_X12_kept.2.1 35 = .ok (.bipush 30, 2) := by decide +kernel
theorem dd_X12_kept_37 : decode m_X12_kept.2.1 37 = .ok (.iconst 3, 1) := by decide +kernel
theorem dd_X12_kept_38 : decode m_X12_kept.2.1 38 = .ok (.iload_n 1, 1) := by decide +kernel
theorem dd_X12_kept_39 : decode m_X12_kept.2.1 39 = .ok (.imul, 1) := by decide +kernel
theorem dd_X12_kept_40 : decode m_X12_kept.2.1 40 = .ok (.iadd, 1) := by decide +kernel
theorem dd_X12_kept_41 : decode m_X12_kept.2.1 41 = .ok (.iload_n 2, 1) := by decide +kernel
theorem dd_X12_kept_42 : decode m_X12_kept.2.1 42 = .ok (.iadd, 1) := by decide +kernel
theorem dd_X12_kept_43 : decode m_X12_kept.2.1 43 = .ok (.iaload, 1) := by decide +kernel
theorem dd_X12_kept_44 : decode m_X12_kept.2.1 44 = .ok (.goto 4, 3) := by decide +kernel
theorem dd_X12_kept_47 : decode m_X12_kept.2.1 47 = .ok (.iconst (-1), 1) := by decide +kernel
theorem dd_X12_kept_48 : decode m_X12_kept.2.1 48 = .ok (.ireturn, 1) := by decide +kernel
def wp_X12_kept (p0 : Int32) (p1 : Int32) (s : fz_s) (Q : Int32 → fz_s → Prop) : Prop :=
  wp_X12_isIn p0.toInt64 0 (((s.1 232 (29 : Int32).toNatClampNeg) - 1).toInt64) s (fun r1 s2 => ((r1 = false → Q (-1) s2) ∧ (r1 = true → wp_X12_isIn p1.toInt64 0 2 s2 (fun r3 s4 => ((r3 = false → Q (-1) s4) ∧ (r3 = true → vp_in ((30 + (3 * p0)) + p1) 150 ∧ Q (s4.1 232 ((30 + (3 * p0)) + p1).toNatClampNeg) s4))))))
set_option maxRecDepth 100000 in
set_option maxHeartbeats 4000000 in
theorem V_X12_kept {g : fz_G} {l : Launch} {d : Nat} (hD : 1 ≤ d) {p0 : Int32} {p1 : Int32}  {s : fz_s} {Q : Int32 → fz_s → Prop} (H : wp_X12_kept p0 p1 s Q) : fs_V g l m_X12_kept d false 0 (fz_en [.ref 196, .int p0, .int p1] 3) [] s (rI Q) := by
  obtain ⟨d, rfl⟩ : ∃ e, d = e + 1 := ⟨d - 1, by omega⟩
  unfold wp_X12_kept at H
  refine fs_iload_n (k0 := 1) (i := 1) dd_X12_kept_0 rfl rfl ?_
  refine fs_i2l dd_X12_kept_1 ?_
  refine fs_lconst (n := 0) (v := 0) dd_X12_kept_2 (by decide) ?_
  refine fs_aload_n (k0 := 0) (i := 0) dd_X12_kept_3 rfl rfl ?_
  refine fs_getr (ci := 12) (j := 54) (q := 232) dd_X12_kept_4 fl_X12_121 ca_196 rfl (Or.inr ⟨_, rfl⟩) rfl (by decide) ?_
  refine fs_bipush (n := 29) (v := 29) dd_X12_kept_7 (by decide) ?_
  refine fs_iald dd_X12_kept_9 ca_232 (vp_in_nI (n := 29) (by decide) (by decide)) ?_
  refine fs_iconst (n := 1) (v := 1) dd_X12_kept_10 (by decide) ?_
  refine fs_isub dd_X12_kept_11 ?_
  refine fs_i2l dd_X12_kept_12 ?_
  refine fs_callS (y := m_X12_isIn) (as := [.long p0.toInt64, .long 0, .long ((s.1 232 (29 : Int32).toNatClampNeg) - 1).toInt64]) dd_X12_kept_13 me_X12_isIn (Or.inl lk_X12_295) st_X12_isIn rfl (Nat.le_of_ble_eq_true rfl) (Nat.le_of_ble_eq_true rfl) rfl (V_X12_isIn (by omega)  H) (k2_Z fun r1 s2 H => ?_)
  refine fs_if_eq (tgt := 47) dd_X12_kept_16 (by decide) (fun hc => ?_) (fun hc => ?_)
  · replace H := H.1 (bi_0 hc)
    refine fs_iconst (n := -1) (v := -1) dd_X12_kept_47 (by decide) ?_
    exact fs_iret dd_X12_kept_48 rfl H
  · replace H := H.2 (bi_1 hc)
    refine fs_iload_n (k0 := 2) (i := 2) dd_X12_kept_19 rfl rfl ?_
    refine fs_i2l dd_X12_kept_20 ?_
    refine fs_lconst (n := 0) (v := 0) dd_X12_kept_21 (by decide) ?_
    refine fs_ldc2 (idx := 523) (v := 2) dd_X12_kept_22 cl_X12_523 ?_
    refine fs_callS (y := m_X12_isIn) (as := [.long p1.toInt64, .long 0, .long 2]) dd_X12_kept_25 me_X12_isIn (Or.inl lk_X12_295) st_X12_isIn rfl (Nat.le_of_ble_eq_true rfl) (Nat.le_of_ble_eq_true rfl) rfl (V_X12_isIn (by omega)  H) (k2_Z fun r3 s4 H => ?_)
    refine fs_if_eq (tgt := 47) dd_X12_kept_28 (by decide) (fun hc => ?_) (fun hc => ?_)
    · replace H := H.1 (bi_0 hc)
      refine fs_iconst (n := -1) (v := -1) dd_X12_kept_47 (by decide) ?_
      exact fs_iret dd_X12_kept_48 rfl H
    · replace H := H.2 (bi_1 hc)
      refine fs_aload_n (k0 := 0) (i := 0) dd_X12_kept_31 rfl rfl ?_
      refine fs_getr (ci := 12) (j := 54) (q := 232) dd_X12_kept_32 fl_X12_121 ca_196 rfl (Or.inr ⟨_, rfl⟩) rfl (by decide) ?_
      refine fs_bipush (n := 30) (v := 30) dd_X12_kept_35 (by decide) ?_
      refine fs_iconst (n := 3) (v := 3) dd_X12_kept_37 (by decide) ?_
      refine fs_iload_n (k0 := 1) (i := 1) dd_X12_kept_38 rfl rfl ?_
      refine fs_imul dd_X12_kept_39 ?_
      refine fs_iadd dd_X12_kept_40 ?_
      refine fs_iload_n (k0 := 2) (i := 2) dd_X12_kept_41 rfl rfl ?_
      refine fs_iadd dd_X12_kept_42 ?_
      have hb := H.1
      replace H := H.2
      refine fs_iald dd_X12_kept_43 ca_232 hb ?_
      refine fs_goto (tgt := 48) dd_X12_kept_44 (by decide) ?_
      exact fs_iret dd_X12_kept_48 rfl H
theorem dd_X12_later_0 : decode m_X12_later.2.1 0 = .ok (.aload_n 0, 1) := by decide +kernel
theorem dd_X12_later_1 : decode m_X12_later.2.1 1 = .ok (.iload_n 1, 1) := by decide +kernel
theorem dd_X12_later_2 : decode m_X12_later.2.1 2 = .ok (.i2l, 1) := by decide +kernel
theorem dd_X12_later_3 : decode m_X12_later.2.1 3 = .ok (.invokevirtual 509, 3) := by decide +kernel
theorem dd_X12_later_6 : decode m_X12_later.2.1 6 = .ok (.ifCond .eq 24, 3) := by decide +kernel
theorem dd_X12_later_9 : decode m_X12_later.2.1 9 = .ok (.aload_n 0, 1) := by decide +kernel
theorem dd_X12_later_10 : decode m_X12_later.2.1 10 = .ok (.iload_n 2, 1) := by decide +kernel
theorem dd_X12_later_11 : decode m_X12_later.2.1 11 = .ok (.iconst 0, 1) := by decide +kernel
theorem dd_X12_later_12 : decode m_X12_later.2.1 12 = .ok (.bipush 60, 2) := by decide +kernel
theorem dd_X12_later_14 : decode m_X12_later.2.1 14 = .ok (.invokevirtual 525, 3) := by decide +kernel
theorem dd_X12_later_17 : decode m_X12_later.2.1 17 = .ok (.ifCond .eq 13, 3) := by decide +kernel
theorem dd_X12_later_20 : decode m_X12_later.2.1 20 = .ok (.iload_n 3, 1) := by decide +kernel
theorem dd_X12_later_21 : decode m_X12_later.2.1 21 = .ok (.i2l, 1) := by decide +kernel
theorem dd_X12_later_22 : decode m_X12_later.2.1 22 = .ok (.lconst 0, 1) := by decide +kernel
theorem dd_X12_later_23 : decode m_X12_later.2.1 23 = .ok (.lconst 1, 1) := by decide +kernel
theorem dd_X12_later_24 : decode m_X12_later.2.1 24 = .ok (.invokestatic 295, 3) := by decide +kernel
theorem dd_X12_later_27 : decode m_X12_later.2.1 27 = .ok (.ifCond .ne 5, 3) := by decide +kernel
theorem dd_X12_later_30 : decode m_X12_later.2.1 30 = .ok (.iconst (-1), 1) := by decide +kernel
theorem dd_X12_later_31 : decode m_X12_later.2.1 31 = .ok (.ireturn, 1) := by decide +kernel
theorem dd_X12_later_32 : decode m_X12_later.2.1 32 = .ok (.aload_n 0, 1) := by decide +kernel
theorem dd_X12_later_33 : decode m_X12_later.2.1 33 = .ok (.invokevirtual 529, 3) := by decide +kernel
theorem dd_X12_later_36 : decode m_X12_later.2.1 36 = .ok (.aload_n 0, 1) := by decide +kernel
theorem dd_X12_later_37 : decode m_X12_later.2.1 37 = .ok (.iload_n 2, 1) := by decide +kernel
theorem dd_X12_later_38 : decode m_X12_later.2.1 38 = .ok (.invokevirtual 532, 3) := by decide +kernel
theorem dd_X12_later_41 : decode m_X12_later.2.1 41 = .ok (.aload_n 0, 1) := by decide +kernel
theorem dd_X12_later_42 : decode m_X12_later.2.1 42 = .ok (.getfield 121, 3) := by decide +kernel
theorem dd_X12_later_45 : decode m_X12_later.2.1 45 = .ok (.iconst 1, 1) := by decide +kernel
theorem dd_X12_later_46 : decode m_X12_later.2.1 46 = .ok (.iconst 2, 1) := by decide +kernel
theorem dd_X12_later_47 : decode m_X12_later.2.1 47 = .ok (.iload_n 1, 1) := by decide +kernel
theorem dd_X12_later_48 : decode m_X12_later.2.1 48 = .ok (.imul, 1) := by decide +kernel
theorem dd_X12_later_49 : decode m_X12_later.2.1 49 = .ok (.iadd, 1) := by decide +kernel
theorem dd_X12_later_50 : decode m_X12_later.2.1 50 = .ok (.iload_n 3, 1) := by decide +kernel
theorem dd_X12_later_51 : decode m_X12_later.2.1 51 = .ok (.iadd, 1) := by decide +kernel
theorem dd_X12_later_52 : decode m_X12_later.2.1 52 = .ok (.iaload, 1) := by decide +kernel
theorem dd_X12_later_53 : decode m_X12_later.2.1 53 = .ok (.istore 4, 2) := by decide +kernel
theorem dd_X12_later_55 : decode m_X12_later.2.1 55 = .ok (.aload_n 0, 1) := by decide +kernel
theorem dd_X12_later_56 : decode m_X12_later.2.1 56 = .ok (.invokevirtual 535, 3) := by decide +kernel
theorem dd_X12_later_59 : decode m_X12_later.2.1 59 = .ok (.iload 4, 2) := by decide +kernel
theorem dd_X12_later_61 : decode m_X12_later.2.1 61 = .ok (.ireturn, 1) := by decide +kernel
def wp_X12_later (p0 : Int32) (p1 : Int32) (p2 : Int32) (s : fz_s) (Q : Int32 → fz_s → Prop) : Prop :=
  wp_X12_isVillage p0.toInt64 s (fun r1 s2 => ((r1 = false → Q (-1) s2) ∧ (r1 = true → wp_X12_isAhead p1 0 60 s2 (fun r3 s4 => ((r3 = false → Q (-1) s4) ∧ (r3 = true → wp_X12_isIn p2.toInt64 0 1 s4 (fun r5 s6 => ((r5 = true → wp_X12_putsAside  s6 (fun s8 => wp_X12_yearsGo p1 s8 (fun s10 => vp_in ((1 + (2 * p0)) + p2) 150 ∧ ∀ x11 : Int32, x11 = (s10.1 232 ((1 + (2 * p0)) + p2).toNatClampNeg) → wp_X12_takesBack  s10 (fun s13 => Q x11 s13)))) ∧ (r5 = false → Q (-1) s6)))))))))
set_option maxRecDepth 100000 in
set_option maxHeartbeats 4000000 in
theorem V_X12_later {g : fz_G} {l : Launch} {d : Nat} (hD : 10 ≤ d) {p0 : Int32} {p1 : Int32} {p2 : Int32}  {s : fz_s} {Q : Int32 → fz_s → Prop} (H : wp_X12_later p0 p1 p2 s Q) : fs_V g l m_X12_later d false 0 (fz_en [.ref 196, .int p0, .int p1, .int p2] 5) [] s (rI Q) := by
  obtain ⟨d, rfl⟩ : ∃ e, d = e + 1 := ⟨d - 1, by omega⟩
  unfold wp_X12_later at H
  refine fs_aload_n (k0 := 0) (i := 0) dd_X12_later_0 rfl rfl ?_
  refine fs_iload_n (k0 := 1) (i := 1) dd_X12_later_1 rfl rfl ?_
  refine fs_i2l dd_X12_later_2 ?_
  refine fs_callV (y := m_X12_isVillage) (as := [.long p0.toInt64]) dd_X12_later_3 me_X12_isVillage lk_X12_509 in_X12_isVillage se_X12_isVillage ca_196 rfl rfl rfl (Nat.le_of_ble_eq_true rfl) (Nat.le_of_ble_eq_true rfl) rfl (V_X12_isVillage (by omega)  H) (k2_Z fun r1 s2 H => ?_)
  refine fs_if_eq (tgt := 30) dd_X12_later_6 (by decide) (fun hc => ?_) (fun hc => ?_)
  · replace H := H.1 (bi_0 hc)
    refine fs_iconst (n := -1) (v := -1) dd_X12_later_30 (by decide) ?_
    exact fs_iret dd_X12_later_31 rfl H
  · replace H := H.2 (bi_1 hc)
    refine fs_aload_n (k0 := 0) (i := 0) dd_X12_later_9 rfl rfl ?_
    refine fs_iload_n (k0 := 2) (i := 2) dd_X12_later_10 rfl rfl ?_
    refine fs_iconst (n := 0) (v := 0) dd_X12_later_11 (by decide) ?_
    refine fs_bipush (n := 60) (v := 60) dd_X12_later_12 (by decide) ?_
    refine fs_callV (y := m_X12_isAhead) (as := [.int p1, .int 0, .int 60]) dd_X12_later_14 me_X12_isAhead lk_X12_525 in_X12_isAhead se_X12_isAhead ca_196 rfl rfl rfl (Nat.le_of_ble_eq_true rfl) (Nat.le_of_ble_eq_true rfl) rfl (V_X12_isAhead (by omega)  H) (k2_Z fun r3 s4 H => ?_)
    refine fs_if_eq (tgt := 30) dd_X12_later_17 (by decide) (fun hc => ?_) (fun hc => ?_)
    · replace H := H.1 (bi_0 hc)
      refine fs_iconst (n := -1) (v := -1) dd_X12_later_30 (by decide) ?_
      exact fs_iret dd_X12_later_31 rfl H
    · replace H := H.2 (bi_1 hc)
      refine fs_iload_n (k0 := 3) (i := 3) dd_X12_later_20 rfl rfl ?_
      refine fs_i2l dd_X12_later_21 ?_
      refine fs_lconst (n := 0) (v := 0) dd_X12_later_22 (by decide) ?_
      refine fs_lconst (n := 1) (v := 1) dd_X12_later_23 (by decide) ?_
      refine fs_callS (y := m_X12_isIn) (as := [.long p2.toInt64, .long 0, .long 1]) dd_X12_later_24 me_X12_isIn (Or.inl lk_X12_295) st_X12_isIn rfl (Nat.le_of_ble_eq_true rfl) (Nat.le_of_ble_eq_true rfl) rfl (V_X12_isIn (by omega)  H) (k2_Z fun r5 s6 H => ?_)
      refine fs_if_ne (tgt := 32) dd_X12_later_27 (by decide) (fun hc => ?_) (fun hc => ?_)
      · replace H := H.1 (bi_1 hc)
        refine fs_aload_n (k0 := 0) (i := 0) dd_X12_later_32 rfl rfl ?_
        refine fs_callV (y := m_X12_putsAside) (as := []) dd_X12_later_33 me_X12_putsAside lk_X12_529 in_X12_putsAside se_X12_putsAside ca_196 rfl rfl rfl (Nat.le_of_ble_eq_true rfl) (Nat.le_of_ble_eq_true rfl) rfl (V_X12_putsAside (by omega)  H) (k2_V fun s8 H => ?_)
        refine fs_aload_n (k0 := 0) (i := 0) dd_X12_later_36 rfl rfl ?_
        refine fs_iload_n (k0 := 2) (i := 2) dd_X12_later_37 rfl rfl ?_
        refine fs_callV (y := m_X12_yearsGo) (as := [.int p1]) dd_X12_later_38 me_X12_yearsGo lk_X12_532 in_X12_yearsGo se_X12_yearsGo ca_196 rfl rfl rfl (Nat.le_of_ble_eq_true rfl) (Nat.le_of_ble_eq_true rfl) rfl (V_X12_yearsGo (by omega)  H) (k2_V fun s10 H => ?_)
        refine fs_aload_n (k0 := 0) (i := 0) dd_X12_later_41 rfl rfl ?_
        refine fs_getr (ci := 12) (j := 54) (q := 232) dd_X12_later_42 fl_X12_121 ca_196 rfl (Or.inr ⟨_, rfl⟩) rfl (by decide) ?_
        refine fs_iconst (n := 1) (v := 1) dd_X12_later_45 (by decide) ?_
        refine fs_iconst (n := 2) (v := 2) dd_X12_later_46 (by decide) ?_
        refine fs_iload_n (k0 := 1) (i := 1) dd_X12_later_47 rfl rfl ?_
        refine fs_imul dd_X12_later_48 ?_
        refine fs_iadd dd_X12_later_49 ?_
        refine fs_iload_n (k0 := 3) (i := 3) dd_X12_later_50 rfl rfl ?_
        refine fs_iadd dd_X12_later_51 ?_
        have hb := H.1
        replace H := H.2
        refine fs_iald dd_X12_later_52 ca_232 hb ?_
        refine fs_topi (fun x11 hx11 => ?_)
        replace H := H x11 hx11
        refine fs_istore (i := 4) dd_X12_later_53 (by decide) ?_
        refine fs_aload_n (k0 := 0) (i := 0) dd_X12_later_55 rfl rfl ?_
        refine fs_callV (y := m_X12_takesBack) (as := []) dd_X12_later_56 me_X12_takesBack lk_X12_535 in_X12_takesBack se_X12_takesBack ca_196 rfl rfl rfl (Nat.le_of_ble_eq_true rfl) (Nat.le_of_ble_eq_true rfl) rfl (V_X12_takesBack (by omega)  H) (k2_V fun s13 H => ?_)
        refine fs_iload (i := 4) dd_X12_later_59 rfl ?_
        exact fs_iret dd_X12_later_61 rfl H
      · replace H := H.2 (bi_0 hc)
        refine fs_iconst (n := -1) (v := -1) dd_X12_later_30 (by decide) ?_
        exact fs_iret dd_X12_later_31 rfl H
theorem dd_X12_lives_0 : decode m_X12_lives.2.1 0 = .ok (.aload_n 0, 1) := by decide +kernel
theorem dd_X12_lives_1 : decode m_X12_lives.2.1 1 = .ok (.iload_n 1, 1) := by decide +kernel
theorem dd_X12_lives_2 : decode m_X12_lives.2.1 2 = .ok (.invokevirtual 415, 3) := by decide +kernel
theorem dd_X12_lives_5 : decode m_X12_lives.2.1 5 = .ok (.ifCond .eq 14, 3) := by decide +kernel
theorem dd_X12_lives_8 : decode m_X12_lives.2.1 8 = .ok (.aload_n 0, 1) := by decide +kernel
theorem dd_X12_lives_9 : decode m_X12_lives.2.1 9 = .ok (.iload_n 2, 1) := by decide +kernel
theorem dd_X12_lives_10 : decode m_X12_lives.2.1 10 = .ok (.iconst 0, 1) := by decide +kernel
theorem dd_X12_lives_11 : decode m_X12_lives.2.1 11 = .ok (.bipush 60, 2) := by decide +kernel
theorem dd_X12_lives_13 : decode m_X12_lives.2.1 13 = .ok (.invokevirtual 525, 3) := by decide +kernel
theorem dd_X12_lives_16 : decode m_X12_lives.2.1 16 = .ok (.ifCond .ne 5, 3) := by decide +kernel
theorem dd_X12_lives_19 : decode m_X12_lives.2.1 19 = .ok (.iconst (-1), 1) := by decide +kernel
theorem dd_X12_lives_20 : decode m_X12_lives.2.1 20 = .ok (.ireturn, 1) := by decide +kernel
theorem dd_X12_lives_21 : decode m_X12_lives.2.1 21 = .ok (.aload_n 0, 1) := by decide +kernel
theorem dd_X12_lives_22 : decode m_X12_lives.2.1 22 = .ok (.invokevirtual 529, 3) := by decide +kernel
theorem dd_X12_lives_25 : decode m_X12_lives.2.1 25 = .ok (.aload_n 0, 1) := by decide +kernel
theorem dd_X12_lives_26 : decode m_X12_lives.2.1 26 = .ok (.iload_n 2, 1) := by decide +kernel
theorem dd_X12_lives_27 : decode m_X12_lives.2.1 27 = .ok (.invokevirtual 532, 3) := by decide +kernel
theorem dd_X12_lives_30 : decode m_X12_lives.2.1 30 = .ok (.aload_n 0, 1) := by decide +kernel
theorem dd_X12_lives_31 : decode m_X12_lives.2.1 31 = .ok (.iload_n 1, 1) := by decide +kernel
theorem dd_X12_lives_32 : decode m_X12_lives.2.1 32 = .ok (.invokevirtual 412, 3) := by decide +kernel
theorem dd_X12_lives_35 : decode m_X12_lives.2.1 35 = .ok (.istore_n 3, 1) := by decide +kernel
theorem dd_X12_lives_36 : decode m_X12_lives.2.1 36 = .ok (.aload_n 0, 1) := by decide +kernel
theorem dd_X12_lives_37 : decode m_X12_lives.2.1 37 = .ok (.invokevirtual 535, 3) := by decide +kernel
theorem dd_X12_lives_40 : decode m_X12_lives.2.1 40 = .ok (.iload_n 3, 1) := by decide +kernel
theorem dd_X12_lives_41 : decode m_X12_lives.2.1 41 = .ok (.ireturn, 1) := by decide +kernel
def wp_X12_lives (p0 : Int32) (p1 : Int32) (s : fz_s) (Q : Int32 → fz_s → Prop) : Prop :=
  wp_X12_isPerson p0 s (fun r1 s2 => ((r1 = false → Q (-1) s2) ∧ (r1 = true → wp_X12_isAhead p1 0 60 s2 (fun r3 s4 => ((r3 = true → wp_X12_putsAside  s4 (fun s6 => wp_X12_yearsGo p1 s6 (fun s8 => wp_X12_livesIn p0 s8 (fun r9 s10 => wp_X12_takesBack  s10 (fun s12 => Q r9 s12))))) ∧ (r3 = false → Q (-1) s4))))))
set_option maxRecDepth 100000 in
set_option maxHeartbeats 4000000 in
theorem V_X12_lives {g : fz_G} {l : Launch} {d : Nat} (hD : 10 ≤ d) {p0 : Int32} {p1 : Int32}  {s : fz_s} {Q : Int32 → fz_s → Prop} (H : wp_X12_lives p0 p1 s Q) : fs_V g l m_X12_lives d false 0 (fz_en [.ref 196, .int p0, .int p1] 4) [] s (rI Q) := by
  obtain ⟨d, rfl⟩ : ∃ e, d = e + 1 := ⟨d - 1, by omega⟩
  unfold wp_X12_lives at H
  refine fs_aload_n (k0 := 0) (i := 0) dd_X12_lives_0 rfl rfl ?_
  refine fs_iload_n (k0 := 1) (i := 1) dd_X12_lives_1 rfl rfl ?_
  refine fs_callV (y := m_X12_isPerson) (as := [.int p0]) dd_X12_lives_2 me_X12_isPerson lk_X12_415 in_X12_isPerson se_X12_isPerson ca_196 rfl rfl rfl (Nat.le_of_ble_eq_true rfl) (Nat.le_of_ble_eq_true rfl) rfl (V_X12_isPerson (by omega)  H) (k2_Z fun r1 s2 H => ?_)
  refine fs_if_eq (tgt := 19) dd_X12_lives_5 (by decide) (fun hc => ?_) (fun hc => ?_)
  · replace H := H.1 (bi_0 hc)
    refine fs_iconst (n := -1) (v := -1) dd_X12_lives_19 (by decide) ?_
    exact fs_iret dd_X12_lives_20 rfl H
  · replace H := H.2 (bi_1 hc)
    refine fs_aload_n (k0 := 0) (i := 0) dd_X12_lives_8 rfl rfl ?_
    refine fs_iload_n (k0 := 2) (i := 2) dd_X12_lives_9 rfl rfl ?_
    refine fs_iconst (n := 0) (v := 0) dd_X12_lives_10 (by decide) ?_
    refine fs_bipush (n := 60) (v := 60) dd_X12_lives_11 (by decide) ?_
    refine fs_callV (y := m_X12_isAhead) (as := [.int p1, .int 0, .int 60]) dd_X12_lives_13 me_X12_isAhead lk_X12_525 in_X12_isAhead se_X12_isAhead ca_196 rfl rfl rfl (Nat.le_of_ble_eq_true rfl) (Nat.le_of_ble_eq_true rfl) rfl (V_X12_isAhead (by omega)  H) (k2_Z fun r3 s4 H => ?_)
    refine fs_if_ne (tgt := 21) dd_X12_lives_16 (by decide) (fun hc => ?_) (fun hc => ?_)
    · replace H := H.1 (bi_1 hc)
      refine fs_aload_n (k0 := 0) (i := 0) dd_X12_lives_21 rfl rfl ?_
      refine fs_callV (y := m_X12_putsAside) (as := []) dd_X12_lives_22 me_X12_putsAside lk_X12_529 in_X12_putsAside se_X12_putsAside ca_196 rfl rfl rfl (Nat.le_of_ble_eq_true rfl) (Nat.le_of_ble_eq_true rfl) rfl (V_X12_putsAside (by omega)  H) (k2_V fun s6 H => ?_)
      refine fs_aload_n (k0 := 0) (i := 0) dd_X12_lives_25 rfl rfl ?_
      refine fs_iload_n (k0 := 2) (i := 2) dd_X12_lives_26 rfl rfl ?_
      refine fs_callV (y := m_X12_yearsGo) (as := [.int p1]) dd_X12_lives_27 me_X12_yearsGo lk_X12_532 in_X12_yearsGo se_X12_yearsGo ca_196 rfl rfl rfl (Nat.le_of_ble_eq_true rfl) (Nat.le_of_ble_eq_true rfl) rfl (V_X12_yearsGo (by omega)  H) (k2_V fun s8 H => ?_)
      refine fs_aload_n (k0 := 0) (i := 0) dd_X12_lives_30 rfl rfl ?_
      refine fs_iload_n (k0 := 1) (i := 1) dd_X12_lives_31 rfl rfl ?_
      refine fs_callV (y := m_X12_livesIn) (as := [.int p0]) dd_X12_lives_32 me_X12_livesIn lk_X12_412 in_X12_livesIn se_X12_livesIn ca_196 rfl rfl rfl (Nat.le_of_ble_eq_true rfl) (Nat.le_of_ble_eq_true rfl) rfl (V_X12_livesIn (by omega)  H) (k2_I fun r9 s10 H => ?_)
      refine fs_istore_n (k0 := 3) (i := 3) dd_X12_lives_35 rfl (by decide) ?_
      refine fs_aload_n (k0 := 0) (i := 0) dd_X12_lives_36 rfl rfl ?_
      refine fs_callV (y := m_X12_takesBack) (as := []) dd_X12_lives_37 me_X12_takesBack lk_X12_535 in_X12_takesBack se_X12_takesBack ca_196 rfl rfl rfl (Nat.le_of_ble_eq_true rfl) (Nat.le_of_ble_eq_true rfl) rfl (V_X12_takesBack (by omega)  H) (k2_V fun s12 H => ?_)
      refine fs_iload_n (k0 := 3) (i := 3) dd_X12_lives_40 rfl rfl ?_
      exact fs_iret dd_X12_lives_41 rfl H
    · replace H := H.2 (bi_0 hc)
      refine fs_iconst (n := -1) (v := -1) dd_X12_lives_19 (by decide) ?_
      exact fs_iret dd_X12_lives_20 rfl H
theorem dd_X12_isShort_0 : decode m_X12_isShort.2.1 0 = .ok (.aload_n 0, 1) := by decide +kernel
theorem dd_X12_isShort_1 : decode m_X12_isShort.2.1 1 = .ok (.iload_n 1, 1) := by decide +kernel
theorem dd_X12_isShort_2 : decode m_X12_isShort.2.1 2 = .ok (.invokevirtual 515, 3) := by decide +kernel
theorem dd_X12_isShort_5 : decode m_X12_isShort.2.1 5 = .ok (.aload_n 0, 1) := by decide +kernel
theorem dd_X12_isShort_6 : decode m_X12_isShort.2.1 6 = .ok (.iload_n 1, 1) := by decide +kernel
theorem dd_X12_isShort_7 : decode m_X12_isShort.2.1 7 = .ok (.invokevirtual 518, 3) := by decide +kernel
theorem dd_X12_isShort_10 : decode m_X12_isShort.2.1 10 = .ok (.if_icmp .ne 7, 3) := by decide +kernel
theorem dd_X12_isShort_13 : decode m_X12_isShort.2.1 13 = .ok (.iconst 1, 1) := by decide +kernel
theorem dd_X12_isShort_14 : decode m_X12_isShort.2.1 14 = .ok (.goto 4, 3) := by decide +kernel
theorem dd_X12_isShort_17 : decode m_X12_isShort.2.1 17 = .ok (.iconst 0, 1) := by decide +kernel
theorem dd_X12_isShort_18 : decode m_X12_isShort.2.1 18 = .ok (.ireturn, 1) := by decide +kernel
def wp_X12_isShort (p0 : Int32) (s : fz_s) (Q : Bool → fz_s → Prop) : Prop :=
  wp_X12_liversOf p0 s (fun r1 s2 => wp_X12_guestsOf p0 s2 (fun r3 s4 => ((¬ r1 = r3 → Q false s4) ∧ (r1 = r3 → Q true s4))))
set_option maxRecDepth 100000 in
set_option maxHeartbeats 4000000 in
theorem V_X12_isShort {g : fz_G} {l : Launch} {d : Nat} (hD : 3 ≤ d) {p0 : Int32}  {s : fz_s} {Q : Bool → fz_s → Prop} (H : wp_X12_isShort p0 s Q) : fs_V g l m_X12_isShort d false 0 (fz_en [.ref 196, .int p0] 2) [] s (rZ Q) := by
  obtain ⟨d, rfl⟩ : ∃ e, d = e + 1 := ⟨d - 1, by omega⟩
  unfold wp_X12_isShort at H
  refine fs_aload_n (k0 := 0) (i := 0) dd_X12_isShort_0 rfl rfl ?_
  refine fs_iload_n (k0 := 1) (i := 1) dd_X12_isShort_1 rfl rfl ?_
  refine fs_callV (y := m_X12_liversOf) (as := [.int p0]) dd_X12_isShort_2 me_X12_liversOf lk_X12_515 in_X12_liversOf se_X12_liversOf ca_196 rfl rfl rfl (Nat.le_of_ble_eq_true rfl) (Nat.le_of_ble_eq_true rfl) rfl (V_X12_liversOf (by omega)  H) (k2_I fun r1 s2 H => ?_)
  refine fs_aload_n (k0 := 0) (i := 0) dd_X12_isShort_5 rfl rfl ?_
  refine fs_iload_n (k0 := 1) (i := 1) dd_X12_isShort_6 rfl rfl ?_
  refine fs_callV (y := m_X12_guestsOf) (as := [.int p0]) dd_X12_isShort_7 me_X12_guestsOf lk_X12_518 in_X12_guestsOf se_X12_guestsOf ca_196 rfl rfl rfl (Nat.le_of_ble_eq_true rfl) (Nat.le_of_ble_eq_true rfl) rfl (V_X12_guestsOf (by omega)  H) (k2_I fun r3 s4 H => ?_)
  refine fs_icmp_ne (tgt := 17) dd_X12_isShort_10 (by decide) (fun hc => ?_) (fun hc => ?_)
  · replace H := H.1 hc
    refine fs_iconst (n := 0) (v := 0) dd_X12_isShort_17 (by decide) ?_
    exact fs_zret false dd_X12_isShort_18 rfl rfl H
  · replace H := H.2 hc
    refine fs_iconst (n := 1) (v := 1) dd_X12_isShort_13 (by decide) ?_
    refine fs_goto (tgt := 18) dd_X12_isShort_14 (by decide) ?_
    exact fs_zret true dd_X12_isShort_18 rfl rfl H
theorem dd_X12_shortage_0 : decode m_X12_shortage.2.1 0 = .ok (.aload_n 0, 1) := by decide +kernel
theorem dd_X12_shortage_1 : decode m_X12_shortage.2.1 1 = .ok (.iload_n 1, 1) := by decide +kernel
theorem dd_X12_shortage_2 : decode m_X12_shortage.2.1 2 = .ok (.i2l, 1) := by decide +kernel
theorem dd_X12_shortage_3 : decode m_X12_shortage.2.1 3 = .ok (.invokevirtual 509, 3) := by decide +kernel
theorem dd_X12_shortage_6 : decode m_X12_shortage.2.1 6 = .ok (.ifCond .ne 5, 3) := by decide +kernel
theorem dd_X12_shortage_9 : decode m_X12_shortage.2.1 9 = .ok (.iconst (-1), 1) := by decide +kernel
theorem dd_X12_shortage_10 : decode m_X12_shortage.2.1 10 = .ok (.ireturn, 1) := by decide +kernel
theorem dd_X12_shortage_11 : decode m_X12_shortage.2.1 11 = .ok (.iconst 0, 1) := by decide +kernel
theorem dd_X12_shortage_12 : decode m_X12_shortage.2.1 12 = .ok (.istore_n 2, 1) := by decide +kernel
theorem dd_X12_shortage_13 : decode m_X12_shortage.2.1 13 = .ok (.aload_n 0, 1) := by decide +kernel
theorem dd_X12_shortage_14 : decode m_X12_shortage.2.1 14 = .ok (.invokevirtual 529, 3) := by decide +kernel
theorem dd_X12_shortage_17 : decode m_X12_shortage.2.1 17 = .ok (.aload_n 0, 1) := by decide +kernel
theorem dd_X12_shortage_18 : decode m_X12_shortage.2.1 18 = .ok (.iload_n 1, 1) := by decide +kernel
theorem dd_X12_shortage_19 : decode m_X12_shortage.2.1 19 = .ok (.invokevirtual 538, 3) := by decide +kernel
theorem dd_X12_shortage_22 : decode m_X12_shortage.2.1 22 = .ok (.ifCond .ne 31, 3) := by decide +kernel
theorem dd_X12_shortage_25 : decode m_X12_shortage.2.1 25 = .ok (.iload_n 2, 1) := by decide +kernel
theorem dd_X12_shortage_26 : decode m_X12_shortage.2.1 26 = .ok (.bipush 60, 2) := by decide +kernel
theorem dd_X12_shortage_28 : decode m_X12_shortage.2.1 28 = .ok (.if_icmp .ge 25, 3) := by decide +kernel
theorem dd_X12_shortage_31 : decode m_X12_shortage.2.1 31 = .ok (.aload_n 0, 1) := by decide +kernel
theorem dd_X12_shortage_32 : decode m_X12_shortage.2.1 32 = .ok (.getfield 121, 3) := by decide +kernel
theorem dd_X12_shortage_35 : decode m_X12_shortage.2.1 35 = .ok (.iconst 0, 1) := by decide +kernel
theorem dd_X12_shortage_36 : decode m_X12_shortage.2.1 36 = .ok (.iaload, 1) := by decide +kernel
theorem dd_X12_shortage_37 : decode m_X12_shortage.2.1 37 = .ok (.sipush 999, 3) := by decide +kernel
theorem dd_X12_shortage_40 : decode m_X12_shortage.2.1 40 = .ok (.if_icmp .ge 13, 3) := by decide +kernel
theorem dd_X12_shortage_43 : decode m_X12_shortage.2.1 43 = .ok (.aload_n 0, 1) := by decide +kernel
theorem dd_X12_shortage_44 : decode m_X12_shortage.2.1 44 = .ok (.invokevirtual 497, 3) := by decide +kernel
theorem dd_X12_shortage_47 : decode m_X12_shortage.2.1 47 = .ok (.iinc 2 1, 3) := by decide +kernel
theorem dd_X12_shortage_50 : decode m_X12_shortage.2.1 50 = .ok (.goto (-33), 3) := by decide +kernel
theorem dd_X12_shortage_53 : decode m_X12_shortage.2.1 53 = .ok (.aload_n 0, 1) := by decide +kernel
theorem dd_X12_shortage_54 : decode m_X12_shortage.2.1 54 = .ok (.iload_n 1, 1) := by decide +kernel
theorem dd_X12_shortage_55 : decode m_X12_shortage.2.1 55 = .ok (.invokevirtual 538, 3) := by decide +kernel
theorem dd_X12_shortage_58 : decode m_X12_shortage.2.1 58 = .ok (.istore_n 3, 1) := by decide +kernel
theorem dd_X12_shortage_59 : decode m_X12_shortage.2.1 59 = .ok (.aload_n 0, 1) := by decide +kernel
theorem dd_X12_shortage_60 : decode m_X12_shortage.2.1 60 = .ok (.invokevirtual 535, 3) := by decide +kernel
theorem dd_X12_shortage_63 : decode m_X12_shortage.2.1 63 = .ok (.iload_n 3, 1) := by decide +kernel
theorem dd_X12_shortage_64 : decode m_X12_shortage.2.1 64 = .ok (.ifCond .eq 7, 3) := by decide +kernel
theorem dd_X12_shortage_67 : decode m_X12_shortage.2.1 67 = .ok (.iload_n 2, 1) := by decide +kernel
theorem dd_X12_shortage_68 : decode m_X12_shortage.2.1 68 = .ok (.goto 4, 3) := by decide +kernel
theorem dd_X12_shortage_71 : decode m_X12_shortage.2.1 71 = .ok (.iconst (-1), 1) := by decide +kernel
theorem dd_X12_shortage_72 : decode m_X12_shortage.2.1 72 = .ok (.ireturn, 1) := by decide +kernel
def nd_X12_shortage_53   (Q : Int32 → fz_s → Prop) (v1 : Int32) (v2 : Int32) (s : fz_s) : Prop :=
  wp_X12_isShort v1 s (fun r1 s2 => wp_X12_takesBack  s2 (fun s4 => ((r1 = false → Q (-1) s4) ∧ (r1 = true → Q v2 s4))))
def nd_X12_shortage_17  (K17 : Int32 → Int32 → fz_s → Prop) (Q : Int32 → fz_s → Prop) (v1 : Int32) (v2 : Int32) (s : fz_s) : Prop :=
  wp_X12_isShort v1 s (fun r1 s2 => ((r1 = true → nd_X12_shortage_53   Q v1 v2 s2) ∧ (r1 = false → ((60 ≤ v2 → nd_X12_shortage_53   Q v1 v2 s2) ∧ (¬ 60 ≤ v2 → ((999 ≤ (s2.1 232 (0 : Int32).toNatClampNeg) → nd_X12_shortage_53   Q v1 v2 s2) ∧ (¬ 999 ≤ (s2.1 232 (0 : Int32).toNatClampNeg) → wp_X12_yearGoes  s2 (fun s4 => ∀ x5 : Int32, x5 = v2 + 1 → K17 v1 x5 s4))))))))
def lp_X12_shortage_17   (Q : Int32 → fz_s → Prop) : Nat → Int32 → Int32 → fz_s → Prop
  | 0 => fun _ _ _ => False
  | n + 1 => nd_X12_shortage_17  (lp_X12_shortage_17   Q n) Q
def wp_X12_shortage (p0 : Int32) (s : fz_s) (Q : Int32 → fz_s → Prop) : Prop :=
  wp_X12_isVillage p0.toInt64 s (fun r1 s2 => ((r1 = true → wp_X12_putsAside  s2 (fun s4 => lp_X12_shortage_17   Q 2048 p0 0 s4)) ∧ (r1 = false → Q (-1) s2)))
set_option maxRecDepth 100000 in
set_option maxHeartbeats 4000000 in
theorem V_nd_X12_shortage_53 {g : fz_G} {l : Launch} {d : Nat} (hD : 9 ≤ d)    {Q : Int32 → fz_s → Prop} {v1 : Int32} {v2 : Int32} {s : fz_s}  (H : nd_X12_shortage_53   Q v1 v2 s) : fs_V g l m_X12_shortage d false 53 [.ref 196, .int v1, .int v2, fz_J] [] s (rI Q) := by
  obtain ⟨d, rfl⟩ : ∃ e, d = e + 1 := ⟨d - 1, by omega⟩
  unfold nd_X12_shortage_53 at H
  refine fs_aload_n (k0 := 0) (i := 0) dd_X12_shortage_53 rfl rfl ?_
  refine fs_iload_n (k0 := 1) (i := 1) dd_X12_shortage_54 rfl rfl ?_
  refine fs_callV (y := m_X12_isShort) (as := [.int v1]) dd_X12_shortage_55 me_X12_isShort lk_X12_538 in_X12_isShort se_X12_isShort ca_196 rfl rfl rfl (Nat.le_of_ble_eq_true rfl) (Nat.le_of_ble_eq_true rfl) rfl (V_X12_isShort (by omega)  H) (k2_Z fun r1 s2 H => ?_)
  refine fs_istore_n (k0 := 3) (i := 3) dd_X12_shortage_58 rfl (by decide) ?_
  refine fs_aload_n (k0 := 0) (i := 0) dd_X12_shortage_59 rfl rfl ?_
  refine fs_callV (y := m_X12_takesBack) (as := []) dd_X12_shortage_60 me_X12_takesBack lk_X12_535 in_X12_takesBack se_X12_takesBack ca_196 rfl rfl rfl (Nat.le_of_ble_eq_true rfl) (Nat.le_of_ble_eq_true rfl) rfl (V_X12_takesBack (by omega)  H) (k2_V fun s4 H => ?_)
  refine fs_iload_n (k0 := 3) (i := 3) dd_X12_shortage_63 rfl rfl ?_
  refine fs_if_eq (tgt := 71) dd_X12_shortage_64 (by decide) (fun hc => ?_) (fun hc => ?_)
  · replace H := H.1 (bi_0 hc)
    refine fs_iconst (n := -1) (v := -1) dd_X12_shortage_71 (by decide) ?_
    exact fs_iret dd_X12_shortage_72 rfl H
  · replace H := H.2 (bi_1 hc)
    refine fs_iload_n (k0 := 2) (i := 2) dd_X12_shortage_67 rfl rfl ?_
    refine fs_goto (tgt := 72) dd_X12_shortage_68 (by decide) ?_
    exact fs_iret dd_X12_shortage_72 rfl H
set_option maxRecDepth 100000 in
set_option maxHeartbeats 4000000 in
theorem V_nd_X12_shortage_17 {g : fz_G} {l : Launch} {d : Nat} (hD : 9 ≤ d)   {K17 : Int32 → Int32 → fz_s → Prop} {Q : Int32 → fz_s → Prop} {v1 : Int32} {v2 : Int32} {s : fz_s} (hK17 : ∀ {v1 : Int32} {v2 : Int32} {s : fz_s}, K17 v1 v2 s → fs_V g l m_X12_shortage d false 17 [.ref 196, .int v1, .int v2, fz_J] [] s (rI Q)) (H : nd_X12_shortage_17  K17 Q v1 v2 s) : fs_V g l m_X12_shortage d false 17 [.ref 196, .int v1, .int v2, fz_J] [] s (rI Q) := by
  obtain ⟨d, rfl⟩ : ∃ e, d = e + 1 := ⟨d - 1, by omega⟩
  unfold nd_X12_shortage_17 at H
  refine fs_aload_n (k0 := 0) (i := 0) dd_X12_shortage_17 rfl rfl ?_
  refine fs_iload_n (k0 := 1) (i := 1) dd_X12_shortage_18 rfl rfl ?_
  refine fs_callV (y := m_X12_isShort) (as := [.int v1]) dd_X12_shortage_19 me_X12_isShort lk_X12_538 in_X12_isShort se_X12_isShort ca_196 rfl rfl rfl (Nat.le_of_ble_eq_true rfl) (Nat.le_of_ble_eq_true rfl) rfl (V_X12_isShort (by omega)  H) (k2_Z fun r1 s2 H => ?_)
  refine fs_if_ne (tgt := 53) dd_X12_shortage_22 (by decide) (fun hc => ?_) (fun hc => ?_)
  · replace H := H.1 (bi_1 hc)
    refine fs_weak (ls2 := [.ref 196, .int v1, .int v2, fz_J]) (fz_le_e (fz_le_e (fz_le_e (fz_le_j fz_le_n)))) ?_
    exact V_nd_X12_shortage_53 hD    H
  · replace H := H.2 (bi_0 hc)
    refine fs_iload_n (k0 := 2) (i := 2) dd_X12_shortage_25 rfl rfl ?_
    refine fs_bipush (n := 60) (v := 60) dd_X12_shortage_26 (by decide) ?_
    refine fs_icmp_ge (tgt := 53) dd_X12_shortage_28 (by decide) (fun hc => ?_) (fun hc => ?_)
    · replace H := H.1 hc
      refine fs_weak (ls2 := [.ref 196, .int v1, .int v2, fz_J]) (fz_le_e (fz_le_e (fz_le_e (fz_le_j fz_le_n)))) ?_
      exact V_nd_X12_shortage_53 hD    H
    · replace H := H.2 hc
      refine fs_aload_n (k0 := 0) (i := 0) dd_X12_shortage_31 rfl rfl ?_
      refine fs_getr (ci := 12) (j := 54) (q := 232) dd_X12_shortage_32 fl_X12_121 ca_196 rfl (Or.inr ⟨_, rfl⟩) rfl (by decide) ?_
      refine fs_iconst (n := 0) (v := 0) dd_X12_shortage_35 (by decide) ?_
      refine fs_iald dd_X12_shortage_36 ca_232 (vp_in_nI (n := 0) (by decide) (by decide)) ?_
      refine fs_sipush (n := 999) (v := 999) dd_X12_shortage_37 (by decide) ?_
      refine fs_icmp_ge (tgt := 53) dd_X12_shortage_40 (by decide) (fun hc => ?_) (fun hc => ?_)
      · replace H := H.1 hc
        refine fs_weak (ls2 := [.ref 196, .int v1, .int v2, fz_J]) (fz_le_e (fz_le_e (fz_le_e (fz_le_j fz_le_n)))) ?_
        exact V_nd_X12_shortage_53 hD    H
      · replace H := H.2 hc
        refine fs_aload_n (k0 := 0) (i := 0) dd_X12_shortage_43 rfl rfl ?_
        refine fs_callV (y := m_X12_yearGoes) (as := []) dd_X12_shortage_44 me_X12_yearGoes lk_X12_497 in_X12_yearGoes se_X12_yearGoes ca_196 rfl rfl rfl (Nat.le_of_ble_eq_true rfl) (Nat.le_of_ble_eq_true rfl) rfl (V_X12_yearGoes (by omega)  H) (k2_V fun s4 H => ?_)
        refine fs_iincN (i := 2) (m := 1) (c := 1) dd_X12_shortage_47 rfl (by decide) (by decide) (fun x5 hx5 => ?_)
        replace H := H x5 hx5
        refine fs_goto (tgt := 17) dd_X12_shortage_50 (by decide) ?_
        refine fs_weak (ls2 := [.ref 196, .int v1, .int x5, fz_J]) (fz_le_e (fz_le_e (fz_le_e (fz_le_j fz_le_n)))) ?_
        exact hK17 H
set_option maxRecDepth 100000 in
set_option maxHeartbeats 4000000 in
theorem V_lp_X12_shortage_17 {g : fz_G} {l : Launch} {d : Nat} (hD : 9 ≤ d)    {Q : Int32 → fz_s → Prop}  (n : Nat) : ∀ {v1 : Int32} {v2 : Int32} {s : fz_s}, lp_X12_shortage_17   Q n v1 v2 s → fs_V g l m_X12_shortage d false 17 [.ref 196, .int v1, .int v2, fz_J] [] s (rI Q) := by
  induction n with
  | zero => intro v1 v2 s H; exact H.elim
  | succ n ih => intro v1 v2 s H; exact V_nd_X12_shortage_17 hD  (fun H => ih H) H
set_option maxRecDepth 100000 in
set_option maxHeartbeats 4000000 in
theorem V_X12_shortage {g : fz_G} {l : Launch} {d : Nat} (hD : 9 ≤ d) {p0 : Int32}  {s : fz_s} {Q : Int32 → fz_s → Prop} (H : wp_X12_shortage p0 s Q) : fs_V g l m_X12_shortage d false 0 (fz_en [.ref 196, .int p0] 4) [] s (rI Q) := by
  obtain ⟨d, rfl⟩ : ∃ e, d = e + 1 := ⟨d - 1, by omega⟩
  unfold wp_X12_shortage at H
  refine fs_aload_n (k0 := 0) (i := 0) dd_X12_shortage_0 rfl rfl ?_
  refine fs_iload_n (k0 := 1) (i := 1) dd_X12_shortage_1 rfl rfl ?_
  refine fs_i2l dd_X12_shortage_2 ?_
  refine fs_callV (y := m_X12_isVillage) (as := [.long p0.toInt64]) dd_X12_shortage_3 me_X12_isVillage lk_X12_509 in_X12_isVillage se_X12_isVillage ca_196 rfl rfl rfl (Nat.le_of_ble_eq_true rfl) (Nat.le_of_ble_eq_true rfl) rfl (V_X12_isVillage (by omega)  H) (k2_Z fun r1 s2 H => ?_)
  refine fs_if_ne (tgt := 11) dd_X12_shortage_6 (by decide) (fun hc => ?_) (fun hc => ?_)
  · replace H := H.1 (bi_1 hc)
    refine fs_iconst (n := 0) (v := 0) dd_X12_shortage_11 (by decide) ?_
    refine fs_istore_n (k0 := 2) (i := 2) dd_X12_shortage_12 rfl (by decide) ?_
    refine fs_aload_n (k0 := 0) (i := 0) dd_X12_shortage_13 rfl rfl ?_
    refine fs_callV (y := m_X12_putsAside) (as := []) dd_X12_shortage_14 me_X12_putsAside lk_X12_529 in_X12_putsAside se_X12_putsAside ca_196 rfl rfl rfl (Nat.le_of_ble_eq_true rfl) (Nat.le_of_ble_eq_true rfl) rfl (V_X12_putsAside (by omega)  H) (k2_V fun s4 H => ?_)
    refine fs_weak (ls2 := [.ref 196, .int p0, .int 0, fz_J]) (fz_le_e (fz_le_e (fz_le_e (fz_le_j fz_le_n)))) ?_
    exact V_lp_X12_shortage_17 hD    2048 H
  · replace H := H.2 (bi_0 hc)
    refine fs_iconst (n := -1) (v := -1) dd_X12_shortage_9 (by decide) ?_
    exact fs_iret dd_X12_shortage_10 rfl H
theorem dd_X12_laysHarvests_0 : decode m_X12_laysHarvests.2.1 0 = .ok (.aload_n 0, 1) := by decide +kernel
theorem dd_X12_laysHarvests_1 : decode m_X12_laysHarvests.2.1 1 = .ok (.invokevirtual 529, 3) := by decide +kernel
theorem dd_X12_laysHarvests_4 : decode m_X12_laysHarvests.2.1 4 = .ok (.aload_n 0, 1) := by decide +kernel
theorem dd_X12_laysHarvests_5 : decode m_X12_laysHarvests.2.1 5 = .ok (.iconst (-1), 1) := by decide +kernel
theorem dd_X12_laysHarvests_6 : decode m_X12_laysHarvests.2.1 6 = .ok (.iconst (-1), 1) := by decide +kernel
theorem dd_X12_laysHarvests_7 : decode m_X12_laysHarvests.2.1 7 = .ok (.iconst 0, 1) := by decide +kernel
theorem dd_X12_laysHarvests_8 : decode m_X12_laysHarvests.2.1 8 = .ok (.invokevirtual 493, 3) := by decide +kernel
theorem dd_X12_laysHarvests_11 : decode m_X12_laysHarvests.2.1 11 = .ok (.iconst 0, 1) := by decide +kernel
theorem dd_X12_laysHarvests_12 : decode m_X12_laysHarvests.2.1 12 = .ok (.istore_n 1, 1) := by decide +kernel
theorem dd_X12_laysHarvests_13 : decode m_X12_laysHarvests.2.1 13 = .ok (.iload_n 1, 1) := by decide +kernel
theorem dd_X12_laysHarvests_14 : decode m_X12_laysHarvests.2.1 14 = .ok (.iconst 2, 1) := by decide +kernel
theorem dd_X12_laysHarvests_15 : decode m_X12_laysHarvests.2.1 15 = .ok (.if_icmp .ge 25, 3) := by decide +kernel
theorem dd_X12_laysHarvests_18 : decode m_X12_laysHarvests.2.1 18 = .ok (.aload_n 0, 1) := by decide +kernel
theorem dd_X12_laysHarvests_19 : decode m_X12_laysHarvests.2.1 19 = .ok (.getfield 136, 3) := by decide +kernel
theorem dd_X12_laysHarvests_22 : decode m_X12_laysHarvests.2.1 22 = .ok (.iload_n 1, 1) := by decide +kernel
theorem dd_X12_laysHarvests_23 : decode m_X12_laysHarvests.2.1 23 = .ok (.aload_n 0, 1) := by decide +kernel
theorem dd_X12_laysHarvests_24 : decode m_X12_laysHarvests.2.1 24 = .ok (.getfield 121, 3) := by decide +kernel
theorem dd_X12_laysHarvests_27 : decode m_X12_laysHarvests.2.1 27 = .ok (.iconst 1, 1) := by decide +kernel
theorem dd_X12_laysHarvests_28 : decode m_X12_laysHarvests.2.1 28 = .ok (.iconst 2, 1) := by decide +kernel
theorem dd_X12_laysHarvests_29 : decode m_X12_laysHarvests.2.1 29 = .ok (.iload_n 1, 1) := by decide +kernel
theorem dd_X12_laysHarvests_30 : decode m_X12_laysHarvests.2.1 30 = .ok (.imul, 1) := by decide +kernel
theorem dd_X12_laysHarvests_31 : decode m_X12_laysHarvests.2.1 31 = .ok (.iadd, 1) := by decide +kernel
theorem dd_X12_laysHarvests_32 : decode m_X12_laysHarvests.2.1 32 = .ok (.iaload, 1) := by decide +kernel
theorem dd_X12_laysHarvests_33 : decode m_X12_laysHarvests.2.1 33 = .ok (.iastore, 1) := by decide +kernel
theorem dd_X12_laysHarvests_34 : decode m_X12_laysHarvests.2.1 34 = .ok (.iinc 1 1, 3) := by decide +kernel
theorem dd_X12_laysHarvests_37 : decode m_X12_laysHarvests.2.1 37 = .ok (.goto (-24), 3) := by decide +kernel
theorem dd_X12_laysHarvests_40 : decode m_X12_laysHarvests.2.1 40 = .ok (.aload_n 0, 1) := by decide +kernel
theorem dd_X12_laysHarvests_41 : decode m_X12_laysHarvests.2.1 41 = .ok (.invokevirtual 500, 3) := by decide +kernel
theorem dd_X12_laysHarvests_44 : decode m_X12_laysHarvests.2.1 44 = .ok (.iconst 0, 1) := by decide +kernel
theorem dd_X12_laysHarvests_45 : decode m_X12_laysHarvests.2.1 45 = .ok (.istore_n 1, 1) := by decide +kernel
theorem dd_X12_laysHarvests_46 : decode m_X12_laysHarvests.2.1 46 = .ok (.iload_n 1, 1) := by decide +kernel
theorem dd_X12_laysHarvests_47 : decode m_X12_laysHarvests.2.1 47 = .ok (.aload_n 0, 1) := by decide +kernel
theorem dd_X12_laysHarvests_48 : decode m_X12_laysHarvests.2.1 48 = .ok (.invokevirtual 402, 3) := by decide +kernel
theorem dd_X12_laysHarvests_51 : decode m_X12_laysHarvests.2.1 51 = .ok (.if_icmp .ge 95, 3) := by decide +kernel
theorem dd_X12_laysHarvests_54 : decode m_X12_laysHarvests.2.1 54 = .ok (.iconst 0, 1) := by decide +kernel
theorem dd_X12_laysHarvests_55 : decode m_X12_laysHarvests.2.1 55 = .ok (.istore_n 2, 1) := by decide +kernel
theorem dd_X12_laysHarvests_56 : decode m_X12_laysHarvests.2.1 56 = .ok (.iload_n 2, 1) := by decide +kernel
theorem dd_X12_laysHarvests_57 : decode m_X12_laysHarvests.2.1 57 = .ok (.aload_n 0, 1) := by decide +kernel
theorem dd_X12_laysHarvests_58 : decode m_X12_laysHarvests.2.1 58 = .ok (.invokevirtual 402, 3) := by decide +kernel
theorem dd_X12_laysHarvests_61 : decode m_X12_laysHarvests.2.1 61 = .ok (.if_icmp .ge 79, 3) := by decide +kernel
theorem dd_X12_laysHarvests_64 : decode m_X12_laysHarvests.2.1 64 = .ok (.aload_n 0, 1) := by decide +kernel
theorem dd_X12_laysHarvests_65 : decode m_X12_laysHarvests.2.1 65 = .ok (.iload_n 1, 1) := by decide +kernel
theorem dd_X12_laysHarvests_66 : decode m_X12_laysHarvests.2.1 66 = .ok (.iconst 0, 1) := by decide +kernel
theorem dd_X12_laysHarvests_67 : decode m_X12_laysHarvests.2.1 67 = .ok (.invokevirtual 445, 3) := by decide +kernel
theorem dd_X12_laysHarvests_70 : decode m_X12_laysHarvests.2.1 70 = .ok (.ifCond .eq 64, 3) := by decide +kernel
theorem dd_X12_laysHarvests_73 : decode m_X12_laysHarvests.2.1 73 = .ok (.aload_n 0, 1) := by decide +kernel
theorem dd_X12_laysHarvests_74 : decode m_X12_laysHarvests.2.1 74 = .ok (.iload_n 2, 1) := by decide +kernel
theorem dd_X12_laysHarvests_75 : decode m_X12_laysHarvests.2.1 75 = .ok (.iconst 1, 1) := by decide +kernel
theorem dd_X12_laysHarvests_76 : decode m_X12_laysHarvests.2.1 76 = .ok (.invokevirtual 445, 3) := by decide +kernel
theorem dd_X12_laysHarvests_79 : decode m_X12_laysHarvests.2.1 79 = .ok (.ifCond .ne 6, 3) := by decide +kernel
theorem dd_X12_laysHarvests_82 : decode m_X12_laysHarvests.2.1 82 = .ok (.goto 52, 3) := by decide +kernel
theorem dd_X12_laysHarvests_85 : decode m_X12_laysHarvests.2.1 85 = .ok (.aload_n 0, 1) := by decide +kernel
theorem dd_X12_laysHarvests_86 : decode m_X12_laysHarvests.2.1 86 = .ok (.iload_n 1, 1) := by decide +kernel
theorem dd_X12_laysHarvests_87 : decode m_X12_laysHarvests.2.1 87 = .ok (.iload_n 2, 1) := by decide +kernel
theorem dd_X12_laysHarvests_88 : decode m_X12_laysHarvests.2.1 88 = .ok (.iconst 0, 1) := by decide +kernel
theorem dd_X12_laysHarvests_89 : decode m_X12_laysHarvests.2.1 89 = .ok (.invokevirtual 493, 3) := by decide +kernel
theorem dd_X12_laysHarvests_92 : decode m_X12_laysHarvests.2.1 92 = .ok (.iconst 0, 1) := by decide +kernel
theorem dd_X12_laysHarvests_93 : decode m_X12_laysHarvests.2.1 93 = .ok (.istore_n 3, 1) := by decide +kernel
theorem dd_X12_laysHarvests_94 : decode m_X12_laysHarvests.2.1 94 = .ok (.iload_n 3, 1) := by decide +kernel
theorem dd_X12_laysHarvests_95 : decode m_X12_laysHarvests.2.1 95 = .ok (.iconst 2, 1) := by decide +kernel
theorem dd_X12_laysHarvests_96 : decode m_X12_laysHarvests.2.1 96 = .ok (.if_icmp .ge 34, 3) := by decide +kernel
theorem dd_X12_laysHarvests_99 : decode m_X12_laysHarvests.2.1 99 = .ok (.aload_n 0, 1) := by decide +kernel
theorem dd_X12_laysHarvests_100 : decode m_X12_laysHarvests.2.1 100 = .ok (.getfield 133, 3) := by decide +kernel
theorem dd_X12_laysHarvests_103 : decode m_X12_laysHarvests.2.1 103 = .ok (.bipush 16, 2) := by decide +kernel
theorem dd_X12_laysHarvests_105 : decode m_X12_laysHarvests.2.1 105 = .ok (.iload_n 1, 1) := by decide +kernel
theorem dd_X12_laysHarvests_106 : decode m_X12_laysHarvests.2.1 106 = .ok (.imul, 1) := by decide +kernel
theorem dd_X12_laysHarvests_107 : decode m_X12_laysHarvests.2.1 107 = .ok (.iconst 2, 1) := by decide +kernel
theorem dd_X12_laysHarvests_108 : decode m_X12_laysHarvests.2.1 108 = .ok (.iload_n 2, 1) := by decide +kernel
theorem dd_X12_laysHarvests_109 : decode m_X12_laysHarvests.2.1 109 = .ok (.imul, 1) := by decide +kernel
theorem dd_X12_laysHarvests_110 : decode m_X12_laysHarvests.2.1 110 = .ok (.iadd, 1) := by decide +kernel
theorem dd_X12_laysHarvests_111 : decode m_X12_laysHarvests.2.1 111 = .ok (.iload_n 3, 1) := by decide +kernel
theorem dd_X12_laysHarvests_112 : decode m_X12_laysHarvests.2.1 112 = .ok (.iadd, 1) := by decide +kernel
theorem dd_X12_laysHarvests_113 : decode m_X12_laysHarvests.2.1 113 = .ok (.aload_n 0, 1) := by decide +kernel
theorem dd_X12_laysHarvests_114 : decode m_X12_laysHarvests.2.1 114 = .ok (.getfield 121, 3) := by decide +kernel
theorem dd_X12_laysHarvests_117 : decode m_X12_laysHarvests.2.1 117 = .ok (.iconst 1, 1) := by decide +kernel
theorem dd_X12_laysHarvests_118 : decode m_X12_laysHarvests.2.1 118 = .ok (.iconst 2, 1) := by decide +kernel
theorem dd_X12_laysHarvests_119 : decode m_X12_laysHarvests.2.1 119 = .ok (.iload_n 3, 1) := by decide +kernel
theorem dd_X12_laysHarvests_120 : decode m_X12_laysHarvests.2.1 120 = .ok (.imul, 1) := by decide +kernel
theorem dd_X12_laysHarvests_121 : decode m_X12_laysHarvests.2.1 121 = .ok (.iadd, 1) := by decide +kernel
theorem dd_X12_laysHarvests_122 : decode m_X12_laysHarvests.2.1 122 = .ok (.iaload, 1) := by decide +kernel
theorem dd_X12_laysHarvests_123 : decode m_X12_laysHarvests.2.1 123 = .ok (.iastore, 1) := by decide +kernel
theorem dd_X12_laysHarvests_124 : decode m_X12_laysHarvests.2.1 124 = .ok (.iinc 3 1, 3) := by decide +kernel
theorem dd_X12_laysHarvests_127 : decode m_X12_laysHarvests.2.1 127 = .ok (.goto (-33), 3) := by decide +kernel
theorem dd_X12_laysHarvests_130 : decode m_X12_laysHarvests.2.1 130 = .ok (.aload_n 0, 1) := by decide +kernel
theorem dd_X12_laysHarvests_131 : decode m_X12_laysHarvests.2.1 131 = .ok (.invokevirtual 500, 3) := by decide +kernel
theorem dd_X12_laysHarvests_134 : decode m_X12_laysHarvests.2.1 134 = .ok (.iinc 2 1, 3) := by decide +kernel
theorem dd_X12_laysHarvests_137 : decode m_X12_laysHarvests.2.1 137 = .ok (.goto (-81), 3) := by decide +kernel
theorem dd_X12_laysHarvests_140 : decode m_X12_laysHarvests.2.1 140 = .ok (.iinc 1 1, 3) := by decide +kernel
theorem dd_X12_laysHarvests_143 : decode m_X12_laysHarvests.2.1 143 = .ok (.goto (-97), 3) := by decide +kernel
theorem dd_X12_laysHarvests_146 : decode m_X12_laysHarvests.2.1 146 = .ok (.aload_n 0, 1) := by decide +kernel
theorem dd_X12_laysHarvests_147 : decode m_X12_laysHarvests.2.1 147 = .ok (.invokevirtual 535, 3) := by decide +kernel
theorem dd_X12_laysHarvests_150 : decode m_X12_laysHarvests.2.1 150 = .ok (.return_, 1) := by decide +kernel
def nd_X12_laysHarvests_94  (K46 : Int32 → fz_s → Prop) (K56 : Int32 → Int32 → fz_s → Prop) (K94 : Int32 → Int32 → Int32 → fz_s → Prop) (Q : fz_s → Prop) (v1 : Int32) (v2 : Int32) (v3 : Int32) (s : fz_s) : Prop :=
  ((2 ≤ v3 → wp_X12_triesAnew  s (fun s2 => ∀ x3 : Int32, x3 = v2 + 1 → K56 v1 x3 s2)) ∧ (¬ 2 ≤ v3 → vp_in (1 + (2 * v3)) 150 ∧ vp_in (((16 * v1) + (2 * v2)) + v3) 128 ∧ ∀ s4 : fz_s, s4 = si s 236 (((16 * v1) + (2 * v2)) + v3).toNatClampNeg (s.1 232 (1 + (2 * v3)).toNatClampNeg) → ∀ x5 : Int32, x5 = v3 + 1 → K94 v1 v2 x5 s4))
def lp_X12_laysHarvests_94  (K46 : Int32 → fz_s → Prop) (K56 : Int32 → Int32 → fz_s → Prop) (Q : fz_s → Prop) : Nat → Int32 → Int32 → Int32 → fz_s → Prop
  | 0 => fun _ _ _ _ => False
  | n + 1 => nd_X12_laysHarvests_94  K46 K56 (lp_X12_laysHarvests_94  K46 K56 Q n) Q
def nd_X12_laysHarvests_56  (K46 : Int32 → fz_s → Prop) (K56 : Int32 → Int32 → fz_s → Prop) (Q : fz_s → Prop) (v1 : Int32) (v2 : Int32) (s : fz_s) : Prop :=
  wp_X12_personMany  s (fun r1 s2 => ((r1 ≤ v2 → ∀ x3 : Int32, x3 = v1 + 1 → K46 x3 s2) ∧ (¬ r1 ≤ v2 → wp_X12_isOwnIn v1 0 s2 (fun r4 s5 => ((r4 = false → ∀ x6 : Int32, x6 = v2 + 1 → K56 v1 x6 s5) ∧ (r4 = true → wp_X12_isOwnIn v2 1 s5 (fun r7 s8 => ((r7 = true → wp_X12_yearWith v1 v2 false s8 (fun s10 => lp_X12_laysHarvests_94  K46 K56 Q 2048 v1 v2 0 s10)) ∧ (r7 = false → ∀ x11 : Int32, x11 = v2 + 1 → K56 v1 x11 s8)))))))))
def lp_X12_laysHarvests_56  (K46 : Int32 → fz_s → Prop) (Q : fz_s → Prop) : Nat → Int32 → Int32 → fz_s → Prop
  | 0 => fun _ _ _ => False
  | n + 1 => nd_X12_laysHarvests_56  K46 (lp_X12_laysHarvests_56  K46 Q n) Q
def nd_X12_laysHarvests_46  (K46 : Int32 → fz_s → Prop) (Q : fz_s → Prop) (v1 : Int32) (s : fz_s) : Prop :=
  wp_X12_personMany  s (fun r1 s2 => ((r1 ≤ v1 → wp_X12_takesBack  s2 (fun s4 => Q s4)) ∧ (¬ r1 ≤ v1 → lp_X12_laysHarvests_56  K46 Q 2048 v1 0 s2)))
def lp_X12_laysHarvests_46   (Q : fz_s → Prop) : Nat → Int32 → fz_s → Prop
  | 0 => fun _ _ => False
  | n + 1 => nd_X12_laysHarvests_46  (lp_X12_laysHarvests_46   Q n) Q
def nd_X12_laysHarvests_13  (K13 : Int32 → fz_s → Prop) (Q : fz_s → Prop) (v1 : Int32) (s : fz_s) : Prop :=
  ((2 ≤ v1 → wp_X12_triesAnew  s (fun s2 => lp_X12_laysHarvests_46   Q 2048 0 s2)) ∧ (¬ 2 ≤ v1 → vp_in (1 + (2 * v1)) 150 ∧ vp_in v1 2 ∧ ∀ s3 : fz_s, s3 = si s 237 v1.toNatClampNeg (s.1 232 (1 + (2 * v1)).toNatClampNeg) → ∀ x4 : Int32, x4 = v1 + 1 → K13 x4 s3))
def lp_X12_laysHarvests_13   (Q : fz_s → Prop) : Nat → Int32 → fz_s → Prop
  | 0 => fun _ _ => False
  | n + 1 => nd_X12_laysHarvests_13  (lp_X12_laysHarvests_13   Q n) Q
def wp_X12_laysHarvests  (s : fz_s) (Q : fz_s → Prop) : Prop :=
  wp_X12_putsAside  s (fun s2 => wp_X12_yearWith (-1) (-1) false s2 (fun s4 => lp_X12_laysHarvests_13   Q 2048 0 s4))
set_option maxRecDepth 100000 in
set_option maxHeartbeats 4000000 in
theorem V_nd_X12_laysHarvests_94 {g : fz_G} {l : Launch} {d : Nat} (hD : 8 ≤ d)   {K46 : Int32 → fz_s → Prop} {K56 : Int32 → Int32 → fz_s → Prop} {K94 : Int32 → Int32 → Int32 → fz_s → Prop} {Q : fz_s → Prop} {v1 : Int32} {v2 : Int32} {v3 : Int32} {s : fz_s} (hK46 : ∀ {v1 : Int32} {s : fz_s}, K46 v1 s → fs_V g l m_X12_laysHarvests d false 46 [.ref 196, .int v1, fz_J, fz_J] [] s (rV Q)) (hK56 : ∀ {v1 : Int32} {v2 : Int32} {s : fz_s}, K56 v1 v2 s → fs_V g l m_X12_laysHarvests d false 56 [.ref 196, .int v1, .int v2, fz_J] [] s (rV Q)) (hK94 : ∀ {v1 : Int32} {v2 : Int32} {v3 : Int32} {s : fz_s}, K94 v1 v2 v3 s → fs_V g l m_X12_laysHarvests d false 94 [.ref 196, .int v1, .int v2, .int v3] [] s (rV Q)) (H : nd_X12_laysHarvests_94  K46 K56 K94 Q v1 v2 v3 s) : fs_V g l m_X12_laysHarvests d false 94 [.ref 196, .int v1, .int v2, .int v3] [] s (rV Q) := by
  obtain ⟨d, rfl⟩ : ∃ e, d = e + 1 := ⟨d - 1, by omega⟩
  unfold nd_X12_laysHarvests_94 at H
  refine fs_iload_n (k0 := 3) (i := 3) dd_X12_laysHarvests_94 rfl rfl ?_
  refine fs_iconst (n := 2) (v := 2) dd_X12_laysHarvests_95 (by decide) ?_
  refine fs_icmp_ge (tgt := 130) dd_X12_laysHarvests_96 (by decide) (fun hc => ?_) (fun hc => ?_)
  · replace H := H.1 hc
    refine fs_aload_n (k0 := 0) (i := 0) dd_X12_laysHarvests_130 rfl rfl ?_
    refine fs_callV (y := m_X12_triesAnew) (as := []) dd_X12_laysHarvests_131 me_X12_triesAnew lk_X12_500 in_X12_triesAnew se_X12_triesAnew ca_196 rfl rfl rfl (Nat.le_of_ble_eq_true rfl) (Nat.le_of_ble_eq_true rfl) rfl (V_X12_triesAnew (by omega)  H) (k2_V fun s2 H => ?_)
    refine fs_iincN (i := 2) (m := 1) (c := 1) dd_X12_laysHarvests_134 rfl (by decide) (by decide) (fun x3 hx3 => ?_)
    replace H := H x3 hx3
    refine fs_goto (tgt := 56) dd_X12_laysHarvests_137 (by decide) ?_
    refine fs_weak (ls2 := [.ref 196, .int v1, .int x3, fz_J]) (fz_le_e (fz_le_e (fz_le_e (fz_le_j fz_le_n)))) ?_
    exact hK56 H
  · replace H := H.2 hc
    refine fs_aload_n (k0 := 0) (i := 0) dd_X12_laysHarvests_99 rfl rfl ?_
    refine fs_getr (ci := 12) (j := 61) (q := 236) dd_X12_laysHarvests_100 fl_X12_133 ca_196 rfl (Or.inr ⟨_, rfl⟩) rfl (by decide) ?_
    refine fs_bipush (n := 16) (v := 16) dd_X12_laysHarvests_103 (by decide) ?_
    refine fs_iload_n (k0 := 1) (i := 1) dd_X12_laysHarvests_105 rfl rfl ?_
    refine fs_imul dd_X12_laysHarvests_106 ?_
    refine fs_iconst (n := 2) (v := 2) dd_X12_laysHarvests_107 (by decide) ?_
    refine fs_iload_n (k0 := 2) (i := 2) dd_X12_laysHarvests_108 rfl rfl ?_
    refine fs_imul dd_X12_laysHarvests_109 ?_
    refine fs_iadd dd_X12_laysHarvests_110 ?_
    refine fs_iload_n (k0 := 3) (i := 3) dd_X12_laysHarvests_111 rfl rfl ?_
    refine fs_iadd dd_X12_laysHarvests_112 ?_
    refine fs_aload_n (k0 := 0) (i := 0) dd_X12_laysHarvests_113 rfl rfl ?_
    refine fs_getr (ci := 12) (j := 54) (q := 232) dd_X12_laysHarvests_114 fl_X12_121 ca_196 rfl (Or.inr ⟨_, rfl⟩) rfl (by decide) ?_
    refine fs_iconst (n := 1) (v := 1) dd_X12_laysHarvests_117 (by decide) ?_
    refine fs_iconst (n := 2) (v := 2) dd_X12_laysHarvests_118 (by decide) ?_
    refine fs_iload_n (k0 := 3) (i := 3) dd_X12_laysHarvests_119 rfl rfl ?_
    refine fs_imul dd_X12_laysHarvests_120 ?_
    refine fs_iadd dd_X12_laysHarvests_121 ?_
    have hb := H.1
    replace H := H.2
    refine fs_iald dd_X12_laysHarvests_122 ca_232 hb ?_
    have hb := H.1
    replace H := H.2
    refine fs_iast dd_X12_laysHarvests_123 ca_236 hb ?_
    refine fs_tops (fun s4 hs4 => ?_)
    replace H := H s4 hs4
    refine fs_iincN (i := 3) (m := 1) (c := 1) dd_X12_laysHarvests_124 rfl (by decide) (by decide) (fun x5 hx5 => ?_)
    replace H := H x5 hx5
    refine fs_goto (tgt := 94) dd_X12_laysHarvests_127 (by decide) ?_
    refine fs_weak (ls2 := [.ref 196, .int v1, .int v2, .int x5]) (fz_le_e (fz_le_e (fz_le_e (fz_le_e fz_le_n)))) ?_
    exact hK94 H
set_option maxRecDepth 100000 in
set_option maxHeartbeats 4000000 in
theorem V_lp_X12_laysHarvests_94 {g : fz_G} {l : Launch} {d : Nat} (hD : 8 ≤ d)   {K46 : Int32 → fz_s → Prop} {K56 : Int32 → Int32 → fz_s → Prop} {Q : fz_s → Prop} (hK46 : ∀ {v1 : Int32} {s : fz_s}, K46 v1 s → fs_V g l m_X12_laysHarvests d false 46 [.ref 196, .int v1, fz_J, fz_J] [] s (rV Q)) (hK56 : ∀ {v1 : Int32} {v2 : Int32} {s : fz_s}, K56 v1 v2 s → fs_V g l m_X12_laysHarvests d false 56 [.ref 196, .int v1, .int v2, fz_J] [] s (rV Q)) (n : Nat) : ∀ {v1 : Int32} {v2 : Int32} {v3 : Int32} {s : fz_s}, lp_X12_laysHarvests_94  K46 K56 Q n v1 v2 v3 s → fs_V g l m_X12_laysHarvests d false 94 [.ref 196, .int v1, .int v2, .int v3] [] s (rV Q) := by
  induction n with
  | zero => intro v1 v2 v3 s H; exact H.elim
  | succ n ih => intro v1 v2 v3 s H; exact V_nd_X12_laysHarvests_94 hD  hK46 hK56 (fun H => ih H) H
set_option maxRecDepth 100000 in
set_option maxHeartbeats 4000000 in
theorem V_nd_X12_laysHarvests_56 {g : fz_G} {l : Launch} {d : Nat} (hD : 8 ≤ d)   {K46 : Int32 → fz_s → Prop} {K56 : Int32 → Int32 → fz_s → Prop} {Q : fz_s → Prop} {v1 : Int32} {v2 : Int32} {s : fz_s} (hK46 : ∀ {v1 : Int32} {s : fz_s}, K46 v1 s → fs_V g l m_X12_laysHarvests d false 46 [.ref 196, .int v1, fz_J, fz_J] [] s (rV Q)) (hK56 : ∀ {v1 : Int32} {v2 : Int32} {s : fz_s}, K56 v1 v2 s → fs_V g l m_X12_laysHarvests d false 56 [.ref 196, .int v1, .int v2, fz_J] [] s (rV Q)) (H : nd_X12_laysHarvests_56  K46 K56 Q v1 v2 s) : fs_V g l m_X12_laysHarvests d false 56 [.ref 196, .int v1, .int v2, fz_J] [] s (rV Q) := by
  obtain ⟨d, rfl⟩ : ∃ e, d = e + 1 := ⟨d - 1, by omega⟩
  unfold nd_X12_laysHarvests_56 at H
  refine fs_iload_n (k0 := 2) (i := 2) dd_X12_laysHarvests_56 rfl rfl ?_
  refine fs_aload_n (k0 := 0) (i := 0) dd_X12_laysHarvests_57 rfl rfl ?_
  refine fs_callV (y := m_X12_personMany) (as := []) dd_X12_laysHarvests_58 me_X12_personMany lk_X12_402 in_X12_personMany se_X12_personMany ca_196 rfl rfl rfl (Nat.le_of_ble_eq_true rfl) (Nat.le_of_ble_eq_true rfl) rfl (V_X12_personMany (by omega)  H) (k2_I fun r1 s2 H => ?_)
  refine fs_icmp_ge (tgt := 140) dd_X12_laysHarvests_61 (by decide) (fun hc => ?_) (fun hc => ?_)
  · replace H := H.1 hc
    refine fs_iincN (i := 1) (m := 1) (c := 1) dd_X12_laysHarvests_140 rfl (by decide) (by decide) (fun x3 hx3 => ?_)
    replace H := H x3 hx3
    refine fs_goto (tgt := 46) dd_X12_laysHarvests_143 (by decide) ?_
    refine fs_weak (ls2 := [.ref 196, .int x3, fz_J, fz_J]) (fz_le_e (fz_le_e (fz_le_j (fz_le_j fz_le_n)))) ?_
    exact hK46 H
  · replace H := H.2 hc
    refine fs_aload_n (k0 := 0) (i := 0) dd_X12_laysHarvests_64 rfl rfl ?_
    refine fs_iload_n (k0 := 1) (i := 1) dd_X12_laysHarvests_65 rfl rfl ?_
    refine fs_iconst (n := 0) (v := 0) dd_X12_laysHarvests_66 (by decide) ?_
    refine fs_callV (y := m_X12_isOwnIn) (as := [.int v1, .int 0]) dd_X12_laysHarvests_67 me_X12_isOwnIn lk_X12_445 in_X12_isOwnIn se_X12_isOwnIn ca_196 rfl rfl rfl (Nat.le_of_ble_eq_true rfl) (Nat.le_of_ble_eq_true rfl) rfl (V_X12_isOwnIn (by omega)  H) (k2_Z fun r4 s5 H => ?_)
    refine fs_if_eq (tgt := 134) dd_X12_laysHarvests_70 (by decide) (fun hc => ?_) (fun hc => ?_)
    · replace H := H.1 (bi_0 hc)
      refine fs_iincN (i := 2) (m := 1) (c := 1) dd_X12_laysHarvests_134 rfl (by decide) (by decide) (fun x6 hx6 => ?_)
      replace H := H x6 hx6
      refine fs_goto (tgt := 56) dd_X12_laysHarvests_137 (by decide) ?_
      refine fs_weak (ls2 := [.ref 196, .int v1, .int x6, fz_J]) (fz_le_e (fz_le_e (fz_le_e (fz_le_j fz_le_n)))) ?_
      exact hK56 H
    · replace H := H.2 (bi_1 hc)
      refine fs_aload_n (k0 := 0) (i := 0) dd_X12_laysHarvests_73 rfl rfl ?_
      refine fs_iload_n (k0 := 2) (i := 2) dd_X12_laysHarvests_74 rfl rfl ?_
      refine fs_iconst (n := 1) (v := 1) dd_X12_laysHarvests_75 (by decide) ?_
      refine fs_callV (y := m_X12_isOwnIn) (as := [.int v2, .int 1]) dd_X12_laysHarvests_76 me_X12_isOwnIn lk_X12_445 in_X12_isOwnIn se_X12_isOwnIn ca_196 rfl rfl rfl (Nat.le_of_ble_eq_true rfl) (Nat.le_of_ble_eq_true rfl) rfl (V_X12_isOwnIn (by omega)  H) (k2_Z fun r7 s8 H => ?_)
      refine fs_if_ne (tgt := 85) dd_X12_laysHarvests_79 (by decide) (fun hc => ?_) (fun hc => ?_)
      · replace H := H.1 (bi_1 hc)
        refine fs_aload_n (k0 := 0) (i := 0) dd_X12_laysHarvests_85 rfl rfl ?_
        refine fs_iload_n (k0 := 1) (i := 1) dd_X12_laysHarvests_86 rfl rfl ?_
        refine fs_iload_n (k0 := 2) (i := 2) dd_X12_laysHarvests_87 rfl rfl ?_
        refine fs_iconst (n := 0) (v := 0) dd_X12_laysHarvests_88 (by decide) ?_
        refine fs_callV (y := m_X12_yearWith) (as := [.int v1, .int v2, .int 0]) dd_X12_laysHarvests_89 me_X12_yearWith lk_X12_493 in_X12_yearWith se_X12_yearWith ca_196 rfl rfl rfl (Nat.le_of_ble_eq_true rfl) (Nat.le_of_ble_eq_true rfl) rfl (V_X12_yearWith (by omega)  H) (k2_V fun s10 H => ?_)
        refine fs_iconst (n := 0) (v := 0) dd_X12_laysHarvests_92 (by decide) ?_
        refine fs_istore_n (k0 := 3) (i := 3) dd_X12_laysHarvests_93 rfl (by decide) ?_
        refine fs_weak (ls2 := [.ref 196, .int v1, .int v2, .int 0]) (fz_le_e (fz_le_e (fz_le_e (fz_le_e fz_le_n)))) ?_
        exact V_lp_X12_laysHarvests_94 hD   hK46 hK56 2048 H
      · replace H := H.2 (bi_0 hc)
        refine fs_goto (tgt := 134) dd_X12_laysHarvests_82 (by decide) ?_
        refine fs_iincN (i := 2) (m := 1) (c := 1) dd_X12_laysHarvests_134 rfl (by decide) (by decide) (fun x11 hx11 => ?_)
        replace H := H x11 hx11
        refine fs_goto (tgt := 56) dd_X12_laysHarvests_137 (by decide) ?_
        refine fs_weak (ls2 := [.ref 196, .int v1, .int x11, fz_J]) (fz_le_e (fz_le_e (fz_le_e (fz_le_j fz_le_n)))) ?_
        exact hK56 H
set_option maxRecDepth 100000 in
set_option maxHeartbeats 4000000 in
theorem V_lp_X12_laysHarvests_56 {g : fz_G} {l : Launch} {d : Nat} (hD : 8 ≤ d)   {K46 : Int32 → fz_s → Prop} {Q : fz_s → Prop} (hK46 : ∀ {v1 : Int32} {s : fz_s}, K46 v1 s → fs_V g l m_X12_laysHarvests d false 46 [.ref 196, .int v1, fz_J, fz_J] [] s (rV Q)) (n : Nat) : ∀ {v1 : Int32} {v2 : Int32} {s : fz_s}, lp_X12_laysHarvests_56  K46 Q n v1 v2 s → fs_V g l m_X12_laysHarvests d false 56 [.ref 196, .int v1, .int v2, fz_J] [] s (rV Q) := by
  induction n with
  | zero => intro v1 v2 s H; exact H.elim
  | succ n ih => intro v1 v2 s H; exact V_nd_X12_laysHarvests_56 hD  hK46 (fun H => ih H) H
set_option maxRecDepth 100000 in
set_option maxHeartbeats 4000000 in
theorem V_nd_X12_laysHarvests_46 {g : fz_G} {l : Launch} {d : Nat} (hD : 8 ≤ d)   {K46 : Int32 → fz_s → Prop} {Q : fz_s → Prop} {v1 : Int32} {s : fz_s} (hK46 : ∀ {v1 : Int32} {s : fz_s}, K46 v1 s → fs_V g l m_X12_laysHarvests d false 46 [.ref 196, .int v1, fz_J, fz_J] [] s (rV Q)) (H : nd_X12_laysHarvests_46  K46 Q v1 s) : fs_V g l m_X12_laysHarvests d false 46 [.ref 196, .int v1, fz_J, fz_J] [] s (rV Q) := by
  obtain ⟨d, rfl⟩ : ∃ e, d = e + 1 := ⟨d - 1, by omega⟩
  unfold nd_X12_laysHarvests_46 at H
  refine fs_iload_n (k0 := 1) (i := 1) dd_X12_laysHarvests_46 rfl rfl ?_
  refine fs_aload_n (k0 := 0) (i := 0) dd_X12_laysHarvests_47 rfl rfl ?_
  refine fs_callV (y := m_X12_personMany) (as := []) dd_X12_laysHarvests_48 me_X12_personMany lk_X12_402 in_X12_personMany se_X12_personMany ca_196 rfl rfl rfl (Nat.le_of_ble_eq_true rfl) (Nat.le_of_ble_eq_true rfl) rfl (V_X12_personMany (by omega)  H) (k2_I fun r1 s2 H => ?_)
  refine fs_icmp_ge (tgt := 146) dd_X12_laysHarvests_51 (by decide) (fun hc => ?_) (fun hc => ?_)
  · replace H := H.1 hc
    refine fs_aload_n (k0 := 0) (i := 0) dd_X12_laysHarvests_146 rfl rfl ?_
    refine fs_callV (y := m_X12_takesBack) (as := []) dd_X12_laysHarvests_147 me_X12_takesBack lk_X12_535 in_X12_takesBack se_X12_takesBack ca_196 rfl rfl rfl (Nat.le_of_ble_eq_true rfl) (Nat.le_of_ble_eq_true rfl) rfl (V_X12_takesBack (by omega)  H) (k2_V fun s4 H => ?_)
    exact fs_vret dd_X12_laysHarvests_150 rfl H
  · replace H := H.2 hc
    refine fs_iconst (n := 0) (v := 0) dd_X12_laysHarvests_54 (by decide) ?_
    refine fs_istore_n (k0 := 2) (i := 2) dd_X12_laysHarvests_55 rfl (by decide) ?_
    refine fs_weak (ls2 := [.ref 196, .int v1, .int 0, fz_J]) (fz_le_e (fz_le_e (fz_le_e (fz_le_j fz_le_n)))) ?_
    exact V_lp_X12_laysHarvests_56 hD   hK46 2048 H
set_option maxRecDepth 100000 in
set_option maxHeartbeats 4000000 in
theorem V_lp_X12_laysHarvests_46 {g : fz_G} {l : Launch} {d : Nat} (hD : 8 ≤ d)    {Q : fz_s → Prop}  (n : Nat) : ∀ {v1 : Int32} {s : fz_s}, lp_X12_laysHarvests_46   Q n v1 s → fs_V g l m_X12_laysHarvests d false 46 [.ref 196, .int v1, fz_J, fz_J] [] s (rV Q) := by
  induction n with
  | zero => intro v1 s H; exact H.elim
  | succ n ih => intro v1 s H; exact V_nd_X12_laysHarvests_46 hD  (fun H => ih H) H
set_option maxRecDepth 100000 in
set_option maxHeartbeats 4000000 in
theorem V_nd_X12_laysHarvests_13 {g : fz_G} {l : Launch} {d : Nat} (hD : 8 ≤ d)   {K13 : Int32 → fz_s → Prop} {Q : fz_s → Prop} {v1 : Int32} {s : fz_s} (hK13 : ∀ {v1 : Int32} {s : fz_s}, K13 v1 s → fs_V g l m_X12_laysHarvests d false 13 [.ref 196, .int v1, fz_J, fz_J] [] s (rV Q)) (H : nd_X12_laysHarvests_13  K13 Q v1 s) : fs_V g l m_X12_laysHarvests d false 13 [.ref 196, .int v1, fz_J, fz_J] [] s (rV Q) := by
  obtain ⟨d, rfl⟩ : ∃ e, d = e + 1 := ⟨d - 1, by omega⟩
  unfold nd_X12_laysHarvests_13 at H
  refine fs_iload_n (k0 := 1) (i := 1) dd_X12_laysHarvests_13 rfl rfl ?_
  refine fs_iconst (n := 2) (v := 2) dd_X12_laysHarvests_14 (by decide) ?_
  refine fs_icmp_ge (tgt := 40) dd_X12_laysHarvests_15 (by decide) (fun hc => ?_) (fun hc => ?_)
  · replace H := H.1 hc
    refine fs_aload_n (k0 := 0) (i := 0) dd_X12_laysHarvests_40 rfl rfl ?_
    refine fs_callV (y := m_X12_triesAnew) (as := []) dd_X12_laysHarvests_41 me_X12_triesAnew lk_X12_500 in_X12_triesAnew se_X12_triesAnew ca_196 rfl rfl rfl (Nat.le_of_ble_eq_true rfl) (Nat.le_of_ble_eq_true rfl) rfl (V_X12_triesAnew (by omega)  H) (k2_V fun s2 H => ?_)
    refine fs_iconst (n := 0) (v := 0) dd_X12_laysHarvests_44 (by decide) ?_
    refine fs_istore_n (k0 := 1) (i := 1) dd_X12_laysHarvests_45 rfl (by decide) ?_
    refine fs_weak (ls2 := [.ref 196, .int 0, fz_J, fz_J]) (fz_le_e (fz_le_e (fz_le_j (fz_le_j fz_le_n)))) ?_
    exact V_lp_X12_laysHarvests_46 hD    2048 H
  · replace H := H.2 hc
    refine fs_aload_n (k0 := 0) (i := 0) dd_X12_laysHarvests_18 rfl rfl ?_
    refine fs_getr (ci := 12) (j := 62) (q := 237) dd_X12_laysHarvests_19 fl_X12_136 ca_196 rfl (Or.inr ⟨_, rfl⟩) rfl (by decide) ?_
    refine fs_iload_n (k0 := 1) (i := 1) dd_X12_laysHarvests_22 rfl rfl ?_
    refine fs_aload_n (k0 := 0) (i := 0) dd_X12_laysHarvests_23 rfl rfl ?_
    refine fs_getr (ci := 12) (j := 54) (q := 232) dd_X12_laysHarvests_24 fl_X12_121 ca_196 rfl (Or.inr ⟨_, rfl⟩) rfl (by decide) ?_
    refine fs_iconst (n := 1) (v := 1) dd_X12_laysHarvests_27 (by decide) ?_
    refine fs_iconst (n := 2) (v := 2) dd_X12_laysHarvests_28 (by decide) ?_
    refine fs_iload_n (k0 := 1) (i := 1) dd_X12_laysHarvests_29 rfl rfl ?_
    refine fs_imul dd_X12_laysHarvests_30 ?_
    refine fs_iadd dd_X12_laysHarvests_31 ?_
    have hb := H.1
    replace H := H.2
    refine fs_iald dd_X12_laysHarvests_32 ca_232 hb ?_
    have hb := H.1
    replace H := H.2
    refine fs_iast dd_X12_laysHarvests_33 ca_237 hb ?_
    refine fs_tops (fun s3 hs3 => ?_)
    replace H := H s3 hs3
    refine fs_iincN (i := 1) (m := 1) (c := 1) dd_X12_laysHarvests_34 rfl (by decide) (by decide) (fun x4 hx4 => ?_)
    replace H := H x4 hx4
    refine fs_goto (tgt := 13) dd_X12_laysHarvests_37 (by decide) ?_
    refine fs_weak (ls2 := [.ref 196, .int x4, fz_J, fz_J]) (fz_le_e (fz_le_e (fz_le_j (fz_le_j fz_le_n)))) ?_
    exact hK13 H
set_option maxRecDepth 100000 in
set_option maxHeartbeats 4000000 in
theorem V_lp_X12_laysHarvests_13 {g : fz_G} {l : Launch} {d : Nat} (hD : 8 ≤ d)    {Q : fz_s → Prop}  (n : Nat) : ∀ {v1 : Int32} {s : fz_s}, lp_X12_laysHarvests_13   Q n v1 s → fs_V g l m_X12_laysHarvests d false 13 [.ref 196, .int v1, fz_J, fz_J] [] s (rV Q) := by
  induction n with
  | zero => intro v1 s H; exact H.elim
  | succ n ih => intro v1 s H; exact V_nd_X12_laysHarvests_13 hD  (fun H => ih H) H
set_option maxRecDepth 100000 in
set_option maxHeartbeats 4000000 in
theorem V_X12_laysHarvests {g : fz_G} {l : Launch} {d : Nat} (hD : 8 ≤ d)   {s : fz_s} {Q : fz_s → Prop} (H : wp_X12_laysHarvests  s Q) : fs_V g l m_X12_laysHarvests d false 0 (fz_en [.ref 196] 4) [] s (rV Q) := by
  obtain ⟨d, rfl⟩ : ∃ e, d = e + 1 := ⟨d - 1, by omega⟩
  unfold wp_X12_laysHarvests at H
  refine fs_aload_n (k0 := 0) (i := 0) dd_X12_laysHarvests_0 rfl rfl ?_
  refine fs_callV (y := m_X12_putsAside) (as := []) dd_X12_laysHarvests_1 me_X12_putsAside lk_X12_529 in_X12_putsAside se_X12_putsAside ca_196 rfl rfl rfl (Nat.le_of_ble_eq_true rfl) (Nat.le_of_ble_eq_true rfl) rfl (V_X12_putsAside (by omega)  H) (k2_V fun s2 H => ?_)
  refine fs_aload_n (k0 := 0) (i := 0) dd_X12_laysHarvests_4 rfl rfl ?_
  refine fs_iconst (n := -1) (v := -1) dd_X12_laysHarvests_5 (by decide) ?_
  refine fs_iconst (n := -1) (v := -1) dd_X12_laysHarvests_6 (by decide) ?_
  refine fs_iconst (n := 0) (v := 0) dd_X12_laysHarvests_7 (by decide) ?_
  refine fs_callV (y := m_X12_yearWith) (as := [.int (-1), .int (-1), .int 0]) dd_X12_laysHarvests_8 me_X12_yearWith lk_X12_493 in_X12_yearWith se_X12_yearWith ca_196 rfl rfl rfl (Nat.le_of_ble_eq_true rfl) (Nat.le_of_ble_eq_true rfl) rfl (V_X12_yearWith (by omega)  H) (k2_V fun s4 H => ?_)
  refine fs_iconst (n := 0) (v := 0) dd_X12_laysHarvests_11 (by decide) ?_
  refine fs_istore_n (k0 := 1) (i := 1) dd_X12_laysHarvests_12 rfl (by decide) ?_
  refine fs_weak (ls2 := [.ref 196, .int 0, fz_J, fz_J]) (fz_le_e (fz_le_e (fz_le_j (fz_le_j fz_le_n)))) ?_
  exact V_lp_X12_laysHarvests_13 hD    2048 H
theorem dd_X12_gainOf_0 : decode m_X12_gainOf.2.1 0 = .ok (.aload_n 0, 1) := by decide +kernel
theorem dd_X12_gainOf_1 : decode m_X12_gainOf.2.1 1 = .ok (.getfield 133, 3) := by decide +kernel
theorem dd_X12_gainOf_4 : decode m_X12_gainOf.2.1 4 = .ok (.bipush 16, 2) := by decide +kernel
theorem dd_X12_gainOf_6 : decode m_X12_gainOf.2.1 6 = .ok (.iload_n 1, 1) := by decide +kernel
theorem dd_X12_gainOf_7 : decode m_X12_gainOf.2.1 7 = .ok (.imul, 1) := by decide +kernel
theorem dd_X12_gainOf_8 : decode m_X12_gainOf.2.1 8 = .ok (.iconst 2, 1) := by decide +kernel
theorem dd_X12_gainOf_9 : decode m_X12_gainOf.2.1 9 = .ok (.iload_n 2, 1) := by decide +kernel
theorem dd_X12_gainOf_10 : decode m_X12_gainOf.2.1 10 = .ok (.imul, 1) := by decide +kernel
theorem dd_X12_gainOf_11 : decode m_X12_gainOf.2.1 11 = .ok (.iadd, 1) := by decide +kernel
theorem dd_X12_gainOf_12 : decode m_X12_gainOf.2.1 12 = .ok (.iload_n 3, 1) := by decide +kernel
theorem dd_X12_gainOf_13 : decode m_X12_gainOf.2.1 13 = .ok (.iadd, 1) := by decide +kernel
theorem dd_X12_gainOf_14 : decode m_X12_gainOf.2.1 14 = .ok (.iaload, 1) := by decide +kernel
theorem dd_X12_gainOf_15 : decode m_X12_gainOf.2.1 15 = .ok (.aload_n 0, 1) := by decide +kernel
theorem dd_X12_gainOf_16 : decode m_X12_gainOf.2.1 16 = .ok (.getfield 136, 3) := by decide +kernel
theorem dd_X12_gainOf_19 : decode m_X12_gainOf.2.1 19 = .ok (.iload_n 3, 1) := by decide +kernel
theorem dd_X12_gainOf_20 : decode m_X12_gainOf.2.1 20 = .ok (.iaload, 1) := by decide +kernel
theorem dd_X12_gainOf_21 : decode m_X12_gainOf.2.1 21 = .ok (.isub, 1) := by decide +kernel
theorem dd_X12_gainOf_22 : decode m_X12_gainOf.2.1 22 = .ok (.ireturn, 1) := by decide +kernel
def wp_X12_gainOf (p0 : Int32) (p1 : Int32) (p2 : Int32) (s : fz_s) (Q : Int32 → fz_s → Prop) : Prop :=
  vp_in (((16 * p0) + (2 * p1)) + p2) 128 ∧ vp_in p2 2 ∧ Q ((s.1 236 (((16 * p0) + (2 * p1)) + p2).toNatClampNeg) - (s.1 237 p2.toNatClampNeg)) s
set_option maxRecDepth 100000 in
set_option maxHeartbeats 4000000 in
theorem V_X12_gainOf {g : fz_G} {l : Launch} {d : Nat} (hD : 0 ≤ d) {p0 : Int32} {p1 : Int32} {p2 : Int32}  {s : fz_s} {Q : Int32 → fz_s → Prop} (H : wp_X12_gainOf p0 p1 p2 s Q) : fs_V g l m_X12_gainOf d false 0 (fz_en [.ref 196, .int p0, .int p1, .int p2] 4) [] s (rI Q) := by
  unfold wp_X12_gainOf at H
  refine fs_aload_n (k0 := 0) (i := 0) dd_X12_gainOf_0 rfl rfl ?_
  refine fs_getr (ci := 12) (j := 61) (q := 236) dd_X12_gainOf_1 fl_X12_133 ca_196 rfl (Or.inr ⟨_, rfl⟩) rfl (by decide) ?_
  refine fs_bipush (n := 16) (v := 16) dd_X12_gainOf_4 (by decide) ?_
  refine fs_iload_n (k0 := 1) (i := 1) dd_X12_gainOf_6 rfl rfl ?_
  refine fs_imul dd_X12_gainOf_7 ?_
  refine fs_iconst (n := 2) (v := 2) dd_X12_gainOf_8 (by decide) ?_
  refine fs_iload_n (k0 := 2) (i := 2) dd_X12_gainOf_9 rfl rfl ?_
  refine fs_imul dd_X12_gainOf_10 ?_
  refine fs_iadd dd_X12_gainOf_11 ?_
  refine fs_iload_n (k0 := 3) (i := 3) dd_X12_gainOf_12 rfl rfl ?_
  refine fs_iadd dd_X12_gainOf_13 ?_
  have hb := H.1
  replace H := H.2
  refine fs_iald dd_X12_gainOf_14 ca_236 hb ?_
  refine fs_aload_n (k0 := 0) (i := 0) dd_X12_gainOf_15 rfl rfl ?_
  refine fs_getr (ci := 12) (j := 62) (q := 237) dd_X12_gainOf_16 fl_X12_136 ca_196 rfl (Or.inr ⟨_, rfl⟩) rfl (by decide) ?_
  refine fs_iload_n (k0 := 3) (i := 3) dd_X12_gainOf_19 rfl rfl ?_
  have hb := H.1
  replace H := H.2
  refine fs_iald dd_X12_gainOf_20 ca_237 hb ?_
  refine fs_isub dd_X12_gainOf_21 ?_
  exact fs_iret dd_X12_gainOf_22 rfl H

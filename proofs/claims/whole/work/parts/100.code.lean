theorem dd_X11_tapeNumber_0 : decode m_X11_tapeNumber.2.1 0 = .ok (.bipush 24, 2) := by decide +kernel
theorem dd_X11_tapeNumber_2 : decode m_X11_tapeNumber.2.1 2 = .ok (.istore_n 2, 1) := by decide +kernel
theorem dd_X11_tapeNumber_3 : decode m_X11_tapeNumber.2.1 3 = .ok (.iload_n 2, 1) := by decide +kernel
theorem dd_X11_tapeNumber_4 : decode m_X11_tapeNumber.2.1 4 = .ok (.ifCond .lt 45, 3) := by decide +kernel
theorem dd_X11_tapeNumber_7 : decode m_X11_tapeNumber.2.1 7 = .ok (.aload_n 0, 1) := by decide +kernel
theorem dd_X11_tapeNumber_8 : decode m_X11_tapeNumber.2.1 8 = .ok (.getfield 115, 3) := by decide +kernel
theorem dd_X11_tapeNumber_11 : decode m_X11_tapeNumber.2.1 11 = .ok (.sipush 1600, 3) := by decide +kernel
theorem dd_X11_tapeNumber_14 : decode m_X11_tapeNumber.2.1 14 = .ok (.if_icmp .ge 35, 3) := by decide +kernel
theorem dd_X11_tapeNumber_17 : decode m_X11_tapeNumber.2.1 17 = .ok (.aload_n 0, 1) := by decide +kernel
theorem dd_X11_tapeNumber_18 : decode m_X11_tapeNumber.2.1 18 = .ok (.getfield 9, 3) := by decide +kernel
theorem dd_X11_tapeNumber_21 : decode m_X11_tapeNumber.2.1 21 = .ok (.aload_n 0, 1) := by decide +kernel
theorem dd_X11_tapeNumber_22 : decode m_X11_tapeNumber.2.1 22 = .ok (.getfield 115, 3) := by decide +kernel
theorem dd_X11_tapeNumber_25 : decode m_X11_tapeNumber.2.1 25 = .ok (.iload_n 1, 1) := by decide +kernel
theorem dd_X11_tapeNumber_26 : decode m_X11_tapeNumber.2.1 26 = .ok (.iload_n 2, 1) := by decide +kernel
theorem dd_X11_tapeNumber_27 : decode m_X11_tapeNumber.2.1 27 = .ok (.iushr, 1) := by decide +kernel
theorem dd_X11_tapeNumber_28 : decode m_X11_tapeNumber.2.1 28 = .ok (.sipush 255, 3) := by decide +kernel
theorem dd_X11_tapeNumber_31 : decode m_X11_tapeNumber.2.1 31 = .ok (.iand, 1) := by decide +kernel
theorem dd_X11_tapeNumber_32 : decode m_X11_tapeNumber.2.1 32 = .ok (.iastore, 1) := by decide +kernel
theorem dd_X11_tapeNumber_33 : decode m_X11_tapeNumber.2.1 33 = .ok (.aload_n 0, 1) := by decide +kernel
theorem dd_X11_tapeNumber_34 : decode m_X11_tapeNumber.2.1 34 = .ok (.dup, 1) := by decide +kernel
theorem dd_X11_tapeNumber_35 : decode m_X11_tapeNumber.2.1 35 = .ok (.getfield 115, 3) := by decide +kernel
theorem dd_X11_tapeNumber_38 : decode m_X11_tapeNumber.2.1 38 = .ok (.iconst 1, 1) := by decide +kernel
theorem dd_X11_tapeNumber_39 : decode m_X11_tapeNumber.2.1 39 = .ok (.iadd, 1) := by decide +kernel
theorem dd_X11_tapeNumber_40 : decode m_X11_tapeNumber.2.1 40 = .ok (.putfield 115, 3) := by decide +kernel
theorem dd_X11_tapeNumber_43 : decode m_X11_tapeNumber.2.1 43 = .ok (.iinc 2 (-8), 3) := by decide +kernel
theorem dd_X11_tapeNumber_46 : decode m_X11_tapeNumber.2.1 46 = .ok (.goto (-43), 3) := by decide +kernel
theorem dd_X11_tapeNumber_49 : decode m_X11_tapeNumber.2.1 49 = .ok (.return_, 1) := by decide +kernel
def nd_X11_tapeNumber_3  (K3 : Int32 → Int32 → fz_s → Prop) (Q : fz_s → Prop) (v1 : Int32) (v2 : Int32) (s : fz_s) : Prop :=
  ((v2 < 0 → Q s) ∧ (¬ v2 < 0 → ((1600 ≤ (s.1 2 1) → Q s) ∧ (¬ 1600 ≤ (s.1 2 1) → vp_in (s.1 2 1) 1600 ∧ ∀ s1 : fz_s, s1 = si s 3 (s.1 2 1).toNatClampNeg (((v1.toUInt32 >>> (v2.toUInt32 &&& Int32.toUInt32 31)).toInt32) &&& 255) → ∀ s2 : fz_s, s2 = si s1 2 1 ((s1.1 2 1) + 1) → ∀ x3 : Int32, x3 = v2 + (-8) → K3 v1 x3 s2))))
def lp_X11_tapeNumber_3   (Q : fz_s → Prop) : Nat → Int32 → Int32 → fz_s → Prop
  | 0 => fun _ _ _ => False
  | n + 1 => nd_X11_tapeNumber_3  (lp_X11_tapeNumber_3   Q n) Q
def wp_X11_tapeNumber (p0 : Int32) (s : fz_s) (Q : fz_s → Prop) : Prop :=
  lp_X11_tapeNumber_3   Q 2048 p0 24 s
set_option maxRecDepth 100000 in
set_option maxHeartbeats 4000000 in
theorem V_nd_X11_tapeNumber_3 {g : fz_G} {l : Launch} {d : Nat} (hD : 0 ≤ d)   {K3 : Int32 → Int32 → fz_s → Prop} {Q : fz_s → Prop} {v1 : Int32} {v2 : Int32} {s : fz_s} (hK3 : ∀ {v1 : Int32} {v2 : Int32} {s : fz_s}, K3 v1 v2 s → fs_V g l m_X11_tapeNumber d true 3 [.ref 2, .int v1, .int v2] [] s (rV Q)) (H : nd_X11_tapeNumber_3  K3 Q v1 v2 s) : fs_V g l m_X11_tapeNumber d true 3 [.ref 2, .int v1, .int v2] [] s (rV Q) := by
  unfold nd_X11_tapeNumber_3 at H
  refine fs_iload_n (k0 := 2) (i := 2) dd_X11_tapeNumber_3 rfl rfl ?_
  refine fs_if_lt (tgt := 49) dd_X11_tapeNumber_4 (by decide) (fun hc => ?_) (fun hc => ?_)
  · replace H := H.1 hc
    exact fs_vret dd_X11_tapeNumber_49 rfl H
  · replace H := H.2 hc
    refine fs_aload_n (k0 := 0) (i := 0) dd_X11_tapeNumber_7 rfl rfl ?_
    refine fs_geti (ci := 11) (j := 1) dd_X11_tapeNumber_8 fl_X11_115 ca_2 rfl (Or.inl rfl) ?_
    refine fs_sipush (n := 1600) (v := 1600) dd_X11_tapeNumber_11 (by decide) ?_
    refine fs_icmp_ge (tgt := 49) dd_X11_tapeNumber_14 (by decide) (fun hc => ?_) (fun hc => ?_)
    · replace H := H.1 hc
      exact fs_vret dd_X11_tapeNumber_49 rfl H
    · replace H := H.2 hc
      refine fs_aload_n (k0 := 0) (i := 0) dd_X11_tapeNumber_17 rfl rfl ?_
      refine fs_getr (ci := 11) (j := 0) (q := 3) dd_X11_tapeNumber_18 fl_X11_9 ca_2 rfl (Or.inr ⟨_, rfl⟩) rfl (by decide) ?_
      refine fs_aload_n (k0 := 0) (i := 0) dd_X11_tapeNumber_21 rfl rfl ?_
      refine fs_geti (ci := 11) (j := 1) dd_X11_tapeNumber_22 fl_X11_115 ca_2 rfl (Or.inl rfl) ?_
      refine fs_iload_n (k0 := 1) (i := 1) dd_X11_tapeNumber_25 rfl rfl ?_
      refine fs_iload_n (k0 := 2) (i := 2) dd_X11_tapeNumber_26 rfl rfl ?_
      refine fs_iushr dd_X11_tapeNumber_27 ?_
      refine fs_sipush (n := 255) (v := 255) dd_X11_tapeNumber_28 (by decide) ?_
      refine fs_iand dd_X11_tapeNumber_31 ?_
      have hb := H.1
      replace H := H.2
      refine fs_iast dd_X11_tapeNumber_32 ca_3 hb ?_
      refine fs_tops (fun s1 hs1 => ?_)
      replace H := H s1 hs1
      refine fs_aload_n (k0 := 0) (i := 0) dd_X11_tapeNumber_33 rfl rfl ?_
      refine fs_dup dd_X11_tapeNumber_34 rfl ?_
      refine fs_geti (ci := 11) (j := 1) dd_X11_tapeNumber_35 fl_X11_115 ca_2 rfl (Or.inl rfl) ?_
      refine fs_iconst (n := 1) (v := 1) dd_X11_tapeNumber_38 (by decide) ?_
      refine fs_iadd dd_X11_tapeNumber_39 ?_
      refine fs_puti (ci := 11) (j := 1) dd_X11_tapeNumber_40 fl_X11_115 (fun _ _ _ h => by cases h; rfl) ca_2 rfl (Or.inl rfl) ?_
      refine fs_tops (fun s2 hs2 => ?_)
      replace H := H s2 hs2
      refine fs_iincN (i := 2) (m := -8) (c := -8) dd_X11_tapeNumber_43 rfl (by decide) (by decide) (fun x3 hx3 => ?_)
      replace H := H x3 hx3
      refine fs_goto (tgt := 3) dd_X11_tapeNumber_46 (by decide) ?_
      refine fs_weak (ls2 := [.ref 2, .int v1, .int x3]) (fz_le_e (fz_le_e (fz_le_e fz_le_n))) ?_
      exact hK3 H
set_option maxRecDepth 100000 in
set_option maxHeartbeats 4000000 in
theorem V_lp_X11_tapeNumber_3 {g : fz_G} {l : Launch} {d : Nat} (hD : 0 ≤ d)    {Q : fz_s → Prop}  (n : Nat) : ∀ {v1 : Int32} {v2 : Int32} {s : fz_s}, lp_X11_tapeNumber_3   Q n v1 v2 s → fs_V g l m_X11_tapeNumber d true 3 [.ref 2, .int v1, .int v2] [] s (rV Q) := by
  induction n with
  | zero => intro v1 v2 s H; exact H.elim
  | succ n ih => intro v1 v2 s H; exact V_nd_X11_tapeNumber_3 hD  (fun H => ih H) H
set_option maxRecDepth 100000 in
set_option maxHeartbeats 4000000 in
theorem V_X11_tapeNumber {g : fz_G} {l : Launch} {d : Nat} (hD : 0 ≤ d) {p0 : Int32}  {s : fz_s} {Q : fz_s → Prop} (H : wp_X11_tapeNumber p0 s Q) : fs_V g l m_X11_tapeNumber d true 0 (fz_en [.ref 2, .int p0] 3) [] s (rV Q) := by
  unfold wp_X11_tapeNumber at H
  refine fs_bipush (n := 24) (v := 24) dd_X11_tapeNumber_0 (by decide) ?_
  refine fs_istore_n (k0 := 2) (i := 2) dd_X11_tapeNumber_2 rfl (by decide) ?_
  refine fs_weak (ls2 := [.ref 2, .int p0, .int 24]) (fz_le_e (fz_le_e (fz_le_e fz_le_n))) ?_
  exact V_lp_X11_tapeNumber_3 hD    2048 H
theorem dd_X11_refuse_0 : decode m_X11_refuse.2.1 0 = .ok (.aload_n 0, 1) := by decide +kernel
theorem dd_X11_refuse_1 : decode m_X11_refuse.2.1 1 = .ok (.getfield 105, 3) := by decide +kernel
theorem dd_X11_refuse_4 : decode m_X11_refuse.2.1 4 = .ok (.iload_n 1, 1) := by decide +kernel
theorem dd_X11_refuse_5 : decode m_X11_refuse.2.1 5 = .ok (.dup2, 1) := by decide +kernel
theorem dd_X11_refuse_6 : decode m_X11_refuse.2.1 6 = .ok (.iaload, 1) := by decide +kernel
theorem dd_X11_refuse_7 : decode m_X11_refuse.2.1 7 = .ok (.iconst 1, 1) := by decide +kernel
theorem dd_X11_refuse_8 : decode m_X11_refuse.2.1 8 = .ok (.iadd, 1) := by decide +kernel
theorem dd_X11_refuse_9 : decode m_X11_refuse.2.1 9 = .ok (.iastore, 1) := by decide +kernel
theorem dd_X11_refuse_10 : decode m_X11_refuse.2.1 10 = .ok (.iconst (-1), 1) := by decide +kernel
theorem dd_X11_refuse_11 : decode m_X11_refuse.2.1 11 = .ok (.ireturn, 1) := by decide +kernel
def wp_X11_refuse (p0 : Int32) (s : fz_s) (Q : Int32 → fz_s → Prop) : Prop :=
  vp_in p0 6 ∧ vp_in p0 6 ∧ ∀ s1 : fz_s, s1 = si s 195 p0.toNatClampNeg ((s.1 195 p0.toNatClampNeg) + 1) → Q (-1) s1
set_option maxRecDepth 100000 in
set_option maxHeartbeats 4000000 in
theorem V_X11_refuse {g : fz_G} {l : Launch} {d : Nat} (hD : 0 ≤ d) {p0 : Int32}  {s : fz_s} {Q : Int32 → fz_s → Prop} (H : wp_X11_refuse p0 s Q) : fs_V g l m_X11_refuse d true 0 (fz_en [.ref 2, .int p0] 2) [] s (rI Q) := by
  unfold wp_X11_refuse at H
  refine fs_aload_n (k0 := 0) (i := 0) dd_X11_refuse_0 rfl rfl ?_
  refine fs_getr (ci := 11) (j := 16) (q := 195) dd_X11_refuse_1 fl_X11_105 ca_2 rfl (Or.inr ⟨_, rfl⟩) rfl (by decide) ?_
  refine fs_iload_n (k0 := 1) (i := 1) dd_X11_refuse_4 rfl rfl ?_
  refine fs_dup2 dd_X11_refuse_5 rfl rfl ?_
  have hb := H.1
  replace H := H.2
  refine fs_iald dd_X11_refuse_6 ca_195 hb ?_
  refine fs_iconst (n := 1) (v := 1) dd_X11_refuse_7 (by decide) ?_
  refine fs_iadd dd_X11_refuse_8 ?_
  have hb := H.1
  replace H := H.2
  refine fs_iast dd_X11_refuse_9 ca_195 hb ?_
  refine fs_tops (fun s1 hs1 => ?_)
  replace H := H s1 hs1
  refine fs_iconst (n := -1) (v := -1) dd_X11_refuse_10 (by decide) ?_
  exact fs_iret dd_X11_refuse_11 rfl H
theorem dd_X11_feed_0 : decode m_X11_feed.2.1 0 = .ok (.aload_n 0, 1) := by decide +kernel
theorem dd_X11_feed_1 : decode m_X11_feed.2.1 1 = .ok (.getfield 115, 3) := by decide +kernel
theorem dd_X11_feed_4 : decode m_X11_feed.2.1 4 = .ok (.bipush 20, 2) := by decide +kernel
theorem dd_X11_feed_6 : decode m_X11_feed.2.1 6 = .ok (.iadd, 1) := by decide +kernel
theorem dd_X11_feed_7 : decode m_X11_feed.2.1 7 = .ok (.sipush 1600, 3) := by decide +kernel
theorem dd_X11_feed_10 : decode m_X11_feed.2.1 10 = .ok (.if_icmp .le 9, 3) := by decide +kernel
theorem dd_X11_feed_13 : decode m_X11_feed.2.1 13 = .ok (.aload_n 0, 1) := by decide +kernel
theorem dd_X11_feed_14 : decode m_X11_feed.2.1 14 = .ok (.iconst 0, 1) := by decide +kernel
theorem dd_X11_feed_15 : decode m_X11_feed.2.1 15 = .ok (.invokevirtual 118, 3) := by decide +kernel
theorem dd_X11_feed_18 : decode m_X11_feed.2.1 18 = .ok (.ireturn, 1) := by decide +kernel
theorem dd_X11_feed_19 : decode m_X11_feed.2.1 19 = .ok (.aload_n 0, 1) := by decide +kernel
theorem dd_X11_feed_20 : decode m_X11_feed.2.1 20 = .ok (.iload_n 1, 1) := by decide +kernel
theorem dd_X11_feed_21 : decode m_X11_feed.2.1 21 = .ok (.invokevirtual 122, 3) := by decide +kernel
theorem dd_X11_feed_24 : decode m_X11_feed.2.1 24 = .ok (.aload_n 0, 1) := by decide +kernel
theorem dd_X11_feed_25 : decode m_X11_feed.2.1 25 = .ok (.iload_n 2, 1) := by decide +kernel
theorem dd_X11_feed_26 : decode m_X11_feed.2.1 26 = .ok (.invokevirtual 122, 3) := by decide +kernel
theorem dd_X11_feed_29 : decode m_X11_feed.2.1 29 = .ok (.aload_n 0, 1) := by decide +kernel
theorem dd_X11_feed_30 : decode m_X11_feed.2.1 30 = .ok (.iload_n 3, 1) := by decide +kernel
theorem dd_X11_feed_31 : decode m_X11_feed.2.1 31 = .ok (.invokevirtual 122, 3) := by decide +kernel
theorem dd_X11_feed_34 : decode m_X11_feed.2.1 34 = .ok (.aload_n 0, 1) := by decide +kernel
theorem dd_X11_feed_35 : decode m_X11_feed.2.1 35 = .ok (.iload 4, 2) := by decide +kernel
theorem dd_X11_feed_37 : decode m_X11_feed.2.1 37 = .ok (.invokevirtual 122, 3) := by decide +kernel
theorem dd_X11_feed_40 : decode m_X11_feed.2.1 40 = .ok (.aload_n 0, 1) := by decide +kernel
theorem dd_X11_feed_41 : decode m_X11_feed.2.1 41 = .ok (.iload 5, 2) := by decide +kernel
theorem dd_X11_feed_43 : decode m_X11_feed.2.1 43 = .ok (.invokevirtual 122, 3) := by decide +kernel
theorem dd_X11_feed_46 : decode m_X11_feed.2.1 46 = .ok (.aload_n 0, 1) := by decide +kernel
theorem dd_X11_feed_47 : decode m_X11_feed.2.1 47 = .ok (.getfield 115, 3) := by decide +kernel
theorem dd_X11_feed_50 : decode m_X11_feed.2.1 50 = .ok (.ireturn, 1) := by decide +kernel
def wp_X11_feed (p0 : Int32) (p1 : Int32) (p2 : Int32) (p3 : Int32) (p4 : Int32) (s : fz_s) (Q : Int32 → fz_s → Prop) : Prop :=
  ((((s.1 2 1) + 20) ≤ 1600 → wp_X11_tapeNumber p0 s (fun s2 => wp_X11_tapeNumber p1 s2 (fun s4 => wp_X11_tapeNumber p2 s4 (fun s6 => wp_X11_tapeNumber p3 s6 (fun s8 => wp_X11_tapeNumber p4 s8 (fun s10 => Q (s10.1 2 1) s10)))))) ∧ (¬ ((s.1 2 1) + 20) ≤ 1600 → wp_X11_refuse 0 s (fun r11 s12 => Q r11 s12)))
set_option maxRecDepth 100000 in
set_option maxHeartbeats 4000000 in
theorem V_X11_feed {g : fz_G} {l : Launch} {d : Nat} (hD : 1 ≤ d) {p0 : Int32} {p1 : Int32} {p2 : Int32} {p3 : Int32} {p4 : Int32}  {s : fz_s} {Q : Int32 → fz_s → Prop} (H : wp_X11_feed p0 p1 p2 p3 p4 s Q) : fs_V g l m_X11_feed d true 0 (fz_en [.ref 2, .int p0, .int p1, .int p2, .int p3, .int p4] 6) [] s (rI Q) := by
  obtain ⟨d, rfl⟩ : ∃ e, d = e + 1 := ⟨d - 1, by omega⟩
  unfold wp_X11_feed at H
  refine fs_aload_n (k0 := 0) (i := 0) dd_X11_feed_0 rfl rfl ?_
  refine fs_geti (ci := 11) (j := 1) dd_X11_feed_1 fl_X11_115 ca_2 rfl (Or.inl rfl) ?_
  refine fs_bipush (n := 20) (v := 20) dd_X11_feed_4 (by decide) ?_
  refine fs_iadd dd_X11_feed_6 ?_
  refine fs_sipush (n := 1600) (v := 1600) dd_X11_feed_7 (by decide) ?_
  refine fs_icmp_le (tgt := 19) dd_X11_feed_10 (by decide) (fun hc => ?_) (fun hc => ?_)
  · replace H := H.1 hc
    refine fs_aload_n (k0 := 0) (i := 0) dd_X11_feed_19 rfl rfl ?_
    refine fs_iload_n (k0 := 1) (i := 1) dd_X11_feed_20 rfl rfl ?_
    refine fs_callV (y := m_X11_tapeNumber) (as := [.int p0]) dd_X11_feed_21 me_X11_tapeNumber lk_X11_122 in_X11_tapeNumber se_X11_tapeNumber ca_2 rfl rfl rfl (Nat.le_of_ble_eq_true rfl) (Nat.le_of_ble_eq_true rfl) rfl (V_X11_tapeNumber (by omega)  H) (k2_V fun s2 H => ?_)
    refine fs_aload_n (k0 := 0) (i := 0) dd_X11_feed_24 rfl rfl ?_
    refine fs_iload_n (k0 := 2) (i := 2) dd_X11_feed_25 rfl rfl ?_
    refine fs_callV (y := m_X11_tapeNumber) (as := [.int p1]) dd_X11_feed_26 me_X11_tapeNumber lk_X11_122 in_X11_tapeNumber se_X11_tapeNumber ca_2 rfl rfl rfl (Nat.le_of_ble_eq_true rfl) (Nat.le_of_ble_eq_true rfl) rfl (V_X11_tapeNumber (by omega)  H) (k2_V fun s4 H => ?_)
    refine fs_aload_n (k0 := 0) (i := 0) dd_X11_feed_29 rfl rfl ?_
    refine fs_iload_n (k0 := 3) (i := 3) dd_X11_feed_30 rfl rfl ?_
    refine fs_callV (y := m_X11_tapeNumber) (as := [.int p2]) dd_X11_feed_31 me_X11_tapeNumber lk_X11_122 in_X11_tapeNumber se_X11_tapeNumber ca_2 rfl rfl rfl (Nat.le_of_ble_eq_true rfl) (Nat.le_of_ble_eq_true rfl) rfl (V_X11_tapeNumber (by omega)  H) (k2_V fun s6 H => ?_)
    refine fs_aload_n (k0 := 0) (i := 0) dd_X11_feed_34 rfl rfl ?_
    refine fs_iload (i := 4) dd_X11_feed_35 rfl ?_
    refine fs_callV (y := m_X11_tapeNumber) (as := [.int p3]) dd_X11_feed_37 me_X11_tapeNumber lk_X11_122 in_X11_tapeNumber se_X11_tapeNumber ca_2 rfl rfl rfl (Nat.le_of_ble_eq_true rfl) (Nat.le_of_ble_eq_true rfl) rfl (V_X11_tapeNumber (by omega)  H) (k2_V fun s8 H => ?_)
    refine fs_aload_n (k0 := 0) (i := 0) dd_X11_feed_40 rfl rfl ?_
    refine fs_iload (i := 5) dd_X11_feed_41 rfl ?_
    refine fs_callV (y := m_X11_tapeNumber) (as := [.int p4]) dd_X11_feed_43 me_X11_tapeNumber lk_X11_122 in_X11_tapeNumber se_X11_tapeNumber ca_2 rfl rfl rfl (Nat.le_of_ble_eq_true rfl) (Nat.le_of_ble_eq_true rfl) rfl (V_X11_tapeNumber (by omega)  H) (k2_V fun s10 H => ?_)
    refine fs_aload_n (k0 := 0) (i := 0) dd_X11_feed_46 rfl rfl ?_
    refine fs_geti (ci := 11) (j := 1) dd_X11_feed_47 fl_X11_115 ca_2 rfl (Or.inl rfl) ?_
    exact fs_iret dd_X11_feed_50 rfl H
  · replace H := H.2 hc
    refine fs_aload_n (k0 := 0) (i := 0) dd_X11_feed_13 rfl rfl ?_
    refine fs_iconst (n := 0) (v := 0) dd_X11_feed_14 (by decide) ?_
    refine fs_callV (y := m_X11_refuse) (as := [.int 0]) dd_X11_feed_15 me_X11_refuse lk_X11_118 in_X11_refuse se_X11_refuse ca_2 rfl rfl rfl (Nat.le_of_ble_eq_true rfl) (Nat.le_of_ble_eq_true rfl) rfl (V_X11_refuse (by omega)  H) (k2_I fun r11 s12 H => ?_)
    exact fs_iret dd_X11_feed_18 rfl H
theorem dd_X11_end_0 : decode m_X11_end.2.1 0 = .ok (.iload_n 1, 1) := by decide +kernel
theorem dd_X11_end_1 : decode m_X11_end.2.1 1 = .ok (.ifCond .lt 11, 3) := by decide +kernel
theorem dd_X11_end_4 : decode m_X11_end.2.1 4 = .ok (.iload_n 1, 1) := by decide +kernel
theorem dd_X11_end_5 : decode m_X11_end.2.1 5 = .ok (.aload_n 0, 1) := by decide +kernel
theorem dd_X11_end_6 : decode m_X11_end.2.1 6 = .ok (.getfield 115, 3) := by decide +kernel
theorem dd_X11_end_9 : decode m_X11_end.2.1 9 = .ok (.if_icmp .le 11, 3) := by decide +kernel
theorem dd_X11_end_12 : decode m_X11_end.2.1 12 = .ok (.aload_n 0, 1) := by decide +kernel
theorem dd_X11_end_13 : decode m_X11_end.2.1 13 = .ok (.iconst 0, 1) := by decide +kernel
theorem dd_X11_end_14 : decode m_X11_end.2.1 14 = .ok (.invokevirtual 118, 3) := by decide +kernel
theorem dd_X11_end_17 : decode m_X11_end.2.1 17 = .ok (.pop, 1) := by decide +kernel
theorem dd_X11_end_18 : decode m_X11_end.2.1 18 = .ok (.iconst 0, 1) := by decide +kernel
theorem dd_X11_end_19 : decode m_X11_end.2.1 19 = .ok (.ireturn, 1) := by decide +kernel
theorem dd_X11_end_20 : decode m_X11_end.2.1 20 = .ok (.aload_n 0, 1) := by decide +kernel
theorem dd_X11_end_21 : decode m_X11_end.2.1 21 = .ok (.iload_n 1, 1) := by decide +kernel
theorem dd_X11_end_22 : decode m_X11_end.2.1 22 = .ok (.putfield 115, 3) := by decide +kernel
theorem dd_X11_end_25 : decode m_X11_end.2.1 25 = .ok (.iconst 1, 1) := by decide +kernel
theorem dd_X11_end_26 : decode m_X11_end.2.1 26 = .ok (.ireturn, 1) := by decide +kernel
def nd_X11_end_12   (Q : Bool → fz_s → Prop)  (s : fz_s) : Prop :=
  wp_X11_refuse 0 s (fun r1 s2 => Q false s2)
def wp_X11_end (p0 : Int32) (s : fz_s) (Q : Bool → fz_s → Prop) : Prop :=
  ((p0 < 0 → nd_X11_end_12   Q  s) ∧ (¬ p0 < 0 → ((p0 ≤ (s.1 2 1) → ∀ s1 : fz_s, s1 = si s 2 1 p0 → Q true s1) ∧ (¬ p0 ≤ (s.1 2 1) → nd_X11_end_12   Q  s))))
set_option maxRecDepth 100000 in
set_option maxHeartbeats 4000000 in
theorem V_nd_X11_end_12 {g : fz_G} {l : Launch} {d : Nat} (hD : 1 ≤ d)    {Q : Bool → fz_s → Prop}  {s : fz_s}  (H : nd_X11_end_12   Q  s) : fs_V g l m_X11_end d true 12 [.ref 2, fz_J] [] s (rZ Q) := by
  obtain ⟨d, rfl⟩ : ∃ e, d = e + 1 := ⟨d - 1, by omega⟩
  unfold nd_X11_end_12 at H
  refine fs_aload_n (k0 := 0) (i := 0) dd_X11_end_12 rfl rfl ?_
  refine fs_iconst (n := 0) (v := 0) dd_X11_end_13 (by decide) ?_
  refine fs_callV (y := m_X11_refuse) (as := [.int 0]) dd_X11_end_14 me_X11_refuse lk_X11_118 in_X11_refuse se_X11_refuse ca_2 rfl rfl rfl (Nat.le_of_ble_eq_true rfl) (Nat.le_of_ble_eq_true rfl) rfl (V_X11_refuse (by omega)  H) (k2_I fun r1 s2 H => ?_)
  refine fs_pop dd_X11_end_17 rfl ?_
  refine fs_iconst (n := 0) (v := 0) dd_X11_end_18 (by decide) ?_
  exact fs_zret false dd_X11_end_19 rfl rfl H
set_option maxRecDepth 100000 in
set_option maxHeartbeats 4000000 in
theorem V_X11_end {g : fz_G} {l : Launch} {d : Nat} (hD : 1 ≤ d) {p0 : Int32}  {s : fz_s} {Q : Bool → fz_s → Prop} (H : wp_X11_end p0 s Q) : fs_V g l m_X11_end d true 0 (fz_en [.ref 2, .int p0] 2) [] s (rZ Q) := by
  obtain ⟨d, rfl⟩ : ∃ e, d = e + 1 := ⟨d - 1, by omega⟩
  unfold wp_X11_end at H
  refine fs_iload_n (k0 := 1) (i := 1) dd_X11_end_0 rfl rfl ?_
  refine fs_if_lt (tgt := 12) dd_X11_end_1 (by decide) (fun hc => ?_) (fun hc => ?_)
  · replace H := H.1 hc
    refine fs_weak (ls2 := [.ref 2, fz_J]) (fz_le_e (fz_le_j fz_le_n)) ?_
    exact V_nd_X11_end_12 hD    H
  · replace H := H.2 hc
    refine fs_iload_n (k0 := 1) (i := 1) dd_X11_end_4 rfl rfl ?_
    refine fs_aload_n (k0 := 0) (i := 0) dd_X11_end_5 rfl rfl ?_
    refine fs_geti (ci := 11) (j := 1) dd_X11_end_6 fl_X11_115 ca_2 rfl (Or.inl rfl) ?_
    refine fs_icmp_le (tgt := 20) dd_X11_end_9 (by decide) (fun hc => ?_) (fun hc => ?_)
    · replace H := H.1 hc
      refine fs_aload_n (k0 := 0) (i := 0) dd_X11_end_20 rfl rfl ?_
      refine fs_iload_n (k0 := 1) (i := 1) dd_X11_end_21 rfl rfl ?_
      refine fs_puti (ci := 11) (j := 1) dd_X11_end_22 fl_X11_115 (fun _ _ _ h => by cases h; rfl) ca_2 rfl (Or.inl rfl) ?_
      refine fs_tops (fun s1 hs1 => ?_)
      replace H := H s1 hs1
      refine fs_iconst (n := 1) (v := 1) dd_X11_end_25 (by decide) ?_
      exact fs_zret true dd_X11_end_26 rfl rfl H
    · replace H := H.2 hc
      refine fs_weak (ls2 := [.ref 2, fz_J]) (fz_le_e (fz_le_j fz_le_n)) ?_
      exact V_nd_X11_end_12 hD    H
theorem dd_X8_runEnd_0 : decode m_X8_runEnd.2.1 0 = .ok (.iload_n 1, 1) := by decide +kernel
theorem dd_X8_runEnd_1 : decode m_X8_runEnd.2.1 1 = .ok (.istore 5, 2) := by decide +kernel
theorem dd_X8_runEnd_3 : decode m_X8_runEnd.2.1 3 = .ok (.iload 5, 2) := by decide +kernel
theorem dd_X8_runEnd_5 : decode m_X8_runEnd.2.1 5 = .ok (.aload_n 0, 1) := by decide +kernel
theorem dd_X8_runEnd_6 : decode m_X8_runEnd.2.1 6 = .ok (.getfield 24, 3) := by decide +kernel
theorem dd_X8_runEnd_9 : decode m_X8_runEnd.2.1 9 = .ok (.if_icmp .ge 48, 3) := by decide +kernel
theorem dd_X8_runEnd_12 : decode m_X8_runEnd.2.1 12 = .ok (.aload_n 0, 1) := by decide +kernel
theorem dd_X8_runEnd_13 : decode m_X8_runEnd.2.1 13 = .ok (.getfield 9, 3) := by decide +kernel
theorem dd_X8_runEnd_16 : decode m_X8_runEnd.2.1 16 = .ok (.iload 5, 2) := by decide +kernel
theorem dd_X8_runEnd_18 : decode m_X8_runEnd.2.1 18 = .ok (.iaload, 1) := by decide +kernel
theorem dd_X8_runEnd_19 : decode m_X8_runEnd.2.1 19 = .ok (.iload_n 3, 1) := by decide +kernel
theorem dd_X8_runEnd_20 : decode m_X8_runEnd.2.1 20 = .ok (.if_icmp .lt 15, 3) := by decide +kernel
theorem dd_X8_runEnd_23 : decode m_X8_runEnd.2.1 23 = .ok (.aload_n 0, 1) := by decide +kernel
theorem dd_X8_runEnd_24 : decode m_X8_runEnd.2.1 24 = .ok (.getfield 9, 3) := by decide +kernel
theorem dd_X8_runEnd_27 : decode m_X8_runEnd.2.1 27 = .ok (.iload 5, 2) := by decide +kernel
theorem dd_X8_runEnd_29 : decode m_X8_runEnd.2.1 29 = .ok (.iaload, 1) := by decide +kernel
theorem dd_X8_runEnd_30 : decode m_X8_runEnd.2.1 30 = .ok (.iload 4, 2) := by decide +kernel
theorem dd_X8_runEnd_32 : decode m_X8_runEnd.2.1 32 = .ok (.if_icmp .le 19, 3) := by decide +kernel
theorem dd_X8_runEnd_35 : decode m_X8_runEnd.2.1 35 = .ok (.iload_n 2, 1) := by decide +kernel
theorem dd_X8_runEnd_36 : decode m_X8_runEnd.2.1 36 = .ok (.ifCond .eq 21, 3) := by decide +kernel
theorem dd_X8_runEnd_39 : decode m_X8_runEnd.2.1 39 = .ok (.aload_n 0, 1) := by decide +kernel
theorem dd_X8_runEnd_40 : decode m_X8_runEnd.2.1 40 = .ok (.getfield 9, 3) := by decide +kernel
theorem dd_X8_runEnd_43 : decode m_X8_runEnd.2.1 43 = .ok (.iload 5, 2) := by decide +kernel
theorem dd_X8_runEnd_45 : decode m_X8_runEnd.2.1 45 = .ok (.iaload, 1) := by decide +kernel
theorem dd_X8_runEnd_46 : decode m_X8_runEnd.2.1 46 = .ok (.bipush 10, 2) := by decide +kernel
theorem dd_X8_runEnd_48 : decode m_X8_runEnd.2.1 48 = .ok (.if_icmp .ne 9, 3) := by decide +kernel
theorem dd_X8_runEnd_51 : decode m_X8_runEnd.2.1 51 = .ok (.iinc 5 1, 3) := by decide +kernel
theorem dd_X8_runEnd_54 : decode m_X8_runEnd.2.1 54 = .ok (.goto (-51), 3) := by decide +kernel
theorem dd_X8_runEnd_57 : decode m_X8_runEnd.2.1 57 = .ok (.iload 5, 2) := by decide +kernel
theorem dd_X8_runEnd_59 : decode m_X8_runEnd.2.1 59 = .ok (.ireturn, 1) := by decide +kernel
def nd_X8_runEnd_35  (K3 : Bool → Int32 → Int32 → Int32 → fz_s → Prop) (Q : Int32 → fz_s → Prop) (v2 : Bool) (v3 : Int32) (v4 : Int32) (v5 : Int32) (s : fz_s) : Prop :=
  ((v2 = false → Q v5 s) ∧ (v2 = true → vp_in v5 1600 ∧ ((¬ (s.1 3 v5.toNatClampNeg) = 10 → Q v5 s) ∧ ((s.1 3 v5.toNatClampNeg) = 10 → ∀ x1 : Int32, x1 = v5 + 1 → K3 v2 v3 v4 x1 s))))
def nd_X8_runEnd_3  (K3 : Bool → Int32 → Int32 → Int32 → fz_s → Prop) (Q : Int32 → fz_s → Prop) (v2 : Bool) (v3 : Int32) (v4 : Int32) (v5 : Int32) (s : fz_s) : Prop :=
  (((s.1 4 1) ≤ v5 → Q v5 s) ∧ (¬ (s.1 4 1) ≤ v5 → vp_in v5 1600 ∧ (((s.1 3 v5.toNatClampNeg) < v3 → nd_X8_runEnd_35  K3 Q v2 v3 v4 v5 s) ∧ (¬ (s.1 3 v5.toNatClampNeg) < v3 → vp_in v5 1600 ∧ (((s.1 3 v5.toNatClampNeg) ≤ v4 → ∀ x1 : Int32, x1 = v5 + 1 → K3 v2 v3 v4 x1 s) ∧ (¬ (s.1 3 v5.toNatClampNeg) ≤ v4 → nd_X8_runEnd_35  K3 Q v2 v3 v4 v5 s))))))
def lp_X8_runEnd_3   (Q : Int32 → fz_s → Prop) : Nat → Bool → Int32 → Int32 → Int32 → fz_s → Prop
  | 0 => fun _ _ _ _ _ => False
  | n + 1 => nd_X8_runEnd_3  (lp_X8_runEnd_3   Q n) Q
def wp_X8_runEnd (p0 : Int32) (p1 : Bool) (p2 : Int32) (p3 : Int32) (s : fz_s) (Q : Int32 → fz_s → Prop) : Prop :=
  lp_X8_runEnd_3   Q 2048 p1 p2 p3 p0 s
set_option maxRecDepth 100000 in
set_option maxHeartbeats 4000000 in
theorem V_nd_X8_runEnd_35 {g : fz_G} {l : Launch} {d : Nat} (hD : 0 ≤ d)   {K3 : Bool → Int32 → Int32 → Int32 → fz_s → Prop} {Q : Int32 → fz_s → Prop} {v2 : Bool} {v3 : Int32} {v4 : Int32} {v5 : Int32} {s : fz_s} (hK3 : ∀ {v2 : Bool} {v3 : Int32} {v4 : Int32} {v5 : Int32} {s : fz_s}, K3 v2 v3 v4 v5 s → fs_V g l m_X8_runEnd d true 3 [.ref 4, fz_J, .int (bi v2), .int v3, .int v4, .int v5] [] s (rI Q)) (H : nd_X8_runEnd_35  K3 Q v2 v3 v4 v5 s) : fs_V g l m_X8_runEnd d true 35 [.ref 4, fz_J, .int (bi v2), .int v3, .int v4, .int v5] [] s (rI Q) := by
  unfold nd_X8_runEnd_35 at H
  refine fs_iload_n (k0 := 2) (i := 2) dd_X8_runEnd_35 rfl rfl ?_
  refine fs_if_eq (tgt := 57) dd_X8_runEnd_36 (by decide) (fun hc => ?_) (fun hc => ?_)
  · replace H := H.1 (bi_0 hc)
    refine fs_iload (i := 5) dd_X8_runEnd_57 rfl ?_
    exact fs_iret dd_X8_runEnd_59 rfl H
  · replace H := H.2 (bi_1 hc)
    refine fs_aload_n (k0 := 0) (i := 0) dd_X8_runEnd_39 rfl rfl ?_
    refine fs_getr (ci := 8) (j := 0) (q := 3) dd_X8_runEnd_40 fl_X8_9 ca_4 rfl (Or.inr ⟨_, rfl⟩) rfl (by decide) ?_
    refine fs_iload (i := 5) dd_X8_runEnd_43 rfl ?_
    have hb := H.1
    replace H := H.2
    refine fs_iald dd_X8_runEnd_45 ca_3 hb ?_
    refine fs_bipush (n := 10) (v := 10) dd_X8_runEnd_46 (by decide) ?_
    refine fs_icmp_ne (tgt := 57) dd_X8_runEnd_48 (by decide) (fun hc => ?_) (fun hc => ?_)
    · replace H := H.1 hc
      refine fs_iload (i := 5) dd_X8_runEnd_57 rfl ?_
      exact fs_iret dd_X8_runEnd_59 rfl H
    · replace H := H.2 hc
      refine fs_iincN (i := 5) (m := 1) (c := 1) dd_X8_runEnd_51 rfl (by decide) (by decide) (fun x1 hx1 => ?_)
      replace H := H x1 hx1
      refine fs_goto (tgt := 3) dd_X8_runEnd_54 (by decide) ?_
      refine fs_weak (ls2 := [.ref 4, fz_J, .int (bi v2), .int v3, .int v4, .int x1]) (fz_le_e (fz_le_j (fz_le_e (fz_le_e (fz_le_e (fz_le_e fz_le_n)))))) ?_
      exact hK3 H
set_option maxRecDepth 100000 in
set_option maxHeartbeats 4000000 in
theorem V_nd_X8_runEnd_3 {g : fz_G} {l : Launch} {d : Nat} (hD : 0 ≤ d)   {K3 : Bool → Int32 → Int32 → Int32 → fz_s → Prop} {Q : Int32 → fz_s → Prop} {v2 : Bool} {v3 : Int32} {v4 : Int32} {v5 : Int32} {s : fz_s} (hK3 : ∀ {v2 : Bool} {v3 : Int32} {v4 : Int32} {v5 : Int32} {s : fz_s}, K3 v2 v3 v4 v5 s → fs_V g l m_X8_runEnd d true 3 [.ref 4, fz_J, .int (bi v2), .int v3, .int v4, .int v5] [] s (rI Q)) (H : nd_X8_runEnd_3  K3 Q v2 v3 v4 v5 s) : fs_V g l m_X8_runEnd d true 3 [.ref 4, fz_J, .int (bi v2), .int v3, .int v4, .int v5] [] s (rI Q) := by
  unfold nd_X8_runEnd_3 at H
  refine fs_iload (i := 5) dd_X8_runEnd_3 rfl ?_
  refine fs_aload_n (k0 := 0) (i := 0) dd_X8_runEnd_5 rfl rfl ?_
  refine fs_geti (ci := 8) (j := 1) dd_X8_runEnd_6 fl_X8_24 ca_4 rfl (Or.inl rfl) ?_
  refine fs_icmp_ge (tgt := 57) dd_X8_runEnd_9 (by decide) (fun hc => ?_) (fun hc => ?_)
  · replace H := H.1 hc
    refine fs_iload (i := 5) dd_X8_runEnd_57 rfl ?_
    exact fs_iret dd_X8_runEnd_59 rfl H
  · replace H := H.2 hc
    refine fs_aload_n (k0 := 0) (i := 0) dd_X8_runEnd_12 rfl rfl ?_
    refine fs_getr (ci := 8) (j := 0) (q := 3) dd_X8_runEnd_13 fl_X8_9 ca_4 rfl (Or.inr ⟨_, rfl⟩) rfl (by decide) ?_
    refine fs_iload (i := 5) dd_X8_runEnd_16 rfl ?_
    have hb := H.1
    replace H := H.2
    refine fs_iald dd_X8_runEnd_18 ca_3 hb ?_
    refine fs_iload_n (k0 := 3) (i := 3) dd_X8_runEnd_19 rfl rfl ?_
    refine fs_icmp_lt (tgt := 35) dd_X8_runEnd_20 (by decide) (fun hc => ?_) (fun hc => ?_)
    · replace H := H.1 hc
      refine fs_weak (ls2 := [.ref 4, fz_J, .int (bi v2), .int v3, .int v4, .int v5]) (fz_le_e (fz_le_j (fz_le_e (fz_le_e (fz_le_e (fz_le_e fz_le_n)))))) ?_
      exact V_nd_X8_runEnd_35 hD   hK3 H
    · replace H := H.2 hc
      refine fs_aload_n (k0 := 0) (i := 0) dd_X8_runEnd_23 rfl rfl ?_
      refine fs_getr (ci := 8) (j := 0) (q := 3) dd_X8_runEnd_24 fl_X8_9 ca_4 rfl (Or.inr ⟨_, rfl⟩) rfl (by decide) ?_
      refine fs_iload (i := 5) dd_X8_runEnd_27 rfl ?_
      have hb := H.1
      replace H := H.2
      refine fs_iald dd_X8_runEnd_29 ca_3 hb ?_
      refine fs_iload (i := 4) dd_X8_runEnd_30 rfl ?_
      refine fs_icmp_le (tgt := 51) dd_X8_runEnd_32 (by decide) (fun hc => ?_) (fun hc => ?_)
      · replace H := H.1 hc
        refine fs_iincN (i := 5) (m := 1) (c := 1) dd_X8_runEnd_51 rfl (by decide) (by decide) (fun x1 hx1 => ?_)
        replace H := H x1 hx1
        refine fs_goto (tgt := 3) dd_X8_runEnd_54 (by decide) ?_
        refine fs_weak (ls2 := [.ref 4, fz_J, .int (bi v2), .int v3, .int v4, .int x1]) (fz_le_e (fz_le_j (fz_le_e (fz_le_e (fz_le_e (fz_le_e fz_le_n)))))) ?_
        exact hK3 H
      · replace H := H.2 hc
        refine fs_weak (ls2 := [.ref 4, fz_J, .int (bi v2), .int v3, .int v4, .int v5]) (fz_le_e (fz_le_j (fz_le_e (fz_le_e (fz_le_e (fz_le_e fz_le_n)))))) ?_
        exact V_nd_X8_runEnd_35 hD   hK3 H
set_option maxRecDepth 100000 in
set_option maxHeartbeats 4000000 in
theorem V_lp_X8_runEnd_3 {g : fz_G} {l : Launch} {d : Nat} (hD : 0 ≤ d)    {Q : Int32 → fz_s → Prop}  (n : Nat) : ∀ {v2 : Bool} {v3 : Int32} {v4 : Int32} {v5 : Int32} {s : fz_s}, lp_X8_runEnd_3   Q n v2 v3 v4 v5 s → fs_V g l m_X8_runEnd d true 3 [.ref 4, fz_J, .int (bi v2), .int v3, .int v4, .int v5] [] s (rI Q) := by
  induction n with
  | zero => intro v2 v3 v4 v5 s H; exact H.elim
  | succ n ih => intro v2 v3 v4 v5 s H; exact V_nd_X8_runEnd_3 hD  (fun H => ih H) H
set_option maxRecDepth 100000 in
set_option maxHeartbeats 4000000 in
theorem V_X8_runEnd {g : fz_G} {l : Launch} {d : Nat} (hD : 0 ≤ d) {p0 : Int32} {p1 : Bool} {p2 : Int32} {p3 : Int32}  {s : fz_s} {Q : Int32 → fz_s → Prop} (H : wp_X8_runEnd p0 p1 p2 p3 s Q) : fs_V g l m_X8_runEnd d true 0 (fz_en [.ref 4, .int p0, .int (bi p1), .int p2, .int p3] 6) [] s (rI Q) := by
  unfold wp_X8_runEnd at H
  refine fs_iload_n (k0 := 1) (i := 1) dd_X8_runEnd_0 rfl rfl ?_
  refine fs_istore (i := 5) dd_X8_runEnd_1 (by decide) ?_
  refine fs_weak (ls2 := [.ref 4, fz_J, .int (bi p1), .int p2, .int p3, .int p0]) (fz_le_e (fz_le_j (fz_le_e (fz_le_e (fz_le_e (fz_le_e fz_le_n)))))) ?_
  exact V_lp_X8_runEnd_3 hD    2048 H
theorem dd_X9_clear_0 : decode m_X9_clear.2.1 0 = .ok (.aload_n 0, 1) := by decide +kernel
theorem dd_X9_clear_1 : decode m_X9_clear.2.1 1 = .ok (.iconst 0, 1) := by decide +kernel
theorem dd_X9_clear_2 : decode m_X9_clear.2.1 2 = .ok (.putfield 52, 3) := by decide +kernel
theorem dd_X9_clear_5 : decode m_X9_clear.2.1 5 = .ok (.aload_n 0, 1) := by decide +kernel
theorem dd_X9_clear_6 : decode m_X9_clear.2.1 6 = .ok (.iconst 0, 1) := by decide +kernel
theorem dd_X9_clear_7 : decode m_X9_clear.2.1 7 = .ok (.putfield 55, 3) := by decide +kernel
theorem dd_X9_clear_10 : decode m_X9_clear.2.1 10 = .ok (.aload_n 0, 1) := by decide +kernel
theorem dd_X9_clear_11 : decode m_X9_clear.2.1 11 = .ok (.iconst 0, 1) := by decide +kernel
theorem dd_X9_clear_12 : decode m_X9_clear.2.1 12 = .ok (.putfield 58, 3) := by decide +kernel
theorem dd_X9_clear_15 : decode m_X9_clear.2.1 15 = .ok (.aload_n 0, 1) := by decide +kernel
theorem dd_X9_clear_16 : decode m_X9_clear.2.1 16 = .ok (.iconst 0, 1) := by decide +kernel
theorem dd_X9_clear_17 : decode m_X9_clear.2.1 17 = .ok (.putfield 61, 3) := by decide +kernel
theorem dd_X9_clear_20 : decode m_X9_clear.2.1 20 = .ok (.aload_n 0, 1) := by decide +kernel
theorem dd_X9_clear_21 : decode m_X9_clear.2.1 21 = .ok (.iconst 0, 1) := by decide +kernel
theorem dd_X9_clear_22 : decode m_X9_clear.2.1 22 = .ok (.putfield 48, 3) := by decide +kernel
theorem dd_X9_clear_25 : decode m_X9_clear.2.1 25 = .ok (.iconst 0, 1) := by decide +kernel
theorem dd_X9_clear_26 : decode m_X9_clear.2.1 26 = .ok (.istore_n 1, 1) := by decide +kernel
theorem dd_X9_clear_27 : decode m_X9_clear.2.1 27 = .ok (.iload_n 1, 1) := by decide +kernel
theorem dd_X9_clear_28 : decode m_X9_clear.2.1 28 = .ok (.iconst 5, 1) := by decide +kernel
theorem dd_X9_clear_29 : decode m_X9_clear.2.1 29 = .ok (.if_icmp .ge 23, 3) := by decide +kernel
theorem dd_X9_clear_32 : decode m_X9_clear.2.1 32 = .ok (.aload_n 0, 1) := by decide +kernel
theorem dd_X9_clear_33 : decode m_X9_clear.2.1 33 = .ok (.getfield 36, 3) := by decide +kernel
theorem dd_X9_clear_36 : decode m_X9_clear.2.1 36 = .ok (.iload_n 1, 1) := by decide +kernel
theorem dd_X9_clear_37 : decode m_X9_clear.2.1 37 = .ok (.iconst (-1), 1) := by decide +kernel
theorem dd_X9_clear_38 : decode m_X9_clear.2.1 38 = .ok (.iastore, 1) := by decide +kernel
theorem dd_X9_clear_39 : decode m_X9_clear.2.1 39 = .ok (.aload_n 0, 1) := by decide +kernel
theorem dd_X9_clear_40 : decode m_X9_clear.2.1 40 = .ok (.getfield 39, 3) := by decide +kernel
theorem dd_X9_clear_43 : decode m_X9_clear.2.1 43 = .ok (.iload_n 1, 1) := by decide +kernel
theorem dd_X9_clear_44 : decode m_X9_clear.2.1 44 = .ok (.iconst (-1), 1) := by decide +kernel
theorem dd_X9_clear_45 : decode m_X9_clear.2.1 45 = .ok (.iastore, 1) := by decide +kernel
theorem dd_X9_clear_46 : decode m_X9_clear.2.1 46 = .ok (.iinc 1 1, 3) := by decide +kernel
theorem dd_X9_clear_49 : decode m_X9_clear.2.1 49 = .ok (.goto (-22), 3) := by decide +kernel
theorem dd_X9_clear_52 : decode m_X9_clear.2.1 52 = .ok (.return_, 1) := by decide +kernel
def nd_X9_clear_17_27  (K27 : Int32 → fz_s → Prop) (Q : fz_s → Prop) (v1 : Int32) (s : fz_s) : Prop :=
  ((5 ≤ v1 → Q s) ∧ (¬ 5 ≤ v1 → vp_in v1 5 ∧ ∀ s1 : fz_s, s1 = si s 26 v1.toNatClampNeg (-1) → vp_in v1 5 ∧ ∀ s2 : fz_s, s2 = si s1 27 v1.toNatClampNeg (-1) → ∀ x3 : Int32, x3 = v1 + 1 → K27 x3 s2))
def lp_X9_clear_17_27   (Q : fz_s → Prop) : Nat → Int32 → fz_s → Prop
  | 0 => fun _ _ => False
  | n + 1 => nd_X9_clear_17_27  (lp_X9_clear_17_27   Q n) Q
def wp_X9_clear_17  (s : fz_s) (Q : fz_s → Prop) : Prop :=
  ∀ s1 : fz_s, s1 = si s 17 11 0 → ∀ s2 : fz_s, s2 = si s1 17 12 0 → ∀ s3 : fz_s, s3 = si s2 17 13 0 → ∀ s4 : fz_s, s4 = si s3 17 14 0 → ∀ s5 : fz_s, s5 = si s4 17 10 0 → lp_X9_clear_17_27   Q 2048 0 s5
set_option maxRecDepth 100000 in
set_option maxHeartbeats 4000000 in
theorem V_nd_X9_clear_17_27 {g : fz_G} {l : Launch} {d : Nat} (hD : 0 ≤ d)   {K27 : Int32 → fz_s → Prop} {Q : fz_s → Prop} {v1 : Int32} {s : fz_s} (hK27 : ∀ {v1 : Int32} {s : fz_s}, K27 v1 s → fs_V g l m_X9_clear d true 27 [.ref 17, .int v1] [] s (rV Q)) (H : nd_X9_clear_17_27  K27 Q v1 s) : fs_V g l m_X9_clear d true 27 [.ref 17, .int v1] [] s (rV Q) := by
  unfold nd_X9_clear_17_27 at H
  refine fs_iload_n (k0 := 1) (i := 1) dd_X9_clear_27 rfl rfl ?_
  refine fs_iconst (n := 5) (v := 5) dd_X9_clear_28 (by decide) ?_
  refine fs_icmp_ge (tgt := 52) dd_X9_clear_29 (by decide) (fun hc => ?_) (fun hc => ?_)
  · replace H := H.1 hc
    exact fs_vret dd_X9_clear_52 rfl H
  · replace H := H.2 hc
    refine fs_aload_n (k0 := 0) (i := 0) dd_X9_clear_32 rfl rfl ?_
    refine fs_getr (ci := 9) (j := 8) (q := 26) dd_X9_clear_33 fl_X9_36 ca_17 rfl (Or.inr ⟨_, rfl⟩) rfl (by decide) ?_
    refine fs_iload_n (k0 := 1) (i := 1) dd_X9_clear_36 rfl rfl ?_
    refine fs_iconst (n := -1) (v := -1) dd_X9_clear_37 (by decide) ?_
    have hb := H.1
    replace H := H.2
    refine fs_iast dd_X9_clear_38 ca_26 hb ?_
    refine fs_tops (fun s1 hs1 => ?_)
    replace H := H s1 hs1
    refine fs_aload_n (k0 := 0) (i := 0) dd_X9_clear_39 rfl rfl ?_
    refine fs_getr (ci := 9) (j := 9) (q := 27) dd_X9_clear_40 fl_X9_39 ca_17 rfl (Or.inr ⟨_, rfl⟩) rfl (by decide) ?_
    refine fs_iload_n (k0 := 1) (i := 1) dd_X9_clear_43 rfl rfl ?_
    refine fs_iconst (n := -1) (v := -1) dd_X9_clear_44 (by decide) ?_
    have hb := H.1
    replace H := H.2
    refine fs_iast dd_X9_clear_45 ca_27 hb ?_
    refine fs_tops (fun s2 hs2 => ?_)
    replace H := H s2 hs2
    refine fs_iincN (i := 1) (m := 1) (c := 1) dd_X9_clear_46 rfl (by decide) (by decide) (fun x3 hx3 => ?_)
    replace H := H x3 hx3
    refine fs_goto (tgt := 27) dd_X9_clear_49 (by decide) ?_
    refine fs_weak (ls2 := [.ref 17, .int x3]) (fz_le_e (fz_le_e fz_le_n)) ?_
    exact hK27 H
set_option maxRecDepth 100000 in
set_option maxHeartbeats 4000000 in
theorem V_lp_X9_clear_17_27 {g : fz_G} {l : Launch} {d : Nat} (hD : 0 ≤ d)    {Q : fz_s → Prop}  (n : Nat) : ∀ {v1 : Int32} {s : fz_s}, lp_X9_clear_17_27   Q n v1 s → fs_V g l m_X9_clear d true 27 [.ref 17, .int v1] [] s (rV Q) := by
  induction n with
  | zero => intro v1 s H; exact H.elim
  | succ n ih => intro v1 s H; exact V_nd_X9_clear_17_27 hD  (fun H => ih H) H
set_option maxRecDepth 100000 in
set_option maxHeartbeats 4000000 in
theorem V_X9_clear_17 {g : fz_G} {l : Launch} {d : Nat} (hD : 0 ≤ d)   {s : fz_s} {Q : fz_s → Prop} (H : wp_X9_clear_17  s Q) : fs_V g l m_X9_clear d true 0 (fz_en [.ref 17] 2) [] s (rV Q) := by
  unfold wp_X9_clear_17 at H
  refine fs_aload_n (k0 := 0) (i := 0) dd_X9_clear_0 rfl rfl ?_
  refine fs_iconst (n := 0) (v := 0) dd_X9_clear_1 (by decide) ?_
  refine fs_puti (ci := 9) (j := 11) dd_X9_clear_2 fl_X9_52 (fun _ _ _ h => by cases h; rfl) ca_17 rfl (Or.inl rfl) ?_
  refine fs_tops (fun s1 hs1 => ?_)
  replace H := H s1 hs1
  refine fs_aload_n (k0 := 0) (i := 0) dd_X9_clear_5 rfl rfl ?_
  refine fs_iconst (n := 0) (v := 0) dd_X9_clear_6 (by decide) ?_
  refine fs_puti (ci := 9) (j := 12) dd_X9_clear_7 fl_X9_55 (fun _ _ _ h => by cases h; rfl) ca_17 rfl (Or.inl rfl) ?_
  refine fs_tops (fun s2 hs2 => ?_)
  replace H := H s2 hs2
  refine fs_aload_n (k0 := 0) (i := 0) dd_X9_clear_10 rfl rfl ?_
  refine fs_iconst (n := 0) (v := 0) dd_X9_clear_11 (by decide) ?_
  refine fs_puti (ci := 9) (j := 13) dd_X9_clear_12 fl_X9_58 (fun _ _ _ h => by cases h; rfl) ca_17 rfl (Or.inl rfl) ?_
  refine fs_tops (fun s3 hs3 => ?_)
  replace H := H s3 hs3
  refine fs_aload_n (k0 := 0) (i := 0) dd_X9_clear_15 rfl rfl ?_
  refine fs_iconst (n := 0) (v := 0) dd_X9_clear_16 (by decide) ?_
  refine fs_puti (ci := 9) (j := 14) dd_X9_clear_17 fl_X9_61 (fun _ _ _ h => by cases h; rfl) ca_17 rfl (Or.inl rfl) ?_
  refine fs_tops (fun s4 hs4 => ?_)
  replace H := H s4 hs4
  refine fs_aload_n (k0 := 0) (i := 0) dd_X9_clear_20 rfl rfl ?_
  refine fs_iconst (n := 0) (v := 0) dd_X9_clear_21 (by decide) ?_
  refine fs_puti (ci := 9) (j := 10) dd_X9_clear_22 fl_X9_48 (fun _ _ _ h => by cases h; rfl) ca_17 rfl (Or.inl rfl) ?_
  refine fs_tops (fun s5 hs5 => ?_)
  replace H := H s5 hs5
  refine fs_iconst (n := 0) (v := 0) dd_X9_clear_25 (by decide) ?_
  refine fs_istore_n (k0 := 1) (i := 1) dd_X9_clear_26 rfl (by decide) ?_
  refine fs_weak (ls2 := [.ref 17, .int 0]) (fz_le_e (fz_le_e fz_le_n)) ?_
  exact V_lp_X9_clear_17_27 hD    2048 H
theorem dd_X8_fail_0 : decode m_X8_fail.2.1 0 = .ok (.aload_n 0, 1) := by decide +kernel
theorem dd_X8_fail_1 : decode m_X8_fail.2.1 1 = .ok (.iload_n 1, 1) := by decide +kernel
theorem dd_X8_fail_2 : decode m_X8_fail.2.1 2 = .ok (.putfield 34, 3) := by decide +kernel
theorem dd_X8_fail_5 : decode m_X8_fail.2.1 5 = .ok (.aload_n 0, 1) := by decide +kernel
theorem dd_X8_fail_6 : decode m_X8_fail.2.1 6 = .ok (.iload_n 2, 1) := by decide +kernel
theorem dd_X8_fail_7 : decode m_X8_fail.2.1 7 = .ok (.putfield 37, 3) := by decide +kernel
theorem dd_X8_fail_10 : decode m_X8_fail.2.1 10 = .ok (.iconst 0, 1) := by decide +kernel
theorem dd_X8_fail_11 : decode m_X8_fail.2.1 11 = .ok (.ireturn, 1) := by decide +kernel
def wp_X8_fail (p0 : Int32) (p1 : Int32) (s : fz_s) (Q : Bool → fz_s → Prop) : Prop :=
  ∀ s1 : fz_s, s1 = si s 4 7 p0 → ∀ s2 : fz_s, s2 = si s1 4 8 p1 → Q false s2
set_option maxRecDepth 100000 in
set_option maxHeartbeats 4000000 in
theorem V_X8_fail {g : fz_G} {l : Launch} {d : Nat} (hD : 0 ≤ d) {p0 : Int32} {p1 : Int32}  {s : fz_s} {Q : Bool → fz_s → Prop} (H : wp_X8_fail p0 p1 s Q) : fs_V g l m_X8_fail d true 0 (fz_en [.ref 4, .int p0, .int p1] 3) [] s (rZ Q) := by
  unfold wp_X8_fail at H
  refine fs_aload_n (k0 := 0) (i := 0) dd_X8_fail_0 rfl rfl ?_
  refine fs_iload_n (k0 := 1) (i := 1) dd_X8_fail_1 rfl rfl ?_
  refine fs_puti (ci := 8) (j := 7) dd_X8_fail_2 fl_X8_34 (fun _ _ _ h => by cases h; rfl) ca_4 rfl (Or.inl rfl) ?_
  refine fs_tops (fun s1 hs1 => ?_)
  replace H := H s1 hs1
  refine fs_aload_n (k0 := 0) (i := 0) dd_X8_fail_5 rfl rfl ?_
  refine fs_iload_n (k0 := 2) (i := 2) dd_X8_fail_6 rfl rfl ?_
  refine fs_puti (ci := 8) (j := 8) dd_X8_fail_7 fl_X8_37 (fun _ _ _ h => by cases h; rfl) ca_4 rfl (Or.inl rfl) ?_
  refine fs_tops (fun s2 hs2 => ?_)
  replace H := H s2 hs2
  refine fs_iconst (n := 0) (v := 0) dd_X8_fail_10 (by decide) ?_
  exact fs_zret false dd_X8_fail_11 rfl rfl H
theorem dd_X2_begin_0 : decode m_X2_begin.2.1 0 = .ok (.aload_n 0, 1) := by decide +kernel
theorem dd_X2_begin_1 : decode m_X2_begin.2.1 1 = .ok (.aload_n 1, 1) := by decide +kernel
theorem dd_X2_begin_2 : decode m_X2_begin.2.1 2 = .ok (.putfield 15, 3) := by decide +kernel
theorem dd_X2_begin_5 : decode m_X2_begin.2.1 5 = .ok (.aload_n 0, 1) := by decide +kernel
theorem dd_X2_begin_6 : decode m_X2_begin.2.1 6 = .ok (.iload_n 2, 1) := by decide +kernel
theorem dd_X2_begin_7 : decode m_X2_begin.2.1 7 = .ok (.putfield 19, 3) := by decide +kernel
theorem dd_X2_begin_10 : decode m_X2_begin.2.1 10 = .ok (.aload_n 0, 1) := by decide +kernel
theorem dd_X2_begin_11 : decode m_X2_begin.2.1 11 = .ok (.iload_n 3, 1) := by decide +kernel
theorem dd_X2_begin_12 : decode m_X2_begin.2.1 12 = .ok (.putfield 23, 3) := by decide +kernel
theorem dd_X2_begin_15 : decode m_X2_begin.2.1 15 = .ok (.aload_n 0, 1) := by decide +kernel
theorem dd_X2_begin_16 : decode m_X2_begin.2.1 16 = .ok (.iload 4, 2) := by decide +kernel
theorem dd_X2_begin_18 : decode m_X2_begin.2.1 18 = .ok (.putfield 26, 3) := by decide +kernel
theorem dd_X2_begin_21 : decode m_X2_begin.2.1 21 = .ok (.return_, 1) := by decide +kernel
def wp_X2_begin (a0 : Nat) (n0 : Nat) (p1 : Int32) (p2 : Int32) (p3 : Bool) (s : fz_s) (Q : fz_s → Prop) : Prop :=
  ∀ s1 : fz_s, s1 = sc s (some a0) → ∀ s2 : fz_s, s2 = si s1 5 4 p1 → ∀ s3 : fz_s, s3 = si s2 5 2 p2 → ∀ s4 : fz_s, s4 = si s3 5 3 (bi p3) → Q s4
set_option maxRecDepth 100000 in
set_option maxHeartbeats 4000000 in
theorem V_X2_begin {g : fz_G} {l : Launch} {d : Nat} (hD : 0 ≤ d) {a0 : Nat} {n0 : Nat} {p1 : Int32} {p2 : Int32} {p3 : Bool} (ha0 : fz_at true a0 14 n0) {s : fz_s} {Q : fz_s → Prop} (H : wp_X2_begin a0 n0 p1 p2 p3 s Q) : fs_V g l m_X2_begin d true 0 (fz_en [.ref 5, .ref a0, .int p1, .int p2, .int (bi p3)] 5) [] s (rV Q) := by
  unfold wp_X2_begin at H
  refine fs_aload_n (k0 := 0) (i := 0) dd_X2_begin_0 rfl rfl ?_
  refine fs_aload_n (k0 := 1) (i := 1) dd_X2_begin_1 rfl rfl ?_
  refine fs_putc dd_X2_begin_2 fl_X2_15 ?_
  refine fs_tops (fun s1 hs1 => ?_)
  replace H := H s1 hs1
  refine fs_aload_n (k0 := 0) (i := 0) dd_X2_begin_5 rfl rfl ?_
  refine fs_iload_n (k0 := 2) (i := 2) dd_X2_begin_6 rfl rfl ?_
  refine fs_puti (ci := 2) (j := 4) dd_X2_begin_7 fl_X2_19 (fun _ _ _ h => by cases h; rfl) ca_5 rfl (Or.inl rfl) ?_
  refine fs_tops (fun s2 hs2 => ?_)
  replace H := H s2 hs2
  refine fs_aload_n (k0 := 0) (i := 0) dd_X2_begin_10 rfl rfl ?_
  refine fs_iload_n (k0 := 3) (i := 3) dd_X2_begin_11 rfl rfl ?_
  refine fs_puti (ci := 2) (j := 2) dd_X2_begin_12 fl_X2_23 (fun _ _ _ h => by cases h; rfl) ca_5 rfl (Or.inl rfl) ?_
  refine fs_tops (fun s3 hs3 => ?_)
  replace H := H s3 hs3
  refine fs_aload_n (k0 := 0) (i := 0) dd_X2_begin_15 rfl rfl ?_
  refine fs_iload (i := 4) dd_X2_begin_16 rfl ?_
  refine fs_puti (ci := 2) (j := 3) dd_X2_begin_18 fl_X2_26 (fun _ _ _ h => by cases h; rfl) ca_5 rfl (Or.inr ⟨rfl, bi_01 _⟩) ?_
  refine fs_tops (fun s4 hs4 => ?_)
  replace H := H s4 hs4
  exact fs_vret dd_X2_begin_21 rfl H
theorem dd_X9_isTest_0 : decode m_X9_isTest.2.1 0 = .ok (.iload_n 0, 1) := by decide +kernel
theorem dd_X9_isTest_1 : decode m_X9_isTest.2.1 1 = .ok (.iconst 1, 1) := by decide +kernel
theorem dd_X9_isTest_2 : decode m_X9_isTest.2.1 2 = .ok (.if_icmp .eq 8, 3) := by decide +kernel
theorem dd_X9_isTest_5 : decode m_X9_isTest.2.1 5 = .ok (.iload_n 0, 1) := by decide +kernel
theorem dd_X9_isTest_6 : decode m_X9_isTest.2.1 6 = .ok (.iconst 4, 1) := by decide +kernel
theorem dd_X9_isTest_7 : decode m_X9_isTest.2.1 7 = .ok (.if_icmp .ne 7, 3) := by decide +kernel
theorem dd_X9_isTest_10 : decode m_X9_isTest.2.1 10 = .ok (.iconst 1, 1) := by decide +kernel
theorem dd_X9_isTest_11 : decode m_X9_isTest.2.1 11 = .ok (.goto 4, 3) := by decide +kernel
theorem dd_X9_isTest_14 : decode m_X9_isTest.2.1 14 = .ok (.iconst 0, 1) := by decide +kernel
theorem dd_X9_isTest_15 : decode m_X9_isTest.2.1 15 = .ok (.ireturn, 1) := by decide +kernel
def wp_X9_isTest (p0 : Int32) (s : fz_s) (Q : Bool → fz_s → Prop) : Prop :=
  ((p0 = 1 → Q true s) ∧ (¬ p0 = 1 → ((¬ p0 = 4 → Q false s) ∧ (p0 = 4 → Q true s))))
set_option maxRecDepth 100000 in
set_option maxHeartbeats 4000000 in
theorem V_X9_isTest {g : fz_G} {l : Launch} {d : Nat} (hD : 0 ≤ d) {p0 : Int32}  {s : fz_s} {Q : Bool → fz_s → Prop} (H : wp_X9_isTest p0 s Q) : fs_V g l m_X9_isTest d true 0 (fz_en [.int p0] 1) [] s (rZ Q) := by
  unfold wp_X9_isTest at H
  refine fs_iload_n (k0 := 0) (i := 0) dd_X9_isTest_0 rfl rfl ?_
  refine fs_iconst (n := 1) (v := 1) dd_X9_isTest_1 (by decide) ?_
  refine fs_icmp_eq (tgt := 10) dd_X9_isTest_2 (by decide) (fun hc => ?_) (fun hc => ?_)
  · replace H := H.1 hc
    refine fs_iconst (n := 1) (v := 1) dd_X9_isTest_10 (by decide) ?_
    refine fs_goto (tgt := 15) dd_X9_isTest_11 (by decide) ?_
    exact fs_zret true dd_X9_isTest_15 rfl rfl H
  · replace H := H.2 hc
    refine fs_iload_n (k0 := 0) (i := 0) dd_X9_isTest_5 rfl rfl ?_
    refine fs_iconst (n := 4) (v := 4) dd_X9_isTest_6 (by decide) ?_
    refine fs_icmp_ne (tgt := 14) dd_X9_isTest_7 (by decide) (fun hc => ?_) (fun hc => ?_)
    · replace H := H.1 hc
      refine fs_iconst (n := 0) (v := 0) dd_X9_isTest_14 (by decide) ?_
      exact fs_zret false dd_X9_isTest_15 rfl rfl H
    · replace H := H.2 hc
      refine fs_iconst (n := 1) (v := 1) dd_X9_isTest_10 (by decide) ?_
      refine fs_goto (tgt := 15) dd_X9_isTest_11 (by decide) ?_
      exact fs_zret true dd_X9_isTest_15 rfl rfl H
theorem dd_X8_isWord_0 : decode m_X8_isWord.2.1 0 = .ok (.aload_n 0, 1) := by decide +kernel
theorem dd_X8_isWord_1 : decode m_X8_isWord.2.1 1 = .ok (.getfield 31, 3) := by decide +kernel
theorem dd_X8_isWord_4 : decode m_X8_isWord.2.1 4 = .ok (.iconst 1, 1) := by decide +kernel
theorem dd_X8_isWord_5 : decode m_X8_isWord.2.1 5 = .ok (.if_icmp .ne 15, 3) := by decide +kernel
theorem dd_X8_isWord_8 : decode m_X8_isWord.2.1 8 = .ok (.aload_n 0, 1) := by decide +kernel
theorem dd_X8_isWord_9 : decode m_X8_isWord.2.1 9 = .ok (.getfield 50, 3) := by decide +kernel
theorem dd_X8_isWord_12 : decode m_X8_isWord.2.1 12 = .ok (.iload_n 1, 1) := by decide +kernel
theorem dd_X8_isWord_13 : decode m_X8_isWord.2.1 13 = .ok (.if_icmp .ne 7, 3) := by decide +kernel
theorem dd_X8_isWord_16 : decode m_X8_isWord.2.1 16 = .ok (.iconst 1, 1) := by decide +kernel
theorem dd_X8_isWord_17 : decode m_X8_isWord.2.1 17 = .ok (.goto 4, 3) := by decide +kernel
theorem dd_X8_isWord_20 : decode m_X8_isWord.2.1 20 = .ok (.iconst 0, 1) := by decide +kernel
theorem dd_X8_isWord_21 : decode m_X8_isWord.2.1 21 = .ok (.ireturn, 1) := by decide +kernel
def wp_X8_isWord (p0 : Int32) (s : fz_s) (Q : Bool → fz_s → Prop) : Prop :=
  ((¬ (s.1 4 3) = 1 → Q false s) ∧ ((s.1 4 3) = 1 → ((¬ (s.1 4 5) = p0 → Q false s) ∧ ((s.1 4 5) = p0 → Q true s))))
set_option maxRecDepth 100000 in
set_option maxHeartbeats 4000000 in
theorem V_X8_isWord {g : fz_G} {l : Launch} {d : Nat} (hD : 0 ≤ d) {p0 : Int32}  {s : fz_s} {Q : Bool → fz_s → Prop} (H : wp_X8_isWord p0 s Q) : fs_V g l m_X8_isWord d true 0 (fz_en [.ref 4, .int p0] 2) [] s (rZ Q) := by
  unfold wp_X8_isWord at H
  refine fs_aload_n (k0 := 0) (i := 0) dd_X8_isWord_0 rfl rfl ?_
  refine fs_geti (ci := 8) (j := 3) dd_X8_isWord_1 fl_X8_31 ca_4 rfl (Or.inl rfl) ?_
  refine fs_iconst (n := 1) (v := 1) dd_X8_isWord_4 (by decide) ?_
  refine fs_icmp_ne (tgt := 20) dd_X8_isWord_5 (by decide) (fun hc => ?_) (fun hc => ?_)
  · replace H := H.1 hc
    refine fs_iconst (n := 0) (v := 0) dd_X8_isWord_20 (by decide) ?_
    exact fs_zret false dd_X8_isWord_21 rfl rfl H
  · replace H := H.2 hc
    refine fs_aload_n (k0 := 0) (i := 0) dd_X8_isWord_8 rfl rfl ?_
    refine fs_geti (ci := 8) (j := 5) dd_X8_isWord_9 fl_X8_50 ca_4 rfl (Or.inl rfl) ?_
    refine fs_iload_n (k0 := 1) (i := 1) dd_X8_isWord_12 rfl rfl ?_
    refine fs_icmp_ne (tgt := 20) dd_X8_isWord_13 (by decide) (fun hc => ?_) (fun hc => ?_)
    · replace H := H.1 hc
      refine fs_iconst (n := 0) (v := 0) dd_X8_isWord_20 (by decide) ?_
      exact fs_zret false dd_X8_isWord_21 rfl rfl H
    · replace H := H.2 hc
      refine fs_iconst (n := 1) (v := 1) dd_X8_isWord_16 (by decide) ?_
      refine fs_goto (tgt := 21) dd_X8_isWord_17 (by decide) ?_
      exact fs_zret true dd_X8_isWord_21 rfl rfl H
theorem dd_X2_put_0 : decode m_X2_put.2.1 0 = .ok (.aload_n 0, 1) := by decide +kernel
theorem dd_X2_put_1 : decode m_X2_put.2.1 1 = .ok (.getfield 15, 3) := by decide +kernel
theorem dd_X2_put_4 : decode m_X2_put.2.1 4 = .ok (.ifnull 42, 3) := by decide +kernel
theorem dd_X2_put_7 : decode m_X2_put.2.1 7 = .ok (.aload_n 0, 1) := by decide +kernel
theorem dd_X2_put_8 : decode m_X2_put.2.1 8 = .ok (.getfield 19, 3) := by decide +kernel
theorem dd_X2_put_11 : decode m_X2_put.2.1 11 = .ok (.ifCond .lt 35, 3) := by decide +kernel
theorem dd_X2_put_14 : decode m_X2_put.2.1 14 = .ok (.aload_n 0, 1) := by decide +kernel
theorem dd_X2_put_15 : decode m_X2_put.2.1 15 = .ok (.getfield 19, 3) := by decide +kernel
theorem dd_X2_put_18 : decode m_X2_put.2.1 18 = .ok (.aload_n 0, 1) := by decide +kernel
theorem dd_X2_put_19 : decode m_X2_put.2.1 19 = .ok (.getfield 15, 3) := by decide +kernel
theorem dd_X2_put_22 : decode m_X2_put.2.1 22 = .ok (.arraylength, 1) := by decide +kernel
theorem dd_X2_put_23 : decode m_X2_put.2.1 23 = .ok (.if_icmp .ge 23, 3) := by decide +kernel
theorem dd_X2_put_26 : decode m_X2_put.2.1 26 = .ok (.aload_n 0, 1) := by decide +kernel
theorem dd_X2_put_27 : decode m_X2_put.2.1 27 = .ok (.getfield 15, 3) := by decide +kernel
theorem dd_X2_put_30 : decode m_X2_put.2.1 30 = .ok (.aload_n 0, 1) := by decide +kernel
theorem dd_X2_put_31 : decode m_X2_put.2.1 31 = .ok (.getfield 19, 3) := by decide +kernel
theorem dd_X2_put_34 : decode m_X2_put.2.1 34 = .ok (.iload_n 1, 1) := by decide +kernel
theorem dd_X2_put_35 : decode m_X2_put.2.1 35 = .ok (.iastore, 1) := by decide +kernel
theorem dd_X2_put_36 : decode m_X2_put.2.1 36 = .ok (.aload_n 0, 1) := by decide +kernel
theorem dd_X2_put_37 : decode m_X2_put.2.1 37 = .ok (.dup, 1) := by decide +kernel
theorem dd_X2_put_38 : decode m_X2_put.2.1 38 = .ok (.getfield 19, 3) := by decide +kernel
theorem dd_X2_put_41 : decode m_X2_put.2.1 41 = .ok (.iconst 1, 1) := by decide +kernel
theorem dd_X2_put_42 : decode m_X2_put.2.1 42 = .ok (.iadd, 1) := by decide +kernel
theorem dd_X2_put_43 : decode m_X2_put.2.1 43 = .ok (.putfield 19, 3) := by decide +kernel
theorem dd_X2_put_46 : decode m_X2_put.2.1 46 = .ok (.return_, 1) := by decide +kernel
def wp_X2_put (p0 : Int32) (s : fz_s) (Q : fz_s → Prop) : Prop :=
  ∃ q1 : Nat, s.2.2 = some q1 ∧ fz_at true q1 14 1632 ∧ (((s.1 5 4) < 0 → Q s) ∧ (¬ (s.1 5 4) < 0 → ∃ q2 : Nat, s.2.2 = some q2 ∧ fz_at true q2 14 1632 ∧ (((nI 1632) ≤ (s.1 5 4) → Q s) ∧ (¬ (nI 1632) ≤ (s.1 5 4) → ∃ q3 : Nat, s.2.2 = some q3 ∧ fz_at true q3 14 1632 ∧ vp_in (s.1 5 4) 1632 ∧ ∀ s4 : fz_s, s4 = si s q3 (s.1 5 4).toNatClampNeg p0 → ∀ s5 : fz_s, s5 = si s4 5 4 ((s4.1 5 4) + 1) → Q s5))))
set_option maxRecDepth 100000 in
set_option maxHeartbeats 4000000 in
theorem V_X2_put {g : fz_G} {l : Launch} {d : Nat} (hD : 0 ≤ d) {p0 : Int32}  {s : fz_s} {Q : fz_s → Prop} (H : wp_X2_put p0 s Q) : fs_V g l m_X2_put d true 0 (fz_en [.ref 5, .int p0] 2) [] s (rV Q) := by
  unfold wp_X2_put at H
  refine fs_aload_n (k0 := 0) (i := 0) dd_X2_put_0 rfl rfl ?_
  obtain ⟨q1, hq1, haq1, H⟩ := H
  refine fs_getc dd_X2_put_1 fl_X2_15 hq1 ?_
  refine fs_ifnull dd_X2_put_4 ?_
  refine fs_aload_n (k0 := 0) (i := 0) dd_X2_put_7 rfl rfl ?_
  refine fs_geti (ci := 2) (j := 4) dd_X2_put_8 fl_X2_19 ca_5 rfl (Or.inl rfl) ?_
  refine fs_if_lt (tgt := 46) dd_X2_put_11 (by decide) (fun hc => ?_) (fun hc => ?_)
  · replace H := H.1 hc
    exact fs_vret dd_X2_put_46 rfl H
  · replace H := H.2 hc
    refine fs_aload_n (k0 := 0) (i := 0) dd_X2_put_14 rfl rfl ?_
    refine fs_geti (ci := 2) (j := 4) dd_X2_put_15 fl_X2_19 ca_5 rfl (Or.inl rfl) ?_
    refine fs_aload_n (k0 := 0) (i := 0) dd_X2_put_18 rfl rfl ?_
    obtain ⟨q2, hq2, haq2, H⟩ := H
    refine fs_getc dd_X2_put_19 fl_X2_15 hq2 ?_
    refine fs_alen dd_X2_put_22 haq2 ?_
    refine fs_icmp_ge (tgt := 46) dd_X2_put_23 (by decide) (fun hc => ?_) (fun hc => ?_)
    · replace H := H.1 hc
      exact fs_vret dd_X2_put_46 rfl H
    · replace H := H.2 hc
      refine fs_aload_n (k0 := 0) (i := 0) dd_X2_put_26 rfl rfl ?_
      obtain ⟨q3, hq3, haq3, H⟩ := H
      refine fs_getc dd_X2_put_27 fl_X2_15 hq3 ?_
      refine fs_aload_n (k0 := 0) (i := 0) dd_X2_put_30 rfl rfl ?_
      refine fs_geti (ci := 2) (j := 4) dd_X2_put_31 fl_X2_19 ca_5 rfl (Or.inl rfl) ?_
      refine fs_iload_n (k0 := 1) (i := 1) dd_X2_put_34 rfl rfl ?_
      have hb := H.1
      replace H := H.2
      refine fs_iast dd_X2_put_35 haq3 hb ?_
      refine fs_tops (fun s4 hs4 => ?_)
      replace H := H s4 hs4
      refine fs_aload_n (k0 := 0) (i := 0) dd_X2_put_36 rfl rfl ?_
      refine fs_dup dd_X2_put_37 rfl ?_
      refine fs_geti (ci := 2) (j := 4) dd_X2_put_38 fl_X2_19 ca_5 rfl (Or.inl rfl) ?_
      refine fs_iconst (n := 1) (v := 1) dd_X2_put_41 (by decide) ?_
      refine fs_iadd dd_X2_put_42 ?_
      refine fs_puti (ci := 2) (j := 4) dd_X2_put_43 fl_X2_19 (fun _ _ _ h => by cases h; rfl) ca_5 rfl (Or.inl rfl) ?_
      refine fs_tops (fun s5 hs5 => ?_)
      replace H := H s5 hs5
      exact fs_vret dd_X2_put_46 rfl H
theorem dd_X2_done_0 : decode m_X2_done.2.1 0 = .ok (.aload_n 0, 1) := by decide +kernel
theorem dd_X2_done_1 : decode m_X2_done.2.1 1 = .ok (.iload_n 1, 1) := by decide +kernel
theorem dd_X2_done_2 : decode m_X2_done.2.1 2 = .ok (.invokevirtual 30, 3) := by decide +kernel
theorem dd_X2_done_5 : decode m_X2_done.2.1 5 = .ok (.iconst 1, 1) := by decide +kernel
theorem dd_X2_done_6 : decode m_X2_done.2.1 6 = .ok (.ireturn, 1) := by decide +kernel
def wp_X2_done (p0 : Int32) (s : fz_s) (Q : Bool → fz_s → Prop) : Prop :=
  wp_X2_put p0 s (fun s2 => Q true s2)
set_option maxRecDepth 100000 in
set_option maxHeartbeats 4000000 in
theorem V_X2_done {g : fz_G} {l : Launch} {d : Nat} (hD : 1 ≤ d) {p0 : Int32}  {s : fz_s} {Q : Bool → fz_s → Prop} (H : wp_X2_done p0 s Q) : fs_V g l m_X2_done d true 0 (fz_en [.ref 5, .int p0] 2) [] s (rZ Q) := by
  obtain ⟨d, rfl⟩ : ∃ e, d = e + 1 := ⟨d - 1, by omega⟩
  unfold wp_X2_done at H
  refine fs_aload_n (k0 := 0) (i := 0) dd_X2_done_0 rfl rfl ?_
  refine fs_iload_n (k0 := 1) (i := 1) dd_X2_done_1 rfl rfl ?_
  refine fs_callV (y := m_X2_put) (as := [.int p0]) dd_X2_done_2 me_X2_put lk_X2_30 in_X2_put se_X2_put ca_5 rfl rfl rfl (Nat.le_of_ble_eq_true rfl) (Nat.le_of_ble_eq_true rfl) rfl (V_X2_put (by omega)  H) (k2_V fun s2 H => ?_)
  refine fs_iconst (n := 1) (v := 1) dd_X2_done_5 (by decide) ?_
  exact fs_zret true dd_X2_done_6 rfl rfl H
theorem dd_X8_isSign_0 : decode m_X8_isSign.2.1 0 = .ok (.aload_n 0, 1) := by decide +kernel
theorem dd_X8_isSign_1 : decode m_X8_isSign.2.1 1 = .ok (.getfield 31, 3) := by decide +kernel
theorem dd_X8_isSign_4 : decode m_X8_isSign.2.1 4 = .ok (.iconst 3, 1) := by decide +kernel
theorem dd_X8_isSign_5 : decode m_X8_isSign.2.1 5 = .ok (.if_icmp .ne 20, 3) := by decide +kernel
theorem dd_X8_isSign_8 : decode m_X8_isSign.2.1 8 = .ok (.aload_n 0, 1) := by decide +kernel
theorem dd_X8_isSign_9 : decode m_X8_isSign.2.1 9 = .ok (.getfield 9, 3) := by decide +kernel
theorem dd_X8_isSign_12 : decode m_X8_isSign.2.1 12 = .ok (.aload_n 0, 1) := by decide +kernel
theorem dd_X8_isSign_13 : decode m_X8_isSign.2.1 13 = .ok (.getfield 47, 3) := by decide +kernel
theorem dd_X8_isSign_16 : decode m_X8_isSign.2.1 16 = .ok (.iaload, 1) := by decide +kernel
theorem dd_X8_isSign_17 : decode m_X8_isSign.2.1 17 = .ok (.iload_n 1, 1) := by decide +kernel
theorem dd_X8_isSign_18 : decode m_X8_isSign.2.1 18 = .ok (.if_icmp .ne 7, 3) := by decide +kernel
theorem dd_X8_isSign_21 : decode m_X8_isSign.2.1 21 = .ok (.iconst 1, 1) := by decide +kernel
theorem dd_X8_isSign_22 : decode m_X8_isSign.2.1 22 = .ok (.goto 4, 3) := by decide +kernel
theorem dd_X8_isSign_25 : decode m_X8_isSign.2.1 25 = .ok (.iconst 0, 1) := by decide +kernel
theorem dd_X8_isSign_26 : decode m_X8_isSign.2.1 26 = .ok (.ireturn, 1) := by decide +kernel
def wp_X8_isSign (p0 : Int32) (s : fz_s) (Q : Bool → fz_s → Prop) : Prop :=
  ((¬ (s.1 4 3) = 3 → Q false s) ∧ ((s.1 4 3) = 3 → vp_in (s.1 4 4) 1600 ∧ ((¬ (s.1 3 (s.1 4 4).toNatClampNeg) = p0 → Q false s) ∧ ((s.1 3 (s.1 4 4).toNatClampNeg) = p0 → Q true s))))
set_option maxRecDepth 100000 in
set_option maxHeartbeats 4000000 in
theorem V_X8_isSign {g : fz_G} {l : Launch} {d : Nat} (hD : 0 ≤ d) {p0 : Int32}  {s : fz_s} {Q : Bool → fz_s → Prop} (H : wp_X8_isSign p0 s Q) : fs_V g l m_X8_isSign d true 0 (fz_en [.ref 4, .int p0] 2) [] s (rZ Q) := by
  unfold wp_X8_isSign at H
  refine fs_aload_n (k0 := 0) (i := 0) dd_X8_isSign_0 rfl rfl ?_
  refine fs_geti (ci := 8) (j := 3) dd_X8_isSign_1 fl_X8_31 ca_4 rfl (Or.inl rfl) ?_
  refine fs_iconst (n := 3) (v := 3) dd_X8_isSign_4 (by decide) ?_
  refine fs_icmp_ne (tgt := 25) dd_X8_isSign_5 (by decide) (fun hc => ?_) (fun hc => ?_)
  · replace H := H.1 hc
    refine fs_iconst (n := 0) (v := 0) dd_X8_isSign_25 (by decide) ?_
    exact fs_zret false dd_X8_isSign_26 rfl rfl H
  · replace H := H.2 hc
    refine fs_aload_n (k0 := 0) (i := 0) dd_X8_isSign_8 rfl rfl ?_
    refine fs_getr (ci := 8) (j := 0) (q := 3) dd_X8_isSign_9 fl_X8_9 ca_4 rfl (Or.inr ⟨_, rfl⟩) rfl (by decide) ?_
    refine fs_aload_n (k0 := 0) (i := 0) dd_X8_isSign_12 rfl rfl ?_
    refine fs_geti (ci := 8) (j := 4) dd_X8_isSign_13 fl_X8_47 ca_4 rfl (Or.inl rfl) ?_
    have hb := H.1
    replace H := H.2
    refine fs_iald dd_X8_isSign_16 ca_3 hb ?_
    refine fs_iload_n (k0 := 1) (i := 1) dd_X8_isSign_17 rfl rfl ?_
    refine fs_icmp_ne (tgt := 25) dd_X8_isSign_18 (by decide) (fun hc => ?_) (fun hc => ?_)
    · replace H := H.1 hc
      refine fs_iconst (n := 0) (v := 0) dd_X8_isSign_25 (by decide) ?_
      exact fs_zret false dd_X8_isSign_26 rfl rfl H
    · replace H := H.2 hc
      refine fs_iconst (n := 1) (v := 1) dd_X8_isSign_21 (by decide) ?_
      refine fs_goto (tgt := 26) dd_X8_isSign_22 (by decide) ?_
      exact fs_zret true dd_X8_isSign_26 rfl rfl H
theorem dd_X2_comparisonHere_0 : decode m_X2_comparisonHere.2.1 0 = .ok (.aload_n 0, 1) := by decide +kernel
theorem dd_X2_comparisonHere_1 : decode m_X2_comparisonHere.2.1 1 = .ok (.getfield 9, 3) := by decide +kernel
theorem dd_X2_comparisonHere_4 : decode m_X2_comparisonHere.2.1 4 = .ok (.bipush 60, 2) := by decide +kernel
theorem dd_X2_comparisonHere_6 : decode m_X2_comparisonHere.2.1 6 = .ok (.invokevirtual 55, 3) := by decide +kernel
theorem dd_X2_comparisonHere_9 : decode m_X2_comparisonHere.2.1 9 = .ok (.ifCond .eq 7, 3) := by decide +kernel
theorem dd_X2_comparisonHere_12 : decode m_X2_comparisonHere.2.1 12 = .ok (.sipush 20009, 3) := by decide +kernel
theorem dd_X2_comparisonHere_15 : decode m_X2_comparisonHere.2.1 15 = .ok (.ireturn, 1) := by decide +kernel
theorem dd_X2_comparisonHere_16 : decode m_X2_comparisonHere.2.1 16 = .ok (.aload_n 0, 1) := by decide +kernel
theorem dd_X2_comparisonHere_17 : decode m_X2_comparisonHere.2.1 17 = .ok (.getfield 9, 3) := by decide +kernel
theorem dd_X2_comparisonHere_20 : decode m_X2_comparisonHere.2.1 20 = .ok (.bipush 62, 2) := by decide +kernel
theorem dd_X2_comparisonHere_22 : decode m_X2_comparisonHere.2.1 22 = .ok (.invokevirtual 55, 3) := by decide +kernel
theorem dd_X2_comparisonHere_25 : decode m_X2_comparisonHere.2.1 25 = .ok (.ifCond .eq 7, 3) := by decide +kernel
theorem dd_X2_comparisonHere_28 : decode m_X2_comparisonHere.2.1 28 = .ok (.sipush 20010, 3) := by decide +kernel
theorem dd_X2_comparisonHere_31 : decode m_X2_comparisonHere.2.1 31 = .ok (.ireturn, 1) := by decide +kernel
theorem dd_X2_comparisonHere_32 : decode m_X2_comparisonHere.2.1 32 = .ok (.aload_n 0, 1) := by decide +kernel
theorem dd_X2_comparisonHere_33 : decode m_X2_comparisonHere.2.1 33 = .ok (.getfield 9, 3) := by decide +kernel
theorem dd_X2_comparisonHere_36 : decode m_X2_comparisonHere.2.1 36 = .ok (.bipush 61, 2) := by decide +kernel
theorem dd_X2_comparisonHere_38 : decode m_X2_comparisonHere.2.1 38 = .ok (.invokevirtual 55, 3) := by decide +kernel
theorem dd_X2_comparisonHere_41 : decode m_X2_comparisonHere.2.1 41 = .ok (.ifCond .eq 9, 3) := by decide +kernel
theorem dd_X2_comparisonHere_44 : decode m_X2_comparisonHere.2.1 44 = .ok (.sipush 20011, 3) := by decide +kernel
theorem dd_X2_comparisonHere_47 : decode m_X2_comparisonHere.2.1 47 = .ok (.goto 4, 3) := by decide +kernel
theorem dd_X2_comparisonHere_50 : decode m_X2_comparisonHere.2.1 50 = .ok (.iconst (-1), 1) := by decide +kernel
theorem dd_X2_comparisonHere_51 : decode m_X2_comparisonHere.2.1 51 = .ok (.ireturn, 1) := by decide +kernel
def wp_X2_comparisonHere  (s : fz_s) (Q : Int32 → fz_s → Prop) : Prop :=
  wp_X8_isSign 60 s (fun r1 s2 => ((r1 = false → wp_X8_isSign 62 s2 (fun r3 s4 => ((r3 = false → wp_X8_isSign 61 s4 (fun r5 s6 => ((r5 = false → Q (-1) s6) ∧ (r5 = true → Q 20011 s6)))) ∧ (r3 = true → Q 20010 s4)))) ∧ (r1 = true → Q 20009 s2)))
set_option maxRecDepth 100000 in
set_option maxHeartbeats 4000000 in
theorem V_X2_comparisonHere {g : fz_G} {l : Launch} {d : Nat} (hD : 1 ≤ d)   {s : fz_s} {Q : Int32 → fz_s → Prop} (H : wp_X2_comparisonHere  s Q) : fs_V g l m_X2_comparisonHere d true 0 (fz_en [.ref 5] 1) [] s (rI Q) := by
  obtain ⟨d, rfl⟩ : ∃ e, d = e + 1 := ⟨d - 1, by omega⟩
  unfold wp_X2_comparisonHere at H
  refine fs_aload_n (k0 := 0) (i := 0) dd_X2_comparisonHere_0 rfl rfl ?_
  refine fs_getr (ci := 2) (j := 0) (q := 4) dd_X2_comparisonHere_1 fl_X2_9 ca_5 rfl (Or.inl ⟨_, rfl⟩) rfl (by decide) ?_
  refine fs_bipush (n := 60) (v := 60) dd_X2_comparisonHere_4 (by decide) ?_
  refine fs_callV (y := m_X8_isSign) (as := [.int 60]) dd_X2_comparisonHere_6 me_X8_isSign lk_X2_55 in_X8_isSign se_X8_isSign ca_4 rfl rfl rfl (Nat.le_of_ble_eq_true rfl) (Nat.le_of_ble_eq_true rfl) rfl (V_X8_isSign (by omega)  H) (k2_Z fun r1 s2 H => ?_)
  refine fs_if_eq (tgt := 16) dd_X2_comparisonHere_9 (by decide) (fun hc => ?_) (fun hc => ?_)
  · replace H := H.1 (bi_0 hc)
    refine fs_aload_n (k0 := 0) (i := 0) dd_X2_comparisonHere_16 rfl rfl ?_
    refine fs_getr (ci := 2) (j := 0) (q := 4) dd_X2_comparisonHere_17 fl_X2_9 ca_5 rfl (Or.inl ⟨_, rfl⟩) rfl (by decide) ?_
    refine fs_bipush (n := 62) (v := 62) dd_X2_comparisonHere_20 (by decide) ?_
    refine fs_callV (y := m_X8_isSign) (as := [.int 62]) dd_X2_comparisonHere_22 me_X8_isSign lk_X2_55 in_X8_isSign se_X8_isSign ca_4 rfl rfl rfl (Nat.le_of_ble_eq_true rfl) (Nat.le_of_ble_eq_true rfl) rfl (V_X8_isSign (by omega)  H) (k2_Z fun r3 s4 H => ?_)
    refine fs_if_eq (tgt := 32) dd_X2_comparisonHere_25 (by decide) (fun hc => ?_) (fun hc => ?_)
    · replace H := H.1 (bi_0 hc)
      refine fs_aload_n (k0 := 0) (i := 0) dd_X2_comparisonHere_32 rfl rfl ?_
      refine fs_getr (ci := 2) (j := 0) (q := 4) dd_X2_comparisonHere_33 fl_X2_9 ca_5 rfl (Or.inl ⟨_, rfl⟩) rfl (by decide) ?_
      refine fs_bipush (n := 61) (v := 61) dd_X2_comparisonHere_36 (by decide) ?_
      refine fs_callV (y := m_X8_isSign) (as := [.int 61]) dd_X2_comparisonHere_38 me_X8_isSign lk_X2_55 in_X8_isSign se_X8_isSign ca_4 rfl rfl rfl (Nat.le_of_ble_eq_true rfl) (Nat.le_of_ble_eq_true rfl) rfl (V_X8_isSign (by omega)  H) (k2_Z fun r5 s6 H => ?_)
      refine fs_if_eq (tgt := 50) dd_X2_comparisonHere_41 (by decide) (fun hc => ?_) (fun hc => ?_)
      · replace H := H.1 (bi_0 hc)
        refine fs_iconst (n := -1) (v := -1) dd_X2_comparisonHere_50 (by decide) ?_
        exact fs_iret dd_X2_comparisonHere_51 rfl H
      · replace H := H.2 (bi_1 hc)
        refine fs_sipush (n := 20011) (v := 20011) dd_X2_comparisonHere_44 (by decide) ?_
        refine fs_goto (tgt := 51) dd_X2_comparisonHere_47 (by decide) ?_
        exact fs_iret dd_X2_comparisonHere_51 rfl H
    · replace H := H.2 (bi_1 hc)
      refine fs_sipush (n := 20010) (v := 20010) dd_X2_comparisonHere_28 (by decide) ?_
      exact fs_iret dd_X2_comparisonHere_31 rfl H
  · replace H := H.2 (bi_1 hc)
    refine fs_sipush (n := 20009) (v := 20009) dd_X2_comparisonHere_12 (by decide) ?_
    exact fs_iret dd_X2_comparisonHere_15 rfl H
theorem dd_X8_failHere_0 : decode m_X8_failHere.2.1 0 = .ok (.aload_n 0, 1) := by decide +kernel
theorem dd_X8_failHere_1 : decode m_X8_failHere.2.1 1 = .ok (.iconst 1, 1) := by decide +kernel
theorem dd_X8_failHere_2 : decode m_X8_failHere.2.1 2 = .ok (.aload_n 0, 1) := by decide +kernel
theorem dd_X8_failHere_3 : decode m_X8_failHere.2.1 3 = .ok (.getfield 47, 3) := by decide +kernel
theorem dd_X8_failHere_6 : decode m_X8_failHere.2.1 6 = .ok (.invokevirtual 67, 3) := by decide +kernel
theorem dd_X8_failHere_9 : decode m_X8_failHere.2.1 9 = .ok (.ireturn, 1) := by decide +kernel
def wp_X8_failHere  (s : fz_s) (Q : Bool → fz_s → Prop) : Prop :=
  wp_X8_fail 1 (s.1 4 4) s (fun r1 s2 => Q r1 s2)
set_option maxRecDepth 100000 in
set_option maxHeartbeats 4000000 in
theorem V_X8_failHere {g : fz_G} {l : Launch} {d : Nat} (hD : 1 ≤ d)   {s : fz_s} {Q : Bool → fz_s → Prop} (H : wp_X8_failHere  s Q) : fs_V g l m_X8_failHere d true 0 (fz_en [.ref 4] 1) [] s (rZ Q) := by
  obtain ⟨d, rfl⟩ : ∃ e, d = e + 1 := ⟨d - 1, by omega⟩
  unfold wp_X8_failHere at H
  refine fs_aload_n (k0 := 0) (i := 0) dd_X8_failHere_0 rfl rfl ?_
  refine fs_iconst (n := 1) (v := 1) dd_X8_failHere_1 (by decide) ?_
  refine fs_aload_n (k0 := 0) (i := 0) dd_X8_failHere_2 rfl rfl ?_
  refine fs_geti (ci := 8) (j := 4) dd_X8_failHere_3 fl_X8_47 ca_4 rfl (Or.inl rfl) ?_
  refine fs_callV (y := m_X8_fail) (as := [.int 1, .int (s.1 4 4)]) dd_X8_failHere_6 me_X8_fail lk_X8_67 in_X8_fail se_X8_fail ca_4 rfl rfl rfl (Nat.le_of_ble_eq_true rfl) (Nat.le_of_ble_eq_true rfl) rfl (V_X8_fail (by omega)  H) (k2_Z fun r1 s2 H => ?_)
  exact fs_zret r1 dd_X8_failHere_9 rfl rfl H
theorem dd_X8_atName_0 : decode m_X8_atName.2.1 0 = .ok (.aload_n 0, 1) := by decide +kernel
theorem dd_X8_atName_1 : decode m_X8_atName.2.1 1 = .ok (.getfield 31, 3) := by decide +kernel
theorem dd_X8_atName_4 : decode m_X8_atName.2.1 4 = .ok (.iconst 1, 1) := by decide +kernel
theorem dd_X8_atName_5 : decode m_X8_atName.2.1 5 = .ok (.if_icmp .ne 19, 3) := by decide +kernel
theorem dd_X8_atName_8 : decode m_X8_atName.2.1 8 = .ok (.aload_n 0, 1) := by decide +kernel
theorem dd_X8_atName_9 : decode m_X8_atName.2.1 9 = .ok (.getfield 50, 3) := by decide +kernel
theorem dd_X8_atName_12 : decode m_X8_atName.2.1 12 = .ok (.ifCond .lt 17, 3) := by decide +kernel
theorem dd_X8_atName_15 : decode m_X8_atName.2.1 15 = .ok (.aload_n 0, 1) := by decide +kernel
theorem dd_X8_atName_16 : decode m_X8_atName.2.1 16 = .ok (.getfield 50, 3) := by decide +kernel
theorem dd_X8_atName_19 : decode m_X8_atName.2.1 19 = .ok (.bipush 26, 2) := by decide +kernel
theorem dd_X8_atName_21 : decode m_X8_atName.2.1 21 = .ok (.if_icmp .ge 8, 3) := by decide +kernel
theorem dd_X8_atName_24 : decode m_X8_atName.2.1 24 = .ok (.aload_n 0, 1) := by decide +kernel
theorem dd_X8_atName_25 : decode m_X8_atName.2.1 25 = .ok (.invokevirtual 75, 3) := by decide +kernel
theorem dd_X8_atName_28 : decode m_X8_atName.2.1 28 = .ok (.ireturn, 1) := by decide +kernel
theorem dd_X8_atName_29 : decode m_X8_atName.2.1 29 = .ok (.aload_n 0, 1) := by decide +kernel
theorem dd_X8_atName_30 : decode m_X8_atName.2.1 30 = .ok (.getfield 28, 3) := by decide +kernel
theorem dd_X8_atName_33 : decode m_X8_atName.2.1 33 = .ok (.aload_n 0, 1) := by decide +kernel
theorem dd_X8_atName_34 : decode m_X8_atName.2.1 34 = .ok (.getfield 47, 3) := by decide +kernel
theorem dd_X8_atName_37 : decode m_X8_atName.2.1 37 = .ok (.isub, 1) := by decide +kernel
theorem dd_X8_atName_38 : decode m_X8_atName.2.1 38 = .ok (.bipush 6, 2) := by decide +kernel
theorem dd_X8_atName_40 : decode m_X8_atName.2.1 40 = .ok (.if_icmp .le 18, 3) := by decide +kernel
theorem dd_X8_atName_43 : decode m_X8_atName.2.1 43 = .ok (.aload_n 0, 1) := by decide +kernel
theorem dd_X8_atName_44 : decode m_X8_atName.2.1 44 = .ok (.iconst 1, 1) := by decide +kernel
theorem dd_X8_atName_45 : decode m_X8_atName.2.1 45 = .ok (.aload_n 0, 1) := by decide +kernel
theorem dd_X8_atName_46 : decode m_X8_atName.2.1 46 = .ok (.getfield 47, 3) := by decide +kernel
theorem dd_X8_atName_49 : decode m_X8_atName.2.1 49 = .ok (.bipush 6, 2) := by decide +kernel
theorem dd_X8_atName_51 : decode m_X8_atName.2.1 51 = .ok (.iadd, 1) := by decide +kernel
theorem dd_X8_atName_52 : decode m_X8_atName.2.1 52 = .ok (.invokevirtual 67, 3) := by decide +kernel
theorem dd_X8_atName_55 : decode m_X8_atName.2.1 55 = .ok (.ifCond .eq 7, 3) := by decide +kernel
theorem dd_X8_atName_58 : decode m_X8_atName.2.1 58 = .ok (.iconst 1, 1) := by decide +kernel
theorem dd_X8_atName_59 : decode m_X8_atName.2.1 59 = .ok (.goto 4, 3) := by decide +kernel
theorem dd_X8_atName_62 : decode m_X8_atName.2.1 62 = .ok (.iconst 0, 1) := by decide +kernel
theorem dd_X8_atName_63 : decode m_X8_atName.2.1 63 = .ok (.ireturn, 1) := by decide +kernel
def nd_X8_atName_29   (Q : Bool → fz_s → Prop)  (s : fz_s) : Prop :=
  ((((s.1 4 2) - (s.1 4 4)) ≤ 6 → Q true s) ∧ (¬ ((s.1 4 2) - (s.1 4 4)) ≤ 6 → wp_X8_fail 1 ((s.1 4 4) + 6) s (fun r1 s2 => ((r1 = false → Q false s2) ∧ (r1 = true → Q true s2)))))
def nd_X8_atName_24   (Q : Bool → fz_s → Prop)  (s : fz_s) : Prop :=
  wp_X8_failHere  s (fun r1 s2 => Q r1 s2)
def wp_X8_atName  (s : fz_s) (Q : Bool → fz_s → Prop) : Prop :=
  ((¬ (s.1 4 3) = 1 → nd_X8_atName_24   Q  s) ∧ ((s.1 4 3) = 1 → (((s.1 4 5) < 0 → nd_X8_atName_29   Q  s) ∧ (¬ (s.1 4 5) < 0 → ((26 ≤ (s.1 4 5) → nd_X8_atName_29   Q  s) ∧ (¬ 26 ≤ (s.1 4 5) → nd_X8_atName_24   Q  s))))))
set_option maxRecDepth 100000 in
set_option maxHeartbeats 4000000 in
theorem V_nd_X8_atName_29 {g : fz_G} {l : Launch} {d : Nat} (hD : 2 ≤ d)    {Q : Bool → fz_s → Prop}  {s : fz_s}  (H : nd_X8_atName_29   Q  s) : fs_V g l m_X8_atName d true 29 [.ref 4] [] s (rZ Q) := by
  obtain ⟨d, rfl⟩ : ∃ e, d = e + 1 := ⟨d - 1, by omega⟩
  unfold nd_X8_atName_29 at H
  refine fs_aload_n (k0 := 0) (i := 0) dd_X8_atName_29 rfl rfl ?_
  refine fs_geti (ci := 8) (j := 2) dd_X8_atName_30 fl_X8_28 ca_4 rfl (Or.inl rfl) ?_
  refine fs_aload_n (k0 := 0) (i := 0) dd_X8_atName_33 rfl rfl ?_
  refine fs_geti (ci := 8) (j := 4) dd_X8_atName_34 fl_X8_47 ca_4 rfl (Or.inl rfl) ?_
  refine fs_isub dd_X8_atName_37 ?_
  refine fs_bipush (n := 6) (v := 6) dd_X8_atName_38 (by decide) ?_
  refine fs_icmp_le (tgt := 58) dd_X8_atName_40 (by decide) (fun hc => ?_) (fun hc => ?_)
  · replace H := H.1 hc
    refine fs_iconst (n := 1) (v := 1) dd_X8_atName_58 (by decide) ?_
    refine fs_goto (tgt := 63) dd_X8_atName_59 (by decide) ?_
    exact fs_zret true dd_X8_atName_63 rfl rfl H
  · replace H := H.2 hc
    refine fs_aload_n (k0 := 0) (i := 0) dd_X8_atName_43 rfl rfl ?_
    refine fs_iconst (n := 1) (v := 1) dd_X8_atName_44 (by decide) ?_
    refine fs_aload_n (k0 := 0) (i := 0) dd_X8_atName_45 rfl rfl ?_
    refine fs_geti (ci := 8) (j := 4) dd_X8_atName_46 fl_X8_47 ca_4 rfl (Or.inl rfl) ?_
    refine fs_bipush (n := 6) (v := 6) dd_X8_atName_49 (by decide) ?_
    refine fs_iadd dd_X8_atName_51 ?_
    refine fs_callV (y := m_X8_fail) (as := [.int 1, .int ((s.1 4 4) + 6)]) dd_X8_atName_52 me_X8_fail lk_X8_67 in_X8_fail se_X8_fail ca_4 rfl rfl rfl (Nat.le_of_ble_eq_true rfl) (Nat.le_of_ble_eq_true rfl) rfl (V_X8_fail (by omega)  H) (k2_Z fun r1 s2 H => ?_)
    refine fs_if_eq (tgt := 62) dd_X8_atName_55 (by decide) (fun hc => ?_) (fun hc => ?_)
    · replace H := H.1 (bi_0 hc)
      refine fs_iconst (n := 0) (v := 0) dd_X8_atName_62 (by decide) ?_
      exact fs_zret false dd_X8_atName_63 rfl rfl H
    · replace H := H.2 (bi_1 hc)
      refine fs_iconst (n := 1) (v := 1) dd_X8_atName_58 (by decide) ?_
      refine fs_goto (tgt := 63) dd_X8_atName_59 (by decide) ?_
      exact fs_zret true dd_X8_atName_63 rfl rfl H
set_option maxRecDepth 100000 in
set_option maxHeartbeats 4000000 in
theorem V_nd_X8_atName_24 {g : fz_G} {l : Launch} {d : Nat} (hD : 2 ≤ d)    {Q : Bool → fz_s → Prop}  {s : fz_s}  (H : nd_X8_atName_24   Q  s) : fs_V g l m_X8_atName d true 24 [.ref 4] [] s (rZ Q) := by
  obtain ⟨d, rfl⟩ : ∃ e, d = e + 1 := ⟨d - 1, by omega⟩
  unfold nd_X8_atName_24 at H
  refine fs_aload_n (k0 := 0) (i := 0) dd_X8_atName_24 rfl rfl ?_
  refine fs_callV (y := m_X8_failHere) (as := []) dd_X8_atName_25 me_X8_failHere lk_X8_75 in_X8_failHere se_X8_failHere ca_4 rfl rfl rfl (Nat.le_of_ble_eq_true rfl) (Nat.le_of_ble_eq_true rfl) rfl (V_X8_failHere (by omega)  H) (k2_Z fun r1 s2 H => ?_)
  exact fs_zret r1 dd_X8_atName_28 rfl rfl H
set_option maxRecDepth 100000 in
set_option maxHeartbeats 4000000 in
theorem V_X8_atName {g : fz_G} {l : Launch} {d : Nat} (hD : 2 ≤ d)   {s : fz_s} {Q : Bool → fz_s → Prop} (H : wp_X8_atName  s Q) : fs_V g l m_X8_atName d true 0 (fz_en [.ref 4] 1) [] s (rZ Q) := by
  obtain ⟨d, rfl⟩ : ∃ e, d = e + 1 := ⟨d - 1, by omega⟩
  unfold wp_X8_atName at H
  refine fs_aload_n (k0 := 0) (i := 0) dd_X8_atName_0 rfl rfl ?_
  refine fs_geti (ci := 8) (j := 3) dd_X8_atName_1 fl_X8_31 ca_4 rfl (Or.inl rfl) ?_
  refine fs_iconst (n := 1) (v := 1) dd_X8_atName_4 (by decide) ?_
  refine fs_icmp_ne (tgt := 24) dd_X8_atName_5 (by decide) (fun hc => ?_) (fun hc => ?_)
  · replace H := H.1 hc
    refine fs_weak (ls2 := [.ref 4]) (fz_le_e fz_le_n) ?_
    exact V_nd_X8_atName_24 hD    H
  · replace H := H.2 hc
    refine fs_aload_n (k0 := 0) (i := 0) dd_X8_atName_8 rfl rfl ?_
    refine fs_geti (ci := 8) (j := 5) dd_X8_atName_9 fl_X8_50 ca_4 rfl (Or.inl rfl) ?_
    refine fs_if_lt (tgt := 29) dd_X8_atName_12 (by decide) (fun hc => ?_) (fun hc => ?_)
    · replace H := H.1 hc
      refine fs_weak (ls2 := [.ref 4]) (fz_le_e fz_le_n) ?_
      exact V_nd_X8_atName_29 hD    H
    · replace H := H.2 hc
      refine fs_aload_n (k0 := 0) (i := 0) dd_X8_atName_15 rfl rfl ?_
      refine fs_geti (ci := 8) (j := 5) dd_X8_atName_16 fl_X8_50 ca_4 rfl (Or.inl rfl) ?_
      refine fs_bipush (n := 26) (v := 26) dd_X8_atName_19 (by decide) ?_
      refine fs_icmp_ge (tgt := 29) dd_X8_atName_21 (by decide) (fun hc => ?_) (fun hc => ?_)
      · replace H := H.1 hc
        refine fs_weak (ls2 := [.ref 4]) (fz_le_e fz_le_n) ?_
        exact V_nd_X8_atName_29 hD    H
      · replace H := H.2 hc
        refine fs_weak (ls2 := [.ref 4]) (fz_le_e fz_le_n) ?_
        exact V_nd_X8_atName_24 hD    H
theorem dd_X9_letterOf_0 : decode m_X9_letterOf.2.1 0 = .ok (.iload_n 1, 1) := by decide +kernel
theorem dd_X9_letterOf_1 : decode m_X9_letterOf.2.1 1 = .ok (.bipush 6, 2) := by decide +kernel
theorem dd_X9_letterOf_3 : decode m_X9_letterOf.2.1 3 = .ok (.imul, 1) := by decide +kernel
theorem dd_X9_letterOf_4 : decode m_X9_letterOf.2.1 4 = .ok (.iload_n 2, 1) := by decide +kernel
theorem dd_X9_letterOf_5 : decode m_X9_letterOf.2.1 5 = .ok (.iadd, 1) := by decide +kernel
theorem dd_X9_letterOf_6 : decode m_X9_letterOf.2.1 6 = .ok (.istore_n 3, 1) := by decide +kernel
theorem dd_X9_letterOf_7 : decode m_X9_letterOf.2.1 7 = .ok (.iload_n 3, 1) := by decide +kernel
theorem dd_X9_letterOf_8 : decode m_X9_letterOf.2.1 8 = .ok (.ifCond .lt 12, 3) := by decide +kernel
theorem dd_X9_letterOf_11 : decode m_X9_letterOf.2.1 11 = .ok (.iload_n 3, 1) := by decide +kernel
theorem dd_X9_letterOf_12 : decode m_X9_letterOf.2.1 12 = .ok (.aload_n 0, 1) := by decide +kernel
theorem dd_X9_letterOf_13 : decode m_X9_letterOf.2.1 13 = .ok (.getfield 9, 3) := by decide +kernel
theorem dd_X9_letterOf_16 : decode m_X9_letterOf.2.1 16 = .ok (.arraylength, 1) := by decide +kernel
theorem dd_X9_letterOf_17 : decode m_X9_letterOf.2.1 17 = .ok (.if_icmp .lt 7, 3) := by decide +kernel
theorem dd_X9_letterOf_20 : decode m_X9_letterOf.2.1 20 = .ok (.iconst 0, 1) := by decide +kernel
theorem dd_X9_letterOf_21 : decode m_X9_letterOf.2.1 21 = .ok (.goto 9, 3) := by decide +kernel
theorem dd_X9_letterOf_24 : decode m_X9_letterOf.2.1 24 = .ok (.aload_n 0, 1) := by decide +kernel
theorem dd_X9_letterOf_25 : decode m_X9_letterOf.2.1 25 = .ok (.getfield 9, 3) := by decide +kernel
theorem dd_X9_letterOf_28 : decode m_X9_letterOf.2.1 28 = .ok (.iload_n 3, 1) := by decide +kernel
theorem dd_X9_letterOf_29 : decode m_X9_letterOf.2.1 29 = .ok (.iaload, 1) := by decide +kernel
theorem dd_X9_letterOf_30 : decode m_X9_letterOf.2.1 30 = .ok (.ireturn, 1) := by decide +kernel
def wp_X9_letterOf_17 (p0 : Int32) (p1 : Int32) (s : fz_s) (Q : Int32 → fz_s → Prop) : Prop :=
  ∀ x1 : Int32, x1 = ((p0 * 6) + p1) → ((x1 < 0 → Q 0 s) ∧ (¬ x1 < 0 → ((x1 < (nI 60) → vp_in x1 60 ∧ Q (s.1 18 x1.toNatClampNeg) s) ∧ (¬ x1 < (nI 60) → Q 0 s))))
set_option maxRecDepth 100000 in
set_option maxHeartbeats 4000000 in
theorem V_X9_letterOf_17 {g : fz_G} {l : Launch} {d : Nat} (hD : 0 ≤ d) {p0 : Int32} {p1 : Int32}  {s : fz_s} {Q : Int32 → fz_s → Prop} (H : wp_X9_letterOf_17 p0 p1 s Q) : fs_V g l m_X9_letterOf d true 0 (fz_en [.ref 17, .int p0, .int p1] 4) [] s (rI Q) := by
  unfold wp_X9_letterOf_17 at H
  refine fs_iload_n (k0 := 1) (i := 1) dd_X9_letterOf_0 rfl rfl ?_
  refine fs_bipush (n := 6) (v := 6) dd_X9_letterOf_1 (by decide) ?_
  refine fs_imul dd_X9_letterOf_3 ?_
  refine fs_iload_n (k0 := 2) (i := 2) dd_X9_letterOf_4 rfl rfl ?_
  refine fs_iadd dd_X9_letterOf_5 ?_
  refine fs_topi (fun x1 hx1 => ?_)
  replace H := H x1 hx1
  refine fs_istore_n (k0 := 3) (i := 3) dd_X9_letterOf_6 rfl (by decide) ?_
  refine fs_iload_n (k0 := 3) (i := 3) dd_X9_letterOf_7 rfl rfl ?_
  refine fs_if_lt (tgt := 20) dd_X9_letterOf_8 (by decide) (fun hc => ?_) (fun hc => ?_)
  · replace H := H.1 hc
    refine fs_iconst (n := 0) (v := 0) dd_X9_letterOf_20 (by decide) ?_
    refine fs_goto (tgt := 30) dd_X9_letterOf_21 (by decide) ?_
    exact fs_iret dd_X9_letterOf_30 rfl H
  · replace H := H.2 hc
    refine fs_iload_n (k0 := 3) (i := 3) dd_X9_letterOf_11 rfl rfl ?_
    refine fs_aload_n (k0 := 0) (i := 0) dd_X9_letterOf_12 rfl rfl ?_
    refine fs_getr (ci := 9) (j := 0) (q := 18) dd_X9_letterOf_13 fl_X9_9 ca_17 rfl (Or.inr ⟨_, rfl⟩) rfl (by decide) ?_
    refine fs_alen dd_X9_letterOf_16 ca_18 ?_
    refine fs_icmp_lt (tgt := 24) dd_X9_letterOf_17 (by decide) (fun hc => ?_) (fun hc => ?_)
    · replace H := H.1 hc
      refine fs_aload_n (k0 := 0) (i := 0) dd_X9_letterOf_24 rfl rfl ?_
      refine fs_getr (ci := 9) (j := 0) (q := 18) dd_X9_letterOf_25 fl_X9_9 ca_17 rfl (Or.inr ⟨_, rfl⟩) rfl (by decide) ?_
      refine fs_iload_n (k0 := 3) (i := 3) dd_X9_letterOf_28 rfl rfl ?_
      have hb := H.1
      replace H := H.2
      refine fs_iald dd_X9_letterOf_29 ca_18 hb ?_
      exact fs_iret dd_X9_letterOf_30 rfl H
    · replace H := H.2 hc
      refine fs_iconst (n := 0) (v := 0) dd_X9_letterOf_20 (by decide) ?_
      refine fs_goto (tgt := 30) dd_X9_letterOf_21 (by decide) ?_
      exact fs_iret dd_X9_letterOf_30 rfl H
theorem dd_X8_letterHere_0 : decode m_X8_letterHere.2.1 0 = .ok (.aload_n 0, 1) := by decide +kernel
theorem dd_X8_letterHere_1 : decode m_X8_letterHere.2.1 1 = .ok (.getfield 47, 3) := by decide +kernel
theorem dd_X8_letterHere_4 : decode m_X8_letterHere.2.1 4 = .ok (.iload_n 1, 1) := by decide +kernel
theorem dd_X8_letterHere_5 : decode m_X8_letterHere.2.1 5 = .ok (.iadd, 1) := by decide +kernel
theorem dd_X8_letterHere_6 : decode m_X8_letterHere.2.1 6 = .ok (.istore_n 2, 1) := by decide +kernel
theorem dd_X8_letterHere_7 : decode m_X8_letterHere.2.1 7 = .ok (.iload_n 1, 1) := by decide +kernel
theorem dd_X8_letterHere_8 : decode m_X8_letterHere.2.1 8 = .ok (.ifCond .lt 11, 3) := by decide +kernel
theorem dd_X8_letterHere_11 : decode m_X8_letterHere.2.1 11 = .ok (.iload_n 2, 1) := by decide +kernel
theorem dd_X8_letterHere_12 : decode m_X8_letterHere.2.1 12 = .ok (.aload_n 0, 1) := by decide +kernel
theorem dd_X8_letterHere_13 : decode m_X8_letterHere.2.1 13 = .ok (.getfield 28, 3) := by decide +kernel
theorem dd_X8_letterHere_16 : decode m_X8_letterHere.2.1 16 = .ok (.if_icmp .lt 7, 3) := by decide +kernel
theorem dd_X8_letterHere_19 : decode m_X8_letterHere.2.1 19 = .ok (.iconst 0, 1) := by decide +kernel
theorem dd_X8_letterHere_20 : decode m_X8_letterHere.2.1 20 = .ok (.goto 14, 3) := by decide +kernel
theorem dd_X8_letterHere_23 : decode m_X8_letterHere.2.1 23 = .ok (.aload_n 0, 1) := by decide +kernel
theorem dd_X8_letterHere_24 : decode m_X8_letterHere.2.1 24 = .ok (.getfield 9, 3) := by decide +kernel
theorem dd_X8_letterHere_27 : decode m_X8_letterHere.2.1 27 = .ok (.iload_n 2, 1) := by decide +kernel
theorem dd_X8_letterHere_28 : decode m_X8_letterHere.2.1 28 = .ok (.iaload, 1) := by decide +kernel
theorem dd_X8_letterHere_29 : decode m_X8_letterHere.2.1 29 = .ok (.bipush 97, 2) := by decide +kernel
theorem dd_X8_letterHere_31 : decode m_X8_letterHere.2.1 31 = .ok (.isub, 1) := by decide +kernel
theorem dd_X8_letterHere_32 : decode m_X8_letterHere.2.1 32 = .ok (.iconst 1, 1) := by decide +kernel
theorem dd_X8_letterHere_33 : decode m_X8_letterHere.2.1 33 = .ok (.iadd, 1) := by decide +kernel
theorem dd_X8_letterHere_34 : decode m_X8_letterHere.2.1 34 = .ok (.ireturn, 1) := by decide +kernel
def wp_X8_letterHere (p0 : Int32) (s : fz_s) (Q : Int32 → fz_s → Prop) : Prop :=
  ∀ x1 : Int32, x1 = ((s.1 4 4) + p0) → ((p0 < 0 → Q 0 s) ∧ (¬ p0 < 0 → ((x1 < (s.1 4 2) → vp_in x1 1600 ∧ Q (((s.1 3 x1.toNatClampNeg) - 97) + 1) s) ∧ (¬ x1 < (s.1 4 2) → Q 0 s))))
set_option maxRecDepth 100000 in
set_option maxHeartbeats 4000000 in
theorem V_X8_letterHere {g : fz_G} {l : Launch} {d : Nat} (hD : 0 ≤ d) {p0 : Int32}  {s : fz_s} {Q : Int32 → fz_s → Prop} (H : wp_X8_letterHere p0 s Q) : fs_V g l m_X8_letterHere d true 0 (fz_en [.ref 4, .int p0] 3) [] s (rI Q) := by
  unfold wp_X8_letterHere at H
  refine fs_aload_n (k0 := 0) (i := 0) dd_X8_letterHere_0 rfl rfl ?_
  refine fs_geti (ci := 8) (j := 4) dd_X8_letterHere_1 fl_X8_47 ca_4 rfl (Or.inl rfl) ?_
  refine fs_iload_n (k0 := 1) (i := 1) dd_X8_letterHere_4 rfl rfl ?_
  refine fs_iadd dd_X8_letterHere_5 ?_
  refine fs_topi (fun x1 hx1 => ?_)
  replace H := H x1 hx1
  refine fs_istore_n (k0 := 2) (i := 2) dd_X8_letterHere_6 rfl (by decide) ?_
  refine fs_iload_n (k0 := 1) (i := 1) dd_X8_letterHere_7 rfl rfl ?_
  refine fs_if_lt (tgt := 19) dd_X8_letterHere_8 (by decide) (fun hc => ?_) (fun hc => ?_)
  · replace H := H.1 hc
    refine fs_iconst (n := 0) (v := 0) dd_X8_letterHere_19 (by decide) ?_
    refine fs_goto (tgt := 34) dd_X8_letterHere_20 (by decide) ?_
    exact fs_iret dd_X8_letterHere_34 rfl H
  · replace H := H.2 hc
    refine fs_iload_n (k0 := 2) (i := 2) dd_X8_letterHere_11 rfl rfl ?_
    refine fs_aload_n (k0 := 0) (i := 0) dd_X8_letterHere_12 rfl rfl ?_
    refine fs_geti (ci := 8) (j := 2) dd_X8_letterHere_13 fl_X8_28 ca_4 rfl (Or.inl rfl) ?_
    refine fs_icmp_lt (tgt := 23) dd_X8_letterHere_16 (by decide) (fun hc => ?_) (fun hc => ?_)
    · replace H := H.1 hc
      refine fs_aload_n (k0 := 0) (i := 0) dd_X8_letterHere_23 rfl rfl ?_
      refine fs_getr (ci := 8) (j := 0) (q := 3) dd_X8_letterHere_24 fl_X8_9 ca_4 rfl (Or.inr ⟨_, rfl⟩) rfl (by decide) ?_
      refine fs_iload_n (k0 := 2) (i := 2) dd_X8_letterHere_27 rfl rfl ?_
      have hb := H.1
      replace H := H.2
      refine fs_iald dd_X8_letterHere_28 ca_3 hb ?_
      refine fs_bipush (n := 97) (v := 97) dd_X8_letterHere_29 (by decide) ?_
      refine fs_isub dd_X8_letterHere_31 ?_
      refine fs_iconst (n := 1) (v := 1) dd_X8_letterHere_32 (by decide) ?_
      refine fs_iadd dd_X8_letterHere_33 ?_
      exact fs_iret dd_X8_letterHere_34 rfl H
    · replace H := H.2 hc
      refine fs_iconst (n := 0) (v := 0) dd_X8_letterHere_19 (by decide) ?_
      refine fs_goto (tgt := 34) dd_X8_letterHere_20 (by decide) ?_
      exact fs_iret dd_X8_letterHere_34 rfl H
theorem dd_X9_isHere_0 : decode m_X9_isHere.2.1 0 = .ok (.iconst 0, 1) := by decide +kernel
theorem dd_X9_isHere_1 : decode m_X9_isHere.2.1 1 = .ok (.istore_n 3, 1) := by decide +kernel
theorem dd_X9_isHere_2 : decode m_X9_isHere.2.1 2 = .ok (.iload_n 3, 1) := by decide +kernel
theorem dd_X9_isHere_3 : decode m_X9_isHere.2.1 3 = .ok (.bipush 6, 2) := by decide +kernel
theorem dd_X9_isHere_5 : decode m_X9_isHere.2.1 5 = .ok (.if_icmp .ge 25, 3) := by decide +kernel
theorem dd_X9_isHere_8 : decode m_X9_isHere.2.1 8 = .ok (.aload_n 0, 1) := by decide +kernel
theorem dd_X9_isHere_9 : decode m_X9_isHere.2.1 9 = .ok (.iload_n 2, 1) := by decide +kernel
theorem dd_X9_isHere_10 : decode m_X9_isHere.2.1 10 = .ok (.iload_n 3, 1) := by decide +kernel
theorem dd_X9_isHere_11 : decode m_X9_isHere.2.1 11 = .ok (.invokevirtual 165, 3) := by decide +kernel
theorem dd_X9_isHere_14 : decode m_X9_isHere.2.1 14 = .ok (.aload_n 1, 1) := by decide +kernel
theorem dd_X9_isHere_15 : decode m_X9_isHere.2.1 15 = .ok (.iload_n 3, 1) := by decide +kernel
theorem dd_X9_isHere_16 : decode m_X9_isHere.2.1 16 = .ok (.invokevirtual 158, 3) := by decide +kernel
theorem dd_X9_isHere_19 : decode m_X9_isHere.2.1 19 = .ok (.if_icmp .eq 5, 3) := by decide +kernel
theorem dd_X9_isHere_22 : decode m_X9_isHere.2.1 22 = .ok (.iconst 0, 1) := by decide +kernel
theorem dd_X9_isHere_23 : decode m_X9_isHere.2.1 23 = .ok (.ireturn, 1) := by decide +kernel
theorem dd_X9_isHere_24 : decode m_X9_isHere.2.1 24 = .ok (.iinc 3 1, 3) := by decide +kernel
theorem dd_X9_isHere_27 : decode m_X9_isHere.2.1 27 = .ok (.goto (-25), 3) := by decide +kernel
theorem dd_X9_isHere_30 : decode m_X9_isHere.2.1 30 = .ok (.iconst 1, 1) := by decide +kernel
theorem dd_X9_isHere_31 : decode m_X9_isHere.2.1 31 = .ok (.ireturn, 1) := by decide +kernel
def nd_X9_isHere_17_2  (K2 : Int32 → Int32 → fz_s → Prop) (Q : Bool → fz_s → Prop) (v2 : Int32) (v3 : Int32) (s : fz_s) : Prop :=
  ((6 ≤ v3 → Q true s) ∧ (¬ 6 ≤ v3 → wp_X9_letterOf_17 v2 v3 s (fun r1 s2 => wp_X8_letterHere v3 s2 (fun r3 s4 => ((r1 = r3 → ∀ x5 : Int32, x5 = v3 + 1 → K2 v2 x5 s4) ∧ (¬ r1 = r3 → Q false s4))))))
def lp_X9_isHere_17_2   (Q : Bool → fz_s → Prop) : Nat → Int32 → Int32 → fz_s → Prop
  | 0 => fun _ _ _ => False
  | n + 1 => nd_X9_isHere_17_2  (lp_X9_isHere_17_2   Q n) Q
def wp_X9_isHere_17 (p1 : Int32) (s : fz_s) (Q : Bool → fz_s → Prop) : Prop :=
  lp_X9_isHere_17_2   Q 2048 p1 0 s
set_option maxRecDepth 100000 in
set_option maxHeartbeats 4000000 in
theorem V_nd_X9_isHere_17_2 {g : fz_G} {l : Launch} {d : Nat} (hD : 1 ≤ d)   {K2 : Int32 → Int32 → fz_s → Prop} {Q : Bool → fz_s → Prop} {v2 : Int32} {v3 : Int32} {s : fz_s} (hK2 : ∀ {v2 : Int32} {v3 : Int32} {s : fz_s}, K2 v2 v3 s → fs_V g l m_X9_isHere d true 2 [.ref 17, .ref 4, .int v2, .int v3] [] s (rZ Q)) (H : nd_X9_isHere_17_2  K2 Q v2 v3 s) : fs_V g l m_X9_isHere d true 2 [.ref 17, .ref 4, .int v2, .int v3] [] s (rZ Q) := by
  obtain ⟨d, rfl⟩ : ∃ e, d = e + 1 := ⟨d - 1, by omega⟩
  unfold nd_X9_isHere_17_2 at H
  refine fs_iload_n (k0 := 3) (i := 3) dd_X9_isHere_2 rfl rfl ?_
  refine fs_bipush (n := 6) (v := 6) dd_X9_isHere_3 (by decide) ?_
  refine fs_icmp_ge (tgt := 30) dd_X9_isHere_5 (by decide) (fun hc => ?_) (fun hc => ?_)
  · replace H := H.1 hc
    refine fs_iconst (n := 1) (v := 1) dd_X9_isHere_30 (by decide) ?_
    exact fs_zret true dd_X9_isHere_31 rfl rfl H
  · replace H := H.2 hc
    refine fs_aload_n (k0 := 0) (i := 0) dd_X9_isHere_8 rfl rfl ?_
    refine fs_iload_n (k0 := 2) (i := 2) dd_X9_isHere_9 rfl rfl ?_
    refine fs_iload_n (k0 := 3) (i := 3) dd_X9_isHere_10 rfl rfl ?_
    refine fs_callV (y := m_X9_letterOf) (as := [.int v2, .int v3]) dd_X9_isHere_11 me_X9_letterOf lk_X9_165 in_X9_letterOf se_X9_letterOf ca_17 rfl rfl rfl (Nat.le_of_ble_eq_true rfl) (Nat.le_of_ble_eq_true rfl) rfl (V_X9_letterOf_17 (by omega)  H) (k2_I fun r1 s2 H => ?_)
    refine fs_aload_n (k0 := 1) (i := 1) dd_X9_isHere_14 rfl rfl ?_
    refine fs_iload_n (k0 := 3) (i := 3) dd_X9_isHere_15 rfl rfl ?_
    refine fs_callV (y := m_X8_letterHere) (as := [.int v3]) dd_X9_isHere_16 me_X8_letterHere lk_X9_158 in_X8_letterHere se_X8_letterHere ca_4 rfl rfl rfl (Nat.le_of_ble_eq_true rfl) (Nat.le_of_ble_eq_true rfl) rfl (V_X8_letterHere (by omega)  H) (k2_I fun r3 s4 H => ?_)
    refine fs_icmp_eq (tgt := 24) dd_X9_isHere_19 (by decide) (fun hc => ?_) (fun hc => ?_)
    · replace H := H.1 hc
      refine fs_iincN (i := 3) (m := 1) (c := 1) dd_X9_isHere_24 rfl (by decide) (by decide) (fun x5 hx5 => ?_)
      replace H := H x5 hx5
      refine fs_goto (tgt := 2) dd_X9_isHere_27 (by decide) ?_
      refine fs_weak (ls2 := [.ref 17, .ref 4, .int v2, .int x5]) (fz_le_e (fz_le_e (fz_le_e (fz_le_e fz_le_n)))) ?_
      exact hK2 H
    · replace H := H.2 hc
      refine fs_iconst (n := 0) (v := 0) dd_X9_isHere_22 (by decide) ?_
      exact fs_zret false dd_X9_isHere_23 rfl rfl H
set_option maxRecDepth 100000 in
set_option maxHeartbeats 4000000 in
theorem V_lp_X9_isHere_17_2 {g : fz_G} {l : Launch} {d : Nat} (hD : 1 ≤ d)    {Q : Bool → fz_s → Prop}  (n : Nat) : ∀ {v2 : Int32} {v3 : Int32} {s : fz_s}, lp_X9_isHere_17_2   Q n v2 v3 s → fs_V g l m_X9_isHere d true 2 [.ref 17, .ref 4, .int v2, .int v3] [] s (rZ Q) := by
  induction n with
  | zero => intro v2 v3 s H; exact H.elim
  | succ n ih => intro v2 v3 s H; exact V_nd_X9_isHere_17_2 hD  (fun H => ih H) H
set_option maxRecDepth 100000 in
set_option maxHeartbeats 4000000 in
theorem V_X9_isHere_17 {g : fz_G} {l : Launch} {d : Nat} (hD : 1 ≤ d) {p1 : Int32}  {s : fz_s} {Q : Bool → fz_s → Prop} (H : wp_X9_isHere_17 p1 s Q) : fs_V g l m_X9_isHere d true 0 (fz_en [.ref 17, .ref 4, .int p1] 4) [] s (rZ Q) := by
  obtain ⟨d, rfl⟩ : ∃ e, d = e + 1 := ⟨d - 1, by omega⟩
  unfold wp_X9_isHere_17 at H
  refine fs_iconst (n := 0) (v := 0) dd_X9_isHere_0 (by decide) ?_
  refine fs_istore_n (k0 := 3) (i := 3) dd_X9_isHere_1 rfl (by decide) ?_
  refine fs_weak (ls2 := [.ref 17, .ref 4, .int p1, .int 0]) (fz_le_e (fz_le_e (fz_le_e (fz_le_e fz_le_n)))) ?_
  exact V_lp_X9_isHere_17_2 hD    2048 H
theorem dd_X9_nameHere_0 : decode m_X9_nameHere.2.1 0 = .ok (.iconst 0, 1) := by decide +kernel
theorem dd_X9_nameHere_1 : decode m_X9_nameHere.2.1 1 = .ok (.istore_n 2, 1) := by decide +kernel
theorem dd_X9_nameHere_2 : decode m_X9_nameHere.2.1 2 = .ok (.iload_n 2, 1) := by decide +kernel
theorem dd_X9_nameHere_3 : decode m_X9_nameHere.2.1 3 = .ok (.aload_n 0, 1) := by decide +kernel
theorem dd_X9_nameHere_4 : decode m_X9_nameHere.2.1 4 = .ok (.getfield 52, 3) := by decide +kernel
theorem dd_X9_nameHere_7 : decode m_X9_nameHere.2.1 7 = .ok (.if_icmp .ge 20, 3) := by decide +kernel
theorem dd_X9_nameHere_10 : decode m_X9_nameHere.2.1 10 = .ok (.aload_n 0, 1) := by decide +kernel
theorem dd_X9_nameHere_11 : decode m_X9_nameHere.2.1 11 = .ok (.aload_n 1, 1) := by decide +kernel
theorem dd_X9_nameHere_12 : decode m_X9_nameHere.2.1 12 = .ok (.iload_n 2, 1) := by decide +kernel
theorem dd_X9_nameHere_13 : decode m_X9_nameHere.2.1 13 = .ok (.invokevirtual 162, 3) := by decide +kernel
theorem dd_X9_nameHere_16 : decode m_X9_nameHere.2.1 16 = .ok (.ifCond .eq 5, 3) := by decide +kernel
theorem dd_X9_nameHere_19 : decode m_X9_nameHere.2.1 19 = .ok (.iload_n 2, 1) := by decide +kernel
theorem dd_X9_nameHere_20 : decode m_X9_nameHere.2.1 20 = .ok (.ireturn, 1) := by decide +kernel
theorem dd_X9_nameHere_21 : decode m_X9_nameHere.2.1 21 = .ok (.iinc 2 1, 3) := by decide +kernel
theorem dd_X9_nameHere_24 : decode m_X9_nameHere.2.1 24 = .ok (.goto (-22), 3) := by decide +kernel
theorem dd_X9_nameHere_27 : decode m_X9_nameHere.2.1 27 = .ok (.iconst 0, 1) := by decide +kernel
theorem dd_X9_nameHere_28 : decode m_X9_nameHere.2.1 28 = .ok (.istore_n 2, 1) := by decide +kernel
theorem dd_X9_nameHere_29 : decode m_X9_nameHere.2.1 29 = .ok (.iload_n 2, 1) := by decide +kernel
theorem dd_X9_nameHere_30 : decode m_X9_nameHere.2.1 30 = .ok (.aload_n 0, 1) := by decide +kernel
theorem dd_X9_nameHere_31 : decode m_X9_nameHere.2.1 31 = .ok (.getfield 55, 3) := by decide +kernel
theorem dd_X9_nameHere_34 : decode m_X9_nameHere.2.1 34 = .ok (.if_icmp .ge 24, 3) := by decide +kernel
theorem dd_X9_nameHere_37 : decode m_X9_nameHere.2.1 37 = .ok (.aload_n 0, 1) := by decide +kernel
theorem dd_X9_nameHere_38 : decode m_X9_nameHere.2.1 38 = .ok (.aload_n 1, 1) := by decide +kernel
theorem dd_X9_nameHere_39 : decode m_X9_nameHere.2.1 39 = .ok (.iconst 2, 1) := by decide +kernel
theorem dd_X9_nameHere_40 : decode m_X9_nameHere.2.1 40 = .ok (.iload_n 2, 1) := by decide +kernel
theorem dd_X9_nameHere_41 : decode m_X9_nameHere.2.1 41 = .ok (.iadd, 1) := by decide +kernel
theorem dd_X9_nameHere_42 : decode m_X9_nameHere.2.1 42 = .ok (.invokevirtual 162, 3) := by decide +kernel
theorem dd_X9_nameHere_45 : decode m_X9_nameHere.2.1 45 = .ok (.ifCond .eq 7, 3) := by decide +kernel
theorem dd_X9_nameHere_48 : decode m_X9_nameHere.2.1 48 = .ok (.iconst 2, 1) := by decide +kernel
theorem dd_X9_nameHere_49 : decode m_X9_nameHere.2.1 49 = .ok (.iload_n 2, 1) := by decide +kernel
theorem dd_X9_nameHere_50 : decode m_X9_nameHere.2.1 50 = .ok (.iadd, 1) := by decide +kernel
theorem dd_X9_nameHere_51 : decode m_X9_nameHere.2.1 51 = .ok (.ireturn, 1) := by decide +kernel
theorem dd_X9_nameHere_52 : decode m_X9_nameHere.2.1 52 = .ok (.iinc 2 1, 3) := by decide +kernel
theorem dd_X9_nameHere_55 : decode m_X9_nameHere.2.1 55 = .ok (.goto (-26), 3) := by decide +kernel
theorem dd_X9_nameHere_58 : decode m_X9_nameHere.2.1 58 = .ok (.iconst (-1), 1) := by decide +kernel
theorem dd_X9_nameHere_59 : decode m_X9_nameHere.2.1 59 = .ok (.ireturn, 1) := by decide +kernel
def nd_X9_nameHere_17_29  (K29 : Int32 → fz_s → Prop) (Q : Int32 → fz_s → Prop) (v2 : Int32) (s : fz_s) : Prop :=
  (((s.1 17 12) ≤ v2 → Q (-1) s) ∧ (¬ (s.1 17 12) ≤ v2 → wp_X9_isHere_17 (2 + v2) s (fun r1 s2 => ((r1 = false → ∀ x3 : Int32, x3 = v2 + 1 → K29 x3 s2) ∧ (r1 = true → Q (2 + v2) s2)))))
def lp_X9_nameHere_17_29   (Q : Int32 → fz_s → Prop) : Nat → Int32 → fz_s → Prop
  | 0 => fun _ _ => False
  | n + 1 => nd_X9_nameHere_17_29  (lp_X9_nameHere_17_29   Q n) Q
def nd_X9_nameHere_17_2  (K2 : Int32 → fz_s → Prop) (Q : Int32 → fz_s → Prop) (v2 : Int32) (s : fz_s) : Prop :=
  (((s.1 17 11) ≤ v2 → lp_X9_nameHere_17_29   Q 2048 0 s) ∧ (¬ (s.1 17 11) ≤ v2 → wp_X9_isHere_17 v2 s (fun r1 s2 => ((r1 = false → ∀ x3 : Int32, x3 = v2 + 1 → K2 x3 s2) ∧ (r1 = true → Q v2 s2)))))
def lp_X9_nameHere_17_2   (Q : Int32 → fz_s → Prop) : Nat → Int32 → fz_s → Prop
  | 0 => fun _ _ => False
  | n + 1 => nd_X9_nameHere_17_2  (lp_X9_nameHere_17_2   Q n) Q
def wp_X9_nameHere_17  (s : fz_s) (Q : Int32 → fz_s → Prop) : Prop :=
  lp_X9_nameHere_17_2   Q 2048 0 s
set_option maxRecDepth 100000 in
set_option maxHeartbeats 4000000 in
theorem V_nd_X9_nameHere_17_29 {g : fz_G} {l : Launch} {d : Nat} (hD : 2 ≤ d)   {K29 : Int32 → fz_s → Prop} {Q : Int32 → fz_s → Prop} {v2 : Int32} {s : fz_s} (hK29 : ∀ {v2 : Int32} {s : fz_s}, K29 v2 s → fs_V g l m_X9_nameHere d true 29 [.ref 17, .ref 4, .int v2] [] s (rI Q)) (H : nd_X9_nameHere_17_29  K29 Q v2 s) : fs_V g l m_X9_nameHere d true 29 [.ref 17, .ref 4, .int v2] [] s (rI Q) := by
  obtain ⟨d, rfl⟩ : ∃ e, d = e + 1 := ⟨d - 1, by omega⟩
  unfold nd_X9_nameHere_17_29 at H
  refine fs_iload_n (k0 := 2) (i := 2) dd_X9_nameHere_29 rfl rfl ?_
  refine fs_aload_n (k0 := 0) (i := 0) dd_X9_nameHere_30 rfl rfl ?_
  refine fs_geti (ci := 9) (j := 12) dd_X9_nameHere_31 fl_X9_55 ca_17 rfl (Or.inl rfl) ?_
  refine fs_icmp_ge (tgt := 58) dd_X9_nameHere_34 (by decide) (fun hc => ?_) (fun hc => ?_)
  · replace H := H.1 hc
    refine fs_iconst (n := -1) (v := -1) dd_X9_nameHere_58 (by decide) ?_
    exact fs_iret dd_X9_nameHere_59 rfl H
  · replace H := H.2 hc
    refine fs_aload_n (k0 := 0) (i := 0) dd_X9_nameHere_37 rfl rfl ?_
    refine fs_aload_n (k0 := 1) (i := 1) dd_X9_nameHere_38 rfl rfl ?_
    refine fs_iconst (n := 2) (v := 2) dd_X9_nameHere_39 (by decide) ?_
    refine fs_iload_n (k0 := 2) (i := 2) dd_X9_nameHere_40 rfl rfl ?_
    refine fs_iadd dd_X9_nameHere_41 ?_
    refine fs_callV (y := m_X9_isHere) (as := [.ref 4, .int (2 + v2)]) dd_X9_nameHere_42 me_X9_isHere lk_X9_162 in_X9_isHere se_X9_isHere ca_17 rfl rfl rfl (Nat.le_of_ble_eq_true rfl) (Nat.le_of_ble_eq_true rfl) rfl (V_X9_isHere_17 (by omega)  H) (k2_Z fun r1 s2 H => ?_)
    refine fs_if_eq (tgt := 52) dd_X9_nameHere_45 (by decide) (fun hc => ?_) (fun hc => ?_)
    · replace H := H.1 (bi_0 hc)
      refine fs_iincN (i := 2) (m := 1) (c := 1) dd_X9_nameHere_52 rfl (by decide) (by decide) (fun x3 hx3 => ?_)
      replace H := H x3 hx3
      refine fs_goto (tgt := 29) dd_X9_nameHere_55 (by decide) ?_
      refine fs_weak (ls2 := [.ref 17, .ref 4, .int x3]) (fz_le_e (fz_le_e (fz_le_e fz_le_n))) ?_
      exact hK29 H
    · replace H := H.2 (bi_1 hc)
      refine fs_iconst (n := 2) (v := 2) dd_X9_nameHere_48 (by decide) ?_
      refine fs_iload_n (k0 := 2) (i := 2) dd_X9_nameHere_49 rfl rfl ?_
      refine fs_iadd dd_X9_nameHere_50 ?_
      exact fs_iret dd_X9_nameHere_51 rfl H
set_option maxRecDepth 100000 in
set_option maxHeartbeats 4000000 in
theorem V_lp_X9_nameHere_17_29 {g : fz_G} {l : Launch} {d : Nat} (hD : 2 ≤ d)    {Q : Int32 → fz_s → Prop}  (n : Nat) : ∀ {v2 : Int32} {s : fz_s}, lp_X9_nameHere_17_29   Q n v2 s → fs_V g l m_X9_nameHere d true 29 [.ref 17, .ref 4, .int v2] [] s (rI Q) := by
  induction n with
  | zero => intro v2 s H; exact H.elim
  | succ n ih => intro v2 s H; exact V_nd_X9_nameHere_17_29 hD  (fun H => ih H) H
set_option maxRecDepth 100000 in
set_option maxHeartbeats 4000000 in
theorem V_nd_X9_nameHere_17_2 {g : fz_G} {l : Launch} {d : Nat} (hD : 2 ≤ d)   {K2 : Int32 → fz_s → Prop} {Q : Int32 → fz_s → Prop} {v2 : Int32} {s : fz_s} (hK2 : ∀ {v2 : Int32} {s : fz_s}, K2 v2 s → fs_V g l m_X9_nameHere d true 2 [.ref 17, .ref 4, .int v2] [] s (rI Q)) (H : nd_X9_nameHere_17_2  K2 Q v2 s) : fs_V g l m_X9_nameHere d true 2 [.ref 17, .ref 4, .int v2] [] s (rI Q) := by
  obtain ⟨d, rfl⟩ : ∃ e, d = e + 1 := ⟨d - 1, by omega⟩
  unfold nd_X9_nameHere_17_2 at H
  refine fs_iload_n (k0 := 2) (i := 2) dd_X9_nameHere_2 rfl rfl ?_
  refine fs_aload_n (k0 := 0) (i := 0) dd_X9_nameHere_3 rfl rfl ?_
  refine fs_geti (ci := 9) (j := 11) dd_X9_nameHere_4 fl_X9_52 ca_17 rfl (Or.inl rfl) ?_
  refine fs_icmp_ge (tgt := 27) dd_X9_nameHere_7 (by decide) (fun hc => ?_) (fun hc => ?_)
  · replace H := H.1 hc
    refine fs_iconst (n := 0) (v := 0) dd_X9_nameHere_27 (by decide) ?_
    refine fs_istore_n (k0 := 2) (i := 2) dd_X9_nameHere_28 rfl (by decide) ?_
    refine fs_weak (ls2 := [.ref 17, .ref 4, .int 0]) (fz_le_e (fz_le_e (fz_le_e fz_le_n))) ?_
    exact V_lp_X9_nameHere_17_29 hD    2048 H
  · replace H := H.2 hc
    refine fs_aload_n (k0 := 0) (i := 0) dd_X9_nameHere_10 rfl rfl ?_
    refine fs_aload_n (k0 := 1) (i := 1) dd_X9_nameHere_11 rfl rfl ?_
    refine fs_iload_n (k0 := 2) (i := 2) dd_X9_nameHere_12 rfl rfl ?_
    refine fs_callV (y := m_X9_isHere) (as := [.ref 4, .int v2]) dd_X9_nameHere_13 me_X9_isHere lk_X9_162 in_X9_isHere se_X9_isHere ca_17 rfl rfl rfl (Nat.le_of_ble_eq_true rfl) (Nat.le_of_ble_eq_true rfl) rfl (V_X9_isHere_17 (by omega)  H) (k2_Z fun r1 s2 H => ?_)
    refine fs_if_eq (tgt := 21) dd_X9_nameHere_16 (by decide) (fun hc => ?_) (fun hc => ?_)
    · replace H := H.1 (bi_0 hc)
      refine fs_iincN (i := 2) (m := 1) (c := 1) dd_X9_nameHere_21 rfl (by decide) (by decide) (fun x3 hx3 => ?_)
      replace H := H x3 hx3
      refine fs_goto (tgt := 2) dd_X9_nameHere_24 (by decide) ?_
      refine fs_weak (ls2 := [.ref 17, .ref 4, .int x3]) (fz_le_e (fz_le_e (fz_le_e fz_le_n))) ?_
      exact hK2 H
    · replace H := H.2 (bi_1 hc)
      refine fs_iload_n (k0 := 2) (i := 2) dd_X9_nameHere_19 rfl rfl ?_
      exact fs_iret dd_X9_nameHere_20 rfl H
set_option maxRecDepth 100000 in
set_option maxHeartbeats 4000000 in
theorem V_lp_X9_nameHere_17_2 {g : fz_G} {l : Launch} {d : Nat} (hD : 2 ≤ d)    {Q : Int32 → fz_s → Prop}  (n : Nat) : ∀ {v2 : Int32} {s : fz_s}, lp_X9_nameHere_17_2   Q n v2 s → fs_V g l m_X9_nameHere d true 2 [.ref 17, .ref 4, .int v2] [] s (rI Q) := by
  induction n with
  | zero => intro v2 s H; exact H.elim
  | succ n ih => intro v2 s H; exact V_nd_X9_nameHere_17_2 hD  (fun H => ih H) H
set_option maxRecDepth 100000 in
set_option maxHeartbeats 4000000 in
theorem V_X9_nameHere_17 {g : fz_G} {l : Launch} {d : Nat} (hD : 2 ≤ d)   {s : fz_s} {Q : Int32 → fz_s → Prop} (H : wp_X9_nameHere_17  s Q) : fs_V g l m_X9_nameHere d true 0 (fz_en [.ref 17, .ref 4] 3) [] s (rI Q) := by
  obtain ⟨d, rfl⟩ : ∃ e, d = e + 1 := ⟨d - 1, by omega⟩
  unfold wp_X9_nameHere_17 at H
  refine fs_iconst (n := 0) (v := 0) dd_X9_nameHere_0 (by decide) ?_
  refine fs_istore_n (k0 := 2) (i := 2) dd_X9_nameHere_1 rfl (by decide) ?_
  refine fs_weak (ls2 := [.ref 17, .ref 4, .int 0]) (fz_le_e (fz_le_e (fz_le_e fz_le_n))) ?_
  exact V_lp_X9_nameHere_17_2 hD    2048 H
theorem dd_X9_endRule_0 : decode m_X9_endRule.2.1 0 = .ok (.aload_n 0, 1) := by decide +kernel
theorem dd_X9_endRule_1 : decode m_X9_endRule.2.1 1 = .ok (.getfield 36, 3) := by decide +kernel
theorem dd_X9_endRule_4 : decode m_X9_endRule.2.1 4 = .ok (.iload_n 2, 1) := by decide +kernel
theorem dd_X9_endRule_5 : decode m_X9_endRule.2.1 5 = .ok (.aload_n 0, 1) := by decide +kernel
theorem dd_X9_endRule_6 : decode m_X9_endRule.2.1 6 = .ok (.getfield 48, 3) := by decide +kernel
theorem dd_X9_endRule_9 : decode m_X9_endRule.2.1 9 = .ok (.iastore, 1) := by decide +kernel
theorem dd_X9_endRule_10 : decode m_X9_endRule.2.1 10 = .ok (.aload_n 0, 1) := by decide +kernel
theorem dd_X9_endRule_11 : decode m_X9_endRule.2.1 11 = .ok (.aload_n 1, 1) := by decide +kernel
theorem dd_X9_endRule_12 : decode m_X9_endRule.2.1 12 = .ok (.getfield 157, 3) := by decide +kernel
theorem dd_X9_endRule_15 : decode m_X9_endRule.2.1 15 = .ok (.putfield 48, 3) := by decide +kernel
theorem dd_X9_endRule_18 : decode m_X9_endRule.2.1 18 = .ok (.aload_n 0, 1) := by decide +kernel
theorem dd_X9_endRule_19 : decode m_X9_endRule.2.1 19 = .ok (.getfield 39, 3) := by decide +kernel
theorem dd_X9_endRule_22 : decode m_X9_endRule.2.1 22 = .ok (.iload_n 2, 1) := by decide +kernel
theorem dd_X9_endRule_23 : decode m_X9_endRule.2.1 23 = .ok (.aload_n 0, 1) := by decide +kernel
theorem dd_X9_endRule_24 : decode m_X9_endRule.2.1 24 = .ok (.getfield 48, 3) := by decide +kernel
theorem dd_X9_endRule_27 : decode m_X9_endRule.2.1 27 = .ok (.iastore, 1) := by decide +kernel
theorem dd_X9_endRule_28 : decode m_X9_endRule.2.1 28 = .ok (.iconst 1, 1) := by decide +kernel
theorem dd_X9_endRule_29 : decode m_X9_endRule.2.1 29 = .ok (.ireturn, 1) := by decide +kernel
def wp_X9_endRule_17 (p1 : Int32) (s : fz_s) (Q : Bool → fz_s → Prop) : Prop :=
  vp_in p1 5 ∧ ∀ s1 : fz_s, s1 = si s 26 p1.toNatClampNeg (s.1 17 10) → ∀ s2 : fz_s, s2 = si s1 17 10 (s1.1 5 4) → vp_in p1 5 ∧ ∀ s3 : fz_s, s3 = si s2 27 p1.toNatClampNeg (s2.1 17 10) → Q true s3
set_option maxRecDepth 100000 in
set_option maxHeartbeats 4000000 in
theorem V_X9_endRule_17 {g : fz_G} {l : Launch} {d : Nat} (hD : 0 ≤ d) {p1 : Int32}  {s : fz_s} {Q : Bool → fz_s → Prop} (H : wp_X9_endRule_17 p1 s Q) : fs_V g l m_X9_endRule d true 0 (fz_en [.ref 17, .ref 5, .int p1] 3) [] s (rZ Q) := by
  unfold wp_X9_endRule_17 at H
  refine fs_aload_n (k0 := 0) (i := 0) dd_X9_endRule_0 rfl rfl ?_
  refine fs_getr (ci := 9) (j := 8) (q := 26) dd_X9_endRule_1 fl_X9_36 ca_17 rfl (Or.inr ⟨_, rfl⟩) rfl (by decide) ?_
  refine fs_iload_n (k0 := 2) (i := 2) dd_X9_endRule_4 rfl rfl ?_
  refine fs_aload_n (k0 := 0) (i := 0) dd_X9_endRule_5 rfl rfl ?_
  refine fs_geti (ci := 9) (j := 10) dd_X9_endRule_6 fl_X9_48 ca_17 rfl (Or.inl rfl) ?_
  have hb := H.1
  replace H := H.2
  refine fs_iast dd_X9_endRule_9 ca_26 hb ?_
  refine fs_tops (fun s1 hs1 => ?_)
  replace H := H s1 hs1
  refine fs_aload_n (k0 := 0) (i := 0) dd_X9_endRule_10 rfl rfl ?_
  refine fs_aload_n (k0 := 1) (i := 1) dd_X9_endRule_11 rfl rfl ?_
  refine fs_geti (ci := 2) (j := 4) dd_X9_endRule_12 fl_X9_157 ca_5 rfl (Or.inl rfl) ?_
  refine fs_puti (ci := 9) (j := 10) dd_X9_endRule_15 fl_X9_48 (fun _ _ _ h => by cases h; rfl) ca_17 rfl (Or.inl rfl) ?_
  refine fs_tops (fun s2 hs2 => ?_)
  replace H := H s2 hs2
  refine fs_aload_n (k0 := 0) (i := 0) dd_X9_endRule_18 rfl rfl ?_
  refine fs_getr (ci := 9) (j := 9) (q := 27) dd_X9_endRule_19 fl_X9_39 ca_17 rfl (Or.inr ⟨_, rfl⟩) rfl (by decide) ?_
  refine fs_iload_n (k0 := 2) (i := 2) dd_X9_endRule_22 rfl rfl ?_
  refine fs_aload_n (k0 := 0) (i := 0) dd_X9_endRule_23 rfl rfl ?_
  refine fs_geti (ci := 9) (j := 10) dd_X9_endRule_24 fl_X9_48 ca_17 rfl (Or.inl rfl) ?_
  have hb := H.1
  replace H := H.2
  refine fs_iast dd_X9_endRule_27 ca_27 hb ?_
  refine fs_tops (fun s3 hs3 => ?_)
  replace H := H s3 hs3
  refine fs_iconst (n := 1) (v := 1) dd_X9_endRule_28 (by decide) ?_
  exact fs_zret true dd_X9_endRule_29 rfl rfl H
theorem dd_X9_addDefault_0 : decode m_X9_addDefault.2.1 0 = .ok (.aload_n 0, 1) := by decide +kernel
theorem dd_X9_addDefault_1 : decode m_X9_addDefault.2.1 1 = .ok (.getfield 36, 3) := by decide +kernel
theorem dd_X9_addDefault_4 : decode m_X9_addDefault.2.1 4 = .ok (.iload_n 1, 1) := by decide +kernel
theorem dd_X9_addDefault_5 : decode m_X9_addDefault.2.1 5 = .ok (.iaload, 1) := by decide +kernel
theorem dd_X9_addDefault_6 : decode m_X9_addDefault.2.1 6 = .ok (.iconst (-1), 1) := by decide +kernel
theorem dd_X9_addDefault_7 : decode m_X9_addDefault.2.1 7 = .ok (.if_icmp .ne 15, 3) := by decide +kernel
theorem dd_X9_addDefault_10 : decode m_X9_addDefault.2.1 10 = .ok (.aload_n 0, 1) := by decide +kernel
theorem dd_X9_addDefault_11 : decode m_X9_addDefault.2.1 11 = .ok (.getfield 48, 3) := by decide +kernel
theorem dd_X9_addDefault_14 : decode m_X9_addDefault.2.1 14 = .ok (.iconst 3, 1) := by decide +kernel
theorem dd_X9_addDefault_15 : decode m_X9_addDefault.2.1 15 = .ok (.iadd, 1) := by decide +kernel
theorem dd_X9_addDefault_16 : decode m_X9_addDefault.2.1 16 = .ok (.sipush 1632, 3) := by decide +kernel
theorem dd_X9_addDefault_19 : decode m_X9_addDefault.2.1 19 = .ok (.if_icmp .le 4, 3) := by decide +kernel
theorem dd_X9_addDefault_22 : decode m_X9_addDefault.2.1 22 = .ok (.return_, 1) := by decide +kernel
theorem dd_X9_addDefault_23 : decode m_X9_addDefault.2.1 23 = .ok (.aload_n 0, 1) := by decide +kernel
theorem dd_X9_addDefault_24 : decode m_X9_addDefault.2.1 24 = .ok (.getfield 33, 3) := by decide +kernel
theorem dd_X9_addDefault_27 : decode m_X9_addDefault.2.1 27 = .ok (.aload_n 0, 1) := by decide +kernel
theorem dd_X9_addDefault_28 : decode m_X9_addDefault.2.1 28 = .ok (.getfield 48, 3) := by decide +kernel
theorem dd_X9_addDefault_31 : decode m_X9_addDefault.2.1 31 = .ok (.iload_n 2, 1) := by decide +kernel
theorem dd_X9_addDefault_32 : decode m_X9_addDefault.2.1 32 = .ok (.iastore, 1) := by decide +kernel
theorem dd_X9_addDefault_33 : decode m_X9_addDefault.2.1 33 = .ok (.aload_n 0, 1) := by decide +kernel
theorem dd_X9_addDefault_34 : decode m_X9_addDefault.2.1 34 = .ok (.getfield 33, 3) := by decide +kernel
theorem dd_X9_addDefault_37 : decode m_X9_addDefault.2.1 37 = .ok (.aload_n 0, 1) := by decide +kernel
theorem dd_X9_addDefault_38 : decode m_X9_addDefault.2.1 38 = .ok (.getfield 48, 3) := by decide +kernel
theorem dd_X9_addDefault_41 : decode m_X9_addDefault.2.1 41 = .ok (.iconst 1, 1) := by decide +kernel
theorem dd_X9_addDefault_42 : decode m_X9_addDefault.2.1 42 = .ok (.iadd, 1) := by decide +kernel
theorem dd_X9_addDefault_43 : decode m_X9_addDefault.2.1 43 = .ok (.iload_n 3, 1) := by decide +kernel
theorem dd_X9_addDefault_44 : decode m_X9_addDefault.2.1 44 = .ok (.iastore, 1) := by decide +kernel
theorem dd_X9_addDefault_45 : decode m_X9_addDefault.2.1 45 = .ok (.aload_n 0, 1) := by decide +kernel
theorem dd_X9_addDefault_46 : decode m_X9_addDefault.2.1 46 = .ok (.getfield 33, 3) := by decide +kernel
theorem dd_X9_addDefault_49 : decode m_X9_addDefault.2.1 49 = .ok (.aload_n 0, 1) := by decide +kernel
theorem dd_X9_addDefault_50 : decode m_X9_addDefault.2.1 50 = .ok (.getfield 48, 3) := by decide +kernel
theorem dd_X9_addDefault_53 : decode m_X9_addDefault.2.1 53 = .ok (.iconst 2, 1) := by decide +kernel
theorem dd_X9_addDefault_54 : decode m_X9_addDefault.2.1 54 = .ok (.iadd, 1) := by decide +kernel
theorem dd_X9_addDefault_55 : decode m_X9_addDefault.2.1 55 = .ok (.iload 4, 2) := by decide +kernel
theorem dd_X9_addDefault_57 : decode m_X9_addDefault.2.1 57 = .ok (.iastore, 1) := by decide +kernel
theorem dd_X9_addDefault_58 : decode m_X9_addDefault.2.1 58 = .ok (.aload_n 0, 1) := by decide +kernel
theorem dd_X9_addDefault_59 : decode m_X9_addDefault.2.1 59 = .ok (.getfield 36, 3) := by decide +kernel
theorem dd_X9_addDefault_62 : decode m_X9_addDefault.2.1 62 = .ok (.iload_n 1, 1) := by decide +kernel
theorem dd_X9_addDefault_63 : decode m_X9_addDefault.2.1 63 = .ok (.aload_n 0, 1) := by decide +kernel
theorem dd_X9_addDefault_64 : decode m_X9_addDefault.2.1 64 = .ok (.getfield 48, 3) := by decide +kernel
theorem dd_X9_addDefault_67 : decode m_X9_addDefault.2.1 67 = .ok (.iastore, 1) := by decide +kernel
theorem dd_X9_addDefault_68 : decode m_X9_addDefault.2.1 68 = .ok (.aload_n 0, 1) := by decide +kernel
theorem dd_X9_addDefault_69 : decode m_X9_addDefault.2.1 69 = .ok (.dup, 1) := by decide +kernel
theorem dd_X9_addDefault_70 : decode m_X9_addDefault.2.1 70 = .ok (.getfield 48, 3) := by decide +kernel
theorem dd_X9_addDefault_73 : decode m_X9_addDefault.2.1 73 = .ok (.iconst 3, 1) := by decide +kernel
theorem dd_X9_addDefault_74 : decode m_X9_addDefault.2.1 74 = .ok (.iadd, 1) := by decide +kernel
theorem dd_X9_addDefault_75 : decode m_X9_addDefault.2.1 75 = .ok (.putfield 48, 3) := by decide +kernel
theorem dd_X9_addDefault_78 : decode m_X9_addDefault.2.1 78 = .ok (.aload_n 0, 1) := by decide +kernel
theorem dd_X9_addDefault_79 : decode m_X9_addDefault.2.1 79 = .ok (.getfield 39, 3) := by decide +kernel
theorem dd_X9_addDefault_82 : decode m_X9_addDefault.2.1 82 = .ok (.iload_n 1, 1) := by decide +kernel
theorem dd_X9_addDefault_83 : decode m_X9_addDefault.2.1 83 = .ok (.aload_n 0, 1) := by decide +kernel
theorem dd_X9_addDefault_84 : decode m_X9_addDefault.2.1 84 = .ok (.getfield 48, 3) := by decide +kernel
theorem dd_X9_addDefault_87 : decode m_X9_addDefault.2.1 87 = .ok (.iastore, 1) := by decide +kernel
theorem dd_X9_addDefault_88 : decode m_X9_addDefault.2.1 88 = .ok (.return_, 1) := by decide +kernel
def wp_X9_addDefault_17 (p0 : Int32) (p1 : Int32) (p2 : Int32) (p3 : Int32) (s : fz_s) (Q : fz_s → Prop) : Prop :=
  vp_in p0 5 ∧ ((¬ (s.1 26 p0.toNatClampNeg) = (-1) → Q s) ∧ ((s.1 26 p0.toNatClampNeg) = (-1) → ((((s.1 17 10) + 3) ≤ 1632 → vp_in (s.1 17 10) 1632 ∧ ∀ s1 : fz_s, s1 = si s 25 (s.1 17 10).toNatClampNeg p1 → vp_in ((s1.1 17 10) + 1) 1632 ∧ ∀ s2 : fz_s, s2 = si s1 25 ((s1.1 17 10) + 1).toNatClampNeg p2 → vp_in ((s2.1 17 10) + 2) 1632 ∧ ∀ s3 : fz_s, s3 = si s2 25 ((s2.1 17 10) + 2).toNatClampNeg p3 → vp_in p0 5 ∧ ∀ s4 : fz_s, s4 = si s3 26 p0.toNatClampNeg (s3.1 17 10) → ∀ s5 : fz_s, s5 = si s4 17 10 ((s4.1 17 10) + 3) → vp_in p0 5 ∧ ∀ s6 : fz_s, s6 = si s5 27 p0.toNatClampNeg (s5.1 17 10) → Q s6) ∧ (¬ ((s.1 17 10) + 3) ≤ 1632 → Q s))))
set_option maxRecDepth 100000 in
set_option maxHeartbeats 4000000 in
theorem V_X9_addDefault_17 {g : fz_G} {l : Launch} {d : Nat} (hD : 0 ≤ d) {p0 : Int32} {p1 : Int32} {p2 : Int32} {p3 : Int32}  {s : fz_s} {Q : fz_s → Prop} (H : wp_X9_addDefault_17 p0 p1 p2 p3 s Q) : fs_V g l m_X9_addDefault d true 0 (fz_en [.ref 17, .int p0, .int p1, .int p2, .int p3] 5) [] s (rV Q) := by
  unfold wp_X9_addDefault_17 at H
  refine fs_aload_n (k0 := 0) (i := 0) dd_X9_addDefault_0 rfl rfl ?_
  refine fs_getr (ci := 9) (j := 8) (q := 26) dd_X9_addDefault_1 fl_X9_36 ca_17 rfl (Or.inr ⟨_, rfl⟩) rfl (by decide) ?_
  refine fs_iload_n (k0 := 1) (i := 1) dd_X9_addDefault_4 rfl rfl ?_
  have hb := H.1
  replace H := H.2
  refine fs_iald dd_X9_addDefault_5 ca_26 hb ?_
  refine fs_iconst (n := -1) (v := -1) dd_X9_addDefault_6 (by decide) ?_
  refine fs_icmp_ne (tgt := 22) dd_X9_addDefault_7 (by decide) (fun hc => ?_) (fun hc => ?_)
  · replace H := H.1 hc
    exact fs_vret dd_X9_addDefault_22 rfl H
  · replace H := H.2 hc
    refine fs_aload_n (k0 := 0) (i := 0) dd_X9_addDefault_10 rfl rfl ?_
    refine fs_geti (ci := 9) (j := 10) dd_X9_addDefault_11 fl_X9_48 ca_17 rfl (Or.inl rfl) ?_
    refine fs_iconst (n := 3) (v := 3) dd_X9_addDefault_14 (by decide) ?_
    refine fs_iadd dd_X9_addDefault_15 ?_
    refine fs_sipush (n := 1632) (v := 1632) dd_X9_addDefault_16 (by decide) ?_
    refine fs_icmp_le (tgt := 23) dd_X9_addDefault_19 (by decide) (fun hc => ?_) (fun hc => ?_)
    · replace H := H.1 hc
      refine fs_aload_n (k0 := 0) (i := 0) dd_X9_addDefault_23 rfl rfl ?_
      refine fs_getr (ci := 9) (j := 7) (q := 25) dd_X9_addDefault_24 fl_X9_33 ca_17 rfl (Or.inr ⟨_, rfl⟩) rfl (by decide) ?_
      refine fs_aload_n (k0 := 0) (i := 0) dd_X9_addDefault_27 rfl rfl ?_
      refine fs_geti (ci := 9) (j := 10) dd_X9_addDefault_28 fl_X9_48 ca_17 rfl (Or.inl rfl) ?_
      refine fs_iload_n (k0 := 2) (i := 2) dd_X9_addDefault_31 rfl rfl ?_
      have hb := H.1
      replace H := H.2
      refine fs_iast dd_X9_addDefault_32 ca_25 hb ?_
      refine fs_tops (fun s1 hs1 => ?_)
      replace H := H s1 hs1
      refine fs_aload_n (k0 := 0) (i := 0) dd_X9_addDefault_33 rfl rfl ?_
      refine fs_getr (ci := 9) (j := 7) (q := 25) dd_X9_addDefault_34 fl_X9_33 ca_17 rfl (Or.inr ⟨_, rfl⟩) rfl (by decide) ?_
      refine fs_aload_n (k0 := 0) (i := 0) dd_X9_addDefault_37 rfl rfl ?_
      refine fs_geti (ci := 9) (j := 10) dd_X9_addDefault_38 fl_X9_48 ca_17 rfl (Or.inl rfl) ?_
      refine fs_iconst (n := 1) (v := 1) dd_X9_addDefault_41 (by decide) ?_
      refine fs_iadd dd_X9_addDefault_42 ?_
      refine fs_iload_n (k0 := 3) (i := 3) dd_X9_addDefault_43 rfl rfl ?_
      have hb := H.1
      replace H := H.2
      refine fs_iast dd_X9_addDefault_44 ca_25 hb ?_
      refine fs_tops (fun s2 hs2 => ?_)
      replace H := H s2 hs2
      refine fs_aload_n (k0 := 0) (i := 0) dd_X9_addDefault_45 rfl rfl ?_
      refine fs_getr (ci := 9) (j := 7) (q := 25) dd_X9_addDefault_46 fl_X9_33 ca_17 rfl (Or.inr ⟨_, rfl⟩) rfl (by decide) ?_
      refine fs_aload_n (k0 := 0) (i := 0) dd_X9_addDefault_49 rfl rfl ?_
      refine fs_geti (ci := 9) (j := 10) dd_X9_addDefault_50 fl_X9_48 ca_17 rfl (Or.inl rfl) ?_
      refine fs_iconst (n := 2) (v := 2) dd_X9_addDefault_53 (by decide) ?_
      refine fs_iadd dd_X9_addDefault_54 ?_
      refine fs_iload (i := 4) dd_X9_addDefault_55 rfl ?_
      have hb := H.1
      replace H := H.2
      refine fs_iast dd_X9_addDefault_57 ca_25 hb ?_
      refine fs_tops (fun s3 hs3 => ?_)
      replace H := H s3 hs3
      refine fs_aload_n (k0 := 0) (i := 0) dd_X9_addDefault_58 rfl rfl ?_
      refine fs_getr (ci := 9) (j := 8) (q := 26) dd_X9_addDefault_59 fl_X9_36 ca_17 rfl (Or.inr ⟨_, rfl⟩) rfl (by decide) ?_
      refine fs_iload_n (k0 := 1) (i := 1) dd_X9_addDefault_62 rfl rfl ?_
      refine fs_aload_n (k0 := 0) (i := 0) dd_X9_addDefault_63 rfl rfl ?_
      refine fs_geti (ci := 9) (j := 10) dd_X9_addDefault_64 fl_X9_48 ca_17 rfl (Or.inl rfl) ?_
      have hb := H.1
      replace H := H.2
      refine fs_iast dd_X9_addDefault_67 ca_26 hb ?_
      refine fs_tops (fun s4 hs4 => ?_)
      replace H := H s4 hs4
      refine fs_aload_n (k0 := 0) (i := 0) dd_X9_addDefault_68 rfl rfl ?_
      refine fs_dup dd_X9_addDefault_69 rfl ?_
      refine fs_geti (ci := 9) (j := 10) dd_X9_addDefault_70 fl_X9_48 ca_17 rfl (Or.inl rfl) ?_
      refine fs_iconst (n := 3) (v := 3) dd_X9_addDefault_73 (by decide) ?_
      refine fs_iadd dd_X9_addDefault_74 ?_
      refine fs_puti (ci := 9) (j := 10) dd_X9_addDefault_75 fl_X9_48 (fun _ _ _ h => by cases h; rfl) ca_17 rfl (Or.inl rfl) ?_
      refine fs_tops (fun s5 hs5 => ?_)
      replace H := H s5 hs5
      refine fs_aload_n (k0 := 0) (i := 0) dd_X9_addDefault_78 rfl rfl ?_
      refine fs_getr (ci := 9) (j := 9) (q := 27) dd_X9_addDefault_79 fl_X9_39 ca_17 rfl (Or.inr ⟨_, rfl⟩) rfl (by decide) ?_
      refine fs_iload_n (k0 := 1) (i := 1) dd_X9_addDefault_82 rfl rfl ?_
      refine fs_aload_n (k0 := 0) (i := 0) dd_X9_addDefault_83 rfl rfl ?_
      refine fs_geti (ci := 9) (j := 10) dd_X9_addDefault_84 fl_X9_48 ca_17 rfl (Or.inl rfl) ?_
      have hb := H.1
      replace H := H.2
      refine fs_iast dd_X9_addDefault_87 ca_27 hb ?_
      refine fs_tops (fun s6 hs6 => ?_)
      replace H := H s6 hs6
      exact fs_vret dd_X9_addDefault_88 rfl H
    · replace H := H.2 hc
      exact fs_vret dd_X9_addDefault_22 rfl H
theorem dd_X9_addDefaults_0 : decode m_X9_addDefaults.2.1 0 = .ok (.aload_n 0, 1) := by decide +kernel
theorem dd_X9_addDefaults_1 : decode m_X9_addDefaults.2.1 1 = .ok (.iconst 0, 1) := by decide +kernel
theorem dd_X9_addDefaults_2 : decode m_X9_addDefaults.2.1 2 = .ok (.bipush 9, 2) := by decide +kernel
theorem dd_X9_addDefaults_4 : decode m_X9_addDefaults.2.1 4 = .ok (.sipush 10003, 3) := by decide +kernel
theorem dd_X9_addDefaults_7 : decode m_X9_addDefaults.2.1 7 = .ok (.sipush 20004, 3) := by decide +kernel
theorem dd_X9_addDefaults_10 : decode m_X9_addDefaults.2.1 10 = .ok (.invokevirtual 169, 3) := by decide +kernel
theorem dd_X9_addDefaults_13 : decode m_X9_addDefaults.2.1 13 = .ok (.aload_n 0, 1) := by decide +kernel
theorem dd_X9_addDefaults_14 : decode m_X9_addDefaults.2.1 14 = .ok (.iconst 1, 1) := by decide +kernel
theorem dd_X9_addDefaults_15 : decode m_X9_addDefaults.2.1 15 = .ok (.sipush 10003, 3) := by decide +kernel
theorem dd_X9_addDefaults_18 : decode m_X9_addDefaults.2.1 18 = .ok (.iconst 5, 1) := by decide +kernel
theorem dd_X9_addDefaults_19 : decode m_X9_addDefaults.2.1 19 = .ok (.sipush 20009, 3) := by decide +kernel
theorem dd_X9_addDefaults_22 : decode m_X9_addDefaults.2.1 22 = .ok (.invokevirtual 169, 3) := by decide +kernel
theorem dd_X9_addDefaults_25 : decode m_X9_addDefaults.2.1 25 = .ok (.aload_n 0, 1) := by decide +kernel
theorem dd_X9_addDefaults_26 : decode m_X9_addDefaults.2.1 26 = .ok (.iconst 2, 1) := by decide +kernel
theorem dd_X9_addDefaults_27 : decode m_X9_addDefaults.2.1 27 = .ok (.sipush 10003, 3) := by decide +kernel
theorem dd_X9_addDefaults_30 : decode m_X9_addDefaults.2.1 30 = .ok (.iconst 4, 1) := by decide +kernel
theorem dd_X9_addDefaults_31 : decode m_X9_addDefaults.2.1 31 = .ok (.sipush 20004, 3) := by decide +kernel
theorem dd_X9_addDefaults_34 : decode m_X9_addDefaults.2.1 34 = .ok (.invokevirtual 169, 3) := by decide +kernel
theorem dd_X9_addDefaults_37 : decode m_X9_addDefaults.2.1 37 = .ok (.aload_n 0, 1) := by decide +kernel
theorem dd_X9_addDefaults_38 : decode m_X9_addDefaults.2.1 38 = .ok (.iconst 3, 1) := by decide +kernel
theorem dd_X9_addDefaults_39 : decode m_X9_addDefaults.2.1 39 = .ok (.sipush 10001, 3) := by decide +kernel
theorem dd_X9_addDefaults_42 : decode m_X9_addDefaults.2.1 42 = .ok (.iconst 0, 1) := by decide +kernel
theorem dd_X9_addDefaults_43 : decode m_X9_addDefaults.2.1 43 = .ok (.sipush 20003, 3) := by decide +kernel
theorem dd_X9_addDefaults_46 : decode m_X9_addDefaults.2.1 46 = .ok (.invokevirtual 169, 3) := by decide +kernel
theorem dd_X9_addDefaults_49 : decode m_X9_addDefaults.2.1 49 = .ok (.aload_n 0, 1) := by decide +kernel
theorem dd_X9_addDefaults_50 : decode m_X9_addDefaults.2.1 50 = .ok (.iconst 4, 1) := by decide +kernel
theorem dd_X9_addDefaults_51 : decode m_X9_addDefaults.2.1 51 = .ok (.iconst 0, 1) := by decide +kernel
theorem dd_X9_addDefaults_52 : decode m_X9_addDefaults.2.1 52 = .ok (.iconst 0, 1) := by decide +kernel
theorem dd_X9_addDefaults_53 : decode m_X9_addDefaults.2.1 53 = .ok (.sipush 20003, 3) := by decide +kernel
theorem dd_X9_addDefaults_56 : decode m_X9_addDefaults.2.1 56 = .ok (.invokevirtual 169, 3) := by decide +kernel
theorem dd_X9_addDefaults_59 : decode m_X9_addDefaults.2.1 59 = .ok (.return_, 1) := by decide +kernel
def wp_X9_addDefaults_17  (s : fz_s) (Q : fz_s → Prop) : Prop :=
  wp_X9_addDefault_17 0 9 10003 20004 s (fun s2 => wp_X9_addDefault_17 1 10003 5 20009 s2 (fun s4 => wp_X9_addDefault_17 2 10003 4 20004 s4 (fun s6 => wp_X9_addDefault_17 3 10001 0 20003 s6 (fun s8 => wp_X9_addDefault_17 4 0 0 20003 s8 (fun s10 => Q s10)))))
set_option maxRecDepth 100000 in
set_option maxHeartbeats 4000000 in
theorem V_X9_addDefaults_17 {g : fz_G} {l : Launch} {d : Nat} (hD : 1 ≤ d)   {s : fz_s} {Q : fz_s → Prop} (H : wp_X9_addDefaults_17  s Q) : fs_V g l m_X9_addDefaults d true 0 (fz_en [.ref 17] 1) [] s (rV Q) := by
  obtain ⟨d, rfl⟩ : ∃ e, d = e + 1 := ⟨d - 1, by omega⟩
  unfold wp_X9_addDefaults_17 at H
  refine fs_aload_n (k0 := 0) (i := 0) dd_X9_addDefaults_0 rfl rfl ?_
  refine fs_iconst (n := 0) (v := 0) dd_X9_addDefaults_1 (by decide) ?_
  refine fs_bipush (n := 9) (v := 9) dd_X9_addDefaults_2 (by decide) ?_
  refine fs_sipush (n := 10003) (v := 10003) dd_X9_addDefaults_4 (by decide) ?_
  refine fs_sipush (n := 20004) (v := 20004) dd_X9_addDefaults_7 (by decide) ?_
  refine fs_callV (y := m_X9_addDefault) (as := [.int 0, .int 9, .int 10003, .int 20004]) dd_X9_addDefaults_10 me_X9_addDefault lk_X9_169 in_X9_addDefault se_X9_addDefault ca_17 rfl rfl rfl (Nat.le_of_ble_eq_true rfl) (Nat.le_of_ble_eq_true rfl) rfl (V_X9_addDefault_17 (by omega)  H) (k2_V fun s2 H => ?_)
  refine fs_aload_n (k0 := 0) (i := 0) dd_X9_addDefaults_13 rfl rfl ?_
  refine fs_iconst (n := 1) (v := 1) dd_X9_addDefaults_14 (by decide) ?_
  refine fs_sipush (n := 10003) (v := 10003) dd_X9_addDefaults_15 (by decide) ?_
  refine fs_iconst (n := 5) (v := 5) dd_X9_addDefaults_18 (by decide) ?_
  refine fs_sipush (n := 20009) (v := 20009) dd_X9_addDefaults_19 (by decide) ?_
  refine fs_callV (y := m_X9_addDefault) (as := [.int 1, .int 10003, .int 5, .int 20009]) dd_X9_addDefaults_22 me_X9_addDefault lk_X9_169 in_X9_addDefault se_X9_addDefault ca_17 rfl rfl rfl (Nat.le_of_ble_eq_true rfl) (Nat.le_of_ble_eq_true rfl) rfl (V_X9_addDefault_17 (by omega)  H) (k2_V fun s4 H => ?_)
  refine fs_aload_n (k0 := 0) (i := 0) dd_X9_addDefaults_25 rfl rfl ?_
  refine fs_iconst (n := 2) (v := 2) dd_X9_addDefaults_26 (by decide) ?_
  refine fs_sipush (n := 10003) (v := 10003) dd_X9_addDefaults_27 (by decide) ?_
  refine fs_iconst (n := 4) (v := 4) dd_X9_addDefaults_30 (by decide) ?_
  refine fs_sipush (n := 20004) (v := 20004) dd_X9_addDefaults_31 (by decide) ?_
  refine fs_callV (y := m_X9_addDefault) (as := [.int 2, .int 10003, .int 4, .int 20004]) dd_X9_addDefaults_34 me_X9_addDefault lk_X9_169 in_X9_addDefault se_X9_addDefault ca_17 rfl rfl rfl (Nat.le_of_ble_eq_true rfl) (Nat.le_of_ble_eq_true rfl) rfl (V_X9_addDefault_17 (by omega)  H) (k2_V fun s6 H => ?_)
  refine fs_aload_n (k0 := 0) (i := 0) dd_X9_addDefaults_37 rfl rfl ?_
  refine fs_iconst (n := 3) (v := 3) dd_X9_addDefaults_38 (by decide) ?_
  refine fs_sipush (n := 10001) (v := 10001) dd_X9_addDefaults_39 (by decide) ?_
  refine fs_iconst (n := 0) (v := 0) dd_X9_addDefaults_42 (by decide) ?_
  refine fs_sipush (n := 20003) (v := 20003) dd_X9_addDefaults_43 (by decide) ?_
  refine fs_callV (y := m_X9_addDefault) (as := [.int 3, .int 10001, .int 0, .int 20003]) dd_X9_addDefaults_46 me_X9_addDefault lk_X9_169 in_X9_addDefault se_X9_addDefault ca_17 rfl rfl rfl (Nat.le_of_ble_eq_true rfl) (Nat.le_of_ble_eq_true rfl) rfl (V_X9_addDefault_17 (by omega)  H) (k2_V fun s8 H => ?_)
  refine fs_aload_n (k0 := 0) (i := 0) dd_X9_addDefaults_49 rfl rfl ?_
  refine fs_iconst (n := 4) (v := 4) dd_X9_addDefaults_50 (by decide) ?_
  refine fs_iconst (n := 0) (v := 0) dd_X9_addDefaults_51 (by decide) ?_
  refine fs_iconst (n := 0) (v := 0) dd_X9_addDefaults_52 (by decide) ?_
  refine fs_sipush (n := 20003) (v := 20003) dd_X9_addDefaults_53 (by decide) ?_
  refine fs_callV (y := m_X9_addDefault) (as := [.int 4, .int 0, .int 0, .int 20003]) dd_X9_addDefaults_56 me_X9_addDefault lk_X9_169 in_X9_addDefault se_X9_addDefault ca_17 rfl rfl rfl (Nat.le_of_ble_eq_true rfl) (Nat.le_of_ble_eq_true rfl) rfl (V_X9_addDefault_17 (by omega)  H) (k2_V fun s10 H => ?_)
  exact fs_vret dd_X9_addDefaults_59 rfl H
theorem dd_X11_takeFault_0 : decode m_X11_takeFault.2.1 0 = .ok (.aload_n 0, 1) := by decide +kernel
theorem dd_X11_takeFault_1 : decode m_X11_takeFault.2.1 1 = .ok (.aload_n 0, 1) := by decide +kernel
theorem dd_X11_takeFault_2 : decode m_X11_takeFault.2.1 2 = .ok (.getfield 18, 3) := by decide +kernel
theorem dd_X11_takeFault_5 : decode m_X11_takeFault.2.1 5 = .ok (.getfield 150, 3) := by decide +kernel
theorem dd_X11_takeFault_8 : decode m_X11_takeFault.2.1 8 = .ok (.putfield 153, 3) := by decide +kernel
theorem dd_X11_takeFault_11 : decode m_X11_takeFault.2.1 11 = .ok (.aload_n 0, 1) := by decide +kernel
theorem dd_X11_takeFault_12 : decode m_X11_takeFault.2.1 12 = .ok (.aload_n 0, 1) := by decide +kernel
theorem dd_X11_takeFault_13 : decode m_X11_takeFault.2.1 13 = .ok (.getfield 18, 3) := by decide +kernel
theorem dd_X11_takeFault_16 : decode m_X11_takeFault.2.1 16 = .ok (.getfield 156, 3) := by decide +kernel
theorem dd_X11_takeFault_19 : decode m_X11_takeFault.2.1 19 = .ok (.putfield 112, 3) := by decide +kernel
theorem dd_X11_takeFault_22 : decode m_X11_takeFault.2.1 22 = .ok (.return_, 1) := by decide +kernel
def wp_X11_takeFault  (s : fz_s) (Q : fz_s → Prop) : Prop :=
  ∀ s1 : fz_s, s1 = si s 2 18 (s.1 4 7) → ∀ s2 : fz_s, s2 = si s1 2 19 (s1.1 4 8) → Q s2
set_option maxRecDepth 100000 in
set_option maxHeartbeats 4000000 in
theorem V_X11_takeFault {g : fz_G} {l : Launch} {d : Nat} (hD : 0 ≤ d)   {s : fz_s} {Q : fz_s → Prop} (H : wp_X11_takeFault  s Q) : fs_V g l m_X11_takeFault d true 0 (fz_en [.ref 2] 1) [] s (rV Q) := by
  unfold wp_X11_takeFault at H
  refine fs_aload_n (k0 := 0) (i := 0) dd_X11_takeFault_0 rfl rfl ?_
  refine fs_aload_n (k0 := 0) (i := 0) dd_X11_takeFault_1 rfl rfl ?_
  refine fs_getr (ci := 11) (j := 2) (q := 4) dd_X11_takeFault_2 fl_X11_18 ca_2 rfl (Or.inl ⟨_, rfl⟩) rfl (by decide) ?_
  refine fs_geti (ci := 8) (j := 7) dd_X11_takeFault_5 fl_X11_150 ca_4 rfl (Or.inl rfl) ?_
  refine fs_puti (ci := 11) (j := 18) dd_X11_takeFault_8 fl_X11_153 (fun _ _ _ h => by cases h; rfl) ca_2 rfl (Or.inl rfl) ?_
  refine fs_tops (fun s1 hs1 => ?_)
  replace H := H s1 hs1
  refine fs_aload_n (k0 := 0) (i := 0) dd_X11_takeFault_11 rfl rfl ?_
  refine fs_aload_n (k0 := 0) (i := 0) dd_X11_takeFault_12 rfl rfl ?_
  refine fs_getr (ci := 11) (j := 2) (q := 4) dd_X11_takeFault_13 fl_X11_18 ca_2 rfl (Or.inl ⟨_, rfl⟩) rfl (by decide) ?_
  refine fs_geti (ci := 8) (j := 8) dd_X11_takeFault_16 fl_X11_156 ca_4 rfl (Or.inl rfl) ?_
  refine fs_puti (ci := 11) (j := 19) dd_X11_takeFault_19 fl_X11_112 (fun _ _ _ h => by cases h; rfl) ca_2 rfl (Or.inl rfl) ?_
  refine fs_tops (fun s2 hs2 => ?_)
  replace H := H s2 hs2
  exact fs_vret dd_X11_takeFault_22 rfl H

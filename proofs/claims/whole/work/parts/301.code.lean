theorem dd_X2_product_0 : decode m_X2_product.2.1 0 = .ok (.aload_n 0, 1) := by decide +kernel
theorem dd_X2_product_1 : decode m_X2_product.2.1 1 = .ok (.iload_n 1, 1) := by decide +kernel
theorem dd_X2_product_2 : decode m_X2_product.2.1 2 = .ok (.invokevirtual 86, 3) := by decide +kernel
theorem dd_X2_product_5 : decode m_X2_product.2.1 5 = .ok (.istore_n 2, 1) := by decide +kernel
theorem dd_X2_product_6 : decode m_X2_product.2.1 6 = .ok (.iconst 0, 1) := by decide +kernel
theorem dd_X2_product_7 : decode m_X2_product.2.1 7 = .ok (.istore_n 3, 1) := by decide +kernel
theorem dd_X2_product_8 : decode m_X2_product.2.1 8 = .ok (.iload_n 3, 1) := by decide +kernel
theorem dd_X2_product_9 : decode m_X2_product.2.1 9 = .ok (.sipush 1600, 3) := by decide +kernel
theorem dd_X2_product_12 : decode m_X2_product.2.1 12 = .ok (.if_icmp .ge 90, 3) := by decide +kernel
theorem dd_X2_product_15 : decode m_X2_product.2.1 15 = .ok (.iload_n 2, 1) := by decide +kernel
theorem dd_X2_product_16 : decode m_X2_product.2.1 16 = .ok (.ifCond .eq 86, 3) := by decide +kernel
theorem dd_X2_product_19 : decode m_X2_product.2.1 19 = .ok (.aload_n 0, 1) := by decide +kernel
theorem dd_X2_product_20 : decode m_X2_product.2.1 20 = .ok (.getfield 9, 3) := by decide +kernel
theorem dd_X2_product_23 : decode m_X2_product.2.1 23 = .ok (.bipush 42, 2) := by decide +kernel
theorem dd_X2_product_25 : decode m_X2_product.2.1 25 = .ok (.invokevirtual 55, 3) := by decide +kernel
theorem dd_X2_product_28 : decode m_X2_product.2.1 28 = .ok (.ifCond .ne 15, 3) := by decide +kernel
theorem dd_X2_product_31 : decode m_X2_product.2.1 31 = .ok (.aload_n 0, 1) := by decide +kernel
theorem dd_X2_product_32 : decode m_X2_product.2.1 32 = .ok (.getfield 9, 3) := by decide +kernel
theorem dd_X2_product_35 : decode m_X2_product.2.1 35 = .ok (.bipush 47, 2) := by decide +kernel
theorem dd_X2_product_37 : decode m_X2_product.2.1 37 = .ok (.invokevirtual 55, 3) := by decide +kernel
theorem dd_X2_product_40 : decode m_X2_product.2.1 40 = .ok (.ifCond .eq 62, 3) := by decide +kernel
theorem dd_X2_product_43 : decode m_X2_product.2.1 43 = .ok (.aload_n 0, 1) := by decide +kernel
theorem dd_X2_product_44 : decode m_X2_product.2.1 44 = .ok (.getfield 9, 3) := by decide +kernel
theorem dd_X2_product_47 : decode m_X2_product.2.1 47 = .ok (.bipush 42, 2) := by decide +kernel
theorem dd_X2_product_49 : decode m_X2_product.2.1 49 = .ok (.invokevirtual 55, 3) := by decide +kernel
theorem dd_X2_product_52 : decode m_X2_product.2.1 52 = .ok (.ifCond .eq 9, 3) := by decide +kernel
theorem dd_X2_product_55 : decode m_X2_product.2.1 55 = .ok (.sipush 20005, 3) := by decide +kernel
theorem dd_X2_product_58 : decode m_X2_product.2.1 58 = .ok (.goto 6, 3) := by decide +kernel
theorem dd_X2_product_61 : decode m_X2_product.2.1 61 = .ok (.sipush 20006, 3) := by decide +kernel
theorem dd_X2_product_64 : decode m_X2_product.2.1 64 = .ok (.istore 4, 2) := by decide +kernel
theorem dd_X2_product_66 : decode m_X2_product.2.1 66 = .ok (.aload_n 0, 1) := by decide +kernel
theorem dd_X2_product_67 : decode m_X2_product.2.1 67 = .ok (.getfield 9, 3) := by decide +kernel
theorem dd_X2_product_70 : decode m_X2_product.2.1 70 = .ok (.invokevirtual 43, 3) := by decide +kernel
theorem dd_X2_product_73 : decode m_X2_product.2.1 73 = .ok (.aload_n 0, 1) := by decide +kernel
theorem dd_X2_product_74 : decode m_X2_product.2.1 74 = .ok (.iload_n 1, 1) := by decide +kernel
theorem dd_X2_product_75 : decode m_X2_product.2.1 75 = .ok (.invokevirtual 86, 3) := by decide +kernel
theorem dd_X2_product_78 : decode m_X2_product.2.1 78 = .ok (.ifCond .eq 16, 3) := by decide +kernel
theorem dd_X2_product_81 : decode m_X2_product.2.1 81 = .ok (.aload_n 0, 1) := by decide +kernel
theorem dd_X2_product_82 : decode m_X2_product.2.1 82 = .ok (.iload 4, 2) := by decide +kernel
theorem dd_X2_product_84 : decode m_X2_product.2.1 84 = .ok (.invokevirtual 46, 3) := by decide +kernel
theorem dd_X2_product_87 : decode m_X2_product.2.1 87 = .ok (.ifCond .eq 7, 3) := by decide +kernel
theorem dd_X2_product_90 : decode m_X2_product.2.1 90 = .ok (.iconst 1, 1) := by decide +kernel
theorem dd_X2_product_91 : decode m_X2_product.2.1 91 = .ok (.goto 4, 3) := by decide +kernel
theorem dd_X2_product_94 : decode m_X2_product.2.1 94 = .ok (.iconst 0, 1) := by decide +kernel
theorem dd_X2_product_95 : decode m_X2_product.2.1 95 = .ok (.istore_n 2, 1) := by decide +kernel
theorem dd_X2_product_96 : decode m_X2_product.2.1 96 = .ok (.iinc 3 1, 3) := by decide +kernel
theorem dd_X2_product_99 : decode m_X2_product.2.1 99 = .ok (.goto (-91), 3) := by decide +kernel
theorem dd_X2_product_102 : decode m_X2_product.2.1 102 = .ok (.iload_n 2, 1) := by decide +kernel
theorem dd_X2_product_103 : decode m_X2_product.2.1 103 = .ok (.ireturn, 1) := by decide +kernel
def nd_X2_product_64 (R : Nat → Int32 → fz_s → (Bool → fz_s → Prop) → Prop)  (K8 : Int32 → Bool → Int32 → fz_s → Prop) (Q : Bool → fz_s → Prop) (v1 : Int32) (v3 : Int32) (u0 : Int32) (s : fz_s) : Prop :=
  wp_X8_next  s (fun s2 => R 5 v1 s2 (fun r3 s4 => ((r3 = false → ∀ x5 : Int32, x5 = v3 + 1 → K8 v1 false x5 s4) ∧ (r3 = true → wp_X2_done u0 s4 (fun r6 s7 => ((r6 = false → ∀ x8 : Int32, x8 = v3 + 1 → K8 v1 false x8 s7) ∧ (r6 = true → ∀ x9 : Int32, x9 = v3 + 1 → K8 v1 true x9 s7)))))))
def nd_X2_product_43 (R : Nat → Int32 → fz_s → (Bool → fz_s → Prop) → Prop)  (K8 : Int32 → Bool → Int32 → fz_s → Prop) (Q : Bool → fz_s → Prop) (v1 : Int32) (v3 : Int32) (s : fz_s) : Prop :=
  wp_X8_isSign 42 s (fun r1 s2 => ((r1 = false → nd_X2_product_64 R  K8 Q v1 v3 20006 s2) ∧ (r1 = true → nd_X2_product_64 R  K8 Q v1 v3 20005 s2)))
def nd_X2_product_8 (R : Nat → Int32 → fz_s → (Bool → fz_s → Prop) → Prop)  (K8 : Int32 → Bool → Int32 → fz_s → Prop) (Q : Bool → fz_s → Prop) (v1 : Int32) (v2 : Bool) (v3 : Int32) (s : fz_s) : Prop :=
  ((1600 ≤ v3 → Q v2 s) ∧ (¬ 1600 ≤ v3 → ((v2 = false → Q v2 s) ∧ (v2 = true → wp_X8_isSign 42 s (fun r1 s2 => ((r1 = true → nd_X2_product_43 R  K8 Q v1 v3 s2) ∧ (r1 = false → wp_X8_isSign 47 s2 (fun r3 s4 => ((r3 = false → Q v2 s4) ∧ (r3 = true → nd_X2_product_43 R  K8 Q v1 v3 s4))))))))))
def lp_X2_product_8 (R : Nat → Int32 → fz_s → (Bool → fz_s → Prop) → Prop)   (Q : Bool → fz_s → Prop) : Nat → Int32 → Bool → Int32 → fz_s → Prop
  | 0 => fun _ _ _ _ => False
  | n + 1 => nd_X2_product_8 R  (lp_X2_product_8 R   Q n) Q
def wp_X2_product (R : Nat → Int32 → fz_s → (Bool → fz_s → Prop) → Prop) (p0 : Int32) (s : fz_s) (Q : Bool → fz_s → Prop) : Prop :=
  R 5 p0 s (fun r1 s2 => lp_X2_product_8 R   Q 2048 p0 r1 0 s2)
set_option maxRecDepth 100000 in
set_option maxHeartbeats 4000000 in
theorem V_nd_X2_product_64 {g : fz_G} {l : Launch} {R : Nat → Int32 → fz_s → (Bool → fz_s → Prop) → Prop} {m0 : Nat} {d : Nat} (hD : m0 + 1 ≤ d) (hm : 10 ≤ m0) (hR : OR g l m0 R)   {K8 : Int32 → Bool → Int32 → fz_s → Prop} {Q : Bool → fz_s → Prop} {v1 : Int32} {v3 : Int32} {u0 : Int32} {s : fz_s} (hK8 : ∀ {v1 : Int32} {v2 : Bool} {v3 : Int32} {s : fz_s}, K8 v1 v2 v3 s → fs_V g l m_X2_product d true 8 [.ref 5, .int v1, .int (bi v2), .int v3, fz_J] [] s (rZ Q)) (H : nd_X2_product_64 R  K8 Q v1 v3 u0 s) : fs_V g l m_X2_product d true 64 [.ref 5, .int v1, fz_J, .int v3, fz_J] [.int u0] s (rZ Q) := by
  obtain ⟨d, rfl⟩ : ∃ e, d = e + 1 := ⟨d - 1, by omega⟩
  unfold nd_X2_product_64 at H
  refine fs_istore (i := 4) dd_X2_product_64 (by decide) ?_
  refine fs_aload_n (k0 := 0) (i := 0) dd_X2_product_66 rfl rfl ?_
  refine fs_getr (ci := 2) (j := 0) (q := 4) dd_X2_product_67 fl_X2_9 ca_5 rfl (Or.inl ⟨_, rfl⟩) rfl (by decide) ?_
  refine fs_callV (y := m_X8_next) (as := []) dd_X2_product_70 me_X8_next lk_X2_43 in_X8_next se_X8_next ca_4 rfl rfl rfl (Nat.le_of_ble_eq_true rfl) (Nat.le_of_ble_eq_true rfl) rfl (V_X8_next (by omega)  H) (k2_V fun s2 H => ?_)
  refine fs_aload_n (k0 := 0) (i := 0) dd_X2_product_73 rfl rfl ?_
  refine fs_iload_n (k0 := 1) (i := 1) dd_X2_product_74 rfl rfl ?_
  refine fs_callV (y := m_X2_part) (as := [.int v1]) dd_X2_product_75 me_X2_part lk_X2_86 in_X2_part se_X2_part ca_5 rfl rfl rfl (Nat.le_of_ble_eq_true rfl) (Nat.le_of_ble_eq_true rfl) rfl (hR 5 _ (by omega) _ _ _ H) (k2_Z fun r3 s4 H => ?_)
  refine fs_if_eq (tgt := 94) dd_X2_product_78 (by decide) (fun hc => ?_) (fun hc => ?_)
  · replace H := H.1 (bi_0 hc)
    refine fs_iconst (n := 0) (v := 0) dd_X2_product_94 (by decide) ?_
    refine fs_istore_n (k0 := 2) (i := 2) dd_X2_product_95 rfl (by decide) ?_
    refine fs_iincN (i := 3) (m := 1) (c := 1) dd_X2_product_96 rfl (by decide) (by decide) (fun x5 hx5 => ?_)
    replace H := H x5 hx5
    refine fs_goto (tgt := 8) dd_X2_product_99 (by decide) ?_
    refine fs_weak (ls2 := [.ref 5, .int v1, .int (bi false), .int x5, fz_J]) (fz_le_e (fz_le_e (fz_le_e (fz_le_e (fz_le_j fz_le_n))))) ?_
    exact hK8 H
  · replace H := H.2 (bi_1 hc)
    refine fs_aload_n (k0 := 0) (i := 0) dd_X2_product_81 rfl rfl ?_
    refine fs_iload (i := 4) dd_X2_product_82 rfl ?_
    refine fs_callV (y := m_X2_done) (as := [.int u0]) dd_X2_product_84 me_X2_done lk_X2_46 in_X2_done se_X2_done ca_5 rfl rfl rfl (Nat.le_of_ble_eq_true rfl) (Nat.le_of_ble_eq_true rfl) rfl (V_X2_done (by omega)  H) (k2_Z fun r6 s7 H => ?_)
    refine fs_if_eq (tgt := 94) dd_X2_product_87 (by decide) (fun hc => ?_) (fun hc => ?_)
    · replace H := H.1 (bi_0 hc)
      refine fs_iconst (n := 0) (v := 0) dd_X2_product_94 (by decide) ?_
      refine fs_istore_n (k0 := 2) (i := 2) dd_X2_product_95 rfl (by decide) ?_
      refine fs_iincN (i := 3) (m := 1) (c := 1) dd_X2_product_96 rfl (by decide) (by decide) (fun x8 hx8 => ?_)
      replace H := H x8 hx8
      refine fs_goto (tgt := 8) dd_X2_product_99 (by decide) ?_
      refine fs_weak (ls2 := [.ref 5, .int v1, .int (bi false), .int x8, fz_J]) (fz_le_e (fz_le_e (fz_le_e (fz_le_e (fz_le_j fz_le_n))))) ?_
      exact hK8 H
    · replace H := H.2 (bi_1 hc)
      refine fs_iconst (n := 1) (v := 1) dd_X2_product_90 (by decide) ?_
      refine fs_goto (tgt := 95) dd_X2_product_91 (by decide) ?_
      refine fs_istore_n (k0 := 2) (i := 2) dd_X2_product_95 rfl (by decide) ?_
      refine fs_iincN (i := 3) (m := 1) (c := 1) dd_X2_product_96 rfl (by decide) (by decide) (fun x9 hx9 => ?_)
      replace H := H x9 hx9
      refine fs_goto (tgt := 8) dd_X2_product_99 (by decide) ?_
      refine fs_weak (ls2 := [.ref 5, .int v1, .int (bi true), .int x9, fz_J]) (fz_le_e (fz_le_e (fz_le_e (fz_le_e (fz_le_j fz_le_n))))) ?_
      exact hK8 H
set_option maxRecDepth 100000 in
set_option maxHeartbeats 4000000 in
theorem V_nd_X2_product_43 {g : fz_G} {l : Launch} {R : Nat → Int32 → fz_s → (Bool → fz_s → Prop) → Prop} {m0 : Nat} {d : Nat} (hD : m0 + 1 ≤ d) (hm : 10 ≤ m0) (hR : OR g l m0 R)   {K8 : Int32 → Bool → Int32 → fz_s → Prop} {Q : Bool → fz_s → Prop} {v1 : Int32} {v3 : Int32} {s : fz_s} (hK8 : ∀ {v1 : Int32} {v2 : Bool} {v3 : Int32} {s : fz_s}, K8 v1 v2 v3 s → fs_V g l m_X2_product d true 8 [.ref 5, .int v1, .int (bi v2), .int v3, fz_J] [] s (rZ Q)) (H : nd_X2_product_43 R  K8 Q v1 v3 s) : fs_V g l m_X2_product d true 43 [.ref 5, .int v1, fz_J, .int v3, fz_J] [] s (rZ Q) := by
  obtain ⟨d, rfl⟩ : ∃ e, d = e + 1 := ⟨d - 1, by omega⟩
  unfold nd_X2_product_43 at H
  refine fs_aload_n (k0 := 0) (i := 0) dd_X2_product_43 rfl rfl ?_
  refine fs_getr (ci := 2) (j := 0) (q := 4) dd_X2_product_44 fl_X2_9 ca_5 rfl (Or.inl ⟨_, rfl⟩) rfl (by decide) ?_
  refine fs_bipush (n := 42) (v := 42) dd_X2_product_47 (by decide) ?_
  refine fs_callV (y := m_X8_isSign) (as := [.int 42]) dd_X2_product_49 me_X8_isSign lk_X2_55 in_X8_isSign se_X8_isSign ca_4 rfl rfl rfl (Nat.le_of_ble_eq_true rfl) (Nat.le_of_ble_eq_true rfl) rfl (V_X8_isSign (by omega)  H) (k2_Z fun r1 s2 H => ?_)
  refine fs_if_eq (tgt := 61) dd_X2_product_52 (by decide) (fun hc => ?_) (fun hc => ?_)
  · replace H := H.1 (bi_0 hc)
    refine fs_sipush (n := 20006) (v := 20006) dd_X2_product_61 (by decide) ?_
    refine fs_weak (ls2 := [.ref 5, .int v1, fz_J, .int v3, fz_J]) (fz_le_e (fz_le_e (fz_le_j (fz_le_e (fz_le_j fz_le_n))))) ?_
    exact V_nd_X2_product_64 hD hm hR  hK8 H
  · replace H := H.2 (bi_1 hc)
    refine fs_sipush (n := 20005) (v := 20005) dd_X2_product_55 (by decide) ?_
    refine fs_goto (tgt := 64) dd_X2_product_58 (by decide) ?_
    refine fs_weak (ls2 := [.ref 5, .int v1, fz_J, .int v3, fz_J]) (fz_le_e (fz_le_e (fz_le_j (fz_le_e (fz_le_j fz_le_n))))) ?_
    exact V_nd_X2_product_64 hD hm hR  hK8 H
set_option maxRecDepth 100000 in
set_option maxHeartbeats 4000000 in
theorem V_nd_X2_product_8 {g : fz_G} {l : Launch} {R : Nat → Int32 → fz_s → (Bool → fz_s → Prop) → Prop} {m0 : Nat} {d : Nat} (hD : m0 + 1 ≤ d) (hm : 10 ≤ m0) (hR : OR g l m0 R)   {K8 : Int32 → Bool → Int32 → fz_s → Prop} {Q : Bool → fz_s → Prop} {v1 : Int32} {v2 : Bool} {v3 : Int32} {s : fz_s} (hK8 : ∀ {v1 : Int32} {v2 : Bool} {v3 : Int32} {s : fz_s}, K8 v1 v2 v3 s → fs_V g l m_X2_product d true 8 [.ref 5, .int v1, .int (bi v2), .int v3, fz_J] [] s (rZ Q)) (H : nd_X2_product_8 R  K8 Q v1 v2 v3 s) : fs_V g l m_X2_product d true 8 [.ref 5, .int v1, .int (bi v2), .int v3, fz_J] [] s (rZ Q) := by
  obtain ⟨d, rfl⟩ : ∃ e, d = e + 1 := ⟨d - 1, by omega⟩
  unfold nd_X2_product_8 at H
  refine fs_iload_n (k0 := 3) (i := 3) dd_X2_product_8 rfl rfl ?_
  refine fs_sipush (n := 1600) (v := 1600) dd_X2_product_9 (by decide) ?_
  refine fs_icmp_ge (tgt := 102) dd_X2_product_12 (by decide) (fun hc => ?_) (fun hc => ?_)
  · replace H := H.1 hc
    refine fs_iload_n (k0 := 2) (i := 2) dd_X2_product_102 rfl rfl ?_
    exact fs_zret v2 dd_X2_product_103 rfl rfl H
  · replace H := H.2 hc
    refine fs_iload_n (k0 := 2) (i := 2) dd_X2_product_15 rfl rfl ?_
    refine fs_if_eq (tgt := 102) dd_X2_product_16 (by decide) (fun hc => ?_) (fun hc => ?_)
    · replace H := H.1 (bi_0 hc)
      refine fs_iload_n (k0 := 2) (i := 2) dd_X2_product_102 rfl rfl ?_
      exact fs_zret v2 dd_X2_product_103 rfl rfl H
    · replace H := H.2 (bi_1 hc)
      refine fs_aload_n (k0 := 0) (i := 0) dd_X2_product_19 rfl rfl ?_
      refine fs_getr (ci := 2) (j := 0) (q := 4) dd_X2_product_20 fl_X2_9 ca_5 rfl (Or.inl ⟨_, rfl⟩) rfl (by decide) ?_
      refine fs_bipush (n := 42) (v := 42) dd_X2_product_23 (by decide) ?_
      refine fs_callV (y := m_X8_isSign) (as := [.int 42]) dd_X2_product_25 me_X8_isSign lk_X2_55 in_X8_isSign se_X8_isSign ca_4 rfl rfl rfl (Nat.le_of_ble_eq_true rfl) (Nat.le_of_ble_eq_true rfl) rfl (V_X8_isSign (by omega)  H) (k2_Z fun r1 s2 H => ?_)
      refine fs_if_ne (tgt := 43) dd_X2_product_28 (by decide) (fun hc => ?_) (fun hc => ?_)
      · replace H := H.1 (bi_1 hc)
        refine fs_weak (ls2 := [.ref 5, .int v1, fz_J, .int v3, fz_J]) (fz_le_e (fz_le_e (fz_le_j (fz_le_e (fz_le_j fz_le_n))))) ?_
        exact V_nd_X2_product_43 hD hm hR  hK8 H
      · replace H := H.2 (bi_0 hc)
        refine fs_aload_n (k0 := 0) (i := 0) dd_X2_product_31 rfl rfl ?_
        refine fs_getr (ci := 2) (j := 0) (q := 4) dd_X2_product_32 fl_X2_9 ca_5 rfl (Or.inl ⟨_, rfl⟩) rfl (by decide) ?_
        refine fs_bipush (n := 47) (v := 47) dd_X2_product_35 (by decide) ?_
        refine fs_callV (y := m_X8_isSign) (as := [.int 47]) dd_X2_product_37 me_X8_isSign lk_X2_55 in_X8_isSign se_X8_isSign ca_4 rfl rfl rfl (Nat.le_of_ble_eq_true rfl) (Nat.le_of_ble_eq_true rfl) rfl (V_X8_isSign (by omega)  H) (k2_Z fun r3 s4 H => ?_)
        refine fs_if_eq (tgt := 102) dd_X2_product_40 (by decide) (fun hc => ?_) (fun hc => ?_)
        · replace H := H.1 (bi_0 hc)
          refine fs_iload_n (k0 := 2) (i := 2) dd_X2_product_102 rfl rfl ?_
          exact fs_zret v2 dd_X2_product_103 rfl rfl H
        · replace H := H.2 (bi_1 hc)
          refine fs_weak (ls2 := [.ref 5, .int v1, fz_J, .int v3, fz_J]) (fz_le_e (fz_le_e (fz_le_j (fz_le_e (fz_le_j fz_le_n))))) ?_
          exact V_nd_X2_product_43 hD hm hR  hK8 H
set_option maxRecDepth 100000 in
set_option maxHeartbeats 4000000 in
theorem V_lp_X2_product_8 {g : fz_G} {l : Launch} {R : Nat → Int32 → fz_s → (Bool → fz_s → Prop) → Prop} {m0 : Nat} {d : Nat} (hD : m0 + 1 ≤ d) (hm : 10 ≤ m0) (hR : OR g l m0 R)    {Q : Bool → fz_s → Prop}  (n : Nat) : ∀ {v1 : Int32} {v2 : Bool} {v3 : Int32} {s : fz_s}, lp_X2_product_8 R   Q n v1 v2 v3 s → fs_V g l m_X2_product d true 8 [.ref 5, .int v1, .int (bi v2), .int v3, fz_J] [] s (rZ Q) := by
  induction n with
  | zero => intro v1 v2 v3 s H; exact H.elim
  | succ n ih => intro v1 v2 v3 s H; exact V_nd_X2_product_8 hD hm hR  (fun H => ih H) H
set_option maxRecDepth 100000 in
set_option maxHeartbeats 4000000 in
theorem V_X2_product {g : fz_G} {l : Launch} {R : Nat → Int32 → fz_s → (Bool → fz_s → Prop) → Prop} {m0 : Nat} {d : Nat} (hD : m0 + 1 ≤ d) (hm : 10 ≤ m0) (hR : OR g l m0 R) {p0 : Int32}  {s : fz_s} {Q : Bool → fz_s → Prop} (H : wp_X2_product R p0 s Q) : fs_V g l m_X2_product d true 0 (fz_en [.ref 5, .int p0] 5) [] s (rZ Q) := by
  obtain ⟨d, rfl⟩ : ∃ e, d = e + 1 := ⟨d - 1, by omega⟩
  unfold wp_X2_product at H
  refine fs_aload_n (k0 := 0) (i := 0) dd_X2_product_0 rfl rfl ?_
  refine fs_iload_n (k0 := 1) (i := 1) dd_X2_product_1 rfl rfl ?_
  refine fs_callV (y := m_X2_part) (as := [.int p0]) dd_X2_product_2 me_X2_part lk_X2_86 in_X2_part se_X2_part ca_5 rfl rfl rfl (Nat.le_of_ble_eq_true rfl) (Nat.le_of_ble_eq_true rfl) rfl (hR 5 _ (by omega) _ _ _ H) (k2_Z fun r1 s2 H => ?_)
  refine fs_istore_n (k0 := 2) (i := 2) dd_X2_product_5 rfl (by decide) ?_
  refine fs_iconst (n := 0) (v := 0) dd_X2_product_6 (by decide) ?_
  refine fs_istore_n (k0 := 3) (i := 3) dd_X2_product_7 rfl (by decide) ?_
  refine fs_weak (ls2 := [.ref 5, .int p0, .int (bi r1), .int 0, fz_J]) (fz_le_e (fz_le_e (fz_le_e (fz_le_e (fz_le_j fz_le_n))))) ?_
  exact V_lp_X2_product_8 hD hm hR   2048 H
theorem dd_X8_takeNumber_0 : decode m_X8_takeNumber.2.1 0 = .ok (.aload_n 0, 1) := by decide +kernel
theorem dd_X8_takeNumber_1 : decode m_X8_takeNumber.2.1 1 = .ok (.getfield 31, 3) := by decide +kernel
theorem dd_X8_takeNumber_4 : decode m_X8_takeNumber.2.1 4 = .ok (.iconst 2, 1) := by decide +kernel
theorem dd_X8_takeNumber_5 : decode m_X8_takeNumber.2.1 5 = .ok (.if_icmp .eq 8, 3) := by decide +kernel
theorem dd_X8_takeNumber_8 : decode m_X8_takeNumber.2.1 8 = .ok (.aload_n 0, 1) := by decide +kernel
theorem dd_X8_takeNumber_9 : decode m_X8_takeNumber.2.1 9 = .ok (.invokevirtual 75, 3) := by decide +kernel
theorem dd_X8_takeNumber_12 : decode m_X8_takeNumber.2.1 12 = .ok (.ireturn, 1) := by decide +kernel
theorem dd_X8_takeNumber_13 : decode m_X8_takeNumber.2.1 13 = .ok (.aload_n 0, 1) := by decide +kernel
theorem dd_X8_takeNumber_14 : decode m_X8_takeNumber.2.1 14 = .ok (.getfield 28, 3) := by decide +kernel
theorem dd_X8_takeNumber_17 : decode m_X8_takeNumber.2.1 17 = .ok (.aload_n 0, 1) := by decide +kernel
theorem dd_X8_takeNumber_18 : decode m_X8_takeNumber.2.1 18 = .ok (.getfield 47, 3) := by decide +kernel
theorem dd_X8_takeNumber_21 : decode m_X8_takeNumber.2.1 21 = .ok (.isub, 1) := by decide +kernel
theorem dd_X8_takeNumber_22 : decode m_X8_takeNumber.2.1 22 = .ok (.iconst 4, 1) := by decide +kernel
theorem dd_X8_takeNumber_23 : decode m_X8_takeNumber.2.1 23 = .ok (.if_icmp .le 15, 3) := by decide +kernel
theorem dd_X8_takeNumber_26 : decode m_X8_takeNumber.2.1 26 = .ok (.aload_n 0, 1) := by decide +kernel
theorem dd_X8_takeNumber_27 : decode m_X8_takeNumber.2.1 27 = .ok (.iconst 1, 1) := by decide +kernel
theorem dd_X8_takeNumber_28 : decode m_X8_takeNumber.2.1 28 = .ok (.aload_n 0, 1) := by decide +kernel
theorem dd_X8_takeNumber_29 : decode m_X8_takeNumber.2.1 29 = .ok (.getfield 47, 3) := by decide +kernel
theorem dd_X8_takeNumber_32 : decode m_X8_takeNumber.2.1 32 = .ok (.iconst 4, 1) := by decide +kernel
theorem dd_X8_takeNumber_33 : decode m_X8_takeNumber.2.1 33 = .ok (.iadd, 1) := by decide +kernel
theorem dd_X8_takeNumber_34 : decode m_X8_takeNumber.2.1 34 = .ok (.invokevirtual 67, 3) := by decide +kernel
theorem dd_X8_takeNumber_37 : decode m_X8_takeNumber.2.1 37 = .ok (.ireturn, 1) := by decide +kernel
theorem dd_X8_takeNumber_38 : decode m_X8_takeNumber.2.1 38 = .ok (.aload_n 0, 1) := by decide +kernel
theorem dd_X8_takeNumber_39 : decode m_X8_takeNumber.2.1 39 = .ok (.iconst 0, 1) := by decide +kernel
theorem dd_X8_takeNumber_40 : decode m_X8_takeNumber.2.1 40 = .ok (.putfield 83, 3) := by decide +kernel
theorem dd_X8_takeNumber_43 : decode m_X8_takeNumber.2.1 43 = .ok (.aload_n 0, 1) := by decide +kernel
theorem dd_X8_takeNumber_44 : decode m_X8_takeNumber.2.1 44 = .ok (.getfield 47, 3) := by decide +kernel
theorem dd_X8_takeNumber_47 : decode m_X8_takeNumber.2.1 47 = .ok (.istore_n 2, 1) := by decide +kernel
theorem dd_X8_takeNumber_48 : decode m_X8_takeNumber.2.1 48 = .ok (.iload_n 2, 1) := by decide +kernel
theorem dd_X8_takeNumber_49 : decode m_X8_takeNumber.2.1 49 = .ok (.aload_n 0, 1) := by decide +kernel
theorem dd_X8_takeNumber_50 : decode m_X8_takeNumber.2.1 50 = .ok (.getfield 28, 3) := by decide +kernel
theorem dd_X8_takeNumber_53 : decode m_X8_takeNumber.2.1 53 = .ok (.if_icmp .ge 30, 3) := by decide +kernel
theorem dd_X8_takeNumber_56 : decode m_X8_takeNumber.2.1 56 = .ok (.aload_n 0, 1) := by decide +kernel
theorem dd_X8_takeNumber_57 : decode m_X8_takeNumber.2.1 57 = .ok (.aload_n 0, 1) := by decide +kernel
theorem dd_X8_takeNumber_58 : decode m_X8_takeNumber.2.1 58 = .ok (.getfield 83, 3) := by decide +kernel
theorem dd_X8_takeNumber_61 : decode m_X8_takeNumber.2.1 61 = .ok (.bipush 10, 2) := by decide +kernel
theorem dd_X8_takeNumber_63 : decode m_X8_takeNumber.2.1 63 = .ok (.imul, 1) := by decide +kernel
theorem dd_X8_takeNumber_64 : decode m_X8_takeNumber.2.1 64 = .ok (.aload_n 0, 1) := by decide +kernel
theorem dd_X8_takeNumber_65 : decode m_X8_takeNumber.2.1 65 = .ok (.getfield 9, 3) := by decide +kernel
theorem dd_X8_takeNumber_68 : decode m_X8_takeNumber.2.1 68 = .ok (.iload_n 2, 1) := by decide +kernel
theorem dd_X8_takeNumber_69 : decode m_X8_takeNumber.2.1 69 = .ok (.iaload, 1) := by decide +kernel
theorem dd_X8_takeNumber_70 : decode m_X8_takeNumber.2.1 70 = .ok (.iadd, 1) := by decide +kernel
theorem dd_X8_takeNumber_71 : decode m_X8_takeNumber.2.1 71 = .ok (.bipush 48, 2) := by decide +kernel
theorem dd_X8_takeNumber_73 : decode m_X8_takeNumber.2.1 73 = .ok (.isub, 1) := by decide +kernel
theorem dd_X8_takeNumber_74 : decode m_X8_takeNumber.2.1 74 = .ok (.putfield 83, 3) := by decide +kernel
theorem dd_X8_takeNumber_77 : decode m_X8_takeNumber.2.1 77 = .ok (.iinc 2 1, 3) := by decide +kernel
theorem dd_X8_takeNumber_80 : decode m_X8_takeNumber.2.1 80 = .ok (.goto (-32), 3) := by decide +kernel
theorem dd_X8_takeNumber_83 : decode m_X8_takeNumber.2.1 83 = .ok (.aload_n 0, 1) := by decide +kernel
theorem dd_X8_takeNumber_84 : decode m_X8_takeNumber.2.1 84 = .ok (.getfield 83, 3) := by decide +kernel
theorem dd_X8_takeNumber_87 : decode m_X8_takeNumber.2.1 87 = .ok (.iload_n 1, 1) := by decide +kernel
theorem dd_X8_takeNumber_88 : decode m_X8_takeNumber.2.1 88 = .ok (.if_icmp .le 13, 3) := by decide +kernel
theorem dd_X8_takeNumber_91 : decode m_X8_takeNumber.2.1 91 = .ok (.aload_n 0, 1) := by decide +kernel
theorem dd_X8_takeNumber_92 : decode m_X8_takeNumber.2.1 92 = .ok (.iconst 2, 1) := by decide +kernel
theorem dd_X8_takeNumber_93 : decode m_X8_takeNumber.2.1 93 = .ok (.aload_n 0, 1) := by decide +kernel
theorem dd_X8_takeNumber_94 : decode m_X8_takeNumber.2.1 94 = .ok (.getfield 47, 3) := by decide +kernel
theorem dd_X8_takeNumber_97 : decode m_X8_takeNumber.2.1 97 = .ok (.invokevirtual 67, 3) := by decide +kernel
theorem dd_X8_takeNumber_100 : decode m_X8_takeNumber.2.1 100 = .ok (.ireturn, 1) := by decide +kernel
theorem dd_X8_takeNumber_101 : decode m_X8_takeNumber.2.1 101 = .ok (.aload_n 0, 1) := by decide +kernel
theorem dd_X8_takeNumber_102 : decode m_X8_takeNumber.2.1 102 = .ok (.invokevirtual 40, 3) := by decide +kernel
theorem dd_X8_takeNumber_105 : decode m_X8_takeNumber.2.1 105 = .ok (.iconst 1, 1) := by decide +kernel
theorem dd_X8_takeNumber_106 : decode m_X8_takeNumber.2.1 106 = .ok (.ireturn, 1) := by decide +kernel
def nd_X8_takeNumber_48  (K48 : Int32 → Int32 → fz_s → Prop) (Q : Bool → fz_s → Prop) (v1 : Int32) (v2 : Int32) (s : fz_s) : Prop :=
  (((s.1 4 2) ≤ v2 → (((s.1 4 6) ≤ v1 → wp_X8_next  s (fun s2 => Q true s2)) ∧ (¬ (s.1 4 6) ≤ v1 → wp_X8_fail 2 (s.1 4 4) s (fun r3 s4 => Q r3 s4)))) ∧ (¬ (s.1 4 2) ≤ v2 → vp_in v2 1600 ∧ ∀ s5 : fz_s, s5 = si s 4 6 ((((s.1 4 6) * 10) + (s.1 3 v2.toNatClampNeg)) - 48) → ∀ x6 : Int32, x6 = v2 + 1 → K48 v1 x6 s5))
def lp_X8_takeNumber_48   (Q : Bool → fz_s → Prop) : Nat → Int32 → Int32 → fz_s → Prop
  | 0 => fun _ _ _ => False
  | n + 1 => nd_X8_takeNumber_48  (lp_X8_takeNumber_48   Q n) Q
def wp_X8_takeNumber (p0 : Int32) (s : fz_s) (Q : Bool → fz_s → Prop) : Prop :=
  (((s.1 4 3) = 2 → ((((s.1 4 2) - (s.1 4 4)) ≤ 4 → ∀ s1 : fz_s, s1 = si s 4 6 0 → ∀ x2 : Int32, x2 = (s1.1 4 4) → lp_X8_takeNumber_48   Q 2048 p0 x2 s1) ∧ (¬ ((s.1 4 2) - (s.1 4 4)) ≤ 4 → wp_X8_fail 1 ((s.1 4 4) + 4) s (fun r3 s4 => Q r3 s4)))) ∧ (¬ (s.1 4 3) = 2 → wp_X8_failHere  s (fun r5 s6 => Q r5 s6)))
set_option maxRecDepth 100000 in
set_option maxHeartbeats 4000000 in
theorem V_nd_X8_takeNumber_48 {g : fz_G} {l : Launch} {d : Nat} (hD : 10 ≤ d)   {K48 : Int32 → Int32 → fz_s → Prop} {Q : Bool → fz_s → Prop} {v1 : Int32} {v2 : Int32} {s : fz_s} (hK48 : ∀ {v1 : Int32} {v2 : Int32} {s : fz_s}, K48 v1 v2 s → fs_V g l m_X8_takeNumber d true 48 [.ref 4, .int v1, .int v2] [] s (rZ Q)) (H : nd_X8_takeNumber_48  K48 Q v1 v2 s) : fs_V g l m_X8_takeNumber d true 48 [.ref 4, .int v1, .int v2] [] s (rZ Q) := by
  obtain ⟨d, rfl⟩ : ∃ e, d = e + 1 := ⟨d - 1, by omega⟩
  unfold nd_X8_takeNumber_48 at H
  refine fs_iload_n (k0 := 2) (i := 2) dd_X8_takeNumber_48 rfl rfl ?_
  refine fs_aload_n (k0 := 0) (i := 0) dd_X8_takeNumber_49 rfl rfl ?_
  refine fs_geti (ci := 8) (j := 2) dd_X8_takeNumber_50 fl_X8_28 ca_4 rfl (Or.inl rfl) ?_
  refine fs_icmp_ge (tgt := 83) dd_X8_takeNumber_53 (by decide) (fun hc => ?_) (fun hc => ?_)
  · replace H := H.1 hc
    refine fs_aload_n (k0 := 0) (i := 0) dd_X8_takeNumber_83 rfl rfl ?_
    refine fs_geti (ci := 8) (j := 6) dd_X8_takeNumber_84 fl_X8_83 ca_4 rfl (Or.inl rfl) ?_
    refine fs_iload_n (k0 := 1) (i := 1) dd_X8_takeNumber_87 rfl rfl ?_
    refine fs_icmp_le (tgt := 101) dd_X8_takeNumber_88 (by decide) (fun hc => ?_) (fun hc => ?_)
    · replace H := H.1 hc
      refine fs_aload_n (k0 := 0) (i := 0) dd_X8_takeNumber_101 rfl rfl ?_
      refine fs_callV (y := m_X8_next) (as := []) dd_X8_takeNumber_102 me_X8_next lk_X8_40 in_X8_next se_X8_next ca_4 rfl rfl rfl (Nat.le_of_ble_eq_true rfl) (Nat.le_of_ble_eq_true rfl) rfl (V_X8_next (by omega)  H) (k2_V fun s2 H => ?_)
      refine fs_iconst (n := 1) (v := 1) dd_X8_takeNumber_105 (by decide) ?_
      exact fs_zret true dd_X8_takeNumber_106 rfl rfl H
    · replace H := H.2 hc
      refine fs_aload_n (k0 := 0) (i := 0) dd_X8_takeNumber_91 rfl rfl ?_
      refine fs_iconst (n := 2) (v := 2) dd_X8_takeNumber_92 (by decide) ?_
      refine fs_aload_n (k0 := 0) (i := 0) dd_X8_takeNumber_93 rfl rfl ?_
      refine fs_geti (ci := 8) (j := 4) dd_X8_takeNumber_94 fl_X8_47 ca_4 rfl (Or.inl rfl) ?_
      refine fs_callV (y := m_X8_fail) (as := [.int 2, .int (s.1 4 4)]) dd_X8_takeNumber_97 me_X8_fail lk_X8_67 in_X8_fail se_X8_fail ca_4 rfl rfl rfl (Nat.le_of_ble_eq_true rfl) (Nat.le_of_ble_eq_true rfl) rfl (V_X8_fail (by omega)  H) (k2_Z fun r3 s4 H => ?_)
      exact fs_zret r3 dd_X8_takeNumber_100 rfl rfl H
  · replace H := H.2 hc
    refine fs_aload_n (k0 := 0) (i := 0) dd_X8_takeNumber_56 rfl rfl ?_
    refine fs_aload_n (k0 := 0) (i := 0) dd_X8_takeNumber_57 rfl rfl ?_
    refine fs_geti (ci := 8) (j := 6) dd_X8_takeNumber_58 fl_X8_83 ca_4 rfl (Or.inl rfl) ?_
    refine fs_bipush (n := 10) (v := 10) dd_X8_takeNumber_61 (by decide) ?_
    refine fs_imul dd_X8_takeNumber_63 ?_
    refine fs_aload_n (k0 := 0) (i := 0) dd_X8_takeNumber_64 rfl rfl ?_
    refine fs_getr (ci := 8) (j := 0) (q := 3) dd_X8_takeNumber_65 fl_X8_9 ca_4 rfl (Or.inr ⟨_, rfl⟩) rfl (by decide) ?_
    refine fs_iload_n (k0 := 2) (i := 2) dd_X8_takeNumber_68 rfl rfl ?_
    have hb := H.1
    replace H := H.2
    refine fs_iald dd_X8_takeNumber_69 ca_3 hb ?_
    refine fs_iadd dd_X8_takeNumber_70 ?_
    refine fs_bipush (n := 48) (v := 48) dd_X8_takeNumber_71 (by decide) ?_
    refine fs_isub dd_X8_takeNumber_73 ?_
    refine fs_puti (ci := 8) (j := 6) dd_X8_takeNumber_74 fl_X8_83 (fun _ _ _ h => by cases h; rfl) ca_4 rfl (Or.inl rfl) ?_
    refine fs_tops (fun s5 hs5 => ?_)
    replace H := H s5 hs5
    refine fs_iincN (i := 2) (m := 1) (c := 1) dd_X8_takeNumber_77 rfl (by decide) (by decide) (fun x6 hx6 => ?_)
    replace H := H x6 hx6
    refine fs_goto (tgt := 48) dd_X8_takeNumber_80 (by decide) ?_
    refine fs_weak (ls2 := [.ref 4, .int v1, .int x6]) (fz_le_e (fz_le_e (fz_le_e fz_le_n))) ?_
    exact hK48 H
set_option maxRecDepth 100000 in
set_option maxHeartbeats 4000000 in
theorem V_lp_X8_takeNumber_48 {g : fz_G} {l : Launch} {d : Nat} (hD : 10 ≤ d)    {Q : Bool → fz_s → Prop}  (n : Nat) : ∀ {v1 : Int32} {v2 : Int32} {s : fz_s}, lp_X8_takeNumber_48   Q n v1 v2 s → fs_V g l m_X8_takeNumber d true 48 [.ref 4, .int v1, .int v2] [] s (rZ Q) := by
  induction n with
  | zero => intro v1 v2 s H; exact H.elim
  | succ n ih => intro v1 v2 s H; exact V_nd_X8_takeNumber_48 hD  (fun H => ih H) H
set_option maxRecDepth 100000 in
set_option maxHeartbeats 4000000 in
theorem V_X8_takeNumber {g : fz_G} {l : Launch} {d : Nat} (hD : 10 ≤ d) {p0 : Int32}  {s : fz_s} {Q : Bool → fz_s → Prop} (H : wp_X8_takeNumber p0 s Q) : fs_V g l m_X8_takeNumber d true 0 (fz_en [.ref 4, .int p0] 3) [] s (rZ Q) := by
  obtain ⟨d, rfl⟩ : ∃ e, d = e + 1 := ⟨d - 1, by omega⟩
  unfold wp_X8_takeNumber at H
  refine fs_aload_n (k0 := 0) (i := 0) dd_X8_takeNumber_0 rfl rfl ?_
  refine fs_geti (ci := 8) (j := 3) dd_X8_takeNumber_1 fl_X8_31 ca_4 rfl (Or.inl rfl) ?_
  refine fs_iconst (n := 2) (v := 2) dd_X8_takeNumber_4 (by decide) ?_
  refine fs_icmp_eq (tgt := 13) dd_X8_takeNumber_5 (by decide) (fun hc => ?_) (fun hc => ?_)
  · replace H := H.1 hc
    refine fs_aload_n (k0 := 0) (i := 0) dd_X8_takeNumber_13 rfl rfl ?_
    refine fs_geti (ci := 8) (j := 2) dd_X8_takeNumber_14 fl_X8_28 ca_4 rfl (Or.inl rfl) ?_
    refine fs_aload_n (k0 := 0) (i := 0) dd_X8_takeNumber_17 rfl rfl ?_
    refine fs_geti (ci := 8) (j := 4) dd_X8_takeNumber_18 fl_X8_47 ca_4 rfl (Or.inl rfl) ?_
    refine fs_isub dd_X8_takeNumber_21 ?_
    refine fs_iconst (n := 4) (v := 4) dd_X8_takeNumber_22 (by decide) ?_
    refine fs_icmp_le (tgt := 38) dd_X8_takeNumber_23 (by decide) (fun hc => ?_) (fun hc => ?_)
    · replace H := H.1 hc
      refine fs_aload_n (k0 := 0) (i := 0) dd_X8_takeNumber_38 rfl rfl ?_
      refine fs_iconst (n := 0) (v := 0) dd_X8_takeNumber_39 (by decide) ?_
      refine fs_puti (ci := 8) (j := 6) dd_X8_takeNumber_40 fl_X8_83 (fun _ _ _ h => by cases h; rfl) ca_4 rfl (Or.inl rfl) ?_
      refine fs_tops (fun s1 hs1 => ?_)
      replace H := H s1 hs1
      refine fs_aload_n (k0 := 0) (i := 0) dd_X8_takeNumber_43 rfl rfl ?_
      refine fs_geti (ci := 8) (j := 4) dd_X8_takeNumber_44 fl_X8_47 ca_4 rfl (Or.inl rfl) ?_
      refine fs_topi (fun x2 hx2 => ?_)
      replace H := H x2 hx2
      refine fs_istore_n (k0 := 2) (i := 2) dd_X8_takeNumber_47 rfl (by decide) ?_
      refine fs_weak (ls2 := [.ref 4, .int p0, .int x2]) (fz_le_e (fz_le_e (fz_le_e fz_le_n))) ?_
      exact V_lp_X8_takeNumber_48 hD    2048 H
    · replace H := H.2 hc
      refine fs_aload_n (k0 := 0) (i := 0) dd_X8_takeNumber_26 rfl rfl ?_
      refine fs_iconst (n := 1) (v := 1) dd_X8_takeNumber_27 (by decide) ?_
      refine fs_aload_n (k0 := 0) (i := 0) dd_X8_takeNumber_28 rfl rfl ?_
      refine fs_geti (ci := 8) (j := 4) dd_X8_takeNumber_29 fl_X8_47 ca_4 rfl (Or.inl rfl) ?_
      refine fs_iconst (n := 4) (v := 4) dd_X8_takeNumber_32 (by decide) ?_
      refine fs_iadd dd_X8_takeNumber_33 ?_
      refine fs_callV (y := m_X8_fail) (as := [.int 1, .int ((s.1 4 4) + 4)]) dd_X8_takeNumber_34 me_X8_fail lk_X8_67 in_X8_fail se_X8_fail ca_4 rfl rfl rfl (Nat.le_of_ble_eq_true rfl) (Nat.le_of_ble_eq_true rfl) rfl (V_X8_fail (by omega)  H) (k2_Z fun r3 s4 H => ?_)
      exact fs_zret r3 dd_X8_takeNumber_37 rfl rfl H
  · replace H := H.2 hc
    refine fs_aload_n (k0 := 0) (i := 0) dd_X8_takeNumber_8 rfl rfl ?_
    refine fs_callV (y := m_X8_failHere) (as := []) dd_X8_takeNumber_9 me_X8_failHere lk_X8_75 in_X8_failHere se_X8_failHere ca_4 rfl rfl rfl (Nat.le_of_ble_eq_true rfl) (Nat.le_of_ble_eq_true rfl) rfl (V_X8_failHere (by omega)  H) (k2_Z fun r5 s6 H => ?_)
    exact fs_zret r5 dd_X8_takeNumber_12 rfl rfl H
theorem dd_X2_slot_0 : decode m_X2_slot.2.1 0 = .ok (.aload_n 0, 1) := by decide +kernel
theorem dd_X2_slot_1 : decode m_X2_slot.2.1 1 = .ok (.getfield 9, 3) := by decide +kernel
theorem dd_X2_slot_4 : decode m_X2_slot.2.1 4 = .ok (.getfield 89, 3) := by decide +kernel
theorem dd_X2_slot_7 : decode m_X2_slot.2.1 7 = .ok (.iconst 1, 1) := by decide +kernel
theorem dd_X2_slot_8 : decode m_X2_slot.2.1 8 = .ok (.if_icmp .ne 13, 3) := by decide +kernel
theorem dd_X2_slot_11 : decode m_X2_slot.2.1 11 = .ok (.aload_n 0, 1) := by decide +kernel
theorem dd_X2_slot_12 : decode m_X2_slot.2.1 12 = .ok (.getfield 9, 3) := by decide +kernel
theorem dd_X2_slot_15 : decode m_X2_slot.2.1 15 = .ok (.getfield 104, 3) := by decide +kernel
theorem dd_X2_slot_18 : decode m_X2_slot.2.1 18 = .ok (.goto 4, 3) := by decide +kernel
theorem dd_X2_slot_21 : decode m_X2_slot.2.1 21 = .ok (.iconst (-1), 1) := by decide +kernel
theorem dd_X2_slot_22 : decode m_X2_slot.2.1 22 = .ok (.istore_n 1, 1) := by decide +kernel
theorem dd_X2_slot_23 : decode m_X2_slot.2.1 23 = .ok (.iload_n 1, 1) := by decide +kernel
theorem dd_X2_slot_24 : decode m_X2_slot.2.1 24 = .ok (.ifCond .lt 20, 3) := by decide +kernel
theorem dd_X2_slot_27 : decode m_X2_slot.2.1 27 = .ok (.iload_n 1, 1) := by decide +kernel
theorem dd_X2_slot_28 : decode m_X2_slot.2.1 28 = .ok (.bipush 10, 2) := by decide +kernel
theorem dd_X2_slot_30 : decode m_X2_slot.2.1 30 = .ok (.if_icmp .gt 14, 3) := by decide +kernel
theorem dd_X2_slot_33 : decode m_X2_slot.2.1 33 = .ok (.aload_n 0, 1) := by decide +kernel
theorem dd_X2_slot_34 : decode m_X2_slot.2.1 34 = .ok (.getfield 23, 3) := by decide +kernel
theorem dd_X2_slot_37 : decode m_X2_slot.2.1 37 = .ok (.iload_n 1, 1) := by decide +kernel
theorem dd_X2_slot_38 : decode m_X2_slot.2.1 38 = .ok (.ishr, 1) := by decide +kernel
theorem dd_X2_slot_39 : decode m_X2_slot.2.1 39 = .ok (.iconst 1, 1) := by decide +kernel
theorem dd_X2_slot_40 : decode m_X2_slot.2.1 40 = .ok (.iand, 1) := by decide +kernel
theorem dd_X2_slot_41 : decode m_X2_slot.2.1 41 = .ok (.ifCond .ne 11, 3) := by decide +kernel
theorem dd_X2_slot_44 : decode m_X2_slot.2.1 44 = .ok (.aload_n 0, 1) := by decide +kernel
theorem dd_X2_slot_45 : decode m_X2_slot.2.1 45 = .ok (.getfield 9, 3) := by decide +kernel
theorem dd_X2_slot_48 : decode m_X2_slot.2.1 48 = .ok (.invokevirtual 72, 3) := by decide +kernel
theorem dd_X2_slot_51 : decode m_X2_slot.2.1 51 = .ok (.ireturn, 1) := by decide +kernel
theorem dd_X2_slot_52 : decode m_X2_slot.2.1 52 = .ok (.aload_n 0, 1) := by decide +kernel
theorem dd_X2_slot_53 : decode m_X2_slot.2.1 53 = .ok (.getfield 9, 3) := by decide +kernel
theorem dd_X2_slot_56 : decode m_X2_slot.2.1 56 = .ok (.invokevirtual 43, 3) := by decide +kernel
theorem dd_X2_slot_59 : decode m_X2_slot.2.1 59 = .ok (.aload_n 0, 1) := by decide +kernel
theorem dd_X2_slot_60 : decode m_X2_slot.2.1 60 = .ok (.sipush 10000, 3) := by decide +kernel
theorem dd_X2_slot_63 : decode m_X2_slot.2.1 63 = .ok (.iload_n 1, 1) := by decide +kernel
theorem dd_X2_slot_64 : decode m_X2_slot.2.1 64 = .ok (.iadd, 1) := by decide +kernel
theorem dd_X2_slot_65 : decode m_X2_slot.2.1 65 = .ok (.invokevirtual 46, 3) := by decide +kernel
theorem dd_X2_slot_68 : decode m_X2_slot.2.1 68 = .ok (.ireturn, 1) := by decide +kernel
def nd_X2_slot_44   (Q : Bool → fz_s → Prop)  (s : fz_s) : Prop :=
  wp_X8_failHere  s (fun r1 s2 => Q r1 s2)
def nd_X2_slot_22   (Q : Bool → fz_s → Prop) (u0 : Int32) (s : fz_s) : Prop :=
  ((u0 < 0 → nd_X2_slot_44   Q  s) ∧ (¬ u0 < 0 → ((10 < u0 → nd_X2_slot_44   Q  s) ∧ (¬ 10 < u0 → ((¬ (((s.1 5 2) >>> (u0 &&& 31)) &&& 1) = 0 → wp_X8_next  s (fun s2 => wp_X2_done (10000 + u0) s2 (fun r3 s4 => Q r3 s4))) ∧ ((((s.1 5 2) >>> (u0 &&& 31)) &&& 1) = 0 → nd_X2_slot_44   Q  s))))))
def wp_X2_slot  (s : fz_s) (Q : Bool → fz_s → Prop) : Prop :=
  ((¬ (s.1 4 3) = 1 → nd_X2_slot_22   Q (-1) s) ∧ ((s.1 4 3) = 1 → nd_X2_slot_22   Q (s.1 4 5) s))
set_option maxRecDepth 100000 in
set_option maxHeartbeats 4000000 in
theorem V_nd_X2_slot_44 {g : fz_G} {l : Launch} {d : Nat} (hD : 10 ≤ d)    {Q : Bool → fz_s → Prop}  {s : fz_s}  (H : nd_X2_slot_44   Q  s) : fs_V g l m_X2_slot d true 44 [.ref 5, fz_J] [] s (rZ Q) := by
  obtain ⟨d, rfl⟩ : ∃ e, d = e + 1 := ⟨d - 1, by omega⟩
  unfold nd_X2_slot_44 at H
  refine fs_aload_n (k0 := 0) (i := 0) dd_X2_slot_44 rfl rfl ?_
  refine fs_getr (ci := 2) (j := 0) (q := 4) dd_X2_slot_45 fl_X2_9 ca_5 rfl (Or.inl ⟨_, rfl⟩) rfl (by decide) ?_
  refine fs_callV (y := m_X8_failHere) (as := []) dd_X2_slot_48 me_X8_failHere lk_X2_72 in_X8_failHere se_X8_failHere ca_4 rfl rfl rfl (Nat.le_of_ble_eq_true rfl) (Nat.le_of_ble_eq_true rfl) rfl (V_X8_failHere (by omega)  H) (k2_Z fun r1 s2 H => ?_)
  exact fs_zret r1 dd_X2_slot_51 rfl rfl H
set_option maxRecDepth 100000 in
set_option maxHeartbeats 4000000 in
theorem V_nd_X2_slot_22 {g : fz_G} {l : Launch} {d : Nat} (hD : 10 ≤ d)    {Q : Bool → fz_s → Prop} {u0 : Int32} {s : fz_s}  (H : nd_X2_slot_22   Q u0 s) : fs_V g l m_X2_slot d true 22 [.ref 5, fz_J] [.int u0] s (rZ Q) := by
  obtain ⟨d, rfl⟩ : ∃ e, d = e + 1 := ⟨d - 1, by omega⟩
  unfold nd_X2_slot_22 at H
  refine fs_istore_n (k0 := 1) (i := 1) dd_X2_slot_22 rfl (by decide) ?_
  refine fs_iload_n (k0 := 1) (i := 1) dd_X2_slot_23 rfl rfl ?_
  refine fs_if_lt (tgt := 44) dd_X2_slot_24 (by decide) (fun hc => ?_) (fun hc => ?_)
  · replace H := H.1 hc
    refine fs_weak (ls2 := [.ref 5, fz_J]) (fz_le_e (fz_le_j fz_le_n)) ?_
    exact V_nd_X2_slot_44 hD    H
  · replace H := H.2 hc
    refine fs_iload_n (k0 := 1) (i := 1) dd_X2_slot_27 rfl rfl ?_
    refine fs_bipush (n := 10) (v := 10) dd_X2_slot_28 (by decide) ?_
    refine fs_icmp_gt (tgt := 44) dd_X2_slot_30 (by decide) (fun hc => ?_) (fun hc => ?_)
    · replace H := H.1 hc
      refine fs_weak (ls2 := [.ref 5, fz_J]) (fz_le_e (fz_le_j fz_le_n)) ?_
      exact V_nd_X2_slot_44 hD    H
    · replace H := H.2 hc
      refine fs_aload_n (k0 := 0) (i := 0) dd_X2_slot_33 rfl rfl ?_
      refine fs_geti (ci := 2) (j := 2) dd_X2_slot_34 fl_X2_23 ca_5 rfl (Or.inl rfl) ?_
      refine fs_iload_n (k0 := 1) (i := 1) dd_X2_slot_37 rfl rfl ?_
      refine fs_ishr dd_X2_slot_38 ?_
      refine fs_iconst (n := 1) (v := 1) dd_X2_slot_39 (by decide) ?_
      refine fs_iand dd_X2_slot_40 ?_
      refine fs_if_ne (tgt := 52) dd_X2_slot_41 (by decide) (fun hc => ?_) (fun hc => ?_)
      · replace H := H.1 hc
        refine fs_aload_n (k0 := 0) (i := 0) dd_X2_slot_52 rfl rfl ?_
        refine fs_getr (ci := 2) (j := 0) (q := 4) dd_X2_slot_53 fl_X2_9 ca_5 rfl (Or.inl ⟨_, rfl⟩) rfl (by decide) ?_
        refine fs_callV (y := m_X8_next) (as := []) dd_X2_slot_56 me_X8_next lk_X2_43 in_X8_next se_X8_next ca_4 rfl rfl rfl (Nat.le_of_ble_eq_true rfl) (Nat.le_of_ble_eq_true rfl) rfl (V_X8_next (by omega)  H) (k2_V fun s2 H => ?_)
        refine fs_aload_n (k0 := 0) (i := 0) dd_X2_slot_59 rfl rfl ?_
        refine fs_sipush (n := 10000) (v := 10000) dd_X2_slot_60 (by decide) ?_
        refine fs_iload_n (k0 := 1) (i := 1) dd_X2_slot_63 rfl rfl ?_
        refine fs_iadd dd_X2_slot_64 ?_
        refine fs_callV (y := m_X2_done) (as := [.int (10000 + u0)]) dd_X2_slot_65 me_X2_done lk_X2_46 in_X2_done se_X2_done ca_5 rfl rfl rfl (Nat.le_of_ble_eq_true rfl) (Nat.le_of_ble_eq_true rfl) rfl (V_X2_done (by omega)  H) (k2_Z fun r3 s4 H => ?_)
        exact fs_zret r3 dd_X2_slot_68 rfl rfl H
      · replace H := H.2 hc
        refine fs_weak (ls2 := [.ref 5, fz_J]) (fz_le_e (fz_le_j fz_le_n)) ?_
        exact V_nd_X2_slot_44 hD    H
set_option maxRecDepth 100000 in
set_option maxHeartbeats 4000000 in
theorem V_X2_slot {g : fz_G} {l : Launch} {d : Nat} (hD : 10 ≤ d)   {s : fz_s} {Q : Bool → fz_s → Prop} (H : wp_X2_slot  s Q) : fs_V g l m_X2_slot d true 0 (fz_en [.ref 5] 2) [] s (rZ Q) := by
  obtain ⟨d, rfl⟩ : ∃ e, d = e + 1 := ⟨d - 1, by omega⟩
  unfold wp_X2_slot at H
  refine fs_aload_n (k0 := 0) (i := 0) dd_X2_slot_0 rfl rfl ?_
  refine fs_getr (ci := 2) (j := 0) (q := 4) dd_X2_slot_1 fl_X2_9 ca_5 rfl (Or.inl ⟨_, rfl⟩) rfl (by decide) ?_
  refine fs_geti (ci := 8) (j := 3) dd_X2_slot_4 fl_X2_89 ca_4 rfl (Or.inl rfl) ?_
  refine fs_iconst (n := 1) (v := 1) dd_X2_slot_7 (by decide) ?_
  refine fs_icmp_ne (tgt := 21) dd_X2_slot_8 (by decide) (fun hc => ?_) (fun hc => ?_)
  · replace H := H.1 hc
    refine fs_iconst (n := -1) (v := -1) dd_X2_slot_21 (by decide) ?_
    refine fs_weak (ls2 := [.ref 5, fz_J]) (fz_le_e (fz_le_j fz_le_n)) ?_
    exact V_nd_X2_slot_22 hD    H
  · replace H := H.2 hc
    refine fs_aload_n (k0 := 0) (i := 0) dd_X2_slot_11 rfl rfl ?_
    refine fs_getr (ci := 2) (j := 0) (q := 4) dd_X2_slot_12 fl_X2_9 ca_5 rfl (Or.inl ⟨_, rfl⟩) rfl (by decide) ?_
    refine fs_geti (ci := 8) (j := 5) dd_X2_slot_15 fl_X2_104 ca_4 rfl (Or.inl rfl) ?_
    refine fs_goto (tgt := 22) dd_X2_slot_18 (by decide) ?_
    refine fs_weak (ls2 := [.ref 5, fz_J]) (fz_le_e (fz_le_j fz_le_n)) ?_
    exact V_nd_X2_slot_22 hD    H
theorem dd_X2_part_0 : decode m_X2_part.2.1 0 = .ok (.aload_n 0, 1) := by decide +kernel
theorem dd_X2_part_1 : decode m_X2_part.2.1 1 = .ok (.getfield 9, 3) := by decide +kernel
theorem dd_X2_part_4 : decode m_X2_part.2.1 4 = .ok (.getfield 89, 3) := by decide +kernel
theorem dd_X2_part_7 : decode m_X2_part.2.1 7 = .ok (.iconst 2, 1) := by decide +kernel
theorem dd_X2_part_8 : decode m_X2_part.2.1 8 = .ok (.if_icmp .ne 36, 3) := by decide +kernel
theorem dd_X2_part_11 : decode m_X2_part.2.1 11 = .ok (.aload_n 0, 1) := by decide +kernel
theorem dd_X2_part_12 : decode m_X2_part.2.1 12 = .ok (.getfield 9, 3) := by decide +kernel
theorem dd_X2_part_15 : decode m_X2_part.2.1 15 = .ok (.sipush 9999, 3) := by decide +kernel
theorem dd_X2_part_18 : decode m_X2_part.2.1 18 = .ok (.invokevirtual 92, 3) := by decide +kernel
theorem dd_X2_part_21 : decode m_X2_part.2.1 21 = .ok (.ifCond .eq 21, 3) := by decide +kernel
theorem dd_X2_part_24 : decode m_X2_part.2.1 24 = .ok (.aload_n 0, 1) := by decide +kernel
theorem dd_X2_part_25 : decode m_X2_part.2.1 25 = .ok (.aload_n 0, 1) := by decide +kernel
theorem dd_X2_part_26 : decode m_X2_part.2.1 26 = .ok (.getfield 9, 3) := by decide +kernel
theorem dd_X2_part_29 : decode m_X2_part.2.1 29 = .ok (.getfield 95, 3) := by decide +kernel
theorem dd_X2_part_32 : decode m_X2_part.2.1 32 = .ok (.invokevirtual 46, 3) := by decide +kernel
theorem dd_X2_part_35 : decode m_X2_part.2.1 35 = .ok (.ifCond .eq 7, 3) := by decide +kernel
theorem dd_X2_part_38 : decode m_X2_part.2.1 38 = .ok (.iconst 1, 1) := by decide +kernel
theorem dd_X2_part_39 : decode m_X2_part.2.1 39 = .ok (.goto 4, 3) := by decide +kernel
theorem dd_X2_part_42 : decode m_X2_part.2.1 42 = .ok (.iconst 0, 1) := by decide +kernel
theorem dd_X2_part_43 : decode m_X2_part.2.1 43 = .ok (.ireturn, 1) := by decide +kernel
theorem dd_X2_part_44 : decode m_X2_part.2.1 44 = .ok (.aload_n 0, 1) := by decide +kernel
theorem dd_X2_part_45 : decode m_X2_part.2.1 45 = .ok (.getfield 9, 3) := by decide +kernel
theorem dd_X2_part_48 : decode m_X2_part.2.1 48 = .ok (.bipush 40, 2) := by decide +kernel
theorem dd_X2_part_50 : decode m_X2_part.2.1 50 = .ok (.invokevirtual 55, 3) := by decide +kernel
theorem dd_X2_part_53 : decode m_X2_part.2.1 53 = .ok (.ifCond .eq 39, 3) := by decide +kernel
theorem dd_X2_part_56 : decode m_X2_part.2.1 56 = .ok (.aload_n 0, 1) := by decide +kernel
theorem dd_X2_part_57 : decode m_X2_part.2.1 57 = .ok (.iload_n 1, 1) := by decide +kernel
theorem dd_X2_part_58 : decode m_X2_part.2.1 58 = .ok (.invokevirtual 52, 3) := by decide +kernel
theorem dd_X2_part_61 : decode m_X2_part.2.1 61 = .ok (.ifCond .eq 29, 3) := by decide +kernel
theorem dd_X2_part_64 : decode m_X2_part.2.1 64 = .ok (.aload_n 0, 1) := by decide +kernel
theorem dd_X2_part_65 : decode m_X2_part.2.1 65 = .ok (.iload_n 1, 1) := by decide +kernel
theorem dd_X2_part_66 : decode m_X2_part.2.1 66 = .ok (.iconst 1, 1) := by decide +kernel
theorem dd_X2_part_67 : decode m_X2_part.2.1 67 = .ok (.iadd, 1) := by decide +kernel
theorem dd_X2_part_68 : decode m_X2_part.2.1 68 = .ok (.invokevirtual 65, 3) := by decide +kernel
theorem dd_X2_part_71 : decode m_X2_part.2.1 71 = .ok (.ifCond .eq 19, 3) := by decide +kernel
theorem dd_X2_part_74 : decode m_X2_part.2.1 74 = .ok (.aload_n 0, 1) := by decide +kernel
theorem dd_X2_part_75 : decode m_X2_part.2.1 75 = .ok (.getfield 9, 3) := by decide +kernel
theorem dd_X2_part_78 : decode m_X2_part.2.1 78 = .ok (.bipush 41, 2) := by decide +kernel
theorem dd_X2_part_80 : decode m_X2_part.2.1 80 = .ok (.invokevirtual 62, 3) := by decide +kernel
theorem dd_X2_part_83 : decode m_X2_part.2.1 83 = .ok (.ifCond .eq 7, 3) := by decide +kernel
theorem dd_X2_part_86 : decode m_X2_part.2.1 86 = .ok (.iconst 1, 1) := by decide +kernel
theorem dd_X2_part_87 : decode m_X2_part.2.1 87 = .ok (.goto 4, 3) := by decide +kernel
theorem dd_X2_part_90 : decode m_X2_part.2.1 90 = .ok (.iconst 0, 1) := by decide +kernel
theorem dd_X2_part_91 : decode m_X2_part.2.1 91 = .ok (.ireturn, 1) := by decide +kernel
theorem dd_X2_part_92 : decode m_X2_part.2.1 92 = .ok (.aload_n 0, 1) := by decide +kernel
theorem dd_X2_part_93 : decode m_X2_part.2.1 93 = .ok (.getfield 9, 3) := by decide +kernel
theorem dd_X2_part_96 : decode m_X2_part.2.1 96 = .ok (.bipush 24, 2) := by decide +kernel
theorem dd_X2_part_98 : decode m_X2_part.2.1 98 = .ok (.invokevirtual 38, 3) := by decide +kernel
theorem dd_X2_part_101 : decode m_X2_part.2.1 101 = .ok (.ifCond .ne 15, 3) := by decide +kernel
theorem dd_X2_part_104 : decode m_X2_part.2.1 104 = .ok (.aload_n 0, 1) := by decide +kernel
theorem dd_X2_part_105 : decode m_X2_part.2.1 105 = .ok (.getfield 9, 3) := by decide +kernel
theorem dd_X2_part_108 : decode m_X2_part.2.1 108 = .ok (.bipush 25, 2) := by decide +kernel
theorem dd_X2_part_110 : decode m_X2_part.2.1 110 = .ok (.invokevirtual 38, 3) := by decide +kernel
theorem dd_X2_part_113 : decode m_X2_part.2.1 113 = .ok (.ifCond .eq 54, 3) := by decide +kernel
theorem dd_X2_part_116 : decode m_X2_part.2.1 116 = .ok (.aload_n 0, 1) := by decide +kernel
theorem dd_X2_part_117 : decode m_X2_part.2.1 117 = .ok (.getfield 9, 3) := by decide +kernel
theorem dd_X2_part_120 : decode m_X2_part.2.1 120 = .ok (.bipush 24, 2) := by decide +kernel
theorem dd_X2_part_122 : decode m_X2_part.2.1 122 = .ok (.invokevirtual 38, 3) := by decide +kernel
theorem dd_X2_part_125 : decode m_X2_part.2.1 125 = .ok (.ifCond .eq 9, 3) := by decide +kernel
theorem dd_X2_part_128 : decode m_X2_part.2.1 128 = .ok (.sipush 20007, 3) := by decide +kernel
theorem dd_X2_part_131 : decode m_X2_part.2.1 131 = .ok (.goto 6, 3) := by decide +kernel
theorem dd_X2_part_134 : decode m_X2_part.2.1 134 = .ok (.sipush 20008, 3) := by decide +kernel
theorem dd_X2_part_137 : decode m_X2_part.2.1 137 = .ok (.istore_n 2, 1) := by decide +kernel
theorem dd_X2_part_138 : decode m_X2_part.2.1 138 = .ok (.aload_n 0, 1) := by decide +kernel
theorem dd_X2_part_139 : decode m_X2_part.2.1 139 = .ok (.getfield 9, 3) := by decide +kernel
theorem dd_X2_part_142 : decode m_X2_part.2.1 142 = .ok (.invokevirtual 43, 3) := by decide +kernel
theorem dd_X2_part_145 : decode m_X2_part.2.1 145 = .ok (.aload_n 0, 1) := by decide +kernel
theorem dd_X2_part_146 : decode m_X2_part.2.1 146 = .ok (.iload_n 1, 1) := by decide +kernel
theorem dd_X2_part_147 : decode m_X2_part.2.1 147 = .ok (.invokevirtual 98, 3) := by decide +kernel
theorem dd_X2_part_150 : decode m_X2_part.2.1 150 = .ok (.ifCond .eq 15, 3) := by decide +kernel
theorem dd_X2_part_153 : decode m_X2_part.2.1 153 = .ok (.aload_n 0, 1) := by decide +kernel
theorem dd_X2_part_154 : decode m_X2_part.2.1 154 = .ok (.iload_n 2, 1) := by decide +kernel
theorem dd_X2_part_155 : decode m_X2_part.2.1 155 = .ok (.invokevirtual 46, 3) := by decide +kernel
theorem dd_X2_part_158 : decode m_X2_part.2.1 158 = .ok (.ifCond .eq 7, 3) := by decide +kernel
theorem dd_X2_part_161 : decode m_X2_part.2.1 161 = .ok (.iconst 1, 1) := by decide +kernel
theorem dd_X2_part_162 : decode m_X2_part.2.1 162 = .ok (.goto 4, 3) := by decide +kernel
theorem dd_X2_part_165 : decode m_X2_part.2.1 165 = .ok (.iconst 0, 1) := by decide +kernel
theorem dd_X2_part_166 : decode m_X2_part.2.1 166 = .ok (.ireturn, 1) := by decide +kernel
theorem dd_X2_part_167 : decode m_X2_part.2.1 167 = .ok (.aload_n 0, 1) := by decide +kernel
theorem dd_X2_part_168 : decode m_X2_part.2.1 168 = .ok (.getfield 26, 3) := by decide +kernel
theorem dd_X2_part_171 : decode m_X2_part.2.1 171 = .ok (.ifCond .eq 79, 3) := by decide +kernel
theorem dd_X2_part_174 : decode m_X2_part.2.1 174 = .ok (.aload_n 0, 1) := by decide +kernel
theorem dd_X2_part_175 : decode m_X2_part.2.1 175 = .ok (.getfield 9, 3) := by decide +kernel
theorem dd_X2_part_178 : decode m_X2_part.2.1 178 = .ok (.iconst 0, 1) := by decide +kernel
theorem dd_X2_part_179 : decode m_X2_part.2.1 179 = .ok (.invokevirtual 38, 3) := by decide +kernel
theorem dd_X2_part_182 : decode m_X2_part.2.1 182 = .ok (.ifCond .ne 15, 3) := by decide +kernel
theorem dd_X2_part_185 : decode m_X2_part.2.1 185 = .ok (.aload_n 0, 1) := by decide +kernel
theorem dd_X2_part_186 : decode m_X2_part.2.1 186 = .ok (.getfield 9, 3) := by decide +kernel
theorem dd_X2_part_189 : decode m_X2_part.2.1 189 = .ok (.bipush 13, 2) := by decide +kernel
theorem dd_X2_part_191 : decode m_X2_part.2.1 191 = .ok (.invokevirtual 38, 3) := by decide +kernel
theorem dd_X2_part_194 : decode m_X2_part.2.1 194 = .ok (.ifCond .eq 56, 3) := by decide +kernel
theorem dd_X2_part_197 : decode m_X2_part.2.1 197 = .ok (.aload_n 0, 1) := by decide +kernel
theorem dd_X2_part_198 : decode m_X2_part.2.1 198 = .ok (.getfield 9, 3) := by decide +kernel
theorem dd_X2_part_201 : decode m_X2_part.2.1 201 = .ok (.iconst 0, 1) := by decide +kernel
theorem dd_X2_part_202 : decode m_X2_part.2.1 202 = .ok (.invokevirtual 38, 3) := by decide +kernel
theorem dd_X2_part_205 : decode m_X2_part.2.1 205 = .ok (.ifCond .eq 9, 3) := by decide +kernel
theorem dd_X2_part_208 : decode m_X2_part.2.1 208 = .ok (.sipush 20001, 3) := by decide +kernel
theorem dd_X2_part_211 : decode m_X2_part.2.1 211 = .ok (.goto 6, 3) := by decide +kernel
theorem dd_X2_part_214 : decode m_X2_part.2.1 214 = .ok (.sipush 20002, 3) := by decide +kernel
theorem dd_X2_part_217 : decode m_X2_part.2.1 217 = .ok (.istore_n 2, 1) := by decide +kernel
theorem dd_X2_part_218 : decode m_X2_part.2.1 218 = .ok (.aload_n 0, 1) := by decide +kernel
theorem dd_X2_part_219 : decode m_X2_part.2.1 219 = .ok (.iload_n 1, 1) := by decide +kernel
theorem dd_X2_part_220 : decode m_X2_part.2.1 220 = .ok (.invokevirtual 52, 3) := by decide +kernel
theorem dd_X2_part_223 : decode m_X2_part.2.1 223 = .ok (.ifCond .eq 25, 3) := by decide +kernel
theorem dd_X2_part_226 : decode m_X2_part.2.1 226 = .ok (.aload_n 0, 1) := by decide +kernel
theorem dd_X2_part_227 : decode m_X2_part.2.1 227 = .ok (.iload_n 1, 1) := by decide +kernel
theorem dd_X2_part_228 : decode m_X2_part.2.1 228 = .ok (.iconst 1, 1) := by decide +kernel
theorem dd_X2_part_229 : decode m_X2_part.2.1 229 = .ok (.iadd, 1) := by decide +kernel
theorem dd_X2_part_230 : decode m_X2_part.2.1 230 = .ok (.invokevirtual 86, 3) := by decide +kernel
theorem dd_X2_part_233 : decode m_X2_part.2.1 233 = .ok (.ifCond .eq 15, 3) := by decide +kernel
theorem dd_X2_part_236 : decode m_X2_part.2.1 236 = .ok (.aload_n 0, 1) := by decide +kernel
theorem dd_X2_part_237 : decode m_X2_part.2.1 237 = .ok (.iload_n 2, 1) := by decide +kernel
theorem dd_X2_part_238 : decode m_X2_part.2.1 238 = .ok (.invokevirtual 46, 3) := by decide +kernel
theorem dd_X2_part_241 : decode m_X2_part.2.1 241 = .ok (.ifCond .eq 7, 3) := by decide +kernel
theorem dd_X2_part_244 : decode m_X2_part.2.1 244 = .ok (.iconst 1, 1) := by decide +kernel
theorem dd_X2_part_245 : decode m_X2_part.2.1 245 = .ok (.goto 4, 3) := by decide +kernel
theorem dd_X2_part_248 : decode m_X2_part.2.1 248 = .ok (.iconst 0, 1) := by decide +kernel
theorem dd_X2_part_249 : decode m_X2_part.2.1 249 = .ok (.ireturn, 1) := by decide +kernel
theorem dd_X2_part_250 : decode m_X2_part.2.1 250 = .ok (.aload_n 0, 1) := by decide +kernel
theorem dd_X2_part_251 : decode m_X2_part.2.1 251 = .ok (.invokevirtual 101, 3) := by decide +kernel
theorem dd_X2_part_254 : decode m_X2_part.2.1 254 = .ok (.ireturn, 1) := by decide +kernel
def nd_X2_part_250 (R : Nat → Int32 → fz_s → (Bool → fz_s → Prop) → Prop)   (Q : Bool → fz_s → Prop)  (s : fz_s) : Prop :=
  wp_X2_slot  s (fun r1 s2 => Q r1 s2)
def nd_X2_part_217 (R : Nat → Int32 → fz_s → (Bool → fz_s → Prop) → Prop)   (Q : Bool → fz_s → Prop) (v1 : Int32) (u0 : Int32) (s : fz_s) : Prop :=
  wp_X2_opens v1 s (fun r1 s2 => ((r1 = false → Q false s2) ∧ (r1 = true → R 5 (v1 + 1) s2 (fun r3 s4 => ((r3 = false → Q false s4) ∧ (r3 = true → wp_X2_done u0 s4 (fun r5 s6 => ((r5 = false → Q false s6) ∧ (r5 = true → Q true s6)))))))))
def nd_X2_part_197 (R : Nat → Int32 → fz_s → (Bool → fz_s → Prop) → Prop)   (Q : Bool → fz_s → Prop) (v1 : Int32) (s : fz_s) : Prop :=
  wp_X8_isWord 0 s (fun r1 s2 => ((r1 = false → nd_X2_part_217 R   Q v1 20002 s2) ∧ (r1 = true → nd_X2_part_217 R   Q v1 20001 s2)))
def nd_X2_part_137 (R : Nat → Int32 → fz_s → (Bool → fz_s → Prop) → Prop)   (Q : Bool → fz_s → Prop) (v1 : Int32) (u0 : Int32) (s : fz_s) : Prop :=
  wp_X8_next  s (fun s2 => R 6 v1 s2 (fun r3 s4 => ((r3 = false → Q false s4) ∧ (r3 = true → wp_X2_done u0 s4 (fun r5 s6 => ((r5 = false → Q false s6) ∧ (r5 = true → Q true s6)))))))
def nd_X2_part_116 (R : Nat → Int32 → fz_s → (Bool → fz_s → Prop) → Prop)   (Q : Bool → fz_s → Prop) (v1 : Int32) (s : fz_s) : Prop :=
  wp_X8_isWord 24 s (fun r1 s2 => ((r1 = false → nd_X2_part_137 R   Q v1 20008 s2) ∧ (r1 = true → nd_X2_part_137 R   Q v1 20007 s2)))
def wp_X2_part (R : Nat → Int32 → fz_s → (Bool → fz_s → Prop) → Prop) (p0 : Int32) (s : fz_s) (Q : Bool → fz_s → Prop) : Prop :=
  ((¬ (s.1 4 3) = 2 → wp_X8_isSign 40 s (fun r1 s2 => ((r1 = false → wp_X8_isWord 24 s2 (fun r3 s4 => ((r3 = true → nd_X2_part_116 R   Q p0 s4) ∧ (r3 = false → wp_X8_isWord 25 s4 (fun r5 s6 => ((r5 = false → (((s6.1 5 3) = 0 → nd_X2_part_250 R   Q  s6) ∧ (¬ (s6.1 5 3) = 0 → wp_X8_isWord 0 s6 (fun r7 s8 => ((r7 = true → nd_X2_part_197 R   Q p0 s8) ∧ (r7 = false → wp_X8_isWord 13 s8 (fun r9 s10 => ((r9 = false → nd_X2_part_250 R   Q  s10) ∧ (r9 = true → nd_X2_part_197 R   Q p0 s10))))))))) ∧ (r5 = true → nd_X2_part_116 R   Q p0 s6))))))) ∧ (r1 = true → wp_X2_opens p0 s2 (fun r11 s12 => ((r11 = false → Q false s12) ∧ (r11 = true → R 3 (p0 + 1) s12 (fun r13 s14 => ((r13 = false → Q false s14) ∧ (r13 = true → wp_X8_takeSign 41 s14 (fun r15 s16 => ((r15 = false → Q false s16) ∧ (r15 = true → Q true s16))))))))))))) ∧ ((s.1 4 3) = 2 → wp_X8_takeNumber 9999 s (fun r17 s18 => ((r17 = false → Q false s18) ∧ (r17 = true → wp_X2_done (s18.1 4 6) s18 (fun r19 s20 => ((r19 = false → Q false s20) ∧ (r19 = true → Q true s20))))))))
set_option maxRecDepth 100000 in
set_option maxHeartbeats 4000000 in
theorem V_nd_X2_part_250 {g : fz_G} {l : Launch} {R : Nat → Int32 → fz_s → (Bool → fz_s → Prop) → Prop} {m0 : Nat} {d : Nat} (hD : m0 + 1 ≤ d) (hm : 11 ≤ m0) (hR : OR g l m0 R)    {Q : Bool → fz_s → Prop}  {s : fz_s}  (H : nd_X2_part_250 R   Q  s) : fs_V g l m_X2_part d true 250 [.ref 5, fz_J, fz_J] [] s (rZ Q) := by
  obtain ⟨d, rfl⟩ : ∃ e, d = e + 1 := ⟨d - 1, by omega⟩
  unfold nd_X2_part_250 at H
  refine fs_aload_n (k0 := 0) (i := 0) dd_X2_part_250 rfl rfl ?_
  refine fs_callV (y := m_X2_slot) (as := []) dd_X2_part_251 me_X2_slot lk_X2_101 in_X2_slot se_X2_slot ca_5 rfl rfl rfl (Nat.le_of_ble_eq_true rfl) (Nat.le_of_ble_eq_true rfl) rfl (V_X2_slot (by omega)  H) (k2_Z fun r1 s2 H => ?_)
  exact fs_zret r1 dd_X2_part_254 rfl rfl H
set_option maxRecDepth 100000 in
set_option maxHeartbeats 4000000 in
theorem V_nd_X2_part_217 {g : fz_G} {l : Launch} {R : Nat → Int32 → fz_s → (Bool → fz_s → Prop) → Prop} {m0 : Nat} {d : Nat} (hD : m0 + 1 ≤ d) (hm : 11 ≤ m0) (hR : OR g l m0 R)    {Q : Bool → fz_s → Prop} {v1 : Int32} {u0 : Int32} {s : fz_s}  (H : nd_X2_part_217 R   Q v1 u0 s) : fs_V g l m_X2_part d true 217 [.ref 5, .int v1, fz_J] [.int u0] s (rZ Q) := by
  obtain ⟨d, rfl⟩ : ∃ e, d = e + 1 := ⟨d - 1, by omega⟩
  unfold nd_X2_part_217 at H
  refine fs_istore_n (k0 := 2) (i := 2) dd_X2_part_217 rfl (by decide) ?_
  refine fs_aload_n (k0 := 0) (i := 0) dd_X2_part_218 rfl rfl ?_
  refine fs_iload_n (k0 := 1) (i := 1) dd_X2_part_219 rfl rfl ?_
  refine fs_callV (y := m_X2_opens) (as := [.int v1]) dd_X2_part_220 me_X2_opens lk_X2_52 in_X2_opens se_X2_opens ca_5 rfl rfl rfl (Nat.le_of_ble_eq_true rfl) (Nat.le_of_ble_eq_true rfl) rfl (V_X2_opens (by omega)  H) (k2_Z fun r1 s2 H => ?_)
  refine fs_if_eq (tgt := 248) dd_X2_part_223 (by decide) (fun hc => ?_) (fun hc => ?_)
  · replace H := H.1 (bi_0 hc)
    refine fs_iconst (n := 0) (v := 0) dd_X2_part_248 (by decide) ?_
    exact fs_zret false dd_X2_part_249 rfl rfl H
  · replace H := H.2 (bi_1 hc)
    refine fs_aload_n (k0 := 0) (i := 0) dd_X2_part_226 rfl rfl ?_
    refine fs_iload_n (k0 := 1) (i := 1) dd_X2_part_227 rfl rfl ?_
    refine fs_iconst (n := 1) (v := 1) dd_X2_part_228 (by decide) ?_
    refine fs_iadd dd_X2_part_229 ?_
    refine fs_callV (y := m_X2_part) (as := [.int (v1 + 1)]) dd_X2_part_230 me_X2_part lk_X2_86 in_X2_part se_X2_part ca_5 rfl rfl rfl (Nat.le_of_ble_eq_true rfl) (Nat.le_of_ble_eq_true rfl) rfl (hR 5 _ (by omega) _ _ _ H) (k2_Z fun r3 s4 H => ?_)
    refine fs_if_eq (tgt := 248) dd_X2_part_233 (by decide) (fun hc => ?_) (fun hc => ?_)
    · replace H := H.1 (bi_0 hc)
      refine fs_iconst (n := 0) (v := 0) dd_X2_part_248 (by decide) ?_
      exact fs_zret false dd_X2_part_249 rfl rfl H
    · replace H := H.2 (bi_1 hc)
      refine fs_aload_n (k0 := 0) (i := 0) dd_X2_part_236 rfl rfl ?_
      refine fs_iload_n (k0 := 2) (i := 2) dd_X2_part_237 rfl rfl ?_
      refine fs_callV (y := m_X2_done) (as := [.int u0]) dd_X2_part_238 me_X2_done lk_X2_46 in_X2_done se_X2_done ca_5 rfl rfl rfl (Nat.le_of_ble_eq_true rfl) (Nat.le_of_ble_eq_true rfl) rfl (V_X2_done (by omega)  H) (k2_Z fun r5 s6 H => ?_)
      refine fs_if_eq (tgt := 248) dd_X2_part_241 (by decide) (fun hc => ?_) (fun hc => ?_)
      · replace H := H.1 (bi_0 hc)
        refine fs_iconst (n := 0) (v := 0) dd_X2_part_248 (by decide) ?_
        exact fs_zret false dd_X2_part_249 rfl rfl H
      · replace H := H.2 (bi_1 hc)
        refine fs_iconst (n := 1) (v := 1) dd_X2_part_244 (by decide) ?_
        refine fs_goto (tgt := 249) dd_X2_part_245 (by decide) ?_
        exact fs_zret true dd_X2_part_249 rfl rfl H
set_option maxRecDepth 100000 in
set_option maxHeartbeats 4000000 in
theorem V_nd_X2_part_197 {g : fz_G} {l : Launch} {R : Nat → Int32 → fz_s → (Bool → fz_s → Prop) → Prop} {m0 : Nat} {d : Nat} (hD : m0 + 1 ≤ d) (hm : 11 ≤ m0) (hR : OR g l m0 R)    {Q : Bool → fz_s → Prop} {v1 : Int32} {s : fz_s}  (H : nd_X2_part_197 R   Q v1 s) : fs_V g l m_X2_part d true 197 [.ref 5, .int v1, fz_J] [] s (rZ Q) := by
  obtain ⟨d, rfl⟩ : ∃ e, d = e + 1 := ⟨d - 1, by omega⟩
  unfold nd_X2_part_197 at H
  refine fs_aload_n (k0 := 0) (i := 0) dd_X2_part_197 rfl rfl ?_
  refine fs_getr (ci := 2) (j := 0) (q := 4) dd_X2_part_198 fl_X2_9 ca_5 rfl (Or.inl ⟨_, rfl⟩) rfl (by decide) ?_
  refine fs_iconst (n := 0) (v := 0) dd_X2_part_201 (by decide) ?_
  refine fs_callV (y := m_X8_isWord) (as := [.int 0]) dd_X2_part_202 me_X8_isWord lk_X2_38 in_X8_isWord se_X8_isWord ca_4 rfl rfl rfl (Nat.le_of_ble_eq_true rfl) (Nat.le_of_ble_eq_true rfl) rfl (V_X8_isWord (by omega)  H) (k2_Z fun r1 s2 H => ?_)
  refine fs_if_eq (tgt := 214) dd_X2_part_205 (by decide) (fun hc => ?_) (fun hc => ?_)
  · replace H := H.1 (bi_0 hc)
    refine fs_sipush (n := 20002) (v := 20002) dd_X2_part_214 (by decide) ?_
    refine fs_weak (ls2 := [.ref 5, .int v1, fz_J]) (fz_le_e (fz_le_e (fz_le_j fz_le_n))) ?_
    exact V_nd_X2_part_217 hD hm hR   H
  · replace H := H.2 (bi_1 hc)
    refine fs_sipush (n := 20001) (v := 20001) dd_X2_part_208 (by decide) ?_
    refine fs_goto (tgt := 217) dd_X2_part_211 (by decide) ?_
    refine fs_weak (ls2 := [.ref 5, .int v1, fz_J]) (fz_le_e (fz_le_e (fz_le_j fz_le_n))) ?_
    exact V_nd_X2_part_217 hD hm hR   H
set_option maxRecDepth 100000 in
set_option maxHeartbeats 4000000 in
theorem V_nd_X2_part_137 {g : fz_G} {l : Launch} {R : Nat → Int32 → fz_s → (Bool → fz_s → Prop) → Prop} {m0 : Nat} {d : Nat} (hD : m0 + 1 ≤ d) (hm : 11 ≤ m0) (hR : OR g l m0 R)    {Q : Bool → fz_s → Prop} {v1 : Int32} {u0 : Int32} {s : fz_s}  (H : nd_X2_part_137 R   Q v1 u0 s) : fs_V g l m_X2_part d true 137 [.ref 5, .int v1, fz_J] [.int u0] s (rZ Q) := by
  obtain ⟨d, rfl⟩ : ∃ e, d = e + 1 := ⟨d - 1, by omega⟩
  unfold nd_X2_part_137 at H
  refine fs_istore_n (k0 := 2) (i := 2) dd_X2_part_137 rfl (by decide) ?_
  refine fs_aload_n (k0 := 0) (i := 0) dd_X2_part_138 rfl rfl ?_
  refine fs_getr (ci := 2) (j := 0) (q := 4) dd_X2_part_139 fl_X2_9 ca_5 rfl (Or.inl ⟨_, rfl⟩) rfl (by decide) ?_
  refine fs_callV (y := m_X8_next) (as := []) dd_X2_part_142 me_X8_next lk_X2_43 in_X8_next se_X8_next ca_4 rfl rfl rfl (Nat.le_of_ble_eq_true rfl) (Nat.le_of_ble_eq_true rfl) rfl (V_X8_next (by omega)  H) (k2_V fun s2 H => ?_)
  refine fs_aload_n (k0 := 0) (i := 0) dd_X2_part_145 rfl rfl ?_
  refine fs_iload_n (k0 := 1) (i := 1) dd_X2_part_146 rfl rfl ?_
  refine fs_callV (y := m_X2_ofTwo) (as := [.int v1]) dd_X2_part_147 me_X2_ofTwo lk_X2_98 in_X2_ofTwo se_X2_ofTwo ca_5 rfl rfl rfl (Nat.le_of_ble_eq_true rfl) (Nat.le_of_ble_eq_true rfl) rfl (hR 6 _ (by omega) _ _ _ H) (k2_Z fun r3 s4 H => ?_)
  refine fs_if_eq (tgt := 165) dd_X2_part_150 (by decide) (fun hc => ?_) (fun hc => ?_)
  · replace H := H.1 (bi_0 hc)
    refine fs_iconst (n := 0) (v := 0) dd_X2_part_165 (by decide) ?_
    exact fs_zret false dd_X2_part_166 rfl rfl H
  · replace H := H.2 (bi_1 hc)
    refine fs_aload_n (k0 := 0) (i := 0) dd_X2_part_153 rfl rfl ?_
    refine fs_iload_n (k0 := 2) (i := 2) dd_X2_part_154 rfl rfl ?_
    refine fs_callV (y := m_X2_done) (as := [.int u0]) dd_X2_part_155 me_X2_done lk_X2_46 in_X2_done se_X2_done ca_5 rfl rfl rfl (Nat.le_of_ble_eq_true rfl) (Nat.le_of_ble_eq_true rfl) rfl (V_X2_done (by omega)  H) (k2_Z fun r5 s6 H => ?_)
    refine fs_if_eq (tgt := 165) dd_X2_part_158 (by decide) (fun hc => ?_) (fun hc => ?_)
    · replace H := H.1 (bi_0 hc)
      refine fs_iconst (n := 0) (v := 0) dd_X2_part_165 (by decide) ?_
      exact fs_zret false dd_X2_part_166 rfl rfl H
    · replace H := H.2 (bi_1 hc)
      refine fs_iconst (n := 1) (v := 1) dd_X2_part_161 (by decide) ?_
      refine fs_goto (tgt := 166) dd_X2_part_162 (by decide) ?_
      exact fs_zret true dd_X2_part_166 rfl rfl H
set_option maxRecDepth 100000 in
set_option maxHeartbeats 4000000 in
theorem V_nd_X2_part_116 {g : fz_G} {l : Launch} {R : Nat → Int32 → fz_s → (Bool → fz_s → Prop) → Prop} {m0 : Nat} {d : Nat} (hD : m0 + 1 ≤ d) (hm : 11 ≤ m0) (hR : OR g l m0 R)    {Q : Bool → fz_s → Prop} {v1 : Int32} {s : fz_s}  (H : nd_X2_part_116 R   Q v1 s) : fs_V g l m_X2_part d true 116 [.ref 5, .int v1, fz_J] [] s (rZ Q) := by
  obtain ⟨d, rfl⟩ : ∃ e, d = e + 1 := ⟨d - 1, by omega⟩
  unfold nd_X2_part_116 at H
  refine fs_aload_n (k0 := 0) (i := 0) dd_X2_part_116 rfl rfl ?_
  refine fs_getr (ci := 2) (j := 0) (q := 4) dd_X2_part_117 fl_X2_9 ca_5 rfl (Or.inl ⟨_, rfl⟩) rfl (by decide) ?_
  refine fs_bipush (n := 24) (v := 24) dd_X2_part_120 (by decide) ?_
  refine fs_callV (y := m_X8_isWord) (as := [.int 24]) dd_X2_part_122 me_X8_isWord lk_X2_38 in_X8_isWord se_X8_isWord ca_4 rfl rfl rfl (Nat.le_of_ble_eq_true rfl) (Nat.le_of_ble_eq_true rfl) rfl (V_X8_isWord (by omega)  H) (k2_Z fun r1 s2 H => ?_)
  refine fs_if_eq (tgt := 134) dd_X2_part_125 (by decide) (fun hc => ?_) (fun hc => ?_)
  · replace H := H.1 (bi_0 hc)
    refine fs_sipush (n := 20008) (v := 20008) dd_X2_part_134 (by decide) ?_
    refine fs_weak (ls2 := [.ref 5, .int v1, fz_J]) (fz_le_e (fz_le_e (fz_le_j fz_le_n))) ?_
    exact V_nd_X2_part_137 hD hm hR   H
  · replace H := H.2 (bi_1 hc)
    refine fs_sipush (n := 20007) (v := 20007) dd_X2_part_128 (by decide) ?_
    refine fs_goto (tgt := 137) dd_X2_part_131 (by decide) ?_
    refine fs_weak (ls2 := [.ref 5, .int v1, fz_J]) (fz_le_e (fz_le_e (fz_le_j fz_le_n))) ?_
    exact V_nd_X2_part_137 hD hm hR   H
set_option maxRecDepth 100000 in
set_option maxHeartbeats 4000000 in
theorem V_X2_part {g : fz_G} {l : Launch} {R : Nat → Int32 → fz_s → (Bool → fz_s → Prop) → Prop} {m0 : Nat} {d : Nat} (hD : m0 + 1 ≤ d) (hm : 11 ≤ m0) (hR : OR g l m0 R) {p0 : Int32}  {s : fz_s} {Q : Bool → fz_s → Prop} (H : wp_X2_part R p0 s Q) : fs_V g l m_X2_part d true 0 (fz_en [.ref 5, .int p0] 3) [] s (rZ Q) := by
  obtain ⟨d, rfl⟩ : ∃ e, d = e + 1 := ⟨d - 1, by omega⟩
  unfold wp_X2_part at H
  refine fs_aload_n (k0 := 0) (i := 0) dd_X2_part_0 rfl rfl ?_
  refine fs_getr (ci := 2) (j := 0) (q := 4) dd_X2_part_1 fl_X2_9 ca_5 rfl (Or.inl ⟨_, rfl⟩) rfl (by decide) ?_
  refine fs_geti (ci := 8) (j := 3) dd_X2_part_4 fl_X2_89 ca_4 rfl (Or.inl rfl) ?_
  refine fs_iconst (n := 2) (v := 2) dd_X2_part_7 (by decide) ?_
  refine fs_icmp_ne (tgt := 44) dd_X2_part_8 (by decide) (fun hc => ?_) (fun hc => ?_)
  · replace H := H.1 hc
    refine fs_aload_n (k0 := 0) (i := 0) dd_X2_part_44 rfl rfl ?_
    refine fs_getr (ci := 2) (j := 0) (q := 4) dd_X2_part_45 fl_X2_9 ca_5 rfl (Or.inl ⟨_, rfl⟩) rfl (by decide) ?_
    refine fs_bipush (n := 40) (v := 40) dd_X2_part_48 (by decide) ?_
    refine fs_callV (y := m_X8_isSign) (as := [.int 40]) dd_X2_part_50 me_X8_isSign lk_X2_55 in_X8_isSign se_X8_isSign ca_4 rfl rfl rfl (Nat.le_of_ble_eq_true rfl) (Nat.le_of_ble_eq_true rfl) rfl (V_X8_isSign (by omega)  H) (k2_Z fun r1 s2 H => ?_)
    refine fs_if_eq (tgt := 92) dd_X2_part_53 (by decide) (fun hc => ?_) (fun hc => ?_)
    · replace H := H.1 (bi_0 hc)
      refine fs_aload_n (k0 := 0) (i := 0) dd_X2_part_92 rfl rfl ?_
      refine fs_getr (ci := 2) (j := 0) (q := 4) dd_X2_part_93 fl_X2_9 ca_5 rfl (Or.inl ⟨_, rfl⟩) rfl (by decide) ?_
      refine fs_bipush (n := 24) (v := 24) dd_X2_part_96 (by decide) ?_
      refine fs_callV (y := m_X8_isWord) (as := [.int 24]) dd_X2_part_98 me_X8_isWord lk_X2_38 in_X8_isWord se_X8_isWord ca_4 rfl rfl rfl (Nat.le_of_ble_eq_true rfl) (Nat.le_of_ble_eq_true rfl) rfl (V_X8_isWord (by omega)  H) (k2_Z fun r3 s4 H => ?_)
      refine fs_if_ne (tgt := 116) dd_X2_part_101 (by decide) (fun hc => ?_) (fun hc => ?_)
      · replace H := H.1 (bi_1 hc)
        refine fs_weak (ls2 := [.ref 5, .int p0, fz_J]) (fz_le_e (fz_le_e (fz_le_j fz_le_n))) ?_
        exact V_nd_X2_part_116 hD hm hR   H
      · replace H := H.2 (bi_0 hc)
        refine fs_aload_n (k0 := 0) (i := 0) dd_X2_part_104 rfl rfl ?_
        refine fs_getr (ci := 2) (j := 0) (q := 4) dd_X2_part_105 fl_X2_9 ca_5 rfl (Or.inl ⟨_, rfl⟩) rfl (by decide) ?_
        refine fs_bipush (n := 25) (v := 25) dd_X2_part_108 (by decide) ?_
        refine fs_callV (y := m_X8_isWord) (as := [.int 25]) dd_X2_part_110 me_X8_isWord lk_X2_38 in_X8_isWord se_X8_isWord ca_4 rfl rfl rfl (Nat.le_of_ble_eq_true rfl) (Nat.le_of_ble_eq_true rfl) rfl (V_X8_isWord (by omega)  H) (k2_Z fun r5 s6 H => ?_)
        refine fs_if_eq (tgt := 167) dd_X2_part_113 (by decide) (fun hc => ?_) (fun hc => ?_)
        · replace H := H.1 (bi_0 hc)
          refine fs_aload_n (k0 := 0) (i := 0) dd_X2_part_167 rfl rfl ?_
          refine fs_geti (ci := 2) (j := 3) dd_X2_part_168 fl_X2_26 ca_5 rfl (Or.inr rfl) ?_
          refine fs_if_eq (tgt := 250) dd_X2_part_171 (by decide) (fun hc => ?_) (fun hc => ?_)
          · replace H := H.1 hc
            refine fs_weak (ls2 := [.ref 5, fz_J, fz_J]) (fz_le_e (fz_le_j (fz_le_j fz_le_n))) ?_
            exact V_nd_X2_part_250 hD hm hR   H
          · replace H := H.2 hc
            refine fs_aload_n (k0 := 0) (i := 0) dd_X2_part_174 rfl rfl ?_
            refine fs_getr (ci := 2) (j := 0) (q := 4) dd_X2_part_175 fl_X2_9 ca_5 rfl (Or.inl ⟨_, rfl⟩) rfl (by decide) ?_
            refine fs_iconst (n := 0) (v := 0) dd_X2_part_178 (by decide) ?_
            refine fs_callV (y := m_X8_isWord) (as := [.int 0]) dd_X2_part_179 me_X8_isWord lk_X2_38 in_X8_isWord se_X8_isWord ca_4 rfl rfl rfl (Nat.le_of_ble_eq_true rfl) (Nat.le_of_ble_eq_true rfl) rfl (V_X8_isWord (by omega)  H) (k2_Z fun r7 s8 H => ?_)
            refine fs_if_ne (tgt := 197) dd_X2_part_182 (by decide) (fun hc => ?_) (fun hc => ?_)
            · replace H := H.1 (bi_1 hc)
              refine fs_weak (ls2 := [.ref 5, .int p0, fz_J]) (fz_le_e (fz_le_e (fz_le_j fz_le_n))) ?_
              exact V_nd_X2_part_197 hD hm hR   H
            · replace H := H.2 (bi_0 hc)
              refine fs_aload_n (k0 := 0) (i := 0) dd_X2_part_185 rfl rfl ?_
              refine fs_getr (ci := 2) (j := 0) (q := 4) dd_X2_part_186 fl_X2_9 ca_5 rfl (Or.inl ⟨_, rfl⟩) rfl (by decide) ?_
              refine fs_bipush (n := 13) (v := 13) dd_X2_part_189 (by decide) ?_
              refine fs_callV (y := m_X8_isWord) (as := [.int 13]) dd_X2_part_191 me_X8_isWord lk_X2_38 in_X8_isWord se_X8_isWord ca_4 rfl rfl rfl (Nat.le_of_ble_eq_true rfl) (Nat.le_of_ble_eq_true rfl) rfl (V_X8_isWord (by omega)  H) (k2_Z fun r9 s10 H => ?_)
              refine fs_if_eq (tgt := 250) dd_X2_part_194 (by decide) (fun hc => ?_) (fun hc => ?_)
              · replace H := H.1 (bi_0 hc)
                refine fs_weak (ls2 := [.ref 5, fz_J, fz_J]) (fz_le_e (fz_le_j (fz_le_j fz_le_n))) ?_
                exact V_nd_X2_part_250 hD hm hR   H
              · replace H := H.2 (bi_1 hc)
                refine fs_weak (ls2 := [.ref 5, .int p0, fz_J]) (fz_le_e (fz_le_e (fz_le_j fz_le_n))) ?_
                exact V_nd_X2_part_197 hD hm hR   H
        · replace H := H.2 (bi_1 hc)
          refine fs_weak (ls2 := [.ref 5, .int p0, fz_J]) (fz_le_e (fz_le_e (fz_le_j fz_le_n))) ?_
          exact V_nd_X2_part_116 hD hm hR   H
    · replace H := H.2 (bi_1 hc)
      refine fs_aload_n (k0 := 0) (i := 0) dd_X2_part_56 rfl rfl ?_
      refine fs_iload_n (k0 := 1) (i := 1) dd_X2_part_57 rfl rfl ?_
      refine fs_callV (y := m_X2_opens) (as := [.int p0]) dd_X2_part_58 me_X2_opens lk_X2_52 in_X2_opens se_X2_opens ca_5 rfl rfl rfl (Nat.le_of_ble_eq_true rfl) (Nat.le_of_ble_eq_true rfl) rfl (V_X2_opens (by omega)  H) (k2_Z fun r11 s12 H => ?_)
      refine fs_if_eq (tgt := 90) dd_X2_part_61 (by decide) (fun hc => ?_) (fun hc => ?_)
      · replace H := H.1 (bi_0 hc)
        refine fs_iconst (n := 0) (v := 0) dd_X2_part_90 (by decide) ?_
        exact fs_zret false dd_X2_part_91 rfl rfl H
      · replace H := H.2 (bi_1 hc)
        refine fs_aload_n (k0 := 0) (i := 0) dd_X2_part_64 rfl rfl ?_
        refine fs_iload_n (k0 := 1) (i := 1) dd_X2_part_65 rfl rfl ?_
        refine fs_iconst (n := 1) (v := 1) dd_X2_part_66 (by decide) ?_
        refine fs_iadd dd_X2_part_67 ?_
        refine fs_callV (y := m_X2_readSum) (as := [.int (p0 + 1)]) dd_X2_part_68 me_X2_readSum lk_X2_65 in_X2_readSum se_X2_readSum ca_5 rfl rfl rfl (Nat.le_of_ble_eq_true rfl) (Nat.le_of_ble_eq_true rfl) rfl (hR 3 _ (by omega) _ _ _ H) (k2_Z fun r13 s14 H => ?_)
        refine fs_if_eq (tgt := 90) dd_X2_part_71 (by decide) (fun hc => ?_) (fun hc => ?_)
        · replace H := H.1 (bi_0 hc)
          refine fs_iconst (n := 0) (v := 0) dd_X2_part_90 (by decide) ?_
          exact fs_zret false dd_X2_part_91 rfl rfl H
        · replace H := H.2 (bi_1 hc)
          refine fs_aload_n (k0 := 0) (i := 0) dd_X2_part_74 rfl rfl ?_
          refine fs_getr (ci := 2) (j := 0) (q := 4) dd_X2_part_75 fl_X2_9 ca_5 rfl (Or.inl ⟨_, rfl⟩) rfl (by decide) ?_
          refine fs_bipush (n := 41) (v := 41) dd_X2_part_78 (by decide) ?_
          refine fs_callV (y := m_X8_takeSign) (as := [.int 41]) dd_X2_part_80 me_X8_takeSign lk_X2_62 in_X8_takeSign se_X8_takeSign ca_4 rfl rfl rfl (Nat.le_of_ble_eq_true rfl) (Nat.le_of_ble_eq_true rfl) rfl (V_X8_takeSign (by omega)  H) (k2_Z fun r15 s16 H => ?_)
          refine fs_if_eq (tgt := 90) dd_X2_part_83 (by decide) (fun hc => ?_) (fun hc => ?_)
          · replace H := H.1 (bi_0 hc)
            refine fs_iconst (n := 0) (v := 0) dd_X2_part_90 (by decide) ?_
            exact fs_zret false dd_X2_part_91 rfl rfl H
          · replace H := H.2 (bi_1 hc)
            refine fs_iconst (n := 1) (v := 1) dd_X2_part_86 (by decide) ?_
            refine fs_goto (tgt := 91) dd_X2_part_87 (by decide) ?_
            exact fs_zret true dd_X2_part_91 rfl rfl H
  · replace H := H.2 hc
    refine fs_aload_n (k0 := 0) (i := 0) dd_X2_part_11 rfl rfl ?_
    refine fs_getr (ci := 2) (j := 0) (q := 4) dd_X2_part_12 fl_X2_9 ca_5 rfl (Or.inl ⟨_, rfl⟩) rfl (by decide) ?_
    refine fs_sipush (n := 9999) (v := 9999) dd_X2_part_15 (by decide) ?_
    refine fs_callV (y := m_X8_takeNumber) (as := [.int 9999]) dd_X2_part_18 me_X8_takeNumber lk_X2_92 in_X8_takeNumber se_X8_takeNumber ca_4 rfl rfl rfl (Nat.le_of_ble_eq_true rfl) (Nat.le_of_ble_eq_true rfl) rfl (V_X8_takeNumber (by omega)  H) (k2_Z fun r17 s18 H => ?_)
    refine fs_if_eq (tgt := 42) dd_X2_part_21 (by decide) (fun hc => ?_) (fun hc => ?_)
    · replace H := H.1 (bi_0 hc)
      refine fs_iconst (n := 0) (v := 0) dd_X2_part_42 (by decide) ?_
      exact fs_zret false dd_X2_part_43 rfl rfl H
    · replace H := H.2 (bi_1 hc)
      refine fs_aload_n (k0 := 0) (i := 0) dd_X2_part_24 rfl rfl ?_
      refine fs_aload_n (k0 := 0) (i := 0) dd_X2_part_25 rfl rfl ?_
      refine fs_getr (ci := 2) (j := 0) (q := 4) dd_X2_part_26 fl_X2_9 ca_5 rfl (Or.inl ⟨_, rfl⟩) rfl (by decide) ?_
      refine fs_geti (ci := 8) (j := 6) dd_X2_part_29 fl_X2_95 ca_4 rfl (Or.inl rfl) ?_
      refine fs_callV (y := m_X2_done) (as := [.int (s18.1 4 6)]) dd_X2_part_32 me_X2_done lk_X2_46 in_X2_done se_X2_done ca_5 rfl rfl rfl (Nat.le_of_ble_eq_true rfl) (Nat.le_of_ble_eq_true rfl) rfl (V_X2_done (by omega)  H) (k2_Z fun r19 s20 H => ?_)
      refine fs_if_eq (tgt := 42) dd_X2_part_35 (by decide) (fun hc => ?_) (fun hc => ?_)
      · replace H := H.1 (bi_0 hc)
        refine fs_iconst (n := 0) (v := 0) dd_X2_part_42 (by decide) ?_
        exact fs_zret false dd_X2_part_43 rfl rfl H
      · replace H := H.2 (bi_1 hc)
        refine fs_iconst (n := 1) (v := 1) dd_X2_part_38 (by decide) ?_
        refine fs_goto (tgt := 43) dd_X2_part_39 (by decide) ?_
        exact fs_zret true dd_X2_part_43 rfl rfl H
theorem dd_X2_ofTwo_0 : decode m_X2_ofTwo.2.1 0 = .ok (.aload_n 0, 1) := by decide +kernel
theorem dd_X2_ofTwo_1 : decode m_X2_ofTwo.2.1 1 = .ok (.getfield 9, 3) := by decide +kernel
theorem dd_X2_ofTwo_4 : decode m_X2_ofTwo.2.1 4 = .ok (.bipush 40, 2) := by decide +kernel
theorem dd_X2_ofTwo_6 : decode m_X2_ofTwo.2.1 6 = .ok (.invokevirtual 55, 3) := by decide +kernel
theorem dd_X2_ofTwo_9 : decode m_X2_ofTwo.2.1 9 = .ok (.ifCond .ne 11, 3) := by decide +kernel
theorem dd_X2_ofTwo_12 : decode m_X2_ofTwo.2.1 12 = .ok (.aload_n 0, 1) := by decide +kernel
theorem dd_X2_ofTwo_13 : decode m_X2_ofTwo.2.1 13 = .ok (.getfield 9, 3) := by decide +kernel
theorem dd_X2_ofTwo_16 : decode m_X2_ofTwo.2.1 16 = .ok (.invokevirtual 72, 3) := by decide +kernel
theorem dd_X2_ofTwo_19 : decode m_X2_ofTwo.2.1 19 = .ok (.ireturn, 1) := by decide +kernel
theorem dd_X2_ofTwo_20 : decode m_X2_ofTwo.2.1 20 = .ok (.aload_n 0, 1) := by decide +kernel
theorem dd_X2_ofTwo_21 : decode m_X2_ofTwo.2.1 21 = .ok (.iload_n 1, 1) := by decide +kernel
theorem dd_X2_ofTwo_22 : decode m_X2_ofTwo.2.1 22 = .ok (.invokevirtual 52, 3) := by decide +kernel
theorem dd_X2_ofTwo_25 : decode m_X2_ofTwo.2.1 25 = .ok (.ifCond .eq 51, 3) := by decide +kernel
theorem dd_X2_ofTwo_28 : decode m_X2_ofTwo.2.1 28 = .ok (.aload_n 0, 1) := by decide +kernel
theorem dd_X2_ofTwo_29 : decode m_X2_ofTwo.2.1 29 = .ok (.iload_n 1, 1) := by decide +kernel
theorem dd_X2_ofTwo_30 : decode m_X2_ofTwo.2.1 30 = .ok (.iconst 1, 1) := by decide +kernel
theorem dd_X2_ofTwo_31 : decode m_X2_ofTwo.2.1 31 = .ok (.iadd, 1) := by decide +kernel
theorem dd_X2_ofTwo_32 : decode m_X2_ofTwo.2.1 32 = .ok (.invokevirtual 65, 3) := by decide +kernel
theorem dd_X2_ofTwo_35 : decode m_X2_ofTwo.2.1 35 = .ok (.ifCond .eq 41, 3) := by decide +kernel
theorem dd_X2_ofTwo_38 : decode m_X2_ofTwo.2.1 38 = .ok (.aload_n 0, 1) := by decide +kernel
theorem dd_X2_ofTwo_39 : decode m_X2_ofTwo.2.1 39 = .ok (.getfield 9, 3) := by decide +kernel
theorem dd_X2_ofTwo_42 : decode m_X2_ofTwo.2.1 42 = .ok (.bipush 44, 2) := by decide +kernel
theorem dd_X2_ofTwo_44 : decode m_X2_ofTwo.2.1 44 = .ok (.invokevirtual 62, 3) := by decide +kernel
theorem dd_X2_ofTwo_47 : decode m_X2_ofTwo.2.1 47 = .ok (.ifCond .eq 29, 3) := by decide +kernel
theorem dd_X2_ofTwo_50 : decode m_X2_ofTwo.2.1 50 = .ok (.aload_n 0, 1) := by decide +kernel
theorem dd_X2_ofTwo_51 : decode m_X2_ofTwo.2.1 51 = .ok (.iload_n 1, 1) := by decide +kernel
theorem dd_X2_ofTwo_52 : decode m_X2_ofTwo.2.1 52 = .ok (.iconst 1, 1) := by decide +kernel
theorem dd_X2_ofTwo_53 : decode m_X2_ofTwo.2.1 53 = .ok (.iadd, 1) := by decide +kernel
theorem dd_X2_ofTwo_54 : decode m_X2_ofTwo.2.1 54 = .ok (.invokevirtual 65, 3) := by decide +kernel
theorem dd_X2_ofTwo_57 : decode m_X2_ofTwo.2.1 57 = .ok (.ifCond .eq 19, 3) := by decide +kernel
theorem dd_X2_ofTwo_60 : decode m_X2_ofTwo.2.1 60 = .ok (.aload_n 0, 1) := by decide +kernel
theorem dd_X2_ofTwo_61 : decode m_X2_ofTwo.2.1 61 = .ok (.getfield 9, 3) := by decide +kernel
theorem dd_X2_ofTwo_64 : decode m_X2_ofTwo.2.1 64 = .ok (.bipush 41, 2) := by decide +kernel
theorem dd_X2_ofTwo_66 : decode m_X2_ofTwo.2.1 66 = .ok (.invokevirtual 62, 3) := by decide +kernel
theorem dd_X2_ofTwo_69 : decode m_X2_ofTwo.2.1 69 = .ok (.ifCond .eq 7, 3) := by decide +kernel
theorem dd_X2_ofTwo_72 : decode m_X2_ofTwo.2.1 72 = .ok (.iconst 1, 1) := by decide +kernel
theorem dd_X2_ofTwo_73 : decode m_X2_ofTwo.2.1 73 = .ok (.goto 4, 3) := by decide +kernel
theorem dd_X2_ofTwo_76 : decode m_X2_ofTwo.2.1 76 = .ok (.iconst 0, 1) := by decide +kernel
theorem dd_X2_ofTwo_77 : decode m_X2_ofTwo.2.1 77 = .ok (.ireturn, 1) := by decide +kernel
def wp_X2_ofTwo (R : Nat → Int32 → fz_s → (Bool → fz_s → Prop) → Prop) (p0 : Int32) (s : fz_s) (Q : Bool → fz_s → Prop) : Prop :=
  wp_X8_isSign 40 s (fun r1 s2 => ((r1 = true → wp_X2_opens p0 s2 (fun r3 s4 => ((r3 = false → Q false s4) ∧ (r3 = true → R 3 (p0 + 1) s4 (fun r5 s6 => ((r5 = false → Q false s6) ∧ (r5 = true → wp_X8_takeSign 44 s6 (fun r7 s8 => ((r7 = false → Q false s8) ∧ (r7 = true → R 3 (p0 + 1) s8 (fun r9 s10 => ((r9 = false → Q false s10) ∧ (r9 = true → wp_X8_takeSign 41 s10 (fun r11 s12 => ((r11 = false → Q false s12) ∧ (r11 = true → Q true s12)))))))))))))))) ∧ (r1 = false → wp_X8_failHere  s2 (fun r13 s14 => Q r13 s14))))
set_option maxRecDepth 100000 in
set_option maxHeartbeats 4000000 in
theorem V_X2_ofTwo {g : fz_G} {l : Launch} {R : Nat → Int32 → fz_s → (Bool → fz_s → Prop) → Prop} {m0 : Nat} {d : Nat} (hD : m0 + 1 ≤ d) (hm : 11 ≤ m0) (hR : OR g l m0 R) {p0 : Int32}  {s : fz_s} {Q : Bool → fz_s → Prop} (H : wp_X2_ofTwo R p0 s Q) : fs_V g l m_X2_ofTwo d true 0 (fz_en [.ref 5, .int p0] 2) [] s (rZ Q) := by
  obtain ⟨d, rfl⟩ : ∃ e, d = e + 1 := ⟨d - 1, by omega⟩
  unfold wp_X2_ofTwo at H
  refine fs_aload_n (k0 := 0) (i := 0) dd_X2_ofTwo_0 rfl rfl ?_
  refine fs_getr (ci := 2) (j := 0) (q := 4) dd_X2_ofTwo_1 fl_X2_9 ca_5 rfl (Or.inl ⟨_, rfl⟩) rfl (by decide) ?_
  refine fs_bipush (n := 40) (v := 40) dd_X2_ofTwo_4 (by decide) ?_
  refine fs_callV (y := m_X8_isSign) (as := [.int 40]) dd_X2_ofTwo_6 me_X8_isSign lk_X2_55 in_X8_isSign se_X8_isSign ca_4 rfl rfl rfl (Nat.le_of_ble_eq_true rfl) (Nat.le_of_ble_eq_true rfl) rfl (V_X8_isSign (by omega)  H) (k2_Z fun r1 s2 H => ?_)
  refine fs_if_ne (tgt := 20) dd_X2_ofTwo_9 (by decide) (fun hc => ?_) (fun hc => ?_)
  · replace H := H.1 (bi_1 hc)
    refine fs_aload_n (k0 := 0) (i := 0) dd_X2_ofTwo_20 rfl rfl ?_
    refine fs_iload_n (k0 := 1) (i := 1) dd_X2_ofTwo_21 rfl rfl ?_
    refine fs_callV (y := m_X2_opens) (as := [.int p0]) dd_X2_ofTwo_22 me_X2_opens lk_X2_52 in_X2_opens se_X2_opens ca_5 rfl rfl rfl (Nat.le_of_ble_eq_true rfl) (Nat.le_of_ble_eq_true rfl) rfl (V_X2_opens (by omega)  H) (k2_Z fun r3 s4 H => ?_)
    refine fs_if_eq (tgt := 76) dd_X2_ofTwo_25 (by decide) (fun hc => ?_) (fun hc => ?_)
    · replace H := H.1 (bi_0 hc)
      refine fs_iconst (n := 0) (v := 0) dd_X2_ofTwo_76 (by decide) ?_
      exact fs_zret false dd_X2_ofTwo_77 rfl rfl H
    · replace H := H.2 (bi_1 hc)
      refine fs_aload_n (k0 := 0) (i := 0) dd_X2_ofTwo_28 rfl rfl ?_
      refine fs_iload_n (k0 := 1) (i := 1) dd_X2_ofTwo_29 rfl rfl ?_
      refine fs_iconst (n := 1) (v := 1) dd_X2_ofTwo_30 (by decide) ?_
      refine fs_iadd dd_X2_ofTwo_31 ?_
      refine fs_callV (y := m_X2_readSum) (as := [.int (p0 + 1)]) dd_X2_ofTwo_32 me_X2_readSum lk_X2_65 in_X2_readSum se_X2_readSum ca_5 rfl rfl rfl (Nat.le_of_ble_eq_true rfl) (Nat.le_of_ble_eq_true rfl) rfl (hR 3 _ (by omega) _ _ _ H) (k2_Z fun r5 s6 H => ?_)
      refine fs_if_eq (tgt := 76) dd_X2_ofTwo_35 (by decide) (fun hc => ?_) (fun hc => ?_)
      · replace H := H.1 (bi_0 hc)
        refine fs_iconst (n := 0) (v := 0) dd_X2_ofTwo_76 (by decide) ?_
        exact fs_zret false dd_X2_ofTwo_77 rfl rfl H
      · replace H := H.2 (bi_1 hc)
        refine fs_aload_n (k0 := 0) (i := 0) dd_X2_ofTwo_38 rfl rfl ?_
        refine fs_getr (ci := 2) (j := 0) (q := 4) dd_X2_ofTwo_39 fl_X2_9 ca_5 rfl (Or.inl ⟨_, rfl⟩) rfl (by decide) ?_
        refine fs_bipush (n := 44) (v := 44) dd_X2_ofTwo_42 (by decide) ?_
        refine fs_callV (y := m_X8_takeSign) (as := [.int 44]) dd_X2_ofTwo_44 me_X8_takeSign lk_X2_62 in_X8_takeSign se_X8_takeSign ca_4 rfl rfl rfl (Nat.le_of_ble_eq_true rfl) (Nat.le_of_ble_eq_true rfl) rfl (V_X8_takeSign (by omega)  H) (k2_Z fun r7 s8 H => ?_)
        refine fs_if_eq (tgt := 76) dd_X2_ofTwo_47 (by decide) (fun hc => ?_) (fun hc => ?_)
        · replace H := H.1 (bi_0 hc)
          refine fs_iconst (n := 0) (v := 0) dd_X2_ofTwo_76 (by decide) ?_
          exact fs_zret false dd_X2_ofTwo_77 rfl rfl H
        · replace H := H.2 (bi_1 hc)
          refine fs_aload_n (k0 := 0) (i := 0) dd_X2_ofTwo_50 rfl rfl ?_
          refine fs_iload_n (k0 := 1) (i := 1) dd_X2_ofTwo_51 rfl rfl ?_
          refine fs_iconst (n := 1) (v := 1) dd_X2_ofTwo_52 (by decide) ?_
          refine fs_iadd dd_X2_ofTwo_53 ?_
          refine fs_callV (y := m_X2_readSum) (as := [.int (p0 + 1)]) dd_X2_ofTwo_54 me_X2_readSum lk_X2_65 in_X2_readSum se_X2_readSum ca_5 rfl rfl rfl (Nat.le_of_ble_eq_true rfl) (Nat.le_of_ble_eq_true rfl) rfl (hR 3 _ (by omega) _ _ _ H) (k2_Z fun r9 s10 H => ?_)
          refine fs_if_eq (tgt := 76) dd_X2_ofTwo_57 (by decide) (fun hc => ?_) (fun hc => ?_)
          · replace H := H.1 (bi_0 hc)
            refine fs_iconst (n := 0) (v := 0) dd_X2_ofTwo_76 (by decide) ?_
            exact fs_zret false dd_X2_ofTwo_77 rfl rfl H
          · replace H := H.2 (bi_1 hc)
            refine fs_aload_n (k0 := 0) (i := 0) dd_X2_ofTwo_60 rfl rfl ?_
            refine fs_getr (ci := 2) (j := 0) (q := 4) dd_X2_ofTwo_61 fl_X2_9 ca_5 rfl (Or.inl ⟨_, rfl⟩) rfl (by decide) ?_
            refine fs_bipush (n := 41) (v := 41) dd_X2_ofTwo_64 (by decide) ?_
            refine fs_callV (y := m_X8_takeSign) (as := [.int 41]) dd_X2_ofTwo_66 me_X8_takeSign lk_X2_62 in_X8_takeSign se_X8_takeSign ca_4 rfl rfl rfl (Nat.le_of_ble_eq_true rfl) (Nat.le_of_ble_eq_true rfl) rfl (V_X8_takeSign (by omega)  H) (k2_Z fun r11 s12 H => ?_)
            refine fs_if_eq (tgt := 76) dd_X2_ofTwo_69 (by decide) (fun hc => ?_) (fun hc => ?_)
            · replace H := H.1 (bi_0 hc)
              refine fs_iconst (n := 0) (v := 0) dd_X2_ofTwo_76 (by decide) ?_
              exact fs_zret false dd_X2_ofTwo_77 rfl rfl H
            · replace H := H.2 (bi_1 hc)
              refine fs_iconst (n := 1) (v := 1) dd_X2_ofTwo_72 (by decide) ?_
              refine fs_goto (tgt := 77) dd_X2_ofTwo_73 (by decide) ?_
              exact fs_zret true dd_X2_ofTwo_77 rfl rfl H
  · replace H := H.2 (bi_0 hc)
    refine fs_aload_n (k0 := 0) (i := 0) dd_X2_ofTwo_12 rfl rfl ?_
    refine fs_getr (ci := 2) (j := 0) (q := 4) dd_X2_ofTwo_13 fl_X2_9 ca_5 rfl (Or.inl ⟨_, rfl⟩) rfl (by decide) ?_
    refine fs_callV (y := m_X8_failHere) (as := []) dd_X2_ofTwo_16 me_X8_failHere lk_X2_72 in_X8_failHere se_X8_failHere ca_4 rfl rfl rfl (Nat.le_of_ble_eq_true rfl) (Nat.le_of_ble_eq_true rfl) rfl (V_X8_failHere (by omega)  H) (k2_Z fun r13 s14 H => ?_)
    exact fs_zret r13 dd_X2_ofTwo_19 rfl rfl H
def wp_G : Nat → Nat → Int32 → fz_s → (Bool → fz_s → Prop) → Prop
  | 0 => fun _ _ _ _ => False
  | n + 1 => fun i => match i with
    | 0 => wp_X2_readTest (wp_G n) | 1 => wp_X2_both (wp_G n) | 2 => wp_X2_fact (wp_G n) | 3 => wp_X2_readSum (wp_G n) | 4 => wp_X2_product (wp_G n) | 5 => wp_X2_part (wp_G n) | _ => wp_X2_ofTwo (wp_G n)
set_option maxRecDepth 100000 in
set_option maxHeartbeats 4000000 in
theorem V_Gn {g : fz_G} {l : Launch} (n : Nat) : OR g l (11 + n) (wp_G n) := by
  induction n with
  | zero => intro i d hd o s Q H; exact H.elim
  | succ n ih =>
    intro i d hd o s Q H
    match i, H with
    | 0, H => exact V_X2_readTest (m0 := 11 + n) (by omega) (by omega) ih H
    | 1, H => exact V_X2_both (m0 := 11 + n) (by omega) (by omega) ih H
    | 2, H => exact V_X2_fact (m0 := 11 + n) (by omega) (by omega) ih H
    | 3, H => exact V_X2_readSum (m0 := 11 + n) (by omega) (by omega) ih H
    | 4, H => exact V_X2_product (m0 := 11 + n) (by omega) (by omega) ih H
    | 5, H => exact V_X2_part (m0 := 11 + n) (by omega) (by omega) ih H
    | k + 6, H => exact V_X2_ofTwo (m0 := 11 + n) (by omega) (by omega) ih H
set_option maxRecDepth 100000 in
set_option maxHeartbeats 4000000 in
theorem V_G {g : fz_G} {l : Launch} (n i : Nat) {d : Nat} (hD : 11 + n ≤ d) {o : Int32} {s : fz_s} {Q : Bool → fz_s → Prop} (H : wp_G n i o s Q) : fs_V g l (gm i) d true 0 (fz_en [.ref 5, .int o] (gm i).2.2.1) [] s (rZ Q) := V_Gn n i d hD o s Q H
theorem dd_X8_takeWord_0 : decode m_X8_takeWord.2.1 0 = .ok (.aload_n 0, 1) := by decide +kernel
theorem dd_X8_takeWord_1 : decode m_X8_takeWord.2.1 1 = .ok (.iload_n 1, 1) := by decide +kernel
theorem dd_X8_takeWord_2 : decode m_X8_takeWord.2.1 2 = .ok (.invokevirtual 79, 3) := by decide +kernel
theorem dd_X8_takeWord_5 : decode m_X8_takeWord.2.1 5 = .ok (.ifCond .ne 8, 3) := by decide +kernel
theorem dd_X8_takeWord_8 : decode m_X8_takeWord.2.1 8 = .ok (.aload_n 0, 1) := by decide +kernel
theorem dd_X8_takeWord_9 : decode m_X8_takeWord.2.1 9 = .ok (.invokevirtual 75, 3) := by decide +kernel
theorem dd_X8_takeWord_12 : decode m_X8_takeWord.2.1 12 = .ok (.ireturn, 1) := by decide +kernel
theorem dd_X8_takeWord_13 : decode m_X8_takeWord.2.1 13 = .ok (.aload_n 0, 1) := by decide +kernel
theorem dd_X8_takeWord_14 : decode m_X8_takeWord.2.1 14 = .ok (.invokevirtual 40, 3) := by decide +kernel
theorem dd_X8_takeWord_17 : decode m_X8_takeWord.2.1 17 = .ok (.iconst 1, 1) := by decide +kernel
theorem dd_X8_takeWord_18 : decode m_X8_takeWord.2.1 18 = .ok (.ireturn, 1) := by decide +kernel
def wp_X8_takeWord (p0 : Int32) (s : fz_s) (Q : Bool → fz_s → Prop) : Prop :=
  wp_X8_isWord p0 s (fun r1 s2 => ((r1 = true → wp_X8_next  s2 (fun s4 => Q true s4)) ∧ (r1 = false → wp_X8_failHere  s2 (fun r5 s6 => Q r5 s6))))
set_option maxRecDepth 100000 in
set_option maxHeartbeats 4000000 in
theorem V_X8_takeWord {g : fz_G} {l : Launch} {d : Nat} (hD : 10 ≤ d) {p0 : Int32}  {s : fz_s} {Q : Bool → fz_s → Prop} (H : wp_X8_takeWord p0 s Q) : fs_V g l m_X8_takeWord d true 0 (fz_en [.ref 4, .int p0] 2) [] s (rZ Q) := by
  obtain ⟨d, rfl⟩ : ∃ e, d = e + 1 := ⟨d - 1, by omega⟩
  unfold wp_X8_takeWord at H
  refine fs_aload_n (k0 := 0) (i := 0) dd_X8_takeWord_0 rfl rfl ?_
  refine fs_iload_n (k0 := 1) (i := 1) dd_X8_takeWord_1 rfl rfl ?_
  refine fs_callV (y := m_X8_isWord) (as := [.int p0]) dd_X8_takeWord_2 me_X8_isWord lk_X8_79 in_X8_isWord se_X8_isWord ca_4 rfl rfl rfl (Nat.le_of_ble_eq_true rfl) (Nat.le_of_ble_eq_true rfl) rfl (V_X8_isWord (by omega)  H) (k2_Z fun r1 s2 H => ?_)
  refine fs_if_ne (tgt := 13) dd_X8_takeWord_5 (by decide) (fun hc => ?_) (fun hc => ?_)
  · replace H := H.1 (bi_1 hc)
    refine fs_aload_n (k0 := 0) (i := 0) dd_X8_takeWord_13 rfl rfl ?_
    refine fs_callV (y := m_X8_next) (as := []) dd_X8_takeWord_14 me_X8_next lk_X8_40 in_X8_next se_X8_next ca_4 rfl rfl rfl (Nat.le_of_ble_eq_true rfl) (Nat.le_of_ble_eq_true rfl) rfl (V_X8_next (by omega)  H) (k2_V fun s4 H => ?_)
    refine fs_iconst (n := 1) (v := 1) dd_X8_takeWord_17 (by decide) ?_
    exact fs_zret true dd_X8_takeWord_18 rfl rfl H
  · replace H := H.2 (bi_0 hc)
    refine fs_aload_n (k0 := 0) (i := 0) dd_X8_takeWord_8 rfl rfl ?_
    refine fs_callV (y := m_X8_failHere) (as := []) dd_X8_takeWord_9 me_X8_failHere lk_X8_75 in_X8_failHere se_X8_failHere ca_4 rfl rfl rfl (Nat.le_of_ble_eq_true rfl) (Nat.le_of_ble_eq_true rfl) rfl (V_X8_failHere (by omega)  H) (k2_Z fun r5 s6 H => ?_)
    exact fs_zret r5 dd_X8_takeWord_12 rfl rfl H
theorem dd_X8_takeWordAndNumber_0 : decode m_X8_takeWordAndNumber.2.1 0 = .ok (.aload_n 0, 1) := by decide +kernel
theorem dd_X8_takeWordAndNumber_1 : decode m_X8_takeWordAndNumber.2.1 1 = .ok (.iload_n 1, 1) := by decide +kernel
theorem dd_X8_takeWordAndNumber_2 : decode m_X8_takeWordAndNumber.2.1 2 = .ok (.invokevirtual 86, 3) := by decide +kernel
theorem dd_X8_takeWordAndNumber_5 : decode m_X8_takeWordAndNumber.2.1 5 = .ok (.ifCond .eq 15, 3) := by decide +kernel
theorem dd_X8_takeWordAndNumber_8 : decode m_X8_takeWordAndNumber.2.1 8 = .ok (.aload_n 0, 1) := by decide +kernel
theorem dd_X8_takeWordAndNumber_9 : decode m_X8_takeWordAndNumber.2.1 9 = .ok (.iload_n 2, 1) := by decide +kernel
theorem dd_X8_takeWordAndNumber_10 : decode m_X8_takeWordAndNumber.2.1 10 = .ok (.invokevirtual 89, 3) := by decide +kernel
theorem dd_X8_takeWordAndNumber_13 : decode m_X8_takeWordAndNumber.2.1 13 = .ok (.ifCond .eq 7, 3) := by decide +kernel
theorem dd_X8_takeWordAndNumber_16 : decode m_X8_takeWordAndNumber.2.1 16 = .ok (.iconst 1, 1) := by decide +kernel
theorem dd_X8_takeWordAndNumber_17 : decode m_X8_takeWordAndNumber.2.1 17 = .ok (.goto 4, 3) := by decide +kernel
theorem dd_X8_takeWordAndNumber_20 : decode m_X8_takeWordAndNumber.2.1 20 = .ok (.iconst 0, 1) := by decide +kernel
theorem dd_X8_takeWordAndNumber_21 : decode m_X8_takeWordAndNumber.2.1 21 = .ok (.ireturn, 1) := by decide +kernel
def wp_X8_takeWordAndNumber (p0 : Int32) (p1 : Int32) (s : fz_s) (Q : Bool → fz_s → Prop) : Prop :=
  wp_X8_takeWord p0 s (fun r1 s2 => ((r1 = false → Q false s2) ∧ (r1 = true → wp_X8_takeNumber p1 s2 (fun r3 s4 => ((r3 = false → Q false s4) ∧ (r3 = true → Q true s4))))))
set_option maxRecDepth 100000 in
set_option maxHeartbeats 4000000 in
theorem V_X8_takeWordAndNumber {g : fz_G} {l : Launch} {d : Nat} (hD : 11 ≤ d) {p0 : Int32} {p1 : Int32}  {s : fz_s} {Q : Bool → fz_s → Prop} (H : wp_X8_takeWordAndNumber p0 p1 s Q) : fs_V g l m_X8_takeWordAndNumber d true 0 (fz_en [.ref 4, .int p0, .int p1] 3) [] s (rZ Q) := by
  obtain ⟨d, rfl⟩ : ∃ e, d = e + 1 := ⟨d - 1, by omega⟩
  unfold wp_X8_takeWordAndNumber at H
  refine fs_aload_n (k0 := 0) (i := 0) dd_X8_takeWordAndNumber_0 rfl rfl ?_
  refine fs_iload_n (k0 := 1) (i := 1) dd_X8_takeWordAndNumber_1 rfl rfl ?_
  refine fs_callV (y := m_X8_takeWord) (as := [.int p0]) dd_X8_takeWordAndNumber_2 me_X8_takeWord lk_X8_86 in_X8_takeWord se_X8_takeWord ca_4 rfl rfl rfl (Nat.le_of_ble_eq_true rfl) (Nat.le_of_ble_eq_true rfl) rfl (V_X8_takeWord (by omega)  H) (k2_Z fun r1 s2 H => ?_)
  refine fs_if_eq (tgt := 20) dd_X8_takeWordAndNumber_5 (by decide) (fun hc => ?_) (fun hc => ?_)
  · replace H := H.1 (bi_0 hc)
    refine fs_iconst (n := 0) (v := 0) dd_X8_takeWordAndNumber_20 (by decide) ?_
    exact fs_zret false dd_X8_takeWordAndNumber_21 rfl rfl H
  · replace H := H.2 (bi_1 hc)
    refine fs_aload_n (k0 := 0) (i := 0) dd_X8_takeWordAndNumber_8 rfl rfl ?_
    refine fs_iload_n (k0 := 2) (i := 2) dd_X8_takeWordAndNumber_9 rfl rfl ?_
    refine fs_callV (y := m_X8_takeNumber) (as := [.int p1]) dd_X8_takeWordAndNumber_10 me_X8_takeNumber lk_X8_89 in_X8_takeNumber se_X8_takeNumber ca_4 rfl rfl rfl (Nat.le_of_ble_eq_true rfl) (Nat.le_of_ble_eq_true rfl) rfl (V_X8_takeNumber (by omega)  H) (k2_Z fun r3 s4 H => ?_)
    refine fs_if_eq (tgt := 20) dd_X8_takeWordAndNumber_13 (by decide) (fun hc => ?_) (fun hc => ?_)
    · replace H := H.1 (bi_0 hc)
      refine fs_iconst (n := 0) (v := 0) dd_X8_takeWordAndNumber_20 (by decide) ?_
      exact fs_zret false dd_X8_takeWordAndNumber_21 rfl rfl H
    · replace H := H.2 (bi_1 hc)
      refine fs_iconst (n := 1) (v := 1) dd_X8_takeWordAndNumber_16 (by decide) ?_
      refine fs_goto (tgt := 21) dd_X8_takeWordAndNumber_17 (by decide) ?_
      exact fs_zret true dd_X8_takeWordAndNumber_21 rfl rfl H
theorem dd_X9_readSnow_0 : decode m_X9_readSnow.2.1 0 = .ok (.aload_n 1, 1) := by decide +kernel
theorem dd_X9_readSnow_1 : decode m_X9_readSnow.2.1 1 = .ok (.bipush 19, 2) := by decide +kernel
theorem dd_X9_readSnow_3 : decode m_X9_readSnow.2.1 3 = .ok (.bipush 100, 2) := by decide +kernel
theorem dd_X9_readSnow_5 : decode m_X9_readSnow.2.1 5 = .ok (.invokevirtual 137, 3) := by decide +kernel
theorem dd_X9_readSnow_8 : decode m_X9_readSnow.2.1 8 = .ok (.ifCond .ne 5, 3) := by decide +kernel
theorem dd_X9_readSnow_11 : decode m_X9_readSnow.2.1 11 = .ok (.iconst 0, 1) := by decide +kernel
theorem dd_X9_readSnow_12 : decode m_X9_readSnow.2.1 12 = .ok (.ireturn, 1) := by decide +kernel
theorem dd_X9_readSnow_13 : decode m_X9_readSnow.2.1 13 = .ok (.aload_n 0, 1) := by decide +kernel
theorem dd_X9_readSnow_14 : decode m_X9_readSnow.2.1 14 = .ok (.aload_n 1, 1) := by decide +kernel
theorem dd_X9_readSnow_15 : decode m_X9_readSnow.2.1 15 = .ok (.getfield 140, 3) := by decide +kernel
theorem dd_X9_readSnow_18 : decode m_X9_readSnow.2.1 18 = .ok (.putfield 61, 3) := by decide +kernel
theorem dd_X9_readSnow_21 : decode m_X9_readSnow.2.1 21 = .ok (.iconst 1, 1) := by decide +kernel
theorem dd_X9_readSnow_22 : decode m_X9_readSnow.2.1 22 = .ok (.ireturn, 1) := by decide +kernel
def wp_X9_readSnow_17  (s : fz_s) (Q : Bool → fz_s → Prop) : Prop :=
  wp_X8_takeWordAndNumber 19 100 s (fun r1 s2 => ((r1 = true → ∀ s3 : fz_s, s3 = si s2 17 14 (s2.1 4 6) → Q true s3) ∧ (r1 = false → Q false s2)))
set_option maxRecDepth 100000 in
set_option maxHeartbeats 4000000 in
theorem V_X9_readSnow_17 {g : fz_G} {l : Launch} {d : Nat} (hD : 12 ≤ d)   {s : fz_s} {Q : Bool → fz_s → Prop} (H : wp_X9_readSnow_17  s Q) : fs_V g l m_X9_readSnow d true 0 (fz_en [.ref 17, .ref 4] 2) [] s (rZ Q) := by
  obtain ⟨d, rfl⟩ : ∃ e, d = e + 1 := ⟨d - 1, by omega⟩
  unfold wp_X9_readSnow_17 at H
  refine fs_aload_n (k0 := 1) (i := 1) dd_X9_readSnow_0 rfl rfl ?_
  refine fs_bipush (n := 19) (v := 19) dd_X9_readSnow_1 (by decide) ?_
  refine fs_bipush (n := 100) (v := 100) dd_X9_readSnow_3 (by decide) ?_
  refine fs_callV (y := m_X8_takeWordAndNumber) (as := [.int 19, .int 100]) dd_X9_readSnow_5 me_X8_takeWordAndNumber lk_X9_137 in_X8_takeWordAndNumber se_X8_takeWordAndNumber ca_4 rfl rfl rfl (Nat.le_of_ble_eq_true rfl) (Nat.le_of_ble_eq_true rfl) rfl (V_X8_takeWordAndNumber (by omega)  H) (k2_Z fun r1 s2 H => ?_)
  refine fs_if_ne (tgt := 13) dd_X9_readSnow_8 (by decide) (fun hc => ?_) (fun hc => ?_)
  · replace H := H.1 (bi_1 hc)
    refine fs_aload_n (k0 := 0) (i := 0) dd_X9_readSnow_13 rfl rfl ?_
    refine fs_aload_n (k0 := 1) (i := 1) dd_X9_readSnow_14 rfl rfl ?_
    refine fs_geti (ci := 8) (j := 6) dd_X9_readSnow_15 fl_X9_140 ca_4 rfl (Or.inl rfl) ?_
    refine fs_puti (ci := 9) (j := 14) dd_X9_readSnow_18 fl_X9_61 (fun _ _ _ h => by cases h; rfl) ca_17 rfl (Or.inl rfl) ?_
    refine fs_tops (fun s3 hs3 => ?_)
    replace H := H s3 hs3
    refine fs_iconst (n := 1) (v := 1) dd_X9_readSnow_21 (by decide) ?_
    exact fs_zret true dd_X9_readSnow_22 rfl rfl H
  · replace H := H.2 (bi_0 hc)
    refine fs_iconst (n := 0) (v := 0) dd_X9_readSnow_11 (by decide) ?_
    exact fs_zret false dd_X9_readSnow_12 rfl rfl H
theorem dd_X9_takeNewName_0 : decode m_X9_takeNewName.2.1 0 = .ok (.aload_n 1, 1) := by decide +kernel
theorem dd_X9_takeNewName_1 : decode m_X9_takeNewName.2.1 1 = .ok (.invokevirtual 146, 3) := by decide +kernel
theorem dd_X9_takeNewName_4 : decode m_X9_takeNewName.2.1 4 = .ok (.ifCond .ne 5, 3) := by decide +kernel
theorem dd_X9_takeNewName_7 : decode m_X9_takeNewName.2.1 7 = .ok (.iconst 0, 1) := by decide +kernel
theorem dd_X9_takeNewName_8 : decode m_X9_takeNewName.2.1 8 = .ok (.ireturn, 1) := by decide +kernel
theorem dd_X9_takeNewName_9 : decode m_X9_takeNewName.2.1 9 = .ok (.aload_n 0, 1) := by decide +kernel
theorem dd_X9_takeNewName_10 : decode m_X9_takeNewName.2.1 10 = .ok (.aload_n 1, 1) := by decide +kernel
theorem dd_X9_takeNewName_11 : decode m_X9_takeNewName.2.1 11 = .ok (.invokevirtual 149, 3) := by decide +kernel
theorem dd_X9_takeNewName_14 : decode m_X9_takeNewName.2.1 14 = .ok (.iconst (-1), 1) := by decide +kernel
theorem dd_X9_takeNewName_15 : decode m_X9_takeNewName.2.1 15 = .ok (.if_icmp .eq 13, 3) := by decide +kernel
theorem dd_X9_takeNewName_18 : decode m_X9_takeNewName.2.1 18 = .ok (.aload_n 1, 1) := by decide +kernel
theorem dd_X9_takeNewName_19 : decode m_X9_takeNewName.2.1 19 = .ok (.iconst 3, 1) := by decide +kernel
theorem dd_X9_takeNewName_20 : decode m_X9_takeNewName.2.1 20 = .ok (.aload_n 1, 1) := by decide +kernel
theorem dd_X9_takeNewName_21 : decode m_X9_takeNewName.2.1 21 = .ok (.getfield 79, 3) := by decide +kernel
theorem dd_X9_takeNewName_24 : decode m_X9_takeNewName.2.1 24 = .ok (.invokevirtual 82, 3) := by decide +kernel
theorem dd_X9_takeNewName_27 : decode m_X9_takeNewName.2.1 27 = .ok (.ireturn, 1) := by decide +kernel
theorem dd_X9_takeNewName_28 : decode m_X9_takeNewName.2.1 28 = .ok (.iconst 0, 1) := by decide +kernel
theorem dd_X9_takeNewName_29 : decode m_X9_takeNewName.2.1 29 = .ok (.istore_n 3, 1) := by decide +kernel
theorem dd_X9_takeNewName_30 : decode m_X9_takeNewName.2.1 30 = .ok (.iload_n 3, 1) := by decide +kernel
theorem dd_X9_takeNewName_31 : decode m_X9_takeNewName.2.1 31 = .ok (.bipush 6, 2) := by decide +kernel
theorem dd_X9_takeNewName_33 : decode m_X9_takeNewName.2.1 33 = .ok (.if_icmp .ge 25, 3) := by decide +kernel
theorem dd_X9_takeNewName_36 : decode m_X9_takeNewName.2.1 36 = .ok (.aload_n 0, 1) := by decide +kernel
theorem dd_X9_takeNewName_37 : decode m_X9_takeNewName.2.1 37 = .ok (.getfield 9, 3) := by decide +kernel
theorem dd_X9_takeNewName_40 : decode m_X9_takeNewName.2.1 40 = .ok (.iload_n 2, 1) := by decide +kernel
theorem dd_X9_takeNewName_41 : decode m_X9_takeNewName.2.1 41 = .ok (.bipush 6, 2) := by decide +kernel
theorem dd_X9_takeNewName_43 : decode m_X9_takeNewName.2.1 43 = .ok (.imul, 1) := by decide +kernel
theorem dd_X9_takeNewName_44 : decode m_X9_takeNewName.2.1 44 = .ok (.iload_n 3, 1) := by decide +kernel
theorem dd_X9_takeNewName_45 : decode m_X9_takeNewName.2.1 45 = .ok (.iadd, 1) := by decide +kernel
theorem dd_X9_takeNewName_46 : decode m_X9_takeNewName.2.1 46 = .ok (.aload_n 1, 1) := by decide +kernel
theorem dd_X9_takeNewName_47 : decode m_X9_takeNewName.2.1 47 = .ok (.iload_n 3, 1) := by decide +kernel
theorem dd_X9_takeNewName_48 : decode m_X9_takeNewName.2.1 48 = .ok (.invokevirtual 158, 3) := by decide +kernel
theorem dd_X9_takeNewName_51 : decode m_X9_takeNewName.2.1 51 = .ok (.iastore, 1) := by decide +kernel
theorem dd_X9_takeNewName_52 : decode m_X9_takeNewName.2.1 52 = .ok (.iinc 3 1, 3) := by decide +kernel
theorem dd_X9_takeNewName_55 : decode m_X9_takeNewName.2.1 55 = .ok (.goto (-25), 3) := by decide +kernel
theorem dd_X9_takeNewName_58 : decode m_X9_takeNewName.2.1 58 = .ok (.aload_n 1, 1) := by decide +kernel
theorem dd_X9_takeNewName_59 : decode m_X9_takeNewName.2.1 59 = .ok (.invokevirtual 130, 3) := by decide +kernel
theorem dd_X9_takeNewName_62 : decode m_X9_takeNewName.2.1 62 = .ok (.iconst 1, 1) := by decide +kernel
theorem dd_X9_takeNewName_63 : decode m_X9_takeNewName.2.1 63 = .ok (.ireturn, 1) := by decide +kernel
def nd_X9_takeNewName_17_30  (K30 : Int32 → Int32 → fz_s → Prop) (Q : Bool → fz_s → Prop) (v2 : Int32) (v3 : Int32) (s : fz_s) : Prop :=
  ((6 ≤ v3 → wp_X8_next  s (fun s2 => Q true s2)) ∧ (¬ 6 ≤ v3 → wp_X8_letterHere v3 s (fun r3 s4 => vp_in ((v2 * 6) + v3) 60 ∧ ∀ s5 : fz_s, s5 = si s4 18 ((v2 * 6) + v3).toNatClampNeg r3 → ∀ x6 : Int32, x6 = v3 + 1 → K30 v2 x6 s5)))
def lp_X9_takeNewName_17_30   (Q : Bool → fz_s → Prop) : Nat → Int32 → Int32 → fz_s → Prop
  | 0 => fun _ _ _ => False
  | n + 1 => nd_X9_takeNewName_17_30  (lp_X9_takeNewName_17_30   Q n) Q
def wp_X9_takeNewName_17 (p1 : Int32) (s : fz_s) (Q : Bool → fz_s → Prop) : Prop :=
  wp_X8_atName  s (fun r1 s2 => ((r1 = true → wp_X9_nameHere_17  s2 (fun r3 s4 => ((r3 = (-1) → lp_X9_takeNewName_17_30   Q 2048 p1 0 s4) ∧ (¬ r3 = (-1) → wp_X8_fail 3 (s4.1 4 4) s4 (fun r5 s6 => Q r5 s6))))) ∧ (r1 = false → Q false s2)))
set_option maxRecDepth 100000 in
set_option maxHeartbeats 4000000 in
theorem V_nd_X9_takeNewName_17_30 {g : fz_G} {l : Launch} {d : Nat} (hD : 10 ≤ d)   {K30 : Int32 → Int32 → fz_s → Prop} {Q : Bool → fz_s → Prop} {v2 : Int32} {v3 : Int32} {s : fz_s} (hK30 : ∀ {v2 : Int32} {v3 : Int32} {s : fz_s}, K30 v2 v3 s → fs_V g l m_X9_takeNewName d true 30 [.ref 17, .ref 4, .int v2, .int v3] [] s (rZ Q)) (H : nd_X9_takeNewName_17_30  K30 Q v2 v3 s) : fs_V g l m_X9_takeNewName d true 30 [.ref 17, .ref 4, .int v2, .int v3] [] s (rZ Q) := by
  obtain ⟨d, rfl⟩ : ∃ e, d = e + 1 := ⟨d - 1, by omega⟩
  unfold nd_X9_takeNewName_17_30 at H
  refine fs_iload_n (k0 := 3) (i := 3) dd_X9_takeNewName_30 rfl rfl ?_
  refine fs_bipush (n := 6) (v := 6) dd_X9_takeNewName_31 (by decide) ?_
  refine fs_icmp_ge (tgt := 58) dd_X9_takeNewName_33 (by decide) (fun hc => ?_) (fun hc => ?_)
  · replace H := H.1 hc
    refine fs_aload_n (k0 := 1) (i := 1) dd_X9_takeNewName_58 rfl rfl ?_
    refine fs_callV (y := m_X8_next) (as := []) dd_X9_takeNewName_59 me_X8_next lk_X9_130 in_X8_next se_X8_next ca_4 rfl rfl rfl (Nat.le_of_ble_eq_true rfl) (Nat.le_of_ble_eq_true rfl) rfl (V_X8_next (by omega)  H) (k2_V fun s2 H => ?_)
    refine fs_iconst (n := 1) (v := 1) dd_X9_takeNewName_62 (by decide) ?_
    exact fs_zret true dd_X9_takeNewName_63 rfl rfl H
  · replace H := H.2 hc
    refine fs_aload_n (k0 := 0) (i := 0) dd_X9_takeNewName_36 rfl rfl ?_
    refine fs_getr (ci := 9) (j := 0) (q := 18) dd_X9_takeNewName_37 fl_X9_9 ca_17 rfl (Or.inr ⟨_, rfl⟩) rfl (by decide) ?_
    refine fs_iload_n (k0 := 2) (i := 2) dd_X9_takeNewName_40 rfl rfl ?_
    refine fs_bipush (n := 6) (v := 6) dd_X9_takeNewName_41 (by decide) ?_
    refine fs_imul dd_X9_takeNewName_43 ?_
    refine fs_iload_n (k0 := 3) (i := 3) dd_X9_takeNewName_44 rfl rfl ?_
    refine fs_iadd dd_X9_takeNewName_45 ?_
    refine fs_aload_n (k0 := 1) (i := 1) dd_X9_takeNewName_46 rfl rfl ?_
    refine fs_iload_n (k0 := 3) (i := 3) dd_X9_takeNewName_47 rfl rfl ?_
    refine fs_callV (y := m_X8_letterHere) (as := [.int v3]) dd_X9_takeNewName_48 me_X8_letterHere lk_X9_158 in_X8_letterHere se_X8_letterHere ca_4 rfl rfl rfl (Nat.le_of_ble_eq_true rfl) (Nat.le_of_ble_eq_true rfl) rfl (V_X8_letterHere (by omega)  H) (k2_I fun r3 s4 H => ?_)
    have hb := H.1
    replace H := H.2
    refine fs_iast dd_X9_takeNewName_51 ca_18 hb ?_
    refine fs_tops (fun s5 hs5 => ?_)
    replace H := H s5 hs5
    refine fs_iincN (i := 3) (m := 1) (c := 1) dd_X9_takeNewName_52 rfl (by decide) (by decide) (fun x6 hx6 => ?_)
    replace H := H x6 hx6
    refine fs_goto (tgt := 30) dd_X9_takeNewName_55 (by decide) ?_
    refine fs_weak (ls2 := [.ref 17, .ref 4, .int v2, .int x6]) (fz_le_e (fz_le_e (fz_le_e (fz_le_e fz_le_n)))) ?_
    exact hK30 H
set_option maxRecDepth 100000 in
set_option maxHeartbeats 4000000 in
theorem V_lp_X9_takeNewName_17_30 {g : fz_G} {l : Launch} {d : Nat} (hD : 10 ≤ d)    {Q : Bool → fz_s → Prop}  (n : Nat) : ∀ {v2 : Int32} {v3 : Int32} {s : fz_s}, lp_X9_takeNewName_17_30   Q n v2 v3 s → fs_V g l m_X9_takeNewName d true 30 [.ref 17, .ref 4, .int v2, .int v3] [] s (rZ Q) := by
  induction n with
  | zero => intro v2 v3 s H; exact H.elim
  | succ n ih => intro v2 v3 s H; exact V_nd_X9_takeNewName_17_30 hD  (fun H => ih H) H
set_option maxRecDepth 100000 in
set_option maxHeartbeats 4000000 in
theorem V_X9_takeNewName_17 {g : fz_G} {l : Launch} {d : Nat} (hD : 10 ≤ d) {p1 : Int32}  {s : fz_s} {Q : Bool → fz_s → Prop} (H : wp_X9_takeNewName_17 p1 s Q) : fs_V g l m_X9_takeNewName d true 0 (fz_en [.ref 17, .ref 4, .int p1] 4) [] s (rZ Q) := by
  obtain ⟨d, rfl⟩ : ∃ e, d = e + 1 := ⟨d - 1, by omega⟩
  unfold wp_X9_takeNewName_17 at H
  refine fs_aload_n (k0 := 1) (i := 1) dd_X9_takeNewName_0 rfl rfl ?_
  refine fs_callV (y := m_X8_atName) (as := []) dd_X9_takeNewName_1 me_X8_atName lk_X9_146 in_X8_atName se_X8_atName ca_4 rfl rfl rfl (Nat.le_of_ble_eq_true rfl) (Nat.le_of_ble_eq_true rfl) rfl (V_X8_atName (by omega)  H) (k2_Z fun r1 s2 H => ?_)
  refine fs_if_ne (tgt := 9) dd_X9_takeNewName_4 (by decide) (fun hc => ?_) (fun hc => ?_)
  · replace H := H.1 (bi_1 hc)
    refine fs_aload_n (k0 := 0) (i := 0) dd_X9_takeNewName_9 rfl rfl ?_
    refine fs_aload_n (k0 := 1) (i := 1) dd_X9_takeNewName_10 rfl rfl ?_
    refine fs_callV (y := m_X9_nameHere) (as := [.ref 4]) dd_X9_takeNewName_11 me_X9_nameHere lk_X9_149 in_X9_nameHere se_X9_nameHere ca_17 rfl rfl rfl (Nat.le_of_ble_eq_true rfl) (Nat.le_of_ble_eq_true rfl) rfl (V_X9_nameHere_17 (by omega)  H) (k2_I fun r3 s4 H => ?_)
    refine fs_iconst (n := -1) (v := -1) dd_X9_takeNewName_14 (by decide) ?_
    refine fs_icmp_eq (tgt := 28) dd_X9_takeNewName_15 (by decide) (fun hc => ?_) (fun hc => ?_)
    · replace H := H.1 hc
      refine fs_iconst (n := 0) (v := 0) dd_X9_takeNewName_28 (by decide) ?_
      refine fs_istore_n (k0 := 3) (i := 3) dd_X9_takeNewName_29 rfl (by decide) ?_
      refine fs_weak (ls2 := [.ref 17, .ref 4, .int p1, .int 0]) (fz_le_e (fz_le_e (fz_le_e (fz_le_e fz_le_n)))) ?_
      exact V_lp_X9_takeNewName_17_30 hD    2048 H
    · replace H := H.2 hc
      refine fs_aload_n (k0 := 1) (i := 1) dd_X9_takeNewName_18 rfl rfl ?_
      refine fs_iconst (n := 3) (v := 3) dd_X9_takeNewName_19 (by decide) ?_
      refine fs_aload_n (k0 := 1) (i := 1) dd_X9_takeNewName_20 rfl rfl ?_
      refine fs_geti (ci := 8) (j := 4) dd_X9_takeNewName_21 fl_X9_79 ca_4 rfl (Or.inl rfl) ?_
      refine fs_callV (y := m_X8_fail) (as := [.int 3, .int (s4.1 4 4)]) dd_X9_takeNewName_24 me_X8_fail lk_X9_82 in_X8_fail se_X8_fail ca_4 rfl rfl rfl (Nat.le_of_ble_eq_true rfl) (Nat.le_of_ble_eq_true rfl) rfl (V_X8_fail (by omega)  H) (k2_Z fun r5 s6 H => ?_)
      exact fs_zret r5 dd_X9_takeNewName_27 rfl rfl H
  · replace H := H.2 (bi_0 hc)
    refine fs_iconst (n := 0) (v := 0) dd_X9_takeNewName_7 (by decide) ?_
    exact fs_zret false dd_X9_takeNewName_8 rfl rfl H
theorem dd_X9_readPerson_0 : decode m_X9_readPerson.2.1 0 = .ok (.aload_n 0, 1) := by decide +kernel
theorem dd_X9_readPerson_1 : decode m_X9_readPerson.2.1 1 = .ok (.getfield 55, 3) := by decide +kernel
theorem dd_X9_readPerson_4 : decode m_X9_readPerson.2.1 4 = .ok (.bipush 8, 2) := by decide +kernel
theorem dd_X9_readPerson_6 : decode m_X9_readPerson.2.1 6 = .ok (.if_icmp .lt 13, 3) := by decide +kernel
theorem dd_X9_readPerson_9 : decode m_X9_readPerson.2.1 9 = .ok (.aload_n 1, 1) := by decide +kernel
theorem dd_X9_readPerson_10 : decode m_X9_readPerson.2.1 10 = .ok (.iconst 5, 1) := by decide +kernel
theorem dd_X9_readPerson_11 : decode m_X9_readPerson.2.1 11 = .ok (.aload_n 1, 1) := by decide +kernel
theorem dd_X9_readPerson_12 : decode m_X9_readPerson.2.1 12 = .ok (.getfield 79, 3) := by decide +kernel
theorem dd_X9_readPerson_15 : decode m_X9_readPerson.2.1 15 = .ok (.invokevirtual 82, 3) := by decide +kernel
theorem dd_X9_readPerson_18 : decode m_X9_readPerson.2.1 18 = .ok (.ireturn, 1) := by decide +kernel
theorem dd_X9_readPerson_19 : decode m_X9_readPerson.2.1 19 = .ok (.aload_n 1, 1) := by decide +kernel
theorem dd_X9_readPerson_20 : decode m_X9_readPerson.2.1 20 = .ok (.invokevirtual 130, 3) := by decide +kernel
theorem dd_X9_readPerson_23 : decode m_X9_readPerson.2.1 23 = .ok (.aload_n 0, 1) := by decide +kernel
theorem dd_X9_readPerson_24 : decode m_X9_readPerson.2.1 24 = .ok (.aload_n 1, 1) := by decide +kernel
theorem dd_X9_readPerson_25 : decode m_X9_readPerson.2.1 25 = .ok (.iconst 2, 1) := by decide +kernel
theorem dd_X9_readPerson_26 : decode m_X9_readPerson.2.1 26 = .ok (.aload_n 0, 1) := by decide +kernel
theorem dd_X9_readPerson_27 : decode m_X9_readPerson.2.1 27 = .ok (.getfield 55, 3) := by decide +kernel
theorem dd_X9_readPerson_30 : decode m_X9_readPerson.2.1 30 = .ok (.iadd, 1) := by decide +kernel
theorem dd_X9_readPerson_31 : decode m_X9_readPerson.2.1 31 = .ok (.invokevirtual 133, 3) := by decide +kernel
theorem dd_X9_readPerson_34 : decode m_X9_readPerson.2.1 34 = .ok (.ifCond .eq 19, 3) := by decide +kernel
theorem dd_X9_readPerson_37 : decode m_X9_readPerson.2.1 37 = .ok (.aload_n 1, 1) := by decide +kernel
theorem dd_X9_readPerson_38 : decode m_X9_readPerson.2.1 38 = .ok (.bipush 18, 2) := by decide +kernel
theorem dd_X9_readPerson_40 : decode m_X9_readPerson.2.1 40 = .ok (.invokevirtual 143, 3) := by decide +kernel
theorem dd_X9_readPerson_43 : decode m_X9_readPerson.2.1 43 = .ok (.ifCond .eq 10, 3) := by decide +kernel
theorem dd_X9_readPerson_46 : decode m_X9_readPerson.2.1 46 = .ok (.aload_n 1, 1) := by decide +kernel
theorem dd_X9_readPerson_47 : decode m_X9_readPerson.2.1 47 = .ok (.invokevirtual 146, 3) := by decide +kernel
theorem dd_X9_readPerson_50 : decode m_X9_readPerson.2.1 50 = .ok (.ifCond .ne 5, 3) := by decide +kernel
theorem dd_X9_readPerson_53 : decode m_X9_readPerson.2.1 53 = .ok (.iconst 0, 1) := by decide +kernel
theorem dd_X9_readPerson_54 : decode m_X9_readPerson.2.1 54 = .ok (.ireturn, 1) := by decide +kernel
theorem dd_X9_readPerson_55 : decode m_X9_readPerson.2.1 55 = .ok (.aload_n 0, 1) := by decide +kernel
theorem dd_X9_readPerson_56 : decode m_X9_readPerson.2.1 56 = .ok (.getfield 21, 3) := by decide +kernel
theorem dd_X9_readPerson_59 : decode m_X9_readPerson.2.1 59 = .ok (.aload_n 0, 1) := by decide +kernel
theorem dd_X9_readPerson_60 : decode m_X9_readPerson.2.1 60 = .ok (.getfield 55, 3) := by decide +kernel
theorem dd_X9_readPerson_63 : decode m_X9_readPerson.2.1 63 = .ok (.aload_n 0, 1) := by decide +kernel
theorem dd_X9_readPerson_64 : decode m_X9_readPerson.2.1 64 = .ok (.aload_n 1, 1) := by decide +kernel
theorem dd_X9_readPerson_65 : decode m_X9_readPerson.2.1 65 = .ok (.invokevirtual 149, 3) := by decide +kernel
theorem dd_X9_readPerson_68 : decode m_X9_readPerson.2.1 68 = .ok (.iastore, 1) := by decide +kernel
theorem dd_X9_readPerson_69 : decode m_X9_readPerson.2.1 69 = .ok (.aload_n 0, 1) := by decide +kernel
theorem dd_X9_readPerson_70 : decode m_X9_readPerson.2.1 70 = .ok (.getfield 21, 3) := by decide +kernel
theorem dd_X9_readPerson_73 : decode m_X9_readPerson.2.1 73 = .ok (.aload_n 0, 1) := by decide +kernel
theorem dd_X9_readPerson_74 : decode m_X9_readPerson.2.1 74 = .ok (.getfield 55, 3) := by decide +kernel
theorem dd_X9_readPerson_77 : decode m_X9_readPerson.2.1 77 = .ok (.iaload, 1) := by decide +kernel
theorem dd_X9_readPerson_78 : decode m_X9_readPerson.2.1 78 = .ok (.ifCond .lt 16, 3) := by decide +kernel
theorem dd_X9_readPerson_81 : decode m_X9_readPerson.2.1 81 = .ok (.aload_n 0, 1) := by decide +kernel
theorem dd_X9_readPerson_82 : decode m_X9_readPerson.2.1 82 = .ok (.getfield 21, 3) := by decide +kernel
theorem dd_X9_readPerson_85 : decode m_X9_readPerson.2.1 85 = .ok (.aload_n 0, 1) := by decide +kernel
theorem dd_X9_readPerson_86 : decode m_X9_readPerson.2.1 86 = .ok (.getfield 55, 3) := by decide +kernel
theorem dd_X9_readPerson_89 : decode m_X9_readPerson.2.1 89 = .ok (.iaload, 1) := by decide +kernel
theorem dd_X9_readPerson_90 : decode m_X9_readPerson.2.1 90 = .ok (.iconst 2, 1) := by decide +kernel
theorem dd_X9_readPerson_91 : decode m_X9_readPerson.2.1 91 = .ok (.if_icmp .lt 13, 3) := by decide +kernel
theorem dd_X9_readPerson_94 : decode m_X9_readPerson.2.1 94 = .ok (.aload_n 1, 1) := by decide +kernel
theorem dd_X9_readPerson_95 : decode m_X9_readPerson.2.1 95 = .ok (.iconst 3, 1) := by decide +kernel
theorem dd_X9_readPerson_96 : decode m_X9_readPerson.2.1 96 = .ok (.aload_n 1, 1) := by decide +kernel
theorem dd_X9_readPerson_97 : decode m_X9_readPerson.2.1 97 = .ok (.getfield 79, 3) := by decide +kernel
theorem dd_X9_readPerson_100 : decode m_X9_readPerson.2.1 100 = .ok (.invokevirtual 82, 3) := by decide +kernel
theorem dd_X9_readPerson_103 : decode m_X9_readPerson.2.1 103 = .ok (.ireturn, 1) := by decide +kernel
theorem dd_X9_readPerson_104 : decode m_X9_readPerson.2.1 104 = .ok (.aload_n 1, 1) := by decide +kernel
theorem dd_X9_readPerson_105 : decode m_X9_readPerson.2.1 105 = .ok (.invokevirtual 130, 3) := by decide +kernel
theorem dd_X9_readPerson_108 : decode m_X9_readPerson.2.1 108 = .ok (.iconst 1, 1) := by decide +kernel
theorem dd_X9_readPerson_109 : decode m_X9_readPerson.2.1 109 = .ok (.ireturn, 1) := by decide +kernel
def nd_X9_readPerson_17_94   (Q : Bool → fz_s → Prop)  (s : fz_s) : Prop :=
  wp_X8_fail 3 (s.1 4 4) s (fun r1 s2 => Q r1 s2)
def wp_X9_readPerson_17  (s : fz_s) (Q : Bool → fz_s → Prop) : Prop :=
  (((s.1 17 12) < 8 → wp_X8_next  s (fun s2 => wp_X9_takeNewName_17 (2 + (s2.1 17 12)) s2 (fun r3 s4 => ((r3 = false → Q false s4) ∧ (r3 = true → wp_X8_takeWord 18 s4 (fun r5 s6 => ((r5 = false → Q false s6) ∧ (r5 = true → wp_X8_atName  s6 (fun r7 s8 => ((r7 = true → wp_X9_nameHere_17  s8 (fun r9 s10 => vp_in (s8.1 17 12) 8 ∧ ∀ s11 : fz_s, s11 = si s10 21 (s8.1 17 12).toNatClampNeg r9 → vp_in (s11.1 17 12) 8 ∧ (((s11.1 21 (s11.1 17 12).toNatClampNeg) < 0 → nd_X9_readPerson_17_94   Q  s11) ∧ (¬ (s11.1 21 (s11.1 17 12).toNatClampNeg) < 0 → vp_in (s11.1 17 12) 8 ∧ (((s11.1 21 (s11.1 17 12).toNatClampNeg) < 2 → wp_X8_next  s11 (fun s13 => Q true s13)) ∧ (¬ (s11.1 21 (s11.1 17 12).toNatClampNeg) < 2 → nd_X9_readPerson_17_94   Q  s11)))))) ∧ (r7 = false → Q false s8))))))))))) ∧ (¬ (s.1 17 12) < 8 → wp_X8_fail 5 (s.1 4 4) s (fun r14 s15 => Q r14 s15)))
set_option maxRecDepth 100000 in
set_option maxHeartbeats 4000000 in
theorem V_nd_X9_readPerson_17_94 {g : fz_G} {l : Launch} {d : Nat} (hD : 11 ≤ d)    {Q : Bool → fz_s → Prop}  {s : fz_s}  (H : nd_X9_readPerson_17_94   Q  s) : fs_V g l m_X9_readPerson d true 94 [fz_J, .ref 4] [] s (rZ Q) := by
  obtain ⟨d, rfl⟩ : ∃ e, d = e + 1 := ⟨d - 1, by omega⟩
  unfold nd_X9_readPerson_17_94 at H
  refine fs_aload_n (k0 := 1) (i := 1) dd_X9_readPerson_94 rfl rfl ?_
  refine fs_iconst (n := 3) (v := 3) dd_X9_readPerson_95 (by decide) ?_
  refine fs_aload_n (k0 := 1) (i := 1) dd_X9_readPerson_96 rfl rfl ?_
  refine fs_geti (ci := 8) (j := 4) dd_X9_readPerson_97 fl_X9_79 ca_4 rfl (Or.inl rfl) ?_
  refine fs_callV (y := m_X8_fail) (as := [.int 3, .int (s.1 4 4)]) dd_X9_readPerson_100 me_X8_fail lk_X9_82 in_X8_fail se_X8_fail ca_4 rfl rfl rfl (Nat.le_of_ble_eq_true rfl) (Nat.le_of_ble_eq_true rfl) rfl (V_X8_fail (by omega)  H) (k2_Z fun r1 s2 H => ?_)
  exact fs_zret r1 dd_X9_readPerson_103 rfl rfl H
set_option maxRecDepth 100000 in
set_option maxHeartbeats 4000000 in
theorem V_X9_readPerson_17 {g : fz_G} {l : Launch} {d : Nat} (hD : 11 ≤ d)   {s : fz_s} {Q : Bool → fz_s → Prop} (H : wp_X9_readPerson_17  s Q) : fs_V g l m_X9_readPerson d true 0 (fz_en [.ref 17, .ref 4] 2) [] s (rZ Q) := by
  obtain ⟨d, rfl⟩ : ∃ e, d = e + 1 := ⟨d - 1, by omega⟩
  unfold wp_X9_readPerson_17 at H
  refine fs_aload_n (k0 := 0) (i := 0) dd_X9_readPerson_0 rfl rfl ?_
  refine fs_geti (ci := 9) (j := 12) dd_X9_readPerson_1 fl_X9_55 ca_17 rfl (Or.inl rfl) ?_
  refine fs_bipush (n := 8) (v := 8) dd_X9_readPerson_4 (by decide) ?_
  refine fs_icmp_lt (tgt := 19) dd_X9_readPerson_6 (by decide) (fun hc => ?_) (fun hc => ?_)
  · replace H := H.1 hc
    refine fs_aload_n (k0 := 1) (i := 1) dd_X9_readPerson_19 rfl rfl ?_
    refine fs_callV (y := m_X8_next) (as := []) dd_X9_readPerson_20 me_X8_next lk_X9_130 in_X8_next se_X8_next ca_4 rfl rfl rfl (Nat.le_of_ble_eq_true rfl) (Nat.le_of_ble_eq_true rfl) rfl (V_X8_next (by omega)  H) (k2_V fun s2 H => ?_)
    refine fs_aload_n (k0 := 0) (i := 0) dd_X9_readPerson_23 rfl rfl ?_
    refine fs_aload_n (k0 := 1) (i := 1) dd_X9_readPerson_24 rfl rfl ?_
    refine fs_iconst (n := 2) (v := 2) dd_X9_readPerson_25 (by decide) ?_
    refine fs_aload_n (k0 := 0) (i := 0) dd_X9_readPerson_26 rfl rfl ?_
    refine fs_geti (ci := 9) (j := 12) dd_X9_readPerson_27 fl_X9_55 ca_17 rfl (Or.inl rfl) ?_
    refine fs_iadd dd_X9_readPerson_30 ?_
    refine fs_callV (y := m_X9_takeNewName) (as := [.ref 4, .int (2 + (s2.1 17 12))]) dd_X9_readPerson_31 me_X9_takeNewName lk_X9_133 in_X9_takeNewName se_X9_takeNewName ca_17 rfl rfl rfl (Nat.le_of_ble_eq_true rfl) (Nat.le_of_ble_eq_true rfl) rfl (V_X9_takeNewName_17 (by omega)  H) (k2_Z fun r3 s4 H => ?_)
    refine fs_if_eq (tgt := 53) dd_X9_readPerson_34 (by decide) (fun hc => ?_) (fun hc => ?_)
    · replace H := H.1 (bi_0 hc)
      refine fs_iconst (n := 0) (v := 0) dd_X9_readPerson_53 (by decide) ?_
      exact fs_zret false dd_X9_readPerson_54 rfl rfl H
    · replace H := H.2 (bi_1 hc)
      refine fs_aload_n (k0 := 1) (i := 1) dd_X9_readPerson_37 rfl rfl ?_
      refine fs_bipush (n := 18) (v := 18) dd_X9_readPerson_38 (by decide) ?_
      refine fs_callV (y := m_X8_takeWord) (as := [.int 18]) dd_X9_readPerson_40 me_X8_takeWord lk_X9_143 in_X8_takeWord se_X8_takeWord ca_4 rfl rfl rfl (Nat.le_of_ble_eq_true rfl) (Nat.le_of_ble_eq_true rfl) rfl (V_X8_takeWord (by omega)  H) (k2_Z fun r5 s6 H => ?_)
      refine fs_if_eq (tgt := 53) dd_X9_readPerson_43 (by decide) (fun hc => ?_) (fun hc => ?_)
      · replace H := H.1 (bi_0 hc)
        refine fs_iconst (n := 0) (v := 0) dd_X9_readPerson_53 (by decide) ?_
        exact fs_zret false dd_X9_readPerson_54 rfl rfl H
      · replace H := H.2 (bi_1 hc)
        refine fs_aload_n (k0 := 1) (i := 1) dd_X9_readPerson_46 rfl rfl ?_
        refine fs_callV (y := m_X8_atName) (as := []) dd_X9_readPerson_47 me_X8_atName lk_X9_146 in_X8_atName se_X8_atName ca_4 rfl rfl rfl (Nat.le_of_ble_eq_true rfl) (Nat.le_of_ble_eq_true rfl) rfl (V_X8_atName (by omega)  H) (k2_Z fun r7 s8 H => ?_)
        refine fs_if_ne (tgt := 55) dd_X9_readPerson_50 (by decide) (fun hc => ?_) (fun hc => ?_)
        · replace H := H.1 (bi_1 hc)
          refine fs_aload_n (k0 := 0) (i := 0) dd_X9_readPerson_55 rfl rfl ?_
          refine fs_getr (ci := 9) (j := 3) (q := 21) dd_X9_readPerson_56 fl_X9_21 ca_17 rfl (Or.inr ⟨_, rfl⟩) rfl (by decide) ?_
          refine fs_aload_n (k0 := 0) (i := 0) dd_X9_readPerson_59 rfl rfl ?_
          refine fs_geti (ci := 9) (j := 12) dd_X9_readPerson_60 fl_X9_55 ca_17 rfl (Or.inl rfl) ?_
          refine fs_aload_n (k0 := 0) (i := 0) dd_X9_readPerson_63 rfl rfl ?_
          refine fs_aload_n (k0 := 1) (i := 1) dd_X9_readPerson_64 rfl rfl ?_
          refine fs_callV (y := m_X9_nameHere) (as := [.ref 4]) dd_X9_readPerson_65 me_X9_nameHere lk_X9_149 in_X9_nameHere se_X9_nameHere ca_17 rfl rfl rfl (Nat.le_of_ble_eq_true rfl) (Nat.le_of_ble_eq_true rfl) rfl (V_X9_nameHere_17 (by omega)  H) (k2_I fun r9 s10 H => ?_)
          have hb := H.1
          replace H := H.2
          refine fs_iast dd_X9_readPerson_68 ca_21 hb ?_
          refine fs_tops (fun s11 hs11 => ?_)
          replace H := H s11 hs11
          refine fs_aload_n (k0 := 0) (i := 0) dd_X9_readPerson_69 rfl rfl ?_
          refine fs_getr (ci := 9) (j := 3) (q := 21) dd_X9_readPerson_70 fl_X9_21 ca_17 rfl (Or.inr ⟨_, rfl⟩) rfl (by decide) ?_
          refine fs_aload_n (k0 := 0) (i := 0) dd_X9_readPerson_73 rfl rfl ?_
          refine fs_geti (ci := 9) (j := 12) dd_X9_readPerson_74 fl_X9_55 ca_17 rfl (Or.inl rfl) ?_
          have hb := H.1
          replace H := H.2
          refine fs_iald dd_X9_readPerson_77 ca_21 hb ?_
          refine fs_if_lt (tgt := 94) dd_X9_readPerson_78 (by decide) (fun hc => ?_) (fun hc => ?_)
          · replace H := H.1 hc
            refine fs_weak (ls2 := [fz_J, .ref 4]) (fz_le_j (fz_le_e fz_le_n)) ?_
            exact V_nd_X9_readPerson_17_94 hD    H
          · replace H := H.2 hc
            refine fs_aload_n (k0 := 0) (i := 0) dd_X9_readPerson_81 rfl rfl ?_
            refine fs_getr (ci := 9) (j := 3) (q := 21) dd_X9_readPerson_82 fl_X9_21 ca_17 rfl (Or.inr ⟨_, rfl⟩) rfl (by decide) ?_
            refine fs_aload_n (k0 := 0) (i := 0) dd_X9_readPerson_85 rfl rfl ?_
            refine fs_geti (ci := 9) (j := 12) dd_X9_readPerson_86 fl_X9_55 ca_17 rfl (Or.inl rfl) ?_
            have hb := H.1
            replace H := H.2
            refine fs_iald dd_X9_readPerson_89 ca_21 hb ?_
            refine fs_iconst (n := 2) (v := 2) dd_X9_readPerson_90 (by decide) ?_
            refine fs_icmp_lt (tgt := 104) dd_X9_readPerson_91 (by decide) (fun hc => ?_) (fun hc => ?_)
            · replace H := H.1 hc
              refine fs_aload_n (k0 := 1) (i := 1) dd_X9_readPerson_104 rfl rfl ?_
              refine fs_callV (y := m_X8_next) (as := []) dd_X9_readPerson_105 me_X8_next lk_X9_130 in_X8_next se_X8_next ca_4 rfl rfl rfl (Nat.le_of_ble_eq_true rfl) (Nat.le_of_ble_eq_true rfl) rfl (V_X8_next (by omega)  H) (k2_V fun s13 H => ?_)
              refine fs_iconst (n := 1) (v := 1) dd_X9_readPerson_108 (by decide) ?_
              exact fs_zret true dd_X9_readPerson_109 rfl rfl H
            · replace H := H.2 hc
              refine fs_weak (ls2 := [fz_J, .ref 4]) (fz_le_j (fz_le_e fz_le_n)) ?_
              exact V_nd_X9_readPerson_17_94 hD    H
        · replace H := H.2 (bi_0 hc)
          refine fs_iconst (n := 0) (v := 0) dd_X9_readPerson_53 (by decide) ?_
          exact fs_zret false dd_X9_readPerson_54 rfl rfl H
  · replace H := H.2 hc
    refine fs_aload_n (k0 := 1) (i := 1) dd_X9_readPerson_9 rfl rfl ?_
    refine fs_iconst (n := 5) (v := 5) dd_X9_readPerson_10 (by decide) ?_
    refine fs_aload_n (k0 := 1) (i := 1) dd_X9_readPerson_11 rfl rfl ?_
    refine fs_geti (ci := 8) (j := 4) dd_X9_readPerson_12 fl_X9_79 ca_4 rfl (Or.inl rfl) ?_
    refine fs_callV (y := m_X8_fail) (as := [.int 5, .int (s.1 4 4)]) dd_X9_readPerson_15 me_X8_fail lk_X9_82 in_X8_fail se_X8_fail ca_4 rfl rfl rfl (Nat.le_of_ble_eq_true rfl) (Nat.le_of_ble_eq_true rfl) rfl (V_X8_fail (by omega)  H) (k2_Z fun r14 s15 H => ?_)
    exact fs_zret r14 dd_X9_readPerson_18 rfl rfl H

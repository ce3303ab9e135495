theorem fz_hF_P0 (L : Nat) (xs : Nat → Int32) (a j : Nat) (ha : a < 273) (hj : j < (fz_ptr.getD a []).length) : (fz_hF L xs).2.2.2 a j = fz_P0 none a j := by
  rw [fz_hF_P L xs a j ha hj]
  unfold fz_P0
  by_cases h5 : a = 5 ∧ j = 1
  · rw [if_pos h5, h5.1, h5.2]
    decide +kernel
  · rw [if_neg h5]
theorem law_start {INV : fz_s → fz_s → Prop} (hE : EQ_all INV) {g : fz_G} {l : Launch} {d L : Nat} {xs : Nat → Int32} (hd : 79 ≤ d) (eL : L = g.2.2.2.2.2.1) (ex : xs = g.2.2.2.2.2.2.1) (hL : L ≤ 3072) (hI : INV (x_0 L xs) (x_0 L xs)) (h0s : ∀ j, (x_0 L xs).1 0 j = xs j) {Q : Option Value → fz_H → Prop} (hQ : ∀ {h}, Q (some (.int 1)) h) {h0 : fz_H} (hh : h0 = fz_h0 L xs) (hs : fz_to L h0 2) : fz_V g l m_L (d + 1) (((0 + 76) + 1 + 193) + 1) ((((0 + 14303) + 112) + 11611) + 20) 0 (fz_en [.ref 0] 4) [] h0 Q := by
  refine fq_new (ci := 11) (M := 20) hs ca_2 dd_L_0 rfl ck_L_7 is_X11 ic_X11 (fun h1 e1 hs1 => ?_)
  refine fv_dup dd_L_3 rfl ?_
  refine fq_callI (y := m_X11_init) (as := []) (mc := 193) (ms := 11611) (N' := 196) dd_L_4 me_X11_init rfl rfl (Or.inl lk_L_9) in_X11_init rfl (Nat.le_of_ble_eq_true rfl) (Nat.le_of_ble_eq_true rfl) rfl (fun Q' hq => V_cX11_init_2 (xs := xs) (by omega) hs1 (by rw [e1, hh]; rfl) hq) (fun h2 e2 hs2 => ?_)
  refine fv_astore_n (k0 := 1) (i := 1) dd_L_7 rfl (by decide) ?_
  refine fq_new (ci := 12) (M := 112) hs2 ca_196 dd_L_8 rfl ck_L_10 is_X12 ic_X12 (fun h3 e3 hs3 => ?_)
  refine fv_dup dd_L_11 rfl ?_
  refine fq_callI (y := m_X12_init) (as := []) (mc := 76) (ms := 14303) (N' := 273) dd_L_12 me_X12_init rfl rfl (Or.inl lk_L_12) in_X12_init rfl (Nat.le_of_ble_eq_true rfl) (Nat.le_of_ble_eq_true rfl) rfl (fun Q' hq => V_cX12_init_196 (by omega) hs3 hq) (fun h4 e4 hs4 => ?_)
  refine fv_astore_n (k0 := 2) (i := 2) dd_L_15 rfl (by decide) ?_
  refine fv_iconst (n := 0) (v := 0) dd_L_16 (by decide) ?_
  refine fv_istore_n (k0 := 3) (i := 3) dd_L_17 rfl (by decide) ?_
  have q1 : h1 = hB0 L xs := by rw [e1, hh]; rfl
  have q2 : h2 = hc_X11_init_2 (hB0 L xs) := e2.trans (congrArg hc_X11_init_2 q1)
  have q3 : h3 = fz_mk (hc_X11_init_2 (hB0 L xs)) 12 112 := e3.trans (congrArg (fun z => fz_mk z 12 112) q2)
  have q4 : h4 = fz_hF L xs := by
    unfold fz_hF
    exact e4.trans (congrArg hc_X12_init_196 q3)
  rw [eL] at hs4 hL
  exact law_mid hE hd hL (x := x_0 L xs) hs4 (by rw [q4]; unfold x_0; rfl) (by rw [q4]; unfold x_0; rfl) (fun a j ha hj => by rw [q4]; exact fz_hF_P0 L xs a j ha hj) (by rw [← ex]; exact h0s) hI hQ

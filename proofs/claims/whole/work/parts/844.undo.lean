/-! YEARS PASS -/
def pYc (a j : Nat) : Bool := decide ((52 ≤ a ∧ a ≤ 171) ∨ (a = 47 ∧ (j = 4 ∨ j = 5)) ∨ (32 ≤ a ∧ a ≤ 40) ∨ (49 ≤ a ∧ a ≤ 51) ∨ (a = 2 ∧ j = 17))
def pYm (a j : Nat) : Bool := decide (a = 243 ∨ (a = 196 ∧ (j = 72 ∨ j = 73 ∨ j = 107 ∨ j = 53 ∨ j = 56 ∨ j = 59 ∨ j = 74)) ∨ a = 271 ∨ a = 235 ∨ a = 232)
theorem pYc_f {a j : Nat} (h : ¬ ((52 ≤ a ∧ a ≤ 171) ∨ (a = 47 ∧ (j = 4 ∨ j = 5)) ∨ (32 ≤ a ∧ a ≤ 40) ∨ (49 ≤ a ∧ a ≤ 51) ∨ (a = 2 ∧ j = 17))) : pYc a j = false := decide_eq_false h
theorem pYm_f {a j : Nat} (h : ¬ (a = 243 ∨ (a = 196 ∧ (j = 72 ∨ j = 73 ∨ j = 107 ∨ j = 53 ∨ j = 56 ∨ j = 59 ∨ j = 74)) ∨ a = 271 ∨ a = 235 ∨ a = 232)) : pYm a j = false := decide_eq_false h
theorem pU_pYc {s s' : fz_s} (h : Fr pU s s') : Fr pYc s s' := h.mono fun a j q => by
  have := of_decide_eq_false q
  exact pU_f (by omega)
theorem pV_pYm {s s' : fz_s} (h : Fr pV s s') : Fr pYm s s' := h.mono fun a j q => by
  have := of_decide_eq_false q
  exact pV_f (by omega)
theorem pY_pYc {s s' : fz_s} (h : Fr (pY 35) s s') : Fr pYc s s' := h.mono fun a j q => by
  have := of_decide_eq_false q
  exact pY_f (by omega)
theorem pH_pYm {s s' : fz_s} (h : Fr pH s s') : Fr pYm s s' := h.mono fun a j q => by
  have := of_decide_eq_false q
  exact pH_f (by omega)
theorem INV.big {x m x' m' : fz_s} {t : Bool} {T : TT} {W W' : WW} {kf kf' : Nat → Nat × Int × Int} {kn kn' : Nat} {us' : Nat → WW × Nat} {ac' o' nw' sd' : Nat} (h : (∃ tp tn, I1 tp tn x m) ∧ I2 x m ∧ (∃ pn, I3 pn x m) ∧ (∃ sd, I4 sd x m) ∧ (∃ sn nm nl, I5 t T sn nm nl x m) ∧ I6 T W x m ∧ I7 W kf kn x m ∧ (∃ us ac o nw, I8 T kf kn us ac o nw x m) ∧ (∃ rs rn, I9 rs rn x m) ∧ I10 m) (h4' : I4 sd' x' m') (h6' : I6 T W' x' m') (h7' : I7 W' kf' kn' x' m') (h8' : I8 T kf' kn' us' ac' o' nw' x' m') (hx : Fr pYc x x') (hm : Fr pYm m m') : INV x' m' := by
  obtain ⟨⟨tp, tn, h1⟩, h2, ⟨pn, h3⟩, ⟨sd, h4⟩, ⟨sn, nm, nl, h5⟩, h6, h7, ⟨us, ac, o, nw, h8⟩, ⟨rs, rn, h9⟩, h10⟩ := h
  have ex : ∀ a j, ¬ ((52 ≤ a ∧ a ≤ 171) ∨ (a = 47 ∧ (j = 4 ∨ j = 5)) ∨ (32 ≤ a ∧ a ≤ 40) ∨ (49 ≤ a ∧ a ≤ 51) ∨ (a = 2 ∧ j = 17)) → x'.1 a j = x.1 a j := fun a j ha => hx.i a j (decide_eq_false ha)
  have em : ∀ a j, ¬ (a = 243 ∨ (a = 196 ∧ (j = 72 ∨ j = 73 ∨ j = 107 ∨ j = 53 ∨ j = 56 ∨ j = 59 ∨ j = 74)) ∨ a = 271 ∨ a = 235 ∨ a = 232) → m'.1 a j = m.1 a j := fun a j ha => hm.i a j (decide_eq_false ha)
  have el : ∀ a j, ¬ (a = 243 ∨ (a = 196 ∧ (j = 72 ∨ j = 73 ∨ j = 107 ∨ j = 53 ∨ j = 56 ∨ j = 59 ∨ j = 74)) ∨ a = 271 ∨ a = 235 ∨ a = 232) → m'.2.1 a j = m.2.1 a j := fun a j ha => hm.l a j (decide_eq_false ha)
  exact ⟨t, T, W', kf', kn', ⟨tp, tn, h1.cg (fun a j q => ex a j (by omega)) (fun a j q => em a j (by omega))⟩, h2.cg (fun a j q => ex a j (by omega)) (fun a j q => em a j (by omega)), ⟨pn, h3.cg (fun a j q => ex a j (by omega)) (fun a j q => em a j (by omega))⟩, ⟨sd', h4'⟩, ⟨sn, nm, nl, h5.cg (fun a j q => ex a j (by omega)) (fun a j q => em a j (by omega)) (fun a j q => el a j (by omega))⟩, h6', h7', ⟨us', ac', o', nw', h8'⟩, ⟨rs, rn, h9.cg (fun a j q => ex a j (by omega)) (fun a j q => em a j (by omega))⟩, h10.cg (fun a j q => em a j (by omega))⟩
def pRc (a j : Nat) : Bool := decide ((35 ≤ a ∧ a ≤ 40) ∨ (a = 47 ∧ j = 5))
theorem pRc_f {a j : Nat} (h : ¬ ((35 ≤ a ∧ a ≤ 40) ∨ (a = 47 ∧ j = 5))) : pRc a j = false := decide_eq_false h
theorem pRc_pYc {s s' : fz_s} (h : Fr pRc s s') : Fr pYc s s' := h.mono fun a j q => by
  have := of_decide_eq_false q
  exact pRc_f (by omega)
theorem c_recall {T : TT} {us : Nat → WW × Nat} {ac o : Nat} {x : fz_s} (hn : T.1 ≤ 8) (ha : ac ≤ 20) (hU : UC T us ac o x) {Q : Bool → fz_s → Prop} (hf : ac = 0 → Q false x) (ht : ∀ x', ac ≠ 0 → Fr pRc x x' → CW T (us 0).1 35 x' → x'.1 35 6 = nI (us 0).2 → UC T (fun i => us (i + 1)) (ac - 1) o x' → Q true x') : wp_X4_recall 35 x Q := by
  obtain ⟨b1, b2, b3, b4⟩ := hU
  unfold wp_X4_recall
  rw [b3]
  by_cases c : ac = 0
  · subst c
    exact bf (by simp (disch := omega) only [N_lit, N_add, N_mul, N_sub, N_addneg, N_neg1, N_addm, N_le, N_lt, N_eq, N_in, N_cl, N_ne, N_ne', N_ltm, N_mlt, N_lem] <;> omega) (hf rfl)
  refine bt (by simp (disch := omega) only [N_lit, N_add, N_mul, N_sub, N_addneg, N_neg1, N_addm, N_le, N_lt, N_eq, N_in, N_cl, N_ne, N_ne', N_ltm, N_mlt, N_lem] <;> omega) ?_
  intro s1 e1
  rw [show nI ac - 1 = nI (ac - 1) from N_sub (b := 1) (by omega)] at e1
  have r4 : s1.1 47 4 = nI o := by rw [e1, g_nj (by omega)]; exact b2
  have r5 : s1.1 47 5 = nI (ac - 1) := by rw [e1]; exact g_eq
  have ex1 : ∀ a j, a ≠ 47 → s1.1 a j = x.1 a j := fun a j h => by rw [e1, g_ne h]
  have hF1 : Fr pRc x s1 := by rw [e1]; exact Fr.rf.si (decide_eq_true (by omega))
  rw [r4, r5, N_add, show nI (o + (ac - 1)) - nI (o + (ac - 1)) / 20 * 20 = nI ((o + (ac - 1)) % 20) from N_mod (b := 20) ⟨by omega, by omega⟩, N_cl (by omega)]
  have hz := b4 0 (by omega)
  have es : slC o ac 0 = 52 + 6 * ((o + (ac - 1)) % 20) := by unfold slC; omega
  rw [es] at hz
  refine ⟨N_in ⟨by omega, by omega⟩, c_take (T := T) (W := (us 0).1) hn (hz.1.cong (fun a j k1 k2 => ex1 a j (by omega))) (by omega) (fun x2 hF2 hW2 h62 => ?_)⟩
  have hF2' : Fr pRc s1 x2 := hF2.mono fun a j q => by
    have := of_decide_eq_false q
    exact pT_f (by omega)
  refine ht x2 c (hF1.tr hF2') hW2 (h62.trans ((ex1 _ _ (by omega)).trans hz.2)) ⟨b1, (hF2.i _ _ (pT_f (by omega))).trans r4, (hF2.i _ _ (pT_f (by omega))).trans r5, fun i hi => ?_⟩
  have hs := slC_r o ac (i + 1)
  have hb := b4 (i + 1) (by omega)
  have e2 : slC o (ac - 1) i = slC o ac (i + 1) := by unfold slC; rw [show o + (ac - 1) - 1 - i = o + ac - 1 - (i + 1) by omega]
  rw [e2]
  refine ⟨hb.1.cong (fun a j k1 k2 => ?_), ?_⟩
  · rw [hF2.i _ _ (pT_f (by omega)), ex1 a j (by omega)]
  · rw [hF2.i _ _ (pT_f (by omega)), ex1 _ _ (by omega)]
    exact hb.2
theorem m_undo_lp {nw ac : Nat} (hnw : nw < 20) (hac : 1 ≤ ac ∧ ac ≤ 20) {m : fz_s} {Q : Bool → fz_s → Prop} (hq : ∀ m', Fr pYm m m' → m'.1 196 73 = nI ((nw + 19) % 20) → m'.1 196 72 = nI (ac - 1) → (∀ j, j < 150 → m'.1 232 j = m.1 243 (150 * nw + j)) → (∀ j, m'.1 243 j = m.1 243 j) → m'.2.1 196 74 = m.2.1 196 74 → Q true m') : ∀ (n k : Nat) (x : fz_s), Fr pYm m x → x.1 196 73 = nI nw → x.1 196 72 = nI ac → (∀ j, j < k → x.1 232 j = m.1 243 (150 * nw + j)) → (∀ j, x.1 243 j = m.1 243 j) → x.2.1 196 74 = m.2.1 196 74 → k ≤ 150 → 150 < n + k → lp_X12_undo_21 Q n (nI k) x
  | 0, k, x, _, _, _, _, _, _, h1, h2 => absurd h2 (by omega)
  | n + 1, k, x, hF, x73, x72, hl, hr, h74, h1, h2 => by
    show nd_X12_undo_21 (lp_X12_undo_21 Q n) Q (nI k) x
    unfold nd_X12_undo_21
    rw [x73]
    by_cases c : k = 150
    · subst c
      refine bt (by simp (disch := omega) only [N_lit, N_add, N_mul, N_sub, N_addneg, N_neg1, N_addm, N_le, N_lt, N_eq, N_in, N_cl, N_ne, N_ne', N_ltm, N_mlt, N_lem] <;> omega) ?_
      intro s1 e1 s2 e2
      rw [show nI nw + 20 - 1 = nI (nw + 19) by rw [show nI nw + 20 = nI (nw + 20) from N_add nw 20]; exact N_sub (b := 1) (by omega), show nI (nw + 19) - nI (nw + 19) / 20 * 20 = nI ((nw + 19) % 20) from N_mod (b := 20) ⟨by omega, by omega⟩] at e1
      have r72 : s1.1 196 72 = nI ac := by rw [e1, g_nj (by omega)]; exact x72
      rw [r72, show nI ac - 1 = nI (ac - 1) from N_sub (b := 1) (by omega)] at e2
      refine hq s2 ?_ ?_ ?_ (fun j hj => ?_) (fun j => ?_) ?_
      · rw [e2, e1]
        exact (hF.si (decide_eq_true (by omega))).si (decide_eq_true (by omega))
      · rw [e2, g_nj (by omega), e1]; exact g_eq
      · rw [e2]; exact g_eq
      · rw [e2, g_ne (by omega), e1, g_ne (by omega)]; exact hl j hj
      · rw [e2, g_ne (by omega), e1, g_ne (by omega)]; exact hr j
      · rw [e2, e1]; exact h74
    refine bf (by simp (disch := omega) only [N_lit, N_add, N_mul, N_sub, N_addneg, N_neg1, N_addm, N_le, N_lt, N_eq, N_in, N_cl, N_ne, N_ne', N_ltm, N_mlt, N_lem] <;> omega) ?_
    rw [show (150 : Int32) * nI nw = nI (150 * nw) from N_mul 150 nw, N_add, N_cl (by omega), N_cl (by omega), nI_1]
    refine ⟨N_in ⟨by omega, by omega⟩, N_in ⟨by omega, by omega⟩, fun s2 e2 x3 e3 => ?_⟩
    subst e3
    refine m_undo_lp hnw hac hq n (k + 1) s2 ?_ ?_ ?_ (fun j hj => ?_) (fun j => ?_) ?_ (by omega) (by omega)
    · rw [e2]; exact hF.si (decide_eq_true (by omega))
    · rw [e2, g_ne (by omega)]; exact x73
    · rw [e2, g_ne (by omega)]; exact x72
    · rw [e2]
      by_cases c3 : j = k
      · subst c3
        rw [g_eq]
        exact hr _
      · rw [g_nj c3]
        exact hl j (by omega)
    · rw [e2, g_ne (by omega)]; exact hr j
    · rw [e2]; exact h74
theorem EQ_undo_ok : EQ_undo INV := by
  intro x m h
  obtain ⟨t, T, W, kf, kn, ⟨tp, tn, h1⟩, h2, ⟨pn, h3⟩, ⟨sd, h4⟩, ⟨sn, nm, nl, h5⟩, h6, h7, ⟨us, ac, o, nw, h8⟩, ⟨rs, rn, h9⟩, h10⟩ := id h
  have hn := h6.1.1.1
  have hac := h8.1.1
  unfold wp_X11_undo wp_X12_undo
  rw [h8.2.2.2.1]
  have e0 : (nI ac = 0) ↔ ac = 0 := N_eq (b := 0) ⟨by omega, by omega⟩
  rw [e0]
  refine c_recall hn hac h8.2.1 (fun c => ⟨fun q => (by cases q), fun _ => c_refuse (k := 4) (by omega) (nf c (fun s1 es => ?_))⟩) (fun x' c hF hW h6' hU' => ⟨fun _ => nt c ?_, fun q => (by cases q)⟩)
  · subst es
    exact ⟨rfl, h.refuse 4⟩
  · obtain ⟨b1, b2, b3, b4⟩ := h8.2.2
    refine m_undo_lp (m := m) b1 ⟨by omega, hac⟩ (fun m' hF2 k73 k72 hl hr h74 => ⟨rfl, ?_⟩) 2048 0 m Fr.rf b3 b2 (fun j hj => by omega) (fun _ => rfl) rfl (by omega) (by omega)
    obtain ⟨u1, u2, u3⟩ := h8.1
    have v0 := u3 0 (by omega)
    have z0 := b4 0 (by omega)
    have es : slM nw 0 = 150 * nw := by unfold slM; omega
    rw [es] at z0
    refine INV.big (W' := (us 0).1) (kf' := kf) (kn' := (us 0).2) (us' := fun i => us (i + 1)) (ac' := ac - 1) (o' := o) (nw' := (nw + 19) % 20) (sd' := sd) ⟨⟨tp, tn, h1⟩, h2, ⟨pn, h3⟩, ⟨sd, h4⟩, ⟨sn, nm, nl, h5⟩, h6, h7, ⟨us, ac, o, nw, h8⟩, ⟨rs, rn, h9⟩, h10⟩ ⟨h4.1, ?_, h74.trans h4.2.2⟩ ⟨?_, ?_, v0.2.2.1, (hF2.i _ _ (pYm_f (by omega))).trans h6.2.2.2⟩ ⟨h6', v0.2.1, fun k hk => ?_, ?_⟩ ⟨⟨by omega, fun i j hij hj => u2 (i + 1) (j + 1) (by omega) (by omega), fun i hi => ⟨u2 0 (i + 1) (by omega) (by omega), (u3 (i + 1) (by omega)).2⟩⟩, hU', by omega, k72, k73, fun i hi => ?_⟩ (pRc_pYc hF) hF2
    · exact (hF.i _ _ (pRc_f (by omega))).trans h4.2.1
    · exact ⟨h6.1.1, v0.2.2.2, h6.1.2.2.1.cong (hF.i _ _ (pRc_f (by omega))) (fun a ha j => hF.i _ _ (pRc_f (by omega))), hW, by omega⟩
    · exact ⟨h6.1.1, v0.2.2.2, h6.2.1.2.2.1.cong (hF2.i _ _ (pYm_f (by omega))) (fun a ha j => hF2.i _ _ (pYm_f (by omega))), MWr.cong hn z0.1 (fun j hj => hl j (by omega))⟩
    · have hz := h7.2.2.1 k (by omega)
      exact ⟨(hF.i _ _ (pRc_f (by omega))).trans hz.1, (hF.i _ _ (pRc_f (by omega))).trans hz.2.1, (hF.i _ _ (pRc_f (by omega))).trans hz.2.2⟩
    · exact KPr.cong z0.2 (fun j k1 k2 => hl j k2)
    · have e2 : slM ((nw + 19) % 20) i = slM nw (i + 1) := by unfold slM; omega
      rw [e2]
      have hb := b4 (i + 1) (by omega)
      exact ⟨hb.1.cong hn (fun j _ => hr _), hb.2.cong (fun j _ _ => hr _)⟩

/-! TREATY -/
theorem INV.fault {x m : fz_s} (h : INV x m) (v w : Int32) : INV (si (si x 2 18 v) 2 19 w) (si (si m 196 7 v) 196 8 w) := by
  obtain ⟨t, T, W, kf, kn, ⟨tp, tn, h1⟩, h2, ⟨pn, h3⟩, ⟨sd, h4⟩, ⟨sn, nm, nl, h5⟩, h6, h7, ⟨us, ac, o, nw, h8⟩, ⟨rs, rn, h9⟩, h10⟩ := id h
  have ex : ∀ a j, ¬ (a = 2 ∧ (j = 18 ∨ j = 19)) → (si (si x 2 18 v) 2 19 w).1 a j = x.1 a j := fun a j ha => by rw [g_si, if_neg (by omega), g_si, if_neg (by omega)]
  have em : ∀ a j, ¬ (a = 196 ∧ (j = 7 ∨ j = 8)) → (si (si m 196 7 v) 196 8 w).1 a j = m.1 a j := fun a j ha => by rw [g_si, if_neg (by omega), g_si, if_neg (by omega)]
  have el : ∀ a j, (si (si m 196 7 v) 196 8 w).2.1 a j = m.2.1 a j := fun a j => rfl
  refine ⟨t, T, W, kf, kn, ⟨tp, tn, h1.cg (fun a j q => ex a j (by omega)) (fun a j q => em a j (by omega))⟩, ⟨?_, ?_, fun j hj => ?_⟩, ⟨pn, h3.cg (fun a j q => ex a j (by omega)) (fun a j q => em a j (by omega))⟩, ⟨sd, h4.cg (fun a j q => ex a j (by omega)) (fun a j q => el a j)⟩, ⟨sn, nm, nl, h5.cg (fun a j q => ex a j (by omega)) (fun a j q => em a j (by omega)) (fun a j q => el a j)⟩, h6.cg (fun a j q => ex a j (by omega)) (fun a j q => em a j (by omega)), h7.cg (fun a j q => ex a j (by omega)) (fun a j q => em a j (by omega)), ⟨us, ac, o, nw, h8.cg h6.1.1.1 (fun a j q => ex a j (by omega)) (fun a j q => em a j (by omega))⟩, ⟨rs, rn, h9.cg (fun a j q => ex a j (by omega)) (fun a j q => em a j (by omega))⟩, h10.cg (fun a j q => em a j (by omega))⟩
  · rw [g_nj (by omega), g_eq, g_nj (by omega), g_eq]
  · rw [g_eq, g_eq]
  · rw [ex _ _ (by omega), em _ _ (by omega)]; exact h2.2.2 j hj
theorem c_clear {x : fz_s} {Q : fz_s → Prop} (hq : ∀ x', yDX yD0 x' → x'.1 17 13 = nI 0 → (∀ a j, a ≠ 17 → a ≠ 26 → a ≠ 27 → x'.1 a j = x.1 a j) → Fr pC x x' → x'.2.2 = x.2.2 → Q x') : wp_X9_clear_17 x Q := by
  unfold wp_X9_clear_17
  intro s1 e1 s2 e2 s3 e3 s4 e4 s5 e5
  have k10 : s5.1 17 10 = nI 0 := by rw [e5, g_eq]; rfl
  have k11 : s5.1 17 11 = nI 0 := by rw [e5, g_nj (by omega), e4, g_nj (by omega), e3, g_nj (by omega), e2, g_nj (by omega), e1, g_eq]; rfl
  have k12 : s5.1 17 12 = nI 0 := by rw [e5, g_nj (by omega), e4, g_nj (by omega), e3, g_nj (by omega), e2, g_eq]; rfl
  have k13 : s5.1 17 13 = nI 0 := by rw [e5, g_nj (by omega), e4, g_nj (by omega), e3, g_eq]; rfl
  have k14 : s5.1 17 14 = nI 0 := by rw [e5, g_nj (by omega), e4, g_eq]; rfl
  have o5 : ∀ a j, a ≠ 17 → s5.1 a j = x.1 a j := fun a j g => by rw [e5, g_ne g, e4, g_ne g, e3, g_ne g, e2, g_ne g, e1, g_ne g]
  have F5 : Fr pC x s5 := by
    rw [e5, e4, e3, e2, e1]
    exact ((((Fr.rf.si (pC_t (by omega))).si (pC_t (by omega))).si (pC_t (by omega))).si (pC_t (by omega))).si (pC_t (by omega))
  have c5 : s5.2.2 = x.2.2 := by rw [e5, e4, e3, e2, e1]; rfl
  have lp : ∀ (n k : Nat) (s : fz_s), k ≤ 5 → 5 < n + k → (∀ a j, a ≠ 26 → a ≠ 27 → s.1 a j = s5.1 a j) → (∀ r, r < k → s.1 26 r = -1) → Fr pC x s → s.2.2 = x.2.2 → lp_X9_clear_17_27 Q n (nI k) s := by
    intro n
    induction n with
    | zero => intro k s h1 h2; exact absurd h2 (by omega)
    | succ n ih =>
      intro k s h1 h2 h3 h4 hF hc
      show nd_X9_clear_17_27 (lp_X9_clear_17_27 Q n) Q (nI k) s
      unfold nd_X9_clear_17_27
      by_cases c : 5 ≤ k
      · have hk : k = 5 := by omega
        subst hk
        refine bt (by decide +kernel) (hq s ⟨?_, ?_, ?_, ?_, fun i hi => ?_, fun v hv => absurd hv (Nat.not_lt_zero _), fun p hp => absurd hp (Nat.not_lt_zero _), fun r hr _ => h4 r hr, fun r hr a l e => by cases e⟩ ?_ (fun a j g1 g2 g3 => (h3 a j g2 g3).trans (o5 a j g1)) hF hc)
        · exact (h3 _ _ (by omega) (by omega)).trans k11
        · exact (h3 _ _ (by omega) (by omega)).trans k12
        · exact (h3 _ _ (by omega) (by omega)).trans k14
        · exact (h3 _ _ (by omega) (by omega)).trans k10
        · exfalso
          rcases hi with z | z
          · exact absurd z (Nat.not_lt_zero _)
          · have z' : 2 ≤ i ∧ i < 2 + 0 := z
            omega
        · exact (h3 _ _ (by omega) (by omega)).trans k13
      refine bf (by simp (disch := omega) only [N_lit, N_add, N_mul, N_sub, N_addneg, N_neg1, N_addm, N_le, N_lt, N_eq, N_in, N_cl, N_ne, N_ne', N_ltm, N_mlt, N_lem] <;> omega) ⟨N_in ⟨by omega, by omega⟩, fun s1 e1 => ⟨N_in ⟨by omega, by omega⟩, fun s2 e2 x3 e3 => ?_⟩⟩
      rw [N_cl (by omega)] at e1 e2
      rw [e3, nI_1]
      refine ih (k + 1) s2 (by omega) (by omega) (fun a j g1 g2 => ?_) (fun r hr => ?_) ?_ ?_
      · rw [e2, g_ne g2, e1, g_ne g1]; exact h3 a j g1 g2
      · rw [e2, g_ne (by omega), e1]
        by_cases cr : r = k
        · rw [cr, g_eq]
        · rw [g_nj cr]; exact h4 r (by omega)
      · rw [e2, e1]; exact (hF.si (pC_t (by omega))).si (pC_t (by omega))
      · rw [e2, e1]; exact hc
  exact lp 2048 0 s5 (by omega) (by omega) (fun _ _ _ _ => rfl) (fun r hr => absurd hr (Nat.not_lt_zero _)) F5 c5
theorem y_read {tp : Nat → Nat} {tn : Nat} {t0 : yTok} {x : fz_s} (hX : yPX tp tn 0 false t0 x) {Q : Bool → fz_s → Prop} (hok : ∀ D b so t st cz' x', yPX tp tn b so t x' → t.2.2.1 = 0 → yDV D → D.nv = 2 → yDX D x' → x'.1 17 13 = nI st → Fr pC x x' → yRe tp tn t0 D b so t st → ∀ x'', yAR D 5 cz' x'' → Fr pAd x' x'' → Q true x'') (hno : ∀ kd pl x', yRf tp tn t0 kd pl → yFX kd pl x' → Fr pC x x' → Q false x') : wp_X9_read_17 x Q := by
  unfold wp_X9_read_17
  refine c_clear (fun x0 D0 h13 o0 F0 c0 => ?_)
  have hX0 : yPX tp tn 0 false t0 x0 := hX.fr (fun j _ => o0 _ _ (by omega) (by omega) (by omega)) (fun j _ => o0 _ _ (by omega) (by omega) (by omega))
  have adF : ∀ {s s' : fz_s}, Fr pAd s s' → Fr pC s s' := fun h => h.mono fun a j q => by
    have := of_decide_eq_false q
    exact pAd_f (by omega)
  have one : ∀ (n i b : Nat) (so : Bool) (t : yTok) (D : yD) (x1 : fz_s), i < 2 → D.nv = i → yPX tp tn b so t x1 → yDV D → yDX D x1 → x1.1 17 13 = nI i → Fr pC x x1 → (∀ kd pl, (∀ (K : yTok → yTok → yTok → yTok → yTok → Prop) (F : Nat → Nat → Prop), F kd pl → sVil tp tn D t K F) → yRf tp tn t0 kd pl) → (∀ t1 t3 t5 t6 t7 x2, (∀ (K : yTok → yTok → yTok → yTok → yTok → Prop) (F : Nat → Nat → Prop), K t1 t3 t5 t6 t7 → sVil tp tn D t K F) → yPX tp tn t6.2.1 false t7 x2 → yDV (yVil tp D t1 t3 t5) → yDX (yVil tp D t1 t3 t5) x2 → Fr pC x x2 → x2.1 17 13 = nI (i + 1) → lp_X9_read_17_6 Q n (nI (i + 1)) x2) → lp_X9_read_17_6 Q (n + 1) (nI i) x1 := by
    intro n i b so t D x1 hi hnv hX1 hV1 hD1 h131 hF1 hf hk
    have hn0 := hX1.1.1
    have hk4 : t.2.2.1 ≤ 4 := by
      rcases hX1.2.1.2.2.2.2 with z | z | z | z | z <;> omega
    show nd_X9_read_17_6 (lp_X9_read_17_6 Q n) Q (nI i) x1
    unfold nd_X9_read_17_6
    refine bf (by simp (disch := omega) only [N_lit, N_add, N_mul, N_sub, N_addneg, N_neg1, N_addm, N_le, N_lt, N_eq, N_in, N_cl, N_ne, N_ne', N_ltm, N_mlt, N_lem] <;> omega) ?_
    rw [hX1.2.2.2.1]
    by_cases ck : t.2.2.1 = 0
    · refine nf (by simp (disch := omega) only [N_lit, N_add, N_mul, N_sub, N_addneg, N_neg1, N_addm, N_le, N_lt, N_eq, N_in, N_cl, N_ne, N_ne', N_ltm, N_mlt, N_lem] <;> omega) (c_addDefs hV1 hD1 (fun cz' x' hA hF' => ?_))
      rw [hF'.i _ _ (pAd_f (by omega)), hD1.1, hnv]
      have hX' : yPX tp tn b so t x' := hX1.fr (fun j _ => hF'.i _ _ (pAd_f (by omega))) (fun j _ => hF'.i _ _ (pAd_f (by omega)))
      refine bf (by simp (disch := omega) only [N_lit, N_add, N_mul, N_sub, N_addneg, N_neg1, N_addm, N_le, N_lt, N_eq, N_in, N_cl, N_ne, N_ne', N_ltm, N_mlt, N_lem] <;> omega) (y_failHere hX' (fun x2 q2 F2 => b3 (hno _ _ x2 (hf _ _ (fun K F z => Or.inr ⟨fun w => ?_, z⟩)) q2 ((hF1.tr (adF hF')).tr (y_4C F2.1)))))
      have := w.1
      omega
    refine nt (by simp (disch := omega) only [N_lit, N_add, N_mul, N_sub, N_addneg, N_neg1, N_addm, N_le, N_lt, N_eq, N_in, N_cl, N_ne, N_ne', N_ltm, N_mlt, N_lem] <;> omega) (nt (by simp (disch := omega) only [N_lit, N_add, N_mul, N_sub, N_addneg, N_neg1, N_addm, N_le, N_lt, N_eq, N_in, N_cl, N_ne, N_ne', N_ltm, N_mlt, N_lem] <;> omega) ?_)
    refine c_Sta0 (Qf := fun s => Q false s) (Qt := fun s4 => ∀ s5 : fz_s, s5 = si s4 17 13 ((s4.1 17 13) + 1) → ∀ x6 : Int32, x6 = nI i + 1 → lp_X9_read_17_6 Q n x6 s5) hX1 hV1 hD1 (by omega) (fun t1 t3 t5 t6 t7 x2 g1 g2 g3 g4 g5 g6 g7 s5 e5 x6 e6 => ?_) (fun kd pl x2 g1 g2 g3 => hno kd pl x2 (hf kd pl g1) g2 (hF1.tr g3))
    rw [g7, h131, nI_1] at e5
    rw [e6, nI_1]
    have i1 : ∀ a j, ¬ (a = 17 ∧ j = 13) → s5.1 a j = x2.1 a j := fun a j g => by rw [e5, g_si, if_neg g]
    exact hk t1 t3 t5 t6 t7 s5 g1 (g2.fr (fun j _ => i1 _ _ (by omega)) (fun j _ => i1 _ _ (by omega))) g4 (g5.fr g4 (fun a j _ _ g _ => i1 _ _ (by omega))) ((hF1.tr g6).tr (by rw [e5]; exact Fr.rf.si (pC_t (by omega)))) (by rw [e5, g_eq])
  refine one 2047 0 0 false t0 yD0 x0 (by omega) rfl hX0 yD0V D0 h13 F0 (fun kd pl h => y_rf0 h) (fun u1 u3 u5 u6 u7 x1 g1 g2 g3 g4 g5 g6 => ?_)
  refine one 2046 1 u6.2.1 false u7 (yVil tp yD0 u1 u3 u5) x1 (by omega) rfl g2 g3 g4 g6 g5 (fun kd pl h => y_rf1 g1 g3 h) (fun w1 w3 w5 w6 w7 x2 h1 h2 h3 h4 h5 h6 => ?_)
  exact y_rdlp hok hno 2046 2 w6.2.1 false w7 (yVil tp (yVil tp yD0 u1 u3 u5) w1 w3 w5) x2 (by omega) (by omega) h2 h3 rfl (Nat.zero_le _) h4 h6 h5 (y_re2 g1 g3 h1)
/-- the model's beginning -/
theorem m_treaty0 {tp : Nat → Nat} {tn : Nat} {t0 : yTok} {m : fz_s} (hn : tn ≤ 1600) (hB : ∀ j, tp j < 256) (h1 : m.1 196 1 = nI tn) (ht : ∀ j, j < 1600 → m.1 197 j = nI (tp j)) (h10 : I10 m) (hT : yTS tp tn 0 false t0) {Q : Int32 → fz_s → Prop} (hq : ∀ m0, yPM tp tn 0 false t0 0 m0 → yDM yD0 m0 → Fr pD (si m 196 1 0) m0 → yMG Q m0) : wp_X12_treaty m Q := by
  unfold wp_X12_treaty
  intro s1 e1 s2 e2 s3 e3 s4 e4 s5 e5 s6 e6 s7 e7 s8 e8 s9 e9 s10 e10
  rw [h1] at e1
  have o10 : ∀ a j, a ≠ 196 → s10.1 a j = m.1 a j := fun a j g => by
    rw [e10, g_ne g, e9, g_ne g, e8, g_ne g, e7, g_ne g, e6, g_ne g, e5, g_ne g, e4, g_ne g, e3, g_ne g, e2, g_ne g, e1, g_ne g]
  have k3 : s10.1 196 3 = nI tn := by
    rw [e10, g_nj (by omega), e9, g_nj (by omega), e8, g_nj (by omega), e7, g_nj (by omega), e6, g_nj (by omega), e5, g_nj (by omega), e4, g_nj (by omega), e3, g_nj (by omega), e2, g_nj (by omega), e1, g_eq]
  have k2 : s10.1 196 2 = nI 0 := by
    rw [e10, g_nj (by omega), e9, g_nj (by omega), e8, g_nj (by omega), e7, g_nj (by omega), e6, g_nj (by omega), e5, g_nj (by omega), e4, g_nj (by omega), e3, g_eq]; rfl
  have k4 : s10.1 196 4 = -1 := by
    rw [e10, g_nj (by omega), e9, g_nj (by omega), e8, g_nj (by omega), e7, g_nj (by omega), e6, g_nj (by omega), e5, g_nj (by omega), e4, g_eq]
  have k5 : s10.1 196 5 = 0 := by
    rw [e10, g_nj (by omega), e9, g_nj (by omega), e8, g_nj (by omega), e7, g_nj (by omega), e6, g_nj (by omega), e5, g_eq]
  have k6 : s10.1 196 6 = -1 := by
    rw [e10, g_nj (by omega), e9, g_nj (by omega), e8, g_nj (by omega), e7, g_nj (by omega), e6, g_eq]
  have k50 : s10.1 196 50 = nI 0 := by
    rw [e10, g_nj (by omega), e9, g_nj (by omega), e8, g_nj (by omega), e7, g_eq]; rfl
  have k38 : s10.1 196 38 = nI 0 := by
    rw [e10, g_nj (by omega), e9, g_nj (by omega), e8, g_eq]; rfl
  have k39 : s10.1 196 39 = nI 0 := by
    rw [e10, g_nj (by omega), e9, g_eq]; rfl
  have k45 : s10.1 196 45 = nI 0 := by
    rw [e10, g_eq]; rfl
  have F10 : Fr pD (si m 196 1 0) s10 := by
    intro a j hp
    have g := of_decide_eq_false hp
    refine ⟨?_, by rw [e10, e9, e8, e7, e6, e5, e4, e3, e2, e1]; rfl⟩
    by_cases c : a = 196 ∧ j = 1
    · obtain ⟨rfl, rfl⟩ := c
      rw [g_eq, e10, g_nj (by omega), e9, g_nj (by omega), e8, g_nj (by omega), e7, g_nj (by omega), e6, g_nj (by omega), e5, g_nj (by omega), e4, g_nj (by omega), e3, g_nj (by omega), e2, g_eq]
    · rw [g_si, if_neg c, e10, g_si, if_neg (by omega), e9, g_si, if_neg (by omega), e8, g_si, if_neg (by omega), e7, g_si, if_neg (by omega), e6, g_si, if_neg (by omega), e5, g_si, if_neg (by omega), e4, g_si, if_neg (by omega), e3, g_si, if_neg (by omega), e2, g_si, if_neg (by omega), e1, g_si, if_neg (by omega)]
  have lp : ∀ (n k : Nat) (s : fz_s), k ≤ 5 → 5 < n + k → (∀ a j, a ≠ 229 → s.1 a j = s10.1 a j) → (∀ r, r < k → s.1 229 r = -1) → Fr pD (si m 196 1 0) s → lp_X12_treaty_55 Q n (nI k) s := by
    intro n
    induction n with
    | zero => intro k s h1 h2; exact absurd h2 (by omega)
    | succ n ih =>
      intro k s h1 h2 h3 h4 hF
      show nd_X12_treaty_55 (lp_X12_treaty_55 Q n) Q (nI k) s
      unfold nd_X12_treaty_55
      by_cases c : 5 ≤ k
      · have hk : k = 5 := by omega
        subst hk
        refine bt (by decide +kernel) (hq s ⟨⟨hn, hB, (h3 _ _ (by omega)).trans k3, fun j hj => ((h3 _ _ (by omega)).trans (o10 _ _ (by omega))).trans (ht j hj), h10.cg (fun a j q => (h3 _ _ (by omega)).trans (o10 _ _ (by omega)))⟩, hT, ⟨Nat.le_refl _, Nat.zero_le _⟩, (h3 _ _ (by omega)).trans k2, Or.inr ⟨rfl, -1, by omega, by omega, ?_⟩, (h3 _ _ (by omega)).trans k5, (h3 _ _ (by omega)).trans k6⟩ ⟨(h3 _ _ (by omega)).trans k38, (h3 _ _ (by omega)).trans k39, (h3 _ _ (by omega)).trans k45, (h3 _ _ (by omega)).trans k50, fun i hi => ?_, fun v hv => absurd hv (Nat.not_lt_zero _), fun p hp => absurd hp (Nat.not_lt_zero _), fun r hr _ => h4 r hr, fun r hr a l e => by cases e⟩ hF)
        · rw [h3 _ _ (by omega), k4]; decide +kernel
        · exfalso
          rcases hi with z | z
          · exact absurd z (Nat.not_lt_zero _)
          · have z' : 2 ≤ i ∧ i < 2 + 0 := z
            omega
      refine bf (by simp (disch := omega) only [N_lit, N_add, N_mul, N_sub, N_addneg, N_neg1, N_addm, N_le, N_lt, N_eq, N_in, N_cl, N_ne, N_ne', N_ltm, N_mlt, N_lem] <;> omega) ⟨N_in ⟨by omega, by omega⟩, fun s1 e1 x3 e3 => ?_⟩
      rw [N_cl (by omega)] at e1
      rw [e3, nI_1]
      refine ih (k + 1) s1 (by omega) (by omega) (fun a j g1 => ?_) (fun r hr => ?_) ?_
      · rw [e1, g_ne g1]; exact h3 a j g1
      · rw [e1]
        by_cases cr : r = k
        · rw [cr, g_eq]
        · rw [g_nj cr]; exact h4 r (by omega)
      · rw [e1]; exact hF.si (pD_t (by omega))
  exact lp 2048 0 s10 (by omega) (by omega) (fun _ _ _ => rfl) (fun r hr => absurd hr (Nat.not_lt_zero _)) F10
/-- the class takes the draft -/
theorem c_takeT {x : fz_s} {Q : fz_s → Prop} (hq : ∀ x', (∀ a j, ¬ (6 ≤ a ∧ a ≤ 16) → x'.1 a j = x.1 a j) → (∀ j, j < 60 → x'.1 7 j = x.1 18 j) → (∀ j, j < 2 → x'.1 8 j = x.1 19 j) → (∀ j, j < 2 → x'.1 9 j = x.1 20 j) → (∀ j, j < 8 → x'.1 10 j = x.1 21 j) → (∀ j, j < 8 → x'.1 11 j = x.1 22 j) → (∀ j, j < 8 → x'.1 12 j = x.1 23 j) → (∀ j, j < 8 → x'.1 13 j = x.1 24 j) → (∀ j, j < 1632 → x'.1 14 j = x.1 25 j) → (∀ j, j < 5 → x'.1 15 j = x.1 26 j) → (∀ j, j < 5 → x'.1 16 j = x.1 27 j) → (∀ j, 10 ≤ j → j ≤ 14 → x'.1 6 j = x.1 17 j) → Q x') : wp_X9_take_6_17 x Q := by
  unfold wp_X9_take_6_17
  refine ⟨by decide +kernel, by decide +kernel, by decide +kernel, ?_⟩
  intro s4 e4 s5 e5 s6 e6 s7 e7 s8 e8 s9 e9 s10 e10 s11 e11 s12 e12 s13 e13 s14 e14 s15 e15 s16 e16 s17 e17 s18 e18
  have e4 : s4 = sa x 7 (va_cpy (x.1 18) (x.1 7) 0 0 60) := e4
  have e5 : s5 = sa s4 8 (va_cpy (s4.1 19) (s4.1 8) 0 0 2) := e5
  have e6 : s6 = sa s5 9 (va_cpy (s5.1 20) (s5.1 9) 0 0 2) := e6
  have e7 : s7 = sa s6 10 (va_cpy (s6.1 21) (s6.1 10) 0 0 8) := e7
  have e8 : s8 = sa s7 11 (va_cpy (s7.1 22) (s7.1 11) 0 0 8) := e8
  have e9 : s9 = sa s8 12 (va_cpy (s8.1 23) (s8.1 12) 0 0 8) := e9
  have e10 : s10 = sa s9 13 (va_cpy (s9.1 24) (s9.1 13) 0 0 8) := e10
  have e11 : s11 = sa s10 14 (va_cpy (s10.1 25) (s10.1 14) 0 0 1632) := e11
  have e12 : s12 = sa s11 15 (va_cpy (s11.1 26) (s11.1 15) 0 0 5) := e12
  have e13 : s13 = sa s12 16 (va_cpy (s12.1 27) (s12.1 16) 0 0 5) := e13
  have f4 : ∀ a j, 17 ≤ a → s4.1 a j = x.1 a j := fun a j g => by rw [e4, ga_ne (by omega)]
  have f5 : ∀ a j, 17 ≤ a → s5.1 a j = x.1 a j := fun a j g => by rw [e5, ga_ne (by omega)]; exact f4 a j g
  have f6 : ∀ a j, 17 ≤ a → s6.1 a j = x.1 a j := fun a j g => by rw [e6, ga_ne (by omega)]; exact f5 a j g
  have f7 : ∀ a j, 17 ≤ a → s7.1 a j = x.1 a j := fun a j g => by rw [e7, ga_ne (by omega)]; exact f6 a j g
  have f8 : ∀ a j, 17 ≤ a → s8.1 a j = x.1 a j := fun a j g => by rw [e8, ga_ne (by omega)]; exact f7 a j g
  have f9 : ∀ a j, 17 ≤ a → s9.1 a j = x.1 a j := fun a j g => by rw [e9, ga_ne (by omega)]; exact f8 a j g
  have f10 : ∀ a j, 17 ≤ a → s10.1 a j = x.1 a j := fun a j g => by rw [e10, ga_ne (by omega)]; exact f9 a j g
  have f11 : ∀ a j, 17 ≤ a → s11.1 a j = x.1 a j := fun a j g => by rw [e11, ga_ne (by omega)]; exact f10 a j g
  have f12 : ∀ a j, 17 ≤ a → s12.1 a j = x.1 a j := fun a j g => by rw [e12, ga_ne (by omega)]; exact f11 a j g
  have f13 : ∀ a j, 17 ≤ a → s13.1 a j = x.1 a j := fun a j g => by rw [e13, ga_ne (by omega)]; exact f12 a j g
  have b18 : ∀ a j, a ≠ 6 → s18.1 a j = s13.1 a j := fun a j g => by rw [e18, g_ne g, e17, g_ne g, e16, g_ne g, e15, g_ne g, e14, g_ne g]
  have r14 : s14.1 17 11 = x.1 17 11 := by rw [e14, g_ne (by omega)]; exact f13 _ _ (by omega)
  have r15 : s15.1 17 12 = x.1 17 12 := by rw [e15, g_ne (by omega), e14, g_ne (by omega)]; exact f13 _ _ (by omega)
  have r16 : s16.1 17 13 = x.1 17 13 := by rw [e16, g_ne (by omega), e15, g_ne (by omega), e14, g_ne (by omega)]; exact f13 _ _ (by omega)
  have r17 : s17.1 17 14 = x.1 17 14 := by rw [e17, g_ne (by omega), e16, g_ne (by omega), e15, g_ne (by omega), e14, g_ne (by omega)]; exact f13 _ _ (by omega)
  refine hq s18 (fun a j g => ?_) (fun j hj => ?_) (fun j hj => ?_) (fun j hj => ?_) (fun j hj => ?_) (fun j hj => ?_) (fun j hj => ?_) (fun j hj => ?_) (fun j hj => ?_) (fun j hj => ?_) (fun j hj => ?_) (fun j h1 h2 => ?_)
  · rw [b18 _ _ (by omega), e13, ga_ne (by omega), e12, ga_ne (by omega), e11, ga_ne (by omega), e10, ga_ne (by omega), e9, ga_ne (by omega), e8, ga_ne (by omega), e7, ga_ne (by omega), e6, ga_ne (by omega), e5, ga_ne (by omega), e4, ga_ne (by omega)]
  · rw [b18 _ _ (by omega), e13, ga_ne (by omega), e12, ga_ne (by omega), e11, ga_ne (by omega), e10, ga_ne (by omega), e9, ga_ne (by omega), e8, ga_ne (by omega), e7, ga_ne (by omega), e6, ga_ne (by omega), e5, ga_ne (by omega), e4, ga_eq, va_in hj]
  · rw [b18 _ _ (by omega), e13, ga_ne (by omega), e12, ga_ne (by omega), e11, ga_ne (by omega), e10, ga_ne (by omega), e9, ga_ne (by omega), e8, ga_ne (by omega), e7, ga_ne (by omega), e6, ga_ne (by omega), e5, ga_eq, va_in hj]; exact f4 _ _ (by omega)
  · rw [b18 _ _ (by omega), e13, ga_ne (by omega), e12, ga_ne (by omega), e11, ga_ne (by omega), e10, ga_ne (by omega), e9, ga_ne (by omega), e8, ga_ne (by omega), e7, ga_ne (by omega), e6, ga_eq, va_in hj]; exact f5 _ _ (by omega)
  · rw [b18 _ _ (by omega), e13, ga_ne (by omega), e12, ga_ne (by omega), e11, ga_ne (by omega), e10, ga_ne (by omega), e9, ga_ne (by omega), e8, ga_ne (by omega), e7, ga_eq, va_in hj]; exact f6 _ _ (by omega)
  · rw [b18 _ _ (by omega), e13, ga_ne (by omega), e12, ga_ne (by omega), e11, ga_ne (by omega), e10, ga_ne (by omega), e9, ga_ne (by omega), e8, ga_eq, va_in hj]; exact f7 _ _ (by omega)
  · rw [b18 _ _ (by omega), e13, ga_ne (by omega), e12, ga_ne (by omega), e11, ga_ne (by omega), e10, ga_ne (by omega), e9, ga_eq, va_in hj]; exact f8 _ _ (by omega)
  · rw [b18 _ _ (by omega), e13, ga_ne (by omega), e12, ga_ne (by omega), e11, ga_ne (by omega), e10, ga_eq, va_in hj]; exact f9 _ _ (by omega)
  · rw [b18 _ _ (by omega), e13, ga_ne (by omega), e12, ga_ne (by omega), e11, ga_eq, va_in hj]; exact f10 _ _ (by omega)
  · rw [b18 _ _ (by omega), e13, ga_ne (by omega), e12, ga_eq, va_in hj]; exact f11 _ _ (by omega)
  · rw [b18 _ _ (by omega), e13, ga_eq, va_in hj]; exact f12 _ _ (by omega)
  · rcases (show j = 10 ∨ j = 11 ∨ j = 12 ∨ j = 13 ∨ j = 14 by omega) with rfl | rfl | rfl | rfl | rfl
    · rw [e18, g_nj (by omega), e17, g_nj (by omega), e16, g_nj (by omega), e15, g_nj (by omega), e14, g_eq]; exact f13 _ _ (by omega)
    · rw [e18, g_nj (by omega), e17, g_nj (by omega), e16, g_nj (by omega), e15, g_eq]; exact r14
    · rw [e18, g_nj (by omega), e17, g_nj (by omega), e16, g_eq]; exact r15
    · rw [e18, g_nj (by omega), e17, g_eq]; exact r16
    · rw [e18, g_eq]; exact r17
theorem c_beginT {x : fz_s} {Q : fz_s → Prop} (hq : ∀ x', (∀ a j, ¬ (36 ≤ a ∧ a ≤ 40) → ¬ (a = 35 ∧ (j = 5 ∨ j = 6)) → x'.1 a j = x.1 a j) → (∀ j, j < 2 → x'.1 36 j = x.1 8 j) → (∀ j, j < 2 → x'.1 37 j = x.1 9 j) → (∀ j, j < 8 → x'.1 38 j = x.1 11 j) → (∀ j, j < 8 → x'.1 39 j = x.1 10 j) → (∀ j, j < 8 → x'.1 40 j = nI 0) → x'.1 35 5 = nI 0 → x'.1 35 6 = nI 0 → Q x') : wp_X10_begin_6 35 x Q := by
  unfold wp_X10_begin_6
  intro s1 e1 s2 e2 s3 e3 s4 e4
  have e1 : s1 = sa x 36 (va_cpy (x.1 8) (x.1 36) 0 0 2) := e1
  have e2 : s2 = sa s1 37 (va_cpy (s1.1 9) (s1.1 37) 0 0 2) := e2
  have e3 : s3 = sa s2 38 (va_cpy (s2.1 11) (s2.1 38) 0 0 8) := e3
  have e4 : s4 = sa s3 39 (va_cpy (s3.1 10) (s3.1 39) 0 0 8) := e4
  have o4 : ∀ a j, ¬ (36 ≤ a ∧ a ≤ 39) → s4.1 a j = x.1 a j := fun a j g => by rw [e4, ga_ne (by omega), e3, ga_ne (by omega), e2, ga_ne (by omega), e1, ga_ne (by omega)]
  have lp : ∀ (n k : Nat) (s : fz_s), k ≤ 8 → 8 < n + k → (∀ a j, a ≠ 40 → s.1 a j = s4.1 a j) → (∀ j, j < k → s.1 40 j = nI 0) → lp_X10_begin_6_60 35 Q n (nI k) s := by
    intro n
    induction n with
    | zero => intro k s h1 h2; exact absurd h2 (by omega)
    | succ n ih =>
      intro k s h1 h2 h3 h4
      show nd_X10_begin_6_60 35 (lp_X10_begin_6_60 35 Q n) Q (nI k) s
      unfold nd_X10_begin_6_60
      by_cases c : 8 ≤ k
      · have hk : k = 8 := by omega
        subst hk
        refine bt (by decide +kernel) (fun s5 e5 s6 e6 => hq s6 (fun a j g1 g2 => ?_) (fun j hj => ?_) (fun j hj => ?_) (fun j hj => ?_) (fun j hj => ?_) (fun j hj => ?_) ?_ ?_)
        · rw [e6, g_si, if_neg (by omega), e5, g_si, if_neg (by omega), h3 _ _ (by omega)]; exact o4 _ _ (by omega)
        · rw [e6, g_ne (by omega), e5, g_ne (by omega), h3 _ _ (by omega), e4, ga_ne (by omega), e3, ga_ne (by omega), e2, ga_ne (by omega), e1, ga_eq, va_in hj]
        · rw [e6, g_ne (by omega), e5, g_ne (by omega), h3 _ _ (by omega), e4, ga_ne (by omega), e3, ga_ne (by omega), e2, ga_eq, va_in hj, e1, ga_ne (by omega)]
        · rw [e6, g_ne (by omega), e5, g_ne (by omega), h3 _ _ (by omega), e4, ga_ne (by omega), e3, ga_eq, va_in hj, e2, ga_ne (by omega), e1, ga_ne (by omega)]
        · rw [e6, g_ne (by omega), e5, g_ne (by omega), h3 _ _ (by omega), e4, ga_eq, va_in hj, e3, ga_ne (by omega), e2, ga_ne (by omega), e1, ga_ne (by omega)]
        · rw [e6, g_ne (by omega), e5, g_ne (by omega)]; exact h4 j hj
        · rw [e6, g_nj (by omega), e5, g_eq]; rfl
        · rw [e6, g_eq]; rfl
      refine bf (by simp (disch := omega) only [N_lit, N_add, N_mul, N_sub, N_addneg, N_neg1, N_addm, N_le, N_lt, N_eq, N_in, N_cl, N_ne, N_ne', N_ltm, N_mlt, N_lem] <;> omega) ⟨N_in ⟨by omega, by omega⟩, fun s1 e1 x3 e3 => ?_⟩
      rw [N_cl (by omega)] at e1
      rw [e3, nI_1]
      refine ih (k + 1) s1 (by omega) (by omega) (fun a j g1 => ?_) (fun j hj => ?_)
      · rw [e1, g_ne (by omega)]; exact h3 a j g1
      · rw [e1]
        by_cases cr : j = k
        · rw [cr, g_eq]; rfl
        · rw [g_nj cr]; exact h4 j (by omega)
  exact lp 2048 0 s4 (by omega) (by omega) (fun _ _ _ => rfl) (fun r hr => absurd hr (Nat.not_lt_zero _))

/-! THE TREATY'S TEXT -/
def yD0 : yD := ((0, 0), (fun _ _ => 0, fun _ => 0), (fun _ => 0, fun _ => 0), (fun _ => 0, fun _ => 0, fun _ => 0, fun _ => 0), 0, 0, fun _ => none)
theorem yD0V : yDV yD0 := by
  refine ⟨Nat.zero_le _, Nat.zero_le _, fun i hi => ?_, fun v hv => absurd hv (Nat.not_lt_zero _), fun p hp => absurd hp (Nat.not_lt_zero _), Nat.zero_le _, Nat.zero_le _, fun r hr a l e => by cases e⟩
  rcases hi with z | z
  · exact absurd z (Nat.not_lt_zero _)
  · have z' : 2 ≤ i ∧ i < 2 + 0 := z
    omega
def yMG (Q : Int32 → fz_s → Prop) (m : fz_s) : Prop := wp_X12_villageTold m (fun s2 => wp_X12_villageTold s2 (fun s4 => ∀ s5 : fz_s, s5 = si s4 196 51 2 → lp_X12_treaty_86 Q 2048 s5))
/-- the model comes there -/
def yRe (tp : Nat → Nat) (tn : Nat) (t0 : yTok) (D : yD) (b : Nat) (so : Bool) (t : yTok) (st : Nat) : Prop := ∀ (Q : Int32 → fz_s → Prop) (m0 : fz_s), yPM tp tn 0 false t0 0 m0 → yDM yD0 m0 → (∀ (n : Nat) (m' : fz_s), tn + 2 ≤ n + b → (∃ a, yPM tp tn b so t a m') → yDM D m' → m'.1 196 51 = nI st → Fr pD m0 m' → lp_X12_treaty_86 Q n m') → yMG Q m0
def yRf (tp : Nat → Nat) (tn : Nat) (t0 : yTok) (kd pl : Nat) : Prop := ∀ (Q : Int32 → fz_s → Prop) (m0 : fz_s), yPM tp tn 0 false t0 0 m0 → yDM yD0 m0 → (∀ m', yFM kd pl m' → Fr pD m0 m' → nd_X12_treaty_108 Q m') → yMG Q m0
theorem y_86bad {Q : Int32 → fz_s → Prop} {n : Nat} {m : fz_s} (hb : ¬ m.1 196 5 = 0) (hn : 1 ≤ n) (hq : nd_X12_treaty_108 Q m) : lp_X12_treaty_86 Q n m := by
  obtain ⟨k, rfl⟩ : ∃ k, n = k + 1 := ⟨n - 1, by omega⟩
  exact nt hb hq
theorem y_mgbad {D : yD} {Q : Int32 → fz_s → Prop} {kd pl : Nat} {m0 m : fz_s} (hV : yDV D) (hD : yDM D m) (q : yFM kd pl m) (hF : Fr pD m0 m) (hq : ∀ m', yFM kd pl m' → Fr pD m0 m' → nd_X12_treaty_108 Q m') : wp_X12_villageTold m (fun s4 => ∀ s5 : fz_s, s5 = si s4 196 51 2 → lp_X12_treaty_86 Q 2048 s5) := by
  refine m_VilBad hV hD q.bad (fun s5 e5 => ?_)
  have q5 : yFM kd pl s5 := q.k (by rw [e5, g_nj (by omega)]) (by rw [e5, g_nj (by omega)])
  exact y_86bad q5.bad (by omega) (hq s5 q5 (hF.tr (by rw [e5]; exact Fr.rf.si (pD_t (by omega)))))
/-- the first statement fails -/
theorem y_rf0 {tp : Nat → Nat} {tn : Nat} {t0 : yTok} {kd pl : Nat} (h : ∀ (K : yTok → yTok → yTok → yTok → yTok → Prop) (F : Nat → Nat → Prop), F kd pl → sVil tp tn yD0 t0 K F) : yRf tp tn t0 kd pl := by
  intro Q m0 hP hD hq
  refine m_Vil (h (fun _ _ _ _ _ => False) (fun k p => k = kd ∧ p = pl) ⟨rfl, rfl⟩) hP yD0V hD (by decide) (fun _ _ _ _ _ _ z => absurd z id) (fun k p m' z q F' => ?_)
  obtain ⟨rfl, rfl⟩ := z
  exact y_mgbad yD0V (hD.k F') q (y_KD F') hq
theorem y_rf1 {tp : Nat → Nat} {tn : Nat} {t0 u1 u3 u5 u6 u7 : yTok} {kd pl : Nat} (h0 : ∀ (K : yTok → yTok → yTok → yTok → yTok → Prop) (F : Nat → Nat → Prop), K u1 u3 u5 u6 u7 → sVil tp tn yD0 t0 K F) (hV : yDV (yVil tp yD0 u1 u3 u5)) (h : ∀ (K : yTok → yTok → yTok → yTok → yTok → Prop) (F : Nat → Nat → Prop), F kd pl → sVil tp tn (yVil tp yD0 u1 u3 u5) u7 K F) : yRf tp tn t0 kd pl := by
  intro Q m0 hP hD hq
  refine m_Vil (h0 (fun a1 a2 a3 a4 a5 => a1 = u1 ∧ a2 = u3 ∧ a3 = u5 ∧ a4 = u6 ∧ a5 = u7) (fun _ _ => False) ⟨rfl, rfl, rfl, rfl, rfl⟩) hP yD0V hD (by decide) (fun a1 a2 a3 a4 a5 m1 z P1 D1 F1 => ?_) (fun _ _ _ z => absurd z id)
  obtain ⟨rfl, rfl, rfl, rfl, rfl⟩ := z
  refine m_Vil (h (fun _ _ _ _ _ => False) (fun k p => k = kd ∧ p = pl) ⟨rfl, rfl⟩) P1 hV D1 (by show 0 + 1 < 2; omega) (fun _ _ _ _ _ _ z => absurd z id) (fun k p m' z q F' s5 e5 => ?_)
  obtain ⟨rfl, rfl⟩ := z
  have q5 : yFM k p s5 := q.k (by rw [e5, g_nj (by omega)]) (by rw [e5, g_nj (by omega)])
  exact y_86bad q5.bad (by omega) (hq s5 q5 ((F1.tr (y_KD F')).tr (by rw [e5]; exact Fr.rf.si (pD_t (by omega)))))
theorem y_re2 {tp : Nat → Nat} {tn : Nat} {t0 u1 u3 u5 u6 u7 w1 w3 w5 w6 w7 : yTok} (h0 : ∀ (K : yTok → yTok → yTok → yTok → yTok → Prop) (F : Nat → Nat → Prop), K u1 u3 u5 u6 u7 → sVil tp tn yD0 t0 K F) (hV : yDV (yVil tp yD0 u1 u3 u5)) (h : ∀ (K : yTok → yTok → yTok → yTok → yTok → Prop) (F : Nat → Nat → Prop), K w1 w3 w5 w6 w7 → sVil tp tn (yVil tp yD0 u1 u3 u5) u7 K F) : yRe tp tn t0 (yVil tp (yVil tp yD0 u1 u3 u5) w1 w3 w5) w6.2.1 false w7 2 := by
  intro Q m0 hP hD hq
  have hn0 := hP.1.1
  refine m_Vil (h0 (fun a1 a2 a3 a4 a5 => a1 = u1 ∧ a2 = u3 ∧ a3 = u5 ∧ a4 = u6 ∧ a5 = u7) (fun _ _ => False) ⟨rfl, rfl, rfl, rfl, rfl⟩) hP yD0V hD (by decide) (fun a1 a2 a3 a4 a5 m1 z P1 D1 F1 => ?_) (fun _ _ _ z => absurd z id)
  obtain ⟨rfl, rfl, rfl, rfl, rfl⟩ := z
  refine m_Vil (h (fun a1 a2 a3 a4 a5 => a1 = w1 ∧ a2 = w3 ∧ a3 = w5 ∧ a4 = w6 ∧ a5 = w7) (fun _ _ => False) ⟨rfl, rfl, rfl, rfl, rfl⟩) P1 hV D1 (by show 0 + 1 < 2; omega) (fun b1 b2 b3 b4 b5 m2 z P2 D2 F2 s5 e5 => ?_) (fun _ _ _ z => absurd z id)
  obtain ⟨rfl, rfl, rfl, rfl, rfl⟩ := z
  have i1 : ∀ a j, ¬ (a = 196 ∧ j = 51) → s5.1 a j = m2.1 a j := fun a j g => by rw [e5, g_si, if_neg g]
  exact hq 2048 s5 (by omega) ⟨_, P2.k (i1 _ _ (by omega)) (fun a j _ _ => i1 _ _ (by omega)) (i1 _ _ (by omega)) (i1 _ _ (by omega)) (i1 _ _ (by omega)) (i1 _ _ (by omega))⟩ (D2.fr (fun j _ => i1 _ _ (by omega)) (fun a j _ _ => i1 _ _ (by omega)) (fun j => by rw [e5]; rfl)) (by rw [e5, g_eq]; rfl) ((F1.tr F2).tr (by rw [e5]; exact Fr.rf.si (pD_t (by omega))))
theorem y_reS {tp : Nat → Nat} {tn : Nat} {t0 : yTok} {D D' : yD} {b : Nat} {so : Bool} {t : yTok} {st b' : Nat} {t' : yTok} (hR : yRe tp tn t0 D b so t st) (hV : yDV D) (hnv : D.nv = 2) (hcz : D.cz ≤ b) (hst : st < 80) (hk : t.2.2.1 ≠ 0) (hb : b < b') (hT : yTS tp tn b so t) (h : ∀ (K : yD → Nat → yTok → Prop) (F : Nat → Nat → Prop), K D' b' t' → sSta tp tn D t K F) : yRe tp tn t0 D' b' false t' (st + 1) := by
  intro Q m0 hP hD hq
  refine hR Q m0 hP hD (fun n m1 hn P1 D1 h51 F1 => ?_)
  obtain ⟨a1, P1⟩ := P1
  have ht1 := hT.1
  have ht2 := hT.2.1
  obtain ⟨k, rfl⟩ : ∃ k, n = k + 1 := ⟨n - 1, by omega⟩
  show nd_X12_treaty_86 (lp_X12_treaty_86 Q k) Q m1
  unfold nd_X12_treaty_86
  refine nf P1.2.2.2.2.2.1 (y_look P1 (fun m2 P2 F2 => ?_))
  have lk := y_lkn P2.2.1 P2.1.2.1
  refine bf (fun z => hk (lk.mp z)) ?_
  have F2' := y_AK F2
  refine m_Sta (st := st) (h (fun a b c => a = D' ∧ b = b' ∧ c = t') (fun _ _ => False) ⟨rfl, rfl, rfl⟩) P2 hV (D1.k F2') hnv hcz ((F2'.i _ _ (pKt_f (by omega))).trans h51) hst (fun a b c m' z P3 D3 h3 F3 => ?_) (fun _ _ _ z => absurd z id)
  obtain ⟨rfl, rfl, rfl⟩ := z
  exact hq k m' (by omega) ⟨_, P3⟩ D3 h3 ((F1.tr (y_KD F2')).tr F3)
theorem y_rfS {tp : Nat → Nat} {tn : Nat} {t0 : yTok} {D : yD} {b : Nat} {so : Bool} {t : yTok} {st kd pl : Nat} (hR : yRe tp tn t0 D b so t st) (hV : yDV D) (hnv : D.nv = 2) (hcz : D.cz ≤ b) (hst : st < 80) (hk : t.2.2.1 ≠ 0) (hT : yTS tp tn b so t) (h : ∀ (K : yD → Nat → yTok → Prop) (F : Nat → Nat → Prop), F kd pl → sSta tp tn D t K F) : yRf tp tn t0 kd pl := by
  intro Q m0 hP hD hq
  refine hR Q m0 hP hD (fun n m1 hn P1 D1 h51 F1 => ?_)
  obtain ⟨a1, P1⟩ := P1
  have ht1 := hT.1
  have ht2 := hT.2.1
  have hkq := hT.k0
  obtain ⟨k, rfl⟩ : ∃ k, n = k + 1 := ⟨n - 1, by omega⟩
  show nd_X12_treaty_86 (lp_X12_treaty_86 Q k) Q m1
  unfold nd_X12_treaty_86
  refine nf P1.2.2.2.2.2.1 (y_look P1 (fun m2 P2 F2 => ?_))
  have lk := y_lkn P2.2.1 P2.1.2.1
  refine bf (fun z => hk (lk.mp z)) ?_
  have F2' := y_AK F2
  refine m_Sta (st := st) (h (fun _ _ _ => False) (fun k p => k = kd ∧ p = pl) ⟨rfl, rfl⟩) P2 hV (D1.k F2') hnv hcz ((F2'.i _ _ (pKt_f (by omega))).trans h51) hst (fun _ _ _ _ z => absurd z id) (fun k' p m' z q F3 => ?_)
  obtain ⟨rfl, rfl⟩ := z
  exact y_86bad q.bad (by omega) (hq m' q ((F1.tr (y_KD F2')).tr F3))
theorem y_rf80 {tp : Nat → Nat} {tn : Nat} {t0 : yTok} {D : yD} {b : Nat} {so : Bool} {t : yTok} (hR : yRe tp tn t0 D b so t 80) (hk : t.2.2.1 ≠ 0) (hT : yTS tp tn b so t) : yRf tp tn t0 5 t.1 := by
  intro Q m0 hP hD hq
  refine hR Q m0 hP hD (fun n m1 hn P1 D1 h51 F1 => ?_)
  obtain ⟨a1, P1⟩ := P1
  have hn0 := P1.1.1
  have ht1 := hT.1
  have ht2 := hT.2.1
  have hkq := hT.k0
  obtain ⟨k, rfl⟩ : ∃ k, n = k + 1 := ⟨n - 1, by omega⟩
  show nd_X12_treaty_86 (lp_X12_treaty_86 Q k) Q m1
  unfold nd_X12_treaty_86
  refine nf P1.2.2.2.2.2.1 (y_look P1 (fun m2 P2 F2 => ?_))
  have lk := y_lkn P2.2.1 P2.1.2.1
  have F2' := y_AK F2
  refine bf (fun z => hk (lk.mp z)) ?_
  unfold wp_X12_statementTold
  intro x1 e1
  rw [P2.2.2.2.1] at e1
  rw [e1, (F2'.i _ _ (pKt_f (by omega))).trans h51]
  refine nf rfl (y_mfail P2.2.2.2.2.2.1 (kd := 5) ⟨by omega, by omega⟩ (by omega) (fun m3 q3 F3 => ?_))
  exact y_86bad q3.bad (by omega) (hq m3 q3 ((F1.tr (y_KD F2')).tr (y_KD F3)))
/-! defaults -/
def ydl (r : Nat) : List Nat := if r = 0 then [9, 10003, 20004] else if r = 1 then [10003, 5, 20009] else if r = 2 then [10003, 4, 20004] else if r = 3 then [10001, 0, 20003] else [0, 0, 20003]
def yEL (D : yD) (r : Nat) (l : List Nat) : Prop := (∃ a, D.rl r = some (a, l)) ∨ (D.rl r = none ∧ l = ydl r)
/-- rules below k have their codes -/
def yAR (D : yD) (k cz : Nat) (x : fz_s) : Prop := cz ≤ 1600 + 3 * k ∧ x.1 17 10 = nI cz ∧ ∀ r, r < 5 → ((r < k ∨ D.rl r ≠ none) → ∃ a l, x.1 26 r = nI a ∧ x.1 27 r = nI (a + l.length) ∧ a + l.length ≤ cz ∧ Seg (x.1 25) cC a l ∧ yEL D r l) ∧ (k ≤ r → D.rl r = none → x.1 26 r = -1)
def pAd (a j : Nat) : Bool := decide ((a = 17 ∧ j = 10) ∨ a = 25 ∨ a = 26 ∨ a = 27)
theorem pAd_f {a j : Nat} (h : ¬ ((a = 17 ∧ j = 10) ∨ a = 25 ∨ a = 26 ∨ a = 27)) : pAd a j = false := decide_eq_false h
theorem pAd_t {a j : Nat} (h : (a = 17 ∧ j = 10) ∨ a = 25 ∨ a = 26 ∨ a = 27) : pAd a j = true := decide_eq_true h
theorem c_addDef {D : yD} {k cz c1 c2 c3 : Nat} {x : fz_s} (hk : k < 5) (hc : c1 < 30000 ∧ c2 < 30000 ∧ c3 < 30000) (hdl : ydl k = [c1, c2, c3]) (h : yAR D k cz x) {Q : fz_s → Prop} (hq : ∀ cz' x', yAR D (k + 1) cz' x' → Fr pAd x x' → Q x') : wp_X9_addDefault_17 (nI k) (nI c1) (nI c2) (nI c3) x Q := by
  obtain ⟨h1, h2, h3⟩ := id h
  unfold wp_X9_addDefault_17
  refine ⟨N_in ⟨by omega, by omega⟩, ?_⟩
  rw [N_cl (by omega)]
  by_cases c : D.rl k = none
  · refine nf ((h3 k hk).2 (Nat.le_refl _) c) ?_
    rw [h2]
    have z3 : nI cz + 3 = nI (cz + 3) := N_add cz 3
    rw [z3]
    refine bt (by simp (disch := omega) only [N_lit, N_add, N_mul, N_sub, N_addneg, N_neg1, N_addm, N_le, N_lt, N_eq, N_in, N_cl, N_ne, N_ne', N_ltm, N_mlt, N_lem] <;> omega) ⟨N_in ⟨by omega, by omega⟩, fun s1 e1 => ?_⟩
    rw [N_cl (by omega)] at e1
    have r1 : s1.1 17 10 = nI cz := by rw [e1, g_ne (by omega)]; exact h2
    rw [r1, nI_1]
    refine ⟨N_in ⟨by omega, by omega⟩, fun s2 e2 => ?_⟩
    rw [N_cl (by omega)] at e2
    have r2 : s2.1 17 10 = nI cz := by rw [e2, g_ne (by omega)]; exact r1
    rw [r2, show nI cz + 2 = nI (cz + 2) from N_add cz 2]
    refine ⟨N_in ⟨by omega, by omega⟩, fun s3 e3 => ⟨N_in ⟨by omega, by omega⟩, fun s4 e4 s5 e5 => ⟨N_in ⟨by omega, by omega⟩, fun s6 e6 => ?_⟩⟩⟩
    rw [N_cl (by omega)] at e3
    have r3 : s3.1 17 10 = nI cz := by rw [e3, g_ne (by omega)]; exact r2
    rw [r3] at e4
    have r4 : s4.1 17 10 = nI cz := by rw [e4, g_ne (by omega)]; exact r3
    rw [r4, z3] at e5
    have r5 : s5.1 17 10 = nI (cz + 3) := by rw [e5, g_eq]
    rw [r5] at e6
    have i1 : ∀ a j, ¬ (a = 25 ∧ cz ≤ j) → ¬ (a = 26 ∧ j = k) → ¬ (a = 27 ∧ j = k) → ¬ (a = 17 ∧ j = 10) → s6.1 a j = x.1 a j := fun a j g1 g2 g3 g4 => by
      rw [e6, g_si, if_neg g3, e5, g_si, if_neg g4, e4, g_si, if_neg g2, e3, g_si, if_neg (by omega), e2, g_si, if_neg (by omega), e1, g_si, if_neg (by omega)]
    refine hq (cz + 3) s6 ⟨by omega, ?_, fun r hr => ⟨fun hc' => ?_, fun g1 g2 => ?_⟩⟩ ?_
    · rw [e6, g_ne (by omega)]; exact r5
    · by_cases cr : r = k
      · subst cr
        refine ⟨cz, ydl r, ?_, ?_, ?_, ?_, Or.inr ⟨c, rfl⟩⟩
        · rw [e6, g_ne (by omega), e5, g_ne (by omega), e4, g_eq]
        · rw [e6, g_eq, hdl]; rfl
        · rw [hdl]; show cz + 3 ≤ cz + 3; omega
        · rw [hdl]
          refine ⟨?_, ?_, ?_, trivial⟩
          · rw [cC_id (by omega), e6, g_ne (by omega), e5, g_ne (by omega), e4, g_ne (by omega), e3, g_nj (by omega), e2, g_nj (by omega), e1, g_eq]
          · rw [cC_id (by omega), e6, g_ne (by omega), e5, g_ne (by omega), e4, g_ne (by omega), e3, g_nj (by omega), e2, g_eq]
          · rw [cC_id (by omega), e6, g_ne (by omega), e5, g_ne (by omega), e4, g_ne (by omega), e3, g_eq]
      · obtain ⟨a, l, y1, y2, y3, y4, y5⟩ := (h3 r hr).1 (by rcases hc' with z | z; exact Or.inl (by omega); exact Or.inr z)
        exact ⟨a, l, (i1 _ _ (by omega) (by omega) (by omega) (by omega)).trans y1, (i1 _ _ (by omega) (by omega) (by omega) (by omega)).trans y2, by omega, y4.cong (fun k' _ _ => i1 _ _ (by omega) (by omega) (by omega) (by omega)), y5⟩
    · exact (i1 _ _ (by omega) (by omega) (by omega) (by omega)).trans ((h3 r hr).2 (by omega) g2)
    · rw [e6, e5, e4, e3, e2, e1]
      exact (((((Fr.rf.si (pAd_t (by omega))).si (pAd_t (by omega))).si (pAd_t (by omega))).si (pAd_t (by omega))).si (pAd_t (by omega))).si (pAd_t (by omega))
  · obtain ⟨a, l, y1, y2, y3, y4, y5⟩ := (h3 k hk).1 (Or.inr c)
    rw [y1]
    refine nt (y_nm1 (by omega)) (hq cz x ⟨by omega, h2, fun r hr => ⟨fun hc' => ?_, fun g1 g2 => (h3 r hr).2 (by omega) g2⟩⟩ Fr.rf)
    by_cases cr : r = k
    · subst cr
      exact ⟨a, l, y1, y2, y3, y4, y5⟩
    · exact (h3 r hr).1 (by rcases hc' with z | z; exact Or.inl (by omega); exact Or.inr z)
theorem c_addDefs {D : yD} {x : fz_s} (hV : yDV D) (hD : yDX D x) {Q : fz_s → Prop} (hq : ∀ cz' x', yAR D 5 cz' x' → Fr pAd x x' → Q x') : wp_X9_addDefaults_17 x Q := by
  have h0 : yAR D 0 D.cz x := by
    refine ⟨by have := hV.2.2.2.2.2.2.1; omega, hD.2.2.2.1, fun r hr => ⟨fun hc => ?_, fun _ e => hD.2.2.2.2.2.2.2.1 r hr e⟩⟩
    have hn : D.rl r ≠ none := by
      rcases hc with z | z
      · omega
      · exact z
    cases e : D.rl r with
    | none => exact absurd e hn
    | some p =>
      obtain ⟨a, l⟩ := p
      obtain ⟨y1, y2, y3⟩ := hD.2.2.2.2.2.2.2.2 r hr a l e
      exact ⟨a, l, y1, y2, (hV.2.2.2.2.2.2.2 r hr a l e).1, y3, Or.inl ⟨a, e⟩⟩
  unfold wp_X9_addDefaults_17
  refine c_addDef (k := 0) (c1 := 9) (c2 := 10003) (c3 := 20004) (by omega) ⟨by omega, by omega, by omega⟩ rfl h0 (fun z1 x1 h1 F1 => ?_)
  refine c_addDef (k := 1) (c1 := 10003) (c2 := 5) (c3 := 20009) (by omega) ⟨by omega, by omega, by omega⟩ rfl h1 (fun z2 x2 h2 F2 => ?_)
  refine c_addDef (k := 2) (c1 := 10003) (c2 := 4) (c3 := 20004) (by omega) ⟨by omega, by omega, by omega⟩ rfl h2 (fun z3 x3 h3 F3 => ?_)
  refine c_addDef (k := 3) (c1 := 10001) (c2 := 0) (c3 := 20003) (by omega) ⟨by omega, by omega, by omega⟩ rfl h3 (fun z4 x4 h4 F4 => ?_)
  refine c_addDef (k := 4) (c1 := 0) (c2 := 0) (c3 := 20003) (by omega) ⟨by omega, by omega, by omega⟩ rfl h4 (fun z5 x5 h5 F5 => ?_)
  exact hq z5 x5 h5 (F1.tr (F2.tr (F3.tr (F4.tr F5))))
/-! the class's loop over statements -/
theorem y_rdlp {tp : Nat → Nat} {tn : Nat} {t0 : yTok} {x0 : fz_s} {Q : Bool → fz_s → Prop} (hok : ∀ D b so t st cz' x', yPX tp tn b so t x' → t.2.2.1 = 0 → yDV D → D.nv = 2 → yDX D x' → x'.1 17 13 = nI st → Fr pC x0 x' → yRe tp tn t0 D b so t st → ∀ x'', yAR D 5 cz' x'' → Fr pAd x' x'' → Q true x'') (hno : ∀ kd pl x', yRf tp tn t0 kd pl → yFX kd pl x' → Fr pC x0 x' → Q false x') : ∀ (n i b : Nat) (so : Bool) (t : yTok) (D : yD) (x : fz_s), i ≤ 80 → 81 < n + i → yPX tp tn b so t x → yDV D → D.nv = 2 → D.cz ≤ b → yDX D x → x.1 17 13 = nI i → Fr pC x0 x → yRe tp tn t0 D b so t i → lp_X9_read_17_6 Q n (nI i) x
  | 0, i, b, so, t, D, x, h1, h2, _, _, _, _, _, _, _, _ => absurd h2 (by omega)
  | n + 1, i, b, so, t, D, x, h1, h2, hX, hV, hnv, hcz, hD, h13, hF, hR => by
    have hn0 := hX.1.1
    have hq0 := hX.2.1.2.1
    have hk4 : t.2.2.1 ≤ 4 := by
      rcases hX.2.1.2.2.2.2 with z | z | z | z | z <;> omega
    show nd_X9_read_17_6 (lp_X9_read_17_6 Q n) Q (nI i) x
    unfold nd_X9_read_17_6
    refine bf (by simp (disch := omega) only [N_lit, N_add, N_mul, N_sub, N_addneg, N_neg1, N_addm, N_le, N_lt, N_eq, N_in, N_cl, N_ne, N_ne', N_ltm, N_mlt, N_lem] <;> omega) ?_
    rw [hX.2.2.2.1]
    by_cases ck : t.2.2.1 = 0
    · refine nf (by simp (disch := omega) only [N_lit, N_add, N_mul, N_sub, N_addneg, N_neg1, N_addm, N_le, N_lt, N_eq, N_in, N_cl, N_ne, N_ne', N_ltm, N_mlt, N_lem] <;> omega) (c_addDefs hV hD (fun cz' x' hA hF' => ?_))
      rw [hF'.i _ _ (pAd_f (by omega)), hD.1, hnv]
      exact bt rfl (hok D b so t i cz' x hX ck hV hnv hD h13 hF hR x' hA hF')
    refine nt (by simp (disch := omega) only [N_lit, N_add, N_mul, N_sub, N_addneg, N_neg1, N_addm, N_le, N_lt, N_eq, N_in, N_cl, N_ne, N_ne', N_ltm, N_mlt, N_lem] <;> omega) ?_
    by_cases ci : i = 80
    · subst ci
      refine nf rfl ?_
      rw [hX.2.2.2.2.1]
      exact y_fail (kd := 5) ⟨by omega, by omega⟩ (by omega) (fun x1 q1 F1 => hno _ _ x1 (y_rf80 hR ck hX.2.1) q1 (hF.tr (y_4C F1.1)))
    refine nt (by simp (disch := omega) only [N_lit, N_add, N_mul, N_sub, N_addneg, N_neg1, N_addm, N_le, N_lt, N_eq, N_in, N_cl, N_ne, N_ne', N_ltm, N_mlt, N_lem] <;> omega) ?_
    refine c_Sta (Qf := fun s => Q false s) (Qt := fun s4 => ∀ s5 : fz_s, s5 = si s4 17 13 ((s4.1 17 13) + 1) → ∀ x6 : Int32, x6 = nI i + 1 → lp_X9_read_17_6 Q n x6 s5) hX hV hD hnv hcz (fun D' b' t' x1 g1 g2 g3 g4 g5 g6 g7 g8 g9 s5 e5 x6 e6 => ?_) (fun kd pl x1 g1 g2 g3 => hno kd pl x1 (y_rfS hR hV hnv hcz (by omega) ck hX.2.1 g1) g2 (hF.tr g3))
    rw [g9, h13, nI_1] at e5
    rw [e6, nI_1]
    have i1 : ∀ a j, ¬ (a = 17 ∧ j = 13) → s5.1 a j = x1.1 a j := fun a j g => by rw [e5, g_si, if_neg g]
    exact y_rdlp hok hno n (i + 1) b' false t' D' s5 (by omega) (by omega) (g2.fr (fun j _ => i1 _ _ (by omega)) (fun j _ => i1 _ _ (by omega))) g4 g5 g6 (g7.fr g4 (fun a j _ _ g _ => i1 _ _ (by omega))) (by rw [e5, g_eq]) ((hF.tr g8).tr (by rw [e5]; exact Fr.rf.si (pC_t (by omega)))) (y_reS hR hV hnv hcz (by omega) ck g3 hX.2.1 g1)

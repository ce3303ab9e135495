/-! RULES, SNOW -/
def yGOK (tp : Nat → Nat) (tn r b : Nat) (so : Bool) (t : yTok) (b' : Nat) (so' : Bool) (t' : yTok) (l : List Nat) : Prop := (r = 1 ∨ r = 4 → yOKe tp tn (ytk r) 0 b so t b' so' t' l ∧ ¬ yWo t' 20 ∧ ¬ yWo t' 21) ∧ (¬ (r = 1 ∨ r = 4) → yOKs tp tn (ytk r) 0 b so t b' so' t' l ∧ yNop tp t')
def yGNO (tp : Nat → Nat) (tn r b : Nat) (so : Bool) (t : yTok) (kd pl : Nat) : Prop := (r = 1 ∨ r = 4 → yNOe tp tn (ytk r) 0 b so t kd pl) ∧ (¬ (r = 1 ∨ r = 4) → yNOs tp tn (ytk r) 0 b so t kd pl)
def sRul (tp : Nat → Nat) (tn : Nat) (D : yD) (t : yTok) (r : Nat) (K : List Nat → yTok → yTok → Prop) (F : Nat → Nat → Prop) : Prop := (D.rl r ≠ none ∧ F 5 t.1) ∨ (D.rl r = none ∧ ∃ t1, yTS tp tn t.2.1 true t1 ∧ ((∃ b' so' t' l, yTS tp tn b' so' t' ∧ (t.2.1 < b' ∧ l.length + t.2.1 ≤ b') ∧ yGOK tp tn r t.2.1 true t1 b' so' t' l ∧ sS tp tn t' 59 (fun t'' => K l t' t'') F) ∨ (∃ kd pl, yGNO tp tn r t.2.1 true t1 kd pl ∧ F kd pl)))
def yRul (D : yD) (r : Nat) (l : List Nat) : yD := (D.1, D.2.1, D.2.2.1, D.2.2.2.1, D.sn, D.cz + l.length, upf D.rl r (some (D.cz, l)))
theorem ytk_le (r : Nat) : ytk r ≤ 2 := by
  unfold ytk
  split <;> omega
theorem m_copy {D : yD} {L : List Nat} {r : Nat} {m0 : fz_s} (hr : r < 5) (hcz : D.cz + L.length ≤ 1600) (hS : Seg (m0.1 269) cM 0 L) (h101 : m0.1 196 101 = nI L.length) {Q : fz_s → Prop} (hq : ∀ m', (∀ a j, ¬ (a = 231 ∧ D.cz ≤ j) → ¬ (a = 230 ∧ j = r) → ¬ (a = 196 ∧ j = 50) → m'.1 a j = m0.1 a j) → m'.2.1 = m0.2.1 → m'.1 196 50 = nI (D.cz + L.length) → m'.1 230 r = nI (D.cz + L.length) → (∀ k, k < L.length → m'.1 231 (D.cz + k) = m0.1 269 k) → Fr pDs m0 m' → Q m') : ∀ (n k : Nat) (m : fz_s), k ≤ L.length → L.length < n + k → (∀ a j, ¬ (a = 231 ∧ D.cz ≤ j) → ¬ (a = 196 ∧ j = 50) → m.1 a j = m0.1 a j) → m.2.1 = m0.2.1 → m.1 196 50 = nI (D.cz + k) → (∀ j, j < k → m.1 231 (D.cz + j) = m0.1 269 j) → Fr pDs m0 m → lp_X12_codesTold_103 Q n (nI r) (nI k) m
  | 0, k, m, h1, h2, _, _, _, _, _ => absurd h2 (by omega)
  | n + 1, k, m, h1, h2, h3, h4, h5, h6, hF => by
    show nd_X12_codesTold_103 (lp_X12_codesTold_103 Q n) Q (nI r) (nI k) m
    unfold nd_X12_codesTold_103
    rw [h3 196 101 (by omega) (by omega), h101, h5]
    by_cases c : L.length ≤ k
    · have hk : k = L.length := by omega
      subst hk
      refine bt (by simp (disch := omega) only [N_lit, N_add, N_mul, N_sub, N_addneg, N_neg1, N_addm, N_le, N_lt, N_eq, N_in, N_cl, N_ne, N_ne', N_ltm, N_mlt, N_lem] <;> omega) ⟨N_in ⟨by omega, by omega⟩, fun s1 e1 => ?_⟩
      rw [N_cl (by omega)] at e1
      refine hq s1 (fun a j g1 g2 g3 => ?_) (by rw [e1]; exact h4) ?_ ?_ (fun k' hk' => ?_) ?_
      · rw [e1, g_si, if_neg (fun z => g2 z)]; exact h3 a j g1 g3
      · rw [e1, g_ne (by omega)]; exact h5
      · rw [e1, g_eq]
      · rw [e1, g_ne (by omega)]; exact h6 k' hk'
      · rw [e1]; exact hF.si (pDs_t (by omega))
    · refine bf (by simp (disch := omega) only [N_lit, N_add, N_mul, N_sub, N_addneg, N_neg1, N_addm, N_le, N_lt, N_eq, N_in, N_cl, N_ne, N_ne', N_ltm, N_mlt, N_lem] <;> omega) ⟨N_in ⟨by omega, by omega⟩, N_in ⟨by omega, by omega⟩, fun s2 e2 s3 e3 x4 e4 => ?_⟩
      rw [N_cl (by omega), N_cl (by omega), h3 269 k (by omega) (by omega)] at e2
      have r2 : s2.1 196 50 = nI (D.cz + k) := by rw [e2, g_ne (by omega)]; exact h5
      rw [r2, nI_1] at e3
      rw [e4, nI_1]
      refine m_copy hr hcz hS h101 hq n (k + 1) s3 (by omega) (by omega) (fun a j g1 g2 => ?_) (by rw [e3, e2]; exact h4) ?_ (fun j hj => ?_) ?_
      · rw [e3, g_si, if_neg (fun z => g2 z), e2, g_si, if_neg (fun z => g1 ⟨z.1, by omega⟩)]; exact h3 a j g1 g2
      · rw [e3, g_eq]; rfl
      · rw [e3, g_ne (by omega), e2]
        by_cases cj : j = k
        · rw [cj, g_eq]
        · rw [g_nj (by omega)]; exact h6 j (by omega)
      · rw [e3, e2]; exact (hF.si (pDs_t (by omega))).si (pDs_t (by omega))
theorem Seg.shift {f g : Nat → Int32} {c : Nat → Nat} : ∀ {l : List Nat} {i d : Nat}, Seg g c i l → (∀ k, k < l.length → f (d + k) = g (i + k)) → Seg f c d l
  | [], _, _, _, _ => trivial
  | a :: l, i, d, h, e => ⟨(e 0 (Nat.succ_pos _)).trans h.1, Seg.shift (i := i + 1) h.2 (fun k hk => by rw [show d + 1 + k = d + (k + 1) by omega, show i + 1 + k = i + (k + 1) by omega]; exact e (k + 1) (Nat.succ_lt_succ hk))⟩
theorem m_83bad {m : fz_s} (hb : ¬ m.1 196 5 = 0) {v : Int32} {Q : fz_s → Prop} (hq : Q m) : nd_X12_codesTold_83 Q v m := bf hb hq
set_option maxHeartbeats 4000000 in
theorem m_Rul {tp : Nat → Nat} {tn : Nat} {t : yTok} {D : yD} {r : Nat} {m : fz_s} {K : List Nat → yTok → yTok → Prop} {F : Nat → Nat → Prop} (h : sRul tp tn D t r K F) (hr : r < 5) (hA : yAd tp tn t.2.1 true m) (h5 : m.1 196 5 = 0) (ht : t.1 < 2000) (hV : yDV D) (hD : yDM D m) (hcz : D.cz ≤ t.2.1) {Q : fz_s → Prop} (hT : ∀ l t' t'' m', K l t' t'' → yPM tp tn t'.2.1 false t'' t'.2.1 m' → yDM (yRul D r l) m' → Fr pDs m m' → Q m') (hN : ∀ kd pl m', F kd pl → yFM kd pl m' → Fr pDs m m' → Q m') : wp_X12_codesTold (nI r) (nI t.1) m (fun s => wp_X12_asksSign 59 s Q) := by
  have fin : ∀ kd pl m', F kd pl → yFM kd pl m' → Fr pDs m m' → wp_X12_asksSign 59 m' Q := fun kd pl m' f q F' => y_asksSignBad q.bad (hN kd pl m' f q F')
  unfold wp_X12_codesTold
  refine nf h5 ⟨N_in ⟨by omega, by omega⟩, ?_⟩
  rw [N_cl (by omega)]
  rcases h with ⟨h1, h2⟩ | ⟨h1, t1, ht1, h2⟩
  · obtain ⟨p, hp⟩ : ∃ p, D.rl r = some p := by
      cases e : D.rl r with
      | none => exact absurd e h1
      | some p => exact ⟨p, rfl⟩
    obtain ⟨a, l⟩ := p
    have z := (hD.2.2.2.2.2.2.2.2 r hr a l hp).1
    have zl := (hV.2.2.2.2.2.2.2 r hr a l hp).1
    have zc := hV.2.2.2.2.2.2.1
    rw [z]
    refine bf (y_nm1 (by omega)) ?_
    exact y_mfail h5 (kd := 5) ⟨by omega, by omega⟩ ht (fun m1 q1 F1 => bf q1.bad (fin _ _ m1 h2 q1 (y_KDs F1)))
  refine bt (hD.2.2.2.2.2.2.2.1 r hr h1) ?_
  have P0 := hA t1 ht1
  unfold nd_X12_codesTold_23
  refine bt h5 ?_
  have go : ∀ u : Bool, bi u = nI (ytk r) → nd_X12_codesTold_42 (fun s => wp_X12_asksSign 59 s Q) (nI r) u m := by
    intro u hu
    unfold nd_X12_codesTold_42
    intro s1 e1 s2 e2 s3 e3 s4 e4 s5 e5
    rw [hu] at e1
    have i1 : ∀ a j, ¬ (a = 196 ∧ (j = 53 ∨ j = 101 ∨ j = 103 ∨ j = 104 ∨ j = 105)) → s5.1 a j = m.1 a j := fun a j g => by
      rw [e5, g_si, if_neg (by omega), e4, g_si, if_neg (by omega), e3, g_si, if_neg (by omega), e2, g_si, if_neg (by omega), e1, g_si, if_neg (by omega)]
    have l1 : s5.2.1 = m.2.1 := by rw [e5, e4, e3, e2, e1]; rfl
    have FD : Fr pDs m s5 := by
      rw [e5, e4, e3, e2, e1]
      exact ((((Fr.rf.si (pDs_t (by omega))).si (pDs_t (by omega))).si (pDs_t (by omega))).si (pDs_t (by omega))).si (pDs_t (by omega))
    have P5 : yPM tp tn t.2.1 true t1 t.2.1 s5 := P0.k (i1 _ _ (by omega)) (fun a j _ _ => i1 _ _ (by omega)) (i1 _ _ (by omega)) (i1 _ _ (by omega)) (i1 _ _ (by omega)) (i1 _ _ (by omega))
    have D5 : yDM D s5 := hD.fr (fun j _ => i1 _ _ (by omega)) (fun a j _ _ => i1 _ _ (by omega)) (fun j => by rw [l1])
    have S5 : yQS [] 0 [] 0 (ytk r) s5 := by
      refine ⟨?_, ?_, ?_, ?_, ?_, trivial, trivial, fun v hv => by cases hv⟩
      · rw [e5, g_nj (by omega), e4, g_nj (by omega), e3, g_nj (by omega), e2, g_nj (by omega), e1, g_eq]
      · rw [e5, g_nj (by omega), e4, g_nj (by omega), e3, g_nj (by omega), e2, g_eq]; rfl
      · rw [e5, g_nj (by omega), e4, g_nj (by omega), e3, g_eq]; rfl
      · rw [e5, g_nj (by omega), e4, g_eq]; rfl
      · rw [e5, g_eq]; rfl
    -- the text is whole
    have ok : ∀ b' so' t' l, yTS tp tn b' so' t' → (t.2.1 < b' ∧ l.length + t.2.1 ≤ b') → sS tp tn t' 59 (fun t'' => K l t' t'') F → ∀ m9, yPM tp tn b' so' t' t'.1 m9 → yQS [] 0 ([] ++ l) 0 (ytk r) m9 → Fr pQ s5 m9 → nd_X12_codesTold_83 (fun s => wp_X12_asksSign 59 s Q) (nI r) m9 := by
      intro b' so' t' l hT' hb' hS9 m9 P9 Q9 F9
      have hn0 := P9.1.1
      have k1 := hT'.1
      have k2 := hT'.2.1
      have D9 := D5.q F9
      have Q9' : yQS [] 0 l 0 (ytk r) m9 := Q9
      unfold nd_X12_codesTold_83
      refine bt P9.2.2.2.2.2.1 ⟨N_in ⟨by omega, by omega⟩, fun s1' e1' => ?_⟩
      rw [N_cl (by omega), D9.2.2.2.1] at e1'
      have j1 : ∀ a j, ¬ (a = 229 ∧ j = r) → s1'.1 a j = m9.1 a j := fun a j g => by rw [e1', g_si, if_neg g]
      refine m_copy (D := D) (L := l) (m0 := s1') hr (by omega) (Q9'.2.2.2.2.2.2.1.cong (fun k _ _ => j1 _ _ (by omega))) (by rw [j1 _ _ (by omega)]; exact Q9'.2.1) (fun m' g1 g2 g3 g4 g5 g6 => ?_) 2048 0 s1' (by omega) (by omega) (fun a j _ _ => rfl) rfl (by rw [j1 _ _ (by omega)]; exact D9.2.2.2.1) (fun j hj => absurd hj (Nat.not_lt_zero _)) Fr.rf
      have FD9 : Fr pDs m m' := ((FD.tr (y_QDs F9)).tr (by rw [e1']; exact Fr.rf.si (pDs_t (by omega)))).tr g6
      have back : ∀ a j, ¬ (a = 231 ∧ D.cz ≤ j) → ¬ (a = 230 ∧ j = r) → ¬ (a = 196 ∧ j = 50) → ¬ (a = 229 ∧ j = r) → m'.1 a j = m9.1 a j := fun a j z1 z2 z3 z4 => (g1 a j z1 z2 z3).trans (j1 a j z4)
      have P' : yPM tp tn b' so' t' t'.1 m' := P9.k (back _ _ (by omega) (by omega) (by omega) (by omega)) (fun a j _ _ => back _ _ (by omega) (by omega) (by omega) (by omega)) (back _ _ (by omega) (by omega) (by omega) (by omega)) (back _ _ (by omega) (by omega) (by omega) (by omega)) (back _ _ (by omega) (by omega) (by omega) (by omega)) (back _ _ (by omega) (by omega) (by omega) (by omega))
      have hD' : yDM (yRul D r l) m' := by
        obtain ⟨d1, d2, d3, d4, d5, d6, d7, d8, d9⟩ := D9
        refine ⟨?_, ?_, ?_, g3, fun i hi => ?_, fun v hv => ⟨?_, ?_⟩, fun p hp => ?_, fun r' hr' e => ?_, fun r' hr' a' l' e => ?_⟩
        · rw [back _ _ (by omega) (by omega) (by omega) (by omega)]; exact d1
        · rw [back _ _ (by omega) (by omega) (by omega) (by omega)]; exact d2
        · rw [back _ _ (by omega) (by omega) (by omega) (by omega)]; exact d3
        · rw [g2, e1']; exact d5 i hi
        · rw [back _ _ (by omega) (by omega) (by omega) (by omega)]; exact (d6 v hv).1
        · rw [back _ _ (by omega) (by omega) (by omega) (by omega)]; exact (d6 v hv).2
        · obtain ⟨y1, y2, y3, y4⟩ := d7 p hp
          exact ⟨(back _ _ (by omega) (by omega) (by omega) (by omega)).trans y1, (back _ _ (by omega) (by omega) (by omega) (by omega)).trans y2, (back _ _ (by omega) (by omega) (by omega) (by omega)).trans y3, (back _ _ (by omega) (by omega) (by omega) (by omega)).trans y4⟩
        · have e' : upf D.rl r (some (D.cz, l)) r' = none := e
          have hne : r' ≠ r := fun z => by rw [z, upf_eq] at e'; cases e'
          rw [upf_ne hne] at e'
          rw [back _ _ (by omega) (by omega) (by omega) (by omega)]; exact d8 r' hr' e'
        · have e' : upf D.rl r (some (D.cz, l)) r' = some (a', l') := e
          by_cases c : r' = r
          · subst c
            rw [upf_eq] at e'
            cases e'
            refine ⟨?_, g4, Seg.shift (i := 0) (Q9'.2.2.2.2.2.2.1) (fun k hk => ?_)⟩
            · rw [g1 _ _ (by omega) (by omega) (by omega), e1', g_eq]
            · rw [g5 k hk, j1 _ _ (by omega), Nat.zero_add]
          · rw [upf_ne c] at e'
            obtain ⟨y1, y2, y3⟩ := d9 r' hr' a' l' e'
            have y4 := (hV.2.2.2.2.2.2.2 r' hr' a' l' e').1
            exact ⟨(back _ _ (by omega) (by omega) (by omega) (by omega)).trans y1, (back _ _ (by omega) (by omega) (by omega) (by omega)).trans y2, y3.cong (fun k _ hk => back _ _ (by omega) (by omega) (by omega) (by omega))⟩
      refine m_S hS9 P' (y_sg 59 (by omega)) (fun t'' m10 h10 P10 F10 => ?_) (fun kd pl m10 f10 q10 F10 => hN kd pl m10 f10 q10 (FD9.tr (y_KDs F10)))
      exact hT l t' t'' m10 h10 P10 (hD'.k F10) (FD9.tr (y_KDs F10))
    have no : ∀ kd pl m9, F kd pl → yFM kd pl m9 → Fr pQ s5 m9 → nd_X12_codesTold_83 (fun s => wp_X12_asksSign 59 s Q) (nI r) m9 := fun kd pl m9 f q F9 => m_83bad q.bad (fin kd pl m9 f q (FD.tr (y_QDs F9)))
    have n14 : yN14 [] := fun z => by obtain ⟨_, _, z, _⟩ := z; cases z
    have tst : r = 1 ∨ r = 4 → wp_X12_qTest s5 (fun s11 => nd_X12_codesTold_83 (fun s => wp_X12_asksSign 59 s Q) (nI r) s11) := by
      intro hc
      rcases h2 with ⟨b', so', t', l, g1, g2, g3, g4⟩ | ⟨kd, pl, g1, g2⟩
      · obtain ⟨o1, o2, o3⟩ := g3.1 hc
        exact y_qTestOK o1 o2 o3 g1 g2 P5 S5 (Nat.zero_le _) (fun m9 P9 Q9 F9 => ok b' so' t' l g1 g2 g4 m9 P9 Q9 F9)
      · exact y_qTestNO (g1.1 hc) P5 S5 (Nat.zero_le _) (fun m9 q9 F9 => no kd pl m9 g2 q9 F9)
    have sms : ¬ (r = 1 ∨ r = 4) → wp_X12_qSums s5 (fun s11 => nd_X12_codesTold_83 (fun s => wp_X12_asksSign 59 s Q) (nI r) s11) := by
      intro hc
      rcases h2 with ⟨b', so', t', l, g1, g2, g3, g4⟩ | ⟨kd, pl, g1, g2⟩
      · obtain ⟨o1, o2⟩ := g3.2 hc
        exact y_qSumsOK o1 o2 g1 g2 P5 S5 (Nat.zero_le _) n14 (fun m9 P9 Q9 F9 => ok b' so' t' l g1 g2 g4 m9 P9 Q9 F9)
      · exact y_qSumsNO (g1.2 hc) P5 S5 (Nat.zero_le _) n14 (fun m9 q9 F9 => no kd pl m9 g2 q9.1 F9)
    unfold wp_X12_isTest
    by_cases c1 : r = 1
    · exact bt (by rw [c1]; rfl) (b2 (tst (Or.inl c1)))
    refine bf (by simp (disch := omega) only [N_lit, N_add, N_mul, N_sub, N_addneg, N_neg1, N_addm, N_le, N_lt, N_eq, N_in, N_cl, N_ne, N_ne', N_ltm, N_mlt, N_lem] <;> omega) ?_
    by_cases c4 : r = 4
    · exact nf (by rw [c4]; rfl) (b2 (tst (Or.inr c4)))
    · exact nt (by simp (disch := omega) only [N_lit, N_add, N_mul, N_sub, N_addneg, N_neg1, N_addm, N_le, N_lt, N_eq, N_in, N_cl, N_ne, N_ne', N_ltm, N_mlt, N_lem] <;> omega) (b3 (sms (by omega)))
  by_cases c3 : r = 3
  · exact nf (by rw [c3]; rfl) (go true (by rw [c3]; exact bi_t))
  · exact nt (by simp (disch := omega) only [N_lit, N_add, N_mul, N_sub, N_addneg, N_neg1, N_addm, N_le, N_lt, N_eq, N_in, N_cl, N_ne, N_ne', N_ltm, N_mlt, N_lem] <;> omega) (go false (by unfold ytk; rw [if_neg c3]; exact bi_f))
/-! snow -/
def sSno (tp : Nat → Nat) (tn : Nat) (t : yTok) (K : yTok → yTok → yTok → Prop) (F : Nat → Nat → Prop) : Prop := sW tp tn t 19 (fun t1 => sN tp tn t1 100 (fun t2 => sS tp tn t2 59 (fun t3 => K t1 t2 t3) F) F) F
def ySno (tp : Nat → Nat) (D : yD) (t1 : yTok) : yD := (D.1, D.2.1, D.2.2.1, D.2.2.2.1, ynum tp t1, D.cz, D.rl)
theorem m_Sno {tp : Nat → Nat} {tn b : Nat} {so : Bool} {t : yTok} {a : Nat} {D : yD} {m : fz_s} {K : yTok → yTok → yTok → Prop} {F : Nat → Nat → Prop} (h : sSno tp tn t K F) (hP : yPM tp tn b so t a m) (hD : yDM D m) {Q : fz_s → Prop} (hT : ∀ t1 t2 t3 m', K t1 t2 t3 → yPM tp tn t2.2.1 false t3 t2.2.1 m' → yDM (ySno tp D t1) m' → Fr pDs m m' → Q m') (hN : ∀ kd pl m', F kd pl → yFM kd pl m' → Fr pDs m m' → Q m') : wp_X12_asks 212 4 m (fun s15 => wp_X12_number 0 100 s15 (fun r16 s17 => ∀ s18 : fz_s, s18 = si s17 196 45 r16 → wp_X12_asksSign 59 s18 Q)) := by
  have endB : ∀ (kd pl : Nat) (v : Int32) (m' : fz_s), F kd pl → yFM kd pl m' → Fr pKt m m' → ∀ s18 : fz_s, s18 = si m' 196 45 v → wp_X12_asksSign 59 s18 Q := by
    intro kd pl v m' f q F' s18 e18
    have q18 : yFM kd pl s18 := q.k (by rw [e18, g_nj (by omega)]) (by rw [e18, g_nj (by omega)])
    exact y_asksSignBad q18.bad (hN kd pl s18 f q18 ((y_KDs F').tr (by rw [e18]; exact Fr.rf.si (pDs_t (by omega)))))
  refine m_W h hP (by decide +kernel) (fun t1 m1 h1 P1 F1 => ?_) (fun kd pl m1 f1 q1 F1 => y_numberBad q1.bad (endB kd pl 0 m1 f1 q1 F1))
  refine m_N (most := 100) h1 P1 (by omega) (fun t2 m2 h2 u2 P2 F2 s18 e18 => ?_) (fun kd pl v m2 f2 q2 F2 => endB kd pl v m2 f2 q2 (F1.tr F2))
  have D2 := hD.k (F1.tr F2)
  have i1 : ∀ a j, ¬ (a = 196 ∧ j = 45) → s18.1 a j = m2.1 a j := fun a j g => by rw [e18, g_si, if_neg g]
  have P18 : yPM tp tn t1.2.1 true t2 t1.2.1 s18 := P2.k (i1 _ _ (by omega)) (fun a' j _ _ => i1 _ _ (by omega)) (i1 _ _ (by omega)) (i1 _ _ (by omega)) (i1 _ _ (by omega)) (i1 _ _ (by omega))
  have FD : Fr pDs m s18 := (y_KDs (F1.tr F2)).tr (by rw [e18]; exact Fr.rf.si (pDs_t (by omega)))
  have D18 : yDM (ySno tp D t1) s18 := by
    obtain ⟨d1, d2, d3, d4, d5, d6, d7, d8, d9⟩ := D2
    refine ⟨(i1 _ _ (by omega)).trans d1, (i1 _ _ (by omega)).trans d2, by rw [e18, g_eq]; rfl, (i1 _ _ (by omega)).trans d4, fun i hi => by rw [e18]; exact d5 i hi, fun v hv => ⟨(i1 _ _ (by omega)).trans (d6 v hv).1, (i1 _ _ (by omega)).trans (d6 v hv).2⟩, fun p hp => ?_, fun r hr e => (i1 _ _ (by omega)).trans (d8 r hr e), fun r hr a' l e => ?_⟩
    · obtain ⟨y1, y2, y3, y4⟩ := d7 p hp
      exact ⟨(i1 _ _ (by omega)).trans y1, (i1 _ _ (by omega)).trans y2, (i1 _ _ (by omega)).trans y3, (i1 _ _ (by omega)).trans y4⟩
    · obtain ⟨y1, y2, y3⟩ := d9 r hr a' l e
      exact ⟨(i1 _ _ (by omega)).trans y1, (i1 _ _ (by omega)).trans y2, y3.cong (fun k _ _ => i1 _ _ (by omega))⟩
  refine m_S h2 P18 (y_sg 59 (by omega)) (fun t3 m3 h3 P3 F3 => ?_) (fun kd pl m3 f3 q3 F3 => hN kd pl m3 f3 q3 (FD.tr (y_KDs F3)))
  exact hT t1 t2 t3 m3 h3 P3 (D18.k F3) (FD.tr (y_KDs F3))

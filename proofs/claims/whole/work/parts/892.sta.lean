/-! STATEMENTS -/
set_option maxHeartbeats 4000000 in
theorem c_Rul {tp : Nat → Nat} {tn b : Nat} {so : Bool} {t : yTok} {D : yD} {r : Nat} {x : fz_s} (hX : yPX tp tn b so t x) (hV : yDV D) (hD : yDX D x) (hr : r < 5) (hw : yWo t (11 + r)) (hcz : D.cz ≤ b) {Qf Qt : fz_s → Prop}
    (hok : ∀ l t' t'' x', (∀ (K : List Nat → yTok → yTok → Prop) (F : Nat → Nat → Prop), K l t' t'' → sRul tp tn D t r K F) → yPX tp tn t'.2.1 false t'' x' → t.2.1 < t'.2.1 → yDV (yRul D r l) → yDX (yRul D r l) x' → Fr pC x x' → x'.1 17 13 = x.1 17 13 → D.cz + l.length ≤ t'.2.1 → Qt x')
    (hno : ∀ kd pl x', (∀ (K : List Nat → yTok → yTok → Prop) (F : Nat → Nat → Prop), F kd pl → sRul tp tn D t r K F) → yFX kd pl x' → Fr pC x x' → Qf x') :
    wp_X9_beginRule_17 (nI r) x (fun r2 s3 => ((r2 = false → yB Qf Qt false s3) ∧ (r2 = true → wp_X9_isTest (nI r) s3 (fun r4 s5 => ((r4 = false → wp_G 64 3 0 s5 (fun r6 s7 => ((r6 = false → yB Qf Qt false s7) ∧ (r6 = true → nd_X9_readStatement_17_162 (yB Qf Qt) (nI r) s7)))) ∧ (r4 = true → wp_G 64 0 0 s5 (fun r8 s9 => ((r8 = false → yB Qf Qt false s9) ∧ (r8 = true → nd_X9_readStatement_17_162 (yB Qf Qt) (nI r) s9))))))))) := by
  have hn0 := hX.1.1
  have hB := hX.1.2.1
  have hq0 := hX.2.1.2.1
  have hq1 := hX.2.1.1
  have he := hw.lt hX.2.1 hB
  unfold wp_X9_beginRule_17
  refine ⟨N_in ⟨by omega, by omega⟩, ?_⟩
  rw [N_cl (by omega)]
  cases hrl : D.rl r with
  | some p =>
    obtain ⟨a, l⟩ := p
    have z := (hD.2.2.2.2.2.2.2.2 r hr a l hrl).1
    have zl := (hV.2.2.2.2.2.2.2 r hr a l hrl).1
    have zc := hV.2.2.2.2.2.2.1
    rw [z]
    refine bf (y_nm1 (by omega)) ?_
    rw [hX.2.2.2.2.1]
    exact y_fail (kd := 5) ⟨by omega, by omega⟩ (by omega) (fun x1 q1 F1 => b3 (b3 (hno _ _ x1 (fun K F z => Or.inl ⟨(by rw [hrl]; exact fun y => (by cases y)), z⟩) q1 (y_4C F1.1))))
  | none =>
    refine bt (hD.2.2.2.2.2.2.2.1 r hr hrl) (y_next hX (fun t1 x1 hX1 F1 => ?_))
    rw [he.2] at hX1
    have G1 := (y_n4 F1).1
    have D1 := hD.c hV G1
    have u1 : ∀ (K : List Nat → yTok → yTok → Prop) (F : Nat → Nat → Prop), ((∃ b' so' t' l, yTS tp tn b' so' t' ∧ (t.2.1 < b' ∧ l.length + t.2.1 ≤ b') ∧ yGOK tp tn r t.2.1 true t1 b' so' t' l ∧ sS tp tn t' 59 (fun t'' => K l t' t'') F) ∨ (∃ kd pl, yGNO tp tn r t.2.1 true t1 kd pl ∧ F kd pl)) → sRul tp tn D t r K F := fun K F z => Or.inr ⟨hrl, t1, hX1.2.1, z⟩
    have go : ∀ (v : Int32) {Q : Bool → fz_s → Prop}, v = nI (yscp (ytk r)) → (∀ x5, yPX tp tn t.2.1 true t1 x5 → yGS 25 D.cz (ytk r) [] x5 → yDX D x5 → Fr pC x x5 → x5.1 17 13 = x.1 17 13 → Q true x5) → nd_X9_beginRule_17_46 Q v (x1.1 17 10) x1 := by
      intro v Q hv hq
      unfold nd_X9_beginRule_17_46 wp_X2_begin
      intro s1 e1 s2 e2 s3 e3 s4 e4
      rw [D1.2.2.2.1] at e2
      have i1 : ∀ a j, ¬ (a = 5 ∧ (j = 2 ∨ j = 3 ∨ j = 4)) → s4.1 a j = x1.1 a j := fun a j g => by
        rw [e4, g_si, if_neg (by omega), e3, g_si, if_neg (by omega), e2, g_si, if_neg (by omega), e1]
        rfl
      refine hq s4 (hX1.fr (fun j _ => i1 _ _ (by omega)) (fun j _ => i1 _ _ (by omega))) ⟨?_, Or.inl rfl, ?_, ?_, ?_, trivial⟩ (D1.fr hV (fun a j _ _ _ _ => i1 _ _ (by omega))) ?_ ?_
      · rw [e4, e3, e2, e1]; rfl
      · rw [e4, g_nj (by omega), e3, g_eq, hv]
      · rw [e4, g_eq]
        have : ytk r ≠ 2 := by
          unfold ytk
          split <;> omega
        rw [if_neg this]
        exact bi_f
      · rw [e4, g_nj (by omega), e3, g_nj (by omega), e2, g_eq]; rfl
      · have F4 : Fr pC x1 s4 := by
          rw [e4, e3, e2, e1]
          exact (((Fr.rf.sc).si (pC_t (by omega))).si (pC_t (by omega))).si (pC_t (by omega))
        exact (y_4C G1).tr F4
      · rw [i1 _ _ (by omega)]; exact G1.i _ _ (p4_f (by omega))
    -- behind the text
    have aft : ∀ (x5 : fz_s), yDX D x5 → Fr pC x x5 → x5.1 17 13 = x.1 17 13 → ∀ b' so' t' l x6, yPX tp tn b' so' t' x6 → yGS 25 D.cz (ytk r) ([] ++ l) x6 → yFC (pGr 25 D.cz) x5 x6 → (t.2.1 < b' ∧ l.length + t.2.1 ≤ b') → yEv (ysc (ytk r)) (tsR r) 24 l → yGOK tp tn r t.2.1 true t1 b' so' t' l → nd_X9_readStatement_17_162 (yB Qf Qt) (nI r) x6 := by
      intro x5 D5 C5 k5 b' so' t' l x6 hX6 hG6 F6 hb hE hO
      have hG6' : yGS 25 D.cz (ytk r) l x6 := hG6
      have m1 := hX6.2.1.1
      have m2 := hX6.2.1.2.1
      have D6 : yDX D x6 := D5.fr hV (fun a j _ _ _ g => F6.1.i _ _ (pGr_f (by omega)))
      have C6 : Fr pC x x6 := C5.tr (F6.1.mono fun a j q => by
        have := of_decide_eq_false q
        exact pGr_f (by omega))
      have k6 : x6.1 17 13 = x.1 17 13 := (F6.1.i _ _ (pGr_f (by omega))).trans k5
      unfold nd_X9_readStatement_17_162 wp_X9_endRule_17
      refine ⟨N_in ⟨by omega, by omega⟩, fun s1 e1 s2 e2 => ⟨N_in ⟨by omega, by omega⟩, fun s3 e3 => b2 ?_⟩⟩
      rw [N_cl (by omega), D6.2.2.2.1] at e1
      have r1 : s1.1 5 4 = nI (D.cz + l.length) := by rw [e1, g_ne (by omega)]; exact hG6'.2.2.2.2.1
      rw [r1] at e2
      have r2 : s2.1 17 10 = nI (D.cz + l.length) := by rw [e2, g_eq]
      rw [N_cl (by omega), r2] at e3
      have i1 : ∀ a j, ¬ (a = 26 ∧ j = r) → ¬ (a = 27 ∧ j = r) → ¬ (a = 17 ∧ j = 10) → s3.1 a j = x6.1 a j := fun a j g1 g2 g3 => by
        rw [e3, g_si, if_neg g2, e2, g_si, if_neg g3, e1, g_si, if_neg g1]
      have hX3 : yPX tp tn b' so' t' s3 := hX6.fr (fun j _ => i1 _ _ (by omega) (by omega) (by omega)) (fun j _ => i1 _ _ (by omega) (by omega) (by omega))
      have C3 : Fr pC x s3 := by rw [e3, e2, e1]; exact ((C6.si (pC_t (by omega))).si (pC_t (by omega))).si (pC_t (by omega))
      have hV' : yDV (yRul D r l) := by
        refine ⟨hV.1, hV.2.1, hV.2.2.1, hV.2.2.2.1, hV.2.2.2.2.1, hV.2.2.2.2.2.1, ?_, fun r' hr' a' l' e => ?_⟩
        · show D.cz + l.length ≤ 1600
          omega
        · have e' : upf D.rl r (some (D.cz, l)) r' = some (a', l') := e
          show a' + l'.length ≤ D.cz + l.length ∧ _
          by_cases c : r' = r
          · subst c
            rw [upf_eq] at e'
            cases e'
            exact ⟨Nat.le_refl _, hE⟩
          · rw [upf_ne c] at e'
            have := hV.2.2.2.2.2.2.2 r' hr' a' l' e'
            exact ⟨by omega, this.2⟩
      have hD3 : yDX (yRul D r l) s3 := by
        obtain ⟨d1, d2, d3, d4, d5, d6, d7, d8, d9⟩ := D6
        refine ⟨?_, ?_, ?_, ?_, fun i hi k hk => ?_, fun v hv => ⟨?_, ?_⟩, fun p hp => ?_, fun r' hr' e => ?_, fun r' hr' a' l' e => ?_⟩
        · rw [i1 _ _ (by omega) (by omega) (by omega)]; exact d1
        · rw [i1 _ _ (by omega) (by omega) (by omega)]; exact d2
        · rw [i1 _ _ (by omega) (by omega) (by omega)]; exact d3
        · rw [e3, g_ne (by omega)]; exact r2
        · rw [i1 _ _ (by omega) (by omega) (by omega)]; exact d5 i hi k hk
        · rw [i1 _ _ (by omega) (by omega) (by omega)]; exact (d6 v hv).1
        · rw [i1 _ _ (by omega) (by omega) (by omega)]; exact (d6 v hv).2
        · obtain ⟨y1, y2, y3, y4⟩ := d7 p hp
          exact ⟨(i1 _ _ (by omega) (by omega) (by omega)).trans y1, (i1 _ _ (by omega) (by omega) (by omega)).trans y2, (i1 _ _ (by omega) (by omega) (by omega)).trans y3, (i1 _ _ (by omega) (by omega) (by omega)).trans y4⟩
        · have e' : upf D.rl r (some (D.cz, l)) r' = none := e
          have hne : r' ≠ r := fun z => by rw [z, upf_eq] at e'; cases e'
          rw [upf_ne hne] at e'
          rw [i1 _ _ (by omega) (by omega) (by omega)]; exact d8 r' hr' e'
        · have e' : upf D.rl r (some (D.cz, l)) r' = some (a', l') := e
          by_cases c : r' = r
          · subst c
            rw [upf_eq] at e'
            cases e'
            refine ⟨?_, ?_, hG6'.2.2.2.2.2.cong (fun k _ _ => i1 _ _ (by omega) (by omega) (by omega))⟩
            · rw [e3, g_ne (by omega), e2, g_ne (by omega), e1, g_eq]
            · rw [e3, g_eq]
          · rw [upf_ne c] at e'
            obtain ⟨y1, y2, y3⟩ := d9 r' hr' a' l' e'
            exact ⟨(i1 _ _ (by omega) (by omega) (by omega)).trans y1, (i1 _ _ (by omega) (by omega) (by omega)).trans y2, y3.cong (fun k _ _ => i1 _ _ (by omega) (by omega) (by omega))⟩
      refine b2 (y_takeSign hX3 59 (by omega) (fun hs t'' x4 hX4 F4 => b1 ?_) (fun hs x4 q4 F4 => b4 (hno _ _ x4 (fun K F z => u1 K F (Or.inl ⟨b', so', t', l, hX6.2.1, hb, hO, Or.inr ⟨hs, z⟩⟩)) q4 (C3.tr (y_4C F4.1)))))
      have G4 := (y_n4 F4).1
      have hs1 := (hs.lt hX6.2.1).1
      exact hok l t' t'' x4 (fun K F z => u1 K F (Or.inl ⟨b', so', t', l, hX6.2.1, hb, hO, Or.inl ⟨hs, t'', hX4.2.1, z⟩⟩)) hX4 (by omega) hV' (hD3.c hV' G4) (C3.tr (y_4C G4)) ((G4.i _ _ (p4_f (by omega))).trans ((i1 _ _ (by omega) (by omega) (by omega)).trans k6)) (by omega)
    have bad : ∀ (x5 : fz_s), Fr pC x x5 → ∀ kd pl x6, yFX kd pl x6 → yFC (pGr 25 D.cz) x5 x6 → yGNO tp tn r t.2.1 true t1 kd pl → yB Qf Qt false x6 := by
      intro x5 C5 kd pl x6 q6 F6 hN
      refine b3 (hno kd pl x6 (fun K F z => u1 K F (Or.inr ⟨kd, pl, hN, z⟩)) q6 (C5.tr (F6.1.mono fun a j q => ?_)))
      have := of_decide_eq_false q
      exact pGr_f (by omega)
    have fin : ∀ x5, yPX tp tn t.2.1 true t1 x5 → yGS 25 D.cz (ytk r) [] x5 → yDX D x5 → Fr pC x x5 → x5.1 17 13 = x.1 17 13 → wp_X9_isTest (nI r) x5 (fun r4 s5 => ((r4 = false → wp_G 64 3 0 s5 (fun r6 s7 => ((r6 = false → yB Qf Qt false s7) ∧ (r6 = true → nd_X9_readStatement_17_162 (yB Qf Qt) (nI r) s7)))) ∧ (r4 = true → wp_G 64 0 0 s5 (fun r8 s9 => ((r8 = false → yB Qf Qt false s9) ∧ (r8 = true → nd_X9_readStatement_17_162 (yB Qf Qt) (nI r) s9)))))) := by
      intro x5 hX5 hG5 D5 C5 k5
      have hl5 : D.cz + ([] : List Nat).length ≤ t.2.1 := by show D.cz + 0 ≤ t.2.1; omega
      have tst : r = 1 ∨ r = 4 → wp_G 64 0 0 x5 (fun r8 s9 => ((r8 = false → yB Qf Qt false s9) ∧ (r8 = true → nd_X9_readStatement_17_162 (yB Qf Qt) (nI r) s9))) := by
        intro hc
        have hts : tsR r = true := decide_eq_true hc
        refine (y_GTs (ytk_le r) 64 64 (Nat.le_refl _) 0 (by omega)).2.2 (by omega) t.2.1 true t1 [] x5 hX5 hG5 hl5 _ (fun b' so' t' l x6 hX6 hG6 F6 g1 g2 g3 g4 => b2 (aft x5 D5 C5 k5 b' so' t' l x6 hX6 hG6 F6 ⟨g1, g2⟩ (by rw [hts]; exact g3) ⟨fun _ => g4, fun z => absurd hc z⟩)) (fun kd pl x6 q6 F6 g1 => b3 (bad x5 C5 kd pl x6 q6 F6 ⟨fun _ => g1, fun z => absurd hc z⟩))
      have sms : ¬ (r = 1 ∨ r = 4) → wp_G 64 3 0 x5 (fun r8 s9 => ((r8 = false → yB Qf Qt false s9) ∧ (r8 = true → nd_X9_readStatement_17_162 (yB Qf Qt) (nI r) s9))) := by
        intro hc
        have hts : tsR r = false := decide_eq_false hc
        refine (y_GS (ytk_le r) 64 64 (Nat.le_refl _) 0 (by omega)).2.2 (by omega) t.2.1 true t1 [] x5 hX5 hG5 hl5 _ (fun b' so' t' l x6 hX6 hG6 F6 g1 g2 g3 g4 => b2 (aft x5 D5 C5 k5 b' so' t' l x6 hX6 hG6 F6 ⟨g1, g2⟩ (by rw [hts]; exact g3.mono (by omega)) ⟨fun z => absurd z hc, fun _ => g4⟩)) (fun kd pl x6 q6 F6 g1 => b3 (bad x5 C5 kd pl x6 q6 F6 ⟨fun z => absurd z hc, fun _ => g1⟩))
      unfold wp_X9_isTest
      by_cases c1 : r = 1
      · exact bt (by rw [c1]; rfl) (b2 (tst (Or.inl c1)))
      refine bf (by simp (disch := omega) only [N_lit, N_add, N_mul, N_sub, N_addneg, N_neg1, N_addm, N_le, N_lt, N_eq, N_in, N_cl, N_ne, N_ne', N_ltm, N_mlt, N_lem] <;> omega) ?_
      by_cases c4 : r = 4
      · exact nf (by rw [c4]; rfl) (b2 (tst (Or.inr c4)))
      · exact nt (by simp (disch := omega) only [N_lit, N_add, N_mul, N_sub, N_addneg, N_neg1, N_addm, N_le, N_lt, N_eq, N_in, N_cl, N_ne, N_ne', N_ltm, N_mlt, N_lem] <;> omega) (b3 (sms (by omega)))
    by_cases c3 : r = 3
    · refine nf (by rw [c3]; rfl) (go _ (by rw [c3]; rfl) (fun x5 g1 g2 g3 g4 g5 => b2 (fin x5 g1 g2 g3 g4 g5)))
    · refine nt (by simp (disch := omega) only [N_lit, N_add, N_mul, N_sub, N_addneg, N_neg1, N_addm, N_le, N_lt, N_eq, N_in, N_cl, N_ne, N_ne', N_ltm, N_mlt, N_lem] <;> omega) (go _ (by unfold ytk; rw [if_neg c3]; rfl) (fun x5 g1 g2 g3 g4 g5 => b2 (fin x5 g1 g2 g3 g4 g5)))
theorem c_Sno {tp : Nat → Nat} {tn b : Nat} {so : Bool} {t : yTok} {D : yD} {x : fz_s} (hX : yPX tp tn b so t x) (hV : yDV D) (hD : yDX D x) {Qf Qt : fz_s → Prop}
    (hok : ∀ t1 t2 t3 x', (∀ (K : yTok → yTok → yTok → Prop) (F : Nat → Nat → Prop), K t1 t2 t3 → sSno tp tn t K F) → yPX tp tn t2.2.1 false t3 x' → t.2.1 < t2.2.1 → yDV (ySno tp D t1) → yDX (ySno tp D t1) x' → Fr pC x x' → x'.1 17 13 = x.1 17 13 → Qt x')
    (hno : ∀ kd pl x', (∀ (K : yTok → yTok → yTok → Prop) (F : Nat → Nat → Prop), F kd pl → sSno tp tn t K F) → yFX kd pl x' → Fr pC x x' → Qf x') :
    wp_X9_readSnow_17 x (fun r s => yB Qf Qt r s) := by
  have hB := hX.1.2.1
  unfold wp_X9_readSnow_17
  refine c_WN hX 19 (by omega) (most := 100) (by omega) (fun t1 t2 x1 hw1 ht1 hu1 hX1 F1 h61 => b1 (fun s3 e3 => b2 ?_)) (fun hw1 x1 q1 F1 => b4 (b3 (hno _ _ x1 (fun K F z => Or.inr ⟨hw1, z⟩) q1 (y_4C F1)))) (fun t1 hw1 ht1 hu1 x1 q1 F1 => b4 (b3 (hno _ _ x1 (fun K F z => Or.inl ⟨hw1, t1, ht1, Or.inr ⟨hu1, z⟩⟩) q1 (y_4C F1))))
  rw [h61] at e3
  have i1 : ∀ a j, ¬ (a = 17 ∧ j = 14) → s3.1 a j = x1.1 a j := fun a j g => by rw [e3, g_si, if_neg g]
  have hX3 : yPX tp tn t1.2.1 true t2 s3 := hX1.fr (fun j _ => i1 _ _ (by omega)) (fun j _ => i1 _ _ (by omega))
  have C3 : Fr pC x s3 := by rw [e3]; exact (y_4C F1).si (pC_t (by omega))
  have D1 := hD.c hV F1
  have hV' : yDV (ySno tp D t1) := ⟨hV.1, hV.2.1, hV.2.2.1, hV.2.2.2.1, hV.2.2.2.2.1, hu1.2.2, hV.2.2.2.2.2.2.1, hV.2.2.2.2.2.2.2⟩
  have D3 : yDX (ySno tp D t1) s3 := by
    obtain ⟨d1, d2, d3, d4, d5, d6, d7, d8, d9⟩ := D1
    refine ⟨(i1 _ _ (by omega)).trans d1, (i1 _ _ (by omega)).trans d2, by rw [e3, g_eq]; rfl, (i1 _ _ (by omega)).trans d4, fun i hi k hk => (i1 _ _ (by omega)).trans (d5 i hi k hk), fun v hv => ⟨(i1 _ _ (by omega)).trans (d6 v hv).1, (i1 _ _ (by omega)).trans (d6 v hv).2⟩, fun p hp => ?_, fun r hr e => (i1 _ _ (by omega)).trans (d8 r hr e), fun r hr a l e => ?_⟩
    · obtain ⟨y1, y2, y3, y4⟩ := d7 p hp
      exact ⟨(i1 _ _ (by omega)).trans y1, (i1 _ _ (by omega)).trans y2, (i1 _ _ (by omega)).trans y3, (i1 _ _ (by omega)).trans y4⟩
    · obtain ⟨y1, y2, y3⟩ := d9 r hr a l e
      exact ⟨(i1 _ _ (by omega)).trans y1, (i1 _ _ (by omega)).trans y2, y3.cong (fun k _ _ => i1 _ _ (by omega))⟩
  refine y_takeSign hX3 59 (by omega) (fun hs t3 x4 hX4 F4 => b1 ?_) (fun hs x4 q4 F4 => b4 (hno _ _ x4 (fun K F z => Or.inl ⟨hw1, t1, ht1, Or.inl ⟨hu1, t2, hX1.2.1, Or.inr ⟨hs, z⟩⟩⟩) q4 (C3.tr (y_4C F4.1))))
  have G4 := (y_n4 F4).1
  have k1 := ht1.1
  have k2 := (ht1.dg hB hu1.1).1
  have k3 := hX1.2.1.1
  have k4 := (hs.lt hX1.2.1).1
  exact hok t1 t2 t3 x4 (fun K F z => Or.inl ⟨hw1, t1, ht1, Or.inl ⟨hu1, t2, hX1.2.1, Or.inl ⟨hs, t3, hX4.2.1, z⟩⟩⟩) hX4 (by omega) hV' (D3.c hV' G4) (C3.tr (y_4C G4)) ((G4.i _ _ (p4_f (by omega))).trans ((i1 _ _ (by omega)).trans (F1.i _ _ (p4_f (by omega)))))
/-- what a statement asks, behind the villages -/
def sSta (tp : Nat → Nat) (tn : Nat) (D : yD) (t : yTok) (K : yD → Nat → yTok → Prop) (F : Nat → Nat → Prop) : Prop := (yWo t 17 ∧ sPer tp tn D t (fun t1 h t5 t7 t9 t10 t11 => K (yPer tp D t1 h t5 t7 t9) t10.2.1 t11) F) ∨ (∃ r, r < 5 ∧ yWo t (11 + r) ∧ sRul tp tn D t r (fun l t' t'' => K (yRul D r l) t'.2.1 t'') F) ∨ ((¬ yWo t 17 ∧ ∀ r, r < 5 → ¬ yWo t (11 + r)) ∧ sSno tp tn t (fun t1 t2 t3 => K (ySno tp D t1) t2.2.1 t3) F)
set_option maxHeartbeats 4000000 in
theorem m_Sta {tp : Nat → Nat} {tn b : Nat} {so : Bool} {t : yTok} {D : yD} {st : Nat} {m : fz_s} {K : yD → Nat → yTok → Prop} {F : Nat → Nat → Prop} (h : sSta tp tn D t K F) (hP : yPM tp tn b so t t.1 m) (hV : yDV D) (hD : yDM D m) (hnv : D.nv = 2) (hcz : D.cz ≤ b) (h51 : m.1 196 51 = nI st) (hst : st < 80) {Q : fz_s → Prop} (hT : ∀ D' b' t' m', K D' b' t' → yPM tp tn b' false t' b' m' → yDM D' m' → m'.1 196 51 = nI (st + 1) → Fr pD m m' → Q m') (hN : ∀ kd pl m', F kd pl → yFM kd pl m' → Fr pD m m' → Q m') : wp_X12_statementTold m Q := by
  have hn0 := hP.1.1
  have hB := hP.1.2.1
  have hq0 := hP.2.1.2.1
  have hq1 := hP.2.1.1
  unfold wp_X12_statementTold nd_X12_statementTold_159
  intro x1 e1
  rw [hP.2.2.2.1] at e1
  rw [e1, h51]
  refine nt (by simp (disch := omega) only [N_lit, N_add, N_mul, N_sub, N_addneg, N_neg1, N_addm, N_le, N_lt, N_eq, N_in, N_cl, N_ne, N_ne', N_ltm, N_mlt, N_lem] <;> omega) ?_
  -- one more is counted
  have up : ∀ (D' : yD) (b' : Nat) (t' : yTok) (m2 : fz_s), K D' b' t' → yPM tp tn b' false t' b' m2 → yDM D' m2 → Fr pDs m m2 → ∀ s3 : fz_s, s3 = si m2 196 51 ((m2.1 196 51) + 1) → Q s3 := by
    intro D' b' t' m2 k1 k2 k3 k5 s3 e3
    rw [k5.i _ _ (pDs_f (by omega)), h51, nI_1] at e3
    have i1 : ∀ a j, ¬ (a = 196 ∧ j = 51) → s3.1 a j = m2.1 a j := fun a j g => by rw [e3, g_si, if_neg g]
    refine hT D' b' t' s3 k1 (k2.k (i1 _ _ (by omega)) (fun a j _ _ => i1 _ _ (by omega)) (i1 _ _ (by omega)) (i1 _ _ (by omega)) (i1 _ _ (by omega)) (i1 _ _ (by omega))) (k3.fr (fun j _ => i1 _ _ (by omega)) (fun a j _ _ => i1 _ _ (by omega)) (fun j => by rw [e3]; rfl)) (by rw [e3, g_eq]) ((y_sD k5).tr (by rw [e3]; exact Fr.rf.si (pD_t (by omega))))
  have dn : ∀ (kd pl : Nat) (m2 : fz_s), F kd pl → yFM kd pl m2 → Fr pDs m m2 → ∀ s3 : fz_s, s3 = si m2 196 51 ((m2.1 196 51) + 1) → Q s3 := by
    intro kd pl m2 f q F2 s3 e3
    exact hN kd pl s3 f (q.k (by rw [e3, g_nj (by omega)]) (by rw [e3, g_nj (by omega)])) ((y_sD F2).tr (by rw [e3]; exact Fr.rf.si (pD_t (by omega))))
  have per : ∀ (m1 : fz_s), yWo t 17 → yAd tp tn t.2.1 true m1 → m1.1 196 5 = 0 → Fr pKt m m1 → wp_X12_personTold (nI t.1) m1 (fun s30 => wp_X12_asksSign 59 s30 (fun s2 => ∀ s3 : fz_s, s3 = si s2 196 51 ((s2.1 196 51) + 1) → Q s3)) := by
    intro m1 hw hA h5 F1
    have hs : sPer tp tn D t (fun t1 h t5 t7 t9 t10 t11 => K (yPer tp D t1 h t5 t7 t9) t10.2.1 t11) F := by
      rcases h with z | ⟨r, hr, z, _⟩ | z
      · exact z.2
      · exact absurd z (hw.ne (by omega))
      · exact absurd hw z.1.1
    exact m_Per hs hB hA h5 (by omega) hV (hD.k F1) hnv (fun t1 h t5 t7 t9 t10 t11 m' k1 k2 k3 k4 => up _ _ _ m' k1 k2 k3 ((y_KDs F1).tr k4)) (fun kd pl m' k1 k2 k3 => dn kd pl m' k1 k2 ((y_KDs F1).tr k3))
  have rul : ∀ (r : Nat) (m1 : fz_s), r < 5 → yWo t (11 + r) → yAd tp tn t.2.1 true m1 → m1.1 196 5 = 0 → Fr pKt m m1 → wp_X12_codesTold (nI r) (nI t.1) m1 (fun s30 => wp_X12_asksSign 59 s30 (fun s2 => ∀ s3 : fz_s, s3 = si s2 196 51 ((s2.1 196 51) + 1) → Q s3)) := by
    intro r m1 hr hw hA h5 F1
    have he := hw.lt hP.2.1 hB
    have hs : sRul tp tn D t r (fun l t' t'' => K (yRul D r l) t'.2.1 t'') F := by
      rcases h with z | ⟨r', hr', z, z2⟩ | z
      · exact absurd z.1 (hw.ne (by omega))
      · have : r' = r := by
          have a1 := z.2
          have a2 := hw.2
          omega
        subst this
        exact z2
      · exact absurd hw (z.1.2 r hr)
    exact m_Rul hs hr hA h5 (by omega) hV (hD.k F1) (by omega) (fun l t' t'' m' k1 k2 k3 k4 => up _ _ _ m' k1 k2 k3 ((y_KDs F1).tr k4)) (fun kd pl m' k1 k2 k3 => dn kd pl m' k1 k2 ((y_KDs F1).tr k3))
  refine y_takes5 hP 17 (by decide +kernel) (fun hw m1 hA h5 F1 => b2 (per m1 hw hA h5 F1)) (fun n17 m1 P1 F1 => b3 ?_)
  refine y_takes5 P1 11 (by decide +kernel) (fun hw m2 hA h5 F2 => b2 (rul 0 m2 (by omega) hw hA h5 (F1.tr F2))) (fun n11 m2 P2 F2 => b3 ?_)
  have F12 := F1.tr F2
  refine y_takes5 P2 12 (by decide +kernel) (fun hw m3 hA h5 F3 => b2 (rul 1 m3 (by omega) hw hA h5 (F12.tr F3))) (fun n12 m3 P3 F3 => b3 ?_)
  have F13 := F12.tr F3
  refine y_takes5 P3 13 (by decide +kernel) (fun hw m4 hA h5 F4 => b2 (rul 2 m4 (by omega) hw hA h5 (F13.tr F4))) (fun n13 m4 P4 F4 => b3 ?_)
  have F14 := F13.tr F4
  refine y_takes5 P4 14 (by decide +kernel) (fun hw m5 hA h5 F5 => b2 (rul 3 m5 (by omega) hw hA h5 (F14.tr F5))) (fun n14 m5 P5 F5 => b3 ?_)
  have F15 := F14.tr F5
  refine y_takes5 P5 15 (by decide +kernel) (fun hw m6 hA h5 F6 => b2 (rul 4 m6 (by omega) hw hA h5 (F15.tr F6))) (fun n15 m6 P6 F6 => b3 ?_)
  have F16 := F15.tr F6
  have hs : sSno tp tn t (fun t1 t2 t3 => K (ySno tp D t1) t2.2.1 t3) F := by
    rcases h with z | ⟨r, hr, z, _⟩ | z
    · exact absurd z.1 n17
    · exfalso
      rcases (show r = 0 ∨ r = 1 ∨ r = 2 ∨ r = 3 ∨ r = 4 by omega) with rfl | rfl | rfl | rfl | rfl
      · exact n11 z
      · exact n12 z
      · exact n13 z
      · exact n14 z
      · exact n15 z
    · exact z.2
  exact m_Sno hs P6 (hD.k F16) (fun t1 t2 t3 m' k1 k2 k3 k4 => up _ _ _ m' k1 k2 k3 ((y_KDs F16).tr k4)) (fun kd pl m' k1 k2 k3 => dn kd pl m' k1 k2 ((y_KDs F16).tr k3))
def yword (t : yTok) : Int := if t.2.2.1 = 1 then t.2.2.2 else -1
theorem y_word_iff {t : yTok} {i : Nat} : yword t = (i : Int) ↔ yWo t i := by
  unfold yword yWo
  by_cases c : t.2.2.1 = 1
  · rw [if_pos c]
    exact ⟨fun z => ⟨c, z⟩, fun z => z.2⟩
  · rw [if_neg c]
    constructor
    · intro z; omega
    · intro z; exact absurd z.1 c
theorem y_word_r {tp : Nat → Nat} {tn b : Nat} {so : Bool} {t : yTok} (h : yTS tp tn b so t) : -1 ≤ yword t ∧ yword t < 32 := by
  unfold yword
  by_cases c : t.2.2.1 = 1
  · rw [if_pos c]
    exact (h.wn c).lo
  · rw [if_neg c]
    omega
theorem c_staW {tp : Nat → Nat} {tn b : Nat} {so : Bool} {t : yTok} {x : fz_s} (hX : yPX tp tn b so t x) {Q : Bool → fz_s → Prop} (hq : nd_X9_readStatement_17_16 Q (iI (yword t)) x) : wp_X9_readStatement_17 x Q := by
  obtain ⟨a1, a2, a3, a4, a5, a6, a7, a8⟩ := id hX
  have hk4 : t.2.2.1 ≤ 4 := by
    rcases a2.2.2.2.2 with z | z | z | z | z <;> omega
  unfold wp_X9_readStatement_17
  rw [a4]
  unfold yword at hq
  by_cases c : t.2.2.1 = 1
  · rw [if_pos c, ← a6 c] at hq
    exact nf (by simp (disch := omega) only [N_lit, N_add, N_mul, N_sub, N_addneg, N_neg1, N_addm, N_le, N_lt, N_eq, N_in, N_cl, N_ne, N_ne', N_ltm, N_mlt, N_lem] <;> omega) hq
  · rw [if_neg c] at hq
    exact nt (by simp (disch := omega) only [N_lit, N_add, N_mul, N_sub, N_addneg, N_neg1, N_addm, N_le, N_lt, N_eq, N_in, N_cl, N_ne, N_ne', N_ltm, N_mlt, N_lem] <;> omega) hq
/-- the first two statements -/
theorem c_Sta0 {tp : Nat → Nat} {tn b : Nat} {so : Bool} {t : yTok} {D : yD} {x : fz_s} (hX : yPX tp tn b so t x) (hV : yDV D) (hD : yDX D x) (hnv : D.nv < 2) {Qf Qt : fz_s → Prop}
    (hok : ∀ t1 t3 t5 t6 t7 x', (∀ (K : yTok → yTok → yTok → yTok → yTok → Prop) (F : Nat → Nat → Prop), K t1 t3 t5 t6 t7 → sVil tp tn D t K F) → yPX tp tn t6.2.1 false t7 x' → t.2.1 < t6.2.1 → yDV (yVil tp D t1 t3 t5) → yDX (yVil tp D t1 t3 t5) x' → Fr pC x x' → x'.1 17 13 = x.1 17 13 → Qt x')
    (hno : ∀ kd pl x', (∀ (K : yTok → yTok → yTok → yTok → yTok → Prop) (F : Nat → Nat → Prop), F kd pl → sVil tp tn D t K F) → yFX kd pl x' → Fr pC x x' → Qf x') :
    wp_X9_readStatement_17 x (yB Qf Qt) := by
  have hr := y_word_r hX.2.1
  refine c_staW hX ?_
  have e16 : (iI (yword t) = 16) ↔ yword t = 16 := i_eq (b := 16) ⟨⟨by omega, by omega⟩, by omega, by omega⟩
  unfold nd_X9_readStatement_17_16
  by_cases c : yword t = 16
  · have hw : yWo t 16 := y_word_iff.mp c
    refine nf (e16.mpr c) ?_
    unfold nd_X9_readStatement_17_28
    rw [hD.1]
    refine bf (by simp (disch := omega) only [N_lit, N_add, N_mul, N_sub, N_addneg, N_neg1, N_addm, N_le, N_lt, N_eq, N_in, N_cl, N_ne, N_ne', N_ltm, N_mlt, N_lem] <;> omega) ?_
    unfold nd_X9_readStatement_17_41
    exact bt rfl (nf (e16.mpr c) (c_Vil hX hV hD hnv hw hok hno))
  · have hw : ¬ yWo t 16 := fun z => c (y_word_iff.mpr z)
    refine nt (fun z => c (e16.mp z)) ?_
    unfold nd_X9_readStatement_17_28
    rw [hD.1]
    refine bf (by simp (disch := omega) only [N_lit, N_add, N_mul, N_sub, N_addneg, N_neg1, N_addm, N_le, N_lt, N_eq, N_in, N_cl, N_ne, N_ne', N_ltm, N_mlt, N_lem] <;> omega) ?_
    unfold nd_X9_readStatement_17_41
    exact bf (by decide +kernel) (y_failHere hX (fun x1 q1 F1 => b3 (hno _ _ x1 (fun K F z => Or.inr ⟨hw, z⟩) q1 (y_4C F1.1))))
/-! the others -/
set_option maxHeartbeats 4000000 in
theorem c_Sta {tp : Nat → Nat} {tn b : Nat} {so : Bool} {t : yTok} {D : yD} {x : fz_s} (hX : yPX tp tn b so t x) (hV : yDV D) (hD : yDX D x) (hnv : D.nv = 2) (hcz : D.cz ≤ b) {Qf Qt : fz_s → Prop}
    (hok : ∀ D' b' t' x', (∀ (K : yD → Nat → yTok → Prop) (F : Nat → Nat → Prop), K D' b' t' → sSta tp tn D t K F) → yPX tp tn b' false t' x' → b < b' → yDV D' → D'.nv = 2 → D'.cz ≤ b' → yDX D' x' → Fr pC x x' → x'.1 17 13 = x.1 17 13 → Qt x')
    (hno : ∀ kd pl x', (∀ (K : yD → Nat → yTok → Prop) (F : Nat → Nat → Prop), F kd pl → sSta tp tn D t K F) → yFX kd pl x' → Fr pC x x' → Qf x') :
    wp_X9_readStatement_17 x (yB Qf Qt) := by
  have hB := hX.1.2.1
  have hr := y_word_r hX.2.1
  have hq1 := hX.2.1.1
  refine c_staW hX ?_
  have e16 : (iI (yword t) = 16) ↔ yword t = 16 := i_eq (b := 16) ⟨⟨by omega, by omega⟩, by omega, by omega⟩
  have e17 : (iI (yword t) = 17) ↔ yword t = 17 := i_eq (b := 17) ⟨⟨by omega, by omega⟩, by omega, by omega⟩
  have e19 : (iI (yword t) = 19) ↔ yword t = 19 := i_eq (b := 19) ⟨⟨by omega, by omega⟩, by omega, by omega⟩
  have e11 : (iI (yword t) < 11) ↔ yword t < 11 := i_lt (b := 11) ⟨⟨by omega, by omega⟩, by omega, by omega⟩
  have e15 : (iI (yword t) ≤ 15) ↔ yword t ≤ 15 := i_le (b := 15) ⟨⟨by omega, by omega⟩, by omega, by omega⟩
  have sno : (¬ yWo t 17 ∧ ∀ r, r < 5 → ¬ yWo t (11 + r)) → ¬ yWo t 19 → wp_X8_failHere x (fun r1 s2 => yB Qf Qt r1 s2) := fun h1 h2 => y_failHere hX (fun x1 q1 F1 => b3 (hno _ _ x1 (fun K F z => Or.inr (Or.inr ⟨h1, Or.inr ⟨h2, z⟩⟩)) q1 (y_4C F1.1)))
  have nw : ∀ i : Nat, yword t ≠ (i : Int) → ¬ yWo t i := fun i h z => h (y_word_iff.mpr z)
  unfold nd_X9_readStatement_17_16
  by_cases c16 : yword t = 16
  · refine nf (e16.mpr c16) ?_
    unfold nd_X9_readStatement_17_28
    rw [hD.1, hnv]
    refine bt (by simp (disch := omega) only [N_lit, N_add, N_mul, N_sub, N_addneg, N_neg1, N_addm, N_le, N_lt, N_eq, N_in, N_cl, N_ne, N_ne', N_ltm, N_mlt, N_lem] <;> omega) ?_
    unfold nd_X9_readStatement_17_41
    exact bf (by decide +kernel) (sno ⟨nw 17 (by omega), fun r hr => nw _ (by omega)⟩ (nw 19 (by omega)))
  refine nt (fun z => c16 (e16.mp z)) ?_
  unfold nd_X9_readStatement_17_28
  rw [hD.1, hnv]
  refine bt (by simp (disch := omega) only [N_lit, N_add, N_mul, N_sub, N_addneg, N_neg1, N_addm, N_le, N_lt, N_eq, N_in, N_cl, N_ne, N_ne', N_ltm, N_mlt, N_lem] <;> omega) ?_
  unfold nd_X9_readStatement_17_41
  refine bt rfl (nt (fun z => c16 (e16.mp z)) ?_)
  by_cases c17 : yword t = 17
  · have hw : yWo t 17 := y_word_iff.mp c17
    have he := hw.lt hX.2.1 hB
    refine nf (e17.mpr c17) ?_
    exact c_Per hX hV hD hnv hw (fun t1 h t5 t7 t9 t10 t11 x' g1 g2 g3 g4 g5 g6 g7 => hok _ _ _ x' (fun K F z => Or.inl ⟨hw, g1 _ _ z⟩) g2 (by omega) g4 hnv (by show D.cz ≤ _; omega) g5 g6 g7) (fun kd pl x' g1 g2 g3 => hno kd pl x' (fun K F z => Or.inl ⟨hw, g1 _ _ z⟩) g2 g3)
  refine nt (fun z => c17 (e17.mp z)) ?_
  by_cases c19 : yword t = 19
  · have hw : yWo t 19 := y_word_iff.mp c19
    have he := hw.lt hX.2.1 hB
    have nn : ¬ yWo t 17 ∧ ∀ r, r < 5 → ¬ yWo t (11 + r) := ⟨nw 17 (by omega), fun r hr => nw _ (by omega)⟩
    refine nf (e19.mpr c19) ?_
    exact c_Sno hX hV hD (fun t1 t2 t3 x' g1 g2 g3 g4 g5 g6 g7 => hok _ _ _ x' (fun K F z => Or.inr (Or.inr ⟨nn, g1 _ _ z⟩)) g2 (by omega) g4 hnv (by show D.cz ≤ _; omega) g5 g6 g7) (fun kd pl x' g1 g2 g3 => hno kd pl x' (fun K F z => Or.inr (Or.inr ⟨nn, g1 _ _ z⟩)) g2 g3)
  refine nt (fun z => c19 (e19.mp z)) ?_
  by_cases c11 : yword t < 11
  · exact bt (e11.mpr c11) (sno ⟨nw 17 (by omega), fun r hr => nw _ (by omega)⟩ (nw 19 (by omega)))
  refine bf (fun z => c11 (e11.mp z)) ?_
  by_cases c15 : yword t ≤ 15
  · refine bt (e15.mpr c15) (fun x1 e1 => ?_)
    obtain ⟨r, hr5, hrw⟩ : ∃ r : Nat, r < 5 ∧ yword t = ((11 + r : Nat) : Int) := ⟨(yword t - 11).toNat, by omega, by omega⟩
    have hw : yWo t (11 + r) := y_word_iff.mp hrw
    have he := hw.lt hX.2.1 hB
    have e2 : x1 = nI r := by
      rw [e1, hrw, ← i_nI]
      show nI (11 + r) - nI 11 = nI r
      rw [N_sub (by omega)]
      congr 1
      omega
    rw [e2]
    exact c_Rul hX hV hD hr5 hw hcz (fun l t' t'' x' g1 g2 g3 g4 g5 g6 g7 g8 => hok _ _ _ x' (fun K F z => Or.inr (Or.inl ⟨r, hr5, hw, g1 _ _ z⟩)) g2 (by omega) g4 hnv g8 g5 g6 g7) (fun kd pl x' g1 g2 g3 => hno kd pl x' (fun K F z => Or.inr (Or.inl ⟨r, hr5, hw, g1 _ _ z⟩)) g2 g3)
  · exact bf (fun z => c15 (e15.mp z)) (sno ⟨nw 17 (by omega), fun r hr => nw _ (by omega)⟩ (nw 19 (by omega)))

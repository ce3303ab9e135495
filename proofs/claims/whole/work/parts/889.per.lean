/-! PEOPLE -/
theorem y_takes5 {tp : Nat → Nat} {tn b : Nat} {so : Bool} {t : yTok} {a a0 n0 : Nat} {m : fz_s} (h : yPM tp tn b so t a m) (i : Nat) (hw : 199 ≤ a0 ∧ a0 ≤ 268 ∧ i < 32 ∧ n0 = (wds a0).length ∧ wds a0 = yWL.getD i []) {Q : Bool → fz_s → Prop} (hT : yWo t i → ∀ m', yAd tp tn t.2.1 true m' → m'.1 196 5 = 0 → Fr pKt m m' → Q true m') (hN : ¬ yWo t i → ∀ m', yPM tp tn b so t t.1 m' → Fr pKt m m' → Q false m') : wp_X12_takes a0 n0 m Q := by
  unfold wp_X12_takes
  refine y_isHere h i hw (fun hs m' h' hF => b1 (fun s3 e3 s4 e4 => ?_)) (fun hs m' h' hF => b4 (hN hs m' h' (y_AK hF)))
  obtain ⟨a1, a2, a3, a4, a5, a6, a7⟩ := id h'
  have hl := hs.len a2 hw.2.2.1
  have hl2 : t.1 + n0 = t.2.1 := by rw [hl, hw.2.2.2.1, hw.2.2.2.2]
  rw [a4, N_add, hl2] at e3
  have r3 : s3.1 196 2 = nI t.2.1 := by rw [e3, g_eq]
  rw [r3] at e4
  have F4 : Fr pKt m' s4 := by rw [e4, e3]; exact (Fr.rf.si (pKt_t (by omega))).si (pKt_t (by omega))
  have r5 : s4.1 196 5 = 0 := by rw [e4, g_nj (by omega), e3, g_nj (by omega)]; exact a6
  refine hT hs s4 (fun t' ht' => ⟨a1.k F4, ht', ⟨Nat.le_refl _, ht'.1⟩, ?_, Or.inl ⟨rfl, ?_⟩, r5, ?_⟩) r5 ((y_AK hF).tr F4)
  · rw [e4, g_nj (by omega)]; exact r3
  · rw [e4, g_eq]
  · rw [e4, g_nj (by omega), e3, g_nj (by omega)]; exact a7
def sPe1 (tp : Nat → Nat) (tn : Nat) (t4 : yTok) (K : yTok → yTok → yTok → yTok → yTok → Prop) (F : Nat → Nat → Prop) : Prop := sW tp tn t4 3 (fun t5 => sN tp tn t5 9 (fun t6 => sW tp tn t6 4 (fun t7 => sN tp tn t7 9 (fun t8 => sW tp tn t8 5 (fun t9 => sN tp tn t9 9 (fun t10 => sS tp tn t10 59 (fun t11 => K t5 t7 t9 t10 t11) F) F) F) F) F) F) F
def sPer (tp : Nat → Nat) (tn : Nat) (D : yD) (t : yTok) (K : yTok → Nat → yTok → yTok → yTok → yTok → yTok → Prop) (F : Nat → Nat → Prop) : Prop := (D.np = 8 ∧ F 5 t.1) ∨ (D.np < 8 ∧ ∃ t1, yTS tp tn t.2.1 true t1 ∧ sNw tp tn D t1 (fun t2 => sW tp tn t2 18 (fun t3 => sOf tp tn D t3 (fun h t4 => sPe1 tp tn t4 (K t1 h) F) F) F) F)
def yPer (tp : Nat → Nat) (D : yD) (t1 : yTok) (h : Nat) (t5 t7 t9 : yTok) : yD := ((D.nv, D.np + 1), (upf D.nm (2 + D.np) (yltr tp t1.1), upf D.nl (2 + D.np) (t1.2.1 - t1.1)), D.2.2.1, (upf D.ho D.np h, upf D.wi D.np (ynum tp t5), upf D.oa D.np (ynum tp t7), upf D.ch D.np (ynum tp t9)), D.2.2.2.2)
theorem y_lcmp' {tp : Nat → Nat} {tn b : Nat} {so : Bool} {t : yTok} {D : yD} {m : fz_s} (hT : yTS tp tn b so t) (hB : ∀ j, tp j < 256) (hV : yDV D) (hD : yDM D m) (hm : yNm t) {i : Nat} (hi : yNd D i) : (lg_cmp (lI (enc (yltr tp t.1) (t.2.1 - t.1))) (m.2.1 225 i) = 0) ↔ yMa tp D t i := by
  rw [← y_lcmp hT hB hV hD hm hi, lg_cmp_eq, lg_cmp_eq]
  exact eq_comm
theorem b_97 {m : fz_s} (hb : ¬ m.1 196 5 = 0) {v2 : Int64} {v6 : Bool} {Q : fz_s → Prop} (hq : Q m) : nd_X12_personTold_97 Q v2 v6 m := y_asksBad hb (y_numberBad hb (y_asksBad hb (y_numberBad hb (y_asksBad hb (y_numberBad hb (bf hb hq))))))
theorem b_66 {m : fz_s} (hb : ¬ m.1 196 5 = 0) {v2 v4 : Int64} {u : Bool} {Q : fz_s → Prop} (hq : Q m) : nd_X12_personTold_66 Q v2 v4 u m := nt hb (b_97 hb hq)
set_option maxHeartbeats 4000000 in
theorem m_Pe1 {tp : Nat → Nat} {tn b : Nat} {so : Bool} {t4 : yTok} {a : Nat} {D : yD} {m : fz_s} {K : yTok → yTok → yTok → yTok → yTok → Prop} {F : Nat → Nat → Prop} {t1 : yTok} {h : Nat} (hh : h < 2) (hs : sPe1 tp tn t4 K F) (hP : yPM tp tn b so t4 a m) (hV : yDV D) (hD : yDM D m) (hnp : D.np < 8) (hnv : D.nv = 2) {Q : fz_s → Prop} (hT : ∀ t5 t7 t9 t10 t11 m', K t5 t7 t9 t10 t11 → yPM tp tn t10.2.1 false t11 t10.2.1 m' → yDM (yPer tp D t1 h t5 t7 t9) m' → Fr pDs m m' → Q m') (hN : ∀ kd pl m', F kd pl → yFM kd pl m' → Fr pDs m m' → Q m') : nd_X12_personTold_97 (fun s => wp_X12_asksSign 59 s Q) (lI (enc (yltr tp t1.1) (t1.2.1 - t1.1))) (decide (h = 1)) m := by
  unfold nd_X12_personTold_97
  have endB : ∀ {A : Prop} (kd pl : Nat) (m' : fz_s), F kd pl → yFM kd pl m' → Fr pKt m m' → ((m'.1 196 5 = 0 → A) ∧ (¬ m'.1 196 5 = 0 → wp_X12_asksSign 59 m' Q)) := fun kd pl m' f q F' => bf q.bad (y_asksSignBad q.bad (hN kd pl m' f q (y_KDs F')))
  refine m_W hs hP (by decide +kernel) (fun t5 m1 h1 P1 F1 => ?_) (fun kd pl m1 f1 q1 F1 => y_numberBad q1.bad (y_asksBad q1.bad (y_numberBad q1.bad (y_asksBad q1.bad (y_numberBad q1.bad (endB _ _ _ f1 q1 F1))))))
  refine m_N (most := 9) h1 P1 (by omega) (fun t6 m2 h2 u2 P2 F2 => ?_) (fun kd pl v m2 f2 q2 F2 => y_asksBad q2.bad (y_numberBad q2.bad (y_asksBad q2.bad (y_numberBad q2.bad (endB _ _ _ f2 q2 (F1.tr F2))))))
  have F12 := F1.tr F2
  refine m_W h2 P2 (by decide +kernel) (fun t7 m3 h3 P3 F3 => ?_) (fun kd pl m3 f3 q3 F3 => y_numberBad q3.bad (y_asksBad q3.bad (y_numberBad q3.bad (endB _ _ _ f3 q3 (F12.tr F3)))))
  have F13 := F12.tr F3
  refine m_N (most := 9) h3 P3 (by omega) (fun t8 m4 h4 u4 P4 F4 => ?_) (fun kd pl v m4 f4 q4 F4 => y_asksBad q4.bad (y_numberBad q4.bad (endB _ _ _ f4 q4 (F13.tr F4))))
  have F14 := F13.tr F4
  refine m_W h4 P4 (by decide +kernel) (fun t9 m5 h5 P5 F5 => ?_) (fun kd pl m5 f5 q5 F5 => y_numberBad q5.bad (endB _ _ _ f5 q5 (F14.tr F5)))
  have F15 := F14.tr F5
  refine m_N (most := 9) h5 P5 (by omega) (fun t10 m6 h6 u6 P6 F6 => ?_) (fun kd pl v m6 f6 q6 F6 => endB _ _ _ f6 q6 (F15.tr F6))
  have F16 := F15.tr F6
  have D6 := hD.k F16
  refine bt P6.2.2.2.2.2.1 (fun x13 e13 => ?_)
  rw [D6.2.1] at e13
  have z0 : (2 : Int32) + nI D.np = nI (2 + D.np) := N_add 2 _
  have z1 : (3 : Int32) * nI D.np = nI (3 * D.np) := N_mul 3 _
  have z2 : nI (3 * D.np) + 1 = nI (3 * D.np + 1) := N_add _ 1
  have z3 : nI (3 * D.np) + 2 = nI (3 * D.np + 2) := N_add _ 2
  rw [e13, z0, z1, z2, z3]
  refine ⟨N_in ⟨by omega, by omega⟩, fun s14 e14 => ⟨N_in ⟨by omega, by omega⟩, fun s15 e15 => ⟨N_in ⟨by omega, by omega⟩, fun s16 e16 => ⟨N_in ⟨by omega, by omega⟩, fun s17 e17 => ⟨N_in ⟨by omega, by omega⟩, fun s18 e18 s19 e19 => ?_⟩⟩⟩⟩⟩
  rw [N_cl (by omega)] at e14 e15 e16 e17 e18
  have ehb : bi (decide (h = 1)) = nI h := by
    rcases (show h = 0 ∨ h = 1 by omega) with z | z
    · rw [z]; exact bi_f
    · rw [z]; exact bi_t
  rw [ehb] at e15
  have r18 : s18.1 196 39 = nI D.np := by rw [e18, g_ne (by omega), e17, g_ne (by omega), e16, g_ne (by omega), e15, g_ne (by omega), e14]; exact D6.2.1
  rw [r18, nI_1] at e19
  have FD : Fr pDs m6 s19 := by
    rw [e19, e18, e17, e16, e15, e14]
    exact (((((Fr.rf.sl (pDs_t (by omega))).si (pDs_t (by omega))).si (pDs_t (by omega))).si (pDs_t (by omega))).si (pDs_t (by omega))).si (pDs_t (by omega))
  obtain ⟨d1, d2, d3, d4, d5, d6, d7, d8, d9⟩ := D6
  have i1 : ∀ a' j, a' ≠ 227 → a' ≠ 228 → (a' = 196 → j ≠ 39) → s19.1 a' j = m6.1 a' j := fun a' j g1 g2 g3 => by
    rw [e19, g_si, if_neg (fun z => g3 z.1 z.2), e18, g_ne g2, e17, g_ne g1, e16, g_ne g1, e15, g_ne g1, e14]
    rfl
  have i2 : ∀ j, s19.1 228 j = if j = D.np then nI (ynum tp t5) else m6.1 228 j := fun j => by
    rw [e19, g_ne (by omega), e18, g_si]
    by_cases c : j = D.np
    · rw [if_pos ⟨rfl, c⟩, if_pos c]
      rfl
    · rw [if_neg (fun z => c z.2), if_neg c, e17, g_ne (by omega), e16, g_ne (by omega), e15, g_ne (by omega), e14]
      rfl
  have i4 : ∀ j, s19.1 227 j = if j = 3 * D.np + 2 then nI (ynum tp t9) else if j = 3 * D.np + 1 then nI (ynum tp t7) else if j = 3 * D.np then nI h else m6.1 227 j := fun j => by
    rw [e19, g_ne (by omega), e18, g_ne (by omega), e17, g_si]
    by_cases c : j = 3 * D.np + 2
    · rw [if_pos ⟨rfl, c⟩, if_pos c]
      rfl
    · rw [if_neg (fun z => c z.2), if_neg c, e16, g_si]
      by_cases c2 : j = 3 * D.np + 1
      · rw [if_pos ⟨rfl, c2⟩, if_pos c2]
        rfl
      · rw [if_neg (fun z => c2 z.2), if_neg c2, e15, g_si]
        by_cases c3 : j = 3 * D.np
        · rw [if_pos ⟨rfl, c3⟩, if_pos c3]
        · rw [if_neg (fun z => c3 z.2), if_neg c3, e14]
          rfl
  have i3 : ∀ j, s19.2.1 225 j = if j = 2 + D.np then lI (enc (yltr tp t1.1) (t1.2.1 - t1.1)) else m6.2.1 225 j := fun j => by
    have : s19.2.1 = s14.2.1 := by rw [e19, e18, e17, e16, e15]; rfl
    rw [this, e14, g_sl]
    by_cases c : j = 2 + D.np
    · rw [if_pos ⟨rfl, c⟩, if_pos c]
    · rw [if_neg (fun z => c z.2), if_neg c]
  have P19 : yPM tp tn t9.2.1 true t10 t9.2.1 s19 := P6.k (i1 _ _ (by omega) (by omega) (by omega)) (fun a' j g1 g2 => i1 _ _ (by omega) (by omega) (by omega)) (i1 _ _ (by omega) (by omega) (by omega)) (i1 _ _ (by omega) (by omega) (by omega)) (i1 _ _ (by omega) (by omega) (by omega)) (i1 _ _ (by omega) (by omega) (by omega))
  have hD19 : yDM (yPer tp D t1 h t5 t7 t9) s19 := by
    refine ⟨?_, ?_, ?_, ?_, fun i hi => ?_, fun v hv => ?_, fun p hp => ?_, fun r hr e => ?_, fun r hr a' l e => ?_⟩
    · rw [i1 _ _ (by omega) (by omega) (by omega)]; exact d1
    · rw [e19, g_eq]; rfl
    · rw [i1 _ _ (by omega) (by omega) (by omega)]; exact d3
    · rw [i1 _ _ (by omega) (by omega) (by omega)]; exact d4
    · rw [i3]
      show _ = lI (enc (upf D.nm (2 + D.np) (yltr tp t1.1) i) (upf D.nl (2 + D.np) (t1.2.1 - t1.1) i))
      by_cases c : i = 2 + D.np
      · rw [if_pos c, c, upf_eq, upf_eq]
      · rw [if_neg c, upf_ne c, upf_ne c]
        refine d5 i ?_
        rcases hi with z | z
        · exact Or.inl z
        · have z' : 2 ≤ i ∧ i < 2 + (D.np + 1) := z
          exact Or.inr (by omega)
    · exact ⟨(i1 _ _ (by omega) (by omega) (by omega)).trans (d6 v hv).1, (i1 _ _ (by omega) (by omega) (by omega)).trans (d6 v hv).2⟩
    · have hp' : p < D.np + 1 := hp
      rw [i4, i2, i4, i4]
      show _ = nI (upf D.ho D.np h p) ∧ _ = nI (upf D.wi D.np (ynum tp t5) p) ∧ _ = nI (upf D.oa D.np (ynum tp t7) p) ∧ _ = nI (upf D.ch D.np (ynum tp t9) p)
      by_cases c : p = D.np
      · subst c
        rw [if_neg (by omega), if_neg (by omega), if_pos rfl, if_pos rfl, if_neg (by omega), if_pos rfl, if_pos rfl, upf_eq, upf_eq, upf_eq, upf_eq]
        exact ⟨rfl, rfl, rfl, rfl⟩
      · rw [if_neg (by omega), if_neg (by omega), if_neg (by omega), if_neg c, if_neg (by omega), if_neg (by omega), if_neg (by omega), if_neg (by omega), if_neg (by omega), if_neg (by omega), upf_ne c, upf_ne c, upf_ne c, upf_ne c]
        exact d7 p (by omega)
    · exact (i1 _ _ (by omega) (by omega) (by omega)).trans (d8 r hr e)
    · obtain ⟨y1, y2, y3⟩ := d9 r hr a' l e
      exact ⟨(i1 _ _ (by omega) (by omega) (by omega)).trans y1, (i1 _ _ (by omega) (by omega) (by omega)).trans y2, y3.cong (fun k _ _ => i1 _ _ (by omega) (by omega) (by omega))⟩
  refine m_S h6 P19 (y_sg 59 (by omega)) (fun t11 m7 h7 P7 F7 => ?_) (fun kd pl m7 f7 q7 F7 => hN kd pl m7 f7 q7 (((y_KDs F16).tr FD).tr (y_KDs F7)))
  exact hT t5 t7 t9 t10 t11 m7 h7 P7 (hD19.k F7) (((y_KDs F16).tr FD).tr (y_KDs F7))
set_option maxHeartbeats 4000000 in
theorem m_Per {tp : Nat → Nat} {tn : Nat} {t : yTok} {D : yD} {m : fz_s} {K : yTok → Nat → yTok → yTok → yTok → yTok → yTok → Prop} {F : Nat → Nat → Prop} (h : sPer tp tn D t K F) (hB : ∀ j, tp j < 256) (hA : yAd tp tn t.2.1 true m) (h5 : m.1 196 5 = 0) (ht : t.1 < 2000) (hV : yDV D) (hD : yDM D m) (hnv : D.nv = 2) {Q : fz_s → Prop} (hT : ∀ t1 h t5 t7 t9 t10 t11 m', K t1 h t5 t7 t9 t10 t11 → yPM tp tn t10.2.1 false t11 t10.2.1 m' → yDM (yPer tp D t1 h t5 t7 t9) m' → Fr pDs m m' → Q m') (hN : ∀ kd pl m', F kd pl → yFM kd pl m' → Fr pDs m m' → Q m') : wp_X12_personTold (nI t.1) m (fun s => wp_X12_asksSign 59 s Q) := by
  have hnp := hV.2.1
  have fin : ∀ kd pl m', F kd pl → yFM kd pl m' → Fr pKt m m' → wp_X12_asksSign 59 m' Q := fun kd pl m' f q F' => y_asksSignBad q.bad (hN kd pl m' f q (y_KDs F'))
  unfold wp_X12_personTold
  refine nf h5 ?_
  rw [hD.2.1]
  rcases h with ⟨c8, f8⟩ | ⟨c8, t1, ht1, h1⟩
  · refine nf (by rw [c8]; rfl) ?_
    exact y_mfail h5 (kd := 5) ⟨by omega, by omega⟩ ht (fun m1 q1 F1 => bf q1.bad (fin _ _ m1 f8 q1 F1))
  refine nt (by simp (disch := omega) only [N_lit, N_add, N_mul, N_sub, N_addneg, N_neg1, N_addm, N_le, N_lt, N_eq, N_in, N_cl, N_ne, N_ne', N_ltm, N_mlt, N_lem] <;> omega) ?_
  have P0 := hA t1 ht1
  unfold nd_X12_personTold_22
  refine bt h5 ?_
  have bad3 : ∀ kd pl (v : Int64) m', F kd pl → yFM kd pl m' → Fr pKt m m' → wp_X12_asks 203 2 m' (fun s4 => wp_X12_name s4 (fun r5 s6 => ((¬ (lg_cmp r5 (s6.2.1 225 (0 : Int32).toNatClampNeg)) = 0 → nd_X12_personTold_66 (fun s => wp_X12_asksSign 59 s Q) v r5 true s6) ∧ ((lg_cmp r5 (s6.2.1 225 (0 : Int32).toNatClampNeg)) = 0 → nd_X12_personTold_66 (fun s => wp_X12_asksSign 59 s Q) v r5 false s6)))) := by
    intro kd pl v m' f q F'
    refine y_asksBad q.bad (y_nameBad q.bad ⟨fun _ => b_66 q.bad (fin _ _ m' f q F'), fun _ => b_66 q.bad (fin _ _ m' f q F')⟩)
  refine m_Nw h1 P0 hV hD (fun t2 m2 h2 hm2 hu2 P2 F2 => ?_) (fun kd pl v m2 f2 q2 F2 => bad3 kd pl v m2 f2 q2 F2)
  refine m_W h2 P2 (by decide +kernel) (fun t3 m3 h3 P3 F3 => ?_) (fun kd pl m3 f3 q3 F3 => y_nameBad q3.bad ⟨fun _ => b_66 q3.bad (fin _ _ m3 f3 q3 (F2.tr F3)), fun _ => b_66 q3.bad (fin _ _ m3 f3 q3 (F2.tr F3))⟩)
  have F23 := F2.tr F3
  have z0 : (0 : Int32).toNatClampNeg = 0 := rfl
  refine y_name P3 (fun hm m4 hA4 h37 hb4 F4 => ?_) (fun hm m4 q4 F4 => ?_)
  · have F24 := F23.tr F4
    have D4 := hD.k F24
    have n0 : yNd D 0 := Or.inl (by omega)
    have n1 : yNd D 1 := Or.inl (by omega)
    have c0 := y_lcmp' P3.2.1 hB hV D4 hm n0
    have c1 := y_lcmp' P3.2.1 hB hV D4 hm n1
    rw [z0]
    rcases h3 with ⟨g1, h', g2, g3, g4, t4, g5, g6⟩ | ⟨g1, g2⟩ | ⟨g1, g2, g3⟩
    · have P4 := hA4 t4 g5
      have go : nd_X12_personTold_97 (fun s => wp_X12_asksSign 59 s Q) (lI (enc (yltr tp t1.1) (t1.2.1 - t1.1))) (decide (h' = 1)) m4 := m_Pe1 g2 g6 P4 hV D4 c8 hnv (fun t5 t7 t9 t10 t11 m' k1 k2 k3 k4 => hT t1 h' t5 t7 t9 t10 t11 m' k1 k2 k3 ((y_KDs F24).tr k4)) (fun kd pl m' k1 k2 k3 => hN kd pl m' k1 k2 ((y_KDs F24).tr k3))
      rcases (show h' = 0 ∨ h' = 1 by omega) with z | z
      · subst z
        refine nf (c0.mpr g3) ?_
        unfold nd_X12_personTold_66
        refine nf hb4 ⟨by rw [bi_f]; exact N_in ⟨by omega, by omega⟩, ?_⟩
        rw [show (bi false).toNatClampNeg = 0 by rw [bi_f]; exact N_cl (by omega)]
        exact bt (c0.mpr g3) go
      · subst z
        refine nt (fun y => g4 0 (by omega) (c0.mp y)) ?_
        unfold nd_X12_personTold_66
        refine nf hb4 ⟨by rw [bi_t]; exact N_in ⟨by omega, by omega⟩, ?_⟩
        rw [show (bi true).toNatClampNeg = 1 by rw [bi_t]; exact N_cl (by omega)]
        exact bt (c1.mpr g3) go
    · exact absurd hm g1
    · refine nt (fun y => g2 0 (by omega) (c0.mp y)) ?_
      unfold nd_X12_personTold_66
      refine nf hb4 ⟨by rw [bi_t]; exact N_in ⟨by omega, by omega⟩, ?_⟩
      rw [show (bi true).toNatClampNeg = 1 by rw [bi_t]; exact N_cl (by omega)]
      refine bf (fun y => g2 1 (by omega) (c1.mp y)) ?_
      rw [h37]
      have hn0 := P3.1.1
      have hq3 := P3.2.1.2.1
      exact y_mfail hb4 (kd := 3) ⟨by omega, by omega⟩ (by omega) (fun m5 q5 F5 => b_97 q5.bad (fin _ _ m5 g3 q5 (F24.tr F5)))
  · have hf : F 1 (yNq t3) := by
      rcases h3 with ⟨g1, _⟩ | ⟨g1, g2⟩ | ⟨g1, _⟩
      · exact absurd g1 hm
      · exact g2
      · exact absurd g1 hm
    exact ⟨fun _ => b_66 q4.bad (fin _ _ m4 hf q4 (F23.tr F4)), fun _ => b_66 q4.bad (fin _ _ m4 hf q4 (F23.tr F4))⟩

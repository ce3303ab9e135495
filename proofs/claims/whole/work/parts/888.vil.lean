/-! VILLAGES -/
def sVil (tp : Nat → Nat) (tn : Nat) (D : yD) (t : yTok) (K : yTok → yTok → yTok → yTok → yTok → Prop) (F : Nat → Nat → Prop) : Prop := sW tp tn t 16 (fun t1 => sNw tp tn D t1 (fun t2 => sW tp tn t2 0 (fun t3 => sN tp tn t3 999 (fun t4 => sW tp tn t4 1 (fun t5 => sN tp tn t5 99 (fun t6 => sS tp tn t6 59 (fun t7 => K t1 t3 t5 t6 t7) F) F) F) F) F) F) F
def ynum (tp : Nat → Nat) (t : yTok) : Nat := yval tp t.1 (t.2.1 - t.1)
def yVil (tp : Nat → Nat) (D : yD) (t1 t3 t5 : yTok) : yD := ((D.nv + 1, D.np), (upf D.nm D.nv (yltr tp t1.1), upf D.nl D.nv (t1.2.1 - t1.1)), (upf D.hv D.nv (ynum tp t3), upf D.qv D.nv (ynum tp t5)), D.2.2.2)
theorem yFM.k {kd pl : Nat} {m m' : fz_s} (h : yFM kd pl m) (h5 : m'.1 196 5 = m.1 196 5) (h6 : m'.1 196 6 = m.1 196 6) : yFM kd pl m' := ⟨h.1, h.2.1, h5.trans h.2.2.1, h6.trans h.2.2.2⟩
set_option maxHeartbeats 4000000 in
theorem m_Vil {tp : Nat → Nat} {tn b : Nat} {so : Bool} {t : yTok} {a : Nat} {D : yD} {m : fz_s} {K : yTok → yTok → yTok → yTok → yTok → Prop} {F : Nat → Nat → Prop} (h : sVil tp tn D t K F) (hP : yPM tp tn b so t a m) (hV : yDV D) (hD : yDM D m) (hnv : D.nv < 2) {Q : fz_s → Prop} (hT : ∀ t1 t3 t5 t6 t7 m', K t1 t3 t5 t6 t7 → yPM tp tn t6.2.1 false t7 t6.2.1 m' → yDM (yVil tp D t1 t3 t5) m' → Fr pD m m' → Q m') (hN : ∀ kd pl m', F kd pl → yFM kd pl m' → Fr pKt m m' → Q m') : wp_X12_villageTold m Q := by
  unfold wp_X12_villageTold
  have endB : ∀ {A : Prop} (kd pl : Nat) (m' : fz_s), F kd pl → yFM kd pl m' → Fr pKt m m' → ((m'.1 196 5 = 0 → A) ∧ (¬ m'.1 196 5 = 0 → Q m')) := fun kd pl m' f q F' => bf q.bad (hN kd pl m' f q F')
  refine m_W h hP (by decide +kernel) (fun t1 m1 h1 P1 F1 => ?_) (fun kd pl m1 f1 q1 F1 => y_newNameBad hV (hD.k F1) q1.bad (y_asksBad q1.bad (y_numberBad q1.bad (y_asksBad q1.bad (y_numberBad q1.bad (y_asksSignBad q1.bad (endB _ _ _ f1 q1 F1)))))))
  refine m_Nw h1 P1 hV (hD.k F1) (fun t2 m2 h2 hm2 hu2 P2 F2 => ?_) (fun kd pl v m2 f2 q2 F2 => y_asksBad q2.bad (y_numberBad q2.bad (y_asksBad q2.bad (y_numberBad q2.bad (y_asksSignBad q2.bad (endB _ _ _ f2 q2 (F1.tr F2)))))))
  have F12 := F1.tr F2
  refine m_W h2 P2 (by decide +kernel) (fun t3 m3 h3 P3 F3 => ?_) (fun kd pl m3 f3 q3 F3 => y_numberBad q3.bad (y_asksBad q3.bad (y_numberBad q3.bad (y_asksSignBad q3.bad (endB _ _ _ f3 q3 (F12.tr F3))))))
  have F13 := F12.tr F3
  refine m_N (most := 999) h3 P3 (by omega) (fun t4 m4 h4 u4 P4 F4 => ?_) (fun kd pl v m4 f4 q4 F4 => y_asksBad q4.bad (y_numberBad q4.bad (y_asksSignBad q4.bad (endB _ _ _ f4 q4 (F13.tr F4)))))
  have F14 := F13.tr F4
  refine m_W h4 P4 (by decide +kernel) (fun t5 m5 h5 P5 F5 => ?_) (fun kd pl m5 f5 q5 F5 => y_numberBad q5.bad (y_asksSignBad q5.bad (endB _ _ _ f5 q5 (F14.tr F5))))
  have F15 := F14.tr F5
  refine m_N (most := 99) h5 P5 (by omega) (fun t6 m6 h6 u6 P6 F6 => ?_) (fun kd pl v m6 f6 q6 F6 => y_asksSignBad q6.bad (endB _ _ _ f6 q6 (F15.tr F6)))
  have F16 := F15.tr F6
  refine m_S h6 P6 (y_sg 59 (by omega)) (fun t7 m7 h7 P7 F7 => ?_) (fun kd pl m7 f7 q7 F7 => endB _ _ _ f7 q7 (F16.tr F7))
  have F17 := F16.tr F7
  have D7 := hD.k F17
  refine bt P7.2.2.2.2.2.1 ?_
  rw [D7.1]
  refine ⟨N_in ⟨by omega, by omega⟩, fun s15 e15 => ?_⟩
  rw [N_cl (by omega)] at e15
  have r15 : s15.1 196 38 = nI D.nv := by rw [e15]; exact D7.1
  rw [r15, show (2 : Int32) * nI D.nv = nI (2 * D.nv) from N_mul 2 _]
  refine ⟨N_in ⟨by omega, by omega⟩, fun s16 e16 => ?_⟩
  rw [N_cl (by omega)] at e16
  have r16 : s16.1 196 38 = nI D.nv := by rw [e16, g_ne (by omega)]; exact r15
  rw [r16, show (2 : Int32) * nI D.nv = nI (2 * D.nv) from N_mul 2 _, nI_1]
  refine ⟨N_in ⟨by omega, by omega⟩, fun s17 e17 s18 e18 => ?_⟩
  rw [N_cl (by omega)] at e17
  have r17 : s17.1 196 38 = nI D.nv := by rw [e17, g_ne (by omega)]; exact r16
  rw [r17, nI_1] at e18
  have FD : Fr pD m7 s18 := by
    rw [e18, e17, e16, e15]
    exact (((Fr.rf.sl (pD_t (by omega))).si (pD_t (by omega))).si (pD_t (by omega))).si (pD_t (by omega))
  obtain ⟨d1, d2, d3, d4, d5, d6, d7, d8, d9⟩ := D7
  have i1 : ∀ a' j, a' ≠ 226 → (a' = 196 → j ≠ 38) → s18.1 a' j = m7.1 a' j := fun a' j g1 g2 => by
    rw [e18, g_si, if_neg (fun z => g2 z.1 z.2), e17, g_ne g1, e16, g_ne g1, e15]
    rfl
  have i2 : ∀ j, s18.1 226 j = if j = 2 * D.nv + 1 then nI (ynum tp t5) else if j = 2 * D.nv then nI (ynum tp t3) else m7.1 226 j := fun j => by
    rw [e18, g_ne (by omega), e17, g_si]
    by_cases c : j = 2 * D.nv + 1
    · rw [if_pos ⟨rfl, c⟩, if_pos c]
      rfl
    · rw [if_neg (fun z => c z.2), if_neg c, e16, g_si]
      by_cases c2 : j = 2 * D.nv
      · rw [if_pos ⟨rfl, c2⟩, if_pos c2]
        rfl
      · rw [if_neg (fun z => c2 z.2), if_neg c2, e15]
        rfl
  have i3 : ∀ j, s18.2.1 225 j = if j = D.nv then lI (enc (yltr tp t1.1) (t1.2.1 - t1.1)) else m7.2.1 225 j := fun j => by
    have : s18.2.1 = s15.2.1 := by rw [e18, e17, e16]; rfl
    rw [this, e15, g_sl]
    by_cases c : j = D.nv
    · rw [if_pos ⟨rfl, c⟩, if_pos c]
    · rw [if_neg (fun z => c z.2), if_neg c]
  refine hT t1 t3 t5 t6 t7 s18 h7 ?_ ⟨?_, ?_, ?_, ?_, fun i hi => ?_, fun v hv => ?_, fun p hp => ?_, fun r hr e => ?_, fun r hr a' l e => ?_⟩ ((y_KD F17).tr FD)
  · exact P7.k (i1 _ _ (by omega) (by omega)) (fun a' j g1 g2 => i1 _ _ (by omega) (by omega)) (i1 _ _ (by omega) (by omega)) (i1 _ _ (by omega) (by omega)) (i1 _ _ (by omega) (by omega)) (i1 _ _ (by omega) (by omega))
  · rw [e18, g_eq]; rfl
  · rw [i1 _ _ (by omega) (by omega)]; exact d2
  · rw [i1 _ _ (by omega) (by omega)]; exact d3
  · rw [i1 _ _ (by omega) (by omega)]; exact d4
  · rw [i3]
    show _ = lI (enc (upf D.nm D.nv (yltr tp t1.1) i) (upf D.nl D.nv (t1.2.1 - t1.1) i))
    by_cases c : i = D.nv
    · rw [if_pos c, c, upf_eq, upf_eq]
    · rw [if_neg c, upf_ne c, upf_ne c]
      refine d5 i ?_
      rcases hi with z | z
      · have z' : i < D.nv + 1 := z
        exact Or.inl (by omega)
      · exact Or.inr z
  · have hv' : v < D.nv + 1 := hv
    rw [i2, i2]
    show _ = nI (upf D.hv D.nv (ynum tp t3) v) ∧ _ = nI (upf D.qv D.nv (ynum tp t5) v)
    by_cases c : v = D.nv
    · rw [if_neg (by omega), if_pos (by omega), if_pos (by omega), c, upf_eq, upf_eq]
      exact ⟨rfl, rfl⟩
    · rw [if_neg (by omega), if_neg (by omega), if_neg (by omega), if_neg (by omega), upf_ne c, upf_ne c]
      exact d6 v (by omega)
  · obtain ⟨z1, z2, z3, z4⟩ := d7 p hp
    exact ⟨(i1 _ _ (by omega) (by omega)).trans z1, (i1 _ _ (by omega) (by omega)).trans z2, (i1 _ _ (by omega) (by omega)).trans z3, (i1 _ _ (by omega) (by omega)).trans z4⟩
  · exact (i1 _ _ (by omega) (by omega)).trans (d8 r hr e)
  · obtain ⟨z1, z2, z3⟩ := d9 r hr a' l e
    exact ⟨(i1 _ _ (by omega) (by omega)).trans z1, (i1 _ _ (by omega) (by omega)).trans z2, z3.cong (fun k _ _ => i1 _ _ (by omega) (by omega))⟩
theorem m_VilBad {D : yD} {m : fz_s} (hV : yDV D) (hD : yDM D m) (hb : ¬ m.1 196 5 = 0) {Q : fz_s → Prop} (hq : Q m) : wp_X12_villageTold m Q := y_asksBad hb (y_newNameBad hV hD hb (y_asksBad hb (y_numberBad hb (y_asksBad hb (y_numberBad hb (y_asksSignBad hb (bf hb hq)))))))
/-! the class -/
theorem c_WN {tp : Nat → Nat} {tn b : Nat} {so : Bool} {t : yTok} {x : fz_s} (hX : yPX tp tn b so t x) (i : Nat) (hi : i < 32) {most : Nat} (hm : most < 100000) {Q : Bool → fz_s → Prop} (hT : ∀ t1 t2 x', yWo t i → yTS tp tn t.2.1 true t1 → yNu tp t1 most → yPX tp tn t1.2.1 true t2 x' → Fr p4 x x' → x'.1 4 6 = nI (ynum tp t1) → Q true x') (hN1 : ¬ yWo t i → ∀ x', yFX 1 t.1 x' → Fr p4 x x' → Q false x') (hN2 : ∀ t1, yWo t i → yTS tp tn t.2.1 true t1 → ¬ yNu tp t1 most → ∀ x', yFX (yNk t1) (yNp t1) x' → Fr p4 x x' → Q false x') : wp_X8_takeWordAndNumber (nI i) (nI most) x Q := by
  unfold wp_X8_takeWordAndNumber
  refine y_takeWord hX i hi (fun hs t1 x1 hX1 F1 => b2 ?_) (fun hs x1 q1 F1 => b3 (hN1 hs x1 q1 F1.1))
  refine y_takeNumber hX1 hm (fun hu t2 x2 hX2 F2 h6 => b2 ?_) (fun hu x2 q2 F2 => b3 ?_)
  · exact hT t1 t2 x2 hs hX1.2.1 hu hX2 ((y_n4 F1).1.tr F2.1) h6
  · exact hN2 t1 hs hX1.2.1 hu x2 q2 ((y_n4 F1).1.tr F2.1)
def pNa (a _j : Nat) : Bool := decide (a = 4 ∨ a = 18)
theorem pNa_f {a j : Nat} (h : ¬ (a = 4 ∨ a = 18)) : pNa a j = false := decide_eq_false h
theorem pNa_t {a j : Nat} (h : a = 4 ∨ a = 18) : pNa a j = true := decide_eq_true h
theorem y_4N {s s' : fz_s} (h : Fr p4 s s') : Fr pNa s s' := h.mono fun a j q => by
  have := of_decide_eq_false q
  exact p4_f (by omega)
theorem y_NC {s s' : fz_s} (h : Fr pNa s s') : Fr pC s s' := h.mono fun a j q => by
  have := of_decide_eq_false q
  exact pNa_f (by omega)
theorem c_Nlp {tp : Nat → Nat} {tn b : Nat} {so : Bool} {t : yTok} {D : yD} {i : Nat} (hV : yDV D) (hm : yNm t) (hi : i < 10) (hni : ¬ yNd D i) {x0 : fz_s} {Q : Bool → fz_s → Prop} (hT : ∀ t' x', yPX tp tn t.2.1 true t' x' → yDX D x' → (∀ k, k < 6 → x'.1 18 (6 * i + k) = nI (if k < t.2.1 - t.1 then yltr tp t.1 k else 0)) → Fr pNa x0 x' → Q true x') : ∀ (n k : Nat) (x : fz_s), k ≤ 6 → 6 < n + k → yPX tp tn b so t x → yDX D x → (∀ j, j < k → x.1 18 (6 * i + j) = nI (if j < t.2.1 - t.1 then yltr tp t.1 j else 0)) → Fr pNa x0 x → lp_X9_takeNewName_17_30 Q n (nI i) (nI k) x
  | 0, k, x, h1, h2, _, _, _, _ => absurd h2 (by omega)
  | n + 1, k, x, h1, h2, hX, hD, hL, hF => by
    show nd_X9_takeNewName_17_30 (lp_X9_takeNewName_17_30 Q n) Q (nI i) (nI k) x
    unfold nd_X9_takeNewName_17_30
    by_cases c : 6 ≤ k
    · refine bt (by simp (disch := omega) only [N_lit, N_add, N_mul, N_sub, N_addneg, N_neg1, N_addm, N_le, N_lt, N_eq, N_in, N_cl, N_ne, N_ne', N_ltm, N_mlt, N_lem] <;> omega) (y_next hX (fun t' x' hX' F' => ?_))
      have e : ySo t = true := decide_eq_true (Or.inl hm.1)
      rw [e] at hX'
      have F4 := (y_n4 F').1
      exact hT t' x' hX' (hD.c hV F4) (fun k' hk' => (F4.i _ _ (p4_f (by omega))).trans (hL k' (by omega))) (hF.tr (y_4N F4))
    refine bf (by simp (disch := omega) only [N_lit, N_add, N_mul, N_sub, N_addneg, N_neg1, N_addm, N_le, N_lt, N_eq, N_in, N_cl, N_ne, N_ne', N_ltm, N_mlt, N_lem] <;> omega) (y_letH hX hm.1 (by omega) ?_)
    have e2 : nI i * 6 + nI k = nI (6 * i + k) := by
      show nI i * nI 6 + nI k = _
      rw [N_mul, N_add]
      congr 1
      omega
    rw [e2]
    refine ⟨N_in ⟨by omega, by omega⟩, fun s5 e5 x6 e6 => ?_⟩
    rw [N_cl (by omega)] at e5
    rw [e6, nI_1]
    refine c_Nlp (b := b) (so := so) hV hm hi hni hT n (k + 1) s5 (by omega) (by omega) ?_ ?_ (fun j hj => ?_) ?_
    · exact hX.fr (fun j _ => by rw [e5, g_ne (by omega)]) (fun j _ => by rw [e5, g_ne (by omega)])
    · obtain ⟨a1, a2, a3, a4, a5, a6, a7, a8, a9⟩ := hD
      refine ⟨?_, ?_, ?_, ?_, fun i' hi' k' hk' => ?_, fun v hv => ⟨?_, ?_⟩, fun p hp => ?_, fun r hr e => ?_, fun r hr a l e => ?_⟩
      · rw [e5, g_ne (by omega)]; exact a1
      · rw [e5, g_ne (by omega)]; exact a2
      · rw [e5, g_ne (by omega)]; exact a3
      · rw [e5, g_ne (by omega)]; exact a4
      · have hne : i' ≠ i := fun z => hni (z ▸ hi')
        rw [e5, g_nj (by omega)]; exact a5 i' hi' k' hk'
      · rw [e5, g_ne (by omega)]; exact (a6 v hv).1
      · rw [e5, g_ne (by omega)]; exact (a6 v hv).2
      · obtain ⟨z1, z2, z3, z4⟩ := a7 p hp
        exact ⟨by rw [e5, g_ne (by omega)]; exact z1, by rw [e5, g_ne (by omega)]; exact z2, by rw [e5, g_ne (by omega)]; exact z3, by rw [e5, g_ne (by omega)]; exact z4⟩
      · rw [e5, g_ne (by omega)]; exact a8 r hr e
      · obtain ⟨z1, z2, z3⟩ := a9 r hr a l e
        exact ⟨by rw [e5, g_ne (by omega)]; exact z1, by rw [e5, g_ne (by omega)]; exact z2, z3.cong (fun k _ _ => by rw [e5, g_ne (by omega)])⟩
    · by_cases cj : j = k
      · rw [cj, e5, g_eq]
      · rw [e5, g_nj (by omega)]; exact hL j (by omega)
    · rw [e5]; exact hF.si (pNa_t (by omega))
theorem c_Nw {tp : Nat → Nat} {tn b : Nat} {so : Bool} {t : yTok} {D : yD} {i : Nat} {x : fz_s} (hX : yPX tp tn b so t x) (hV : yDV D) (hD : yDX D x) (hi : i < 10) (hni : ¬ yNd D i) {Q : Bool → fz_s → Prop} (hT : ∀ t' x', yNm t → ¬ yMat tp D t → yPX tp tn t.2.1 true t' x' → yDX D x' → (∀ k, k < 6 → x'.1 18 (6 * i + k) = nI (if k < t.2.1 - t.1 then yltr tp t.1 k else 0)) → Fr pNa x x' → Q true x') (hN1 : ¬ yNm t → ∀ x', yFX 1 (yNq t) x' → Fr p4 x x' → Q false x') (hN3 : yNm t → yMat tp D t → ∀ x', yFX 3 t.1 x' → Fr p4 x x' → Q false x') : wp_X9_takeNewName_17 (nI i) x Q := by
  have hn0 := hX.1.1
  have ht := hX.2.1.2.1
  unfold wp_X9_takeNewName_17
  refine y_atName hX (fun hm => b1 ?_) (fun hm x1 q1 F1 => b4 (hN1 hm x1 q1 F1.1))
  refine y_nameHere hX hV hD hm (fun z hz => ?_)
  rcases hz with ⟨i', z1, z2, z3, z4⟩ | ⟨z1, z2⟩
  · have hi10 : i' < 10 := by
      have := hV.1
      have := hV.2.1
      rcases z2 with y | y <;> omega
    rw [z1, ← i_nI]
    refine bf (y_nm1 (by omega)) ?_
    rw [hX.2.2.2.2.1]
    exact y_fail (kd := 3) ⟨by omega, by omega⟩ (by omega) (fun x1 q1 F1 => hN3 hm ⟨i', z2, z3⟩ x1 q1 F1.1)
  · rw [z1]
    refine bt (by decide +kernel) ?_
    exact c_Nlp hV hm hi hni (fun t' x' h1 h2 h3 h4 => hT t' x' hm z2 h1 h2 h3 h4) 2048 0 x (by omega) (by omega) hX hD (fun j hj => absurd hj (Nat.not_lt_zero _)) Fr.rf
set_option maxHeartbeats 4000000 in
theorem c_Vil {tp : Nat → Nat} {tn b : Nat} {so : Bool} {t : yTok} {D : yD} {x : fz_s} (hX : yPX tp tn b so t x) (hV : yDV D) (hD : yDX D x) (hnv : D.nv < 2) (hw : yWo t 16) {Qf Qt : fz_s → Prop}
    (hok : ∀ t1 t3 t5 t6 t7 x', (∀ (K : yTok → yTok → yTok → yTok → yTok → Prop) (F : Nat → Nat → Prop), K t1 t3 t5 t6 t7 → sVil tp tn D t K F) → yPX tp tn t6.2.1 false t7 x' → t.2.1 < t6.2.1 → yDV (yVil tp D t1 t3 t5) → yDX (yVil tp D t1 t3 t5) x' → Fr pC x x' → x'.1 17 13 = x.1 17 13 → Qt x')
    (hno : ∀ kd pl x', (∀ (K : yTok → yTok → yTok → yTok → yTok → Prop) (F : Nat → Nat → Prop), F kd pl → sVil tp tn D t K F) → yFX kd pl x' → Fr pC x x' → Qf x') :
    wp_X9_readVillage_17 x (fun r1 s2 => ((r1 = false → Qf s2) ∧ (r1 = true → wp_X8_takeSign 59 s2 (fun r3 s4 => ((r3 = true → Qt s4) ∧ (r3 = false → Qf s4)))))) := by
  have hB := hX.1.2.1
  have he := hw.lt hX.2.1 hB
  unfold wp_X9_readVillage_17
  refine y_next hX (fun t1 x1 hX1 F1 => ?_)
  rw [he.2] at hX1
  have G1 := (y_n4 F1).1
  have D1 := hD.c hV G1
  have u1 : ∀ (K : yTok → yTok → yTok → yTok → yTok → Prop) (F : Nat → Nat → Prop), sNw tp tn D t1 (fun t2 => sW tp tn t2 0 (fun t3 => sN tp tn t3 999 (fun t4 => sW tp tn t4 1 (fun t5 => sN tp tn t5 99 (fun t6 => sS tp tn t6 59 (fun t7 => K t1 t3 t5 t6 t7) F) F) F) F) F) F → sVil tp tn D t K F := fun K F z => Or.inl ⟨hw, t1, hX1.2.1, z⟩
  rw [D1.1]
  have hni : ¬ yNd D D.nv := fun z => by rcases z with y | y <;> omega
  refine c_Nw hX1 hV D1 (by omega) hni (fun t2 x2 hm2 hu2 hX2 D2 hL2 F2 => b2 ?_) (fun hm2 x2 q2 F2 => b3 (b3 (hno _ _ x2 (fun K F z => u1 K F (Or.inr (Or.inl ⟨hm2, z⟩))) q2 (y_4C (G1.tr F2))))) (fun hm2 hu2 x2 q2 F2 => b3 (b3 (hno _ _ x2 (fun K F z => u1 K F (Or.inr (Or.inr ⟨hm2, hu2, z⟩))) q2 (y_4C (G1.tr F2)))))
  have C2 : Fr pC x x2 := (y_4C G1).tr (y_NC F2)
  refine c_WN hX2 0 (by omega) (most := 999) (by omega) (fun t3 t4 x3 hw3 ht3 hu3 hX3 F3 h63 => b1 ?_) (fun hw3 x3 q3 F3 => b4 (b3 (hno _ _ x3 (fun K F z => u1 K F (Or.inl ⟨hm2, hu2, t2, hX2.2.1, Or.inr ⟨hw3, z⟩⟩)) q3 (C2.tr (y_4C F3))))) (fun t3 hw3 ht3 hu3 x3 q3 F3 => b4 (b3 (hno _ _ x3 (fun K F z => u1 K F (Or.inl ⟨hm2, hu2, t2, hX2.2.1, Or.inl ⟨hw3, t3, ht3, Or.inr ⟨hu3, z⟩⟩⟩)) q3 (C2.tr (y_4C F3)))))
  have u4 : ∀ (K : yTok → yTok → yTok → yTok → yTok → Prop) (F : Nat → Nat → Prop), sW tp tn t4 1 (fun t5 => sN tp tn t5 99 (fun t6 => sS tp tn t6 59 (fun t7 => K t1 t3 t5 t6 t7) F) F) F → sVil tp tn D t K F := fun K F z => u1 K F (Or.inl ⟨hm2, hu2, t2, hX2.2.1, Or.inl ⟨hw3, t3, ht3, Or.inl ⟨hu3, t4, hX3.2.1, z⟩⟩⟩)
  have D3 := D2.c hV F3
  rw [D3.1, h63]
  refine ⟨N_in ⟨by omega, by omega⟩, fun s7 e7 => ?_⟩
  rw [N_cl (by omega)] at e7
  have hX7 : yPX tp tn t3.2.1 true t4 s7 := hX3.fr (fun j _ => by rw [e7, g_ne (by omega)]) (fun j _ => by rw [e7, g_ne (by omega)])
  have C7 : Fr pC x s7 := by rw [e7]; exact (C2.tr (y_4C F3)).si (pC_t (by omega))
  refine c_WN hX7 1 (by omega) (most := 99) (by omega) (fun t5 t6 x8 hw8 ht8 hu8 hX8 F8 h68 => b1 ?_) (fun hw8 x8 q8 F8 => b4 (b3 (hno _ _ x8 (fun K F z => u4 K F (Or.inr ⟨hw8, z⟩)) q8 (C7.tr (y_4C F8))))) (fun t5 hw8 ht8 hu8 x8 q8 F8 => b4 (b3 (hno _ _ x8 (fun K F z => u4 K F (Or.inl ⟨hw8, t5, ht8, Or.inr ⟨hu8, z⟩⟩)) q8 (C7.tr (y_4C F8)))))
  have r8 : x8.1 17 11 = nI D.nv := by rw [F8.i _ _ (p4_f (by omega)), e7, g_ne (by omega)]; exact D3.1
  rw [r8, h68]
  refine ⟨N_in ⟨by omega, by omega⟩, fun s10 e10 s11 e11 => b2 ?_⟩
  rw [N_cl (by omega)] at e10
  have r10 : s10.1 17 11 = nI D.nv := by rw [e10, g_ne (by omega)]; exact r8
  rw [r10, nI_1] at e11
  have hX11 : yPX tp tn t5.2.1 true t6 s11 := hX8.fr (fun j _ => by rw [e11, g_ne (by omega), e10, g_ne (by omega)]) (fun j _ => by rw [e11, g_ne (by omega), e10, g_ne (by omega)])
  have C11 : Fr pC x s11 := by rw [e11, e10]; exact ((C7.tr (y_4C F8)).si (pC_t (by omega))).si (pC_t (by omega))
  have u6 : ∀ (K : yTok → yTok → yTok → yTok → yTok → Prop) (F : Nat → Nat → Prop), sS tp tn t6 59 (fun t7 => K t1 t3 t5 t6 t7) F → sVil tp tn D t K F := fun K F z => u4 K F (Or.inl ⟨hw8, t5, ht8, Or.inl ⟨hu8, t6, hX8.2.1, z⟩⟩)
  refine y_takeSign hX11 59 (by omega) (fun hs t7 x12 hX12 F12 => b1 ?_) (fun hs x12 q12 F12 => b4 (hno _ _ x12 (fun K F z => u6 K F (Or.inr ⟨hs, z⟩)) q12 (C11.tr (y_4C F12.1))))
  have G12 := (y_n4 F12).1
  have back : ∀ a j, a ≠ 4 → a ≠ 18 → ¬ (a = 19 ∧ j = D.nv) → ¬ (a = 20 ∧ j = D.nv) → ¬ (a = 17 ∧ j = 11) → x12.1 a j = x.1 a j := fun a j g1 g2 g3 g4 g5 => by
    rw [G12.i _ _ (p4_f g1), e11, g_si, if_neg (fun z => g5 z), e10, g_si, if_neg (fun z => g4 z), F8.i _ _ (p4_f g1), e7, g_si, if_neg (fun z => g3 z), F3.i _ _ (p4_f g1), F2.i _ _ (pNa_f (by omega)), G1.i _ _ (p4_f g1)]
  have l18 : ∀ j, x12.1 18 j = x2.1 18 j := fun j => by
    rw [G12.i _ _ (p4_f (by omega)), e11, g_ne (by omega), e10, g_ne (by omega), F8.i _ _ (p4_f (by omega)), e7, g_ne (by omega), F3.i _ _ (p4_f (by omega))]
  have l19 : x12.1 19 D.nv = nI (ynum tp t3) := by
    rw [G12.i _ _ (p4_f (by omega)), e11, g_ne (by omega), e10, g_ne (by omega), F8.i _ _ (p4_f (by omega)), e7, g_eq]
  have l20 : x12.1 20 D.nv = nI (ynum tp t5) := by
    rw [G12.i _ _ (p4_f (by omega)), e11, g_ne (by omega), e10, g_eq]
  obtain ⟨d1, d2, d3, d4, d5, d6, d7, d8, d9⟩ := hD
  have hlt1 := (hX1.2.1.lt hB hm2.1).1
  have k1 := hX1.2.1.1
  have k2 := hX2.2.1.1
  have k3 := (hw3.lt hX2.2.1 hB).1
  have k4 := ht3.1
  have k5 := (ht3.dg hB hu3.1).1
  have k6 := hX3.2.1.1
  have k7 := (hw8.lt hX7.2.1 hB).1
  have k8 := ht8.1
  have k9 := (ht8.dg hB hu8.1).1
  have k10 := hX8.2.1.1
  have k11 := (hs.lt hX11.2.1).1
  refine hok t1 t3 t5 t6 t7 x12 (fun K F z => u6 K F (Or.inl ⟨hs, t7, hX12.2.1, z⟩)) hX12 (by omega) ⟨?_, hV.2.1, fun i hi => ?_, fun v hv => ?_, hV.2.2.2.2.1, hV.2.2.2.2.2.1, hV.2.2.2.2.2.2.1, hV.2.2.2.2.2.2.2⟩ ⟨?_, ?_, ?_, ?_, fun i hi k hk => ?_, fun v hv => ?_, fun p hp => ?_, fun r hr e => ?_, fun r hr a l e => ?_⟩ (C11.tr (y_4C G12)) (back _ _ (by omega) (by omega) (by omega) (by omega) (by omega))
  · show D.nv + 1 ≤ 2
    omega
  · show (1 ≤ upf D.nl D.nv (t1.2.1 - t1.1) i ∧ upf D.nl D.nv (t1.2.1 - t1.1) i ≤ 6) ∧ ∀ k, k < upf D.nl D.nv (t1.2.1 - t1.1) i → 1 ≤ upf D.nm D.nv (yltr tp t1.1) i k ∧ upf D.nm D.nv (yltr tp t1.1) i k ≤ 26
    have hm3 := hm2.2.2
    by_cases c : i = D.nv
    · rw [c, upf_eq, upf_eq]
      exact ⟨by omega, fun k hk => y_ltr1 hX1.2.1 hB hm2.1 (by omega)⟩
    · rw [upf_ne c, upf_ne c]
      refine hV.2.2.1 i ?_
      rcases hi with z | z
      · have z' : i < D.nv + 1 := z
        exact Or.inl (by omega)
      · exact Or.inr z
  · have hv' : v < D.nv + 1 := hv
    show upf D.hv D.nv (ynum tp t3) v ≤ 999 ∧ upf D.qv D.nv (ynum tp t5) v ≤ 99
    by_cases c : v = D.nv
    · rw [c, upf_eq, upf_eq]
      exact ⟨hu3.2.2, hu8.2.2⟩
    · rw [upf_ne c, upf_ne c]
      exact hV.2.2.2.1 v (by omega)
  · rw [G12.i _ _ (p4_f (by omega)), e11, g_eq]; rfl
  · rw [back _ _ (by omega) (by omega) (by omega) (by omega) (by omega)]; exact d2
  · rw [back _ _ (by omega) (by omega) (by omega) (by omega) (by omega)]; exact d3
  · rw [back _ _ (by omega) (by omega) (by omega) (by omega) (by omega)]; exact d4
  · rw [l18]
    show _ = nI (if k < upf D.nl D.nv (t1.2.1 - t1.1) i then upf D.nm D.nv (yltr tp t1.1) i k else 0)
    by_cases c : i = D.nv
    · rw [c, upf_eq, upf_eq]
      exact hL2 k hk
    · rw [upf_ne c, upf_ne c]
      refine D2.2.2.2.2.1 i ?_ k hk
      rcases hi with z | z
      · have z' : i < D.nv + 1 := z
        exact Or.inl (by omega)
      · exact Or.inr z
  · have hv' : v < D.nv + 1 := hv
    show _ = nI (upf D.hv D.nv (ynum tp t3) v) ∧ _ = nI (upf D.qv D.nv (ynum tp t5) v)
    by_cases c : v = D.nv
    · rw [c, upf_eq, upf_eq]
      exact ⟨l19, l20⟩
    · rw [upf_ne c, upf_ne c, back _ _ (by omega) (by omega) (by omega) (by omega) (by omega), back _ _ (by omega) (by omega) (by omega) (by omega) (by omega)]
      exact d6 v (by omega)
  · obtain ⟨z1, z2, z3, z4⟩ := d7 p hp
    exact ⟨(back _ _ (by omega) (by omega) (by omega) (by omega) (by omega)).trans z1, (back _ _ (by omega) (by omega) (by omega) (by omega) (by omega)).trans z2, (back _ _ (by omega) (by omega) (by omega) (by omega) (by omega)).trans z3, (back _ _ (by omega) (by omega) (by omega) (by omega) (by omega)).trans z4⟩
  · exact (back _ _ (by omega) (by omega) (by omega) (by omega) (by omega)).trans (d8 r hr e)
  · obtain ⟨z1, z2, z3⟩ := d9 r hr a l e
    exact ⟨(back _ _ (by omega) (by omega) (by omega) (by omega) (by omega)).trans z1, (back _ _ (by omega) (by omega) (by omega) (by omega) (by omega)).trans z2, z3.cong (fun k _ _ => back _ _ (by omega) (by omega) (by omega) (by omega) (by omega))⟩

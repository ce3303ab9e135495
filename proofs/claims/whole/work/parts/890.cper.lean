/-! PEOPLE: the class -/
def yB (Qf Qt : fz_s → Prop) : Bool → fz_s → Prop := fun r1 s2 => ((r1 = false → Qf s2) ∧ (r1 = true → wp_X8_takeSign 59 s2 (fun r3 s4 => ((r3 = true → Qt s4) ∧ (r3 = false → Qf s4)))))
theorem yNH.none {tp : Nat → Nat} {D : yD} {t : yTok} (hnv : D.nv = 2) {z : Int} (h : yNH tp D t z) (hz : ¬ (0 ≤ z ∧ z < 2)) : ∀ j, j < 2 → ¬ yMa tp D t j := by
  intro j hj hm
  rcases h with ⟨i, h1, h2, h3, h4⟩ | ⟨h1, h2⟩
  · exact h4 j (by omega) (Or.inl (by omega)) hm
  · exact h2 ⟨j, Or.inl (by omega), hm⟩
theorem yNH.some {tp : Nat → Nat} {D : yD} {t : yTok} (hnv : D.nv = 2) {z : Int} (h : yNH tp D t z) (hz : 0 ≤ z ∧ z < 2) : ∃ k : Nat, z = (k : Int) ∧ k < 2 ∧ yMa tp D t k ∧ ∀ j, j < k → ¬ yMa tp D t j := by
  rcases h with ⟨i, h1, h2, h3, h4⟩ | ⟨h1, h2⟩
  · exact ⟨i, h1, by omega, h3, fun j hj => h4 j hj (Or.inl (by omega))⟩
  · omega
theorem yNH.rng {tp : Nat → Nat} {D : yD} {t : yTok} (hV : yDV D) {z : Int} (h : yNH tp D t z) : -1 ≤ z ∧ z < 10 := by
  have := hV.1
  have := hV.2.1
  rcases h with ⟨i, h1, h2, h3, h4⟩ | ⟨h1, h2⟩
  · rcases h2 with y | y <;> omega
  · omega
set_option maxHeartbeats 4000000 in
theorem c_Per {tp : Nat → Nat} {tn b : Nat} {so : Bool} {t : yTok} {D : yD} {x : fz_s} (hX : yPX tp tn b so t x) (hV : yDV D) (hD : yDX D x) (hnv : D.nv = 2) (hw : yWo t 17) {Qf Qt : fz_s → Prop}
    (hok : ∀ t1 h t5 t7 t9 t10 t11 x', (∀ (K : yTok → Nat → yTok → yTok → yTok → yTok → yTok → Prop) (F : Nat → Nat → Prop), K t1 h t5 t7 t9 t10 t11 → sPer tp tn D t K F) → yPX tp tn t10.2.1 false t11 x' → t.2.1 < t10.2.1 → yDV (yPer tp D t1 h t5 t7 t9) → yDX (yPer tp D t1 h t5 t7 t9) x' → Fr pC x x' → x'.1 17 13 = x.1 17 13 → Qt x')
    (hno : ∀ kd pl x', (∀ (K : yTok → Nat → yTok → yTok → yTok → yTok → yTok → Prop) (F : Nat → Nat → Prop), F kd pl → sPer tp tn D t K F) → yFX kd pl x' → Fr pC x x' → Qf x') :
    wp_X9_readPerson_17 x (fun r12 s13 => ((r12 = false → yB Qf Qt false s13) ∧ (r12 = true → wp_X9_readTraits_17 s13 (fun r14 s15 => ((r14 = false → yB Qf Qt false s15) ∧ (r14 = true → yB Qf Qt true s15)))))) := by
  have hn0 := hX.1.1
  have hB := hX.1.2.1
  have he := hw.lt hX.2.1 hB
  have hnp := hV.2.1
  have hq0 := hX.2.1.2.1
  unfold wp_X9_readPerson_17
  rw [hD.2.1]
  by_cases c8 : D.np < 8
  case neg =>
    refine bf (by simp (disch := omega) only [N_lit, N_add, N_mul, N_sub, N_addneg, N_neg1, N_addm, N_le, N_lt, N_eq, N_in, N_cl, N_ne, N_ne', N_ltm, N_mlt, N_lem] <;> omega) ?_
    rw [hX.2.2.2.2.1]
    exact y_fail (kd := 5) ⟨by omega, by omega⟩ (by omega) (fun x1 q1 F1 => b3 (b3 (hno _ _ x1 (fun K F z => Or.inl ⟨by omega, z⟩) q1 (y_4C F1.1))))
  refine bt (by simp (disch := omega) only [N_lit, N_add, N_mul, N_sub, N_addneg, N_neg1, N_addm, N_le, N_lt, N_eq, N_in, N_cl, N_ne, N_ne', N_ltm, N_mlt, N_lem] <;> omega) (y_next hX (fun t1 x1 hX1 F1 => ?_))
  rw [he.2] at hX1
  have G1 := (y_n4 F1).1
  have D1 := hD.c hV G1
  have u1 : ∀ (K : yTok → Nat → yTok → yTok → yTok → yTok → yTok → Prop) (F : Nat → Nat → Prop), sNw tp tn D t1 (fun t2 => sW tp tn t2 18 (fun t3 => sOf tp tn D t3 (fun h t4 => sPe1 tp tn t4 (K t1 h) F) F) F) F → sPer tp tn D t K F := fun K F z => Or.inr ⟨c8, t1, hX1.2.1, z⟩
  rw [D1.2.1, show (2 : Int32) + nI D.np = nI (2 + D.np) from N_add 2 _]
  have hni : ¬ yNd D (2 + D.np) := fun z => by rcases z with y | y <;> omega
  refine c_Nw hX1 hV D1 (by omega) hni (fun t2 x2 hm2 hu2 hX2 D2 hL2 F2 => b2 ?_) (fun hm2 x2 q2 F2 => b3 (b3 (b3 (hno _ _ x2 (fun K F z => u1 K F (Or.inr (Or.inl ⟨hm2, z⟩))) q2 (y_4C (G1.tr F2)))))) (fun hm2 hu2 x2 q2 F2 => b3 (b3 (b3 (hno _ _ x2 (fun K F z => u1 K F (Or.inr (Or.inr ⟨hm2, hu2, z⟩))) q2 (y_4C (G1.tr F2))))))
  have C2 : Fr pC x x2 := (y_4C G1).tr (y_NC F2)
  refine y_takeWord hX2 18 (by omega) (fun hw3 t3 x3 hX3 F3 => b2 ?_) (fun hw3 x3 q3 F3 => b3 (b3 (b3 (hno _ _ x3 (fun K F z => u1 K F (Or.inl ⟨hm2, hu2, t2, hX2.2.1, Or.inr ⟨hw3, z⟩⟩)) q3 (C2.tr (y_4C F3.1))))))
  have G3 := (y_n4 F3).1
  have C3 := C2.tr (y_4C G3)
  have D3 := D2.c hV G3
  have u3 : ∀ (K : yTok → Nat → yTok → yTok → yTok → yTok → yTok → Prop) (F : Nat → Nat → Prop), sOf tp tn D t3 (fun h t4 => sPe1 tp tn t4 (K t1 h) F) F → sPer tp tn D t K F := fun K F z => u1 K F (Or.inl ⟨hm2, hu2, t2, hX2.2.1, Or.inl ⟨hw3, t3, hX3.2.1, z⟩⟩)
  have hq3 := hX3.2.1.2.1
  refine y_atName hX3 (fun hm3 => b1 ?_) (fun hm3 x4 q4 F4 => b4 (b3 (b3 (hno _ _ x4 (fun K F z => u3 K F (Or.inr (Or.inl ⟨hm3, z⟩))) q4 (C3.tr (y_4C F4.1))))))
  refine y_nameHere hX3 hV D3 hm3 (fun zz hz => ?_)
  have hzr := hz.rng hV
  rw [D3.2.1]
  refine ⟨N_in ⟨by omega, by omega⟩, fun s11 e11 => ?_⟩
  rw [N_cl (by omega)] at e11
  have r11 : s11.1 17 12 = nI D.np := by rw [e11, g_ne (by omega)]; exact D3.2.1
  have hX11 : yPX tp tn t2.2.1 true t3 s11 := hX3.fr (fun j _ => by rw [e11, g_ne (by omega)]) (fun j _ => by rw [e11, g_ne (by omega)])
  have C11 : Fr pC x s11 := by rw [e11]; exact C3.si (pC_t (by omega))
  rw [r11, N_cl (by omega), show s11.1 21 D.np = iI zz by rw [e11, g_eq]]
  have e0 : (iI zz < 0) ↔ zz < 0 := i_lt (b := 0) ⟨⟨by omega, by omega⟩, by omega, by omega⟩
  have e2 : (iI zz < 2) ↔ zz < 2 := i_lt (b := 2) ⟨⟨by omega, by omega⟩, by omega, by omega⟩
  have no : ¬ (0 ≤ zz ∧ zz < 2) → nd_X9_readPerson_17_94 (fun r12 s13 => ((r12 = false → yB Qf Qt false s13) ∧ (r12 = true → wp_X9_readTraits_17 s13 (fun r14 s15 => ((r14 = false → yB Qf Qt false s15) ∧ (r14 = true → yB Qf Qt true s15))))))  s11 := by
    intro hc
    unfold nd_X9_readPerson_17_94
    rw [hX11.2.2.2.2.1]
    exact y_fail (kd := 3) ⟨by omega, by omega⟩ (by omega) (fun x5 q5 F5 => b3 (b3 (hno _ _ x5 (fun K F z => u3 K F (Or.inr (Or.inr ⟨hm3, hz.none hnv hc, z⟩))) q5 (C11.tr (y_4C F5.1)))))
  refine ⟨N_in ⟨by omega, by omega⟩, ?_⟩
  by_cases cz : zz < 0
  · exact bt (e0.mpr cz) (no (by omega))
  refine bf (fun z => cz (e0.mp z)) ⟨N_in ⟨by omega, by omega⟩, ?_⟩
  by_cases cz2 : zz < 2
  case neg => exact bf (fun z => cz2 (e2.mp z)) (no (by omega))
  refine bt (e2.mpr cz2) ?_
  obtain ⟨h, hh1, hh2, hh3, hh4⟩ := hz.some hnv ⟨by omega, cz2⟩
  refine y_next hX11 (fun t4 x12 hX12 F12 => b2 ?_)
  have eso : ySo t3 = true := decide_eq_true (Or.inl hm3.1)
  rw [eso] at hX12
  have G12 := (y_n4 F12).1
  have C12 := C11.tr (y_4C G12)
  have u4 : ∀ (K : yTok → Nat → yTok → yTok → yTok → yTok → yTok → Prop) (F : Nat → Nat → Prop), sPe1 tp tn t4 (K t1 h) F → sPer tp tn D t K F := fun K F z => u3 K F (Or.inl ⟨hm3, h, hh2, hh3, hh4, t4, hX12.2.1, z⟩)
  unfold wp_X9_readTraits_17
  refine c_WN hX12 3 (by omega) (most := 9) (by omega) (fun t5 t6 x13 hw5 ht5 hu5 hX13 F13 h613 => b1 ?_) (fun hw5 x13 q13 F13 => b4 (b3 (b3 (hno _ _ x13 (fun K F z => u4 K F (Or.inr ⟨hw5, z⟩)) q13 (C12.tr (y_4C F13)))))) (fun t5 hw5 ht5 hu5 x13 q13 F13 => b4 (b3 (b3 (hno _ _ x13 (fun K F z => u4 K F (Or.inl ⟨hw5, t5, ht5, Or.inr ⟨hu5, z⟩⟩)) q13 (C12.tr (y_4C F13))))))
  have r13 : x13.1 17 12 = nI D.np := by rw [F13.i _ _ (p4_f (by omega)), G12.i _ _ (p4_f (by omega))]; exact r11
  rw [r13, h613]
  refine ⟨N_in ⟨by omega, by omega⟩, fun s14 e14 => ?_⟩
  rw [N_cl (by omega)] at e14
  have hX14 : yPX tp tn t5.2.1 true t6 s14 := hX13.fr (fun j _ => by rw [e14, g_ne (by omega)]) (fun j _ => by rw [e14, g_ne (by omega)])
  have C14 : Fr pC x s14 := by rw [e14]; exact (C12.tr (y_4C F13)).si (pC_t (by omega))
  have u6 : ∀ (K : yTok → Nat → yTok → yTok → yTok → yTok → yTok → Prop) (F : Nat → Nat → Prop), sW tp tn t6 4 (fun t7 => sN tp tn t7 9 (fun t8 => sW tp tn t8 5 (fun t9 => sN tp tn t9 9 (fun t10 => sS tp tn t10 59 (fun t11 => K t1 h t5 t7 t9 t10 t11) F) F) F) F) F → sPer tp tn D t K F := fun K F z => u4 K F (Or.inl ⟨hw5, t5, ht5, Or.inl ⟨hu5, t6, hX13.2.1, z⟩⟩)
  refine c_WN hX14 4 (by omega) (most := 9) (by omega) (fun t7 t8 x15 hw7 ht7 hu7 hX15 F15 h615 => b1 ?_) (fun hw7 x15 q15 F15 => b4 (b3 (b3 (hno _ _ x15 (fun K F z => u6 K F (Or.inr ⟨hw7, z⟩)) q15 (C14.tr (y_4C F15)))))) (fun t7 hw7 ht7 hu7 x15 q15 F15 => b4 (b3 (b3 (hno _ _ x15 (fun K F z => u6 K F (Or.inl ⟨hw7, t7, ht7, Or.inr ⟨hu7, z⟩⟩)) q15 (C14.tr (y_4C F15))))))
  have r15 : x15.1 17 12 = nI D.np := by rw [F15.i _ _ (p4_f (by omega)), e14, g_ne (by omega)]; exact r13
  rw [r15, h615]
  refine ⟨N_in ⟨by omega, by omega⟩, fun s16 e16 => ?_⟩
  rw [N_cl (by omega)] at e16
  have hX16 : yPX tp tn t7.2.1 true t8 s16 := hX15.fr (fun j _ => by rw [e16, g_ne (by omega)]) (fun j _ => by rw [e16, g_ne (by omega)])
  have C16 : Fr pC x s16 := by rw [e16]; exact (C14.tr (y_4C F15)).si (pC_t (by omega))
  have u8 : ∀ (K : yTok → Nat → yTok → yTok → yTok → yTok → yTok → Prop) (F : Nat → Nat → Prop), sW tp tn t8 5 (fun t9 => sN tp tn t9 9 (fun t10 => sS tp tn t10 59 (fun t11 => K t1 h t5 t7 t9 t10 t11) F) F) F → sPer tp tn D t K F := fun K F z => u6 K F (Or.inl ⟨hw7, t7, ht7, Or.inl ⟨hu7, t8, hX15.2.1, z⟩⟩)
  refine c_WN hX16 5 (by omega) (most := 9) (by omega) (fun t9 t10 x17 hw9 ht9 hu9 hX17 F17 h617 => b1 ?_) (fun hw9 x17 q17 F17 => b4 (b3 (b3 (hno _ _ x17 (fun K F z => u8 K F (Or.inr ⟨hw9, z⟩)) q17 (C16.tr (y_4C F17)))))) (fun t9 hw9 ht9 hu9 x17 q17 F17 => b4 (b3 (b3 (hno _ _ x17 (fun K F z => u8 K F (Or.inl ⟨hw9, t9, ht9, Or.inr ⟨hu9, z⟩⟩)) q17 (C16.tr (y_4C F17))))))
  have r17 : x17.1 17 12 = nI D.np := by rw [F17.i _ _ (p4_f (by omega)), e16, g_ne (by omega)]; exact r15
  rw [r17, h617]
  refine ⟨N_in ⟨by omega, by omega⟩, fun s18 e18 s19 e19 => b2 (b2 ?_)⟩
  rw [N_cl (by omega)] at e18
  have r18 : s18.1 17 12 = nI D.np := by rw [e18, g_ne (by omega)]; exact r17
  rw [r18, nI_1] at e19
  have hX19 : yPX tp tn t9.2.1 true t10 s19 := hX17.fr (fun j _ => by rw [e19, g_ne (by omega), e18, g_ne (by omega)]) (fun j _ => by rw [e19, g_ne (by omega), e18, g_ne (by omega)])
  have C19 : Fr pC x s19 := by rw [e19, e18]; exact ((C16.tr (y_4C F17)).si (pC_t (by omega))).si (pC_t (by omega))
  have u10 : ∀ (K : yTok → Nat → yTok → yTok → yTok → yTok → yTok → Prop) (F : Nat → Nat → Prop), sS tp tn t10 59 (fun t11 => K t1 h t5 t7 t9 t10 t11) F → sPer tp tn D t K F := fun K F z => u8 K F (Or.inl ⟨hw9, t9, ht9, Or.inl ⟨hu9, t10, hX17.2.1, z⟩⟩)
  refine y_takeSign hX19 59 (by omega) (fun hs t11 x20 hX20 F20 => b1 ?_) (fun hs x20 q20 F20 => b4 (hno _ _ x20 (fun K F z => u10 K F (Or.inr ⟨hs, z⟩)) q20 (C19.tr (y_4C F20.1))))
  have G20 := (y_n4 F20).1
  have back : ∀ a j, a ≠ 4 → a ≠ 18 → ¬ (a = 21 ∧ j = D.np) → ¬ (a = 22 ∧ j = D.np) → ¬ (a = 23 ∧ j = D.np) → ¬ (a = 24 ∧ j = D.np) → ¬ (a = 17 ∧ j = 12) → x20.1 a j = x.1 a j := fun a j g1 g2 g3 g4 g5 g6 g7 => by
    rw [G20.i _ _ (p4_f g1), e19, g_si, if_neg (fun z => g7 z), e18, g_si, if_neg (fun z => g6 z), F17.i _ _ (p4_f g1), e16, g_si, if_neg (fun z => g5 z), F15.i _ _ (p4_f g1), e14, g_si, if_neg (fun z => g4 z), F13.i _ _ (p4_f g1), G12.i _ _ (p4_f g1), e11, g_si, if_neg (fun z => g3 z), G3.i _ _ (p4_f g1), F2.i _ _ (pNa_f (by omega)), G1.i _ _ (p4_f g1)]
  have l18 : ∀ j, x20.1 18 j = x2.1 18 j := fun j => by
    rw [G20.i _ _ (p4_f (by omega)), e19, g_ne (by omega), e18, g_ne (by omega), F17.i _ _ (p4_f (by omega)), e16, g_ne (by omega), F15.i _ _ (p4_f (by omega)), e14, g_ne (by omega), F13.i _ _ (p4_f (by omega)), G12.i _ _ (p4_f (by omega)), e11, g_ne (by omega), G3.i _ _ (p4_f (by omega))]
  have l21 : x20.1 21 D.np = nI h := by
    rw [G20.i _ _ (p4_f (by omega)), e19, g_ne (by omega), e18, g_ne (by omega), F17.i _ _ (p4_f (by omega)), e16, g_ne (by omega), F15.i _ _ (p4_f (by omega)), e14, g_ne (by omega), F13.i _ _ (p4_f (by omega)), G12.i _ _ (p4_f (by omega)), e11, g_eq, hh1, i_nI]
  have l22 : x20.1 22 D.np = nI (ynum tp t5) := by
    rw [G20.i _ _ (p4_f (by omega)), e19, g_ne (by omega), e18, g_ne (by omega), F17.i _ _ (p4_f (by omega)), e16, g_ne (by omega), F15.i _ _ (p4_f (by omega)), e14, g_eq]
  have l23 : x20.1 23 D.np = nI (ynum tp t7) := by
    rw [G20.i _ _ (p4_f (by omega)), e19, g_ne (by omega), e18, g_ne (by omega), F17.i _ _ (p4_f (by omega)), e16, g_eq]
  have l24 : x20.1 24 D.np = nI (ynum tp t9) := by
    rw [G20.i _ _ (p4_f (by omega)), e19, g_ne (by omega), e18, g_eq]
  obtain ⟨d1, d2, d3, d4, d5, d6, d7, d8, d9⟩ := hD
  have hlt1 := (hX1.2.1.lt hB hm2.1).1
  have hlt3 := (hX3.2.1.lt hB hm3.1).1
  have k1 := hX1.2.1.1
  have k2 := hX2.2.1.1
  have k3 := (hw3.lt hX2.2.1 hB).1
  have k4 := hX3.2.1.1
  have k5 := hX12.2.1.1
  have k6 := (hw5.lt hX12.2.1 hB).1
  have k7 := ht5.1
  have k8 := (ht5.dg hB hu5.1).1
  have k9 := hX13.2.1.1
  have k10 := (hw7.lt hX14.2.1 hB).1
  have k11 := ht7.1
  have k12 := (ht7.dg hB hu7.1).1
  have k13 := hX15.2.1.1
  have k14 := (hw9.lt hX16.2.1 hB).1
  have k15 := ht9.1
  have k16 := (ht9.dg hB hu9.1).1
  have k17 := hX17.2.1.1
  have k18 := (hs.lt hX19.2.1).1
  refine hok t1 h t5 t7 t9 t10 t11 x20 (fun K F z => u10 K F (Or.inl ⟨hs, t11, hX20.2.1, z⟩)) hX20 (by omega) ⟨hV.1, ?_, fun i hi => ?_, hV.2.2.2.1, fun p hp => ?_, hV.2.2.2.2.2.1, hV.2.2.2.2.2.2.1, hV.2.2.2.2.2.2.2⟩ ⟨?_, ?_, ?_, ?_, fun i hi k hk => ?_, fun v hv => ⟨?_, ?_⟩, fun p hp => ?_, fun r hr e => ?_, fun r hr a l e => ?_⟩ (C19.tr (y_4C G20)) (back _ _ (by omega) (by omega) (by omega) (by omega) (by omega) (by omega) (by omega))
  · show D.np + 1 ≤ 8
    omega
  · show (1 ≤ upf D.nl (2 + D.np) (t1.2.1 - t1.1) i ∧ upf D.nl (2 + D.np) (t1.2.1 - t1.1) i ≤ 6) ∧ ∀ k, k < upf D.nl (2 + D.np) (t1.2.1 - t1.1) i → 1 ≤ upf D.nm (2 + D.np) (yltr tp t1.1) i k ∧ upf D.nm (2 + D.np) (yltr tp t1.1) i k ≤ 26
    have hm3 := hm2.2.2
    by_cases c : i = 2 + D.np
    · rw [c, upf_eq, upf_eq]
      exact ⟨by omega, fun k hk => y_ltr1 hX1.2.1 hB hm2.1 (by omega)⟩
    · rw [upf_ne c, upf_ne c]
      refine hV.2.2.1 i ?_
      rcases hi with z | z
      · exact Or.inl z
      · have z' : 2 ≤ i ∧ i < 2 + (D.np + 1) := z
        exact Or.inr (by omega)
  · have hp' : p < D.np + 1 := hp
    show upf D.ho D.np h p ≤ 1 ∧ upf D.wi D.np (ynum tp t5) p ≤ 9 ∧ upf D.oa D.np (ynum tp t7) p ≤ 9 ∧ upf D.ch D.np (ynum tp t9) p ≤ 9
    by_cases c : p = D.np
    · rw [c, upf_eq, upf_eq, upf_eq, upf_eq]
      exact ⟨by omega, hu5.2.2, hu7.2.2, hu9.2.2⟩
    · rw [upf_ne c, upf_ne c, upf_ne c, upf_ne c]
      exact hV.2.2.2.2.1 p (by omega)
  · rw [back _ _ (by omega) (by omega) (by omega) (by omega) (by omega) (by omega) (by omega)]; exact d1
  · rw [G20.i _ _ (p4_f (by omega)), e19, g_eq]; rfl
  · rw [back _ _ (by omega) (by omega) (by omega) (by omega) (by omega) (by omega) (by omega)]; exact d3
  · rw [back _ _ (by omega) (by omega) (by omega) (by omega) (by omega) (by omega) (by omega)]; exact d4
  · rw [l18]
    show _ = nI (if k < upf D.nl (2 + D.np) (t1.2.1 - t1.1) i then upf D.nm (2 + D.np) (yltr tp t1.1) i k else 0)
    by_cases c : i = 2 + D.np
    · rw [c, upf_eq, upf_eq]
      exact hL2 k hk
    · rw [upf_ne c, upf_ne c]
      refine D2.2.2.2.2.1 i ?_ k hk
      rcases hi with z | z
      · exact Or.inl z
      · have z' : 2 ≤ i ∧ i < 2 + (D.np + 1) := z
        exact Or.inr (by omega)
  · rw [back _ _ (by omega) (by omega) (by omega) (by omega) (by omega) (by omega) (by omega)]; exact (d6 v hv).1
  · rw [back _ _ (by omega) (by omega) (by omega) (by omega) (by omega) (by omega) (by omega)]; exact (d6 v hv).2
  · have hp' : p < D.np + 1 := hp
    show _ = nI (upf D.ho D.np h p) ∧ _ = nI (upf D.wi D.np (ynum tp t5) p) ∧ _ = nI (upf D.oa D.np (ynum tp t7) p) ∧ _ = nI (upf D.ch D.np (ynum tp t9) p)
    by_cases c : p = D.np
    · rw [c, upf_eq, upf_eq, upf_eq, upf_eq]
      exact ⟨l21, l22, l23, l24⟩
    · rw [upf_ne c, upf_ne c, upf_ne c, upf_ne c, back _ _ (by omega) (by omega) (by omega) (by omega) (by omega) (by omega) (by omega), back _ _ (by omega) (by omega) (by omega) (by omega) (by omega) (by omega) (by omega), back _ _ (by omega) (by omega) (by omega) (by omega) (by omega) (by omega) (by omega), back _ _ (by omega) (by omega) (by omega) (by omega) (by omega) (by omega) (by omega)]
      exact d7 p (by omega)
  · exact (back _ _ (by omega) (by omega) (by omega) (by omega) (by omega) (by omega) (by omega)).trans (d8 r hr e)
  · obtain ⟨z1, z2, z3⟩ := d9 r hr a l e
    exact ⟨(back _ _ (by omega) (by omega) (by omega) (by omega) (by omega) (by omega) (by omega)).trans z1, (back _ _ (by omega) (by omega) (by omega) (by omega) (by omega) (by omega) (by omega)).trans z2, z3.cong (fun k _ _ => back _ _ (by omega) (by omega) (by omega) (by omega) (by omega) (by omega) (by omega))⟩

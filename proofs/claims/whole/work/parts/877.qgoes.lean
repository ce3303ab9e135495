/-! THE MODEL'S SUMS: a part without one behind it; what stands behind a part -/
theorem y_wk : ∀ k, k < 11 → 199 ≤ 256 + k ∧ 256 + k ≤ 268 ∧ k < 32 ∧ (wds (256 + k)).length = (wds (256 + k)).length ∧ wds (256 + k) = yWL.getD k [] := by decide +kernel
theorem cM_slot {k : Nat} (hk : k < 11) : cM (10000 + k) = 40 + k := by
  unfold cM
  rw [if_neg (by omega), if_neg (by omega), if_pos (by omega)]
  omega
theorem cM_num {v : Nat} (hv : v ≤ 9999) : cM v = 1000 + v := by
  unfold cM
  rw [if_neg (by omega), if_pos (by omega)]
theorem y_A_leaf {tp : Nat → Nat} {tn b : Nat} {so : Bool} {t : yTok} {a : Nat} {w : List Nat} {o : Nat} {L : List Nat} {bs tk : Nat} {m : fz_s} (h : yPM tp tn b so t a m) (hS : yQS w o L bs tk m) (htk : tk ≤ 2) (hl : L.length + w.length < 1650) (n40 : ¬ ySg tp t 40) (n24 : ¬ yWo t 24) (n25 : ¬ yWo t 25) (nof : ¬ (tk = 2 ∧ (yWo t 0 ∨ yWo t 13))) {C : fz_s → Prop} {n : Nat} (hn : 1 ≤ n)
    (hSl : ∀ k : Nat, k ≤ 10 → yWo t k → yal tk k → ∀ m', yAd tp tn t.2.1 true m' → yQS w o (L ++ [10000 + k]) bs tk m' → Fr pQ m m' → lp_X12_qEndsPart_0 C 2048 m')
    (hNu : yNu tp t 9999 → ∀ m', yAd tp tn t.2.1 true m' → yQS w o (L ++ [yval tp t.1 (t.2.1 - t.1)]) bs tk m' → Fr pQ m m' → lp_X12_qEndsPart_0 C 2048 m')
    (hNo : ¬ (t.2.2.1 = 1 ∧ (0 ≤ t.2.2.2 ∧ t.2.2.2 ≤ 10) ∧ yal tk t.2.2.2) → ¬ yNu tp t 9999 → ∀ m', yFQ (yNk t) (yNp t) m' → Fr pQ m m' → C m') : lp_X12_qPartTold_2 C (n + 1) true m := by
  refine y_Adisp h hS htk (fun z => absurd z n40) (fun z => by rcases z with z | z; exact absurd z n24; exact absurd z n25) (fun z => absurd z nof) (fun _ _ _ _ m1 h1 S1 F1 => ?_)
  obtain ⟨k, rfl⟩ : ∃ k, n = k + 1 := ⟨n - 1, by omega⟩
  show nd_X12_qPartTold_2 (lp_X12_qPartTold_2 C k) C false m1
  unfold nd_X12_qPartTold_2
  refine b3 ?_
  unfold nd_X12_qPartTold_186
  refine bt h1.2.2.2.2.2.1 ?_
  have hiff := y_pt_iff (t := t) htk
  refine y_qwo h1 (lo := 0) (hi := 11) S1.1 htk ⟨by omega, by omega⟩ (fun z m2 h2 F2 => ?_) (fun z m2 h2 F2 => ?_)
  · have hp := hiff.mp z
    have e0 := y_pt_eq htk hp
    obtain ⟨j, hj⟩ : ∃ j : Nat, t.2.2.2 = (j : Int) := ⟨t.2.2.2.toNat, by omega⟩
    have hj10 : j ≤ 10 := by omega
    have hw : yWo t j := ⟨hp.1, hj⟩
    rw [e0, hj, ← i_nI]
    refine bf (y_nm1 (by omega)) (y_aw (by omega) ?_)
    refine y_asks h2 j (y_wk j (by omega)) (fun _ m3 h3 F3 => ?_) (fun y => absurd hw y)
    unfold nd_X12_qPartTold_212
    refine bf (y_nm1 (by omega)) ?_
    unfold nd_X12_qPartTold_237
    have e1 : (40 : Int32) + nI j = nI (cM (10000 + j)) := by
      rw [cM_slot (by omega)]
      exact N_add 40 j
    rw [e1]
    have F13 := (F1.tr (y_AK F2)).tr F3
    refine y_qCode (hS.k F13) (by omega) _ (fun m4 S4 F4 => ?_)
    exact hSl j hj10 hw (by rw [hj] at hp; exact hp.2.2) m4 (h3.q F4) S4 ((y_KQ F13).tr (y_SQ F4))
  · have F12 := F1.tr (y_AK F2)
    refine bt rfl ?_
    unfold nd_X12_qPartTold_212
    refine bt rfl ?_
    refine y_number (most := 9999) h2 (by omega) (fun hu m3 h3 F3 => ?_) (fun hu v m3 hv h3 F3 => ?_)
    · unfold nd_X12_qPartTold_237
      have hv : yval tp t.1 (t.2.1 - t.1) ≤ 9999 := hu.2.2
      have e1 : (1000 : Int32) + nI (yval tp t.1 (t.2.1 - t.1)) = nI (cM (yval tp t.1 (t.2.1 - t.1))) := by
        rw [cM_num hv]
        exact N_add 1000 _
      rw [e1]
      refine y_qCode (hS.k (F12.tr F3)) (by omega) _ (fun m4 S4 F4 => ?_)
      exact hNu hu m4 (h3.q F4) S4 ((y_KQ (F12.tr F3)).tr (y_SQ F4))
    · unfold nd_X12_qPartTold_237
      have S3 := hS.k (F12.tr F3)
      unfold wp_X12_qCode
      rw [S3.2.1]
      refine ⟨N_in ⟨by omega, by omega⟩, fun s4 e4 s5 e5 => ?_⟩
      have r4 : s4.1 196 101 = nI L.length := by rw [e4, g_ne (by omega)]; exact S3.2.1
      rw [r4, nI_1] at e5
      have F5 : Fr pQs m3 s5 := by rw [e5, e4]; exact (Fr.rf.si (pQs_t (by omega))).si (pQs_t (by omega))
      have h5 := h3.q F5
      refine y_E_bad h5.bad (by omega) (hNo (fun y => z (hiff.mpr y)) hu s5 ⟨h5, L.length + 1, by omega, by rw [e5, g_eq]⟩ ((y_KQ (F12.tr F3)).tr (y_SQ F5)))
/-! behind a part -/
theorem y_qs_w {w : List Nat} {o : Nat} {L : List Nat} {bs tk : Nat} {m : fz_s} (h : yQS w o L bs tk m) {w' : List Nat} (e : w = w') : yQS w' o L bs tk m := e ▸ h
theorem y_pushes {w : List Nat} {o : Nat} {L : List Nat} {bs tk : Nat} {m : fz_s} (hS : yQS w o L bs tk m) (hl : w.length < 1700) {v : Nat} (hv : v < 100) {K : fz_s → Prop} (hq : ∀ m', yQS (v :: w) o L bs tk m' → Fr pQs m m' → K m') : vp_in (m.1 196 103) 1700 ∧ ∀ s5 : fz_s, s5 = si m 270 (m.1 196 103).toNatClampNeg (nI v) → ∀ s6 : fz_s, s6 = si s5 196 103 ((s5.1 196 103) + 1) → K s6 := by
  obtain ⟨a1, a2, a3, a4, a5, a6, a7, a8⟩ := hS
  rw [a3]
  refine ⟨N_in ⟨by omega, by omega⟩, fun s5 e5 s6 e6 => hq s6 ⟨?_, ?_, ?_, ?_, ?_, ⟨?_, ?_⟩, ?_, ?_⟩ ?_⟩
  · rw [e6, g_nj (by omega), e5, g_ne (by omega)]; exact a1
  · rw [e6, g_nj (by omega), e5, g_ne (by omega)]; exact a2
  · rw [e6, g_eq, e5, g_ne (by omega), a3, nI_1]; rfl
  · rw [e6, g_nj (by omega), e5, g_ne (by omega)]; exact a4
  · rw [e6, g_nj (by omega), e5, g_ne (by omega)]; exact a5
  · rw [e6, g_ne (by omega), e5, N_cl (by omega), g_eq]
  · exact a6.cong (fun k hk => by rw [e6, g_ne (by omega), e5, N_cl (by omega), g_nj (by omega)])
  · exact a7.cong (fun k _ _ => by rw [e6, g_ne (by omega), e5, g_ne (by omega)])
  · intro u hu
    rcases List.mem_cons.mp hu with rfl | hu
    · exact hv
    · exact a8 u hu
  · rw [e6, e5]; exact (Fr.rf.si (pQs_t (by omega))).si (pQs_t (by omega))
theorem y_apc {L : List Nat} {v : Nat} {p : List Nat} : L ++ [v + 20002] ++ ycs p = L ++ ycs (v :: p) := by
  rw [List.append_assoc]
  rfl
theorem y_162 {w : List Nat} {o : Nat} {bs tk op : Nat} (hop : op < 100) (hw : ¬ ∃ v w', w = v :: w' ∧ (v = 3 ∨ v = 4)) {m0 : fz_s} {Q : Bool → fz_s → Prop} {R : List Nat} (hq : ∀ m', yQS (op :: w) o R bs tk m' → Fr pQs m0 m' → Q true m') : ∀ (p : List Nat) (n : Nat) (L : List Nat) (m : fz_s), p.length < n → L.length + (p ++ w).length < 1690 → (∀ v, v ∈ p → v = 3 ∨ v = 4) → yQS (p ++ w) o L bs tk m → L ++ ycs p = R → Fr pQs m0 m → lp_X12_qGoesOn_162 Q n (nI op) m
  | p, 0, L, m, h1, _, _, _, _, _ => absurd h1 (by omega)
  | [], n + 1, L, m, h1, h2, h3, hS, hR, hF => by
    show nd_X12_qGoesOn_162 (lp_X12_qGoesOn_162 Q n) Q (nI op) m
    unfold nd_X12_qGoesOn_162
    have hS' : yQS w o L bs tk m := hS
    have h2' : L.length + w.length < 1690 := h2
    have hR' : L = R := by rw [← hR]; exact (List.append_nil L).symm
    refine y_qIsOn hS' (by omega) 3 (by omega) (fun z => ?_) (fun _ => b4 ?_)
    · obtain ⟨w', z⟩ := z
      exact absurd ⟨3, w', z, Or.inl rfl⟩ hw
    refine y_qIsOn hS' (by omega) 4 (by omega) (fun z => ?_) (fun _ => b3 ?_)
    · obtain ⟨w', z⟩ := z
      exact absurd ⟨4, w', z, Or.inr rfl⟩ hw
    exact y_pushes hS' (by omega) hop (fun m' S' F' => hq m' (hR' ▸ S') (hF.tr F'))
  | v :: p, n + 1, L, m, h1, h2, h3, hS, hR, hF => by
    have hv := h3 v List.mem_cons_self
    have el : (v :: p ++ w).length = (p ++ w).length + 1 := rfl
    have el3 : (v :: p).length = p.length + 1 := rfl
    have hS' : yQS (v :: (p ++ w)) o L bs tk m := hS
    have go : nd_X12_qGoesOn_178 (lp_X12_qGoesOn_162 Q n) Q (nI op) m := by
      unfold nd_X12_qGoesOn_178
      refine y_qDrops hS' (cM_op (v := v) (by omega)) (by omega) (fun m' S' F' => ?_)
      exact y_162 hop hw hq p n (L ++ [v + 20002]) m' (by omega) (by rw [List.length_append]; show L.length + 1 + _ < _; omega) (fun u hu => h3 u (List.mem_cons_of_mem _ hu)) S' (by rw [← hR, y_apc]) (hF.tr F')
    show nd_X12_qGoesOn_162 (lp_X12_qGoesOn_162 Q n) Q (nI op) m
    unfold nd_X12_qGoesOn_162
    refine y_qIsOn hS' (by rw [List.length_cons]; omega) 3 (by omega) (fun _ => b1 go) (fun z => b4 ?_)
    refine y_qIsOn hS' (by rw [List.length_cons]; omega) 4 (by omega) (fun _ => b2 go) (fun z2 => ?_)
    rcases hv with rfl | rfl
    · exact absurd ⟨_, rfl⟩ z
    · exact absurd ⟨_, rfl⟩ z2
theorem y_247 {w : List Nat} {o : Nat} {bs tk op : Nat} (hop : op < 100) (hw : ¬ ∃ v w', w = v :: w' ∧ (1 ≤ v ∧ v ≤ 4)) {m0 : fz_s} {Q : Bool → fz_s → Prop} {R : List Nat} (hq : ∀ m', yQS (op :: w) o R bs tk m' → Fr pQs m0 m' → Q true m') : ∀ (p : List Nat) (n : Nat) (L : List Nat) (m : fz_s), p.length < n → L.length + (p ++ w).length < 1690 → (∀ v, v ∈ p → 1 ≤ v ∧ v ≤ 4) → yQS (p ++ w) o L bs tk m → L ++ ycs p = R → Fr pQs m0 m → lp_X12_qGoesOn_247 Q n (nI op) m
  | p, 0, L, m, h1, _, _, _, _, _ => absurd h1 (by omega)
  | [], n + 1, L, m, h1, h2, h3, hS, hR, hF => by
    show nd_X12_qGoesOn_247 (lp_X12_qGoesOn_247 Q n) Q (nI op) m
    unfold nd_X12_qGoesOn_247
    have hS' : yQS w o L bs tk m := hS
    have h2' : L.length + w.length < 1690 := h2
    have hR' : L = R := by rw [← hR]; exact (List.append_nil L).symm
    refine y_qIsOn hS' (by omega) 3 (by omega) (fun z => ?_) (fun _ => b4 ?_)
    · obtain ⟨w', z⟩ := z
      exact absurd ⟨3, w', z, by omega, by omega⟩ hw
    refine y_qIsOn hS' (by omega) 4 (by omega) (fun z => ?_) (fun _ => b4 ?_)
    · obtain ⟨w', z⟩ := z
      exact absurd ⟨4, w', z, by omega, by omega⟩ hw
    refine y_qIsOn hS' (by omega) 1 (by omega) (fun z => ?_) (fun _ => b4 ?_)
    · obtain ⟨w', z⟩ := z
      exact absurd ⟨1, w', z, by omega, by omega⟩ hw
    refine y_qIsOn hS' (by omega) 2 (by omega) (fun z => ?_) (fun _ => b3 ?_)
    · obtain ⟨w', z⟩ := z
      exact absurd ⟨2, w', z, by omega, by omega⟩ hw
    exact y_pushes hS' (by omega) hop (fun m' S' F' => hq m' (hR' ▸ S') (hF.tr F'))
  | v :: p, n + 1, L, m, h1, h2, h3, hS, hR, hF => by
    have hv := h3 v List.mem_cons_self
    have el : (v :: p ++ w).length = (p ++ w).length + 1 := rfl
    have el3 : (v :: p).length = p.length + 1 := rfl
    have hS' : yQS (v :: (p ++ w)) o L bs tk m := hS
    have go : nd_X12_qGoesOn_279 (lp_X12_qGoesOn_247 Q n) Q (nI op) m := by
      unfold nd_X12_qGoesOn_279
      refine y_qDrops hS' (cM_op (v := v) (by omega)) (by omega) (fun m' S' F' => ?_)
      exact y_247 hop hw hq p n (L ++ [v + 20002]) m' (by omega) (by rw [List.length_append]; show L.length + 1 + _ < _; omega) (fun u hu => h3 u (List.mem_cons_of_mem _ hu)) S' (by rw [← hR, y_apc]) (hF.tr F')
    show nd_X12_qGoesOn_247 (lp_X12_qGoesOn_247 Q n) Q (nI op) m
    unfold nd_X12_qGoesOn_247
    refine y_qIsOn hS' (by rw [List.length_cons]; omega) 3 (by omega) (fun _ => b1 go) (fun z3 => b4 ?_)
    refine y_qIsOn hS' (by rw [List.length_cons]; omega) 4 (by omega) (fun _ => b1 go) (fun z4 => b4 ?_)
    refine y_qIsOn hS' (by rw [List.length_cons]; omega) 1 (by omega) (fun _ => b1 go) (fun z1 => b4 ?_)
    refine y_qIsOn hS' (by rw [List.length_cons]; omega) 2 (by omega) (fun _ => b2 go) (fun z2 => ?_)
    rcases (show v = 1 ∨ v = 2 ∨ v = 3 ∨ v = 4 by omega) with rfl | rfl | rfl | rfl
    · exact absurd ⟨_, rfl⟩ z1
    · exact absurd ⟨_, rfl⟩ z2
    · exact absurd ⟨_, rfl⟩ z3
    · exact absurd ⟨_, rfl⟩ z4
theorem y_dtb {v : Nat} {w : List Nat} {o : Nat} {bs tk : Nat} (hv : 20 ≤ v ∧ v ≤ 24) (hb : bs ≤ w.length) {m0 : fz_s} {Q : fz_s → Prop} {R : List Nat} (hq : ∀ m', yQS (v :: w) o R bs tk m' → Fr pQs m0 m' → Q m') : ∀ (p : List Nat) (n : Nat) (L : List Nat) (m : fz_s), p.length < n → L.length + (p ++ v :: w).length < 1690 → (∀ u, u ∈ p → 1 ≤ u ∧ u ≤ 4) → yQS (p ++ v :: w) o L bs tk m → L ++ ycs p = R → Fr pQs m0 m → lp_X12_qDropsToBracket_0 Q n m
  | p, 0, L, m, h1, _, _, _, _, _ => absurd h1 (by omega)
  | [], n + 1, L, m, h1, h2, h3, hS, hR, hF => by
    show nd_X12_qDropsToBracket_0 (lp_X12_qDropsToBracket_0 Q n) Q m
    unfold nd_X12_qDropsToBracket_0
    obtain ⟨a1, a2, a3, a4, a5, a6, a7, a8⟩ := id hS
    have hR' : L = R := by rw [← hR]; exact (List.append_nil L).symm
    have el : ([] ++ v :: w).length = w.length + 1 := rfl
    rw [el] at h2 a3
    rw [a3, a5]
    refine bf (by simp (disch := omega) only [N_lit, N_add, N_mul, N_sub, N_addneg, N_neg1, N_addm, N_le, N_lt, N_eq, N_in, N_cl, N_ne, N_ne', N_ltm, N_mlt, N_lem] <;> omega) ?_
    rw [show nI (w.length + 1) - 1 = nI w.length from N_sub (b := 1) (by omega)]
    refine ⟨N_in ⟨by omega, by omega⟩, ?_⟩
    rw [N_cl (by omega), show m.1 270 w.length = nI v from a6.1]
    unfold wp_X12_qIsBracket
    refine bf (by simp (disch := omega) only [N_lit, N_add, N_mul, N_sub, N_addneg, N_neg1, N_addm, N_le, N_lt, N_eq, N_in, N_cl, N_ne, N_ne', N_ltm, N_mlt, N_lem] <;> omega) (bf (by simp (disch := omega) only [N_lit, N_add, N_mul, N_sub, N_addneg, N_neg1, N_addm, N_le, N_lt, N_eq, N_in, N_cl, N_ne, N_ne', N_ltm, N_mlt, N_lem] <;> omega) (b1 ?_))
    exact hq m (hR' ▸ hS) hF
  | u :: p, n + 1, L, m, h1, h2, h3, hS, hR, hF => by
    have hu := h3 u List.mem_cons_self
    have el : (u :: p ++ v :: w).length = (p ++ v :: w).length + 1 := rfl
    have el2 : (p ++ v :: w).length = p.length + (w.length + 1) := List.length_append
    have el3 : (u :: p).length = p.length + 1 := rfl
    have hS' : yQS (u :: (p ++ v :: w)) o L bs tk m := hS
    obtain ⟨a1, a2, a3, a4, a5, a6, a7, a8⟩ := id hS'
    rw [List.length_cons] at a3
    show nd_X12_qDropsToBracket_0 (lp_X12_qDropsToBracket_0 Q n) Q m
    unfold nd_X12_qDropsToBracket_0
    rw [a3, a5]
    refine bf (by simp (disch := omega) only [N_lit, N_add, N_mul, N_sub, N_addneg, N_neg1, N_addm, N_le, N_lt, N_eq, N_in, N_cl, N_ne, N_ne', N_ltm, N_mlt, N_lem] <;> omega) ?_
    rw [show nI ((p ++ v :: w).length + 1) - 1 = nI (p ++ v :: w).length from N_sub (b := 1) (by omega)]
    refine ⟨N_in ⟨by omega, by omega⟩, ?_⟩
    rw [N_cl (by omega), a6.1]
    unfold wp_X12_qIsBracket
    refine bt (by simp (disch := omega) only [N_lit, N_add, N_mul, N_sub, N_addneg, N_neg1, N_addm, N_le, N_lt, N_eq, N_in, N_cl, N_ne, N_ne', N_ltm, N_mlt, N_lem] <;> omega) (b4 ?_)
    refine y_qDrops hS' (cM_op (v := u) (by omega)) (by omega) (fun m' S' F' => ?_)
    exact y_dtb hv hb hq p n (L ++ [u + 20002]) m' (by omega) (by rw [List.length_append]; show L.length + 1 + _ < _; omega) (fun z hz => h3 z (List.mem_cons_of_mem _ hz)) S' (by rw [← hR, y_apc]) (hF.tr F')

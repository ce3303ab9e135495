/-! THE MODEL'S TESTS: its loops' states -/
def yCT (Q : fz_s → Prop) (f1 : Nat) : Bool → fz_s → Prop := fun r9 s10 => ((r9 = false → lp_X12_qTest_2 Q f1 false s10) ∧ (r9 = true → lp_X12_qTest_2 Q f1 true s10))
def yCN (Q : fz_s → Prop) (f1 : Nat) : fz_s → Prop := fun s8 => ((¬ (s8.1 196 5) = 0 → lp_X12_qTest_2 Q f1 false s8) ∧ ((s8.1 196 5) = 0 → wp_X12_qGoesOnTest s8 (yCT Q f1)))
def yGT (Q : fz_s → Prop) (f1 f3 : Nat) (m : fz_s) : Prop := lp_X12_qGoesOnTest_0 (yCT Q f1) f3 m
theorem y_TF {Q : fz_s → Prop} {f1 : Nat} {r : Bool} {m : fz_s} (hb : ¬ m.1 196 5 = 0) (h1 : 1 ≤ f1) (hq : Q m) : lp_X12_qTest_2 Q f1 r m := by
  obtain ⟨n, rfl⟩ : ∃ n, f1 = n + 1 := ⟨f1 - 1, by omega⟩
  show nd_X12_qTest_2 (lp_X12_qTest_2 Q n) Q r m
  unfold nd_X12_qTest_2
  have go : lp_X12_qTest_110 Q 2048 m := nt hb hq
  cases r with
  | false => exact b3 go
  | true => exact b2 (nt hb go)
theorem y_N_bad {C : fz_s → Prop} {n : Nat} {m : fz_s} (hb : ¬ m.1 196 5 = 0) (hn : 1 ≤ n) (hq : C m) : lp_X12_qDropsNots_0 C n m := by
  obtain ⟨k, rfl⟩ : ∃ k, n = k + 1 := ⟨n - 1, by omega⟩
  exact nt hb hq
theorem y_N_exit {w : List Nat} {o : Nat} {L : List Nat} {bs tk : Nat} {C : fz_s → Prop} {n : Nat} {m : fz_s} (hS : yQS w o L bs tk m) (hb : m.1 196 5 = 0) (hl : w.length < 1700) (hw : ¬ ∃ w', w = 12 :: w') (hn : 1 ≤ n) (hq : C m) : lp_X12_qDropsNots_0 C n m := by
  obtain ⟨k, rfl⟩ : ∃ k, n = k + 1 := ⟨n - 1, by omega⟩
  show nd_X12_qDropsNots_0 (lp_X12_qDropsNots_0 C k) C m
  unfold nd_X12_qDropsNots_0
  exact nf hb (y_qIsOn hS hl 12 (by omega) (fun z => absurd z hw) (fun _ => b3 hq))
theorem y_N_pop {w : List Nat} {o : Nat} {L : List Nat} {bs tk : Nat} {C : fz_s → Prop} {n : Nat} {m : fz_s} (hS : yQS (12 :: w) (o + 1) L bs tk m) (hb : m.1 196 5 = 0) (hl : L.length + w.length < 1690) (hq : ∀ m', yQS w o (L ++ [20000]) bs tk m' → Fr pQs m m' → lp_X12_qDropsNots_0 C n m') : lp_X12_qDropsNots_0 C (n + 1) m := by
  show nd_X12_qDropsNots_0 (lp_X12_qDropsNots_0 C n) C m
  unfold nd_X12_qDropsNots_0
  refine nf hb (y_qIsOn hS (by rw [List.length_cons]; omega) 12 (by omega) (fun _ => b2 (fun s3 e3 => ?_)) (fun z => absurd ⟨w, rfl⟩ z))
  rw [hS.2.2.2.1, show nI (o + 1) - 1 = nI o from N_sub (b := 1) (by omega)] at e3
  exact y_qDropsO (c := 20000) hS e3 rfl (by omega) hq
theorem y_T_sq {tp : Nat → Nat} {tn b : Nat} {so : Bool} {t : yTok} {a : Nat} {w : List Nat} {o : Nat} {L : List Nat} {bs tk : Nat} {m : fz_s} (h : yPM tp tn b so t a m) (hS : yQS w o L bs tk m) (ho : o ≤ 6) (hl : L.length + w.length < 1650) (hs : ySg tp t 91) {Q : fz_s → Prop} {n : Nat} (hn : 1 ≤ n)
    (hT : o < 6 → ∀ m', yAd tp tn t.2.1 false m' → yQS (25 :: w) (o + 1) L bs tk m' → Fr pQ m m' → lp_X12_qTest_2 Q n true m')
    (hN : ¬ o < 6 → ∀ m', yFM 4 t.1 m' → Fr pQ m m' → Q m') : lp_X12_qTest_2 Q (n + 1) true m := by
  show nd_X12_qTest_2 (lp_X12_qTest_2 Q n) Q true m
  unfold nd_X12_qTest_2
  refine b2 (nf h.2.2.2.2.2.1 (y_look h (fun m1 h1 F1 => ?_)))
  have hn2 := h1.1.1
  have ht := h1.2.1.2.1
  have lk := y_lkc h1.2.1 h1.1.2.1 (y_sg 91 (by omega)).1 (y_sg 91 (by omega)).2
  have S1 := hS.k (y_AK F1)
  refine nf (lk.mpr hs) ?_
  rw [h1.2.2.2.1]
  refine y_qOpens (v := 25) S1 h1.2.2.2.2.2.1 (by omega) ho (by omega) (by omega) (fun c m2 S2 F2 s15 e15 => ?_) (fun c m2 h2 F2 s15 e15 => ?_)
  · have h2 := h1.q F2
    obtain ⟨z1, z2⟩ := y_adv1 h2 hs.1 e15
    exact hT c s15 z1 (S2.k z2) (((y_KQ (y_AK F1)).tr (y_SQ F2)).tr (y_KQ z2))
  · have F15 : Fr pKt m2 s15 := by rw [e15]; exact Fr.rf.si (pKt_t (by omega))
    have h15 : yFM 4 t.1 s15 := ⟨h2.1, h2.2.1, by rw [e15, g_nj (by omega)]; exact h2.2.2.1, by rw [e15, g_nj (by omega)]; exact h2.2.2.2⟩
    exact y_TF h15.bad hn (hN c s15 h15 (y_KQ (((y_AK F1).tr F2).tr F15)))
theorem y_T_not {tp : Nat → Nat} {tn b : Nat} {so : Bool} {t : yTok} {a : Nat} {w : List Nat} {o : Nat} {L : List Nat} {bs tk : Nat} {m : fz_s} (h : yPM tp tn b so t a m) (hS : yQS w o L bs tk m) (ho : o ≤ 6) (hl : L.length + w.length < 1650) (hs : yWo t 22) {Q : fz_s → Prop} {n : Nat} (hn : 1 ≤ n)
    (hT : o < 6 → ∀ m', yAd tp tn t.2.1 true m' → yQS (12 :: w) (o + 1) L bs tk m' → Fr pQ m m' → lp_X12_qTest_2 Q n true m')
    (hN : ¬ o < 6 → ∀ m', yFM 4 t.1 m' → Fr pQ m m' → Q m') : lp_X12_qTest_2 Q (n + 1) true m := by
  show nd_X12_qTest_2 (lp_X12_qTest_2 Q n) Q true m
  unfold nd_X12_qTest_2
  refine b2 (nf h.2.2.2.2.2.1 (y_look h (fun m1 h1 F1 => ?_)))
  have hn2 := h1.1.1
  have ht := h1.2.1.2.1
  have lk := y_lkc h1.2.1 h1.1.2.1 (y_sg 91 (by omega)).1 (y_sg 91 (by omega)).2
  refine nt (fun z => absurd (lk.mp z) hs.nsg) ?_
  refine y_isHere h1 22 (by decide +kernel) (fun _ m2 h2 F2 => b2 ?_) (fun z => absurd hs z)
  have F12 := y_AK (F1.tr F2)
  have S2 := hS.k F12
  rw [h2.2.2.2.1]
  refine y_qOpens (v := 12) S2 h2.2.2.2.2.2.1 (by omega) ho (by omega) (by omega) (fun c m3 S3 F3 => ?_) (fun c m3 h3 F3 => ?_)
  · refine y_asks (h2.q F3) 22 (by decide +kernel) (fun _ m4 h4 F4 => ?_) (fun z => absurd hs z)
    exact hT c m4 h4 (S3.k F4) (((y_KQ F12).tr (y_SQ F3)).tr (y_KQ F4))
  · exact y_asksBad h3.bad (y_TF h3.bad hn (hN c m3 h3 (y_KQ (F12.tr F3))))
theorem y_T_fact {tp : Nat → Nat} {tn b : Nat} {so : Bool} {t : yTok} {a : Nat} {w : List Nat} {o : Nat} {L : List Nat} {bs tk : Nat} {m : fz_s} (h : yPM tp tn b so t a m) (hS : yQS w o L bs tk m) (n91 : ¬ ySg tp t 91) (n22 : ¬ yWo t 22) {Q : fz_s → Prop} {n : Nat}
    (hT : ∀ m', yPM tp tn b so t t.1 m' → yQS w o L bs tk m' → Fr pKt m m' → wp_X12_qFact m' (fun s6 => wp_X12_qDropsNots s6 (yCN Q n))) : lp_X12_qTest_2 Q (n + 1) true m := by
  show nd_X12_qTest_2 (lp_X12_qTest_2 Q n) Q true m
  unfold nd_X12_qTest_2
  refine b2 (nf h.2.2.2.2.2.1 (y_look h (fun m1 h1 F1 => ?_)))
  have lk := y_lkc h1.2.1 h1.1.2.1 (y_sg 91 (by omega)).1 (y_sg 91 (by omega)).2
  refine nt (fun z => n91 (lk.mp z)) ?_
  refine y_isHere h1 22 (by decide +kernel) (fun z => absurd z n22) (fun _ m2 h2 F2 => b3 ?_)
  exact hT m2 h2 (hS.k (y_AK (F1.tr F2))) (y_AK (F1.tr F2))
/-! behind a fact -/
theorem y_87 {w : List Nat} {o : Nat} {bs tk : Nat} (hw : ¬ ∃ w', w = 10 :: w') {m0 : fz_s} {Q : Bool → fz_s → Prop} {R : List Nat} (hq : ∀ m', yQS (10 :: w) o R bs tk m' → Fr pQs m0 m' → Q true m') : ∀ (p : List Nat) (n : Nat) (L : List Nat) (m : fz_s), p.length < n → L.length + (p ++ w).length < 1690 → (∀ v, v ∈ p → v = 10) → yQS (p ++ w) o L bs tk m → L ++ ycs p = R → Fr pQs m0 m → lp_X12_qGoesOnTest_87 Q n m
  | p, 0, L, m, h1, _, _, _, _, _ => absurd h1 (by omega)
  | [], n + 1, L, m, h1, h2, h3, hS, hR, hF => by
    show nd_X12_qGoesOnTest_87 (lp_X12_qGoesOnTest_87 Q n) Q m
    unfold nd_X12_qGoesOnTest_87
    have hS' : yQS w o L bs tk m := hS
    have h2' : L.length + w.length < 1690 := h2
    have hR' : L = R := by rw [← hR]; exact (List.append_nil L).symm
    refine y_qIsOn hS' (by omega) 10 (by omega) (fun z => absurd z hw) (fun _ => b3 ?_)
    exact y_pushes (v := 10) hS' (by omega) (by omega) (fun m' S' F' => hq m' (hR' ▸ S') (hF.tr F'))
  | v :: p, n + 1, L, m, h1, h2, h3, hS, hR, hF => by
    have hv := h3 v List.mem_cons_self
    subst hv
    have el : (10 :: p ++ w).length = (p ++ w).length + 1 := rfl
    have el3 : (10 :: p).length = p.length + 1 := rfl
    have hS' : yQS (10 :: (p ++ w)) o L bs tk m := hS
    show nd_X12_qGoesOnTest_87 (lp_X12_qGoesOnTest_87 Q n) Q m
    unfold nd_X12_qGoesOnTest_87
    refine y_qIsOn hS' (by rw [List.length_cons]; omega) 10 (by omega) (fun _ => b2 ?_) (fun z => absurd ⟨_, rfl⟩ z)
    refine y_qDrops hS' (cM_op (v := 10) (by omega)) (by omega) (fun m' S' F' => ?_)
    exact y_87 hw hq p n (L ++ [10 + 20002]) m' (by omega) (by rw [List.length_append]; show L.length + 1 + _ < _; omega) (fun u hu => h3 u (List.mem_cons_of_mem _ hu)) S' (by rw [← hR, y_apc]) (hF.tr F')
theorem y_137 {w : List Nat} {o : Nat} {bs tk : Nat} (hw : ¬ ∃ v w', w = v :: w' ∧ (v = 10 ∨ v = 11)) {m0 : fz_s} {Q : Bool → fz_s → Prop} {R : List Nat} (hq : ∀ m', yQS (11 :: w) o R bs tk m' → Fr pQs m0 m' → Q true m') : ∀ (p : List Nat) (n : Nat) (L : List Nat) (m : fz_s), p.length < n → L.length + (p ++ w).length < 1690 → (∀ v, v ∈ p → v = 10 ∨ v = 11) → yQS (p ++ w) o L bs tk m → L ++ ycs p = R → Fr pQs m0 m → lp_X12_qGoesOnTest_137 Q n m
  | p, 0, L, m, h1, _, _, _, _, _ => absurd h1 (by omega)
  | [], n + 1, L, m, h1, h2, h3, hS, hR, hF => by
    show nd_X12_qGoesOnTest_137 (lp_X12_qGoesOnTest_137 Q n) Q m
    unfold nd_X12_qGoesOnTest_137
    have hS' : yQS w o L bs tk m := hS
    have h2' : L.length + w.length < 1690 := h2
    have hR' : L = R := by rw [← hR]; exact (List.append_nil L).symm
    refine y_qIsOn hS' (by omega) 10 (by omega) (fun z => ?_) (fun _ => b4 ?_)
    · obtain ⟨w', z⟩ := z
      exact absurd ⟨10, w', z, Or.inl rfl⟩ hw
    refine y_qIsOn hS' (by omega) 11 (by omega) (fun z => ?_) (fun _ => b3 ?_)
    · obtain ⟨w', z⟩ := z
      exact absurd ⟨11, w', z, Or.inr rfl⟩ hw
    exact y_pushes (v := 11) hS' (by omega) (by omega) (fun m' S' F' => hq m' (hR' ▸ S') (hF.tr F'))
  | v :: p, n + 1, L, m, h1, h2, h3, hS, hR, hF => by
    have hv := h3 v List.mem_cons_self
    have el : (v :: p ++ w).length = (p ++ w).length + 1 := rfl
    have el3 : (v :: p).length = p.length + 1 := rfl
    have hS' : yQS (v :: (p ++ w)) o L bs tk m := hS
    have go : nd_X12_qGoesOnTest_155 (lp_X12_qGoesOnTest_137 Q n) Q m := by
      unfold nd_X12_qGoesOnTest_155
      refine y_qDrops hS' (cM_op (v := v) (by omega)) (by omega) (fun m' S' F' => ?_)
      exact y_137 hw hq p n (L ++ [v + 20002]) m' (by omega) (by rw [List.length_append]; show L.length + 1 + _ < _; omega) (fun u hu => h3 u (List.mem_cons_of_mem _ hu)) S' (by rw [← hR, y_apc]) (hF.tr F')
    show nd_X12_qGoesOnTest_137 (lp_X12_qGoesOnTest_137 Q n) Q m
    unfold nd_X12_qGoesOnTest_137
    refine y_qIsOn hS' (by rw [List.length_cons]; omega) 10 (by omega) (fun _ => b1 go) (fun z => b4 ?_)
    refine y_qIsOn hS' (by rw [List.length_cons]; omega) 11 (by omega) (fun _ => b2 go) (fun z2 => ?_)
    rcases hv with rfl | rfl
    · exact absurd ⟨_, rfl⟩ z
    · exact absurd ⟨_, rfl⟩ z2
theorem y_G0n {tp : Nat → Nat} {tn b : Nat} {so : Bool} {t : yTok} {a : Nat} {m : fz_s} (h : yPM tp tn b so t a m) (hs : ¬ ySg tp t 93) {Q : Bool → fz_s → Prop} {n : Nat} (hn : 1 ≤ n) (hq : ∀ m', yPM tp tn b so t t.1 m' → Fr pKt m m' → nd_X12_qGoesOnTest_76 Q m') : lp_X12_qGoesOnTest_0 Q n m := by
  obtain ⟨k, rfl⟩ : ∃ k, n = k + 1 := ⟨n - 1, by omega⟩
  show nd_X12_qGoesOnTest_0 (lp_X12_qGoesOnTest_0 Q k) Q m
  unfold nd_X12_qGoesOnTest_0
  refine nf h.2.2.2.2.2.1 (y_look h (fun m1 h1 F1 => ?_))
  have lk := y_lkc h1.2.1 h1.1.2.1 (y_sg 93 (by omega)).1 (y_sg 93 (by omega)).2
  exact nt (fun z => hs (lk.mp z)) (hq m1 h1 (y_AK F1))
theorem y_testA {Q : fz_s → Prop} {f1 : Nat} {m : fz_s} (hq : lp_X12_qTest_2 Q f1 true m) : yCT Q f1 true m := b2 hq
theorem y_G_and {tp : Nat → Nat} {tn b : Nat} {so : Bool} {t t' : yTok} {a : Nat} {p w : List Nat} {o : Nat} {L : List Nat} {bs tk : Nat} {m : fz_s} (h : yPM tp tn b so t a m) (hS : yQS (p ++ w) o L bs tk m) (hl : L.length + (p ++ w).length < 1650) (hp : (∀ v, v ∈ p → v = 10) ∧ p.length < 10) (hw : ¬ ∃ w', w = 10 :: w') (hs : yWo t 21) (ht' : yTS tp tn t.2.1 true t') {Q : fz_s → Prop} {f1 f3 : Nat} (hf : 1 ≤ f3) (hq : ∀ m', yPM tp tn t.2.1 true t' t.2.1 m' → yQS (10 :: w) o (L ++ ycs p) bs tk m' → Fr pQ m m' → lp_X12_qTest_2 Q f1 true m') : yGT Q f1 f3 m := by
  refine y_G0n h hs.nsg hf (fun m1 h1 F1 => ?_)
  unfold nd_X12_qGoesOnTest_76
  refine y_takes h1 21 (by decide +kernel) (fun _ m2 h2 F2 => b2 ?_) (fun z => absurd hs z)
  have el : (p ++ w).length = p.length + w.length := List.length_append
  have h2' := h2 t' ht'
  refine y_87 (w := w) (o := o) (bs := bs) (tk := tk) hw (fun m3 S3 F3 => ?_) p 2048 L m2 (by omega) (by omega) hp.1 (hS.k (F1.tr F2)) rfl Fr.rf
  exact y_testA (hq m3 (h2'.q F3) S3 ((y_KQ (F1.tr F2)).tr (y_SQ F3)))
theorem y_G_or {tp : Nat → Nat} {tn b : Nat} {so : Bool} {t t' : yTok} {a : Nat} {p w : List Nat} {o : Nat} {L : List Nat} {bs tk : Nat} {m : fz_s} (h : yPM tp tn b so t a m) (hS : yQS (p ++ w) o L bs tk m) (hl : L.length + (p ++ w).length < 1650) (hp : (∀ v, v ∈ p → v = 10 ∨ v = 11) ∧ p.length < 10) (hw : ¬ ∃ v w', w = v :: w' ∧ (v = 10 ∨ v = 11)) (hs : yWo t 20) (ht' : yTS tp tn t.2.1 true t') {Q : fz_s → Prop} {f1 f3 : Nat} (hf : 1 ≤ f3) (hq : ∀ m', yPM tp tn t.2.1 true t' t.2.1 m' → yQS (11 :: w) o (L ++ ycs p) bs tk m' → Fr pQ m m' → lp_X12_qTest_2 Q f1 true m') : yGT Q f1 f3 m := by
  refine y_G0n h hs.nsg hf (fun m1 h1 F1 => ?_)
  unfold nd_X12_qGoesOnTest_76
  refine y_takes h1 21 (by decide +kernel) (fun z => absurd z (hs.ne (by omega))) (fun _ m2 h2 F2 => b3 ?_)
  refine y_takes h2 20 (by decide +kernel) (fun _ m3 h3 F3 => b2 ?_) (fun z => absurd hs z)
  have el : (p ++ w).length = p.length + w.length := List.length_append
  have h3' := h3 t' ht'
  have F13 := F1.tr (F2.tr F3)
  refine y_137 (w := w) (o := o) (bs := bs) (tk := tk) hw (fun m4 S4 F4 => ?_) p 2048 L m3 (by omega) (by omega) hp.1 (hS.k F13) rfl Fr.rf
  exact y_testA (hq m4 (h3'.q F4) S4 ((y_KQ F13).tr (y_SQ F4)))
theorem ySt.get {f : Nat → Int32} : ∀ {st : List Nat}, ySt f st → (∀ v, v ∈ st → v < 100) → ∀ i, i < st.length → ∃ v, v ∈ st ∧ f i = nI v
  | [], _, _, i, hi => absurd hi (Nat.not_lt_zero _)
  | v :: t, h, hv, i, hi => by
    by_cases c : i = t.length
    · exact ⟨v, List.mem_cons_self, by rw [c]; exact h.1⟩
    · obtain ⟨u, h1, h2⟩ := ySt.get h.2 (fun u hu => hv u (List.mem_cons_of_mem _ hu)) i (by rw [List.length_cons] at hi; omega)
      exact ⟨u, List.mem_cons_of_mem _ h1, h2⟩
theorem ySt.has {f : Nat → Int32} : ∀ {st : List Nat} {v : Nat}, ySt f st → v ∈ st → ∃ i, i < st.length ∧ f i = nI v
  | [], v, _, hv => by cases hv
  | u :: t, v, h, hv => by
    rcases List.mem_cons.mp hv with rfl | hv
    · exact ⟨t.length, Nat.lt_succ_self _, h.1⟩
    · obtain ⟨i, h1, h2⟩ := ySt.has h.2 hv
      exact ⟨i, Nat.lt_succ_of_lt h1, h2⟩
theorem y_hsqN {w : List Nat} {o : Nat} {L : List Nat} {bs tk : Nat} {m : fz_s} (hS : yQS w o L bs tk m) (hl : w.length < 1690) (hw : ∀ v, v ∈ w → v ≠ 25) {Q : Bool → fz_s → Prop} (hq : Q false m) : ∀ (n i : Nat), i ≤ w.length → w.length < n + i → lp_X12_qHasSquare_2 Q n (nI i) m
  | 0, i, h1, h2 => absurd h2 (by omega)
  | n + 1, i, h1, h2 => by
    show nd_X12_qHasSquare_2 (lp_X12_qHasSquare_2 Q n) Q (nI i) m
    unfold nd_X12_qHasSquare_2
    rw [hS.2.2.1]
    by_cases c : w.length ≤ i
    · exact bt (by simp (disch := omega) only [N_lit, N_add, N_mul, N_sub, N_addneg, N_neg1, N_addm, N_le, N_lt, N_eq, N_in, N_cl, N_ne, N_ne', N_ltm, N_mlt, N_lem] <;> omega) hq
    refine bf (by simp (disch := omega) only [N_lit, N_add, N_mul, N_sub, N_addneg, N_neg1, N_addm, N_le, N_lt, N_eq, N_in, N_cl, N_ne, N_ne', N_ltm, N_mlt, N_lem] <;> omega) ⟨N_in ⟨by omega, by omega⟩, ?_⟩
    obtain ⟨v, z1, z2⟩ := hS.2.2.2.2.2.1.get hS.2.2.2.2.2.2.2 i (by omega)
    have z3 := hS.2.2.2.2.2.2.2 v z1
    rw [N_cl (by omega), z2]
    refine nt (fun y => hw v z1 ((N_eq (b := 25) ⟨by omega, by omega⟩).mp y)) (fun x1 e1 => ?_)
    rw [e1, nI_1]
    exact y_hsqN hS hl hw hq n (i + 1) (by omega) (by omega)
theorem y_hsqT {w : List Nat} {o : Nat} {L : List Nat} {bs tk : Nat} {m : fz_s} (hS : yQS w o L bs tk m) (hl : w.length < 1690) {k : Nat} (hk : k < w.length) (hw : m.1 270 k = nI 25) {Q : Bool → fz_s → Prop} (hq : Q true m) : ∀ (n i : Nat), i ≤ k → k < n + i → lp_X12_qHasSquare_2 Q n (nI i) m
  | 0, i, h1, h2 => absurd h2 (by omega)
  | n + 1, i, h1, h2 => by
    show nd_X12_qHasSquare_2 (lp_X12_qHasSquare_2 Q n) Q (nI i) m
    unfold nd_X12_qHasSquare_2
    rw [hS.2.2.1]
    refine bf (by simp (disch := omega) only [N_lit, N_add, N_mul, N_sub, N_addneg, N_neg1, N_addm, N_le, N_lt, N_eq, N_in, N_cl, N_ne, N_ne', N_ltm, N_mlt, N_lem] <;> omega) ⟨N_in ⟨by omega, by omega⟩, ?_⟩
    obtain ⟨v, z1, z2⟩ := hS.2.2.2.2.2.1.get hS.2.2.2.2.2.2.2 i (by omega)
    have z3 := hS.2.2.2.2.2.2.2 v z1
    rw [N_cl (by omega), z2]
    by_cases c : v = 25
    · exact nf (by rw [c]; rfl) hq
    · refine nt (fun y => c ((N_eq (b := 25) ⟨by omega, by omega⟩).mp y)) (fun x1 e1 => ?_)
      rw [e1, nI_1]
      have : i ≠ k := fun y => by
        rw [y, hw] at z2
        exact c ((N_eq ⟨by omega, by omega⟩).mp z2).symm
      exact y_hsqT hS hl hk hw hq n (i + 1) (by omega) (by omega)
theorem y_hasT {w : List Nat} {o : Nat} {L : List Nat} {bs tk : Nat} {m : fz_s} (hS : yQS w o L bs tk m) (hl : w.length < 1690) (hw : 25 ∈ w) {Q : Bool → fz_s → Prop} (hq : Q true m) : wp_X12_qHasSquare m Q := by
  obtain ⟨k, h1, h2⟩ := hS.2.2.2.2.2.1.has hw
  exact y_hsqT hS hl h1 h2 hq 2048 0 (by omega) (by omega)
theorem y_hasN {w : List Nat} {o : Nat} {L : List Nat} {bs tk : Nat} {m : fz_s} (hS : yQS w o L bs tk m) (hl : w.length < 1690) (hw : ∀ v, v ∈ w → v ≠ 25) {Q : Bool → fz_s → Prop} (hq : Q false m) : wp_X12_qHasSquare m Q := y_hsqN hS hl hw hq 2048 0 (by omega) (by omega)
theorem y_33 {w : List Nat} {o : Nat} {bs tk : Nat} {m0 : fz_s} {K : fz_s → Prop} {Q : Bool → fz_s → Prop} {R : List Nat} (hq : ∀ m', yQS w o R bs tk m' → Fr pQs m0 m' → wp_X12_qDropsNots m' (fun s6 => K s6)) : ∀ (p : List Nat) (n : Nat) (L : List Nat) (m : fz_s), p.length < n → L.length + (p ++ 25 :: w).length < 1690 → (∀ v, v ∈ p → v = 10 ∨ v = 11) → yQS (p ++ 25 :: w) (o + 1) L bs tk m → L ++ ycs p = R → Fr pQs m0 m → lp_X12_qGoesOnTest_33 K Q n m
  | p, 0, L, m, h1, _, _, _, _, _ => absurd h1 (by omega)
  | [], n + 1, L, m, h1, h2, h3, hS, hR, hF => by
    show nd_X12_qGoesOnTest_33 K (lp_X12_qGoesOnTest_33 K Q n) Q m
    unfold nd_X12_qGoesOnTest_33
    have hS' : yQS (25 :: w) (o + 1) L bs tk m := hS
    have el : ([] ++ 25 :: w).length = w.length + 1 := rfl
    rw [el] at h2
    have hR' : L = R := by rw [← hR]; exact (List.append_nil L).symm
    refine y_qIsOn hS' (by rw [List.length_cons]; omega) 25 (by omega) (fun _ => b1 (fun s3 e3 s4 e4 => ?_)) (fun z => absurd ⟨w, rfl⟩ z)
    obtain ⟨a1, a2, a3, a4, a5, a6, a7, a8⟩ := id hS'
    have a3' : m.1 196 103 = nI (w.length + 1) := a3
    rw [a3', show nI (w.length + 1) - 1 = nI w.length from N_sub (b := 1) (by omega)] at e3
    have r4 : s3.1 196 104 = nI (o + 1) := by rw [e3, g_nj (by omega)]; exact a4
    rw [r4, show nI (o + 1) - 1 = nI o from N_sub (b := 1) (by omega)] at e4
    have F4 : Fr pQs m s4 := by rw [e4, e3]; exact (Fr.rf.si (pQs_t (by omega))).si (pQs_t (by omega))
    refine hq s4 ⟨?_, ?_, ?_, ?_, ?_, ?_, ?_, fun u hu => a8 u (List.mem_cons_of_mem _ hu)⟩ (hF.tr F4)
    · rw [e4, g_nj (by omega), e3, g_nj (by omega)]; exact a1
    · rw [e4, g_nj (by omega), e3, g_nj (by omega), ← hR']; exact a2
    · rw [e4, g_nj (by omega), e3, g_eq]
    · rw [e4, g_eq]
    · rw [e4, g_nj (by omega), e3, g_nj (by omega)]; exact a5
    · exact a6.2.cong (fun k hk => by rw [e4, g_ne (by omega), e3, g_ne (by omega)])
    · rw [← hR']
      exact a7.cong (fun k _ _ => by rw [e4, g_ne (by omega), e3, g_ne (by omega)])
  | v :: p, n + 1, L, m, h1, h2, h3, hS, hR, hF => by
    have hv := h3 v List.mem_cons_self
    have el : (v :: p ++ 25 :: w).length = (p ++ 25 :: w).length + 1 := rfl
    have el3 : (v :: p).length = p.length + 1 := rfl
    have hS' : yQS (v :: (p ++ 25 :: w)) (o + 1) L bs tk m := hS
    show nd_X12_qGoesOnTest_33 K (lp_X12_qGoesOnTest_33 K Q n) Q m
    unfold nd_X12_qGoesOnTest_33
    refine y_qIsOn hS' (by rw [List.length_cons]; omega) 25 (by omega) (fun z => ?_) (fun _ => b4 ?_)
    · obtain ⟨w', z⟩ := z
      cases z
      omega
    refine y_qDrops hS' (cM_op (v := v) (by omega)) (by omega) (fun m' S' F' => ?_)
    exact y_33 hq p n (L ++ [v + 20002]) m' (by omega) (by rw [List.length_append]; show L.length + 1 + _ < _; omega) (fun u hu => h3 u (List.mem_cons_of_mem _ hu)) S' (by rw [← hR, y_apc]) (hF.tr F')
theorem y_G_close {tp : Nat → Nat} {tn b : Nat} {so : Bool} {t t' : yTok} {a : Nat} {p w : List Nat} {o : Nat} {L : List Nat} {bs tk : Nat} {m : fz_s} (h : yPM tp tn b so t a m) (hS : yQS (p ++ 25 :: w) (o + 1) L bs tk m) (hl : L.length + (p ++ 25 :: w).length < 1650) (hp : (∀ v, v ∈ p → v = 10 ∨ v = 11) ∧ p.length < 10) (hs : ySg tp t 93) (ht' : yTS tp tn t.2.1 false t') {Q : fz_s → Prop} {f1 f3 : Nat} (hq : ∀ m', yPM tp tn t.2.1 false t' t.2.1 m' → yQS w o (L ++ ycs p) bs tk m' → Fr pQ m m' → lp_X12_qDropsNots_0 (fun s6 => yGT Q f1 f3 s6) 2048 m') : yGT Q f1 (f3 + 1) m := by
  show nd_X12_qGoesOnTest_0 (lp_X12_qGoesOnTest_0 (yCT Q f1) f3) (yCT Q f1) m
  unfold nd_X12_qGoesOnTest_0
  refine nf h.2.2.2.2.2.1 (y_look h (fun m1 h1 F1 => ?_))
  have lk := y_lkc h1.2.1 h1.1.2.1 (y_sg 93 (by omega)).1 (y_sg 93 (by omega)).2
  have S1 := hS.k (y_AK F1)
  have el : (p ++ 25 :: w).length = p.length + (w.length + 1) := List.length_append
  refine nf (lk.mpr hs) (y_hasT S1 (by omega) (List.mem_append.mpr (Or.inr List.mem_cons_self)) (b2 (fun s5 e5 => ?_)))
  obtain ⟨h5, F5⟩ := y_adv1 h1 hs.1 e5
  refine y_33 (fun m3 S3 F3 => ?_) p 2048 L s5 (by omega) (by omega) hp.1 (S1.k F5) rfl Fr.rf
  exact hq m3 ((h5 t' ht').q F3) S3 ((y_KQ ((y_AK F1).tr F5)).tr (y_SQ F3))
theorem y_76n {tp : Nat → Nat} {tn b : Nat} {so : Bool} {t : yTok} {m : fz_s} (h : yPM tp tn b so t t.1 m) (n20 : ¬ yWo t 20) (n21 : ¬ yWo t 21) {Q : Bool → fz_s → Prop} (hq : ∀ m', yPM tp tn b so t t.1 m' → Fr pKt m m' → wp_X12_qHasSquare m' (fun r5 s6 => ((r5 = false → Q false s6) ∧ (r5 = true → wp_X12_fail 1 (s6.1 196 2) s6 (fun s8 => Q false s8))))) : nd_X12_qGoesOnTest_76 Q m := by
  unfold nd_X12_qGoesOnTest_76
  refine y_takes h 21 (by decide +kernel) (fun z => absurd z n21) (fun _ m2 h2 F2 => b3 ?_)
  refine y_takes h2 20 (by decide +kernel) (fun z => absurd z n20) (fun _ m3 h3 F3 => b3 ?_)
  exact nf h3.2.2.2.2.2.1 (hq m3 h3 (F2.tr F3))
theorem y_G_fail {tp : Nat → Nat} {tn b : Nat} {so : Bool} {t : yTok} {a : Nat} {w : List Nat} {o : Nat} {L : List Nat} {bs tk : Nat} {m : fz_s} (h : yPM tp tn b so t a m) (hS : yQS w o L bs tk m) (hl : L.length + w.length < 1650) (hw : 25 ∈ w) (hs : ¬ ySg tp t 93) (n20 : ¬ yWo t 20) (n21 : ¬ yWo t 21) {Q : fz_s → Prop} {f1 f3 : Nat} (hf : 1 ≤ f1 ∧ 1 ≤ f3) (hq : ∀ m', yFM 1 t.1 m' → Fr pQ m m' → Q m') : yGT Q f1 f3 m := by
  refine y_G0n h hs hf.2 (fun m1 h1 F1 => y_76n h1 n20 n21 (fun m2 h2 F2 => ?_))
  have S2 := hS.k (F1.tr F2)
  refine y_hasT S2 (by omega) hw (b2 ?_)
  refine y_mfailAt h2 (kd := 1) ⟨by omega, by omega⟩ (fun m3 h3 F3 => b3 (y_TF h3.bad hf.1 (hq m3 h3 (y_KQ (F1.tr (F2.tr F3))))))
theorem y_110 {tp : Nat → Nat} {tn b : Nat} {so : Bool} {t : yTok} {o : Nat} {bs tk : Nat} {m0 : fz_s} {Q : fz_s → Prop} {R : List Nat} (hq : ∀ m', yPM tp tn b so t t.1 m' → yQS [] o R bs tk m' → Fr pQs m0 m' → Q m') : ∀ (p : List Nat) (n : Nat) (L : List Nat) (m : fz_s), p.length < n → L.length + p.length < 1690 → (∀ u, u ∈ p → u = 10 ∨ u = 11) → yPM tp tn b so t t.1 m → yQS p o L bs tk m → L ++ ycs p = R → Fr pQs m0 m → lp_X12_qTest_110 Q n m
  | p, 0, L, m, h1, _, _, _, _, _, _ => absurd h1 (by omega)
  | [], n + 1, L, m, h1, h2, h3, hP, hS, hR, hF => by
    show nd_X12_qTest_110 (lp_X12_qTest_110 Q n) Q m
    unfold nd_X12_qTest_110
    have hR' : L = R := by rw [← hR]; exact (List.append_nil L).symm
    refine nf hP.2.2.2.2.2.1 ?_
    rw [hS.2.2.1]
    exact bt (by decide +kernel) (hq m hP (hR' ▸ hS) hF)
  | u :: p, n + 1, L, m, h1, h2, h3, hP, hS, hR, hF => by
    have hu := h3 u List.mem_cons_self
    have el3 : (u :: p).length = p.length + 1 := rfl
    show nd_X12_qTest_110 (lp_X12_qTest_110 Q n) Q m
    unfold nd_X12_qTest_110
    refine nf hP.2.2.2.2.2.1 ?_
    rw [hS.2.2.1, el3]
    refine bf (by simp (disch := omega) only [N_lit, N_add, N_mul, N_sub, N_addneg, N_neg1, N_addm, N_le, N_lt, N_eq, N_in, N_cl, N_ne, N_ne', N_ltm, N_mlt, N_lem] <;> omega) ?_
    refine y_qDrops hS (cM_op (v := u) (by omega)) (by omega) (fun m' S' F' => ?_)
    exact y_110 hq p n (L ++ [u + 20002]) m' (by omega) (by rw [List.length_append]; show L.length + 1 + _ < _; omega) (fun z hz => h3 z (List.mem_cons_of_mem _ hz)) (hP.q F') S' (by rw [← hR, y_apc]) (hF.tr F')
theorem y_G_end {tp : Nat → Nat} {tn b : Nat} {so : Bool} {t : yTok} {a : Nat} {p : List Nat} {o : Nat} {L : List Nat} {bs tk : Nat} {m : fz_s} (h : yPM tp tn b so t a m) (hS : yQS p o L bs tk m) (hl : L.length + p.length < 1650) (hp : ∀ v, v ∈ p → v = 10 ∨ v = 11) (n20 : ¬ yWo t 20) (n21 : ¬ yWo t 21) {Q : fz_s → Prop} {f1 f3 : Nat} (hf : 1 ≤ f1 ∧ 1 ≤ f3) (hq : ∀ m', yPM tp tn b so t t.1 m' → yQS [] o (L ++ ycs p) bs tk m' → Fr pQ m m' → Q m') : yGT Q f1 f3 m := by
  have h25 : ∀ v, v ∈ p → v ≠ 25 := fun v hv => by have := hp v hv; omega
  have end76 : ∀ m1, yPM tp tn b so t t.1 m1 → Fr pKt m m1 → nd_X12_qGoesOnTest_76 (yCT Q f1) m1 := by
    intro m1 h1 F1
    refine y_76n h1 n20 n21 (fun m2 h2 F2 => ?_)
    have S2 := hS.k (F1.tr F2)
    refine y_hasN S2 (by omega) h25 (b3 (b3 ?_))
    obtain ⟨n, rfl⟩ : ∃ n, f1 = n + 1 := ⟨f1 - 1, by omega⟩
    show nd_X12_qTest_2 (lp_X12_qTest_2 Q n) Q false m2
    unfold nd_X12_qTest_2
    exact b3 (y_110 (fun m3 h3 S3 F3 => hq m3 h3 S3 ((y_KQ (F1.tr F2)).tr (y_SQ F3))) p 2048 L m2 (by omega) (by omega) hp h2 S2 rfl Fr.rf)
  by_cases c : ySg tp t 93
  · obtain ⟨k, rfl⟩ : ∃ k, f3 = k + 1 := ⟨f3 - 1, by omega⟩
    show nd_X12_qGoesOnTest_0 (lp_X12_qGoesOnTest_0 (yCT Q f1) k) (yCT Q f1) m
    unfold nd_X12_qGoesOnTest_0
    refine nf h.2.2.2.2.2.1 (y_look h (fun m1 h1 F1 => ?_))
    have lk := y_lkc h1.2.1 h1.1.2.1 (y_sg 93 (by omega)).1 (y_sg 93 (by omega)).2
    exact nf (lk.mpr c) (y_hasN (hS.k (y_AK F1)) (by omega) h25 (b3 (end76 m1 h1 (y_AK F1))))
  · exact y_G0n h c hf.2 end76

/-! THE MODEL'S SUMS: behind a part, sign by sign -/
theorem y_B0n {tp : Nat → Nat} {tn b : Nat} {so : Bool} {t : yTok} {a : Nat} {m : fz_s} (h : yPM tp tn b so t a m) (hs : ¬ ySg tp t 41) {Q : Bool → fz_s → Prop} {n : Nat} (hn : 1 ≤ n) (hq : ∀ m', yPM tp tn b so t t.1 m' → Fr pKt m m' → nd_X12_qGoesOn_122 Q m') : lp_X12_qGoesOn_0 Q n m := by
  obtain ⟨k, rfl⟩ : ∃ k, n = k + 1 := ⟨n - 1, by omega⟩
  show nd_X12_qGoesOn_0 (lp_X12_qGoesOn_0 Q k) Q m
  unfold nd_X12_qGoesOn_0
  refine nf h.2.2.2.2.2.1 (y_look h (fun m1 h1 F1 => ?_))
  have lk := y_lkc h1.2.1 h1.1.2.1 (y_sg 41 (by omega)).1 (y_sg 41 (by omega)).2
  exact nt (fun z => hs (lk.mp z)) (hq m1 h1 (y_AK F1))
theorem yBk.r {bs : Nat} {w : List Nat} {r : Int32} (h : yBk bs w r) : (r = -1 ∧ w.length = bs) ∨ ∃ v, 20 ≤ v ∧ v ≤ 24 ∧ r = nI v := by
  rcases h with ⟨z1, z2⟩ | ⟨z1, v, w', z2, z3, z4, z5⟩
  · exact Or.inl ⟨z2, z1⟩
  · exact Or.inr ⟨v, z3, z4, z5⟩
/-- a closing bracket that closes nothing -/
theorem y_B0 {tp : Nat → Nat} {tn b : Nat} {so : Bool} {t : yTok} {a : Nat} {p w : List Nat} {o : Nat} {L : List Nat} {bs tk : Nat} {m : fz_s} (h : yPM tp tn b so t a m) (hS : yQS (p ++ w) o L bs tk m) (hl : (p ++ w).length < 1690 ∧ p.length < 10) (hp : ∀ v, v ∈ p → v < 20) {r : Int32} (hbk : yBk bs w r) (hs : ¬ (ySg tp t 41 ∧ (r = 20 ∨ r = 23 ∨ r = 24))) {Q : Bool → fz_s → Prop} {n : Nat} (hn : 1 ≤ n) (hq : ∀ m', yPM tp tn b so t t.1 m' → Fr pKt m m' → nd_X12_qGoesOn_122 Q m') : lp_X12_qGoesOn_0 Q n m := by
  by_cases c : ySg tp t 41
  · obtain ⟨k, rfl⟩ : ∃ k, n = k + 1 := ⟨n - 1, by omega⟩
    show nd_X12_qGoesOn_0 (lp_X12_qGoesOn_0 Q k) Q m
    unfold nd_X12_qGoesOn_0
    refine nf h.2.2.2.2.2.1 (y_look h (fun m1 h1 F1 => ?_))
    have lk := y_lkc h1.2.1 h1.1.2.1 (y_sg 41 (by omega)).1 (y_sg 41 (by omega)).2
    have S1 := hS.k (y_AK F1)
    refine nf (lk.mpr c) ?_
    refine y_qBracket S1 hl hp hbk (bf (fun z => hs ⟨c, Or.inl z⟩) ?_)
    refine y_qBracket S1 hl hp hbk (bf (fun z => hs ⟨c, Or.inr (Or.inl z)⟩) ?_)
    refine y_qBracket S1 hl hp hbk (nt (fun z => hs ⟨c, Or.inr (Or.inr z)⟩) ?_)
    exact hq m1 h1 (y_AK F1)
  · exact y_B0n h c hn hq
theorem yAd.bad0 {tp : Nat → Nat} {tn b : Nat} {so : Bool} {t : yTok} {m : fz_s} (h : yAd tp tn b so m) (ht : yTS tp tn b so t) : m.1 196 5 = 0 := (h t ht).2.2.2.2.2.1
theorem y_B_mul {tp : Nat → Nat} {tn b : Nat} {so : Bool} {t t' : yTok} {a : Nat} {p w : List Nat} {o : Nat} {L : List Nat} {bs tk : Nat} {m : fz_s} (h : yPM tp tn b so t a m) (hS : yQS (p ++ w) o L bs tk m) (hl : L.length + (p ++ w).length < 1650) (hp : (∀ v, v ∈ p → v = 3 ∨ v = 4) ∧ p.length < 10) (hw : ¬ ∃ v w', w = v :: w' ∧ (v = 3 ∨ v = 4)) {op : Nat} (hs : (ySg tp t 42 ∧ op = 3) ∨ (ySg tp t 47 ∧ op = 4)) (ht' : yTS tp tn t.2.1 false t') {Q : fz_s → Prop} {f1 : Nat} {v1 : Int32} {f3 : Nat} (hf : 1 ≤ f1 ∧ 1 ≤ f3) (hq : ∀ m', yPM tp tn t.2.1 false t' t.2.1 m' → yQS (op :: w) o (L ++ ycs p) bs tk m' → Fr pQ m m' → yAS Q (f1 - 1) v1 2048 m') : yBS Q f1 v1 f3 m := by
  have hn41 : ¬ ySg tp t 41 := by
    rcases hs with z | z
    · exact z.1.ne (by omega)
    · exact z.1.ne (by omega)
  refine y_B0n h hn41 hf.2 (fun m1 h1 F1 => ?_)
  have el : (p ++ w).length = p.length + w.length := List.length_append
  have go : ∀ m2, yAd tp tn t.2.1 false m2 → m2.1 196 2 = nI (t.1 + 1) → Fr pKt m m2 → nd_X12_qGoesOn_140 (yCG Q f1 v1) m2 := by
    intro m2 h2 h2a F2
    have h2' := h2 t' ht'
    have hn2 := h2'.1.1
    have ht := h1.2.1.2.1
    have hB := h2'.1.2.1 t.1
    have hq1 : t.1 < tn := by
      rcases hs with z | z
      · have := z.1.1
        exact h1.2.1.k0.mpr (by omega)
      · have := z.1.1
        exact h1.2.1.k0.mpr (by omega)
    unfold nd_X12_qGoesOn_140
    rw [h2a, show nI (t.1 + 1) - 1 = nI t.1 from N_sub (b := 1) (by omega)]
    refine ⟨N_in ⟨by omega, by omega⟩, ?_⟩
    rw [N_cl (by omega), h2'.1.2.2.2.1 _ (by omega)]
    have fin : lp_X12_qGoesOn_162 (yCG Q f1 v1) 2048 (nI op) m2 := by
      refine y_162 (w := w) (o := o) (bs := bs) (tk := tk) (by omega) hw (fun m3 S3 F3 => ?_) p 2048 L m2 (by omega) (by omega) hp.1 (hS.k F2) rfl Fr.rf
      have h3 := h2'.q F3
      exact b2 (y_sumsA h3.2.2.2.2.2.1 hf.1 (hq m3 h3 S3 ((y_KQ F2).tr (y_SQ F3))))
    rcases hs with z | z
    · rw [z.2] at fin
      exact nf (by rw [z.1.2]; rfl) fin
    · rw [z.2] at fin
      exact nt (by rw [z.1.2]; decide +kernel) fin
  unfold nd_X12_qGoesOn_122
  refine y_takesSign h1 42 (y_sg 42 (by omega)) (fun _ m2 h2 h2a F2 => b1 (go m2 h2 h2a (F1.tr F2))) (fun z1 m2 h2 F2 => b4 ?_)
  refine y_takesSign h2 47 (y_sg 47 (by omega)) (fun _ m3 h3 h3a F3 => b2 (go m3 h3 h3a (F1.tr (F2.tr F3)))) (fun z2 m3 h3 F3 => ?_)
  rcases hs with z | z
  · exact absurd z.1 z1
  · exact absurd z.1 z2
theorem y_B_add {tp : Nat → Nat} {tn b : Nat} {so : Bool} {t t' : yTok} {a : Nat} {p w : List Nat} {o : Nat} {L : List Nat} {bs tk : Nat} {m : fz_s} (h : yPM tp tn b so t a m) (hS : yQS (p ++ w) o L bs tk m) (hl : L.length + (p ++ w).length < 1650) (hp : (∀ v, v ∈ p → 1 ≤ v ∧ v ≤ 4) ∧ p.length < 10) (hw : ¬ ∃ v w', w = v :: w' ∧ (1 ≤ v ∧ v ≤ 4)) {op : Nat} (hs : (ySg tp t 43 ∧ op = 1) ∨ (ySg tp t 45 ∧ op = 2)) (ht' : yTS tp tn t.2.1 false t') {Q : fz_s → Prop} {f1 : Nat} {v1 : Int32} {f3 : Nat} (hf : 1 ≤ f1 ∧ 1 ≤ f3) (hq : ∀ m', yPM tp tn t.2.1 false t' t.2.1 m' → yQS (op :: w) o (L ++ ycs p) bs tk m' → Fr pQ m m' → yAS Q (f1 - 1) v1 2048 m') : yBS Q f1 v1 f3 m := by
  have hn41 : ¬ ySg tp t 41 := by
    rcases hs with z | z
    · exact z.1.ne (by omega)
    · exact z.1.ne (by omega)
  have hn42 : ¬ ySg tp t 42 := by
    rcases hs with z | z
    · exact z.1.ne (by omega)
    · exact z.1.ne (by omega)
  have hn47 : ¬ ySg tp t 47 := by
    rcases hs with z | z
    · exact z.1.ne (by omega)
    · exact z.1.ne (by omega)
  refine y_B0n h hn41 hf.2 (fun m1 h1 F1 => ?_)
  have el : (p ++ w).length = p.length + w.length := List.length_append
  have go : ∀ m2, yAd tp tn t.2.1 false m2 → m2.1 196 2 = nI (t.1 + 1) → Fr pKt m m2 → nd_X12_qGoesOn_225 (yCG Q f1 v1) m2 := by
    intro m2 h2 h2a F2
    have h2' := h2 t' ht'
    have hn2 := h2'.1.1
    have ht := h1.2.1.2.1
    have hB := h2'.1.2.1 t.1
    have hq1 : t.1 < tn := by
      rcases hs with z | z
      · have := z.1.1
        exact h1.2.1.k0.mpr (by omega)
      · have := z.1.1
        exact h1.2.1.k0.mpr (by omega)
    unfold nd_X12_qGoesOn_225
    rw [h2a, show nI (t.1 + 1) - 1 = nI t.1 from N_sub (b := 1) (by omega)]
    refine ⟨N_in ⟨by omega, by omega⟩, ?_⟩
    rw [N_cl (by omega), h2'.1.2.2.2.1 _ (by omega)]
    have fin : lp_X12_qGoesOn_247 (yCG Q f1 v1) 2048 (nI op) m2 := by
      refine y_247 (w := w) (o := o) (bs := bs) (tk := tk) (by omega) hw (fun m3 S3 F3 => ?_) p 2048 L m2 (by omega) (by omega) hp.1 (hS.k F2) rfl Fr.rf
      have h3 := h2'.q F3
      exact b2 (y_sumsA h3.2.2.2.2.2.1 hf.1 (hq m3 h3 S3 ((y_KQ F2).tr (y_SQ F3))))
    rcases hs with z | z
    · rw [z.2] at fin
      exact nf (by rw [z.1.2]; rfl) fin
    · rw [z.2] at fin
      exact nt (by rw [z.1.2]; decide +kernel) fin
  unfold nd_X12_qGoesOn_122
  refine y_takesSign h1 42 (y_sg 42 (by omega)) (fun z => absurd z hn42) (fun _ m2 h2 F2 => b4 ?_)
  refine y_takesSign h2 47 (y_sg 47 (by omega)) (fun z => absurd z hn47) (fun _ m3 h3 F3 => b3 ?_)
  refine y_takesSign h3 43 (y_sg 43 (by omega)) (fun _ m4 h4 h4a F4 => b1 (go m4 h4 h4a (F1.tr (F2.tr (F3.tr F4))))) (fun z1 m4 h4 F4 => b4 ?_)
  refine y_takesSign h4 45 (y_sg 45 (by omega)) (fun _ m5 h5 h5a F5 => b2 (go m5 h5 h5a (F1.tr (F2.tr (F3.tr (F4.tr F5)))))) (fun z2 m5 h5 F5 => ?_)
  rcases hs with z | z
  · exact absurd z.1 z1
  · exact absurd z.1 z2
/-- no sign of a sum -/
def yNop (tp : Nat → Nat) (t : yTok) : Prop := ¬ ySg tp t 42 ∧ ¬ ySg tp t 47 ∧ ¬ ySg tp t 43 ∧ ¬ ySg tp t 45
def ycl (v : Nat) : List Nat := if v = 20 then [] else if v = 23 then [20007] else [20008]
theorem y_B_close {tp : Nat → Nat} {tn b : Nat} {so : Bool} {t t' : yTok} {a : Nat} {p w : List Nat} {v o : Nat} {L : List Nat} {bs tk : Nat} {m : fz_s} (h : yPM tp tn b so t a m) (hS : yQS (p ++ v :: w) (o + 1) L bs tk m) (hl : L.length + (p ++ v :: w).length < 1650) (hp : (∀ v, v ∈ p → 1 ≤ v ∧ v ≤ 4) ∧ p.length < 10) (hv : v = 20 ∨ v = 23 ∨ v = 24) (hbs : bs ≤ w.length) (hs : ySg tp t 41) (ht' : yTS tp tn t.2.1 false t') {Q : fz_s → Prop} {f1 : Nat} {v1 : Int32} {f3 : Nat} (hq : ∀ m', yPM tp tn t.2.1 false t' t.2.1 m' → yQS w o (L ++ ycs p ++ ycl v) bs tk m' → Fr pQ m m' → lp_X12_qEndsPart_0 (fun s2 => yBS Q f1 v1 f3 s2) 2048 m') : yBS Q f1 v1 (f3 + 1) m := by
  have el : (p ++ v :: w).length = p.length + (w.length + 1) := List.length_append
  have hbk : yBk bs (v :: w) (nI v) := Or.inr ⟨by rw [List.length_cons]; omega, v, w, rfl, by omega, by omega, rfl⟩
  show nd_X12_qGoesOn_0 (lp_X12_qGoesOn_0 (yCG Q f1 v1) f3) (yCG Q f1 v1) m
  unfold nd_X12_qGoesOn_0
  refine nf h.2.2.2.2.2.1 (y_look h (fun m1 h1 F1 => ?_))
  have lk := y_lkc h1.2.1 h1.1.2.1 (y_sg 41 (by omega)).1 (y_sg 41 (by omega)).2
  have S1 := hS.k (y_AK F1)
  have hp20 : ∀ u, u ∈ p → u < 20 := fun u hu => by have := hp.1 u hu; omega
  refine nf (lk.mpr hs) ?_
  have go : nd_X12_qGoesOn_43 (lp_X12_qGoesOn_0 (yCG Q f1 v1) f3) (yCG Q f1 v1) m1 := by
    unfold nd_X12_qGoesOn_43
    intro s2 e2
    obtain ⟨h2, F2⟩ := y_adv1 h1 hs.1 e2
    have h2' := h2 t' ht'
    refine y_dtb (v := v) (w := w) (o := o + 1) (bs := bs) (tk := tk) (by omega) hbs (fun m3 S3 F3 => ?_) p 2048 L s2 (by omega) (by omega) hp.1 (S1.k F2) rfl Fr.rf
    obtain ⟨a1, a2, a3, a4, a5, a6, a7, a8⟩ := id S3
    have a3' : m3.1 196 103 = nI (w.length + 1) := a3
    intro s4 e4 s5 e5
    rw [a3', show nI (w.length + 1) - 1 = nI w.length from N_sub (b := 1) (by omega)] at e4
    have r4 : s4.1 196 104 = nI (o + 1) := by rw [e4, g_nj (by omega)]; exact a4
    rw [r4, show nI (o + 1) - 1 = nI o from N_sub (b := 1) (by omega)] at e5
    have r5 : s5.1 196 103 = nI w.length := by rw [e5, g_nj (by omega), e4, g_eq]
    have r270 : s5.1 270 w.length = nI v := by rw [e5, g_ne (by omega), e4, g_ne (by omega)]; exact a6.1
    have S5 : yQS w o (L ++ ycs p) bs tk s5 := by
      refine ⟨?_, ?_, r5, ?_, ?_, ?_, ?_, fun u hu => a8 u (List.mem_cons_of_mem _ hu)⟩
      · rw [e5, g_nj (by omega), e4, g_nj (by omega)]; exact a1
      · rw [e5, g_nj (by omega), e4, g_nj (by omega)]; exact a2
      · rw [e5, g_eq]
      · rw [e5, g_nj (by omega), e4, g_nj (by omega)]; exact a5
      · exact a6.2.cong (fun k hk => by rw [e5, g_ne (by omega), e4, g_ne (by omega)])
      · exact a7.cong (fun k _ _ => by rw [e5, g_ne (by omega), e4, g_ne (by omega)])
    have F5 : Fr pQs m3 s5 := by rw [e5, e4]; exact (Fr.rf.si (pQs_t (by omega))).si (pQs_t (by omega))
    have FA : Fr pQ m s5 := ((y_KQ ((y_AK F1).tr F2)).tr (y_SQ F3)).tr (y_SQ F5)
    have h5 := h2'.q (F3.tr F5)
    have lp : (L ++ ycs p).length = L.length + p.length := by
      rw [List.length_append]
      unfold ycs
      rw [List.length_map]
    rw [r5]
    refine ⟨N_in ⟨by omega, by omega⟩, ?_⟩
    rw [N_cl (by omega), r270]
    by_cases c20 : v = 20
    · subst c20
      refine bt rfl ?_
      refine hq s5 h5 ?_ FA
      have : L ++ ycs p ++ ycl 20 = L ++ ycs p := List.append_nil _
      rw [this]
      exact S5
    · refine bf (by simp (disch := omega) only [N_lit, N_add, N_mul, N_sub, N_addneg, N_neg1, N_addm, N_le, N_lt, N_eq, N_in, N_cl, N_ne, N_ne', N_ltm, N_mlt, N_lem] <;> omega) ⟨N_in ⟨by omega, by omega⟩, ?_⟩
      by_cases c23 : v = 23
      · subst c23
        refine nf rfl ?_
        unfold nd_X12_qGoesOn_112
        exact y_qCode S5 (by omega) 20007 (fun m6 S6 F6 => hq m6 (h5.q F6) S6 (FA.tr (y_SQ F6)))
      · have c24 : v = 24 := by omega
        subst c24
        refine nt (by decide +kernel) ?_
        unfold nd_X12_qGoesOn_112
        exact y_qCode S5 (by omega) 20008 (fun m6 S6 F6 => hq m6 (h5.q F6) S6 (FA.tr (y_SQ F6)))
  refine y_qBracket S1 ⟨by omega, hp.2⟩ hp20 hbk ?_
  by_cases c20 : v = 20
  · exact bt (by rw [c20]; rfl) go
  refine bf (by simp (disch := omega) only [N_lit, N_add, N_mul, N_sub, N_addneg, N_neg1, N_addm, N_le, N_lt, N_eq, N_in, N_cl, N_ne, N_ne', N_ltm, N_mlt, N_lem] <;> omega) (y_qBracket S1 ⟨by omega, hp.2⟩ hp20 hbk ?_)
  by_cases c23 : v = 23
  · exact bt (by rw [c23]; rfl) go
  refine bf (by simp (disch := omega) only [N_lit, N_add, N_mul, N_sub, N_addneg, N_neg1, N_addm, N_le, N_lt, N_eq, N_in, N_cl, N_ne, N_ne', N_ltm, N_mlt, N_lem] <;> omega) (y_qBracket S1 ⟨by omega, hp.2⟩ hp20 hbk ?_)
  exact nf (by rw [show v = 24 by omega]; rfl) go
theorem y_122n {tp : Nat → Nat} {tn b : Nat} {so : Bool} {t : yTok} {p w : List Nat} {o : Nat} {L : List Nat} {bs tk : Nat} {m : fz_s} (h : yPM tp tn b so t t.1 m) (hS : yQS (p ++ w) o L bs tk m) (hl : L.length + (p ++ w).length < 1650 ∧ p.length < 10) (hp : ∀ v, v ∈ p → v < 20) {r : Int32} (hbk : yBk bs w r) (hs : yNop tp t) {Q : Bool → fz_s → Prop}
    (hB : r = 21 ∨ r = 22 → ∀ m', yPM tp tn b so t t.1 m' → Fr pKt m m' → nd_X12_qGoesOn_326 Q m')
    (hE : r = -1 → ∀ m', yPM tp tn b so t t.1 m' → Fr pKt m m' → Q false m')
    (hF : ¬ (r = 21 ∨ r = 22) → r ≠ -1 → ∀ m', yFQ 1 t.1 m' → Fr pKt m m' → Q false m') : nd_X12_qGoesOn_122 Q m := by
  unfold nd_X12_qGoesOn_122
  refine y_takesSign h 42 (y_sg 42 (by omega)) (fun z => absurd z hs.1) (fun _ m2 h2 F2 => b4 ?_)
  refine y_takesSign h2 47 (y_sg 47 (by omega)) (fun z => absurd z hs.2.1) (fun _ m3 h3 F3 => b3 ?_)
  refine y_takesSign h3 43 (y_sg 43 (by omega)) (fun z => absurd z hs.2.2.1) (fun z1 m4 h4 F4 => b4 ?_)
  refine y_takesSign h4 45 (y_sg 45 (by omega)) (fun z => absurd z hs.2.2.2) (fun z2 m5 h5 F5 => b3 ?_)
  have F := F2.tr (F3.tr (F4.tr F5))
  have S5 := hS.k F
  refine y_qBracket S5 ⟨by omega, hl.2⟩ hp hbk ?_
  by_cases c1 : r = 21
  · exact bt c1 (hB (Or.inl c1) m5 h5 F)
  refine bf c1 (y_qBracket S5 ⟨by omega, hl.2⟩ hp hbk ?_)
  by_cases c2 : r = 22
  · exact nf c2 (hB (Or.inr c2) m5 h5 F)
  refine nt c2 (y_qBracket S5 ⟨by omega, hl.2⟩ hp hbk ?_)
  by_cases c3 : r = -1
  · exact bt c3 (hE c3 m5 h5 F)
  refine bf c3 (nf h5.2.2.2.2.2.1 ?_)
  exact y_mfailAt h5 (kd := 1) ⟨by omega, by omega⟩ (fun m6 h6 F6 => hF (fun z => by rcases z with z | z; exact c1 z; exact c2 z) c3 m6 (yFQ.mk h6 S5 (by omega) F6) (F.tr F6))
theorem y_B_comma {tp : Nat → Nat} {tn b : Nat} {so : Bool} {t t' : yTok} {a : Nat} {p w : List Nat} {v o : Nat} {L : List Nat} {bs tk : Nat} {m : fz_s} (h : yPM tp tn b so t a m) (hS : yQS (p ++ v :: w) o L bs tk m) (hl : L.length + (p ++ v :: w).length < 1650) (hp : (∀ v, v ∈ p → 1 ≤ v ∧ v ≤ 4) ∧ p.length < 10) (hv : v = 21 ∨ v = 22) (hbs : bs ≤ w.length) (hs : ySg tp t 44) (ht' : yTS tp tn t.2.1 false t') {Q : fz_s → Prop} {f1 : Nat} {v1 : Int32} {f3 : Nat} (hf : 1 ≤ f1 ∧ 1 ≤ f3) (hq : ∀ m', yPM tp tn t.2.1 false t' t.2.1 m' → yQS ((v + 2) :: w) o (L ++ ycs p) bs tk m' → Fr pQ m m' → yAS Q (f1 - 1) v1 2048 m') : yBS Q f1 v1 f3 m := by
  have el : (p ++ v :: w).length = p.length + (w.length + 1) := List.length_append
  have hbk : yBk bs (v :: w) (nI v) := Or.inr ⟨by rw [List.length_cons]; omega, v, w, rfl, by omega, by omega, rfl⟩
  have hp20 : ∀ u, u ∈ p → u < 20 := fun u hu => by have := hp.1 u hu; omega
  refine y_B0n h (hs.ne (by omega)) hf.2 (fun m1 h1 F1 => ?_)
  have S1 := hS.k F1
  refine y_122n h1 S1 ⟨hl, hp.2⟩ hp20 hbk ⟨hs.ne (by omega), hs.ne (by omega), hs.ne (by omega), hs.ne (by omega)⟩ (fun _ m2 h2 F2 => ?_) (fun z => absurd z (y_nm1 (by omega))) (fun z => absurd ?_ z)
  · unfold nd_X12_qGoesOn_326
    refine y_asksSign h2 44 (y_sg 44 (by omega)) (fun _ m3 h3 F3 => ?_) (fun z => absurd hs z)
    have h3' := h3 t' ht'
    refine bt h3'.2.2.2.2.2.1 ?_
    have F13 := F1.tr (F2.tr F3)
    refine y_dtb (v := v) (w := w) (o := o) (bs := bs) (tk := tk) (by omega) hbs (fun m4 S4 F4 => ?_) p 2048 L m3 (by omega) (by omega) hp.1 (hS.k F13) rfl Fr.rf
    obtain ⟨a1, a2, a3, a4, a5, a6, a7, a8⟩ := id S4
    have a3' : m4.1 196 103 = nI (w.length + 1) := a3
    rw [a3', show nI (w.length + 1) - 1 = nI w.length from N_sub (b := 1) (by omega)]
    refine ⟨N_in ⟨by omega, by omega⟩, N_in ⟨by omega, by omega⟩, fun s5 e5 => ?_⟩
    rw [N_cl (by omega), a6.1, show nI v + 2 = nI (v + 2) from N_add v 2] at e5
    have F5 : Fr pQs m4 s5 := by rw [e5]; exact Fr.rf.si (pQs_t (by omega))
    have h5 := h3'.q (F4.tr F5)
    refine b2 (y_sumsA h5.2.2.2.2.2.1 hf.1 (hq s5 h5 ⟨?_, ?_, ?_, ?_, ?_, ⟨?_, ?_⟩, ?_, ?_⟩ (((y_KQ F13).tr (y_SQ F4)).tr (y_SQ F5))))
    · rw [e5, g_ne (by omega)]; exact a1
    · rw [e5, g_ne (by omega)]; exact a2
    · rw [e5, g_ne (by omega)]; exact a3'
    · rw [e5, g_ne (by omega)]; exact a4
    · rw [e5, g_ne (by omega)]; exact a5
    · rw [e5, g_eq]
    · exact a6.2.cong (fun k hk => by rw [e5, g_nj (by omega)])
    · exact a7.cong (fun k _ _ => by rw [e5, g_ne (by omega)])
    · intro u hu
      rcases List.mem_cons.mp hu with rfl | hu
      · omega
      · exact a8 u (List.mem_cons_of_mem _ hu)
  · rcases hv with z | z
    · exact Or.inl (by rw [z]; rfl)
    · exact Or.inr (by rw [z]; rfl)
theorem y_B_fail {tp : Nat → Nat} {tn b : Nat} {so : Bool} {t : yTok} {a : Nat} {p w : List Nat} {v o : Nat} {L : List Nat} {bs tk : Nat} {m : fz_s} (h : yPM tp tn b so t a m) (hS : yQS (p ++ v :: w) o L bs tk m) (hl : L.length + (p ++ v :: w).length < 1650) (hp : (∀ v, v ∈ p → 1 ≤ v ∧ v ≤ 4) ∧ p.length < 10) (hv : 20 ≤ v ∧ v ≤ 24) (hbs : bs ≤ w.length) (hs : yNop tp t) (hs1 : v = 20 ∨ v = 23 ∨ v = 24 → ¬ ySg tp t 41) (hs2 : v = 21 ∨ v = 22 → ¬ ySg tp t 44) {Q : fz_s → Prop} {f1 : Nat} {v1 : Int32} {f3 : Nat} (hf : 1 ≤ f1 ∧ 1 ≤ f3) (hq : ∀ m', yFQ 1 t.1 m' → Fr pQ m m' → m'.1 196 105 = v1 → Q m') : yBS Q f1 v1 f3 m := by
  have el : (p ++ v :: w).length = p.length + (w.length + 1) := List.length_append
  have hbk : yBk bs (v :: w) (nI v) := Or.inr ⟨by rw [List.length_cons]; omega, v, w, rfl, by omega, by omega, rfl⟩
  have hp20 : ∀ u, u ∈ p → u < 20 := fun u hu => by have := hp.1 u hu; omega
  have e : ∀ k : Nat, k < 100 → nI v = nI k → v = k := fun k hk z => (N_eq ⟨by omega, by omega⟩).mp z
  refine y_B0 h hS ⟨by omega, hp.2⟩ hp20 hbk (fun z => hs1 ?_ z.1) hf.2 (fun m1 h1 F1 => ?_)
  · rcases z.2 with y | y | y
    · exact Or.inl (e 20 (by omega) y)
    · exact Or.inr (Or.inl (e 23 (by omega) y))
    · exact Or.inr (Or.inr (e 24 (by omega) y))
  have S1 := hS.k F1
  refine y_122n h1 S1 ⟨hl, hp.2⟩ hp20 hbk hs (fun z m2 h2 F2 => ?_) (fun z => absurd z (y_nm1 (by omega))) (fun _ _ m2 h2 F2 => ?_)
  · have hv2 : v = 21 ∨ v = 22 := by
      rcases z with y | y
      · exact Or.inl (e 21 (by omega) y)
      · exact Or.inr (e 22 (by omega) y)
    unfold nd_X12_qGoesOn_326
    refine y_asksSign h2 44 (y_sg 44 (by omega)) (fun y => absurd y (hs2 hv2)) (fun _ m3 h3 F3 => ?_)
    have q3 := yFQ.mk h3 (S1.k F2) (by omega) F3
    refine bf h3.bad (y_CGF q3 hf.1 (fun m4 q4 F4 h4 => hq m4 q4 ((y_KQ (F1.tr (F2.tr F3))).tr F4) h4))
  · exact y_CGF h2 hf.1 (fun m4 q4 F4 h4 => hq m4 q4 ((y_KQ (F1.tr F2)).tr F4) h4)
theorem y_53 {tp : Nat → Nat} {tn b : Nat} {so : Bool} {t : yTok} {w : List Nat} {o : Nat} {bs tk v1 : Nat} (hb : w.length = bs) {m0 : fz_s} {Q : fz_s → Prop} {R : List Nat} (hq : ∀ m', yPM tp tn b so t t.1 m' → yQS w o R v1 tk m' → Fr pQs m0 m' → Q m') : ∀ (p : List Nat) (n : Nat) (L : List Nat) (m : fz_s), p.length < n → L.length + (p ++ w).length < 1690 → (∀ u, u ∈ p → 1 ≤ u ∧ u ≤ 4) → yPM tp tn b so t t.1 m → yQS (p ++ w) o L bs tk m → L ++ ycs p = R → Fr pQs m0 m → lp_X12_qSums_53 Q n (nI v1) m
  | p, 0, L, m, h1, _, _, _, _, _, _ => absurd h1 (by omega)
  | [], n + 1, L, m, h1, h2, h3, hP, hS, hR, hF => by
    show nd_X12_qSums_53 (lp_X12_qSums_53 Q n) Q (nI v1) m
    unfold nd_X12_qSums_53
    have hS' : yQS w o L bs tk m := hS
    obtain ⟨a1, a2, a3, a4, a5, a6, a7, a8⟩ := id hS'
    have h2' : L.length + w.length < 1690 := h2
    have hR' : L = R := by rw [← hR]; exact (List.append_nil L).symm
    refine nf hP.2.2.2.2.2.1 ?_
    rw [a3, a5]
    refine bt (by simp (disch := omega) only [N_lit, N_add, N_mul, N_sub, N_addneg, N_neg1, N_addm, N_le, N_lt, N_eq, N_in, N_cl, N_ne, N_ne', N_ltm, N_mlt, N_lem] <;> omega) (fun s2 e2 => ?_)
    have F2 : Fr pQs m s2 := by rw [e2]; exact Fr.rf.si (pQs_t (by omega))
    refine hq s2 (hP.q F2) ⟨?_, ?_, ?_, ?_, ?_, ?_, ?_, a8⟩ (hF.tr F2)
    · rw [e2, g_nj (by omega)]; exact a1
    · rw [e2, g_nj (by omega), ← hR']; exact a2
    · rw [e2, g_nj (by omega)]; exact a3
    · rw [e2, g_nj (by omega)]; exact a4
    · rw [e2, g_eq]
    · exact a6.cong (fun k hk => by rw [e2, g_ne (by omega)])
    · rw [← hR']
      exact a7.cong (fun k _ _ => by rw [e2, g_ne (by omega)])
  | u :: p, n + 1, L, m, h1, h2, h3, hP, hS, hR, hF => by
    have hu := h3 u List.mem_cons_self
    have el : (u :: p ++ w).length = (p ++ w).length + 1 := rfl
    have el2 : (p ++ w).length = p.length + w.length := List.length_append
    have el3 : (u :: p).length = p.length + 1 := rfl
    have hS' : yQS (u :: (p ++ w)) o L bs tk m := hS
    obtain ⟨a1, a2, a3, a4, a5, a6, a7, a8⟩ := id hS'
    rw [List.length_cons] at a3
    show nd_X12_qSums_53 (lp_X12_qSums_53 Q n) Q (nI v1) m
    unfold nd_X12_qSums_53
    refine nf hP.2.2.2.2.2.1 ?_
    rw [a3, a5]
    refine bf (by simp (disch := omega) only [N_lit, N_add, N_mul, N_sub, N_addneg, N_neg1, N_addm, N_le, N_lt, N_eq, N_in, N_cl, N_ne, N_ne', N_ltm, N_mlt, N_lem] <;> omega) ?_
    refine y_qDrops hS' (cM_op (v := u) (by omega)) (by omega) (fun m' S' F' => ?_)
    exact y_53 hb hq p n (L ++ [u + 20002]) m' (by omega) (by rw [List.length_append]; show L.length + 1 + _ < _; omega) (fun z hz => h3 z (List.mem_cons_of_mem _ hz)) (hP.q F') S' (by rw [← hR, y_apc]) (hF.tr F')
theorem y_B_end {tp : Nat → Nat} {tn b : Nat} {so : Bool} {t : yTok} {a : Nat} {p w : List Nat} {o : Nat} {L : List Nat} {bs tk v1 : Nat} {m : fz_s} (h : yPM tp tn b so t a m) (hS : yQS (p ++ w) o L bs tk m) (hl : L.length + (p ++ w).length < 1650) (hp : (∀ v, v ∈ p → 1 ≤ v ∧ v ≤ 4) ∧ p.length < 10) (hbs : w.length = bs) (hs : yNop tp t) {Q : fz_s → Prop} {f1 f3 : Nat} (hf : 1 ≤ f1 ∧ 1 ≤ f3) (hq : ∀ m', yPM tp tn b so t t.1 m' → yQS w o (L ++ ycs p) v1 tk m' → Fr pQ m m' → Q m') : yBS Q f1 (nI v1) f3 m := by
  have el : (p ++ w).length = p.length + w.length := List.length_append
  have hbk : yBk bs w (-1) := Or.inl ⟨hbs, rfl⟩
  have hp20 : ∀ u, u ∈ p → u < 20 := fun u hu => by have := hp.1 u hu; omega
  refine y_B0 h hS ⟨by omega, hp.2⟩ hp20 hbk (fun z => ?_) hf.2 (fun m1 h1 F1 => ?_)
  · rcases z.2 with y | y | y <;> exact absurd y (by decide +kernel)
  have S1 := hS.k F1
  refine y_122n h1 S1 ⟨hl, hp.2⟩ hp20 hbk hs (fun z => ?_) (fun _ m2 h2 F2 => ?_) (fun _ z => absurd rfl z)
  · rcases z with y | y <;> exact absurd y (by decide +kernel)
  refine b3 ?_
  obtain ⟨n, rfl⟩ : ∃ n, f1 = n + 1 := ⟨f1 - 1, by omega⟩
  show nd_X12_qSums_15 (lp_X12_qSums_15 Q n) Q (nI v1) false m2
  unfold nd_X12_qSums_15
  refine b3 ?_
  exact y_53 hbs (fun m3 h3 S3 F3 => hq m3 h3 S3 ((y_KQ (F1.tr F2)).tr (y_SQ F3))) p 2048 L m2 (by omega) (by omega) hp.1 h2 (S1.k F2) rfl Fr.rf

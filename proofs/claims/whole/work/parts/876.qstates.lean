/-! THE MODEL'S SUMS: its loops' states -/
def yCG (Q : fz_s → Prop) (f1 : Nat) (v1 : Int32) : Bool → fz_s → Prop := fun r3 s4 => ((r3 = false → lp_X12_qSums_15 Q f1 v1 false s4) ∧ (r3 = true → lp_X12_qSums_15 Q f1 v1 true s4))
def yCP (Q : fz_s → Prop) (f1 : Nat) (v1 : Int32) : fz_s → Prop := fun s2 => ((¬ (s2.1 196 5) = 0 → lp_X12_qSums_15 Q f1 v1 false s2) ∧ ((s2.1 196 5) = 0 → wp_X12_qGoesOn s2 (yCG Q f1 v1)))
def yAS (Q : fz_s → Prop) (f1 : Nat) (v1 : Int32) (f2 : Nat) (m : fz_s) : Prop := lp_X12_qPartTold_2 (yCP Q f1 v1) f2 true m
def yBS (Q : fz_s → Prop) (f1 : Nat) (v1 : Int32) (f3 : Nat) (m : fz_s) : Prop := lp_X12_qGoesOn_0 (yCG Q f1 v1) f3 m
/-- a fault, and room for codes -/
def yFQ (kd pl : Nat) (m : fz_s) : Prop := yFM kd pl m ∧ ∃ c, c < 1690 ∧ m.1 196 101 = nI c
theorem yFQ.mk {kd pl : Nat} {w : List Nat} {o : Nat} {L : List Nat} {bs tk : Nat} {m m' : fz_s} (h : yFM kd pl m') (hS : yQS w o L bs tk m) (hl : L.length < 1690) (hF : Fr pKt m m') : yFQ kd pl m' := ⟨h, L.length, hl, (hF.i _ _ (pKt_f (by omega))).trans hS.2.1⟩
theorem yFQ.b {kd pl : Nat} {m s1 : fz_s} {v1 : Int32} (h : yFQ kd pl m) (e : s1 = si m 196 105 v1) : yFQ kd pl s1 ∧ Fr pQ m s1 ∧ s1.1 196 105 = v1 := by
  obtain ⟨h1, c, h2, h3⟩ := h
  have F : Fr pQs m s1 := by rw [e]; exact Fr.rf.si (pQs_t (by omega))
  exact ⟨⟨h1.q F, c, h2, by rw [e, g_nj (by omega)]; exact h3⟩, y_SQ F, by rw [e, g_eq]⟩
theorem y_sumsF {Q : fz_s → Prop} {f1 : Nat} {v1 : Int32} {r : Bool} {m : fz_s} (hb : ¬ m.1 196 5 = 0) (h1 : 1 ≤ f1) (hq : ∀ s1, s1 = si m 196 105 v1 → Q s1) : lp_X12_qSums_15 Q f1 v1 r m := by
  obtain ⟨n, rfl⟩ : ∃ n, f1 = n + 1 := ⟨f1 - 1, by omega⟩
  show nd_X12_qSums_15 (lp_X12_qSums_15 Q n) Q v1 r m
  unfold nd_X12_qSums_15
  have go : lp_X12_qSums_53 Q 2048 v1 m := nt hb hq
  cases r with
  | false => exact b3 go
  | true => exact b2 (nt hb go)
theorem y_CPF {Q : fz_s → Prop} {f1 : Nat} {v1 : Int32} {kd pl : Nat} {m : fz_s} (h : yFQ kd pl m) (h1 : 1 ≤ f1) (hq : ∀ m', yFQ kd pl m' → Fr pQ m m' → m'.1 196 105 = v1 → Q m') : yCP Q f1 v1 m := nt h.1.bad (y_sumsF h.1.bad h1 (fun s1 e1 => hq s1 (h.b e1).1 (h.b e1).2.1 (h.b e1).2.2))
theorem y_CGF {Q : fz_s → Prop} {f1 : Nat} {v1 : Int32} {kd pl : Nat} {m : fz_s} (h : yFQ kd pl m) (h1 : 1 ≤ f1) (hq : ∀ m', yFQ kd pl m' → Fr pQ m m' → m'.1 196 105 = v1 → Q m') : yCG Q f1 v1 false m := b3 (y_sumsF h.1.bad h1 (fun s1 e1 => hq s1 (h.b e1).1 (h.b e1).2.1 (h.b e1).2.2))
theorem y_sumsA {Q : fz_s → Prop} {f1 : Nat} {v1 : Int32} {m : fz_s} (hb : m.1 196 5 = 0) (h1 : 1 ≤ f1) (hq : yAS Q (f1 - 1) v1 2048 m) : lp_X12_qSums_15 Q f1 v1 true m := by
  obtain ⟨n, rfl⟩ : ∃ n, f1 = n + 1 := ⟨f1 - 1, by omega⟩
  show nd_X12_qSums_15 (lp_X12_qSums_15 Q n) Q v1 true m
  unfold nd_X12_qSums_15
  exact b2 (nf hb hq)
theorem y_adv1 {tp : Nat → Nat} {tn b : Nat} {so : Bool} {t : yTok} {m s : fz_s} (h : yPM tp tn b so t t.1 m) (hk : t.2.2.1 = 3) (e : s = si m 196 2 (m.1 196 2 + 1)) : yAd tp tn t.2.1 false s ∧ Fr pKt m s := by
  obtain ⟨a1, a2, a3, a4, a5, a6, a7⟩ := h
  have hn := a1.1
  have ht := a2.2.1
  rw [a4, nI_1] at e
  have he : t.2.1 = t.1 + 1 := by
    rcases a2.2.2.2.2 with z | z | z | z | z <;> omega
  have F3 : Fr pKt m s := by rw [e]; exact Fr.rf.si (pKt_t (by omega))
  refine ⟨fun t' ht' => ⟨a1.k F3, ht', ⟨Nat.le_refl _, ht'.1⟩, ?_, Or.inr ⟨rfl, ?_⟩, ?_, ?_⟩, F3⟩
  · rw [he, e, g_eq]
  · rw [e, g_nj (by omega)]
    rcases a5 with ⟨z1, z2⟩ | ⟨z1, z, z2, z3, z4⟩
    · exact ⟨(b : Int), by omega, by omega, by rw [z2, i_nI]⟩
    · exact ⟨z, z2, by omega, z4⟩
  · rw [e, g_nj (by omega)]; exact a6
  · rw [e, g_nj (by omega)]; exact a7
theorem yWo.ne {t : yTok} {i j : Nat} (h : yWo t i) (hij : i ≠ j) : ¬ yWo t j := fun z => hij (by have := h.2; have := z.2; omega)
theorem yWo.nsg {tp : Nat → Nat} {t : yTok} {i c : Nat} (h : yWo t i) : ¬ ySg tp t c := fun z => by have := h.1; have := z.1; omega
theorem ySg.ne {tp : Nat → Nat} {t : yTok} {c d : Nat} (h : ySg tp t c) (hij : c ≠ d) : ¬ ySg tp t d := fun z => hij (h.2.symm.trans z.2)
theorem ySg.nwo {tp : Nat → Nat} {t : yTok} {i c : Nat} (h : ySg tp t c) : ¬ yWo t i := fun z => by have := h.1; have := z.1; omega
theorem y_of_iff {tk : Nat} {t : yTok} (htk : tk ≤ 2) : (((11 : Nat) : Int) ≤ yqw tk t ∧ yqw tk t < ((13 : Nat) : Int)) ∧ yal tk (yqw tk t) ↔ tk = 2 ∧ (yWo t 0 ∨ yWo t 13) := by
  unfold yqw yal yWo
  repeat (first | omega | split)
theorem y_pt_iff {tk : Nat} {t : yTok} (htk : tk ≤ 2) : (((0 : Nat) : Int) ≤ yqw tk t ∧ yqw tk t < ((11 : Nat) : Int)) ∧ yal tk (yqw tk t) ↔ t.2.2.1 = 1 ∧ (0 ≤ t.2.2.2 ∧ t.2.2.2 ≤ 10) ∧ yal tk t.2.2.2 := by
  unfold yqw yal
  repeat (first | omega | split)
theorem y_pt_eq {tk : Nat} {t : yTok} (htk : tk ≤ 2) (h : t.2.2.1 = 1 ∧ (0 ≤ t.2.2.2 ∧ t.2.2.2 ≤ 10) ∧ yal tk t.2.2.2) : yqw tk t = t.2.2.2 := by
  unfold yal at h
  unfold yqw
  repeat (first | omega | split)
theorem y_nm1 {a : Nat} (h : a < 2147483648) : ¬ nI a = -1 := fun z => by
  rw [show (-1 : Int32) = iI (-1) by decide +kernel] at z
  exact (N_ne h).mp z
theorem y_sg40 : (40 : Nat) < 256 ∧ ¬ yin 97 122 10 40 ∧ ¬ yin 48 57 32 40 := by omega
/-- at the head of the loop over what opens -/
theorem y_Adisp {tp : Nat → Nat} {tn b : Nat} {so : Bool} {t : yTok} {a : Nat} {w : List Nat} {o : Nat} {L : List Nat} {bs tk : Nat} {m : fz_s} (h : yPM tp tn b so t a m) (hS : yQS w o L bs tk m) (htk : tk ≤ 2) {C : fz_s → Prop} {n : Nat}
    (hO : ySg tp t 40 → ∀ m', yPM tp tn b so t t.1 m' → yQS w o L bs tk m' → Fr pKt m m' → wp_X12_qOpens 20 (m'.1 196 2) m' (fun s14 => ∀ s15 : fz_s, s15 = si s14 196 2 ((s14.1 196 2) + 1) → lp_X12_qPartTold_2 C n true s15))
    (hM : yWo t 24 ∨ yWo t 25 → ∀ m', yPM tp tn b so t t.1 m' → yQS w o L bs tk m' → Fr pKt m m' → nd_X12_qPartTold_78 (lp_X12_qPartTold_2 C n) C true m')
    (hF : tk = 2 ∧ (yWo t 0 ∨ yWo t 13) → ∀ m', yPM tp tn b so t t.1 m' → yQS w o L bs tk m' → Fr pKt m m' → wp_X12_qOpens ((60 + iI (yqw tk t)) - 11) (m'.1 196 2) m' (fun s10 => wp_X12_qAsksWord (iI (yqw tk t)) s10 (fun s12 => lp_X12_qPartTold_2 C n true s12)))
    (hL : ¬ ySg tp t 40 → ¬ yWo t 24 → ¬ yWo t 25 → ¬ (tk = 2 ∧ (yWo t 0 ∨ yWo t 13)) → ∀ m', yPM tp tn b so t t.1 m' → yQS w o L bs tk m' → Fr pKt m m' → lp_X12_qPartTold_2 C n false m') : lp_X12_qPartTold_2 C (n + 1) true m := by
  show nd_X12_qPartTold_2 (lp_X12_qPartTold_2 C n) C true m
  unfold nd_X12_qPartTold_2
  refine b2 (nf h.2.2.2.2.2.1 ?_)
  refine y_look h (fun m1 h1 F1 => ?_)
  have r53 : m1.1 196 53 = nI tk := (F1.i _ _ (pA_f (by omega))).trans hS.1
  have hiff := y_of_iff (t := t) htk
  have hqr := y_qw_r tk t
  have lk := y_lkc h1.2.1 h1.1.2.1 y_sg40.1 y_sg40.2
  have go : ∀ (r3 : Int32) (m2 : fz_s), yPM tp tn b so t t.1 m2 → Fr pA m1 m2 → (((tk = 2 ∧ (yWo t 0 ∨ yWo t 13)) ∧ r3 = iI (yqw tk t)) ∨ (¬ (tk = 2 ∧ (yWo t 0 ∨ yWo t 13)) ∧ r3 = -1)) → ((¬ yLk tp tn t = 40 → wp_X12_isHere 254 3 m2 (fun r5 s6 => ((r5 = true → nd_X12_qPartTold_78 (lp_X12_qPartTold_2 C n) C true s6) ∧ (r5 = false → wp_X12_isHere 255 3 s6 (fun r7 s8 => ((r7 = false → ((r3 = (-1) → lp_X12_qPartTold_2 C n false s8) ∧ (¬ r3 = (-1) → wp_X12_qOpens ((60 + r3) - 11) (s8.1 196 2) s8 (fun s10 => wp_X12_qAsksWord r3 s10 (fun s12 => lp_X12_qPartTold_2 C n true s12))))) ∧ (r7 = true → nd_X12_qPartTold_78 (lp_X12_qPartTold_2 C n) C true s8))))))) ∧ (yLk tp tn t = 40 → wp_X12_qOpens 20 (m2.1 196 2) m2 (fun s14 => ∀ s15 : fz_s, s15 = si s14 196 2 ((s14.1 196 2) + 1) → lp_X12_qPartTold_2 C n true s15))) := by
    intro r3 m2 h2 F2 hr
    have F12 := F1.tr F2
    by_cases c1 : ySg tp t 40
    · exact nf (lk.mpr c1) (hO c1 m2 h2 (hS.k (y_AK F12)) (y_AK F12))
    refine nt (fun z => c1 (lk.mp z)) ?_
    refine y_isHere h2 24 (by decide +kernel) (fun hs m3 h3 F3 => b1 (hM (Or.inl hs) m3 h3 (hS.k (y_AK (F12.tr F3))) (y_AK (F12.tr F3)))) (fun hs m3 h3 F3 => b4 ?_)
    refine y_isHere h3 25 (by decide +kernel) (fun hs2 m4 h4 F4 => b2 (hM (Or.inr hs2) m4 h4 (hS.k (y_AK ((F12.tr F3).tr F4))) (y_AK ((F12.tr F3).tr F4)))) (fun hs2 m4 h4 F4 => b3 ?_)
    have F5 := y_AK ((F12.tr F3).tr F4)
    rcases hr with ⟨z1, z2⟩ | ⟨z1, z2⟩
    · have hne : ¬ r3 = -1 := by
        rw [z2, show (-1 : Int32) = iI (-1) by decide +kernel, i_eq ⟨⟨by omega, by omega⟩, by omega, by omega⟩]
        have := (hiff.mpr z1).1
        omega
      refine bf hne ?_
      rw [z2]
      exact hF z1 m4 h4 (hS.k F5) F5
    · exact bt z2 (hL c1 hs hs2 z1 m4 h4 (hS.k F5) F5)
  exact y_qwo h1 (lo := 11) (hi := 13) r53 htk ⟨by omega, by omega⟩ (fun z m2 h2 F2 => go _ m2 h2 F2 (Or.inl ⟨hiff.mp z, rfl⟩)) (fun z m2 h2 F2 => go _ m2 h2 F2 (Or.inr ⟨fun y => z (hiff.mpr y), rfl⟩))
theorem y_Abad {C : fz_s → Prop} {n : Nat} {r : Bool} {m : fz_s} (hb : ¬ m.1 196 5 = 0) (hn : 1 ≤ n) (hq : C m) : lp_X12_qPartTold_2 C n r m := by
  obtain ⟨k, rfl⟩ : ∃ k, n = k + 1 := ⟨n - 1, by omega⟩
  show nd_X12_qPartTold_2 (lp_X12_qPartTold_2 C k) C r m
  unfold nd_X12_qPartTold_2
  have go : nd_X12_qPartTold_186 C m := bf hb hq
  cases r with
  | false => exact b3 go
  | true => exact b2 (nt hb go)
theorem y_A_open {tp : Nat → Nat} {tn b : Nat} {so : Bool} {t : yTok} {a : Nat} {w : List Nat} {o : Nat} {L : List Nat} {bs tk : Nat} {m : fz_s} (h : yPM tp tn b so t a m) (hS : yQS w o L bs tk m) (htk : tk ≤ 2) (ho : o ≤ 6) (hl : L.length + w.length < 1650) (hs : ySg tp t 40) {C : fz_s → Prop} {n : Nat} (hn : 1 ≤ n)
    (hT : o < 6 → ∀ m', yAd tp tn t.2.1 false m' → yQS (20 :: w) (o + 1) L bs tk m' → Fr pQ m m' → lp_X12_qPartTold_2 C n true m')
    (hN : ¬ o < 6 → ∀ m', yFQ 4 t.1 m' → Fr pQ m m' → C m') : lp_X12_qPartTold_2 C (n + 1) true m := by
  refine y_Adisp h hS htk (fun _ m1 h1 S1 F1 => ?_) (fun z => absurd hs (by rcases z with z | z <;> exact z.nsg)) (fun z => absurd hs (by rcases z.2 with z | z <;> exact z.nsg)) (fun z => absurd hs z)
  have hn2 := h1.1.1
  have ht := h1.2.1.2.1
  rw [h1.2.2.2.1]
  refine y_qOpens (v := 20) S1 h1.2.2.2.2.2.1 (by omega) ho (by omega) (by omega) (fun c m2 S2 F2 s15 e15 => ?_) (fun c m2 h2 F2 s15 e15 => ?_)
  · have h2 := h1.q F2
    obtain ⟨z1, z2⟩ := y_adv1 h2 hs.1 e15
    exact hT c s15 z1 (S2.k z2) (((y_KQ F1).tr (y_SQ F2)).tr (y_KQ z2))
  · have F15 : Fr pKt m2 s15 := by rw [e15]; exact Fr.rf.si (pKt_t (by omega))
    have h15 : yFM 4 t.1 s15 := ⟨h2.1, h2.2.1, by rw [e15, g_nj (by omega)]; exact h2.2.2.1, by rw [e15, g_nj (by omega)]; exact h2.2.2.2⟩
    exact y_Abad h15.bad hn (hN c s15 (yFQ.mk h15 S1 (by omega) (F2.tr F15)) (y_KQ ((F1.tr F2).tr F15)))
theorem y_A_of {tp : Nat → Nat} {tn b : Nat} {so : Bool} {t : yTok} {a : Nat} {w : List Nat} {o : Nat} {L : List Nat} {bs tk : Nat} {m : fz_s} (h : yPM tp tn b so t a m) (hS : yQS w o L bs tk m) (htk : tk = 2) (ho : o ≤ 6) (hl : L.length + w.length < 1650) {v : Nat} (hs : (yWo t 0 ∧ v = 60) ∨ (yWo t 13 ∧ v = 61)) {C : fz_s → Prop} {n : Nat} (hn : 1 ≤ n)
    (hT : o < 6 → ∀ m', yAd tp tn t.2.1 true m' → yQS (v :: w) (o + 1) L bs tk m' → Fr pQ m m' → lp_X12_qPartTold_2 C n true m')
    (hN : ¬ o < 6 → ∀ m', yFQ 4 t.1 m' → Fr pQ m m' → C m') : lp_X12_qPartTold_2 C (n + 1) true m := by
  have hs' : yWo t 0 ∨ yWo t 13 := hs.elim (fun z => Or.inl z.1) (fun z => Or.inr z.1)
  refine y_Adisp h hS (by omega) (fun z => absurd z (by rcases hs' with y | y <;> exact y.nsg)) (fun z => by rcases z with z | z <;> rcases hs' with y | y <;> exact absurd z (y.ne (by omega))) (fun _ m1 h1 S1 F1 => ?_) (fun _ _ _ z => absurd ⟨htk, hs'⟩ z)
  have hn2 := h1.1.1
  have ht := h1.2.1.2.1
  have hk : ∃ k : Nat, k ≤ 12 ∧ 11 ≤ k ∧ yqw tk t = (k : Int) ∧ v = 60 + k - 11 ∧ ∃ i, yWo t i ∧ (199 ≤ 256 + k ∧ 256 + k ≤ 268 ∧ i < 32 ∧ (wds (256 + k)).length = (wds (256 + k)).length ∧ wds (256 + k) = yWL.getD i []) := by
    rcases hs with ⟨z1, z2⟩ | ⟨z1, z2⟩
    · exact ⟨11, by omega, by omega, by rw [y_qw_0 z1, if_neg (by omega)]; rfl, z2, 0, z1, by decide +kernel⟩
    · exact ⟨12, by omega, by omega, by rw [y_qw_d z1]; rfl, z2, 13, z1, by decide +kernel⟩
  obtain ⟨k, k1, k2, k3, k4, i, k5, k6⟩ := hk
  have e1 : (60 + iI (yqw tk t)) - 11 = nI v := by
    rw [k3, ← i_nI]
    show nI 60 + nI k - nI 11 = nI v
    rw [N_add, N_sub (by omega), k4]
  have e2 : iI (yqw tk t) = nI k := by rw [k3, i_nI]
  rw [h1.2.2.2.1, e1, e2]
  refine y_qOpens S1 h1.2.2.2.2.2.1 (by omega) ho (by omega) (by omega) (fun c m2 S2 F2 => ?_) (fun c m2 h2 F2 => ?_)
  · have h2 := h1.q F2
    refine y_aw k1 ?_
    refine y_asks h2 i k6 (fun _ m3 h3 F3 => ?_) (fun z => absurd k5 z)
    exact hT c m3 h3 (S2.k F3) (((y_KQ F1).tr (y_SQ F2)).tr (y_KQ F3))
  · refine y_aw k1 (y_asksBad h2.bad ?_)
    exact y_Abad h2.bad hn (hN c m2 (yFQ.mk h2 S1 (by omega) F2) (y_KQ (F1.tr F2)))
theorem y_sg (c : Nat) (h : c = 40 ∨ c = 41 ∨ c = 42 ∨ c = 43 ∨ c = 44 ∨ c = 45 ∨ c = 47 ∨ c = 59 ∨ c = 60 ∨ c = 61 ∨ c = 62 ∨ c = 91 ∨ c = 93) : c < 256 ∧ ¬ yin 97 122 10 c ∧ ¬ yin 48 57 32 c := by omega
theorem y_A_mm {tp : Nat → Nat} {tn b : Nat} {so : Bool} {t t' : yTok} {a : Nat} {w : List Nat} {o : Nat} {L : List Nat} {bs tk : Nat} {m : fz_s} (h : yPM tp tn b so t a m) (hS : yQS w o L bs tk m) (htk : tk ≤ 2) (ho : o ≤ 6) (hl : L.length + w.length < 1650) {v : Nat} (hs : (yWo t 24 ∧ v = 21) ∨ (yWo t 25 ∧ v = 22)) (ht' : yTS tp tn t.2.1 true t') {C : fz_s → Prop} {n : Nat} (hn : 1 ≤ n)
    (hT : ySg tp t' 40 → o < 6 → ∀ m', yAd tp tn t'.2.1 false m' → yQS (v :: w) (o + 1) L bs tk m' → Fr pQ m m' → lp_X12_qPartTold_2 C n true m')
    (hN : ySg tp t' 40 → ¬ o < 6 → ∀ m', yFQ 4 t'.1 m' → Fr pQ m m' → C m')
    (hE : ¬ ySg tp t' 40 → ∀ m', yFQ 1 t'.1 m' → Fr pQ m m' → C m') : lp_X12_qPartTold_2 C (n + 1) true m := by
  have hs' : yWo t 24 ∨ yWo t 25 := hs.elim (fun z => Or.inl z.1) (fun z => Or.inr z.1)
  refine y_Adisp h hS htk (fun z => absurd z (by rcases hs' with y | y <;> exact y.nsg)) (fun _ m1 h1 S1 F1 => ?_) (fun z => by rcases z.2 with z | z <;> rcases hs' with y | y <;> exact absurd z (y.ne (by omega))) (fun _ z1 z2 => by rcases hs' with y | y; exact absurd y z1; exact absurd y z2)
  have go : ∀ (r : Bool) (m2 : fz_s), (r = true ∧ v = 21 ∨ r = false ∧ v = 22) → yAd tp tn t.2.1 true m2 → yQS w o L bs tk m2 → Fr pKt m m2 → nd_X12_qPartTold_101 (lp_X12_qPartTold_2 C n) C true r m2 := by
    intro r m2 hr h2 S2 F2
    unfold nd_X12_qPartTold_101
    refine y_look (h2 t' ht') (fun m3 h3 F3 => ?_)
    have hn2 := h3.1.1
    have ht := h3.2.1.2.1
    have S3 := S2.k (y_AK F3)
    have F23 := F2.tr (y_AK F3)
    have lk := y_lkc h3.2.1 h3.1.2.1 y_sg40.1 y_sg40.2
    by_cases c1 : ySg tp t' 40
    · refine nf (lk.mpr c1) ?_
      unfold nd_X12_qPartTold_118
      rw [h3.2.2.2.1]
      refine bf (y_nm1 (by omega)) ?_
      have opn : nd_X12_qPartTold_139 (lp_X12_qPartTold_2 C n) C true (nI t'.1) (nI v) m3 := by
        unfold nd_X12_qPartTold_139
        refine y_qOpens S3 h3.2.2.2.2.2.1 (by omega) ho (by omega) (by omega) (fun c m4 S4 F4 => ?_) (fun c m4 h4 F4 => ?_)
        · unfold nd_X12_qPartTold_144
          refine y_asksSign (h3.q F4) 40 y_sg40 (fun _ m5 h5 F5 => ?_) (fun z => absurd c1 z)
          exact hT c1 c m5 h5 (S4.k F5) (((y_KQ F23).tr (y_SQ F4)).tr (y_KQ F5))
        · unfold nd_X12_qPartTold_144
          refine y_asksSignBad h4.bad (y_Abad h4.bad hn ?_)
          exact hN c1 c m4 (yFQ.mk h4 S3 (by omega) F4) (y_KQ (F23.tr F4))
      rcases hr with ⟨z1, z2⟩ | ⟨z1, z2⟩
      · rw [z1]
        rw [z2] at opn
        exact b2 opn
      · rw [z1]
        rw [z2] at opn
        exact b3 opn
    · refine nt (fun z => c1 (lk.mp z)) ?_
      unfold nd_X12_qPartTold_118
      refine bt rfl ?_
      unfold nd_X12_qPartTold_144
      refine y_asksSign h3 40 y_sg40 (fun z => absurd z c1) (fun _ m5 h5 F5 => ?_)
      exact y_Abad h5.bad hn (hE c1 m5 (yFQ.mk h5 S3 (by omega) F5) (y_KQ (F23.tr F5)))
  unfold nd_X12_qPartTold_78
  refine y_takes h1 24 (by decide +kernel) (fun z m2 h2 F2 => b1 (go true m2 ?_ h2 (S1.k F2) (F1.tr F2))) (fun z m2 h2 F2 => b4 ?_)
  · rcases hs with y | y
    · exact Or.inl ⟨rfl, y.2⟩
    · exact absurd z (y.1.ne (by omega))
  · have hs2 : yWo t 25 ∧ v = 22 := by
      rcases hs with y | y
      · exact absurd y.1 z
      · exact y
    refine y_asks h2 25 (by decide +kernel) (fun _ m3 h3 F3 => go false m3 (Or.inr ⟨rfl, hs2.2⟩) h3 (S1.k (F2.tr F3)) (F1.tr (F2.tr F3))) (fun y => absurd hs2.1 y)
theorem y_E_bad {C : fz_s → Prop} {n : Nat} {m : fz_s} (hb : ¬ m.1 196 5 = 0) (hn : 1 ≤ n) (hq : C m) : lp_X12_qEndsPart_0 C n m := by
  obtain ⟨k, rfl⟩ : ∃ k, n = k + 1 := ⟨n - 1, by omega⟩
  exact nt hb hq
theorem y_E_exit {w : List Nat} {o : Nat} {L : List Nat} {bs tk : Nat} {C : fz_s → Prop} {n : Nat} {m : fz_s} (hS : yQS w o L bs tk m) (hb : m.1 196 5 = 0) (hl : w.length < 1700 ∧ bs < 1700) (hw : w.length ≤ bs ∨ ∃ v w', w = v :: w' ∧ v < 60) (hn : 1 ≤ n) (hq : C m) : lp_X12_qEndsPart_0 C n m := by
  obtain ⟨k, rfl⟩ : ∃ k, n = k + 1 := ⟨n - 1, by omega⟩
  obtain ⟨a1, a2, a3, a4, a5, a6, a7, a8⟩ := hS
  show nd_X12_qEndsPart_0 (lp_X12_qEndsPart_0 C k) C m
  unfold nd_X12_qEndsPart_0
  refine nf hb ?_
  rw [a3, a5]
  by_cases c : w.length ≤ bs
  · exact bt (by simp (disch := omega) only [N_lit, N_add, N_mul, N_sub, N_addneg, N_neg1, N_addm, N_le, N_lt, N_eq, N_in, N_cl, N_ne, N_ne', N_ltm, N_mlt, N_lem] <;> omega) hq
  · rcases hw with z | ⟨v, w', z1, z2⟩
    · exact absurd z c
    · subst z1
      have el : (v :: w').length = w'.length + 1 := rfl
      refine bf (by simp (disch := omega) only [N_lit, N_add, N_mul, N_sub, N_addneg, N_neg1, N_addm, N_le, N_lt, N_eq, N_in, N_cl, N_ne, N_ne', N_ltm, N_mlt, N_lem] <;> omega) ?_
      rw [el, show nI (w'.length + 1) - 1 = nI w'.length from N_sub (b := 1) (by omega)]
      refine ⟨N_in ⟨by omega, by omega⟩, ?_⟩
      rw [N_cl (by omega), a6.1]
      exact bt (by simp (disch := omega) only [N_lit, N_add, N_mul, N_sub, N_addneg, N_neg1, N_addm, N_le, N_lt, N_eq, N_in, N_cl, N_ne, N_ne', N_ltm, N_mlt, N_lem] <;> omega) hq
theorem y_E_pop {v c : Nat} {w : List Nat} {o : Nat} {L : List Nat} {bs tk : Nat} {C : fz_s → Prop} {n : Nat} {m : fz_s} (hS : yQS (v :: w) (o + 1) L bs tk m) (hb : m.1 196 5 = 0) (hl : L.length + w.length < 1690) (hbs : bs ≤ w.length) (hv : v = cM c) (h60 : 60 ≤ v) (hq : ∀ m', yQS w o (L ++ [c]) bs tk m' → Fr pQs m m' → lp_X12_qEndsPart_0 C n m') : lp_X12_qEndsPart_0 C (n + 1) m := by
  obtain ⟨a1, a2, a3, a4, a5, a6, a7, a8⟩ := id hS
  have el : (v :: w).length = w.length + 1 := rfl
  have hv100 := a8 v List.mem_cons_self
  show nd_X12_qEndsPart_0 (lp_X12_qEndsPart_0 C n) C m
  unfold nd_X12_qEndsPart_0
  refine nf hb ?_
  rw [a3, a5, a4, el]
  refine bf (by simp (disch := omega) only [N_lit, N_add, N_mul, N_sub, N_addneg, N_neg1, N_addm, N_le, N_lt, N_eq, N_in, N_cl, N_ne, N_ne', N_ltm, N_mlt, N_lem] <;> omega) ?_
  rw [show nI (w.length + 1) - 1 = nI w.length from N_sub (b := 1) (by omega), show nI (o + 1) - 1 = nI o from N_sub (b := 1) (by omega)]
  refine ⟨N_in ⟨by omega, by omega⟩, ?_⟩
  rw [N_cl (by omega), a6.1]
  refine bf (by simp (disch := omega) only [N_lit, N_add, N_mul, N_sub, N_addneg, N_neg1, N_addm, N_le, N_lt, N_eq, N_in, N_cl, N_ne, N_ne', N_ltm, N_mlt, N_lem] <;> omega) (fun s1 e1 => ?_)
  exact y_qDropsO hS e1 hv (by omega) hq

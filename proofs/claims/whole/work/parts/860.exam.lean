/-! EXAM: the model's loops -/
def p239 (a _j : Nat) : Bool := decide (a = 239)
theorem p239_f {a j : Nat} (h : a ≠ 239) : p239 a j = false := decide_eq_false h
theorem p239_t (j : Nat) : p239 239 j = true := decide_eq_true rfl
theorem p239_pD {s s' : fz_s} (h : Fr p239 s s') : Fr pD s s' := h.mono fun a j q => by
  have := of_decide_eq_false q
  exact p239_f (by omega)
theorem any1 {T : TT} {W : WW} {ch : Nat → Nat} (i : Nat) : anyD T W ch i 1 = ((ansQ T W (ch 0) (i / 8) != ansQ T W (ch 0) (i % 8)) || ((fFal (i / 8) != fFal (i % 8)) || (fFal (i / 8) != fFal (i % 8)))) := by
  show (false || dif T W (ch 0) i) = _
  unfold dif fFal
  simp
theorem any2 {T : TT} {W : WW} {ch : Nat → Nat} (i : Nat) : anyD T W ch i 2 = ((ansQ T W (ch 0) (i / 8) != ansQ T W (ch 0) (i % 8)) || ((ansQ T W (ch 1) (i / 8) != ansQ T W (ch 1) (i % 8)) || (fFal (i / 8) != fFal (i % 8)))) := by
  show ((false || dif T W (ch 0) i) || dif T W (ch 1) i) = _
  unfold dif fFal
  simp
theorem any3 {T : TT} {W : WW} {ch : Nat → Nat} (i : Nat) : anyD T W ch i 3 = ((ansQ T W (ch 0) (i / 8) != ansQ T W (ch 0) (i % 8)) || ((ansQ T W (ch 1) (i / 8) != ansQ T W (ch 1) (i % 8)) || (ansQ T W (ch 2) (i / 8) != ansQ T W (ch 2) (i % 8)))) := by
  show (((false || dif T W (ch 0) i) || dif T W (ch 1) i) || dif T W (ch 2) i) = _
  unfold dif
  simp [Bool.or_assoc]
theorem fnd0 (T : TT) (W : WW) (k lo : Nat) (ch : Nat → Nat) : fnd T W 0 k lo ch = fnd T W 0 k 0 ch := rfl
def c1 (a : Nat) : Nat → Nat := upf z0 0 a
def c2 (a b : Nat) : Nat → Nat := upf (c1 a) 1 b
def c3 (a b c : Nat) : Nat → Nat := upf (c2 a b) 2 c
def MY (T : TT) (W : WW) (m : fz_s) : Prop := MM T W m ∧ YS T W m
theorem MY.fr {T : TT} {W : WW} {m m' : fz_s} (h : MY T W m) (hF : Fr p239 m m') : MY T W m' := ⟨h.1.fr (p239_pD hF), (hF.i _ _ (p239_f (by omega))).trans h.2.1, fun q hq => (hF.i _ _ (p239_f (by omega))).trans (h.2.2 q hq)⟩
theorem m_e1 {T : TT} {W : WW} {m0 : fz_s} {Q : Int32 → fz_s → Prop} (h0 : MY T W m0) (hs : ∀ z m', fnd T W 1 0 0 z0 = some z → Fr p239 m0 m' → m'.1 239 0 = nI (z 0) → Q 1 m') (hn : ∀ m', fnd T W 1 0 0 z0 = none → Fr p239 m0 m' → lp_X12_examMany_52 Q 2048 0 m') : ∀ (d n a : Nat) (m : fz_s), a + d = 27 → d < n → Fr p239 m0 m → fnd T W 1 0 0 z0 = gon (fun q => fnd T W 0 1 (q + 1) (c1 q)) d a → lp_X12_examMany_14 Q n (nI a) m
  | d, 0, a, m, _, h2, _, _ => absurd h2 (by omega)
  | 0, n + 1, a, m, ha, _, hF, he => by
    have : a = 27 := by omega
    subst this
    show nd_X12_examMany_14 (lp_X12_examMany_14 Q n) Q (nI 27) m
    unfold nd_X12_examMany_14
    exact bt (by simp (disch := omega) only [N_lit, N_add, N_mul, N_sub, N_addneg, N_neg1, N_addm, N_le, N_lt, N_eq, N_in, N_cl, N_ne, N_ne', N_ltm, N_mlt, N_lem] <;> omega) (hn m he hF)
  | d + 1, n + 1, a, m, ha, h2, hF, he => by
    show nd_X12_examMany_14 (lp_X12_examMany_14 Q n) Q (nI a) m
    unfold nd_X12_examMany_14
    refine bf (by simp (disch := omega) only [N_lit, N_add, N_mul, N_sub, N_addneg, N_neg1, N_addm, N_le, N_lt, N_eq, N_in, N_cl, N_ne, N_ne', N_ltm, N_mlt, N_lem] <;> omega) ?_
    intro s1 e1
    have f1 : Fr p239 m0 s1 := by rw [e1]; exact hF.si (p239_t _)
    have r0 : s1.1 239 0 = nI a := by rw [e1]; exact g_eq
    have h1 := h0.fr f1
    rw [N_cl (by omega)]
    refine ⟨N_in ⟨by omega, by omega⟩, m_leaf (k := 1) (ch := c1 a) h1.1 h1.2.1 (h1.2.2 a (by omega)) (bts_F T.1).symm (bts_F T.1).symm any1 (fun z => ⟨fun e => (by cases e), fun _ => hs (c1 a) s1 ?_ f1 (r0.trans ?_)⟩) (fun z => ⟨fun _ x4 e4 => ?_, fun e => (by cases e)⟩)⟩
    · rw [he]; exact gon_s z
    · show nI a = nI (upf z0 0 a 0); rw [upf_eq]
    · rw [e4, nI_1]
      exact m_e1 h0 hs hn d n (a + 1) s1 (by omega) (by omega) f1 (he.trans (gon_n z))
theorem m_e2I {T : TT} {W : WW} {m0 : fz_s} {Q : Int32 → fz_s → Prop} (h0 : MY T W m0) {a : Nat} (ha : a < 27) {K : Int32 → fz_s → Prop} (hs : ∀ z m', fnd T W 1 1 (a + 1) (c1 a) = some z → Fr p239 m0 m' → m'.1 239 0 = nI (z 0) → m'.1 239 1 = nI (z 1) → Q 2 m') (hn : ∀ m', fnd T W 1 1 (a + 1) (c1 a) = none → Fr p239 m0 m' → K (nI (a + 1)) m') : ∀ (d n b : Nat) (m : fz_s), b + d = 27 → d < n → Fr p239 m0 m → fnd T W 1 1 (a + 1) (c1 a) = gon (fun q => fnd T W 0 2 (q + 1) (c2 a q)) d b → lp_X12_examMany_62 K Q n (nI a) (nI b) m
  | d, 0, b, m, _, h2, _, _ => absurd h2 (by omega)
  | 0, n + 1, b, m, hb, _, hF, he => by
    have : b = 27 := by omega
    subst this
    show nd_X12_examMany_62 K (lp_X12_examMany_62 K Q n) Q (nI a) (nI 27) m
    unfold nd_X12_examMany_62
    refine bt (by simp (disch := omega) only [N_lit, N_add, N_mul, N_sub, N_addneg, N_neg1, N_addm, N_le, N_lt, N_eq, N_in, N_cl, N_ne, N_ne', N_ltm, N_mlt, N_lem] <;> omega) ?_
    intro x1 e1
    rw [e1, nI_1]
    exact hn m he hF
  | d + 1, n + 1, b, m, hb, h2, hF, he => by
    show nd_X12_examMany_62 K (lp_X12_examMany_62 K Q n) Q (nI a) (nI b) m
    unfold nd_X12_examMany_62
    refine bf (by simp (disch := omega) only [N_lit, N_add, N_mul, N_sub, N_addneg, N_neg1, N_addm, N_le, N_lt, N_eq, N_in, N_cl, N_ne, N_ne', N_ltm, N_mlt, N_lem] <;> omega) ?_
    intro s2 e2 s3 e3
    have f3 : Fr p239 m0 s3 := by rw [e3, e2]; exact (hF.si (p239_t _)).si (p239_t _)
    have r0 : s3.1 239 0 = nI a := by rw [e3, e2]; exact (g_nj (by decide)).trans g_eq
    have r1 : s3.1 239 1 = nI b := by rw [e3]; exact g_eq
    have h3 := h0.fr f3
    rw [N_cl (by omega), N_cl (by omega)]
    have ec0 : c2 a b 0 = a := by show upf (upf z0 0 a) 1 b 0 = a; rw [upf_ne (by omega), upf_eq]
    have ec1 : c2 a b 1 = b := by show upf (upf z0 0 a) 1 b 1 = b; rw [upf_eq]
    have hD : ∀ i, anyD T W (c2 a b) i 2 = ((ansQ T W a (i / 8) != ansQ T W a (i % 8)) || ((ansQ T W b (i / 8) != ansQ T W b (i % 8)) || (fFal (i / 8) != fFal (i % 8)))) := fun i => by rw [any2, ec0, ec1]
    refine ⟨N_in ⟨by omega, by omega⟩, N_in ⟨by omega, by omega⟩, m_leaf (k := 2) (ch := c2 a b) h3.1 h3.2.1 (h3.2.2 a ha) (h3.2.2 b (by omega)) (bts_F T.1).symm hD (fun z => ⟨fun e => (by cases e), fun _ => hs (c2 a b) s3 ?_ f3 (by rw [ec0]; exact r0) (by rw [ec1]; exact r1)⟩) (fun z => ⟨fun _ x4 e4 => ?_, fun e => (by cases e)⟩)⟩
    · rw [he]; exact gon_s z
    · rw [e4, nI_1]
      exact m_e2I h0 ha hs hn d n (b + 1) s3 (by omega) (by omega) f3 (he.trans (gon_n z))
theorem m_e2 {T : TT} {W : WW} {m0 : fz_s} {Q : Int32 → fz_s → Prop} (h0 : MY T W m0) (hs : ∀ z m', fnd T W 2 0 0 z0 = some z → Fr p239 m0 m' → m'.1 239 0 = nI (z 0) → m'.1 239 1 = nI (z 1) → Q 2 m') (hn : ∀ m', fnd T W 2 0 0 z0 = none → Fr p239 m0 m' → lp_X12_examMany_118 Q 2048 0 m') : ∀ (d n a : Nat) (m : fz_s), a + d = 27 → d < n → Fr p239 m0 m → fnd T W 2 0 0 z0 = gon (fun q => fnd T W 1 1 (q + 1) (c1 q)) d a → lp_X12_examMany_52 Q n (nI a) m
  | d, 0, a, m, _, h2, _, _ => absurd h2 (by omega)
  | 0, n + 1, a, m, ha, _, hF, he => by
    have : a = 27 := by omega
    subst this
    show nd_X12_examMany_52 (lp_X12_examMany_52 Q n) Q (nI 27) m
    unfold nd_X12_examMany_52
    exact bt (by simp (disch := omega) only [N_lit, N_add, N_mul, N_sub, N_addneg, N_neg1, N_addm, N_le, N_lt, N_eq, N_in, N_cl, N_ne, N_ne', N_ltm, N_mlt, N_lem] <;> omega) (hn m he hF)
  | d + 1, n + 1, a, m, ha, h2, hF, he => by
    show nd_X12_examMany_52 (lp_X12_examMany_52 Q n) Q (nI a) m
    unfold nd_X12_examMany_52
    refine bf (by simp (disch := omega) only [N_lit, N_add, N_mul, N_sub, N_addneg, N_neg1, N_addm, N_le, N_lt, N_eq, N_in, N_cl, N_ne, N_ne', N_ltm, N_mlt, N_lem] <;> omega) ?_
    intro x1 e1
    rw [e1, nI_1]
    refine m_e2I h0 (by omega) (fun z m' hz f r0 r1 => hs z m' (by rw [he]; exact gon_s hz) f r0 r1) (fun m' hz f => ?_) (27 - (a + 1)) 2048 (a + 1) m (by omega) (by omega) hF rfl
    exact m_e2 h0 hs hn d n (a + 1) m' (by omega) (by omega) f (he.trans (gon_n hz))
theorem m_e3I {T : TT} {W : WW} {m0 : fz_s} {Q : Int32 → fz_s → Prop} (h0 : MY T W m0) {a b : Nat} (ha : a < 27) (hb : b < 27) {K118 : Int32 → fz_s → Prop} {K : Int32 → Int32 → fz_s → Prop} (hs : ∀ z m', fnd T W 1 2 (b + 1) (c2 a b) = some z → Fr p239 m0 m' → m'.1 239 0 = nI (z 0) → m'.1 239 1 = nI (z 1) → m'.1 239 2 = nI (z 2) → Q 3 m') (hn : ∀ m', fnd T W 1 2 (b + 1) (c2 a b) = none → Fr p239 m0 m' → K (nI a) (nI (b + 1)) m') : ∀ (d n c : Nat) (m : fz_s), c + d = 27 → d < n → Fr p239 m0 m → fnd T W 1 2 (b + 1) (c2 a b) = gon (fun q => fnd T W 0 3 (q + 1) (c3 a b q)) d c → lp_X12_examMany_138 K118 K Q n (nI a) (nI b) (nI c) m
  | d, 0, c, m, _, h2, _, _ => absurd h2 (by omega)
  | 0, n + 1, c, m, hc, _, hF, he => by
    have : c = 27 := by omega
    subst this
    show nd_X12_examMany_138 K118 K (lp_X12_examMany_138 K118 K Q n) Q (nI a) (nI b) (nI 27) m
    unfold nd_X12_examMany_138
    refine bt (by simp (disch := omega) only [N_lit, N_add, N_mul, N_sub, N_addneg, N_neg1, N_addm, N_le, N_lt, N_eq, N_in, N_cl, N_ne, N_ne', N_ltm, N_mlt, N_lem] <;> omega) ?_
    intro x1 e1
    rw [e1, nI_1]
    exact hn m he hF
  | d + 1, n + 1, c, m, hc, h2, hF, he => by
    show nd_X12_examMany_138 K118 K (lp_X12_examMany_138 K118 K Q n) Q (nI a) (nI b) (nI c) m
    unfold nd_X12_examMany_138
    refine bf (by simp (disch := omega) only [N_lit, N_add, N_mul, N_sub, N_addneg, N_neg1, N_addm, N_le, N_lt, N_eq, N_in, N_cl, N_ne, N_ne', N_ltm, N_mlt, N_lem] <;> omega) ?_
    intro s2 e2 s3 e3 s4 e4
    have f4 : Fr p239 m0 s4 := by rw [e4, e3, e2]; exact ((hF.si (p239_t _)).si (p239_t _)).si (p239_t _)
    have r0 : s4.1 239 0 = nI a := by rw [e4, e3, e2]; exact (g_nj (by decide)).trans ((g_nj (by decide)).trans g_eq)
    have r1 : s4.1 239 1 = nI b := by rw [e4, e3]; exact (g_nj (by decide)).trans g_eq
    have r2 : s4.1 239 2 = nI c := by rw [e4]; exact g_eq
    have h4 := h0.fr f4
    rw [N_cl (by omega), N_cl (by omega), N_cl (by omega)]
    have ec0 : c3 a b c 0 = a := by show upf (upf (upf z0 0 a) 1 b) 2 c 0 = a; rw [upf_ne (by omega), upf_ne (by omega), upf_eq]
    have ec1 : c3 a b c 1 = b := by show upf (upf (upf z0 0 a) 1 b) 2 c 1 = b; rw [upf_ne (by omega), upf_eq]
    have ec2 : c3 a b c 2 = c := by show upf (upf (upf z0 0 a) 1 b) 2 c 2 = c; rw [upf_eq]
    have hD : ∀ i, anyD T W (c3 a b c) i 3 = ((ansQ T W a (i / 8) != ansQ T W a (i % 8)) || ((ansQ T W b (i / 8) != ansQ T W b (i % 8)) || (ansQ T W c (i / 8) != ansQ T W c (i % 8)))) := fun i => by rw [any3, ec0, ec1, ec2]
    refine ⟨N_in ⟨by omega, by omega⟩, N_in ⟨by omega, by omega⟩, N_in ⟨by omega, by omega⟩, m_leaf (k := 3) (ch := c3 a b c) h4.1 h4.2.1 (h4.2.2 a ha) (h4.2.2 b hb) (h4.2.2 c (by omega)) hD (fun z => ⟨fun e => (by cases e), fun _ => hs (c3 a b c) s4 ?_ f4 (by rw [ec0]; exact r0) (by rw [ec1]; exact r1) (by rw [ec2]; exact r2)⟩) (fun z => ⟨fun _ x4 e4 => ?_, fun e => (by cases e)⟩)⟩
    · rw [he]; exact gon_s z
    · rw [e4, nI_1]
      exact m_e3I h0 ha hb hs hn d n (c + 1) s4 (by omega) (by omega) f4 (he.trans (gon_n z))
theorem m_e3M {T : TT} {W : WW} {m0 : fz_s} {Q : Int32 → fz_s → Prop} (h0 : MY T W m0) {a : Nat} (ha : a < 27) {K : Int32 → fz_s → Prop} (hs : ∀ z m', fnd T W 2 1 (a + 1) (c1 a) = some z → Fr p239 m0 m' → m'.1 239 0 = nI (z 0) → m'.1 239 1 = nI (z 1) → m'.1 239 2 = nI (z 2) → Q 3 m') (hn : ∀ m', fnd T W 2 1 (a + 1) (c1 a) = none → Fr p239 m0 m' → K (nI (a + 1)) m') : ∀ (d n b : Nat) (m : fz_s), b + d = 27 → d < n → Fr p239 m0 m → fnd T W 2 1 (a + 1) (c1 a) = gon (fun q => fnd T W 1 2 (q + 1) (c2 a q)) d b → lp_X12_examMany_128 K Q n (nI a) (nI b) m
  | d, 0, b, m, _, h2, _, _ => absurd h2 (by omega)
  | 0, n + 1, b, m, hb, _, hF, he => by
    have : b = 27 := by omega
    subst this
    show nd_X12_examMany_128 K (lp_X12_examMany_128 K Q n) Q (nI a) (nI 27) m
    unfold nd_X12_examMany_128
    refine bt (by simp (disch := omega) only [N_lit, N_add, N_mul, N_sub, N_addneg, N_neg1, N_addm, N_le, N_lt, N_eq, N_in, N_cl, N_ne, N_ne', N_ltm, N_mlt, N_lem] <;> omega) ?_
    intro x1 e1
    rw [e1, nI_1]
    exact hn m he hF
  | d + 1, n + 1, b, m, hb, h2, hF, he => by
    show nd_X12_examMany_128 K (lp_X12_examMany_128 K Q n) Q (nI a) (nI b) m
    unfold nd_X12_examMany_128
    refine bf (by simp (disch := omega) only [N_lit, N_add, N_mul, N_sub, N_addneg, N_neg1, N_addm, N_le, N_lt, N_eq, N_in, N_cl, N_ne, N_ne', N_ltm, N_mlt, N_lem] <;> omega) ?_
    intro x2 e2
    rw [e2, nI_1]
    refine m_e3I h0 ha (by omega) (fun z m' hz f r0 r1 r2 => hs z m' (by rw [he]; exact gon_s hz) f r0 r1 r2) (fun m' hz f => ?_) (27 - (b + 1)) 2048 (b + 1) m (by omega) (by omega) hF rfl
    exact m_e3M h0 ha hs hn d n (b + 1) m' (by omega) (by omega) f (he.trans (gon_n hz))
theorem m_e3 {T : TT} {W : WW} {m0 : fz_s} {Q : Int32 → fz_s → Prop} (h0 : MY T W m0) (hs : ∀ z m', fnd T W 3 0 0 z0 = some z → Fr p239 m0 m' → m'.1 239 0 = nI (z 0) → m'.1 239 1 = nI (z 1) → m'.1 239 2 = nI (z 2) → Q 3 m') (hn : ∀ m', fnd T W 3 0 0 z0 = none → Fr p239 m0 m' → Q (-1) m') : ∀ (d n a : Nat) (m : fz_s), a + d = 27 → d < n → Fr p239 m0 m → fnd T W 3 0 0 z0 = gon (fun q => fnd T W 2 1 (q + 1) (c1 q)) d a → lp_X12_examMany_118 Q n (nI a) m
  | d, 0, a, m, _, h2, _, _ => absurd h2 (by omega)
  | 0, n + 1, a, m, ha, _, hF, he => by
    have : a = 27 := by omega
    subst this
    show nd_X12_examMany_118 (lp_X12_examMany_118 Q n) Q (nI 27) m
    unfold nd_X12_examMany_118
    exact bt (by simp (disch := omega) only [N_lit, N_add, N_mul, N_sub, N_addneg, N_neg1, N_addm, N_le, N_lt, N_eq, N_in, N_cl, N_ne, N_ne', N_ltm, N_mlt, N_lem] <;> omega) (hn m he hF)
  | d + 1, n + 1, a, m, ha, h2, hF, he => by
    show nd_X12_examMany_118 (lp_X12_examMany_118 Q n) Q (nI a) m
    unfold nd_X12_examMany_118
    refine bf (by simp (disch := omega) only [N_lit, N_add, N_mul, N_sub, N_addneg, N_neg1, N_addm, N_le, N_lt, N_eq, N_in, N_cl, N_ne, N_ne', N_ltm, N_mlt, N_lem] <;> omega) ?_
    intro x1 e1
    rw [e1, nI_1]
    refine m_e3M h0 (by omega) (fun z m' hz f r0 r1 r2 => hs z m' (by rw [he]; exact gon_s hz) f r0 r1 r2) (fun m' hz f => ?_) (27 - (a + 1)) 2048 (a + 1) m (by omega) (by omega) hF rfl
    exact m_e3 h0 hs hn d n (a + 1) m' (by omega) (by omega) f (he.trans (gon_n hz))
theorem m_examMany {T : TT} {W : WW} {m : fz_s} (h : MY T W m) {Q : Int32 → fz_s → Prop} (hs : ∀ c z m', exmS T W 4 0 = some (c, z) → c ≤ 3 → Fr p239 m m' → (∀ j, j < c → m'.1 239 j = nI (z j)) → Q (nI c) m') (hn : ∀ m', exmS T W 4 0 = none → Fr p239 m m' → Q (-1) m') : wp_X12_examMany m Q := by
  unfold wp_X12_examMany
  refine m_leaf (k := 0) (ch := z0) (fa := fFal) (fb := fFal) (fc := fFal) h.1 h.2.1 (bts_F T.1).symm (bts_F T.1).symm (bts_F T.1).symm (fun i => by show false = _; unfold fFal; rfl) (fun z => ⟨fun e => (by cases e), fun _ => hs 0 z0 m (exmS_s z) (by omega) Fr.rf (fun j hj => absurd hj (Nat.not_lt_zero _))⟩) (fun z => ⟨fun _ => ?_, fun e => (by cases e)⟩)
  have e1 : exmS T W 4 0 = exmS T W 3 1 := exmS_n z
  refine m_e1 h (fun z m' hz f r0 => hs 1 z m' (by rw [e1]; exact exmS_s hz) (by omega) f (fun j hj => by rw [show j = 0 by omega]; exact r0)) (fun m1 hz f1 => ?_) 27 2048 0 m (by omega) (by omega) Fr.rf rfl
  have e2 : exmS T W 4 0 = exmS T W 2 2 := e1.trans (exmS_n hz)
  refine m_e2 (h.fr f1) (fun z m' hz f r0 r1 => hs 2 z m' (by rw [e2]; exact exmS_s hz) (by omega) (f1.tr f) (fun j hj => ?_)) (fun m2 hz2 f2 => ?_) 27 2048 0 m1 (by omega) (by omega) Fr.rf rfl
  · rcases (show j = 0 ∨ j = 1 by omega) with rfl | rfl
    · exact r0
    · exact r1
  have e3 : exmS T W 4 0 = exmS T W 1 3 := e2.trans (exmS_n hz2)
  refine m_e3 ((h.fr f1).fr f2) (fun z m' hz f r0 r1 r2 => hs 3 z m' (by rw [e3]; exact exmS_s hz) (by omega) ((f1.tr f2).tr f) (fun j hj => ?_)) (fun m3 hz3 f3 => hn m3 (by rw [e3]; exact (exmS_n hz3).trans rfl) ((f1.tr f2).tr f3)) 27 2048 0 m2 (by omega) (by omega) Fr.rf rfl
  rcases (show j = 0 ∨ j = 1 ∨ j = 2 by omega) with rfl | rfl | rfl
  · exact r0
  · exact r1
  · exact r2
theorem gon_lt {f : Nat → Option (Nat → Nat)} {P : (Nat → Nat) → Prop} : ∀ (d q : Nat), q + d ≤ 27 → (∀ q z, q < 27 → f q = some z → P z) → ∀ z, gon f d q = some z → P z
  | 0, q, _, _, z, e => by cases e
  | d + 1, q, hq, hf, z, e => by
    cases ef : f q with
    | none => rw [gon_n ef] at e; exact gon_lt d (q + 1) (by omega) hf z e
    | some y =>
      rw [gon_s ef] at e
      have : y = z := Option.some.inj e
      subst this
      exact hf q y (by omega) ef
theorem fnd_lt (T : TT) (W : WW) : ∀ (r k lo : Nat) (ch z : Nat → Nat), lo ≤ 27 → (∀ j, ch j < 27) → fnd T W r k lo ch = some z → ∀ j, z j < 27
  | 0, k, lo, ch, z, _, hc, e => by
    have e' : (if okE T W ch k = true then some ch else none) = some z := e
    split at e'
    · have : ch = z := Option.some.inj e'
      subst this
      exact hc
    · cases e'
  | r + 1, k, lo, ch, z, hlo, hc, e => by
    have e' : gon (fun q => fnd T W r (k + 1) (q + 1) (upf ch k q)) (27 - lo) lo = some z := e
    refine gon_lt (P := fun z => ∀ j, z j < 27) (27 - lo) lo (by omega) (fun q y hq ey => ?_) z e'
    refine fnd_lt T W r (k + 1) (q + 1) (upf ch k q) y (by omega) (fun j => ?_) ey
    unfold upf
    split
    · exact hq
    · exact hc j
theorem exm_lt {T : TT} {W : WW} : ∀ (d c : Nat) {c' : Nat} {z : Nat → Nat}, exmS T W d c = some (c', z) → ∀ j, z j < 27
  | 0, c, c', z, e => by cases e
  | d + 1, c, c', z, e => by
    cases ef : fnd T W c 0 0 z0 with
    | none => rw [exmS_n ef] at e; exact exm_lt d (c + 1) e
    | some y =>
      rw [exmS_s ef] at e
      have e2 : (c, y) = (c', z) := Option.some.inj e
      have e3 : y = z := congrArg Prod.snd e2
      rw [← e3]
      exact fnd_lt T W c 0 0 z0 y (by omega) (fun j => by show 0 < 27; omega) ef
theorem c_told {c y : Nat} {z : Int} {x : fz_s} (h5 : x.1 181 5 = nI c) (hc : c ≤ 3) (hz : 0 ≤ z ∧ z < c) (hr : x.1 183 z.toNat = nI y) (hy : y < 27) {Q : Int32 → fz_s → Prop} (hq : Q (nI (y / 9 * 10 + y % 9 + 1)) x) : wp_X1_told (iI z) x Q := by
  unfold wp_X1_told
  have z0' : (iI z < 0) ↔ z < 0 := i_lt (b := 0) ⟨⟨by omega, by omega⟩, by omega, by omega⟩
  have zc : (iI z < nI c) ↔ z < c := by rw [i_nI]; exact i_lt ⟨⟨by omega, by omega⟩, by omega, by omega⟩
  rw [h5, z0', zc, i_cl ⟨by omega, by omega⟩, hr, show nI y - nI y / 9 * 9 = nI (y % 9) from N_mod (b := 9) ⟨by omega, by omega⟩, show nI y / 9 = nI (y / 9) from N_div (b := 9) ⟨by omega, by omega⟩, show nI (y / 9) * 10 = nI (y / 9 * 10) from N_mul _ 10, N_add, nI_1]
  exact bf (by omega) (bt (by omega) ⟨i_in ⟨by omega, by omega⟩, i_in ⟨by omega, by omega⟩, hq⟩)
theorem EQ_exam_ok : EQ_exam INV := by
  intro x m p0 h
  obtain ⟨t, T, W, kf, kn, ⟨tp, tn, h1⟩, h2, ⟨pn, h3⟩, ⟨sd, h4⟩, ⟨sn, nm, nl, h5⟩, h6, h7, ⟨us, ac, o, nw, h8⟩, ⟨rs, rn, h9⟩, h10⟩ := id h
  obtain ⟨z, rfl, hz⟩ := i_of p0
  have hn := h6.1.1.1
  have lm : lR (-1) := by unfold lR; omega
  have l2 : lR 2 := by unfold lR; omega
  have em1 : (-1 : Int32) = iI (-1) := by decide +kernel
  have e1 : (iI z < -1) ↔ z < -1 := by rw [em1]; exact i_lt ⟨hz, by omega, by omega⟩
  have e2 : ((3 : Int32) ≤ iI z) ↔ 3 ≤ z := i_le (a := 3) (b := z) ⟨⟨by omega, by omega⟩, hz⟩
  have e3 : (iI z = -1) ↔ z = -1 := by rw [em1]; exact i_eq ⟨hz, by omega, by omega⟩
  have eq3 : ∀ {Q : Bool → fz_s → Prop} {s : fz_s}, Q (decide (-1 ≤ z ∧ z ≤ 2)) s → wp_X12_isIn (lI z) (-1) 2 s Q := fun hq => by
    rw [show (-1 : Int64) = lI (-1) by decide +kernel]
    exact m_isIn (b := -1) (c := 2) (lR_i hz) lm l2 hq
  unfold wp_X11_exam wp_X12_exam
  rw [e1, e2, e3, i_64 hz, h5.2.1]
  refine c_noTreaty h5.1 ⟨fun q => ?_, fun q => ?_⟩
  · rw [Bool.not_eq_true'] at q
    subst q
    exact bt rfl ⟨rfl, h⟩
  rw [Bool.not_eq_false'] at q
  subst q
  have t1 : ¬ (nI (b01 true) = 0) := by decide +kernel
  by_cases c1 : z < -1
  · exact bt c1 (bf t1 (eq3 ⟨fun e => absurd (of_decide_eq_true e) (by omega), fun _ => ⟨rfl, h⟩⟩))
  refine bf c1 ?_
  by_cases c2 : 3 ≤ z
  · exact bt c2 (bf t1 (eq3 ⟨fun e => absurd (of_decide_eq_true e) (by omega), fun _ => ⟨rfl, h⟩⟩))
  refine bf c2 ?_
  -- the model's answer
  have mod : ∀ (x' : fz_s) (r : Int32), Fr pC x x' → (∀ c y, exmS T W 4 0 = some (c, y) → c ≤ 3 → ((z = -1 → r = nI c) ∧ (z ≠ -1 → (c : Int) ≤ z → r = -1) ∧ (z ≠ -1 → z < c → r = nI (10 * (y z.toNat / 9) + y z.toNat % 9 + 1)))) → (exmS T W 4 0 = none → r = -1) → ((nI (b01 true) = 0 → (r = -1 ∧ INV x' m)) ∧ (¬ nI (b01 true) = 0 → wp_X12_isIn (lI z) (-1) 2 m (fun r1 s2 => ((r1 = true → wp_X12_laysYes s2 (fun s4 => wp_X12_examMany s4 (fun r5 s6 => ((z = -1 → (r = r5 ∧ INV x' s6)) ∧ (¬ z = -1 → ((¬ r5 = (-1) → ((iI z < r5 → vp_in (iI z) 3 ∧ vp_in (iI z) 3 ∧ (r = (((10 * ((s6.1 239 (iI z).toNatClampNeg) / 9)) + ((s6.1 239 (iI z).toNatClampNeg) - (s6.1 239 (iI z).toNatClampNeg) / 9 * 9)) + 1) ∧ INV x' s6)) ∧ (¬ iI z < r5 → (r = -1 ∧ INV x' s6)))) ∧ (r5 = (-1) → (r = r5 ∧ INV x' s6))))))) ) ∧ (r1 = false → (r = -1 ∧ INV x' s2)))))) := by
    intro x' r hF hr hrn
    refine bf t1 (eq3 ⟨fun _ => ?_, fun e => absurd (of_decide_eq_false e) (by omega)⟩)
    refine m_laysYes h6.2.1 (fun m1 f1 y1 => m_examMany ⟨h6.2.1.fr (pYs_pD f1), y1⟩ (fun c y m2 he hc f2 hrow => ?_) (fun m2 he f2 => ?_))
    · have hI : INV x' m2 := h.fr hF ((pYs_pD f1).tr (p239_pD f2))
      obtain ⟨ha, hb, hd⟩ := hr c y he hc
      refine ⟨fun e => ⟨ha e, hI⟩, fun e => ⟨fun _ => ?_, fun e5 => absurd e5 (fun w => (N_ne (by omega)).mp w)⟩⟩
      have el : (iI z < nI c) ↔ z < c := by rw [i_nI]; exact i_lt ⟨hz, by omega, by omega⟩
      rw [el]
      refine ⟨fun cz => ⟨i_in ⟨by omega, by omega⟩, i_in ⟨by omega, by omega⟩, ?_, hI⟩, fun cz => ⟨hb e (by omega), hI⟩⟩
      rw [hd e cz, i_cl hz, hrow z.toNat (by omega)]
      have hy27 : y z.toNat < 27 := exm_lt 4 0 he z.toNat
      rw [show nI (y z.toNat) - nI (y z.toNat) / 9 * 9 = nI (y z.toNat % 9) from N_mod (b := 9) ⟨by omega, by omega⟩, show nI (y z.toNat) / 9 = nI (y z.toNat / 9) from N_div (b := 9) ⟨by omega, by omega⟩, show (10 : Int32) * nI (y z.toNat / 9) = nI (10 * (y z.toNat / 9)) from N_mul 10 _, N_add, nI_1]
    · have hI : INV x' m2 := h.fr hF ((pYs_pD f1).tr (p239_pD f2))
      exact ⟨fun _ => ⟨hrn he, hI⟩, fun _ => ⟨fun w => absurd rfl w, fun _ => ⟨hrn he, hI⟩⟩⟩
  refine c_find h6.1 (fun c y x1 he hc f1 r5 hrow => ⟨fun _ => ⟨fun e => ?_, fun e => ?_⟩, fun w => (by cases w)⟩) (fun x1 he f1 => ⟨fun w => (by cases w), fun _ => mod x1 (-1) f1 (fun c y h' _ => by rw [he] at h'; cases h') (fun _ => rfl)⟩)
  · rw [r5]
    have el : (nI c ≤ iI z) ↔ (c : Int) ≤ z := by rw [i_nI]; exact i_le ⟨⟨by omega, by omega⟩, hz⟩
    have uniq : ∀ c' y', exmS T W 4 0 = some (c', y') → c' = c ∧ y' = y := fun c' y' h' => by
      have e2 : (c', y') = (c, y) := Option.some.inj (h'.symm.trans he)
      exact ⟨congrArg Prod.fst e2, congrArg Prod.snd e2⟩
    rw [el]
    refine ⟨fun cz => mod x1 (-1) f1 (fun c' y' h' _ => ?_) (fun _ => rfl), fun cz => ?_⟩
    · obtain ⟨ec, ey⟩ := uniq c' y' h'
      subst ec
      exact ⟨fun w => absurd w e, fun _ _ => rfl, fun _ w => absurd cz (by omega)⟩
    · have hy27 : y z.toNat < 27 := exm_lt 4 0 he z.toNat
      refine c_told r5 hc ⟨by omega, by omega⟩ (hrow z.toNat (by omega)) hy27 ?_
      refine mod x1 (nI (y z.toNat / 9 * 10 + y z.toNat % 9 + 1)) f1 (fun c' y' h' _ => ?_) (fun h' => by rw [he] at h'; cases h')
      obtain ⟨ec, ey⟩ := uniq c' y' h'
      subst ec
      subst ey
      exact ⟨fun w => absurd w e, fun _ w => absurd w cz, fun _ _ => by rw [Nat.mul_comm]⟩
  · rw [r5]
    refine mod x1 _ f1 (fun c' y' h' _ => ?_) (fun h' => by rw [he] at h'; cases h')
    have e2 : (c', y') = (c, y) := Option.some.inj (h'.symm.trans he)
    have ec : c' = c := congrArg Prod.fst e2
    rw [ec]
    exact ⟨fun _ => rfl, fun w => absurd e w, fun w => absurd e w⟩

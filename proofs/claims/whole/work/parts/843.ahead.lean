/-! YEARS AHEAD -/
def itW (T : TT) (W : WW) : Nat → WW
  | 0 => W
  | k + 1 => yrW T (itW T W k)
theorem it_yr (T : TT) (W : WW) : ∀ k, (itW T W k).2.2.2.2.2 = W.2.2.2.2.2 + k
  | 0 => rfl
  | k + 1 => by
    show (yeW T (itW T W k) _ _ false).2.2.2.2.2 = _
    rw [ye_yr, it_yr T W k]
    omega
def quW (T : TT) (W : WW) : Nat → WW
  | 0 => W
  | k + 1 => yeW T (quW T W k) (-1) (-1) false
theorem qu_yr (T : TT) (W : WW) : ∀ k, (quW T W k).2.2.2.2.2 = W.2.2.2.2.2 + k
  | 0 => rfl
  | k + 1 => by
    show (yeW T (quW T W k) _ _ false).2.2.2.2.2 = _
    rw [ye_yr, qu_yr T W k]
    omega
theorem pY_pC {s s' : fz_s} (h : Fr (pY 41) s s') : Fr pC s s' := h.mono fun a j q => by
  have := of_decide_eq_false q
  exact pY_f (by omega)
theorem pT_pC {s s' : fz_s} (h : Fr (pT 41) s s') : Fr pC s s' := h.mono fun a j q => by
  have := of_decide_eq_false q
  exact pT_f (by omega)
theorem c_beyond {y : Nat} {z : Int} {x : fz_s} (h : x.1 35 5 = nI y) (hy : y ≤ 999) (hz : 0 ≤ z ∧ z ≤ 1000) {Q : Bool → fz_s → Prop} (hq : Q (decide (999 < (y : Int) + z)) x) : wp_X11_beyond (iI z) x Q := by
  unfold wp_X11_beyond
  rw [h, i_nI, i_add]
  have e1 : (iI ((y : Int) + z) ≤ 999) ↔ (y : Int) + z ≤ 999 := i_le (b := 999) ⟨⟨by omega, by omega⟩, by omega, by omega⟩
  rw [e1]
  by_cases c : (y : Int) + z ≤ 999
  · rw [decide_eq_false (by omega)] at hq
    exact bt c hq
  · rw [decide_eq_true (by omega)] at hq
    exact bf c hq
theorem c_ahead_lp {T : TT} {W : WW} {N : Nat} (hN : N ≤ 60) (hy : W.2.2.2.2.2 + N ≤ 999) {x0 : fz_s} {Q : Bool → fz_s → Prop} (hq : ∀ x', CC T (itW T W N) 41 x' → Fr pC x0 x' → Q true x') : ∀ (n k : Nat) (x : fz_s), CC T (itW T W k) 41 x → Fr pC x0 x → k ≤ N → N < n + k → lp_X11_goAhead_33 Q n (nI N) (nI k) x
  | 0, k, x, _, _, h1, h2 => absurd h2 (by omega)
  | n + 1, k, x, h, hF, h1, h2 => by
    show nd_X11_goAhead_33 (lp_X11_goAhead_33 Q n) Q (nI N) (nI k) x
    unfold nd_X11_goAhead_33
    by_cases c : k = N
    · subst c
      exact bt (by simp (disch := omega) only [N_lit, N_add, N_mul, N_sub, N_addneg, N_neg1, N_addm, N_le, N_lt, N_eq, N_in, N_cl, N_ne, N_ne', N_ltm, N_mlt, N_lem] <;> omega) (hq x h hF)
    refine bf (by simp (disch := omega) only [N_lit, N_add, N_mul, N_sub, N_addneg, N_neg1, N_addm, N_le, N_lt, N_eq, N_in, N_cl, N_ne, N_ne', N_ltm, N_mlt, N_lem] <;> omega) (c_ordinary h (by rw [it_yr]; omega) (fun x1 h1' hF1 _ _ => ?_))
    intro x3 e3
    rw [e3, nI_1]
    exact c_ahead_lp hN hy hq n (k + 1) x1 h1' (hF.tr (pY_pC hF1)) (by omega) (by omega)
def ahd (t : Bool) (W : WW) (lo hi z : Int) : Bool := t && decide (lo ≤ z ∧ z ≤ hi ∧ (W.2.2.2.2.2 : Int) + z ≤ 999)
theorem c_goAhead {T : TT} {W : WW} {z : Int} {x : fz_s} (h : CC T W 35 x) (hy : W.2.2.2.2.2 ≤ 999) (hz : -2147483648 ≤ z ∧ z < 2147483648) {Q : Bool → fz_s → Prop} (hf : ¬ (0 ≤ z ∧ z ≤ 60 ∧ (W.2.2.2.2.2 : Int) + z ≤ 999) → Q false x) (ht : ∀ x', 0 ≤ z ∧ z ≤ 60 ∧ (W.2.2.2.2.2 : Int) + z ≤ 999 → CC T (itW T W z.toNat) 41 x' → Fr pC x x' → Q true x') : wp_X11_goAhead (iI z) x Q := by
  unfold wp_X11_goAhead
  have e1 : (iI z < 0) ↔ z < 0 := i_lt (b := 0) ⟨hz, by omega, by omega⟩
  have e2 : ((60 : Int32) < iI z) ↔ 60 < z := i_lt (a := 60) (b := z) ⟨⟨by omega, by omega⟩, hz⟩
  rw [e1, e2]
  by_cases c1 : z < 0
  · exact bt c1 (hf (by omega))
  refine bf c1 ?_
  by_cases c2 : 60 < z
  · exact bt c2 (hf (by omega))
  refine bf c2 (c_beyond h.2.2.2.1.2.2.2.2.2 hy ⟨by omega, by omega⟩ ⟨fun q => ?_, fun q => hf (by have := of_decide_eq_true q; omega)⟩)
  have q' := of_decide_eq_false q
  refine c_takeW h (by omega) (by omega) (fun x1 hF1 h1 _ => ?_)
  rw [show iI z = nI z.toNat by rw [i_nI, show ((z.toNat : Nat) : Int) = z by omega]]
  exact c_ahead_lp (T := T) (W := W) (N := z.toNat) (by omega) (by omega) (fun x2 h2 hF2 => ht x2 ⟨by omega, by omega, by omega⟩ h2 hF2) 2048 0 x1 h1 (pT_pC hF1) (by omega) (by omega)
theorem m_isAhead {t : Bool} {W : WW} {lo hi z : Int} {m : fz_s} (h : m.1 196 52 = nI (b01 t)) (h0 : m.1 232 0 = nI W.2.2.2.2.2) (hy : W.2.2.2.2.2 ≤ 999) (hz : -2147483648 ≤ z ∧ z < 2147483648) (hl : 0 ≤ lo ∧ lo ≤ 1) (hh : 0 ≤ hi ∧ hi ≤ 100) {Q : Bool → fz_s → Prop} (hq : Q (ahd t W lo hi z) m) : wp_X12_isAhead (iI z) (iI lo) (iI hi) m Q := by
  unfold wp_X12_isAhead
  rw [h]
  unfold ahd at hq
  cases t with
  | false => exact bt rfl hq
  | true =>
    rw [Bool.true_and] at hq
    refine bf (by show ¬ (nI 1 = 0); decide +kernel) ?_
    rw [i_64 hz, i_64 ⟨by omega, by omega⟩, i_64 ⟨by omega, by omega⟩]
    refine m_isIn (lR_i hz) (lR_i ⟨by omega, by omega⟩) (lR_i ⟨by omega, by omega⟩) ⟨fun q => ?_, fun q => ?_⟩
    · have q' := of_decide_eq_false q
      rw [decide_eq_false (by omega)] at hq
      exact hq
    · have q' := of_decide_eq_true q
      rw [show m.1 232 (0 : Int32).toNatClampNeg = nI W.2.2.2.2.2 from h0, i_nI, i_add]
      have e1 : ((999 : Int32) < iI ((W.2.2.2.2.2 : Int) + z)) ↔ 999 < (W.2.2.2.2.2 : Int) + z := i_lt (a := 999) (b := (W.2.2.2.2.2 : Int) + z) ⟨⟨by omega, by omega⟩, by omega, by omega⟩
      rw [e1]
      by_cases c : 999 < (W.2.2.2.2.2 : Int) + z
      · rw [decide_eq_false (by omega)] at hq
        exact bt c hq
      · rw [decide_eq_true (by omega)] at hq
        exact bf c hq
/-! in thought -/
def pTt (a j : Nat) : Bool := pD a j || decide (a = 232 ∧ j < 29) || decide (a = 196 ∧ j = 58)
theorem pTt_f {a j : Nat} (h1 : pD a j = false) (h2 : ¬ (a = 232 ∧ j < 29)) (h3 : ¬ (a = 196 ∧ j = 58)) : pTt a j = false := by
  unfold pTt
  rw [h1, decide_eq_false h2, decide_eq_false h3]
  rfl
theorem pTt_D {a j : Nat} (h : pTt a j = false) : pD a j = false ∧ ¬ (a = 232 ∧ j < 29) ∧ ¬ (a = 196 ∧ j = 58) := by
  unfold pTt at h
  rw [Bool.or_eq_false_iff, Bool.or_eq_false_iff] at h
  exact ⟨h.1.1, of_decide_eq_false h.1.2, of_decide_eq_false h.2⟩
def TH (m s : fz_s) : Prop := Fr pTt m s ∧ s.1 196 58 = nI 1 ∧ ∀ j, j < 29 → s.1 233 j = m.1 232 j
theorem TH.fr {P : Nat → Nat → Bool} {m s s' : fz_s} (h : TH m s) (hF : Fr P s s') (hp : ∀ a j, pTt a j = false → P a j = false) (h58 : P 196 58 = false) (h233 : ∀ j, P 233 j = false) : TH m s' := ⟨h.1.tr (hF.mono hp), (hF.i _ _ h58).trans h.2.1, fun j hj => (hF.i _ _ (h233 j)).trans (h.2.2 j hj)⟩
theorem TH.g {m s s' : fz_s} (h : TH m s) (hF : Fr pG s s') : TH m s' := h.fr hF (fun a j q => by
  have q1 := pTt_D q
  have := of_decide_eq_false q1.1
  exact pG_f (by omega)) (pG_f (by omega)) (fun j => pG_f (by omega))
theorem TH.mm {T : TT} {W : WW} {m s : fz_s} (h : MM T W m) (ht : TH m s) (h2 : ∀ j, j < 29 → s.1 232 j = m.1 232 j) : MM T W s := h.cg (fun a j q => by
  by_cases c : a = 232
  · subst c
    exact h2 j (by omega)
  · exact ht.1.i _ _ (pTt_f (pD_f (by omega)) (by omega) (by omega)))
theorem m_aside_lp {m : fz_s} {Q : fz_s → Prop} (hq : ∀ s, TH m s → (∀ j, j < 29 → s.1 232 j = m.1 232 j) → Q s) : ∀ (n k : Nat) (s : fz_s), Fr pTt m s → s.1 196 58 = nI 1 → (∀ j, j < k → s.1 233 j = m.1 232 j) → (∀ j, j < 29 → s.1 232 j = m.1 232 j) → k ≤ 29 → 29 < n + k → lp_X12_putsAside_7 Q n (nI k) s
  | 0, k, s, _, _, _, _, h1, h2 => absurd h2 (by omega)
  | n + 1, k, s, hF, h58, hl, hr, h1, h2 => by
    show nd_X12_putsAside_7 (lp_X12_putsAside_7 Q n) Q (nI k) s
    unfold nd_X12_putsAside_7
    by_cases c : k = 29
    · subst c
      exact bt (by simp (disch := omega) only [N_lit, N_add, N_mul, N_sub, N_addneg, N_neg1, N_addm, N_le, N_lt, N_eq, N_in, N_cl, N_ne, N_ne', N_ltm, N_mlt, N_lem] <;> omega) (hq s ⟨hF, h58, hl⟩ hr)
    refine bf (by simp (disch := omega) only [N_lit, N_add, N_mul, N_sub, N_addneg, N_neg1, N_addm, N_le, N_lt, N_eq, N_in, N_cl, N_ne, N_ne', N_ltm, N_mlt, N_lem] <;> omega) ⟨N_in ⟨by omega, by omega⟩, N_in ⟨by omega, by omega⟩, fun s1 e1 x2 e2 => ?_⟩
    rw [N_cl (by omega)] at e1
    rw [e2, nI_1]
    refine m_aside_lp hq n (k + 1) s1 ?_ ?_ (fun j hj => ?_) (fun j hj => ?_) (by omega) (by omega)
    · rw [e1]
      exact hF.si (by unfold pTt; rw [pD_t (by omega)]; rfl)
    · rw [e1, g_ne (by omega)]; exact h58
    · rw [e1]
      by_cases c3 : j = k
      · subst c3
        rw [g_eq]
        exact hr j (by omega)
      · rw [g_nj c3]
        exact hl j (by omega)
    · rw [e1, g_ne (by omega)]
      exact hr j hj
theorem m_aside {T : TT} {W : WW} {m : fz_s} (h : MM T W m) {Q : fz_s → Prop} (hq : ∀ s, TH m s → MM T W s → Q s) : wp_X12_putsAside m Q := by
  unfold wp_X12_putsAside
  intro s1 e1
  refine m_aside_lp (m := m) (fun s ht h2 => hq s ht (ht.mm h h2)) 2048 0 s1 ?_ ?_ (fun j hj => by omega) (fun j hj => ?_) (by omega) (by omega)
  · rw [e1]
    exact Fr.rf.si (by unfold pTt; rw [decide_eq_true (p := 196 = 196 ∧ 58 = 58) ⟨rfl, rfl⟩, Bool.or_true])
  · rw [e1]; exact g_eq
  · rw [e1, g_ne (by omega)]
theorem m_anew_lp {m : fz_s} {Q : fz_s → Prop} (hq : ∀ s, TH m s → (∀ j, j < 29 → s.1 232 j = m.1 232 j) → Q s) : ∀ (n k : Nat) (s : fz_s), TH m s → (∀ j, j < k → s.1 232 j = m.1 232 j) → k ≤ 29 → 29 < n + k → lp_X12_triesAnew_2 Q n (nI k) s
  | 0, k, s, _, _, h1, h2 => absurd h2 (by omega)
  | n + 1, k, s, ht, hl, h1, h2 => by
    show nd_X12_triesAnew_2 (lp_X12_triesAnew_2 Q n) Q (nI k) s
    unfold nd_X12_triesAnew_2
    by_cases c : k = 29
    · subst c
      exact bt (by simp (disch := omega) only [N_lit, N_add, N_mul, N_sub, N_addneg, N_neg1, N_addm, N_le, N_lt, N_eq, N_in, N_cl, N_ne, N_ne', N_ltm, N_mlt, N_lem] <;> omega) (hq s ht hl)
    refine bf (by simp (disch := omega) only [N_lit, N_add, N_mul, N_sub, N_addneg, N_neg1, N_addm, N_le, N_lt, N_eq, N_in, N_cl, N_ne, N_ne', N_ltm, N_mlt, N_lem] <;> omega) ⟨N_in ⟨by omega, by omega⟩, N_in ⟨by omega, by omega⟩, fun s1 e1 x2 e2 => ?_⟩
    rw [N_cl (by omega)] at e1
    rw [e2, nI_1]
    refine m_anew_lp hq n (k + 1) s1 ⟨?_, ?_, fun j hj => ?_⟩ (fun j hj => ?_) (by omega) (by omega)
    · rw [e1]
      exact ht.1.si (by unfold pTt; rw [decide_eq_true (p := 232 = 232 ∧ k < 29) ⟨rfl, by omega⟩, Bool.or_true]; rfl)
    · rw [e1, g_ne (by omega)]; exact ht.2.1
    · rw [e1, g_ne (by omega)]; exact ht.2.2 j hj
    · rw [e1]
      by_cases c3 : j = k
      · subst c3
        rw [g_eq]
        exact ht.2.2 j (by omega)
      · rw [g_nj c3]
        exact hl j (by omega)
theorem m_anew {T : TT} {W : WW} {m s : fz_s} (h : MM T W m) (ht : TH m s) {Q : fz_s → Prop} (hq : ∀ s', TH m s' → MM T W s' → Q s') : wp_X12_triesAnew s Q := m_anew_lp (fun s' h1 h2 => hq s' h1 (h1.mm h h2)) 2048 0 s ht (fun j hj => by omega) (by omega) (by omega)
def Fdd (m m' : fz_s) : Prop := (∀ a j, pD a j = false → m'.1 a j = m.1 a j) ∧ m'.2.1 196 74 = m.2.1 196 74 ∧ ∀ j, 10 ≤ j → m'.2.1 225 j = m.2.1 225 j
theorem Fdd.of {m m' : fz_s} (h : Fr pD m m') : Fdd m m' := ⟨fun a j q => h.i a j q, h.l _ _ (pD_f (by omega)), fun j hj => h.l _ _ (pD_f (by omega))⟩
theorem Fdd.tr {m m' m'' : fz_s} (h : Fdd m m') (h2 : Fdd m' m'') : Fdd m m'' := ⟨fun a j q => (h2.1 a j q).trans (h.1 a j q), h2.2.1.trans h.2.1, fun j hj => (h2.2.2 j hj).trans (h.2.2 j hj)⟩
theorem INV.fd {x m x' m' : fz_s} (h : INV x m) (hx : Fr pC x x') (hm : Fdd m m') : INV x' m' := by
  obtain ⟨t, T, W, kf, kn, ⟨tp, tn, h1⟩, h2, ⟨pn, h3⟩, ⟨sd, h4⟩, ⟨sn, nm, nl, h5⟩, h6, h7, ⟨us, ac, o, nw, h8⟩, ⟨rs, rn, h9⟩, h10⟩ := id h
  have ex : ∀ a j, pC a j = false → x'.1 a j = x.1 a j := fun a j ha => hx.i a j ha
  have em : ∀ a j, pD a j = false → m'.1 a j = m.1 a j := hm.1
  exact ⟨t, T, W, kf, kn, ⟨tp, tn, h1.cg (fun a j q => ex a j (pC_f (by omega))) (fun a j q => em a j (pD_f (by omega)))⟩, h2.cg (fun a j q => ex a j (pC_f (by omega))) (fun a j q => em a j (pD_f (by omega))), ⟨pn, h3.cg (fun a j q => ex a j (pC_f (by omega))) (fun a j q => em a j (pD_f (by omega)))⟩, ⟨sd, h4.cg (fun a j q => ex a j (pC_f (by omega))) (fun a j q => by rw [q.1, q.2]; exact hm.2.1)⟩, ⟨sn, nm, nl, h5.cg (fun a j q => ex a j (pC_f (by omega))) (fun a j q => em a j (pD_f (by omega))) (fun a j q => by rw [q.1]; exact hm.2.2 j q.2)⟩, h6.cg (fun a j q => ex a j (pC_f (by omega))) (fun a j q => em a j (pD_f (by omega))), h7.cg (fun a j q => ex a j (pC_f (by omega))) (fun a j q => em a j (pD_f (by omega))), ⟨us, ac, o, nw, h8.cg h6.1.1.1 (fun a j q => ex a j (pC_f (by omega))) (fun a j q => em a j (pD_f (by omega)))⟩, ⟨rs, rn, h9.cg (fun a j q => ex a j (pC_f (by omega))) (fun a j q => em a j (pD_f (by omega)))⟩, h10.cg (fun a j q => em a j (pD_f (by omega)))⟩
theorem m_back {m s : fz_s} (ht : TH m s) (h58 : m.1 196 58 = nI 0) {Q : fz_s → Prop} (hq : ∀ m', Fdd m m' → Q m') : wp_X12_takesBack s Q := by
  unfold wp_X12_takesBack
  refine m_anew_lp (fun s' h1 h2 => ?_) 2048 0 s ht (fun j hj => by omega) (by omega) (by omega)
  intro s3 e3
  subst e3
  refine hq _ ⟨fun a j hp => ?_, h1.1.l _ _ (pTt_f (pD_f (by omega)) (by omega) (by omega)), fun j hj => h1.1.l _ _ (pTt_f (pD_f (by omega)) (by omega) (by omega))⟩
  by_cases c1 : a = 196 ∧ j = 58
  · rw [c1.1, c1.2, g_eq, h58]; rfl
  · by_cases c2 : a = 232 ∧ j < 29
    · rw [c2.1, g_ne (by omega)]; exact h2 j c2.2
    · rw [g_si, if_neg c1]
      exact h1.1.i a j (pTt_f hp c2 c1)
theorem m_yearsT_lp {T : TT} {W : WW} {N : Nat} (hN : N ≤ 100) (hy : W.2.2.2.2.2 + N ≤ 1999) {m : fz_s} {Q : fz_s → Prop} (hq : ∀ s, TH m s → MM T (itW T W N) s → Q s) : ∀ (n k : Nat) (s : fz_s), TH m s → MM T (itW T W k) s → k ≤ N → N < n + k → lp_X12_yearsGo_2 Q n (nI N) (nI k) s
  | 0, k, s, _, _, h1, h2 => absurd h2 (by omega)
  | n + 1, k, s, ht, h, h1, h2 => by
    show nd_X12_yearsGo_2 (lp_X12_yearsGo_2 Q n) Q (nI N) (nI k) s
    unfold nd_X12_yearsGo_2
    by_cases c : k = N
    · subst c
      exact bt (by simp (disch := omega) only [N_lit, N_add, N_mul, N_sub, N_addneg, N_neg1, N_addm, N_le, N_lt, N_eq, N_in, N_cl, N_ne, N_ne', N_ltm, N_mlt, N_lem] <;> omega) (hq s ht h)
    refine bf (by simp (disch := omega) only [N_lit, N_add, N_mul, N_sub, N_addneg, N_neg1, N_addm, N_le, N_lt, N_eq, N_in, N_cl, N_ne, N_ne', N_ltm, N_mlt, N_lem] <;> omega) (m_goesT h (by rw [it_yr]; omega) ht.2.1 (fun s1 h1' hF1 => ?_))
    intro x3 e3
    rw [e3, nI_1]
    exact m_yearsT_lp hN hy hq n (k + 1) s1 (ht.g hF1) h1' (by omega) (by omega)
theorem EQ_later_ok : EQ_later INV := by
  intro x m p0 p1 p2 h
  obtain ⟨t, T, W, kf, kn, ⟨tp, tn, h1⟩, h2, ⟨pn, h3⟩, ⟨sd, h4⟩, ⟨sn, nm, nl, h5⟩, h6, h7, ⟨us, ac, o, nw, h8⟩, ⟨rs, rn, h9⟩, h10⟩ := id h
  obtain ⟨z, rfl, hz⟩ := i_of p0
  obtain ⟨y, rfl, hy⟩ := i_of p1
  obtain ⟨u, rfl, hu⟩ := i_of p2
  have hn := h6.1.1.1
  have hyr := h6.2.2.1
  have m0 : m.1 232 0 = nI W.2.2.2.2.2 := h6.2.1.2.2.2.2.2.2.2.2
  unfold wp_X11_later wp_X12_later
  rw [i_64 hz, i_64 hu]
  have e1 : (iI u < 0) ↔ u < 0 := i_lt (b := 0) ⟨hu, by omega, by omega⟩
  have e2 : ((1 : Int32) < iI u) ↔ 1 < u := i_lt (a := 1) (b := u) ⟨⟨by omega, by omega⟩, hu⟩
  have e3 : (iI u = 0) ↔ u = 0 := i_eq (b := 0) ⟨hu, by omega, by omega⟩
  rw [e1, e2, e3]
  have l0 : lR 0 := by unfold lR; omega
  have l1 : lR 1 := by unfold lR; omega
  -- the model's way down to "no"
  have no : ∀ x', INV x' m → ((t && decide (0 ≤ z ∧ z < 2)) = false ∨ ahd t W 0 60 y = false ∨ ¬ (0 ≤ u ∧ u ≤ 1)) → wp_X12_isVillage (lI z) m (fun r1 s2 => ((r1 = false → (-1 : Int32) = -1 ∧ INV x' s2) ∧ (r1 = true → wp_X12_isAhead (iI y) 0 60 s2 (fun r3 s4 => ((r3 = false → (-1 : Int32) = -1 ∧ INV x' s4) ∧ (r3 = true → wp_X12_isIn (lI u) 0 1 s4 (fun r5 s6 => ((r5 = true → wp_X12_putsAside s6 (fun s8 => wp_X12_yearsGo (iI y) s8 (fun s10 => vp_in ((1 + (2 * iI z)) + iI u) 150 ∧ ∀ x11 : Int32, x11 = (s10.1 232 ((1 + (2 * iI z)) + iI u).toNatClampNeg) → wp_X12_takesBack s10 (fun s13 => (-1 : Int32) = x11 ∧ INV x' s13)))) ∧ (r5 = false → (-1 : Int32) = -1 ∧ INV x' s6))))))))) := by
    intro x' hx' hor
    refine m_isVillage h5.2.1 (lR_i hz) ⟨fun _ => ⟨rfl, hx'⟩, fun q => ?_⟩
    refine m_isAhead (lo := 0) (hi := 60) h5.2.1 m0 hyr hy (by omega) (by omega) ⟨fun _ => ⟨rfl, hx'⟩, fun q2 => ?_⟩
    refine m_isIn (b := 0) (c := 1) (lR_i hu) l0 l1 ⟨fun q3 => ?_, fun _ => ⟨rfl, hx'⟩⟩
    rcases hor with z1 | z1 | z1
    · rw [q] at z1; cases z1
    · rw [q2] at z1; cases z1
    · exact absurd (of_decide_eq_true q3) z1
  refine c_noVillage h5.1 hz ⟨fun q => no x h (Or.inl (nv_t q)), fun q => ?_⟩
  have q3 := nv_f q
  by_cases c1 : u < 0
  · exact bt c1 (no x h (Or.inr (Or.inr (by omega))))
  refine bf c1 ?_
  by_cases c2 : 1 < u
  · exact bt c2 (no x h (Or.inr (Or.inr (by omega))))
  refine bf c2 (c_goAhead h6.1 hyr hy (fun q4 => ⟨fun q => (by cases q), fun _ => no x h (Or.inr (Or.inl ?_))⟩) (fun x1 q4 hc hF => ⟨fun _ => ?_, fun q => (by cases q)⟩))
  · unfold ahd
    rw [decide_eq_false q4, Bool.and_false]
  obtain ⟨v, rfl⟩ : ∃ v : Nat, z = v := ⟨z.toNat, by omega⟩
  obtain ⟨w, rfl⟩ : ∃ w : Nat, u = w := ⟨u.toNat, by omega⟩
  obtain ⟨N, rfl⟩ : ∃ N : Nat, y = N := ⟨y.toNat, by omega⟩
  have hv : v < 2 := by omega
  rw [Int.toNat_natCast] at hc
  have yes : ∀ r : Int32, (∀ s, MM T (itW T W N) s → r = s.1 232 (1 + 2 * v + w)) → wp_X12_isVillage (lI (v : Int)) m (fun r1 s2 => ((r1 = false → r = -1 ∧ INV x1 s2) ∧ (r1 = true → wp_X12_isAhead (iI (N : Int)) 0 60 s2 (fun r3 s4 => ((r3 = false → r = -1 ∧ INV x1 s4) ∧ (r3 = true → wp_X12_isIn (lI (w : Int)) 0 1 s4 (fun r5 s6 => ((r5 = true → wp_X12_putsAside s6 (fun s8 => wp_X12_yearsGo (iI (N : Int)) s8 (fun s10 => vp_in ((1 + (2 * iI (v : Int))) + iI (w : Int)) 150 ∧ ∀ x11 : Int32, x11 = (s10.1 232 ((1 + (2 * iI (v : Int))) + iI (w : Int)).toNatClampNeg) → wp_X12_takesBack s10 (fun s13 => r = x11 ∧ INV x1 s13)))) ∧ (r5 = false → r = -1 ∧ INV x1 s6))))))))) := by
    intro r hr
    refine m_isVillage h5.2.1 (lR_i hz) ?_
    rw [q3.1, decide_eq_true q3.2]
    refine ⟨fun q => (by cases q), fun _ => ?_⟩
    refine m_isAhead (lo := 0) (hi := 60) h5.2.1 m0 hyr hy (by omega) (by omega) ?_
    rw [show ahd t W 0 60 (N : Int) = true by unfold ahd; rw [q3.1, decide_eq_true q4]; rfl]
    refine ⟨fun q => (by cases q), fun _ => ?_⟩
    refine m_isIn (b := 0) (c := 1) (lR_i hu) l0 l1 ⟨fun _ => ?_, fun q => absurd (of_decide_eq_false q) (by omega)⟩
    refine m_aside h6.2.1 (fun s ht hs => ?_)
    rw [← i_nI N, ← i_nI v, ← i_nI w, show (1 : Int32) + 2 * nI v + nI w = nI (1 + 2 * v + w) by rw [show (2 : Int32) * nI v = nI (2 * v) from N_mul 2 v, show (1 : Int32) + nI (2 * v) = nI (1 + 2 * v) from N_add 1 _, N_add], N_cl (by omega)]
    refine m_yearsT_lp (T := T) (W := W) (N := N) (m := m) (by omega) (by omega) (fun s2 ht2 hs2 => ⟨N_in ⟨by omega, by omega⟩, fun x11 e11 => ?_⟩) 2048 0 s ht hs (by omega) (by omega)
    refine m_back ht2 h6.2.2.2 (fun m' hm => ⟨?_, h.fd hF hm⟩)
    rw [e11]
    exact hr s2 hs2
  have hi : vp_in (iI (v : Int)) 2 := i_in ⟨by omega, by omega⟩
  rw [i_cl hz, Int.toNat_natCast]
  refine ⟨fun cw => ⟨hi, yes _ (fun s hs => ?_)⟩, fun cw => ⟨hi, yes _ (fun s hs => ?_)⟩⟩
  · have : w = 1 := by omega
    subst this
    rw [show x1.1 43 v = nI ((itW T W N).2.1 v) from hc.2.2.2.1.2.1 v hv (h5.2.2.1.2 q3.1), show 1 + 2 * v + 1 = 2 + 2 * v by omega]
    exact (hs.2.2.2.2.1 v hv).symm
  · have : w = 0 := by omega
    subst this
    rw [show x1.1 42 v = nI ((itW T W N).1 v) from hc.2.2.2.1.1 v hv]
    exact (hs.2.2.2.1 v hv).symm
theorem EQ_lives_ok : EQ_lives INV := by
  intro x m p0 p1 h
  obtain ⟨t, T, W, kf, kn, ⟨tp, tn, h1⟩, h2, ⟨pn, h3⟩, ⟨sd, h4⟩, ⟨sn, nm, nl, h5⟩, h6, h7, ⟨us, ac, o, nw, h8⟩, ⟨rs, rn, h9⟩, h10⟩ := id h
  obtain ⟨z, rfl, hz⟩ := i_of p0
  obtain ⟨y, rfl, hy⟩ := i_of p1
  have hn := h6.1.1.1
  have hyr := h6.2.2.1
  have cT := h6.1.2.2.1
  have mT := h6.2.1.2.2.1
  have m0 : m.1 232 0 = nI W.2.2.2.2.2 := h6.2.1.2.2.2.2.2.2.2.2
  unfold wp_X11_lives wp_X12_lives
  refine c_noPerson cT.1 hn hz ⟨fun q => ?_, fun q => ?_⟩
  · have q' := not_dec.mp q
    exact m_isPerson mT.1 hn hz ⟨fun _ => ⟨rfl, h⟩, fun q => absurd (of_decide_eq_true q) q'⟩
  have q' : 0 ≤ z ∧ z < T.1 := Decidable.byContradiction fun z => by rw [decide_eq_false z] at q; cases q
  have ht : t = true := Decidable.byContradiction fun e => by
    have := h5.2.2.1.1 ((Bool.not_eq_true _).mp e)
    omega
  refine c_goAhead h6.1 hyr hy (fun q4 => ⟨fun q => (by cases q), fun _ => ?_⟩) (fun x1 q4 hc hF => ⟨fun _ => ?_, fun q => (by cases q)⟩)
  · refine m_isPerson mT.1 hn hz ⟨fun q => absurd q' (of_decide_eq_false q), fun _ => ?_⟩
    refine m_isAhead (lo := 0) (hi := 60) h5.2.1 m0 hyr hy (by omega) (by omega) ⟨fun q => ?_, fun _ => ⟨rfl, h⟩⟩
    unfold ahd at q
    rw [decide_eq_false q4, Bool.and_false] at q
    cases q
  obtain ⟨p, rfl⟩ : ∃ p : Nat, z = p := ⟨z.toNat, by omega⟩
  obtain ⟨N, rfl⟩ : ∃ N : Nat, y = N := ⟨y.toNat, by omega⟩
  have hp : p < T.1 := by omega
  rw [Int.toNat_natCast] at hc
  refine ⟨i_in ⟨by omega, by omega⟩, ?_⟩
  rw [i_cl hz, Int.toNat_natCast, show x1.1 45 p = nI (lv T (itW T W N) p) from hc.2.2.2.1.2.2.2.1 p hp]
  refine m_isPerson mT.1 hn hz ⟨fun q => absurd q' (of_decide_eq_false q), fun _ => ?_⟩
  refine m_isAhead (lo := 0) (hi := 60) h5.2.1 m0 hyr hy (by omega) (by omega) ?_
  rw [show ahd t W 0 60 (N : Int) = true by unfold ahd; rw [ht, decide_eq_true q4]; rfl]
  refine ⟨fun _ => ?_, fun q => (by cases q)⟩
  refine m_aside h6.2.1 (fun s hth hs => ?_)
  rw [← i_nI N, ← i_nI p]
  exact m_yearsT_lp (T := T) (W := W) (N := N) (m := m) (by omega) (by omega) (fun s2 ht2 hs2 => m_lives hs2 hp (m_back ht2 h6.2.2.2 (fun m' hm => ⟨rfl, h.fd hF hm⟩))) 2048 0 s hth hs (by omega) (by omega)
theorem c_quiet_lp {T : TT} {W : WW} {N v : Nat} {b : Int} (hv : v < 2) (hN : N ≤ 60) (hb : 0 ≤ b ∧ b ≤ 999) (hy : W.2.2.2.2.2 + N ≤ 999) {x0 : fz_s} {Q : Int64 → fz_s → Prop} (hq : ∀ x', Fr pC x0 x' → Q (lI (b - ((quW T W N).1 v : Int))) x') : ∀ (n k : Nat) (x : fz_s), CC T (quW T W k) 41 x → Fr pC x0 x → k ≤ N → N < n + k → lp_X11_worth_49 Q n (nI v) (nI N) (iI b) (nI k) x
  | 0, k, x, _, _, h1, h2 => absurd h2 (by omega)
  | n + 1, k, x, h, hF, h1, h2 => by
    show nd_X11_worth_49 (lp_X11_worth_49 Q n) Q (nI v) (nI N) (iI b) (nI k) x
    unfold nd_X11_worth_49
    by_cases c : k = N
    · subst c
      refine bt (by simp (disch := omega) only [N_lit, N_add, N_mul, N_sub, N_addneg, N_neg1, N_addm, N_le, N_lt, N_eq, N_in, N_cl, N_ne, N_ne', N_ltm, N_mlt, N_lem] <;> omega) ⟨N_in ⟨by omega, by omega⟩, ?_⟩
      have hh := h.2.1.1 v hv
      rw [N_cl (by omega), show x.1 42 v = nI ((quW T W k).1 v) from h.2.2.2.1.1 v hv, N_64 (by omega), i_64 ⟨by omega, by omega⟩, l_sub]
      exact hq x hF
    refine bf (by simp (disch := omega) only [N_lit, N_add, N_mul, N_sub, N_addneg, N_neg1, N_addm, N_le, N_lt, N_eq, N_in, N_cl, N_ne, N_ne', N_ltm, N_mlt, N_lem] <;> omega) (c_quiet h (by rw [qu_yr]; omega) (fun x1 h1' hF1 => ?_))
    intro x3 e3
    rw [e3, nI_1]
    exact c_quiet_lp hv hN hb hy hq n (k + 1) x1 h1' (hF.tr (pY_pC hF1)) (by omega) (by omega)
theorem m_quiet_lp {T : TT} {W : WW} {N v : Nat} {b : Int} (hv : v < 2) (hN : N ≤ 60) (hb : 0 ≤ b ∧ b ≤ 999) (hy : W.2.2.2.2.2 + N ≤ 999) {m : fz_s} (h58 : m.1 196 58 = nI 0) {Q : Int64 → fz_s → Prop} (hq : ∀ m', Fdd m m' → Q (lI (b - ((quW T W N).1 v : Int))) m') : ∀ (n k : Nat) (s : fz_s), TH m s → MM T (quW T W k) s → k ≤ N → N < n + k → lp_X12_worth_51 Q n (nI v) (nI N) (iI b) (nI k) s
  | 0, k, s, _, _, h1, h2 => absurd h2 (by omega)
  | n + 1, k, s, ht, h, h1, h2 => by
    show nd_X12_worth_51 (lp_X12_worth_51 Q n) Q (nI v) (nI N) (iI b) (nI k) s
    unfold nd_X12_worth_51
    by_cases c : k = N
    · subst c
      rw [show (1 : Int32) + 2 * nI v = nI (1 + 2 * v) by rw [show (2 : Int32) * nI v = nI (2 * v) from N_mul 2 v]; exact N_add 1 _, N_cl (by omega)]
      refine bt (by simp (disch := omega) only [N_lit, N_add, N_mul, N_sub, N_addneg, N_neg1, N_addm, N_le, N_lt, N_eq, N_in, N_cl, N_ne, N_ne', N_ltm, N_mlt, N_lem] <;> omega) ⟨N_in ⟨by omega, by omega⟩, fun x1 e1 => m_back ht h58 (fun m' hm => ?_)⟩
      have hh := h.2.1.1 v hv
      rw [h.2.2.2.1 v hv, i_nI] at e1
      rw [e1, i_sub, i_64 ⟨by omega, by omega⟩]
      exact hq m' hm
    refine bf (by simp (disch := omega) only [N_lit, N_add, N_mul, N_sub, N_addneg, N_neg1, N_addm, N_le, N_lt, N_eq, N_in, N_cl, N_ne, N_ne', N_ltm, N_mlt, N_lem] <;> omega) (m_yearT (a := -1) (b := -1) h (by rw [qu_yr]; omega) (Or.inl ⟨rfl, rfl⟩) ht.2.1 (fun s1 h1' hF1 => ?_))
    intro x3 e3
    rw [e3, nI_1]
    exact m_quiet_lp hv hN hb hy h58 hq n (k + 1) s1 (ht.g (pN_pG hF1)) h1' (by omega) (by omega)
theorem EQ_worth_ok : EQ_worth INV := by
  intro x m p0 p1 h
  obtain ⟨t, T, W, kf, kn, ⟨tp, tn, h1⟩, h2, ⟨pn, h3⟩, ⟨sd, h4⟩, ⟨sn, nm, nl, h5⟩, h6, h7, ⟨us, ac, o, nw, h8⟩, ⟨rs, rn, h9⟩, h10⟩ := id h
  obtain ⟨z, rfl, hz⟩ := i_of p0
  obtain ⟨y, rfl, hy⟩ := i_of p1
  have hn := h6.1.1.1
  have hyr := h6.2.2.1
  have m0 : m.1 232 0 = nI W.2.2.2.2.2 := h6.2.1.2.2.2.2.2.2.2.2
  unfold wp_X11_worth wp_X12_worth
  rw [i_64 hz]
  have e1 : (iI y < 1) ↔ y < 1 := i_lt (b := 1) ⟨hy, by omega, by omega⟩
  rw [e1]
  refine c_noVillage h5.1 hz ⟨fun q => ?_, fun q => ?_⟩
  · refine m_isVillage h5.2.1 (lR_i hz) ?_
    rw [nv_t q]
    exact ⟨fun _ => ⟨rfl, h⟩, fun q => (by cases q)⟩
  have q3 := nv_f q
  by_cases c1 : y < 1
  · refine bt c1 (m_isVillage h5.2.1 (lR_i hz) ⟨fun _ => ⟨rfl, h⟩, fun _ => ?_⟩)
    refine m_isAhead (lo := 1) (hi := 60) h5.2.1 m0 hyr hy (by omega) (by omega) ⟨fun q => ?_, fun _ => ⟨rfl, h⟩⟩
    unfold ahd at q
    rw [decide_eq_false (by omega), Bool.and_false] at q
    cases q
  refine bf c1 (c_goAhead h6.1 hyr hy (fun q4 => ⟨fun q => (by cases q), fun _ => ?_⟩) (fun x1 q4 hc hF => ⟨fun _ => ?_, fun q => (by cases q)⟩))
  · refine m_isVillage h5.2.1 (lR_i hz) ⟨fun _ => ⟨rfl, h⟩, fun _ => ?_⟩
    refine m_isAhead (lo := 1) (hi := 60) h5.2.1 m0 hyr hy (by omega) (by omega) ⟨fun q => ?_, fun _ => ⟨rfl, h⟩⟩
    unfold ahd at q
    rw [decide_eq_false (by omega), Bool.and_false] at q
    cases q
  obtain ⟨v, rfl⟩ : ∃ v : Nat, z = v := ⟨z.toNat, by omega⟩
  obtain ⟨N, rfl⟩ : ∃ N : Nat, y = N := ⟨y.toNat, by omega⟩
  have hv : v < 2 := by omega
  rw [Int.toNat_natCast] at hc
  have hb := hc.2.1.1 v hv
  refine ⟨i_in ⟨by omega, by omega⟩, fun x5 e5 => ?_⟩
  rw [i_cl hz, Int.toNat_natCast, show x1.1 42 v = nI ((itW T W N).1 v) from hc.2.2.2.1.1 v hv, i_nI] at e5
  subst e5
  refine c_takeW (h6.1.pC hF) (by omega) (by omega) (fun x2 hF2 h2' _ => ?_)
  rw [← i_nI v, ← i_nI N]
  refine c_quiet_lp (T := T) (W := W) (N := N) hv (by omega) ⟨by omega, by omega⟩ (by omega) (x0 := x) (fun x3 hF3 => ?_) 2048 0 x2 h2' (hF.tr (pT_pC hF2)) (by omega) (by omega)
  refine m_isVillage h5.2.1 (lR_i hz) ?_
  rw [q3.1, decide_eq_true q3.2]
  refine ⟨fun q => (by cases q), fun _ => ?_⟩
  rw [i_nI N]
  refine m_isAhead (lo := 1) (hi := 60) h5.2.1 m0 hyr hy (by omega) (by omega) ?_
  rw [show ahd t W 1 60 (N : Int) = true by unfold ahd; rw [q3.1, decide_eq_true (by omega)]; rfl]
  refine ⟨fun _ => ?_, fun q => (by cases q)⟩
  refine m_aside h6.2.1 (fun s hth hs => ?_)
  rw [← i_nI N, show (1 : Int32) + 2 * nI v = nI (1 + 2 * v) by rw [show (2 : Int32) * nI v = nI (2 * v) from N_mul 2 v]; exact N_add 1 _, N_cl (by omega)]
  refine m_yearsT_lp (T := T) (W := W) (N := N) (m := m) (by omega) (by omega) (fun s2 ht2 hs2 => ⟨N_in ⟨by omega, by omega⟩, fun x9 e9 => ?_⟩) 2048 0 s hth hs (by omega) (by omega)
  rw [hs2.2.2.2.1 v hv, i_nI] at e9
  subst e9
  refine m_anew h6.2.1 ht2 (fun s3 ht3 hs3 => ?_)
  exact m_quiet_lp (T := T) (W := W) (N := N) hv (by omega) ⟨by omega, by omega⟩ (by omega) h6.2.2.2 (fun m' hm => ⟨rfl, h.fd hF3 hm⟩) 2048 0 s3 ht3 hs3 (by omega) (by omega)
/-- how many years until the village has none of its own -/
def shS (T : TT) (W : WW) (v : Nat) : Nat → Nat → Int
  | 0, _ => -1
  | f + 1, k => if cnt (own T (itW T W k) v) T.1 = 0 then (k : Int) else if 999 < W.2.2.2.2.2 + (k + 1) ∨ 60 ≤ k then -1 else shS T W v f (k + 1)
theorem c_short_lp {T : TT} {W : WW} {v : Nat} (hv : v < 2) (hy : W.2.2.2.2.2 ≤ 999) {x0 : fz_s} {Q : Int32 → fz_s → Prop} {r : Int} (hq : ∀ x', Fr pC x0 x' → Q (iI r) x') : ∀ (f n k : Nat) (x : fz_s), CC T (itW T W k) 41 x → x.1 35 5 = nI W.2.2.2.2.2 → Fr pC x0 x → k ≤ 60 → 61 < n + k → 60 < f + k → W.2.2.2.2.2 + k ≤ 999 → shS T W v f k = r → lp_X11_shortage_23 Q n (nI v) (nI k) x
  | 0, n, k, x, _, _, _, h1, _, h2, _, _ => absurd h2 (by omega)
  | f + 1, 0, k, x, _, _, _, h1, h2, _, _, _ => absurd h2 (by omega)
  | f + 1, n + 1, k, x, h, h35, hF, h1, h2, h3, h4, hr => by
    have hn := h.1.1
    show nd_X11_shortage_23 (lp_X11_shortage_23 Q n) Q (nI v) (nI k) x
    unfold nd_X11_shortage_23
    unfold shS at hr
    have hc := cnt_le (own T (itW T W k) v) T.1
    refine bf (by simp (disch := omega) only [N_lit, N_add, N_mul, N_sub, N_addneg, N_neg1, N_addm, N_le, N_lt, N_eq, N_in, N_cl, N_ne, N_ne', N_ltm, N_mlt, N_lem] <;> omega) (c_own hv h ?_)
    have e0 : (nI (cnt (own T (itW T W k) v) T.1) = 0) ↔ cnt (own T (itW T W k) v) T.1 = 0 := N_eq (b := 0) ⟨by omega, by omega⟩
    rw [e0]
    by_cases c0 : cnt (own T (itW T W k) v) T.1 = 0
    · rw [if_pos c0] at hr
      refine nf c0 ?_
      rw [i_nI, hr]
      exact hq x hF
    rw [if_neg c0] at hr
    refine nt c0 ?_
    rw [nI_1, i_nI]
    refine c_beyond h35 hy ⟨by omega, by omega⟩ ⟨fun q => ?_, fun q => ?_⟩
    · have q' := of_decide_eq_false q
      refine c_ordinary h (by rw [it_yr]; omega) (fun x1 h1' hF1 _ _ => ?_)
      intro x7 e7
      rw [e7, ← i_nI]
      by_cases c6 : 60 ≤ k
      · rw [if_pos (Or.inr c6)] at hr
        have hk : k = 60 := by omega
        subst hk
        obtain ⟨n', rfl⟩ : ∃ n', n = n' + 1 := ⟨n - 1, by omega⟩
        show nd_X11_shortage_23 (lp_X11_shortage_23 Q n') Q (nI v) (nI 61) x1
        unfold nd_X11_shortage_23
        refine bt (by simp (disch := omega) only [N_lit, N_add, N_mul, N_sub, N_addneg, N_neg1, N_addm, N_le, N_lt, N_eq, N_in, N_cl, N_ne, N_ne', N_ltm, N_mlt, N_lem] <;> omega) ?_
        rw [show (-1 : Int32) = iI r by rw [← hr]; decide +kernel]
        exact hq x1 (hF.tr (pY_pC hF1))
      · rw [if_neg (by omega)] at hr
        exact c_short_lp hv hy hq f n (k + 1) x1 h1' ((hF1.i _ _ (pY_f (by omega))).trans h35) (hF.tr (pY_pC hF1)) (by omega) (by omega) (by omega) (by omega) hr
    · have q' := of_decide_eq_true q
      rw [if_pos (Or.inl (by omega))] at hr
      rw [show (-1 : Int32) = iI r by rw [← hr]; decide +kernel]
      exact hq x hF
theorem m_isShort {T : TT} {W : WW} {v : Nat} (hv : v < 2) {m : fz_s} (h : MM T W m) {Q : Bool → fz_s → Prop} (hq : Q (decide (cnt (own T W v) T.1 = 0)) m) : wp_X12_isShort (nI v) m Q := by
  have hn := h.1.1
  have hg := gst_eq T W v
  have h1 := gst_le T W v
  have h2 := cnt_le (own T W v) T.1
  unfold wp_X12_isShort
  refine m_livers hv h (m_guests hv h ?_)
  rw [N_eq ⟨by omega, by omega⟩]
  by_cases c : cnt (own T W v) T.1 = 0
  · rw [decide_eq_true c] at hq
    exact nf (by omega) hq
  · rw [decide_eq_false c] at hq
    exact nt (by omega) hq
theorem m_short53 {T : TT} {W : WW} {v k : Nat} (hv : v < 2) {m s : fz_s} (h58 : m.1 196 58 = nI 0) (ht : TH m s) (h : MM T W s) {Q : Int32 → fz_s → Prop} {r : Int} (hr : r = if cnt (own T W v) T.1 = 0 then (k : Int) else -1) (hq : ∀ m', Fdd m m' → Q (iI r) m') : nd_X12_shortage_53 Q (nI v) (nI k) s := by
  unfold nd_X12_shortage_53
  refine m_isShort hv h (m_back ht h58 (fun m' hm => ⟨fun q => ?_, fun q => ?_⟩))
  · rw [if_neg (of_decide_eq_false q)] at hr
    rw [show (-1 : Int32) = iI r by rw [hr]; decide +kernel]
    exact hq m' hm
  · rw [if_pos (of_decide_eq_true q)] at hr
    rw [i_nI, ← hr]
    exact hq m' hm
theorem m_short_lp {T : TT} {W : WW} {v : Nat} (hv : v < 2) (hy : W.2.2.2.2.2 ≤ 999) {m : fz_s} (h58 : m.1 196 58 = nI 0) {Q : Int32 → fz_s → Prop} {r : Int} (hq : ∀ m', Fdd m m' → Q (iI r) m') : ∀ (f n k : Nat) (s : fz_s), TH m s → MM T (itW T W k) s → k ≤ 60 → 60 < n + k → 60 < f + k → W.2.2.2.2.2 + k ≤ 999 → shS T W v f k = r → lp_X12_shortage_17 Q n (nI v) (nI k) s
  | 0, n, k, s, _, _, h1, _, h2, _, _ => absurd h2 (by omega)
  | f + 1, 0, k, s, _, _, h1, h2, _, _, _ => absurd h2 (by omega)
  | f + 1, n + 1, k, s, ht, h, h1, h2, h3, h4, hr => by
    have hn := h.1.1
    show nd_X12_shortage_17 (lp_X12_shortage_17 Q n) Q (nI v) (nI k) s
    unfold nd_X12_shortage_17
    unfold shS at hr
    refine m_isShort hv h ⟨fun q => ?_, fun q => ?_⟩
    · have q' := of_decide_eq_true q
      rw [if_pos q'] at hr
      exact m_short53 (r := r) hv h58 ht h (by rw [if_pos q', hr]) hq
    have q' := of_decide_eq_false q
    rw [if_neg q'] at hr
    by_cases c6 : 60 ≤ k
    · rw [if_pos (Or.inr c6)] at hr
      exact bt (by simp (disch := omega) only [N_lit, N_add, N_mul, N_sub, N_addneg, N_neg1, N_addm, N_le, N_lt, N_eq, N_in, N_cl, N_ne, N_ne', N_ltm, N_mlt, N_lem] <;> omega) (m_short53 (r := r) hv h58 ht h (by rw [if_neg q', hr]) hq)
    refine bf (by simp (disch := omega) only [N_lit, N_add, N_mul, N_sub, N_addneg, N_neg1, N_addm, N_le, N_lt, N_eq, N_in, N_cl, N_ne, N_ne', N_ltm, N_mlt, N_lem] <;> omega) ?_
    rw [show s.1 232 (0 : Int32).toNatClampNeg = nI (W.2.2.2.2.2 + k) from h.2.2.2.2.2.2.2.2.trans (by rw [it_yr])]
    by_cases c9 : 999 ≤ W.2.2.2.2.2 + k
    · rw [if_pos (Or.inl (by omega))] at hr
      exact bt (by simp (disch := omega) only [N_lit, N_add, N_mul, N_sub, N_addneg, N_neg1, N_addm, N_le, N_lt, N_eq, N_in, N_cl, N_ne, N_ne', N_ltm, N_mlt, N_lem] <;> omega) (m_short53 (r := r) hv h58 ht h (by rw [if_neg q', hr]) hq)
    refine bf (by simp (disch := omega) only [N_lit, N_add, N_mul, N_sub, N_addneg, N_neg1, N_addm, N_le, N_lt, N_eq, N_in, N_cl, N_ne, N_ne', N_ltm, N_mlt, N_lem] <;> omega) (m_goesT h (by rw [it_yr]; omega) ht.2.1 (fun s1 h1' hF1 => ?_))
    intro x5 e5
    rw [e5, nI_1]
    rw [if_neg (by omega)] at hr
    exact m_short_lp hv hy h58 hq f n (k + 1) s1 (ht.g hF1) h1' (by omega) (by omega) (by omega) (by omega) hr
theorem EQ_shortage_ok : EQ_shortage INV := by
  intro x m p0 h
  obtain ⟨t, T, W, kf, kn, ⟨tp, tn, h1⟩, h2, ⟨pn, h3⟩, ⟨sd, h4⟩, ⟨sn, nm, nl, h5⟩, h6, h7, ⟨us, ac, o, nw, h8⟩, ⟨rs, rn, h9⟩, h10⟩ := id h
  obtain ⟨z, rfl, hz⟩ := i_of p0
  have hn := h6.1.1.1
  have hyr := h6.2.2.1
  unfold wp_X11_shortage wp_X12_shortage
  rw [i_64 hz]
  refine c_noVillage h5.1 hz ⟨fun q => ?_, fun q => ?_⟩
  · have q3 := nv_f q
    obtain ⟨v, rfl⟩ : ∃ v : Nat, z = v := ⟨z.toNat, by omega⟩
    have hv : v < 2 := by omega
    refine c_takeW h6.1 (by omega) (by omega) (fun x1 hF1 h1' _ => ?_)
    rw [← i_nI v]
    refine c_short_lp (T := T) (W := W) hv hyr (x0 := x) (r := shS T W v 61 0) (fun x2 hF2 => ?_) 61 2048 0 x1 h1' ((hF1.i _ _ (pT_f (by omega))).trans h6.1.2.2.2.1.2.2.2.2.2) (pT_pC hF1) (by omega) (by omega) (by omega) (by omega) rfl
    refine m_isVillage h5.2.1 (lR_i hz) ?_
    rw [q3.1, decide_eq_true q3.2]
    refine ⟨fun _ => ?_, fun q => (by cases q)⟩
    refine m_aside h6.2.1 (fun s hth hs => ?_)
    exact m_short_lp (T := T) (W := W) hv hyr h6.2.2.2 (fun m' hm => ⟨rfl, h.fd hF2 hm⟩) 61 2048 0 s hth hs (by omega) (by omega) (by omega) (by omega) rfl
  · refine m_isVillage h5.2.1 (lR_i hz) ?_
    rw [nv_t q]
    exact ⟨fun q => (by cases q), fun _ => ⟨rfl, h⟩⟩

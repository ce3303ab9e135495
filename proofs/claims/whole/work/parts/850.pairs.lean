/-! PAIRS -/
def hby (T : TT) (W : WW) (a b v : Nat) : Nat := nh T (crs (crs W a) b) v
theorem au_h {T : TT} {W : WW} : ∀ k, (autS T W k).1 = W.1
  | 0 => rfl
  | k + 1 => by
    have ih := au_h (T := T) (W := W) k
    rw [autS_s]
    split
    · split
      · exact ih
      · exact ih
    · exact ih
theorem ye_h {T : TT} {W : WW} {a b : Int} {s : Bool} {v : Nat} (hv : v < 2) : (yeW T W a b s).1 v = nh T (goW W a b) v := by
  have key : (sumW T (goW W a b)).1 v = nh T (goW W a b) v := by
    show upf (upf _ 0 _) 1 _ v = _
    rcases (show v = 0 ∨ v = 1 by omega) with rfl | rfl
    · rw [upf_ne (by omega), upf_eq]
    · rw [upf_eq]
  cases s with
  | true => exact key
  | false =>
    show (autS T _ _).1 v = _
    rw [au_h]
    exact key
def pB (a _j : Nat) : Bool := decide (a = 32 ∨ a = 33 ∨ (173 ≤ a ∧ a ≤ 178))
theorem pB_f {a j : Nat} (h : ¬ (a = 32 ∨ a = 33 ∨ (173 ≤ a ∧ a ≤ 178))) : pB a j = false := decide_eq_false h
theorem pB_pC {s s' : fz_s} (h : Fr pB s s') : Fr pC s s' := h.mono fun a j q => by
  have := of_decide_eq_false q
  exact pB_f (by omega)
theorem c_harvestBy {T : TT} {W : WW} {a b v : Nat} {x : fz_s} (h : CC T W 35 x) (ha : a < T.1) (hb : b < T.1) (hv : v < 2) {Q : Int32 → fz_s → Prop} (hq : ∀ x', Fr pB x x' → Q (nI (hby T W a b v)) x') : wp_X3_harvestBy 35 (nI a) (nI b) (nI v) x Q := by
  unfold wp_X3_harvestBy
  refine c_takeW (w := 173) h (by omega) (by omega) (fun x1 f1 c1 _ => c_cross c1 ha (fun x2 c2 f2 => c_cross c2 hb (fun x3 c3 f3 => c_nextHarvest hv c3 (fun x4 f4 => hq x4 ?_))))
  have g1 : Fr pB x x1 := f1.mono fun a j q => by
    have := of_decide_eq_false q
    exact pT_f (by omega)
  have g2 : Fr pB x1 x2 := f2.mono fun a j q => by
    have := of_decide_eq_false q
    exact pX_f (by omega)
  have g3 : Fr pB x2 x3 := f3.mono fun a j q => by
    have := of_decide_eq_false q
    exact pX_f (by omega)
  have g4 : Fr pB x3 x4 := f4.mono fun a j q => by
    have := of_decide_eq_false q
    exact pE_f (by omega)
  exact ((g1.tr g2).tr g3).tr g4
def ownP (T : TT) (W : WW) (a b : Nat) : Bool := own T W 0 a && own T W 1 b
theorem c_isPair {T : TT} {W : WW} {a b : Nat} {x : fz_s} (h : CC T W 35 x) (ha : a < T.1) (hb : b < T.1) {Q : Bool → fz_s → Prop} (hq : Q (ownP T W a b) x) : wp_X3_isPair 35 (nI a) (nI b) x Q := by
  unfold wp_X3_isPair
  rw [show (0 : Int32) = nI 0 from rfl, show (1 : Int32) = nI 1 from rfl]
  unfold ownP at hq
  refine c_canSend h ha (by omega) ⟨fun q => ?_, fun q => c_canSend h hb (by omega) ⟨fun q2 => ?_, fun q2 => ?_⟩⟩
  · rw [q] at hq; exact hq
  · rw [q, q2] at hq; exact hq
  · rw [q, q2] at hq; exact hq
theorem c_cell3 {a b v : Nat} {x : fz_s} {Q : Int32 → fz_s → Prop} (hq : Q (nI (16 * a + 2 * b + v)) x) : wp_X3_cell (nI a) (nI b) (nI v) x Q := by
  unfold wp_X3_cell
  rw [show nI a * 8 = nI (a * 8) from N_mul a 8, N_add, show nI (a * 8 + b) * 2 = nI ((a * 8 + b) * 2) from N_mul _ 2, N_add, show (a * 8 + b) * 2 + v = 16 * a + 2 * b + v by omega]
  exact hq
/-- what is laid for the pairs ahead of (a, b) -/
def FH (T : TT) (W : WW) (a b : Nat) (f : Nat → Int32) : Prop := ∀ p q v, p < T.1 → q < T.1 → v < 2 → (p < a ∨ (p = a ∧ q < b)) → ownP T W p q = true → f (16 * p + 2 * q + v) = nI (hby T W p q v)
theorem FH.nx {T : TT} {W : WW} {a : Nat} {f : Nat → Int32} (h : FH T W a T.1 f) : FH T W (a + 1) 0 f := fun p q v hp hq hv hl ho => h p q v hp hq hv (by omega) ho
theorem FH.no {T : TT} {W : WW} {a b : Nat} {f : Nat → Int32} (h : FH T W a b f) (hn : ownP T W a b = false) : FH T W a (b + 1) f := fun p q v hp hq hv hl ho => by
  by_cases c : p = a ∧ q = b
  · rw [c.1, c.2, hn] at ho; cases ho
  · exact h p q v hp hq hv (by omega) ho
theorem FH.yes {T : TT} {W : WW} {a b : Nat} {f g : Nat → Int32} (h : FH T W a b f) (hb : b < 8) (hT : T.1 ≤ 8) (h0 : g (16 * a + 2 * b + 0) = nI (hby T W a b 0)) (h1 : g (16 * a + 2 * b + 1) = nI (hby T W a b 1)) (hg : ∀ j, j ≠ 16 * a + 2 * b + 0 → j ≠ 16 * a + 2 * b + 1 → g j = f j) : FH T W a (b + 1) g := fun p q v hp hq hv hl ho => by
  by_cases c : p = a ∧ q = b
  · rw [c.1, c.2]
    rcases (show v = 0 ∨ v = 1 by omega) with rfl | rfl
    · exact h0
    · exact h1
  · rw [hg _ (by omega) (by omega)]
    exact h p q v hp hq hv (by omega) ho
def pFl (a _j : Nat) : Bool := decide (a = 32 ∨ a = 33 ∨ (173 ≤ a ∧ a ≤ 179))
theorem pFl_f {a j : Nat} (h : ¬ (a = 32 ∨ a = 33 ∨ (173 ≤ a ∧ a ≤ 179))) : pFl a j = false := decide_eq_false h
theorem pB_pFl {s s' : fz_s} (h : Fr pB s s') : Fr pFl s s' := h.mono fun a j q => by
  have := of_decide_eq_false q
  exact pB_f (by omega)
theorem pFl_pC {s s' : fz_s} (h : Fr pFl s s') : Fr pC s s' := h.mono fun a j q => by
  have := of_decide_eq_false q
  exact pFl_f (by omega)
theorem c_fillI {T : TT} {W : WW} {x0 : fz_s} (h0 : CC T W 35 x0) {a : Nat} (ha : a < T.1) {K : Int32 → fz_s → Prop} {Q : fz_s → Prop} (hq : ∀ x', Fr pFl x0 x' → FH T W (a + 1) 0 (x'.1 179) → K (nI (a + 1)) x') : ∀ (n b : Nat) (x : fz_s), Fr pFl x0 x → FH T W a b (x.1 179) → b ≤ T.1 → T.1 < n + b → lp_X3_fillHarvests_15 35 K Q n (nI a) (nI b) x
  | 0, b, x, _, _, h1, h2 => absurd h2 (by omega)
  | n + 1, b, x, hF, hH, h1, h2 => by
    have hn := h0.1.1
    have h := h0.pC (pFl_pC hF)
    show nd_X3_fillHarvests_15 35 K (lp_X3_fillHarvests_15 35 K Q n) Q (nI a) (nI b) x
    unfold nd_X3_fillHarvests_15
    rw [h.2.2.1.1]
    by_cases c : b = T.1
    · subst c
      refine bt (by simp (disch := omega) only [N_lit, N_add, N_mul, N_sub, N_addneg, N_neg1, N_addm, N_le, N_lt, N_eq, N_in, N_cl, N_ne, N_ne', N_ltm, N_mlt, N_lem] <;> omega) ?_
      intro x1 e1
      rw [e1, nI_1]
      exact hq x hF hH.nx
    have hb : b < T.1 := by omega
    refine bf (by simp (disch := omega) only [N_lit, N_add, N_mul, N_sub, N_addneg, N_neg1, N_addm, N_le, N_lt, N_eq, N_in, N_cl, N_ne, N_ne', N_ltm, N_mlt, N_lem] <;> omega) (c_isPair h ha hb ⟨fun q => ?_, fun q => ?_⟩)
    · intro x4 e4
      rw [e4, nI_1]
      exact c_fillI h0 ha hq n (b + 1) x hF (hH.no q) (by omega) (by omega)
    · rw [show (0 : Int32) = nI 0 from rfl, show (1 : Int32) = nI 1 from rfl]
      refine c_cell3 (c_harvestBy h ha hb (by omega) (fun s8 f8 => ⟨N_in ⟨by omega, by omega⟩, fun s9 e9 => ?_⟩))
      rw [N_cl (by omega)] at e9
      have f9 : Fr pFl x0 s9 := by rw [e9]; exact (hF.tr (pB_pFl f8)).si (decide_eq_true (by omega))
      refine c_cell3 (c_harvestBy (h0.pC (pFl_pC f9)) ha hb (by omega) (fun s13 f13 => ⟨N_in ⟨by omega, by omega⟩, fun s14 e14 => ?_⟩))
      rw [N_cl (by omega)] at e14
      intro x15 e15
      rw [e15, N_add]
      refine c_fillI h0 ha hq n (b + 1) s14 (by rw [e14]; exact (f9.tr (pB_pFl f13)).si (decide_eq_true (by omega))) ?_ (by omega) (by omega)
      have e179 : ∀ j, s8.1 179 j = x.1 179 j := fun j => f8.i _ _ (pB_f (by omega))
      have e179' : ∀ j, s13.1 179 j = s9.1 179 j := fun j => f13.i _ _ (pB_f (by omega))
      refine hH.yes (by omega) hn ?_ ?_ (fun j j1 j2 => ?_)
      · rw [e14, g_nj (by omega), e179', e9, g_eq]
      · rw [e14, g_eq]
      · rw [e14, g_nj (by omega), e179', e9, g_nj (by omega), e179]
theorem c_fillO {T : TT} {W : WW} {x0 : fz_s} (h0 : CC T W 35 x0) {Q : fz_s → Prop} (hq : ∀ x', Fr pFl x0 x' → FH T W T.1 0 (x'.1 179) → Q x') : ∀ (n a : Nat) (x : fz_s), Fr pFl x0 x → FH T W a 0 (x.1 179) → a ≤ T.1 → T.1 < n + a → lp_X3_fillHarvests_2 35 Q n (nI a) x
  | 0, a, x, _, _, h1, h2 => absurd h2 (by omega)
  | n + 1, a, x, hF, hH, h1, h2 => by
    have hn := h0.1.1
    have h := h0.pC (pFl_pC hF)
    show nd_X3_fillHarvests_2 35 (lp_X3_fillHarvests_2 35 Q n) Q (nI a) x
    unfold nd_X3_fillHarvests_2
    rw [h.2.2.1.1]
    by_cases c : a = T.1
    · subst c
      exact bt (by simp (disch := omega) only [N_lit, N_add, N_mul, N_sub, N_addneg, N_neg1, N_addm, N_le, N_lt, N_eq, N_in, N_cl, N_ne, N_ne', N_ltm, N_mlt, N_lem] <;> omega) (hq x hF hH)
    exact bf (by simp (disch := omega) only [N_lit, N_add, N_mul, N_sub, N_addneg, N_neg1, N_addm, N_le, N_lt, N_eq, N_in, N_cl, N_ne, N_ne', N_ltm, N_mlt, N_lem] <;> omega) (c_fillI h0 (by omega) (fun x' f' H' => c_fillO h0 hq n (a + 1) x' f' H' (by omega) (by omega)) 2048 0 x hF hH (by omega) (by omega))
theorem c_fill {T : TT} {W : WW} {x : fz_s} (h : CC T W 35 x) {Q : fz_s → Prop} (hq : ∀ x', Fr pFl x x' → FH T W T.1 0 (x'.1 179) → Q x') : wp_X3_fillHarvests 35 x Q := c_fillO h hq 2048 0 x Fr.rf (fun p q v hp hq hv hl ho => by omega) (by omega) (by have := h.1.1; omega)
/-! the model's -/
theorem m_anew_lpk {m : fz_s} {s0 : fz_s} {Q : fz_s → Prop} (hq : ∀ s, TH m s → (∀ j, j < 29 → s.1 232 j = m.1 232 j) → (∀ a j, a ≠ 232 → s.1 a j = s0.1 a j) → Q s) : ∀ (n k : Nat) (s : fz_s), TH m s → (∀ j, j < k → s.1 232 j = m.1 232 j) → (∀ a j, a ≠ 232 → s.1 a j = s0.1 a j) → k ≤ 29 → 29 < n + k → lp_X12_triesAnew_2 Q n (nI k) s
  | 0, k, s, _, _, _, h1, h2 => absurd h2 (by omega)
  | n + 1, k, s, ht, hl, hk, h1, h2 => by
    show nd_X12_triesAnew_2 (lp_X12_triesAnew_2 Q n) Q (nI k) s
    unfold nd_X12_triesAnew_2
    by_cases c : k = 29
    · subst c
      exact bt (by simp (disch := omega) only [N_lit, N_add, N_mul, N_sub, N_addneg, N_neg1, N_addm, N_le, N_lt, N_eq, N_in, N_cl, N_ne, N_ne', N_ltm, N_mlt, N_lem] <;> omega) (hq s ht hl hk)
    refine bf (by simp (disch := omega) only [N_lit, N_add, N_mul, N_sub, N_addneg, N_neg1, N_addm, N_le, N_lt, N_eq, N_in, N_cl, N_ne, N_ne', N_ltm, N_mlt, N_lem] <;> omega) ⟨N_in ⟨by omega, by omega⟩, N_in ⟨by omega, by omega⟩, fun s1 e1 x2 e2 => ?_⟩
    rw [N_cl (by omega)] at e1
    rw [e2, nI_1]
    refine m_anew_lpk hq n (k + 1) s1 ⟨?_, ?_, fun j hj => ?_⟩ (fun j hj => ?_) (fun a j ha => ?_) (by omega) (by omega)
    · rw [e1]
      exact ht.1.si (by unfold pTt; rw [decide_eq_true (p := 232 = 232 ∧ k < 29) ⟨rfl, by omega⟩, Bool.or_true]; rfl)
    · rw [e1, g_ne (by omega)]; exact ht.2.1
    · rw [e1, g_ne (by omega)]; exact ht.2.2 j hj
    · rw [e1]
      by_cases c3 : j = k
      · subst c3
        rw [g_eq]
        exact ht.2.2 j (by omega)
      · rw [g_nj c3]
        exact hl j (by omega)
    · rw [e1, g_ne ha]
      exact hk a j ha
theorem m_anew_k {T : TT} {W : WW} {m s : fz_s} (h : MM T W m) (ht : TH m s) {Q : fz_s → Prop} (hq : ∀ s', TH m s' → MM T W s' → (∀ a j, a ≠ 232 → s'.1 a j = s.1 a j) → Q s') : wp_X12_triesAnew s Q := m_anew_lpk (s0 := s) (fun s' h1 h2 h3 => hq s' h1 (h1.mm h h2) h3) 2048 0 s ht (fun j hj => by omega) (fun _ _ _ => rfl) (by omega) (by omega)
theorem m_back_k {m s : fz_s} (ht : TH m s) (h58 : m.1 196 58 = nI 0) {Q : fz_s → Prop} (hq : ∀ m', Fdd m m' → (∀ a j, a ≠ 232 → a ≠ 196 → m'.1 a j = s.1 a j) → Q m') : wp_X12_takesBack s Q := by
  unfold wp_X12_takesBack
  refine m_anew_lpk (s0 := s) (fun s' h1 h2 h3 => ?_) 2048 0 s ht (fun j hj => by omega) (fun _ _ _ => rfl) (by omega) (by omega)
  intro s3 e3
  subst e3
  refine hq _ ⟨fun a j hp => ?_, h1.1.l _ _ (pTt_f (pD_f (by omega)) (by omega) (by omega)), fun j hj => h1.1.l _ _ (pTt_f (pD_f (by omega)) (by omega) (by omega))⟩ (fun a j q1 q2 => by rw [g_ne q2]; exact h3 a j q1)
  by_cases c1 : a = 196 ∧ j = 58
  · rw [c1.1, c1.2, g_eq, h58]; rfl
  · by_cases c2 : a = 232 ∧ j < 29
    · rw [c2.1, g_ne (by omega)]; exact h2 j c2.2
    · rw [g_si, if_neg c1]
      exact h1.1.i a j (pTt_f hp c2 c1)
theorem m_lay94 {T : TT} {W : WW} {a b : Nat} (ha : a < T.1) (hb : b < T.1) (ho : ownP T W a b = true) {m : fz_s} (hM : MM T W m) {K46 : Int32 → fz_s → Prop} {K56 : Int32 → Int32 → fz_s → Prop} {Q : fz_s → Prop} {s : fz_s} (ht : TH m s) (h : MM T (yeW T W a b false) s) (hH : FH T W a b (s.1 236)) (h237 : ∀ v, v < 2 → s.1 237 v = nI (nh T W v)) (hq : ∀ s', TH m s' → MM T W s' → FH T W a (b + 1) (s'.1 236) → (∀ v, v < 2 → s'.1 237 v = nI (nh T W v)) → K56 (nI a) (nI (b + 1)) s') : lp_X12_laysHarvests_94 K46 K56 Q 2048 (nI a) (nI b) 0 s := by
  have hn := hM.1.1
  have e16 : ∀ v : Nat, (16 : Int32) * nI a + 2 * nI b + nI v = nI (16 * a + 2 * b + v) := fun v => by
    rw [show (16 : Int32) * nI a = nI (16 * a) from N_mul 16 a, show (2 : Int32) * nI b = nI (2 * b) from N_mul 2 b, N_add, N_add]
  have eg : goW W a b = crs (crs W a) b := by
    unfold goW
    rw [if_neg (by omega)]
    rfl
  have hv0 : s.1 232 1 = nI (hby T W a b 0) := by
    have := h.2.2.2.1 0 (by omega)
    rw [ye_h (by omega), eg] at this
    exact this
  have hv1 : s.1 232 3 = nI (hby T W a b 1) := by
    have := h.2.2.2.1 1 (by omega)
    rw [ye_h (by omega), eg] at this
    exact this
  show nd_X12_laysHarvests_94 K46 K56 (lp_X12_laysHarvests_94 K46 K56 Q 2047) Q (nI a) (nI b) (nI 0) s
  unfold nd_X12_laysHarvests_94
  rw [e16, N_cl (by omega), show (1 : Int32) + 2 * nI 0 = nI 1 from rfl, N_cl (by omega), hv0]
  refine bf (by simp (disch := omega) only [N_lit, N_add, N_mul, N_sub, N_addneg, N_neg1, N_addm, N_le, N_lt, N_eq, N_in, N_cl, N_ne, N_ne', N_ltm, N_mlt, N_lem] <;> omega) ⟨N_in ⟨by omega, by omega⟩, N_in ⟨by omega, by omega⟩, fun s4 e4 x5 e5 => ?_⟩
  rw [e5, nI_1]
  show nd_X12_laysHarvests_94 K46 K56 (lp_X12_laysHarvests_94 K46 K56 Q 2046) Q (nI a) (nI b) (nI 1) s4
  unfold nd_X12_laysHarvests_94
  rw [e16, N_cl (by omega), show (1 : Int32) + 2 * nI 1 = nI 3 from rfl, N_cl (by omega), show s4.1 232 3 = nI (hby T W a b 1) by rw [e4, g_ne (by omega)]; exact hv1]
  refine bf (by simp (disch := omega) only [N_lit, N_add, N_mul, N_sub, N_addneg, N_neg1, N_addm, N_le, N_lt, N_eq, N_in, N_cl, N_ne, N_ne', N_ltm, N_mlt, N_lem] <;> omega) ⟨N_in ⟨by omega, by omega⟩, N_in ⟨by omega, by omega⟩, fun s6 e6 x7 e7 => ?_⟩
  rw [e7, nI_1]
  show nd_X12_laysHarvests_94 K46 K56 (lp_X12_laysHarvests_94 K46 K56 Q 2045) Q (nI a) (nI b) (nI 2) s6
  unfold nd_X12_laysHarvests_94
  have t4 : TH m s4 := by
    refine ⟨?_, ?_, fun j hj => ?_⟩
    · rw [e4]; exact ht.1.si (by unfold pTt; rw [pD_t (by omega)]; rfl)
    · rw [e4, g_ne (by omega)]; exact ht.2.1
    · rw [e4, g_ne (by omega)]; exact ht.2.2 j hj
  have t6 : TH m s6 := by
    refine ⟨?_, ?_, fun j hj => ?_⟩
    · rw [e6]; exact t4.1.si (by unfold pTt; rw [pD_t (by omega)]; rfl)
    · rw [e6, g_ne (by omega)]; exact t4.2.1
    · rw [e6, g_ne (by omega)]; exact t4.2.2 j hj
  have H6 : FH T W a (b + 1) (s6.1 236) := by
    refine hH.yes (by omega) hn ?_ ?_ (fun j j1 j2 => ?_)
    · rw [e6, g_nj (by omega), e4, g_eq]
    · rw [e6, g_eq]
    · rw [e6, g_nj (by omega), e4, g_nj (by omega)]
  refine bt (by simp (disch := omega) only [N_lit, N_add, N_mul, N_sub, N_addneg, N_neg1, N_addm, N_le, N_lt, N_eq, N_in, N_cl, N_ne, N_ne', N_ltm, N_mlt, N_lem] <;> omega) (m_anew_k hM t6 (fun s' t' h' e' => ?_))
  intro x3 e3
  rw [e3, nI_1]
  refine hq s' t' h' ?_ (fun v hv => ?_)
  · intro p q v hp hq' hv hl ho'
    rw [e' _ _ (by omega)]
    exact H6 p q v hp hq' hv hl ho'
  · rw [e' _ _ (by omega), e6, g_ne (by omega), e4, g_ne (by omega)]
    exact h237 v hv
def LH (T : TT) (W : WW) (s : fz_s) : Prop := FH T W T.1 0 (s.1 236) ∧ ∀ v, v < 2 → s.1 237 v = nI (nh T W v)
theorem m_layI {T : TT} {W : WW} (hy : W.2.2.2.2.2 < 2000) {m : fz_s} (hM : MM T W m) {a : Nat} (ha : a < T.1) {K : Int32 → fz_s → Prop} {Q : fz_s → Prop} (hq : ∀ s', TH m s' → MM T W s' → FH T W (a + 1) 0 (s'.1 236) → (∀ v, v < 2 → s'.1 237 v = nI (nh T W v)) → K (nI (a + 1)) s') : ∀ (n b : Nat) (s : fz_s), TH m s → MM T W s → FH T W a b (s.1 236) → (∀ v, v < 2 → s.1 237 v = nI (nh T W v)) → b ≤ T.1 → T.1 < n + b → lp_X12_laysHarvests_56 K Q n (nI a) (nI b) s
  | 0, b, s, _, _, _, _, h1, h2 => absurd h2 (by omega)
  | n + 1, b, s, ht, h, hH, h237, h1, h2 => by
    have hn := hM.1.1
    show nd_X12_laysHarvests_56 K (lp_X12_laysHarvests_56 K Q n) Q (nI a) (nI b) s
    unfold nd_X12_laysHarvests_56 wp_X12_personMany
    rw [h.2.2.1.1]
    by_cases c : b = T.1
    · subst c
      refine bt (by simp (disch := omega) only [N_lit, N_add, N_mul, N_sub, N_addneg, N_neg1, N_addm, N_le, N_lt, N_eq, N_in, N_cl, N_ne, N_ne', N_ltm, N_mlt, N_lem] <;> omega) ?_
      intro x3 e3
      rw [e3, nI_1]
      exact hq s ht h hH.nx h237
    have hb : b < T.1 := by omega
    have no : ownP T W a b = false → ∀ x6 : Int32, x6 = nI b + 1 → lp_X12_laysHarvests_56 K Q n (nI a) x6 s := by
      intro q x6 e6
      rw [e6, nI_1]
      exact m_layI hy hM ha hq n (b + 1) s ht h (hH.no q) h237 (by omega) (by omega)
    rw [show (0 : Int32) = nI 0 from rfl]
    refine bf (by simp (disch := omega) only [N_lit, N_add, N_mul, N_sub, N_addneg, N_neg1, N_addm, N_le, N_lt, N_eq, N_in, N_cl, N_ne, N_ne', N_ltm, N_mlt, N_lem] <;> omega) (m_ownIn h ha (by omega) ⟨fun q => no (by unfold ownP; rw [q]; rfl), fun q => ?_⟩)
    have no' := no
    rw [show nI b + 1 = nI b + nI 1 from rfl] at no'
    rw [show (1 : Int32) = nI 1 from rfl]
    refine m_ownIn h hb (by omega) ⟨fun q2 => ?_, fun q2 => no' (by unfold ownP; rw [q2, Bool.and_false])⟩
    have ho : ownP T W a b = true := by unfold ownP; rw [q, q2]; rfl
    have hp : PRok T W a b := Or.inr ⟨by omega, by omega, by omega, by omega, q, q2⟩
    have key := m_yearT (a := (a : Int)) (b := (b : Int)) (sn := false) h hy hp ht.2.1 (Q := fun s10 => lp_X12_laysHarvests_94 K (lp_X12_laysHarvests_56 K Q n) Q 2048 (nI a) (nI b) 0 s10) (fun s1 h1' f1 => ?_)
    · rw [← i_nI, ← i_nI] at key
      exact key
    · refine m_lay94 ha hb ho hM (ht.g (pN_pG f1)) h1' ?_ (fun v hv => ?_) (fun s' t' h' H' z' => m_layI hy hM ha hq n (b + 1) s' t' h' H' z' (by omega) (by omega))
      · intro p q v hp' hq' hv hl ho'
        rw [f1.i _ _ (pN_f (by omega))]
        exact hH p q v hp' hq' hv hl ho'
      · rw [f1.i _ _ (pN_f (by omega))]
        exact h237 v hv
theorem m_layO {T : TT} {W : WW} (hy : W.2.2.2.2.2 < 2000) {m : fz_s} (hM : MM T W m) (h58 : m.1 196 58 = nI 0) {Q : fz_s → Prop} (hq : ∀ m', Fdd m m' → LH T W m' → Q m') : ∀ (n a : Nat) (s : fz_s), TH m s → MM T W s → FH T W a 0 (s.1 236) → (∀ v, v < 2 → s.1 237 v = nI (nh T W v)) → a ≤ T.1 → T.1 < n + a → lp_X12_laysHarvests_46 Q n (nI a) s
  | 0, a, s, _, _, _, _, h1, h2 => absurd h2 (by omega)
  | n + 1, a, s, ht, h, hH, h237, h1, h2 => by
    have hn := hM.1.1
    show nd_X12_laysHarvests_46 (lp_X12_laysHarvests_46 Q n) Q (nI a) s
    unfold nd_X12_laysHarvests_46 wp_X12_personMany
    rw [h.2.2.1.1]
    by_cases c : a = T.1
    · subst c
      refine bt (by simp (disch := omega) only [N_lit, N_add, N_mul, N_sub, N_addneg, N_neg1, N_addm, N_le, N_lt, N_eq, N_in, N_cl, N_ne, N_ne', N_ltm, N_mlt, N_lem] <;> omega) (m_back_k ht h58 (fun m' hm e' => hq m' hm ⟨?_, fun v hv => ?_⟩))
      · intro p q v hp hq' hv hl ho'
        rw [e' _ _ (by omega) (by omega)]
        exact hH p q v hp hq' hv hl ho'
      · rw [e' _ _ (by omega) (by omega)]
        exact h237 v hv
    exact bf (by simp (disch := omega) only [N_lit, N_add, N_mul, N_sub, N_addneg, N_neg1, N_addm, N_le, N_lt, N_eq, N_in, N_cl, N_ne, N_ne', N_ltm, N_mlt, N_lem] <;> omega) (m_layI hy hM (by omega) (fun s' t' h' H' z' => m_layO hy hM h58 hq n (a + 1) s' t' h' H' z' (by omega) (by omega)) 2048 0 s ht h hH h237 (by omega) (by omega))
theorem m_lays {T : TT} {W : WW} (hy : W.2.2.2.2.2 < 2000) {m : fz_s} (hM : MM T W m) (h58 : m.1 196 58 = nI 0) {Q : fz_s → Prop} (hq : ∀ m', Fdd m m' → LH T W m' → Q m') : wp_X12_laysHarvests m Q := by
  have hn := hM.1.1
  unfold wp_X12_laysHarvests
  refine m_aside hM (fun s ht h => ?_)
  have key := m_yearT (a := -1) (b := -1) (sn := false) h hy (Or.inl ⟨rfl, rfl⟩) ht.2.1 (Q := fun s4 => lp_X12_laysHarvests_13 Q 2048 0 s4) (fun s1 h1 f1 => ?_)
  · exact key
  have t1 := ht.g (pN_pG f1)
  have eg : goW W (-1) (-1) = W := by unfold goW; rw [if_pos rfl]
  have hv0 : s1.1 232 1 = nI (nh T W 0) := by
    have := h1.2.2.2.1 0 (by omega)
    rw [ye_h (by omega), eg] at this
    exact this
  have hv1 : s1.1 232 3 = nI (nh T W 1) := by
    have := h1.2.2.2.1 1 (by omega)
    rw [ye_h (by omega), eg] at this
    exact this
  show nd_X12_laysHarvests_13 (lp_X12_laysHarvests_13 Q 2047) Q (nI 0) s1
  unfold nd_X12_laysHarvests_13
  rw [show (1 : Int32) + 2 * nI 0 = nI 1 from rfl, N_cl (by omega), N_cl (by omega), hv0]
  refine bf (by simp (disch := omega) only [N_lit, N_add, N_mul, N_sub, N_addneg, N_neg1, N_addm, N_le, N_lt, N_eq, N_in, N_cl, N_ne, N_ne', N_ltm, N_mlt, N_lem] <;> omega) ⟨N_in ⟨by omega, by omega⟩, N_in ⟨by omega, by omega⟩, fun s4 e4 x5 e5 => ?_⟩
  rw [e5, nI_1]
  show nd_X12_laysHarvests_13 (lp_X12_laysHarvests_13 Q 2046) Q (nI 1) s4
  unfold nd_X12_laysHarvests_13
  rw [show (1 : Int32) + 2 * nI 1 = nI 3 from rfl, N_cl (by omega), N_cl (by omega), show s4.1 232 3 = nI (nh T W 1) by rw [e4, g_ne (by omega)]; exact hv1]
  refine bf (by simp (disch := omega) only [N_lit, N_add, N_mul, N_sub, N_addneg, N_neg1, N_addm, N_le, N_lt, N_eq, N_in, N_cl, N_ne, N_ne', N_ltm, N_mlt, N_lem] <;> omega) ⟨N_in ⟨by omega, by omega⟩, N_in ⟨by omega, by omega⟩, fun s6 e6 x7 e7 => ?_⟩
  rw [e7, nI_1]
  show nd_X12_laysHarvests_13 (lp_X12_laysHarvests_13 Q 2045) Q (nI 2) s6
  unfold nd_X12_laysHarvests_13
  have t4 : TH m s4 := by
    refine ⟨?_, ?_, fun j hj => ?_⟩
    · rw [e4]; exact t1.1.si (by unfold pTt; rw [pD_t (by omega)]; rfl)
    · rw [e4, g_ne (by omega)]; exact t1.2.1
    · rw [e4, g_ne (by omega)]; exact t1.2.2 j hj
  have t6 : TH m s6 := by
    refine ⟨?_, ?_, fun j hj => ?_⟩
    · rw [e6]; exact t4.1.si (by unfold pTt; rw [pD_t (by omega)]; rfl)
    · rw [e6, g_ne (by omega)]; exact t4.2.1
    · rw [e6, g_ne (by omega)]; exact t4.2.2 j hj
  refine bt (by simp (disch := omega) only [N_lit, N_add, N_mul, N_sub, N_addneg, N_neg1, N_addm, N_le, N_lt, N_eq, N_in, N_cl, N_ne, N_ne', N_ltm, N_mlt, N_lem] <;> omega) (m_anew_k hM t6 (fun s' t' h' e' => ?_))
  refine m_layO hy hM h58 hq 2048 0 s' t' h' (fun p q v hp hq' hv hl ho' => by omega) (fun v hv => ?_) (by omega) (by omega)
  rw [e' _ _ (by omega)]
  rcases (show v = 0 ∨ v = 1 by omega) with rfl | rfl
  · rw [e6, g_nj (by omega), e4, g_eq]
  · rw [e6, g_eq]
theorem m_gainOf {T : TT} {W : WW} {a b v : Nat} {s : fz_s} (hT : T.1 ≤ 8) (h : LH T W s) (ha : a < T.1) (hb : b < T.1) (hv : v < 2) (ho : ownP T W a b = true) {Q : Int32 → fz_s → Prop} (hq : Q (iI ((hby T W a b v : Int) - nh T W v)) s) : wp_X12_gainOf (nI a) (nI b) (nI v) s Q := by
  unfold wp_X12_gainOf
  rw [show (16 : Int32) * nI a = nI (16 * a) from N_mul 16 a, show (2 : Int32) * nI b = nI (2 * b) from N_mul 2 b, N_add, N_add, N_cl (by omega), N_cl (by omega), h.1 a b v ha hb hv (by omega) ho, h.2 v hv, show nI (hby T W a b v) - nI (nh T W v) = iI ((hby T W a b v : Int) - nh T W v) by rw [i_nI, i_nI, i_sub]]
  exact ⟨N_in ⟨by omega, by omega⟩, N_in ⟨by omega, by omega⟩, hq⟩

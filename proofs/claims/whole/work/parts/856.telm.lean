/-! WITS, TELLS: the model, and both -/
def RWm (rs : Nat → Nat × Nat × Nat) (rn : Nat) (s : fz_s) : Prop := rn ≤ 16 ∧ s.1 196 66 = nI rn ∧ ∀ k, k < rn → (rs k).1 ≤ 30 ∧ (rs k).2.1 ≤ 1 ∧ (rs k).2.2 ≤ 999 ∧ s.1 240 (3 * k) = nI (rs k).1 ∧ s.1 240 (3 * k + 1) = nI (rs k).2.1 ∧ s.1 240 (3 * k + 2) = nI (rs k).2.2
theorem RWm.cg {rs : Nat → Nat × Nat × Nat} {rn : Nat} {s s' : fz_s} (h : RWm rs rn s) (he : ∀ a j, a = 240 ∨ (a = 196 ∧ j = 66) → s'.1 a j = s.1 a j) : RWm rs rn s' := by
  refine ⟨h.1, (he _ _ (by omega)).trans h.2.1, fun k hk => ?_⟩
  obtain ⟨a1, a2, a3, a4, a5, a6⟩ := h.2.2 k hk
  exact ⟨a1, a2, a3, (he _ _ (by omega)).trans a4, (he _ _ (by omega)).trans a5, (he _ _ (by omega)).trans a6⟩
theorem m_asSeen_lp {T : TT} {W : WW} {p w y : Nat} {rs : Nat → Nat × Nat × Nat} {rn : Nat} {s : fz_s} (hy : W.2.2.2.2.2 + y ≤ 1100 ∧ y ≤ 30) (h : MM T (itW T (stW W p w) y) s) (hR : RWm rs rn s) {Q : Bool → fz_s → Prop} (hq : Q (asK T W p rs w y rn) s) : ∀ (n k : Nat), asK T W p rs w y k = true → k ≤ rn → rn < n + k → lp_X12_isAsSeen_2 Q n (nI y) (nI k) s
  | 0, k, _, h1, h2 => absurd h2 (by omega)
  | n + 1, k, ho, h1, h2 => by
    have hr16 := hR.1
    show nd_X12_isAsSeen_2 (lp_X12_isAsSeen_2 Q n) Q (nI y) (nI k) s
    unfold nd_X12_isAsSeen_2
    rw [hR.2.1]
    by_cases c : k = rn
    · subst c
      rw [ho] at hq
      exact bt (by simp (disch := omega) only [N_lit, N_add, N_mul, N_sub, N_addneg, N_neg1, N_addm, N_le, N_lt, N_eq, N_in, N_cl, N_ne, N_ne', N_ltm, N_mlt, N_lem] <;> omega) hq
    obtain ⟨a1, a2, a3, a4, a5, a6⟩ := hR.2.2 k (by omega)
    have no : asK T W p rs w y (k + 1) = false → Q false s := fun e => by
      have : asK T W p rs w y rn = false := Bool.eq_false_iff.mpr fun z => by
        have := (asK_t rn).mp z
        have : asK T W p rs w y (k + 1) = true := (asK_t (k + 1)).mpr (fun j hj => this j (by omega))
        rw [e] at this
        cases this
      rw [this] at hq
      exact hq
    have es : asK T W p rs w y (k + 1) = (!decide ((rs k).1 = y) || (decide (W.2.2.2.2.2 + y ≤ 999) && decide (hsW T W p w y (rs k).2.1 = (rs k).2.2))) := by
      show (asK T W p rs w y k && _) = _
      rw [ho, Bool.true_and]
    have nx : asK T W p rs w y (k + 1) = true → ∀ x1 : Int32, x1 = nI (k + 1) → lp_X12_isAsSeen_2 Q n (nI y) x1 s := fun e x1 e1 => by
      subst e1
      exact m_asSeen_lp hy h hR hq n (k + 1) e (by omega) (by omega)
    refine bf (by simp (disch := omega) only [N_lit, N_add, N_mul, N_sub, N_addneg, N_neg1, N_addm, N_le, N_lt, N_eq, N_in, N_cl, N_ne, N_ne', N_ltm, N_mlt, N_lem] <;> omega) ?_
    rw [show (3 : Int32) * nI k = nI (3 * k) from N_mul 3 k, N_cl (by omega), a4, N_eq ⟨by omega, by omega⟩, nI_1, nI_1, N_cl (by omega), show nI (3 * k) + 2 = nI (3 * k + 2) from N_add _ 2, N_cl (by omega), a5, a6, show s.1 232 (0 : Int32).toNatClampNeg = nI (W.2.2.2.2.2 + y) from h.2.2.2.2.2.2.2.2.trans (by rw [it_yr]; rfl), show (1 : Int32) + 2 * nI (rs k).2.1 = nI (1 + 2 * (rs k).2.1) by rw [show (2 : Int32) * nI (rs k).2.1 = nI (2 * (rs k).2.1) from N_mul 2 _]; exact N_add 1 _, N_cl (by omega), h.2.2.2.1 (rs k).2.1 (by omega)]
    refine ⟨N_in ⟨by omega, by omega⟩, fun c1 => nx (by rw [es, decide_eq_false c1]; rfl), fun c1 => ?_⟩
    rw [decide_eq_true c1] at es
    by_cases c2 : 999 < W.2.2.2.2.2 + y
    · exact bt (by simp (disch := omega) only [N_lit, N_add, N_mul, N_sub, N_addneg, N_neg1, N_addm, N_le, N_lt, N_eq, N_in, N_cl, N_ne, N_ne', N_ltm, N_mlt, N_lem] <;> omega) (no (by rw [es, decide_eq_false (by omega)]; rfl))
    refine bf (by simp (disch := omega) only [N_lit, N_add, N_mul, N_sub, N_addneg, N_neg1, N_addm, N_le, N_lt, N_eq, N_in, N_cl, N_ne, N_ne', N_ltm, N_mlt, N_lem] <;> omega) ⟨N_in ⟨by omega, by omega⟩, N_in ⟨by omega, by omega⟩, N_in ⟨by omega, by omega⟩, ?_⟩
    have hh := h.2.1.1 (rs k).2.1 (by omega)
    rw [N_eq ⟨by omega, by omega⟩]
    rw [decide_eq_true (show W.2.2.2.2.2 + y ≤ 999 by omega)] at es
    refine ⟨fun c3 => nx ?_, fun c3 => no ?_⟩
    · rw [es, decide_eq_true (show hsW T W p w y (rs k).2.1 = (rs k).2.2 from c3)]; rfl
    · rw [es, decide_eq_false (show ¬ hsW T W p w y (rs k).2.1 = (rs k).2.2 from c3)]; rfl
theorem m_back_2 {m s : fz_s} (ht : TH m s) (h58 : m.1 196 58 = nI 0) {Q : fz_s → Prop} (hq : ∀ m', Fdd m m' → (∀ a j, a ≠ 232 → ¬ (a = 196 ∧ j = 58) → m'.1 a j = s.1 a j) → Q m') : wp_X12_takesBack s Q := by
  unfold wp_X12_takesBack
  refine m_anew_lpk (s0 := s) (fun s' h1 h2 h3 => ?_) 2048 0 s ht (fun j hj => by omega) (fun _ _ _ => rfl) (by omega) (by omega)
  intro s3 e3
  subst e3
  refine hq _ ⟨fun a j hp => ?_, h1.1.l _ _ (pTt_f (pD_f (by omega)) (by omega) (by omega)), fun j hj => h1.1.l _ _ (pTt_f (pD_f (by omega)) (by omega) (by omega))⟩ (fun a j q1 q2 => by rw [g_si, if_neg q2]; exact h3 a j q1)
  by_cases c1 : a = 196 ∧ j = 58
  · rw [c1.1, c1.2, g_eq, h58]; rfl
  · by_cases c2 : a = 232 ∧ j < 29
    · rw [c2.1, g_ne (by omega)]; exact h2 j c2.2
    · rw [g_si, if_neg c1]
      exact h1.1.i a j (pTt_f hp c2 c1)
def FT (F : Nat → Bool) (w : Nat) (s : fz_s) : Prop := (∀ u, u < w → s.1 242 u = bi (F u)) ∧ s.1 196 70 = nI (cnt F w)
theorem FT.cg {F : Nat → Bool} {w : Nat} {s s' : fz_s} (h : FT F w s) (he : ∀ a j, a = 242 ∨ (a = 196 ∧ j = 70) → s'.1 a j = s.1 a j) : FT F w s' := ⟨fun u hu => (he _ _ (by omega)).trans (h.1 u hu), (he _ _ (by omega)).trans h.2⟩
theorem TH.d {m s : fz_s} (h : TH m s) {a j : Nat} {v : Int32} (hp : pD a j = true) (h1 : ¬ (a = 196 ∧ j = 58)) (h2 : a ≠ 233) : TH m (si s a j v) := by
  refine ⟨h.1.si (by unfold pTt; rw [hp]; rfl), ?_, fun k hk => ?_⟩
  · rw [g_si, if_neg (fun q => h1 ⟨q.1.symm, q.2.symm⟩)]; exact h.2.1
  · rw [g_ne (fun q => h2 q.symm)]; exact h.2.2 k hk
theorem TH.rw {rs : Nat → Nat × Nat × Nat} {rn : Nat} {m s : fz_s} (hR : RWm rs rn m) (h : TH m s) : RWm rs rn s := hR.cg (fun a j q => h.1.i _ _ (pTt_f (pD_f (by omega)) (by omega) (by omega)))
theorem m_fitI {T : TT} {W : WW} {p w : Nat} {rs : Nat → Nat × Nat × Nat} {rn : Nat} {m : fz_s} (hp : p < T.1) (hw : w < 10) (hy : W.2.2.2.2.2 ≤ 999) (hM : MM T W m) (hR : RWm rs rn m) {K : Int32 → Int32 → fz_s → Prop} {Q : fz_s → Prop} (hq : ∀ s', TH m s' → MM T W s' → SW T W p 30 (w + 1) 0 (s'.1 241) → FT (fit T W p rs rn) (w + 1) s' → K (nI p) (nI (w + 1)) s') : ∀ (n y : Nat) (s : fz_s), TH m s → MM T (itW T (stW W p w) y) s → SW T W p 30 w y (s.1 241) → FT (fit T W p rs rn) w s → y ≤ 31 → 31 < n + y → lp_X12_laysFits_33 K Q n (nI p) (nI w) (fuS T W p rs rn w y) (nI y) s
  | 0, y, s, _, _, _, _, h1, h2 => absurd h2 (by omega)
  | n + 1, y, s, ht, h, hS, hT, h1, h2 => by
    have hn := hM.1.1
    show nd_X12_laysFits_33 K (lp_X12_laysFits_33 K Q n) Q (nI p) (nI w) (fuS T W p rs rn w y) (nI y) s
    unfold nd_X12_laysFits_33
    by_cases c : y = 31
    · subst c
      refine bt (by simp (disch := omega) only [N_lit, N_add, N_mul, N_sub, N_addneg, N_neg1, N_addm, N_le, N_lt, N_eq, N_in, N_cl, N_ne, N_ne', N_ltm, N_mlt, N_lem] <;> omega) (m_anew_k hM ht (fun s2 t2 h2' e2 => ⟨N_in ⟨by omega, by omega⟩, fun s3 e3 => ?_⟩))
      rw [N_cl (by omega)] at e3
      have ef : fuS T W p rs rn w 31 = fit T W p rs rn w := rfl
      rw [ef] at e3 ⊢
      have t3 : TH m s3 := by rw [e3]; exact t2.d (pD_t (by omega)) (by omega) (by omega)
      have h3 : MM T W s3 := by rw [e3]; exact h2'.cg (fun a j q => g_ne (by omega))
      have S3 : SW T W p 30 (w + 1) 0 (s3.1 241) := fun u k hu hk hl => by
        rw [e3, g_ne (by omega), e2 _ _ (by omega)]
        exact hS.nx u k hu hk hl
      have T3 : (∀ u, u < w + 1 → s3.1 242 u = bi (fit T W p rs rn u)) ∧ s3.1 196 70 = nI (cnt (fit T W p rs rn) w) := by
        refine ⟨fun u hu => ?_, ?_⟩
        · by_cases cu : u = w
          · subst cu; rw [e3, g_eq]
          · rw [e3, g_nj cu, e2 _ _ (by omega)]; exact hT.1 u (by omega)
        · rw [e3, g_ne (by omega), e2 _ _ (by omega)]; exact hT.2
      rw [nI_1]
      refine ⟨fun e x4 e4 => ?_, fun e s5 e5 x6 e6 => ?_⟩
      · subst e4
        refine hq s3 t3 h3 S3 ⟨T3.1, ?_⟩
        rw [cnt_s, if_neg (by rw [e]; decide)]
        exact T3.2
      · subst e6
        rw [T3.2, nI_1] at e5
        refine hq s5 (by rw [e5]; exact t3.d (pD_t (by omega)) (by omega) (by omega)) (by rw [e5]; exact h3.cg (fun a j q => by rw [g_si, if_neg (by omega)])) (fun u k hu hk hl => by rw [e5, g_ne (by omega)]; exact S3 u k hu hk hl) ⟨fun u hu => by rw [e5, g_ne (by omega)]; exact T3.1 u hu, ?_⟩
        rw [e5, g_eq, cnt_s, if_pos e]
    have go : ∀ u : Bool, u = fuS T W p rs rn w (y + 1) → nd_X12_laysFits_58 K (lp_X12_laysFits_33 K Q n) Q (nI p) (nI w) (nI y) u s := by
      intro u hu
      unfold nd_X12_laysFits_58
      rw [show (62 : Int32) * nI w = nI (62 * w) from N_mul 62 w, show (2 : Int32) * nI y = nI (2 * y) from N_mul 2 y, N_add, nI_1, N_cl (by omega), N_cl (by omega), show s.1 232 (1 : Int32).toNatClampNeg = nI (hsW T W p w y 0) from h.2.2.2.1 0 (by omega)]
      refine ⟨N_in ⟨by omega, by omega⟩, fun s1 e1 => ⟨N_in ⟨by omega, by omega⟩, fun s2 e2 => ?_⟩⟩
      rw [show s1.1 232 (3 : Int32).toNatClampNeg = nI (hsW T W p w y 1) by rw [e1, g_ne (by omega)]; exact h.2.2.2.1 1 (by omega)] at e2
      have t2 : TH m s2 := by rw [e2, e1]; exact (ht.d (pD_t (by omega)) (by omega) (by omega)).d (pD_t (by omega)) (by omega) (by omega)
      have h2' : MM T (itW T (stW W p w) y) s2 := h.cg (fun a j q => by rw [e2, g_ne (by omega), e1, g_ne (by omega)])
      refine m_goesT h2' (by rw [it_yr]; show W.2.2.2.2.2 + y < 2000; omega) t2.2.1 (fun s4 h4 f4 => ?_)
      intro x5 e5
      rw [e5, nI_1, hu]
      refine m_fitI hp hw hy hM hR hq n (y + 1) s4 (t2.g f4) h4 ?_ (hT.cg (fun a j q => ?_)) (by omega) (by omega)
      · have S2 : SW T W p 30 w (y + 1) (s2.1 241) := by
          refine hS.ad (by omega) (by omega) ?_ ?_ (fun j j1 j2 => ?_)
          · rw [e2, g_nj (by omega), e1]; exact g_eq
          · rw [e2]; exact g_eq
          · rw [e2, g_nj (by omega), e1, g_nj (by omega)]
        intro u k hu hk hl
        rw [f4.i _ _ (pG_f (by omega))]
        exact S2 u k hu hk hl
      · rw [f4.i _ _ (pG_f (by omega)), e2, g_ne (by omega), e1, g_ne (by omega)]
    refine bf (by simp (disch := omega) only [N_lit, N_add, N_mul, N_sub, N_addneg, N_neg1, N_addm, N_le, N_lt, N_eq, N_in, N_cl, N_ne, N_ne', N_ltm, N_mlt, N_lem] <;> omega) ⟨fun e => go false ?_, fun e => ?_⟩
    · show false = (fuS T W p rs rn w y && _)
      rw [e]; rfl
    · unfold wp_X12_isAsSeen
      refine m_asSeen_lp (w := w) (p := p) (W := W) ⟨by omega, by omega⟩ h (ht.rw hR) ⟨fun e2 => go false ?_, fun e2 => go true ?_⟩ 2048 0 rfl (by omega) (by have := hR.1; omega)
      · show false = (fuS T W p rs rn w y && asK T W p rs w y rn)
        rw [e, e2]; rfl
      · show true = (fuS T W p rs rn w y && asK T W p rs w y rn)
        rw [e, e2]; rfl
def LF (T : TT) (W : WW) (p : Nat) (F : Nat → Bool) (s : fz_s) : Prop := SW T W p 30 10 0 (s.1 241) ∧ FT F 10 s
theorem m_fitO {T : TT} {W : WW} {p : Nat} {rs : Nat → Nat × Nat × Nat} {rn : Nat} {m : fz_s} (hp : p < T.1) (hy : W.2.2.2.2.2 ≤ 999) (hM : MM T W m) (h58 : m.1 196 58 = nI 0) (hR : RWm rs rn m) {Q : fz_s → Prop} (hq : ∀ m', Fdd m m' → LF T W p (fit T W p rs rn) m' → Q m') : ∀ (n w : Nat) (s : fz_s), TH m s → MM T W s → SW T W p 30 w 0 (s.1 241) → FT (fit T W p rs rn) w s → w ≤ 10 → 10 < n + w → lp_X12_laysFits_11 Q n (nI p) (nI w) s
  | 0, w, s, _, _, _, _, h1, h2 => absurd h2 (by omega)
  | n + 1, w, s, ht, h, hS, hT, h1, h2 => by
    have hn := hM.1.1
    show nd_X12_laysFits_11 (lp_X12_laysFits_11 Q n) Q (nI p) (nI w) s
    unfold nd_X12_laysFits_11
    by_cases c : w = 10
    · subst c
      refine bt (by simp (disch := omega) only [N_lit, N_add, N_mul, N_sub, N_addneg, N_neg1, N_addm, N_le, N_lt, N_eq, N_in, N_cl, N_ne, N_ne', N_ltm, N_mlt, N_lem] <;> omega) (m_back_2 ht h58 (fun m' hm e' => hq m' hm ⟨fun u k hu hk hl => ?_, hT.cg (fun a j q => e' _ _ (by omega) (by omega))⟩))
      rw [e' _ _ (by omega) (by omega)]
      exact hS u k hu hk hl
    rw [show (5 : Int32) + 3 * nI p = nI (5 + 3 * p) by rw [show (3 : Int32) * nI p = nI (3 * p) from N_mul 3 p]; exact N_add 5 _, N_cl (by omega)]
    refine bf (by simp (disch := omega) only [N_lit, N_add, N_mul, N_sub, N_addneg, N_neg1, N_addm, N_le, N_lt, N_eq, N_in, N_cl, N_ne, N_ne', N_ltm, N_mlt, N_lem] <;> omega) ⟨N_in ⟨by omega, by omega⟩, fun s3 e3 => ?_⟩
    have t3 : TH m s3 := by
      refine ⟨?_, ?_, fun k hk => ?_⟩
      · rw [e3]; exact ht.1.si (by unfold pTt; rw [decide_eq_true (p := 232 = 232 ∧ 5 + 3 * p < 29) ⟨rfl, by omega⟩, Bool.or_true]; rfl)
      · rw [e3, g_ne (by omega)]; exact ht.2.1
      · rw [e3, g_ne (by omega)]; exact ht.2.2 k hk
    exact m_fitI hp (by omega) hy hM hR (fun s' a b c d => m_fitO hp hy hM h58 hR hq n (w + 1) s' a b c d (by omega) (by omega)) 2048 0 s3 t3 (by rw [e3]; exact h.w (by omega)) (fun u k hu hk hl => by rw [e3, g_ne (by omega)]; exact hS u k hu hk hl) (hT.cg (fun a j q => by rw [e3, g_ne (by omega)])) (by omega) (by omega)
theorem m_aside_lpk {m : fz_s} {Q : fz_s → Prop} (hq : ∀ s, TH m s → (∀ j, j < 29 → s.1 232 j = m.1 232 j) → (∀ a j, a ≠ 233 → ¬ (a = 196 ∧ j = 58) → s.1 a j = m.1 a j) → Q s) : ∀ (n k : Nat) (s : fz_s), Fr pTt m s → s.1 196 58 = nI 1 → (∀ j, j < k → s.1 233 j = m.1 232 j) → (∀ a j, a ≠ 233 → ¬ (a = 196 ∧ j = 58) → s.1 a j = m.1 a j) → k ≤ 29 → 29 < n + k → lp_X12_putsAside_7 Q n (nI k) s
  | 0, k, s, _, _, _, _, h1, h2 => absurd h2 (by omega)
  | n + 1, k, s, hF, h58, hl, hr, h1, h2 => by
    show nd_X12_putsAside_7 (lp_X12_putsAside_7 Q n) Q (nI k) s
    unfold nd_X12_putsAside_7
    by_cases c : k = 29
    · subst c
      exact bt (by simp (disch := omega) only [N_lit, N_add, N_mul, N_sub, N_addneg, N_neg1, N_addm, N_le, N_lt, N_eq, N_in, N_cl, N_ne, N_ne', N_ltm, N_mlt, N_lem] <;> omega) (hq s ⟨hF, h58, hl⟩ (fun j _ => hr _ _ (by omega) (by omega)) hr)
    refine bf (by simp (disch := omega) only [N_lit, N_add, N_mul, N_sub, N_addneg, N_neg1, N_addm, N_le, N_lt, N_eq, N_in, N_cl, N_ne, N_ne', N_ltm, N_mlt, N_lem] <;> omega) ⟨N_in ⟨by omega, by omega⟩, N_in ⟨by omega, by omega⟩, fun s1 e1 x2 e2 => ?_⟩
    rw [N_cl (by omega)] at e1
    rw [e2, nI_1]
    refine m_aside_lpk hq n (k + 1) s1 ?_ ?_ (fun j hj => ?_) (fun a j q1 q2 => ?_) (by omega) (by omega)
    · rw [e1]
      exact hF.si (by unfold pTt; rw [pD_t (by omega)]; rfl)
    · rw [e1, g_ne (by omega)]; exact h58
    · rw [e1]
      by_cases c3 : j = k
      · subst c3
        rw [g_eq]
        exact hr _ _ (by omega) (by omega)
      · rw [g_nj c3]
        exact hl j (by omega)
    · rw [e1, g_ne q1]
      exact hr a j q1 q2
theorem m_aside_k {T : TT} {W : WW} {m : fz_s} (h : MM T W m) {Q : fz_s → Prop} (hq : ∀ s, TH m s → MM T W s → (∀ a j, a ≠ 233 → ¬ (a = 196 ∧ j = 58) → s.1 a j = m.1 a j) → Q s) : wp_X12_putsAside m Q := by
  unfold wp_X12_putsAside
  intro s1 e1
  refine m_aside_lpk (m := m) (fun s ht h2 h3 => hq s ht (ht.mm h h2) h3) 2048 0 s1 ?_ ?_ (fun j hj => by omega) (fun a j q1 q2 => ?_) (by omega) (by omega)
  · rw [e1]
    exact Fr.rf.si (by unfold pTt; rw [decide_eq_true (p := 196 = 196 ∧ 58 = 58) ⟨rfl, rfl⟩, Bool.or_true])
  · rw [e1]; exact g_eq
  · rw [e1, g_si, if_neg q2]
theorem m_fits {T : TT} {W : WW} {p : Nat} {rs : Nat → Nat × Nat × Nat} {rn : Nat} {m : fz_s} (hp : p < T.1) (hy : W.2.2.2.2.2 ≤ 999) (hM : MM T W m) (h58 : m.1 196 58 = nI 0) (hR : RWm rs rn m) {Q : fz_s → Prop} (hq : ∀ m', Fdd m m' → LF T W p (fit T W p rs rn) m' → Q m') : wp_X12_laysFits (nI p) m Q := by
  unfold wp_X12_laysFits
  intro s1 e1
  have es : ∀ a j, ¬ (a = 196 ∧ j = 70) → s1.1 a j = m.1 a j := fun a j q => by rw [e1, g_si, if_neg q]
  have hd : Fdd m s1 := Fdd.of (by rw [e1]; exact Fr.rf.si (pD_t (by omega)))
  have h1 : MM T W s1 := hM.cg (fun a j q => es a j (by omega))
  have r1 : RWm rs rn s1 := hR.cg (fun a j q => es a j (by omega))
  refine m_aside_k h1 (fun s ht h hk => ?_)
  refine m_fitO (rs := rs) (rn := rn) hp hy h1 ((es _ _ (by omega)).trans h58) r1 (fun m' hm hL => hq m' (hd.tr hm) hL) 2048 0 s ht h (fun u k hu hk hl => by omega) ⟨fun u hu => absurd hu (Nat.not_lt_zero _), ?_⟩ (by omega) (by omega)
  rw [hk _ _ (by omega) (by omega), e1]
  exact g_eq
theorem bi_z (b : Bool) : (bi b = 0) ↔ b = false := by
  cases b <;> decide +kernel
theorem m_wits_lp {F : Nat → Bool} {m : fz_s} (hF : ∀ u, u < 10 → m.1 242 u = bi (F u)) {Q : Int32 → fz_s → Prop} (hq : Q (bts F 10) m) : ∀ (n w : Nat), w ≤ 10 → 10 < n + w → lp_X12_wits_19 Q n (bts F w) (nI w) m
  | 0, w, h1, h2 => absurd h2 (by omega)
  | n + 1, w, h1, h2 => by
    show nd_X12_wits_19 (lp_X12_wits_19 Q n) Q (bts F w) (nI w) m
    unfold nd_X12_wits_19
    by_cases c : w = 10
    · subst c
      exact bt (by simp (disch := omega) only [N_lit, N_add, N_mul, N_sub, N_addneg, N_neg1, N_addm, N_le, N_lt, N_eq, N_in, N_cl, N_ne, N_ne', N_ltm, N_mlt, N_lem] <;> omega) hq
    have ih := m_wits_lp hF hq n (w + 1) (by omega) (by omega)
    rw [show bts F (w + 1) = if F w = true then bts F w ||| (1 <<< (nI w &&& 31)) else bts F w from rfl] at ih
    rw [N_cl (by omega), hF w (by omega), bi_z, nI_1]
    refine bf (by simp (disch := omega) only [N_lit, N_add, N_mul, N_sub, N_addneg, N_neg1, N_addm, N_le, N_lt, N_eq, N_in, N_cl, N_ne, N_ne', N_ltm, N_mlt, N_lem] <;> omega) ⟨N_in ⟨by omega, by omega⟩, fun e x1 e1 => ?_, fun e x2 e2 x3 e3 => ?_⟩
    · subst e1
      rw [if_neg (by rw [e]; decide)] at ih
      exact ih
    · subst e3
      rw [if_pos ((Bool.not_eq_false _).mp e)] at ih
      rw [e2]
      exact ih
theorem I9.c {rs : Nat → Nat × Nat × Nat} {rn : Nat} {x m : fz_s} (h : I9 rs rn x m) : RWc rs rn x := ⟨h.1, h.2.1, fun k hk => by
  obtain ⟨b1, b2, b3, b4, b5, b6, b7, b8, b9, b10⟩ := h.2.2.2 k hk
  exact ⟨b1, b2, b3, b4, b5, b6, b7⟩⟩
theorem I9.m {rs : Nat → Nat × Nat × Nat} {rn : Nat} {x m : fz_s} (h : I9 rs rn x m) : RWm rs rn m := ⟨h.1, h.2.2.1, fun k hk => by
  obtain ⟨b1, b2, b3, b4, b5, b6, b7, b8, b9, b10⟩ := h.2.2.2 k hk
  exact ⟨b1, b2, b3, b8, b9, b10⟩⟩
theorem EQ_wits_ok : EQ_wits INV := by
  intro x m p0 h
  obtain ⟨t, T, W, kf, kn, ⟨tp, tn, h1⟩, h2, ⟨pn, h3⟩, ⟨sd, h4⟩, ⟨sn, nm, nl, h5⟩, h6, h7, ⟨us, ac, o, nw, h8⟩, ⟨rs, rn, h9⟩, h10⟩ := id h
  obtain ⟨z, rfl, hz⟩ := i_of p0
  have hn := h6.1.1.1
  have hyr := h6.2.2.1
  have cT := h6.1.2.2.1
  have mT := h6.2.1.2.2.1
  unfold wp_X11_wits wp_X12_wits
  refine c_noPerson cT.1 hn hz ⟨fun q => ?_, fun q => ?_⟩
  · have q' : 0 ≤ z ∧ z < T.1 := Decidable.byContradiction fun z => by rw [decide_eq_false z] at q; cases q
    obtain ⟨p, rfl⟩ : ∃ p : Nat, z = p := ⟨z.toNat, by omega⟩
    have hp : p < T.1 := by omega
    have hm30 : fmx rs rn ≤ 30 := (fmx_le rn).mpr (fun j hj => (h9.2.2.2 j hj).1)
    refine c_farS h9.c ?_
    rw [← i_nI p]
    refine c_foresee h6.1 hp hyr hm30 (fun x1 f1 S1 => ?_)
    have g1 : mnN (farY W) (fmx rs rn) ≤ 30 := by unfold mnN; have := farY_le W; split <;> omega
    refine c_possible (p := p) (rs := rs) (rn := rn) (W := W) h6.1.2.1 hyr ((f1.i _ _ (pSi_f (by omega))).trans h6.1.2.2.2.1.2.2.2.2.2) g1 S1 (h9.c.si f1) (fun c => by unfold mnN; rw [if_neg (by omega)]; exact Nat.le_refl _) ?_
    rw [i_nI p]
    refine m_isPerson mT.1 hn hz ⟨fun _ => ?_, fun q2 => absurd q' (of_decide_eq_false q2)⟩
    rw [← i_nI p]
    refine m_fits (rs := rs) (rn := rn) hp hyr h6.2.1 h6.2.2.2 h9.m (fun m' hm hL => ?_)
    exact m_wits_lp hL.2.1 ⟨rfl, h.fd (pSi_pC f1) hm⟩ 2048 0 (by omega) (by omega)
  · exact m_isPerson mT.1 hn hz ⟨fun q2 => absurd (of_decide_eq_true q2) (not_dec.mp q), fun _ => ⟨rfl, h⟩⟩
theorem m_alikeI {T : TT} {W : WW} {p k w : Nat} {F : Nat → Bool} {m : fz_s} (hW : WV T W) (hk : k < 62) (hw : w < 10) (hL : LF T W p F m) {K : Int32 → Int32 → Int32 → fz_s → Prop} {Q : Int32 → fz_s → Prop} {most : Nat} (hm : most ≤ 10) (hq : K (nI k) (nI (if most < ctA T W p F k w then ctA T W p F k w else most)) (nI (w + 1)) m) : ∀ (n b : Nat), b ≤ 10 → 10 < n + b → lp_X12_mostAlike_28 K Q n (nI k) (nI most) (nI w) (nI (cnt (fun b => F b && decide (Hk T W p b k = Hk T W p w k)) b)) (nI b) m
  | 0, b, h1, h2 => absurd h2 (by omega)
  | n + 1, b, h1, h2 => by
    show nd_X12_mostAlike_28 K (lp_X12_mostAlike_28 K Q n) Q (nI k) (nI most) (nI w) (nI (cnt (fun b => F b && decide (Hk T W p b k = Hk T W p w k)) b)) (nI b) m
    unfold nd_X12_mostAlike_28
    have hc := cnt_le (fun b => F b && decide (Hk T W p b k = Hk T W p w k)) b
    rw [nI_1, nI_1]
    by_cases c : b = 10
    · subst c
      refine bt (by simp (disch := omega) only [N_lit, N_add, N_mul, N_sub, N_addneg, N_neg1, N_addm, N_le, N_lt, N_eq, N_in, N_cl, N_ne, N_ne', N_ltm, N_mlt, N_lem] <;> omega) ?_
      show (nI (ctA T W p F k w) ≤ nI most → _) ∧ (¬ nI (ctA T W p F k w) ≤ nI most → _)
      have hc' := ctA_le T W p F k w
      rw [N_le ⟨by omega, by omega⟩]
      by_cases cc : ctA T W p F k w ≤ most
      · rw [if_neg (by omega)] at hq
        refine bt cc (fun x1 e1 => by subst e1; exact hq)
      · rw [if_pos (by omega)] at hq
        refine bf cc (fun x1 e1 => by subst e1; exact hq)
    have ih := m_alikeI (Q := Q) hW hk hw hL hm hq n (b + 1) (by omega) (by omega)
    rw [cnt_s] at ih
    rw [N_cl (by omega), hL.2.1 b (by omega), bi_z, show (62 : Int32) * nI w = nI (62 * w) from N_mul 62 w, show (62 : Int32) * nI b = nI (62 * b) from N_mul 62 b, N_add, N_add, N_cl (by omega), N_cl (by omega), hL.1 w k hw (by omega) (by omega), hL.1 b k (by omega) (by omega) (by omega)]
    have hk1 := Hk_le hW (p := p) (w := b) (k := k)
    have hk2 := Hk_le hW (p := p) (w := w) (k := k)
    refine bf (by simp (disch := omega) only [N_lit, N_add, N_mul, N_sub, N_addneg, N_neg1, N_addm, N_le, N_lt, N_eq, N_in, N_cl, N_ne, N_ne', N_ltm, N_mlt, N_lem] <;> omega) ⟨N_in ⟨by omega, by omega⟩, fun e x3 e3 => ?_, fun e => ⟨N_in ⟨by omega, by omega⟩, N_in ⟨by omega, by omega⟩, ?_⟩⟩
    · subst e3
      rw [e, Bool.false_and, if_neg (by decide)] at ih
      exact ih
    · rw [(Bool.not_eq_false _).mp e, Bool.true_and] at ih
      rw [N_eq ⟨by omega, by omega⟩]
      refine ⟨fun q x4 e4 => ?_, fun q x5 e5 x6 e6 => ?_⟩
      · subst e4
        rw [decide_eq_false (fun z => q z.symm), if_neg (by decide)] at ih
        exact ih
      · subst e6
        rw [decide_eq_true q.symm, if_pos rfl] at ih
        rw [e5, nI_1]
        exact ih
theorem m_alike_lp {T : TT} {W : WW} {p k : Nat} {F : Nat → Bool} {m : fz_s} (hW : WV T W) (hk : k < 62) (hL : LF T W p F m) {Q : Int32 → fz_s → Prop} (hq : Q (nI (mxA T W p F k 10)) m) : ∀ (n w : Nat), w ≤ 10 → 10 < n + w → lp_X12_mostAlike_4 Q n (nI k) (nI (mxA T W p F k w)) (nI w) m
  | 0, w, h1, h2 => absurd h2 (by omega)
  | n + 1, w, h1, h2 => by
    show nd_X12_mostAlike_4 (lp_X12_mostAlike_4 Q n) Q (nI k) (nI (mxA T W p F k w)) (nI w) m
    unfold nd_X12_mostAlike_4
    by_cases c : w = 10
    · subst c
      exact bt (by simp (disch := omega) only [N_lit, N_add, N_mul, N_sub, N_addneg, N_neg1, N_addm, N_le, N_lt, N_eq, N_in, N_cl, N_ne, N_ne', N_ltm, N_mlt, N_lem] <;> omega) hq
    have ih := m_alike_lp hW hk hL hq n (w + 1) (by omega) (by omega)
    have es : mxA T W p F k (w + 1) = if F w = true then (if mxA T W p F k w < ctA T W p F k w then ctA T W p F k w else mxA T W p F k w) else mxA T W p F k w := rfl
    rw [es] at ih
    rw [N_cl (by omega), hL.2.1 w (by omega), bi_z, nI_1]
    refine bf (by simp (disch := omega) only [N_lit, N_add, N_mul, N_sub, N_addneg, N_neg1, N_addm, N_le, N_lt, N_eq, N_in, N_cl, N_ne, N_ne', N_ltm, N_mlt, N_lem] <;> omega) ⟨N_in ⟨by omega, by omega⟩, fun e => ?_, fun e x1 e1 => ?_⟩
    · rw [if_pos ((Bool.not_eq_false _).mp e)] at ih
      exact m_alikeI hW hk (by omega) hL (mxA_le T W p F k w) ih 2048 0 (by omega) (by omega)
    · subst e1
      rw [if_neg (by rw [e]; decide)] at ih
      exact ih
def tlB (T : TT) (W : WW) (p : Nat) (F : Nat → Bool) (j : Nat) : Int := if j = 0 then -1 else ((tlK T W p F j).1 : Int)
def tlF (T : TT) (W : WW) (p : Nat) (F : Nat → Bool) (j : Nat) : Nat := if j = 0 then 0 else (tlK T W p F j).2
theorem m_tells_lp {t : Bool} {T : TT} {W : WW} {p : Nat} {F : Nat → Bool} {m : fz_s} {p1 : Int32} (ht : t = true) (hy : W.2.2.2.2.2 ≤ 999) (hW : WV T W) (h52 : m.1 196 52 = nI (b01 t)) (h0 : m.1 232 0 = nI W.2.2.2.2.2) (hL : LF T W p F m) (hc : cnt F 10 ≠ 0) {Q : Int32 → fz_s → Prop} (hq : nd_X12_tells_92 Q p1 (iI (tlB T W p F (2 * farY W))) (nI (tlF T W p F (2 * farY W))) m) : ∀ (n j : Nat), j ≤ 2 * farY W → 2 * farY W < n + j → lp_X12_tells_35 Q n p1 (iI (tlB T W p F j)) (nI (tlF T W p F j)) (nI (2 + j)) m
  | 0, j, h1, h2 => absurd h2 (by omega)
  | n + 1, j, h1, h2 => by
    have hf := farY_le W
    have hfy := farY_y hy
    have hcc := cnt_le F 10
    have hr := tlK_r T W p F j
    have hm := mxA_le T W p F (2 + j) 10
    show nd_X12_tells_35 (lp_X12_tells_35 Q n) Q p1 (iI (tlB T W p F j)) (nI (tlF T W p F j)) (nI (2 + j)) m
    unfold nd_X12_tells_35
    rw [hL.2.2, show nI (2 + j) / 2 = nI ((2 + j) / 2) from N_div (b := 2) ⟨by omega, by omega⟩]
    refine bf (by simp (disch := omega) only [N_lit, N_add, N_mul, N_sub, N_addneg, N_neg1, N_addm, N_le, N_lt, N_eq, N_in, N_cl, N_ne, N_ne', N_ltm, N_mlt, N_lem] <;> omega) ?_
    rw [i_nI ((2 + j) / 2)]
    refine m_isAhead (lo := 1) (hi := 30) h52 h0 hy (by omega) (by omega) (by omega) ⟨fun q => ?_, fun q => ?_⟩
    · have : j = 2 * farY W := Decidable.byContradiction fun z => by
        unfold ahd at q
        rw [ht, decide_eq_true (by omega)] at q
        cases q
      rw [this]
      exact hq
    have q' := ahd_t q
    have hj : j < 2 * farY W := Decidable.byContradiction fun z => by
      have : j = 2 * farY W := by omega
      unfold farY at this hf
      split at this <;> omega
    unfold wp_X12_mostAlike
    refine m_alike_lp (F := F) hW (by omega) hL ?_ 2048 0 (by omega) (by omega)
    have ih := m_tells_lp ht hy hW h52 h0 hL hc hq n (j + 1) (by omega) (by omega)
    have es : tlK T W p F (j + 1) = if mxA T W p F (2 + j) 10 < (tlK T W p F j).2 then (2 + j, mxA T W p F (2 + j) 10) else tlK T W p F j := rfl
    have eb : tlB T W p F (j + 1) = ((tlK T W p F (j + 1)).1 : Int) := if_neg (by omega)
    have ef : tlF T W p F (j + 1) = (tlK T W p F (j + 1)).2 := if_neg (by omega)
    rw [eb, ef, es, ← Nat.add_assoc] at ih
    rw [nI_1]
    have new : mxA T W p F (2 + j) 10 < (tlK T W p F j).2 → ∀ x5 : Int32, x5 = nI (2 + j + 1) → lp_X12_tells_35 Q n p1 (nI (2 + j)) (nI (mxA T W p F (2 + j) 10)) x5 m := by
      intro hlt x5 e5
      subst e5
      rw [if_pos hlt] at ih
      rw [i_nI (2 + j)]
      exact ih
    by_cases c0 : j = 0
    · have e1 : tlB T W p F j = -1 := if_pos c0
      refine ⟨fun _ => new ?_, fun z => absurd (by rw [e1]; rfl) z⟩
      subst c0
      show mxA T W p F (2 + 0) 10 < 11
      omega
    · have e1 : tlB T W p F j = ((tlK T W p F j).1 : Int) := if_neg c0
      have e2 : tlF T W p F j = (tlK T W p F j).2 := if_neg c0
      rw [e1, e2]
      have e3 : (iI ((tlK T W p F j).1 : Int) = -1) ↔ ((tlK T W p F j).1 : Int) = -1 := i_eq (b := -1) ⟨⟨by omega, by omega⟩, by omega, by omega⟩
      refine ⟨fun z => absurd (e3.mp z) (by omega), fun _ => ?_⟩
      rw [N_lt ⟨by omega, by omega⟩]
      refine ⟨new, fun cc x7 e7 => ?_⟩
      subst e7
      rw [if_neg cc] at ih
      exact ih
theorem EQ_tells_ok : EQ_tells INV := by
  intro x m p0 p1 h
  obtain ⟨t, T, W, kf, kn, ⟨tp, tn, h1⟩, h2, ⟨pn, h3⟩, ⟨sd, h4⟩, ⟨sn, nm, nl, h5⟩, h6, h7, ⟨us, ac, o, nw, h8⟩, ⟨rs, rn, h9⟩, h10⟩ := id h
  obtain ⟨z, rfl, hz⟩ := i_of p0
  obtain ⟨y, rfl, hy⟩ := i_of p1
  have hn := h6.1.1.1
  have hyr := h6.2.2.1
  have cT := h6.1.2.2.1
  have mT := h6.2.1.2.2.1
  have m0 : m.1 232 0 = nI W.2.2.2.2.2 := h6.2.1.2.2.2.2.2.2.2.2
  have l0 : lR 0 := by unfold lR; omega
  have l2 : lR 2 := by unfold lR; omega
  have e1 : (iI y < 0) ↔ y < 0 := i_lt (b := 0) ⟨hy, by omega, by omega⟩
  have e2 : ((2 : Int32) < iI y) ↔ 2 < y := i_lt (a := 2) (b := y) ⟨⟨by omega, by omega⟩, hy⟩
  unfold wp_X11_tells wp_X12_tells
  rw [e1, e2, i_64 hy]
  refine c_noPerson cT.1 hn hz ⟨fun q => m_isPerson mT.1 hn hz ⟨fun _ => ⟨rfl, h⟩, fun q2 => absurd (of_decide_eq_true q2) (not_dec.mp q)⟩, fun q => ?_⟩
  have q' : 0 ≤ z ∧ z < T.1 := Decidable.byContradiction fun z => by rw [decide_eq_false z] at q; cases q
  have ht : t = true := Decidable.byContradiction fun e => by
    have := h5.2.2.1.1 ((Bool.not_eq_true _).mp e)
    omega
  obtain ⟨p, rfl⟩ : ∃ p : Nat, z = p := ⟨z.toNat, by omega⟩
  have hp : p < T.1 := by omega
  by_cases c1 : y < 0
  · exact bt c1 (m_isPerson mT.1 hn hz ⟨fun q2 => absurd q' (of_decide_eq_false q2), fun _ => m_isIn (b := 0) (c := 2) (lR_i hy) l0 l2 ⟨fun q2 => absurd (of_decide_eq_true q2) (by omega), fun _ => ⟨rfl, h⟩⟩⟩)
  refine bf c1 ?_
  by_cases c2 : 2 < y
  · exact bt c2 (m_isPerson mT.1 hn hz ⟨fun q2 => absurd q' (of_decide_eq_false q2), fun _ => m_isIn (b := 0) (c := 2) (lR_i hy) l0 l2 ⟨fun q2 => absurd (of_decide_eq_true q2) (by omega), fun _ => ⟨rfl, h⟩⟩⟩)
  refine bf c2 ?_
  have F0 : ∀ m', Fdd m m' → m'.1 196 52 = nI (b01 t) ∧ m'.1 232 0 = nI W.2.2.2.2.2 := fun m' hm => ⟨(hm.1 _ _ (pD_f (by omega))).trans h5.2.1, (hm.1 _ _ (pD_f (by omega))).trans m0⟩
  have hfl := farY_le W
  -- the model
  have mod : ∀ (x' : fz_s) (r : Int32), Fr pC x x' → (cnt (fit T W p rs rn) 10 = 0 ∨ farY W = 0 → r = -1) → (cnt (fit T W p rs rn) 10 ≠ 0 → farY W ≠ 0 → r = if y = 0 then nI ((tlK T W p (fit T W p rs rn) (2 * farY W)).1 / 2) else if y = 1 then nI ((tlK T W p (fit T W p rs rn) (2 * farY W)).1 % 2) else nI (tlK T W p (fit T W p rs rn) (2 * farY W)).2) → wp_X12_isPerson (iI (p : Int)) m (fun r1 s2 => ((r1 = false → (r = -1 ∧ INV x' s2)) ∧ (r1 = true → wp_X12_isIn (lI y) 0 2 s2 (fun r3 s4 => ((r3 = true → wp_X12_laysFits (iI (p : Int)) s4 (fun s6 => lp_X12_tells_35 (fun r' m' => r = r' ∧ INV x' m') 2048 (iI y) (-1) 0 2 s6)) ∧ (r3 = false → (r = -1 ∧ INV x' s4))))))) := by
    intro x' r hF h0 h1'
    refine m_isPerson mT.1 hn hz ⟨fun q2 => absurd q' (of_decide_eq_false q2), fun _ => m_isIn (b := 0) (c := 2) (lR_i hy) l0 l2 ⟨fun _ => ?_, fun q2 => absurd (of_decide_eq_false q2) (by omega)⟩⟩
    rw [← i_nI p]
    refine m_fits (rs := rs) (rn := rn) hp hyr h6.2.1 h6.2.2.2 h9.m (fun m' hm hL => ?_)
    have hI : INV x' m' := h.fd hF hm
    have hf0 := F0 m' hm
    by_cases cz : cnt (fit T W p rs rn) 10 = 0
    · show nd_X12_tells_35 (lp_X12_tells_35 (fun r' m' => r = r' ∧ INV x' m') 2047) (fun r' m' => r = r' ∧ INV x' m') (iI y) (-1) 0 2 m'
      unfold nd_X12_tells_35
      rw [hL.2.2, cz]
      refine bt (by decide +kernel) ?_
      unfold nd_X12_tells_92
      exact ⟨fun z => absurd rfl z, fun _ => ⟨h0 (Or.inl cz), hI⟩⟩
    · refine m_tells_lp (p1 := iI y) ht hyr h6.1.2.1 hf0.1 hf0.2 hL cz ?_ 2048 0 (by omega) (by omega)
      unfold nd_X12_tells_92
      by_cases cf : farY W = 0
      · rw [cf]
        exact ⟨fun z => absurd rfl z, fun _ => ⟨h0 (Or.inr cf), hI⟩⟩
      · have hr := tlK_r T W p (fit T W p rs rn) (2 * farY W)
        have hr2 := hr.2.2 (by omega)
        have eb : tlB T W p (fit T W p rs rn) (2 * farY W) = ((tlK T W p (fit T W p rs rn) (2 * farY W)).1 : Int) := if_neg (by omega)
        have ef : tlF T W p (fit T W p rs rn) (2 * farY W) = (tlK T W p (fit T W p rs rn) (2 * farY W)).2 := if_neg (by omega)
        have hv := h1' cz cf
        rw [eb, ef, ← i_nI]
        have e3 : (nI (tlK T W p (fit T W p rs rn) (2 * farY W)).1 = -1) ↔ False := N_ne (by omega)
        have y0 : (iI y = 0) ↔ y = 0 := i_eq (b := 0) ⟨hy, by omega, by omega⟩
        have y1 : (iI y = 1) ↔ y = 1 := i_eq (b := 1) ⟨hy, by omega, by omega⟩
        rw [e3, y0, y1, show nI (tlK T W p (fit T W p rs rn) (2 * farY W)).1 - nI (tlK T W p (fit T W p rs rn) (2 * farY W)).1 / 2 * 2 = nI ((tlK T W p (fit T W p rs rn) (2 * farY W)).1 % 2) from N_mod (b := 2) ⟨by omega, by omega⟩, show nI (tlK T W p (fit T W p rs rn) (2 * farY W)).1 / 2 = nI ((tlK T W p (fit T W p rs rn) (2 * farY W)).1 / 2) from N_div (b := 2) ⟨by omega, by omega⟩]
        refine ⟨fun _ => ⟨fun a => ⟨fun b => ⟨?_, hI⟩, fun b => ⟨?_, hI⟩⟩, fun a => ⟨?_, hI⟩⟩, fun z => z.elim⟩
        · rw [if_neg a, if_neg b] at hv; exact hv
        · rw [if_neg a, if_pos b] at hv; exact hv
        · rw [if_pos a] at hv; exact hv
  have hfz : farY W = 0 ↔ 999 < W.2.2.2.2.2 + 1 := by
    unfold farY
    split <;> omega
  refine c_beyond (z := 1) h6.1.2.2.2.1.2.2.2.2.2 hyr (by omega) ⟨fun q2 => ?_, fun q2 => mod x (-1) Fr.rf (fun _ => rfl) (fun _ b => absurd (hfz.mpr (by have := of_decide_eq_true q2; omega)) b)⟩
  have hf1 : farY W ≠ 0 := fun z => by have := of_decide_eq_false q2; have := hfz.mp z; omega
  rw [← i_nI p] at mod ⊢
  refine c_foresee (A := 30) h6.1 hp hyr (by omega) (fun x1 f1 S1 => ?_)
  have en : mnN (farY W) 30 = farY W := by unfold mnN; split <;> omega
  rw [en] at S1
  unfold wp_X6_findTelling
  have h35 : x1.1 35 5 = nI W.2.2.2.2.2 := (f1.i _ _ (pSi_f (by omega))).trans h6.1.2.2.2.1.2.2.2.2.2
  refine c_possible (p := p) (rs := rs) (rn := rn) (W := W) h6.1.2.1 hyr h35 hfl S1 (h9.c.si f1) (fun c => c) (c_farY h35 hyr ?_)
  refine ⟨fun ez => ⟨fun _ => ?_, fun q => (by cases q)⟩, fun ez => ?_⟩
  · exact mod x1 (-1) (pSi_pC f1) (fun _ => rfl) (fun a _ => absurd ((cnt_z _ 10).mpr ((bts_z _).mp ez)) a)
  · have hcz : cnt (fit T W p rs rn) 10 ≠ 0 := fun z => ez ((bts_z _).mpr ((cnt_z _ 10).mp z))
    refine bt (by simp (disch := omega) only [N_lit, N_add, N_mul, N_sub, N_addneg, N_neg1, N_addm, N_le, N_lt, N_eq, N_in, N_cl, N_ne, N_ne', N_ltm, N_mlt, N_lem] <;> omega) ?_
    intro s5 e5
    refine c_tellO (F := fit T W p rs rn) h6.1.2.1 hfl (x0 := x1) S1 (fun x2 f2 T2 => ⟨fun q => (by cases q), fun _ => ⟨i_in ⟨by omega, by omega⟩, ?_⟩⟩) 2048 1 s5 (by rw [e5]; exact Fr.rf.si (decide_eq_true rfl)) ⟨by rw [e5]; exact g_eq, fun z => absurd z (Nat.lt_irrefl _)⟩ (by omega) (by omega) (by omega)
    have T2' := T2.2 (by omega)
    refine mod x2 _ ((pSi_pC f1).tr (p193_pC f2)) (fun o => by rcases o with o | o; exact absurd o hcz; exact absurd o hf1) (fun _ _ => ?_)
    rw [i_cl hy]
    rcases (show y = 0 ∨ y = 1 ∨ y = 2 by omega) with rfl | rfl | rfl
    · rw [if_pos rfl]; exact T2'.1
    · rw [if_neg (by omega), if_pos rfl]; exact T2'.2
    · rw [if_neg (by omega), if_neg (by omega)]; exact T2.1

/-! THE MODEL'S TREATY AND WORLD -/
def b01 (b : Bool) : Nat := if b = true then 1 else 0
theorem b01_le (b : Bool) : b01 b ≤ 1 := by
  unfold b01
  split <;> omega
/-- what an untold rule tells -/
def dfl (r : Nat) (σ : Nat → Int) : Int := if r = 0 then clip (9 - σ 3) else if r = 1 then (if σ 3 < 5 then 1 else 0) else if r = 2 then clip (σ 3 - 4) else if r = 3 then clip (σ 1) else 0
def MR (T : TT) (m : fz_s) (r : Nat) : Prop := (m.1 229 (5 + r) = iI (-1) ∧ T.2.2.2.2 r = dfl r) ∨ ∃ l a, m.1 229 (5 + r) = nI a ∧ m.1 230 (5 + r) = nI (a + l.length) ∧ a + l.length ≤ 1600 ∧ Seg (fun k => m.1 231 (1600 + k)) cM a l ∧ Dn (scR r) (tsR r) l (T.2.2.2.2 r)
def MT (T : TT) (m : fz_s) : Prop := m.1 196 40 = nI T.1 ∧ (∀ p, p < T.1 → m.1 227 (24 + 3 * p) = nI (T.2.1 p)) ∧ (∀ p, p < T.1 → m.1 227 (25 + 3 * p) = nI (T.2.2.1 p)) ∧ (∀ p, p < T.1 → m.1 227 (26 + 3 * p) = nI (T.2.2.2.1 p)) ∧ ∀ r, r < 5 → MR T m r
def MWr (T : TT) (W : WW) (f : Nat → Int32) : Prop := (∀ v, v < 2 → f (1 + 2 * v) = nI (W.1 v)) ∧ (∀ v, v < 2 → f (2 + 2 * v) = nI (W.2.1 v)) ∧ (∀ p, p < T.1 → f (5 + 3 * p) = nI (W.2.2.1 p)) ∧ (∀ p, p < T.1 → f (6 + 3 * p) = nI (b01 (W.2.2.2.1 p))) ∧ (∀ p, p < T.1 → f (7 + 3 * p) = nI (W.2.2.2.2.1 p)) ∧ f 0 = nI W.2.2.2.2.2
def MW (T : TT) (W : WW) (m : fz_s) : Prop := MWr T W (m.1 232)
def MM (T : TT) (W : WW) (m : fz_s) : Prop := TV T ∧ WV T W ∧ MT T m ∧ MW T W m
theorem MT.cong {T : TT} {m m' : fz_s} (h : MT T m) (h1 : m'.1 196 40 = m.1 196 40) (h2 : ∀ a, a = 227 ∨ a = 229 ∨ a = 230 ∨ a = 231 → ∀ j, m'.1 a j = m.1 a j) : MT T m' := by
  obtain ⟨a1, a2, a3, a4, a5⟩ := h
  refine ⟨h1.trans a1, fun p hp => (h2 227 (by omega) _).trans (a2 p hp), fun p hp => (h2 227 (by omega) _).trans (a3 p hp), fun p hp => (h2 227 (by omega) _).trans (a4 p hp), fun r hr => ?_⟩
  rcases a5 r hr with ⟨z, e⟩ | ⟨l, a, b1, b2, b3, b4, b5⟩
  · exact Or.inl ⟨(h2 229 (by omega) _).trans z, e⟩
  · exact Or.inr ⟨l, a, (h2 229 (by omega) _).trans b1, (h2 230 (by omega) _).trans b2, b3, b4.cong (fun k _ _ => h2 231 (by omega) _), b5⟩
theorem MWr.cong {T : TT} {W : WW} {f g : Nat → Int32} (hn : T.1 ≤ 8) (h : MWr T W f) (h2 : ∀ j, j < 29 → g j = f j) : MWr T W g := by
  obtain ⟨a1, a2, a3, a4, a5, a6⟩ := h
  exact ⟨fun p hp => (h2 _ (by omega)).trans (a1 p hp), fun p hp => (h2 _ (by omega)).trans (a2 p hp), fun p hp => (h2 _ (by omega)).trans (a3 p hp), fun p hp => (h2 _ (by omega)).trans (a4 p hp), fun p hp => (h2 _ (by omega)).trans (a5 p hp), (h2 _ (by omega)).trans a6⟩
theorem MW.cong {T : TT} {W : WW} {m m' : fz_s} (hn : T.1 ≤ 8) (h : MW T W m) (h2 : ∀ j, j < 29 → m'.1 232 j = m.1 232 j) : MW T W m' := MWr.cong hn h h2
theorem MM.cong {T : TT} {W : WW} {m m' : fz_s} (h : MM T W m) (h1 : m'.1 196 40 = m.1 196 40) (h2 : ∀ a, a = 227 ∨ a = 229 ∨ a = 230 ∨ a = 231 → ∀ j, m'.1 a j = m.1 a j) (h3 : ∀ j, j < 29 → m'.1 232 j = m.1 232 j) : MM T W m' := ⟨h.1, h.2.1, h.2.2.1.cong h1 h2, h.2.2.2.cong h.1.1 h3⟩
theorem MM.pP {T : TT} {W : WW} {m m' : fz_s} (h : MM T W m) (hF : Fr pP m m') : MM T W m' := h.cong (hF.i _ _ (pP_f (by omega))) (fun a ha j => hF.i _ _ (pP_f (by omega))) (fun j _ => hF.i _ _ (pP_f (by omega)))
theorem m_home {T : TT} {W : WW} {p : Nat} {m : fz_s} (h : MM T W m) (hp : p < T.1) {Q : Int32 → fz_s → Prop} (hq : Q (nI (T.2.1 p)) m) : wp_X12_homeOf (nI p) m Q := by
  have hn := h.1.1
  unfold wp_X12_homeOf
  simp (disch := omega) only [N_lit, N_add, N_mul, N_in, N_cl, true_and, h.2.2.1.2.1 p hp]
  exact hq
theorem m_wits {T : TT} {W : WW} {p : Nat} {m : fz_s} (h : MM T W m) (hp : p < T.1) {Q : Int32 → fz_s → Prop} (hq : Q (nI (W.2.2.1 p)) m) : wp_X12_witsOf (nI p) m Q := by
  have hn := h.1.1
  unfold wp_X12_witsOf
  simp (disch := omega) only [N_lit, N_add, N_mul, N_in, N_cl, true_and, h.2.2.2.2.2.1 p hp]
  exact hq
theorem m_awayOf {T : TT} {W : WW} {p : Nat} {m : fz_s} (h : MM T W m) (hp : p < T.1) {Q : Int32 → fz_s → Prop} (hq : Q (nI (W.2.2.2.2.1 p)) m) : wp_X12_awayOf (nI p) m Q := by
  have hn := h.1.1
  unfold wp_X12_awayOf
  simp (disch := omega) only [N_lit, N_add, N_mul, N_in, N_cl, true_and, h.2.2.2.2.2.2.2.1 p hp]
  exact hq
theorem m_isAway {T : TT} {W : WW} {p : Nat} {m : fz_s} (h : MM T W m) (hp : p < T.1) {Q : Bool → fz_s → Prop} (hq : Q (W.2.2.2.1 p) m) : wp_X12_isAway (nI p) m Q := by
  have hn := h.1.1
  unfold wp_X12_isAway
  simp (disch := omega) only [N_lit, N_add, N_mul, N_in, N_cl, true_and, h.2.2.2.2.2.2.1 p hp]
  cases e : W.2.2.2.1 p with
  | false =>
    rw [e] at hq
    exact nt (by show ¬ (nI 0 = nI 1); (simp (disch := omega) only [N_lit, N_add, N_mul, N_sub, N_addneg, N_neg1, N_addm, N_le, N_lt, N_eq, N_in, N_cl, N_ne, N_ne', N_ltm, N_mlt, N_lem] <;> omega)) hq
  | true =>
    rw [e] at hq
    exact nf rfl hq
theorem m_lives {T : TT} {W : WW} {p : Nat} {m : fz_s} (h : MM T W m) (hp : p < T.1) {Q : Int32 → fz_s → Prop} (hq : Q (nI (lv T W p)) m) : wp_X12_livesIn (nI p) m Q := by
  unfold wp_X12_livesIn
  refine m_isAway h hp ⟨fun e => m_home h hp ?_, fun e => m_home h hp ?_⟩
  · unfold lv at hq
    rw [if_neg (by rw [e]; decide)] at hq
    exact hq
  · unfold lv at hq
    rw [if_pos e] at hq
    rw [show (1 : Int32) - nI (T.2.1 p) = nI (1 - T.2.1 p) from N_sub (a := 1) (h.1.2.1 p hp)]
    exact hq
theorem m_isPerson {n : Nat} {z : Int} {m : fz_s} (h : m.1 196 40 = nI n) (hn : n ≤ 8) (hz : -2147483648 ≤ z ∧ z < 2147483648) {Q : Bool → fz_s → Prop} (hq : Q (decide (0 ≤ z ∧ z < n)) m) : wp_X12_isPerson (iI z) m Q := by
  unfold wp_X12_isPerson wp_X12_personMany wp_X12_isIn
  rw [h]
  dsimp only
  rw [i_64 hz, show (nI n - 1).toInt64 = lI ((n : Int) - 1) by rw [i_nI, show iI (n : Int) - 1 = iI ((n : Int) - 1) from i_sub _ 1, i_64 ⟨by omega, by omega⟩], lg_cmp_lt, lg_cmp_gt]
  have e1 : (lI z < 0) ↔ z < 0 := l_lt (b := 0) ⟨⟨by omega, by omega⟩, by omega, by omega⟩
  have e2 : (lI ((n : Int) - 1) < lI z) ↔ (n : Int) - 1 < z := l_lt ⟨⟨by omega, by omega⟩, by omega, by omega⟩
  rw [e1, e2]
  by_cases c1 : z < 0
  · rw [decide_eq_false (by omega)] at hq
    exact bt c1 hq
  refine bf c1 ?_
  by_cases c2 : (n : Int) - 1 < z
  · rw [decide_eq_false (by omega)] at hq
    exact bt c2 hq
  · rw [decide_eq_true (by omega)] at hq
    exact bf c2 hq
theorem m_ownIn {T : TT} {W : WW} {p v : Nat} {m : fz_s} (h : MM T W m) (hp : p < T.1) (hv : v < 2) {Q : Bool → fz_s → Prop} (hq : Q (own T W v p) m) : wp_X12_isOwnIn (nI p) (nI v) m Q := by
  have hn := h.1.1
  have hm := h.1.2.1 p hp
  unfold wp_X12_isOwnIn
  rw [i_nI p]
  refine m_isPerson h.2.2.1.1 h.1.1 ⟨by omega, by omega⟩ ?_
  rw [decide_eq_true (by omega), ← i_nI p]
  refine ⟨fun q => (by cases q), fun _ => m_home h hp ?_⟩
  rw [N_eq ⟨by omega, by omega⟩]
  unfold own at hq
  by_cases c : T.2.1 p = v
  · rw [decide_eq_true c, Bool.true_and] at hq
    refine nf c (m_isAway h hp ⟨fun e => ?_, fun e => ?_⟩)
    · rw [e] at hq; exact hq
    · rw [e] at hq; exact hq
  · rw [decide_eq_false c, Bool.false_and] at hq
    exact nt c hq
theorem m_guests_lp {T : TT} {W : WW} {v : Nat} (hv : v < 2) {m : fz_s} (h : MM T W m) {Q : Int32 → fz_s → Prop} (hq : Q (nI (gst T W v)) m) : ∀ (n k : Nat), k ≤ T.1 → T.1 < n + k → lp_X12_guestsOf_4 Q n (nI v) (nI (cnt (fun p => decide (lv T W p = v) && W.2.2.2.1 p) k)) (nI k) m
  | 0, k, h1, h2 => absurd h2 (by omega)
  | n + 1, k, h1, h2 => by
    have hn := h.1.1
    show nd_X12_guestsOf_4 (lp_X12_guestsOf_4 Q n) Q (nI v) (nI (cnt (fun p => decide (lv T W p = v) && W.2.2.2.1 p) k)) (nI k) m
    unfold nd_X12_guestsOf_4 wp_X12_personMany
    rw [h.2.2.1.1]
    by_cases hk : k = T.1
    · subst hk
      exact bt (by simp (disch := omega) only [N_lit, N_add, N_mul, N_sub, N_addneg, N_neg1, N_addm, N_le, N_lt, N_eq, N_in, N_cl, N_ne, N_ne', N_ltm, N_mlt, N_lem] <;> omega) hq
    have hk2 : k < T.1 := by omega
    have hl := lv_le (W := W) h.1 hk2
    have ih := m_guests_lp hv h hq n (k + 1) (by omega) (by omega)
    unfold cnt at ih
    have e1 : nI k + 1 = nI (k + 1) := nI_1 k
    refine bf (by simp (disch := omega) only [N_lit, N_add, N_mul, N_sub, N_addneg, N_neg1, N_addm, N_le, N_lt, N_eq, N_in, N_cl, N_ne, N_ne', N_ltm, N_mlt, N_lem] <;> omega) (m_lives h hk2 ?_)
    rw [N_eq ⟨by omega, by omega⟩, e1]
    by_cases c : lv T W k = v
    · rw [decide_eq_true c, Bool.true_and] at ih
      refine nf c (m_isAway h hk2 ⟨fun e => ?_, fun e => ?_⟩)
      · intro x8 e8
        subst e8
        rw [e, if_neg (by decide)] at ih
        exact ih
      · intro x8 e8 x9 e9
        subst e9
        rw [e, if_pos rfl] at ih
        rw [e8, nI_1]
        exact ih
    · rw [decide_eq_false c, Bool.false_and, if_neg (by decide)] at ih
      refine nt c ?_
      intro x8 e8
      subst e8
      exact ih
theorem m_guests {T : TT} {W : WW} {v : Nat} (hv : v < 2) {m : fz_s} (h : MM T W m) {Q : Int32 → fz_s → Prop} (hq : Q (nI (gst T W v)) m) : wp_X12_guestsOf (nI v) m Q := m_guests_lp hv h hq 2048 0 (by omega) (by have := h.1.1; omega)
theorem m_livers_lp {T : TT} {W : WW} {v : Nat} (hv : v < 2) {m : fz_s} (h : MM T W m) {Q : Int32 → fz_s → Prop} (hq : Q (nI (cnt (fun p => decide (lv T W p = v)) T.1)) m) : ∀ (n k : Nat), k ≤ T.1 → T.1 < n + k → lp_X12_liversOf_4 Q n (nI v) (nI (cnt (fun p => decide (lv T W p = v)) k)) (nI k) m
  | 0, k, h1, h2 => absurd h2 (by omega)
  | n + 1, k, h1, h2 => by
    have hn := h.1.1
    show nd_X12_liversOf_4 (lp_X12_liversOf_4 Q n) Q (nI v) (nI (cnt (fun p => decide (lv T W p = v)) k)) (nI k) m
    unfold nd_X12_liversOf_4 wp_X12_personMany
    rw [h.2.2.1.1]
    by_cases hk : k = T.1
    · subst hk
      exact bt (by simp (disch := omega) only [N_lit, N_add, N_mul, N_sub, N_addneg, N_neg1, N_addm, N_le, N_lt, N_eq, N_in, N_cl, N_ne, N_ne', N_ltm, N_mlt, N_lem] <;> omega) hq
    have hk2 : k < T.1 := by omega
    have hl := lv_le (W := W) h.1 hk2
    have ih := m_livers_lp hv h hq n (k + 1) (by omega) (by omega)
    unfold cnt at ih
    have e1 : nI k + 1 = nI (k + 1) := nI_1 k
    refine bf (by simp (disch := omega) only [N_lit, N_add, N_mul, N_sub, N_addneg, N_neg1, N_addm, N_le, N_lt, N_eq, N_in, N_cl, N_ne, N_ne', N_ltm, N_mlt, N_lem] <;> omega) (m_lives h hk2 ?_)
    rw [N_eq ⟨by omega, by omega⟩, e1]
    by_cases c : lv T W k = v
    · rw [if_pos (decide_eq_true c)] at ih
      refine nf c ?_
      intro x8 e8 x9 e9
      subst e9
      rw [e8, nI_1]
      exact ih
    · rw [if_neg (fun q => c (of_decide_eq_true q))] at ih
      refine nt c ?_
      intro x8 e8
      subst e8
      exact ih
theorem m_livers {T : TT} {W : WW} {v : Nat} (hv : v < 2) {m : fz_s} (h : MM T W m) {Q : Int32 → fz_s → Prop} (hq : Q (nI (cnt (fun p => decide (lv T W p = v)) T.1)) m) : wp_X12_liversOf (nI v) m Q := m_livers_lp hv h hq 2048 0 (by omega) (by have := h.1.1; omega)
theorem m_part {T : TT} {W : WW} {p v k : Nat} {m : fz_s} (h : MM T W m) (hk : k < 11) (hp : p < T.1 ∨ k ≤ 2 ∨ k = 7) (ha : k ≤ 1 ∨ k = 7 → v < 2 ∧ m.1 196 56 = nI v) {Q : Int64 → fz_s → Prop} (hq : Q (lI (env T W p v k)) m) : wp_X12_qPartOf (nI k) (nI p) m Q := by
  have hn := h.1.1
  obtain ⟨hT, hW, mT, mW⟩ := id h
  have hE : ∀ j : Nat, j < 100 → nI k = nI j → k = j := fun j k1 h => (N_eq ⟨by omega, by omega⟩).mp h
  unfold wp_X12_qPartOf
  refine ⟨fun e => ?_, fun e => ?_, fun e => ?_, fun e => ?_, fun e => ?_, fun e => ?_, fun e => ?_, fun e => ?_, fun e => ?_, fun e => ?_, fun e => ?_⟩
  · have hc := hE 0 (by omega) e
    subst hc
    obtain ⟨hv, r⟩ := ha (by omega)
    rw [env_0] at hq
    have hh := hW.1 v hv
    rw [r]
    simp (disch := omega) only [N_lit, N_add, N_mul, N_in, N_cl, true_and, mW.1 v hv, N_64]
    exact hq
  · have hc := hE 1 (by omega) e
    subst hc
    obtain ⟨hv, r⟩ := ha (by omega)
    rw [env_1] at hq
    have hh := hW.2.1 v hv
    rw [r]
    simp (disch := omega) only [N_lit, N_add, N_mul, N_in, N_cl, true_and, mW.2.1 v hv, N_64]
    exact hq
  · have hc := hE 2 (by omega) e
    subst hc
    rw [env_2] at hq
    have hh := hW.2.2.2.2
    simp (disch := omega) only [N_lit, N_add, N_mul, N_in, N_cl, true_and, mW.2.2.2.2.2, N_64]
    exact hq
  · have hc := hE 3 (by omega) e
    subst hc
    have hp' : p < T.1 := by omega
    rw [env_3] at hq
    have hh := hW.2.2.1 p hp'
    refine m_wits h hp' ?_
    rw [N_64 (by omega)]
    exact hq
  · have hc := hE 4 (by omega) e
    subst hc
    have hp' : p < T.1 := by omega
    rw [env_4] at hq
    have hh := hT.2.2.1 p hp'
    simp (disch := omega) only [N_lit, N_add, N_mul, N_in, N_cl, true_and, mT.2.2.1 p hp', N_64]
    exact hq
  · have hc := hE 5 (by omega) e
    subst hc
    have hp' : p < T.1 := by omega
    rw [env_5] at hq
    have hh := hT.2.2.2.1 p hp'
    simp (disch := omega) only [N_lit, N_add, N_mul, N_in, N_cl, true_and, mT.2.2.2.1 p hp', N_64]
    exact hq
  · have hc := hE 6 (by omega) e
    subst hc
    have hp' : p < T.1 := by omega
    rw [env_6] at hq
    have hh := hW.2.2.2.1 p hp'
    refine m_awayOf h hp' ?_
    rw [N_64 (by omega)]
    exact hq
  · have hc := hE 7 (by omega) e
    subst hc
    obtain ⟨hv, r⟩ := ha (by omega)
    rw [env_7] at hq
    have hh := gst_le T W v
    rw [r]
    refine m_guests hv h ?_
    rw [N_64 (by omega)]
    exact hq
  · have hc := hE 8 (by omega) e
    subst hc
    have hp' : p < T.1 := by omega
    rw [env_8] at hq
    rw [N_64 (by omega)]
    exact hq
  · have hc := hE 9 (by omega) e
    subst hc
    have hp' : p < T.1 := by omega
    rw [env_9] at hq
    have hh := lv_le (W := W) hT hp'
    refine m_lives h hp' ?_
    rw [N_64 (by omega)]
    exact hq
  · have hc : k = 10 := Decidable.byContradiction fun hz => by
      rcases (show k = 0 ∨ k = 1 ∨ k = 2 ∨ k = 3 ∨ k = 4 ∨ k = 5 ∨ k = 6 ∨ k = 7 ∨ k = 8 ∨ k = 9 by omega) with rfl | rfl | rfl | rfl | rfl | rfl | rfl | rfl | rfl | rfl
      · exact e.1 rfl
      · exact e.2.1 rfl
      · exact e.2.2.1 rfl
      · exact e.2.2.2.1 rfl
      · exact e.2.2.2.2.1 rfl
      · exact e.2.2.2.2.2.1 rfl
      · exact e.2.2.2.2.2.2.1 rfl
      · exact e.2.2.2.2.2.2.2.1 rfl
      · exact e.2.2.2.2.2.2.2.2.1 rfl
      · exact e.2.2.2.2.2.2.2.2.2 rfl
    subst hc
    have hp' : p < T.1 := by omega
    rw [env_10] at hq
    have hh := hT.2.1 p hp'
    refine m_home h hp' ?_
    rw [N_64 (by omega)]
    exact hq
theorem m_not {b : Int} {t : List Int} {s : fz_s} (h : MS (b :: t) s) (hl : t.length < 1700) {A : fz_s → Prop} (hq : ∀ s', Fr pP s s' → MS ((1 - b) :: t) s' → A s') : vp_in ((s.1 196 107) - 1) 1700 ∧ vp_in ((s.1 196 107) - 1) 1700 ∧ ∀ s5 : fz_s, s5 = sl s 271 ((s.1 196 107) - 1).toNatClampNeg (1 - (s.2.1 271 ((s.1 196 107) - 1).toNatClampNeg)) → A s5 := by
  have el : (b :: t).length = t.length + 1 := rfl
  rw [h.1, el, show nI (t.length + 1) - 1 = nI t.length from N_sub (b := 1) (by omega), N_cl (by omega), show s.2.1 271 t.length = lI b from h.2.1]
  refine ⟨N_in ⟨by omega, by omega⟩, N_in ⟨by omega, by omega⟩, fun s5 e5 => ?_⟩
  subst e5
  refine hq _ (Fr.rf.sl (pP_t (by omega))) ⟨h.1, ?_, h.2.2.cong (fun k hk => gl_nj (by omega))⟩
  rw [show (1 : Int64) - lI b = lI (1 - b) from l_sub 1 b]
  exact gl_eq
/-- one step of a rule in the model -/
theorem m_step {T : TT} {W : WW} {p v r : Nat} {K : Int32 → Int32 → Int32 → fz_s → Prop} {Q : Int64 → fz_s → Prop} {c : Nat} {st st' : List Int} {s : fz_s} {e i : Nat} (h : MM T W s) (hr : r < 5) (hv : v < 2) (hp : p < T.1 ∨ r = 3) (h56 : s.1 196 56 = nI v) (he : s.1 230 (5 + r) = nI e) (hi : i < e) (hbe : e ≤ 1600) (hc : s.1 231 (1600 + i) = nI (cM c)) (hS : MS st s) (hb : ∀ a ∈ st, bd a) (hl : st.length ≤ 64) (hs : stp (env T W p v) (scR r) c st = some st') (k : ∀ s', Fr pP s s' → MS st' s' → K (nI r) (nI p) (nI (i + 1)) s') : nd_X12_codesTell_34 K Q (nI r) (nI p) (nI i) s := by
  have e1 : nI i + 1 = nI (i + 1) := nI_1 i
  unfold nd_X12_codesTell_34
  simp (disch := omega) only [show (5 : Int32) + nI r = nI (5 + r) from N_add 5 r, show (1600 : Int32) + nI i = nI (1600 + i) from N_add 1600 i, N_in, N_cl, true_and, he, hc, e1]
  refine bf (by simp (disch := omega) only [N_lit, N_add, N_mul, N_sub, N_addneg, N_neg1, N_addm, N_le, N_lt, N_eq, N_in, N_cl, N_ne, N_ne', N_ltm, N_mlt, N_lem] <;> omega) ?_
  intro x1 ex1
  subst ex1
  unfold stp at hs
  split at hs
  · rename_i q
    split at hs
    · rw [show cM c = 13 by unfold cM; rw [if_pos q]]
      refine bt (by simp (disch := omega) only [N_lit, N_add, N_mul, N_sub, N_addneg, N_neg1, N_addm, N_le, N_lt, N_eq, N_in, N_cl, N_ne, N_ne', N_ltm, N_mlt, N_lem] <;> omega) (bt (by simp (disch := omega) only [N_lit, N_add, N_mul, N_sub, N_addneg, N_neg1, N_addm, N_le, N_lt, N_eq, N_in, N_cl, N_ne, N_ne', N_ltm, N_mlt, N_lem] <;> omega) (nf rfl ?_))
      refine m_puts (v := 1) hS (by omega) (fun s' hF hM => ?_)
      rw [← Option.some.inj hs] at k
      intro x9 e9
      subst e9
      exact k s' hF hM
    · cases hs
  rename_i q0
  split at hs
  · rename_i q1
    split at hs
    · rw [show cM c = 1000 + c by unfold cM; rw [if_neg q0, if_pos q1]]
      refine bf (by simp (disch := omega) only [N_lit, N_add, N_mul, N_sub, N_addneg, N_neg1, N_addm, N_le, N_lt, N_eq, N_in, N_cl, N_ne, N_ne', N_ltm, N_mlt, N_lem] <;> omega) ?_
      rw [show (nI (1000 + c) - 1000).toInt64 = lI c by rw [show nI (1000 + c) - 1000 = nI (1000 + c - 1000) from N_sub (b := 1000) (by omega), Nat.add_sub_cancel_left, N_64 (by omega)]]
      refine m_puts hS (by omega) (fun s' hF hM => ?_)
      rw [← Option.some.inj hs] at k
      intro x9 e9
      subst e9
      exact k s' hF hM
    · cases hs
  rename_i q1
  split at hs
  · rename_i q2
    split at hs
    · rename_i q3
      rw [show cM c = c - 10000 + 40 by unfold cM; rw [if_neg q0, if_neg q1, if_pos q2]]
      refine bt (by simp (disch := omega) only [N_lit, N_add, N_mul, N_sub, N_addneg, N_neg1, N_addm, N_le, N_lt, N_eq, N_in, N_cl, N_ne, N_ne', N_ltm, N_mlt, N_lem] <;> omega) (bf (by simp (disch := omega) only [N_lit, N_add, N_mul, N_sub, N_addneg, N_neg1, N_addm, N_le, N_lt, N_eq, N_in, N_cl, N_ne, N_ne', N_ltm, N_mlt, N_lem] <;> omega) ?_)
      rw [show nI (c - 10000 + 40) - 40 = nI (c - 10000) by rw [show nI (c - 10000 + 40) - 40 = nI (c - 10000 + 40 - 40) from N_sub (b := 40) (by omega), Nat.add_sub_cancel]]
      refine m_part (v := v) h q3.2.2 ?_ (fun _ => ⟨hv, h56⟩) ?_
      · rcases hp with hp | hp
        · exact Or.inl hp
        · right
          have := q3.2.1
          unfold scR at this
          rw [if_pos hp] at this
          exact of_decide_eq_true this
      refine m_puts hS (by omega) (fun s' hF hM => ?_)
      rw [← Option.some.inj hs] at k
      intro x9 e9
      subst e9
      exact k s' hF hM
    · cases hs
  rename_i q2
  split at hs
  · cases hs
  rename_i b t
  have el : (b :: t).length = t.length + 1 := rfl
  rw [el] at hl
  have hbb := hb b List.mem_cons_self
  split at hs
  · rename_i q3
    split at hs
    · rename_i q4
      rw [show cM c = 12 by unfold cM; rw [if_neg q0, if_neg q1, if_neg q2, if_pos q3]]
      refine bt (by simp (disch := omega) only [N_lit, N_add, N_mul, N_sub, N_addneg, N_neg1, N_addm, N_le, N_lt, N_eq, N_in, N_cl, N_ne, N_ne', N_ltm, N_mlt, N_lem] <;> omega) (bt (by simp (disch := omega) only [N_lit, N_add, N_mul, N_sub, N_addneg, N_neg1, N_addm, N_le, N_lt, N_eq, N_in, N_cl, N_ne, N_ne', N_ltm, N_mlt, N_lem] <;> omega) (nt (by simp (disch := omega) only [N_lit, N_add, N_mul, N_sub, N_addneg, N_neg1, N_addm, N_le, N_lt, N_eq, N_in, N_cl, N_ne, N_ne', N_ltm, N_mlt, N_lem] <;> omega) (nf rfl ?_)))
      refine m_not hS (by omega) (fun s' hF hM => ?_)
      rw [← Option.some.inj hs] at k
      intro x9 e9
      subst e9
      exact k s' hF hM
    · cases hs
  rename_i q3
  have n11 : scR r 11 ≠ true := by unfold scR; split <;> decide
  have n13 : scR r 13 ≠ true := by unfold scR; split <;> decide
  rw [if_neg n11, if_neg n13] at hs
  split at hs
  · cases hs
  split at hs
  · cases hs
  rename_i q4 q5
  split at hs
  · cases hs
  rename_i a t
  split at hs
  · rename_i q6
    have el2 : (a :: t).length = t.length + 1 := rfl
    rw [el2] at hl
    rw [show cM c = c - 20002 by unfold cM; rw [if_neg q0, if_neg q1, if_neg q2, if_neg q3, if_neg q4, if_neg q5]]
    refine bt (by simp (disch := omega) only [N_lit, N_add, N_mul, N_sub, N_addneg, N_neg1, N_addm, N_le, N_lt, N_eq, N_in, N_cl, N_ne, N_ne', N_ltm, N_mlt, N_lem] <;> omega) (bt (by simp (disch := omega) only [N_lit, N_add, N_mul, N_sub, N_addneg, N_neg1, N_addm, N_le, N_lt, N_eq, N_in, N_cl, N_ne, N_ne', N_ltm, N_mlt, N_lem] <;> omega) (nt (by simp (disch := omega) only [N_lit, N_add, N_mul, N_sub, N_addneg, N_neg1, N_addm, N_le, N_lt, N_eq, N_in, N_cl, N_ne, N_ne', N_ltm, N_mlt, N_lem] <;> omega) (nt (by simp (disch := omega) only [N_lit, N_add, N_mul, N_sub, N_addneg, N_neg1, N_addm, N_le, N_lt, N_eq, N_in, N_cl, N_ne, N_ne', N_ltm, N_mlt, N_lem] <;> omega) ?_)))
    refine m_joins hS (by omega) ⟨by omega, by omega⟩ (hb a (List.mem_cons_of_mem _ List.mem_cons_self)) hbb (fun z => q6.2 (by omega)) (fun s' hF hM => ?_)
    rw [← Option.some.inj hs] at k
    intro x9 e9
    subst e9
    rw [show c - 20002 - 1 = c - 20003 by omega] at hM
    exact k s' hF hM
  · cases hs
theorem env_bdR {T : TT} {W : WW} {p v r : Nat} (hT : TV T) (hW : WV T W) (hv : v < 2) (hp : p < T.1 ∨ r = 3) (k : Nat) (hk : scR r k = true) : bd (env T W p v k) := by
  rcases hp with hp | hp
  · exact env_bd hT hW hp hv k
  · subst hp
    exact env_bd3 hT hW hv k hk
theorem m_cloop {T : TT} {W : WW} {p v r : Nat} {Q : Int64 → fz_s → Prop} {e : Nat} (hr : r < 5) (hv : v < 2) (hp : p < T.1 ∨ r = 3) (hbe : e ≤ 1600) {z : Int} {s0 : fz_s} (hq : ∀ s', Fr pP s0 s' → Q (lI z) s') : ∀ (l : List Nat) (i n : Nat) (st : List Int) (s : fz_s), l.length < n → i + l.length = e → MM T W s → Fr pP s0 s → s.1 196 56 = nI v → s.1 230 (5 + r) = nI e → Seg (fun k => s.1 231 (1600 + k)) cM i l → MS st s → (∀ a ∈ st, bd a) → st.length ≤ 64 → evl (env T W p v) (scR r) l st = some [z] → lp_X12_codesTell_34 Q n (nI r) (nI p) (nI i) s
  | _, _, 0, _, _, h, _, _, _, _, _, _, _, _, _, _ => absurd h (Nat.not_lt_zero _)
  | [], i, n + 1, st, s, _, hi, h, hF, _, he, _, hS, _, hl, hev => by
    have hst : st = [z] := Option.some.inj hev
    subst hst
    show nd_X12_codesTell_34 (lp_X12_codesTell_34 Q n) Q (nI r) (nI p) (nI i) s
    unfold nd_X12_codesTell_34
    have hi2 : i = e := hi
    simp (disch := omega) only [show (5 : Int32) + nI r = nI (5 + r) from N_add 5 r, N_in, N_cl, true_and, he]
    refine bt (by simp (disch := omega) only [N_lit, N_add, N_mul, N_sub, N_addneg, N_neg1, N_addm, N_le, N_lt, N_eq, N_in, N_cl, N_ne, N_ne', N_ltm, N_mlt, N_lem] <;> omega) ?_
    rw [show s.2.1 271 (0 : Int32).toNatClampNeg = lI z from hS.2.1]
    exact hq s hF
  | c :: l, i, n + 1, st, s, hln, hi, h, hF, h56, he, hg, hS, hb, hl, hev => by
    simp only [List.length_cons] at hln hi
    have he2 : (stp (env T W p v) (scR r) c st).bind (evl (env T W p v) (scR r) l) = some [z] := hev
    cases hs : stp (env T W p v) (scR r) c st with
    | none => rw [hs] at he2; cases he2
    | some st' =>
      rw [hs] at he2
      have he3 : evl (env T W p v) (scR r) l st' = some [z] := he2
      show nd_X12_codesTell_34 (lp_X12_codesTell_34 Q n) Q (nI r) (nI p) (nI i) s
      refine m_step h hr hv hp h56 he (by omega) hbe hg.1 hS hb hl hs (fun s' hF' hS' => ?_)
      refine m_cloop hr hv hp hbe hq l (i + 1) n st' s' (by omega) (by omega) (h.pP hF') (hF.tr hF') ?_ ?_ ?_ hS' (stp_bd (env_bdR h.1 h.2.1 hv hp) (scR_12 r) (scR_14 r) hs hb) (stp_len hs hl) he3
      · exact (hF'.i _ _ (pP_f (by omega))).trans h56
      · exact (hF'.i _ _ (pP_f (by omega))).trans he
      · exact hg.2.cong (fun k _ _ => hF'.i _ _ (pP_f (by omega)))
def pM (a j : Nat) : Bool := decide (a = 271 ∨ (a = 196 ∧ (j = 107 ∨ j = 53 ∨ j = 56)))
theorem pM_f {a j : Nat} (h : ¬ (a = 271 ∨ (a = 196 ∧ (j = 107 ∨ j = 53 ∨ j = 56)))) : pM a j = false := decide_eq_false h
theorem pM_t {a j : Nat} (h : a = 271 ∨ (a = 196 ∧ (j = 107 ∨ j = 53 ∨ j = 56))) : pM a j = true := decide_eq_true h
theorem pP_pM {s s' : fz_s} (h : Fr pP s s') : Fr pM s s' := h.mono fun a j q => by
  have := of_decide_eq_false q
  exact pP_f (by omega)
theorem MM.pM {T : TT} {W : WW} {m m' : fz_s} (h : MM T W m) (hF : Fr pM m m') : MM T W m' := h.cong (hF.i _ _ (pM_f (by omega))) (fun a ha j => hF.i _ _ (pM_f (by omega))) (fun j _ => hF.i _ _ (pM_f (by omega)))
theorem m_tell {T : TT} {W : WW} {p v r : Nat} {m : fz_s} (h : MM T W m) (hr : r < 5) (hv : v < 2) (hp : p < T.1 ∨ r = 3) {l : List Nat} {a : Nat} (b1 : m.1 229 (5 + r) = nI a) (b2 : m.1 230 (5 + r) = nI (a + l.length)) (b3 : a + l.length ≤ 1600) (b4 : Seg (fun k => m.1 231 (1600 + k)) cM a l) (b5 : Dn (scR r) (tsR r) l (T.2.2.2.2 r)) {Q : Int64 → fz_s → Prop} (hq : ∀ m', Fr pM m m' → Q (lI (rv T W r p v)) m') : wp_X12_codesTell (nI r) (nI p) (nI v) m Q := by
  have hn := h.1.1
  have go : ∀ u : Bool, nd_X12_codesTell_11 Q (nI r) (nI p) (nI v) u m := by
    intro u
    unfold nd_X12_codesTell_11
    intro s1 e1 s2 e2 s3 e3
    have hF : Fr pM m s3 := by
      rw [e3, e2, e1]
      exact ((Fr.rf.si (pM_t (by omega))).si (pM_t (by omega))).si (pM_t (by omega))
    have h3 := h.pM hF
    have r56 : s3.1 196 56 = nI v := by
      rw [e3, g_nj (by omega), e2]
      exact g_eq
    have rS : MS [] s3 := ⟨by rw [e3]; exact g_eq, trivial⟩
    simp (disch := omega) only [show (5 : Int32) + nI r = nI (5 + r) from N_add 5 r, N_in, N_cl, true_and]
    intro x4 e4
    rw [hF.i _ _ (pM_f (by omega)), b1] at e4
    subst e4
    refine m_cloop (W := W) hr hv hp b3 (z := rv T W r p v) (fun s' hF' => hq s' (hF.tr (pP_pM hF'))) l a 2048 [] s3 (by omega) rfl h3 Fr.rf r56 ?_ ?_ rS (fun a h => by cases h) (Nat.zero_le _) (b5 _ (env_bdR h.1 h.2.1 hv hp)).1
    · exact (hF.i _ _ (pM_f (by omega))).trans b2
    · exact b4.cong (fun k _ _ => hF.i _ _ (pM_f (by omega)))
  unfold wp_X12_codesTell
  exact ⟨fun _ => go false, fun _ => go true⟩
theorem m_isTold {r : Nat} {m : fz_s} (hr : r < 5) {Q : Bool → fz_s → Prop} (h1 : m.1 229 (5 + r) = iI (-1) → Q false m) (h2 : m.1 229 (5 + r) ≠ iI (-1) → Q true m) : wp_X12_isTold (nI r) m Q := by
  unfold wp_X12_isTold
  simp (disch := omega) only [show (5 : Int32) + nI r = nI (5 + r) from N_add 5 r, N_in, N_cl, true_and]
  exact ⟨h1, h2⟩
/-- a rule, told or not -/
theorem m_rule {T : TT} {W : WW} {p v r : Nat} {m : fz_s} (h : MM T W m) (hr : r < 5) (hv : v < 2) (hp : p < T.1 ∨ r = 3) {Q : Bool → fz_s → Prop} (hd : rv T W r p v = dfl r (env T W p v) → Q false m) (ht : (∀ {Q' : Int64 → fz_s → Prop}, (∀ m', Fr pM m m' → Q' (lI (rv T W r p v)) m') → wp_X12_codesTell (nI r) (nI p) (nI v) m Q') → Q true m) : wp_X12_isTold (nI r) m Q := by
  rcases h.2.2.1.2.2.2.2 r hr with ⟨z, e⟩ | ⟨l, a, b1, b2, b3, b4, b5⟩
  · exact m_isTold hr (fun _ => hd (by unfold rv; rw [e])) (fun q => absurd z q)
  · refine m_isTold hr (fun q => ?_) (fun _ => ht (fun hq => m_tell h hr hv hp b1 b2 b3 b4 b5 hq))
    rw [b1] at q
    exact ((N_ne (by omega)).mp q).elim

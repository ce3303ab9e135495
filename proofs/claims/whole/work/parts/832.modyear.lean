/-! THE MODEL'S YEAR -/
theorem MM.set {T : TT} {W W' : WW} {m : fz_s} {j : Nat} {v : Int32} (h : MM T W m) (hW : WV T W') (hw : MW T W' (si m 232 j v)) : MM T W' (si m 232 j v) := ⟨h.1, hW, h.2.2.1.cong (g_ne (by omega)) (fun a ha j => g_ne (by omega)), hw⟩
theorem MM.h {T : TT} {W : WW} {m : fz_s} (h : MM T W m) {v n : Nat} (hn : n ≤ 999) (hv : v < 2) : MM T (stH W v n) (si m 232 (1 + 2 * v) (nI n)) := by
  obtain ⟨a1, a2, a3, a4, a5, a6⟩ := h.2.2.2
  refine h.set (h.2.1.h hn) ⟨fun q hq => ?_, fun q hq => ?_, fun q hq => ?_, fun q hq => ?_, fun q hq => ?_, ?_⟩
  · show _ = nI (upf W.1 v n q)
    by_cases c : q = v
    · subst c; rw [upf_eq, g_eq]
    · rw [upf_ne c, g_nj (by omega), a1 q hq]
  · rw [g_nj (by omega)]; exact a2 q hq
  · rw [g_nj (by omega)]; exact a3 q hq
  · rw [g_nj (by omega)]; exact a4 q hq
  · rw [g_nj (by omega)]; exact a5 q hq
  · rw [g_nj (by omega)]; exact a6
theorem MM.q {T : TT} {W : WW} {m : fz_s} (h : MM T W m) {v n : Nat} (hn : n ≤ 99) (hv : v < 2) : MM T (stQ W v n) (si m 232 (2 + 2 * v) (nI n)) := by
  obtain ⟨a1, a2, a3, a4, a5, a6⟩ := h.2.2.2
  refine h.set (h.2.1.q hn) ⟨fun q hq => ?_, fun q hq => ?_, fun q hq => ?_, fun q hq => ?_, fun q hq => ?_, ?_⟩
  · rw [g_nj (by omega)]; exact a1 q hq
  · show _ = nI (upf W.2.1 v n q)
    by_cases c : q = v
    · subst c; rw [upf_eq, g_eq]
    · rw [upf_ne c, g_nj (by omega), a2 q hq]
  · rw [g_nj (by omega)]; exact a3 q hq
  · rw [g_nj (by omega)]; exact a4 q hq
  · rw [g_nj (by omega)]; exact a5 q hq
  · rw [g_nj (by omega)]; exact a6
theorem MM.w {T : TT} {W : WW} {m : fz_s} (h : MM T W m) {p n : Nat} (hn : n ≤ 9) : MM T (stW W p n) (si m 232 (5 + 3 * p) (nI n)) := by
  obtain ⟨a1, a2, a3, a4, a5, a6⟩ := h.2.2.2
  refine h.set (h.2.1.w hn) ⟨fun q hq => ?_, fun q hq => ?_, fun q hq => ?_, fun q hq => ?_, fun q hq => ?_, ?_⟩
  · rw [g_nj (by omega)]; exact a1 q hq
  · rw [g_nj (by omega)]; exact a2 q hq
  · show _ = nI (upf W.2.2.1 p n q)
    by_cases c : q = p
    · subst c; rw [upf_eq, g_eq]
    · rw [upf_ne c, g_nj (by omega), a3 q hq]
  · rw [g_nj (by omega)]; exact a4 q hq
  · rw [g_nj (by omega)]; exact a5 q hq
  · rw [g_nj (by omega)]; exact a6
theorem MM.o {T : TT} {W : WW} {m : fz_s} (h : MM T W m) {p n : Nat} (hn : n ≤ 99) : MM T (stO W p n) (si m 232 (7 + 3 * p) (nI n)) := by
  obtain ⟨a1, a2, a3, a4, a5, a6⟩ := h.2.2.2
  refine h.set (h.2.1.o hn) ⟨fun q hq => ?_, fun q hq => ?_, fun q hq => ?_, fun q hq => ?_, fun q hq => ?_, ?_⟩
  · rw [g_nj (by omega)]; exact a1 q hq
  · rw [g_nj (by omega)]; exact a2 q hq
  · rw [g_nj (by omega)]; exact a3 q hq
  · rw [g_nj (by omega)]; exact a4 q hq
  · show _ = nI (upf W.2.2.2.2.1 p n q)
    by_cases c : q = p
    · subst c; rw [upf_eq, g_eq]
    · rw [upf_ne c, g_nj (by omega), a5 q hq]
  · rw [g_nj (by omega)]; exact a6
theorem MM.y {T : TT} {W : WW} {m : fz_s} (h : MM T W m) {n : Nat} (hn : n ≤ 2000) : MM T (stY W n) (si m 232 0 (nI n)) := by
  obtain ⟨a1, a2, a3, a4, a5, a6⟩ := h.2.2.2
  refine h.set (h.2.1.y hn) ⟨fun q hq => ?_, fun q hq => ?_, fun q hq => ?_, fun q hq => ?_, fun q hq => ?_, ?_⟩
  · rw [g_nj (by omega)]; exact a1 q hq
  · rw [g_nj (by omega)]; exact a2 q hq
  · rw [g_nj (by omega)]; exact a3 q hq
  · rw [g_nj (by omega)]; exact a4 q hq
  · rw [g_nj (by omega)]; exact a5 q hq
  · exact g_eq
theorem MM.c {T : TT} {W : WW} {m : fz_s} (h : MM T W m) {p : Nat} : MM T (crs W p) (si (si m 232 (6 + 3 * p) (nI (b01 (!W.2.2.2.1 p)))) 232 (7 + 3 * p) (nI 0)) := by
  obtain ⟨a1, a2, a3, a4, a5, a6⟩ := h.2.2.2
  refine ⟨h.1, h.2.1.c, (h.2.2.1.cong (g_ne (by omega)) (fun a ha j => g_ne (by omega))).cong (g_ne (by omega)) (fun a ha j => g_ne (by omega)), ⟨fun q hq => ?_, fun q hq => ?_, fun q hq => ?_, fun q hq => ?_, fun q hq => ?_, ?_⟩⟩
  · rw [g_nj (by omega), g_nj (by omega)]; exact a1 q hq
  · rw [g_nj (by omega), g_nj (by omega)]; exact a2 q hq
  · rw [g_nj (by omega), g_nj (by omega)]; exact a3 q hq
  · show _ = nI (b01 (upf W.2.2.2.1 p (!W.2.2.2.1 p) q))
    rw [g_nj (by omega)]
    by_cases c : q = p
    · subst c; rw [upf_eq, g_eq]
    · rw [upf_ne c, g_nj (by omega), a4 q hq]
  · show _ = nI (upf W.2.2.2.2.1 p 0 q)
    by_cases c : q = p
    · subst c; rw [upf_eq, g_eq]
    · rw [upf_ne c, g_nj (by omega), g_nj (by omega), a5 q hq]
  · rw [g_nj (by omega), g_nj (by omega)]; exact a6
theorem l_w {z : Int} (h : bd z) : lR z := b_lR h
theorem m_sends {T : TT} {W : WW} {p : Nat} {m : fz_s} (h : MM T W m) (hp : p < T.1) {Q : Int64 → fz_s → Prop} (hq : ∀ m', Fr pM m m' → Q (lI (rv T W 0 p (lv T W p))) m') : wp_X12_sendsOf (nI p) m Q := by
  have hl := lv_le (W := W) h.1 hp
  have hh := h.2.1.2.2.1 p hp
  unfold wp_X12_sendsOf
  rw [show (0 : Int32) = nI 0 from rfl]
  refine m_rule (p := p) (v := lv T W p) (r := 0) h (by omega) (by omega) (Or.inl hp) (fun e => ⟨fun _ => ?_, fun q => (by cases q)⟩) (fun t => ⟨fun q => (by cases q), fun _ => ?_⟩)
  · refine m_wits h hp ?_
    unfold dfl at e
    rw [if_pos rfl, env_3, clip_id (by unfold bd; omega)] at e
    rw [e] at hq
    rw [show ((9 : Int32) - nI (W.2.2.1 p)).toInt64 = lI (9 - (W.2.2.1 p : Int)) by rw [i_nI, show (9 : Int32) - iI (W.2.2.1 p : Int) = iI (9 - (W.2.2.1 p : Int)) from i_sub 9 _, i_64 ⟨by omega, by omega⟩]]
    exact hq m Fr.rf
  · exact m_lives h hp (t hq)
theorem m_pass {T : TT} {W : WW} {p : Nat} {m : fz_s} (h : MM T W m) (hp : p < T.1) {Q : Bool → fz_s → Prop} (hq : ∀ m', Fr pM m m' → Q (pass T W p) m') : wp_X12_doesPass (nI p) m Q := by
  have hl := lv_le (W := W) h.1 hp
  have hh := h.2.1.2.2.1 p hp
  unfold pass at hq
  unfold wp_X12_doesPass
  rw [show (1 : Int32) = nI 1 from rfl]
  refine m_rule (p := p) (v := lv T W p) (r := 1) h (by omega) (by omega) (Or.inl hp) (fun e => ⟨fun _ => ?_, fun q => (by cases q)⟩) (fun t => ⟨fun q => (by cases q), fun _ => ?_⟩)
  · refine m_wits h hp ?_
    unfold dfl at e
    rw [if_neg (by decide), if_pos rfl, env_3] at e
    rw [e] at hq
    by_cases c : (W.2.2.1 p : Int) < 5
    · rw [if_pos c] at hq
      exact bf (by simp (disch := omega) only [N_lit, N_add, N_mul, N_sub, N_addneg, N_neg1, N_addm, N_le, N_lt, N_eq, N_in, N_cl, N_ne, N_ne', N_ltm, N_mlt, N_lem] <;> omega) (hq m Fr.rf)
    · rw [if_neg c] at hq
      exact bt (by simp (disch := omega) only [N_lit, N_add, N_mul, N_sub, N_addneg, N_neg1, N_addm, N_le, N_lt, N_eq, N_in, N_cl, N_ne, N_ne', N_ltm, N_mlt, N_lem] <;> omega) (hq m Fr.rf)
  · refine m_lives h hp (t (fun m' hF => ?_))
    have h01 := rv_01 (r := 1) h.1 h.2.1 (Or.inl rfl) hp (show lv T W p < 2 by omega)
    rw [lg_cmp_eq]
    rcases h01 with e | e
    · rw [e] at hq ⊢
      exact nt (by decide +kernel) (hq m' hF)
    · rw [e] at hq ⊢
      exact nf (by decide +kernel) (hq m' hF)
theorem m_does {T : TT} {W : WW} {p v : Nat} {m : fz_s} (h : MM T W m) (hp : p < T.1) (hv : v < 2) {Q : Int64 → fz_s → Prop} (hq : ∀ m', Fr pM m m' → Q (lI (rv T W 2 p v)) m') : wp_X12_doesIn (nI p) (nI v) m Q := by
  have hh := h.2.1.2.2.1 p hp
  unfold wp_X12_doesIn
  rw [show (2 : Int32) = nI 2 from rfl]
  refine m_rule (p := p) (v := v) (r := 2) h (by omega) hv (Or.inl hp) (fun e => ⟨fun _ => ?_, fun q => (by cases q)⟩) (fun t => ⟨fun q => (by cases q), fun _ => ?_⟩)
  · refine m_wits h hp ?_
    unfold dfl at e
    rw [if_neg (by decide), if_neg (by decide), if_pos rfl, env_3, clip_id (by unfold bd; omega)] at e
    rw [e] at hq
    rw [show (nI (W.2.2.1 p) - 4).toInt64 = lI ((W.2.2.1 p : Int) - 4) by rw [i_nI, show iI (W.2.2.1 p : Int) - 4 = iI ((W.2.2.1 p : Int) - 4) from i_sub _ 4, i_64 ⟨by omega, by omega⟩]]
    exact hq m Fr.rf
  · exact t hq
theorem m_stay {T : TT} {W : WW} {p : Nat} {m : fz_s} (h : MM T W m) (hp : p < T.1) {Q : Bool → fz_s → Prop} (hq : ∀ m', Fr pM m m' → Q (decide (rv T W 4 p (lv T W p) ≠ 0)) m') : wp_X12_doesStay (nI p) m Q := by
  have hl := lv_le (W := W) h.1 hp
  unfold wp_X12_doesStay
  rw [show (4 : Int32) = nI 4 from rfl]
  refine m_rule (p := p) (v := lv T W p) (r := 4) h (by omega) (by omega) (Or.inl hp) (fun e => ⟨fun _ => ?_, fun q => (by cases q)⟩) (fun t => ⟨fun q => (by cases q), fun _ => ?_⟩)
  · unfold dfl at e
    rw [if_neg (by decide), if_neg (by decide), if_neg (by decide), if_neg (by decide)] at e
    rw [e] at hq
    exact hq m Fr.rf
  · refine m_lives h hp (t (fun m' hF => ?_))
    have h01 := rv_01 (r := 4) h.1 h.2.1 (Or.inr rfl) hp (show lv T W p < 2 by omega)
    rw [lg_cmp_eq]
    rcases h01 with e | e
    · rw [e] at hq ⊢
      exact nt (by decide +kernel) (hq m' hF)
    · rw [e] at hq ⊢
      exact nf (by decide +kernel) (hq m' hF)
theorem own_eq {T : TT} {W : WW} {v p : Nat} (h : own T W v p = true) : T.2.1 p = v ∧ W.2.2.2.1 p = false ∧ lv T W p = v := by
  unfold own at h
  rw [Bool.and_eq_true, decide_eq_true_eq, Bool.not_eq_true'] at h
  refine ⟨h.1, h.2, ?_⟩
  unfold lv
  rw [if_neg (by rw [h.2]; decide)]
  exact h.1
theorem m_sent_lp {T : TT} {W : WW} {v : Nat} (hv : v < 2) {x0 : fz_s} {Q : Int32 → fz_s → Prop} (hq : ∀ x', Fr pM x0 x' → Q (iI (snt T W v)) x') : ∀ (n k : Nat) (x : fz_s), MM T W x → Fr pM x0 x → k ≤ T.1 → T.1 < n + k → lp_X12_sentOf_7 Q n (nI v) (iI (sentS T W v k).1) (lI (sentS T W v k).2) (nI k) x
  | 0, k, x, _, _, h1, h2 => absurd h2 (by omega)
  | n + 1, k, x, h, hF, h1, h2 => by
    have hT := h.1
    have hW := h.2.1
    have hn := hT.1
    have r1 := sentS_r T W v k
    have r2 := sentS_bd hT hW hv k h1
    unfold bd at r2
    show nd_X12_sentOf_7 (lp_X12_sentOf_7 Q n) Q (nI v) (iI (sentS T W v k).1) (lI (sentS T W v k).2) (nI k) x
    unfold nd_X12_sentOf_7 wp_X12_personMany
    rw [h.2.2.1.1]
    by_cases hk : k = T.1
    · subst hk
      exact bt (by simp (disch := omega) only [N_lit, N_add, N_mul, N_sub, N_addneg, N_neg1, N_addm, N_le, N_lt, N_eq, N_in, N_cl, N_ne, N_ne', N_ltm, N_mlt, N_lem] <;> omega) (hq x hF)
    have hk2 : k < T.1 := by omega
    have e1 : nI k + 1 = nI (k + 1) := nI_1 k
    rw [e1]
    refine bf (by simp (disch := omega) only [N_lit, N_add, N_mul, N_sub, N_addneg, N_neg1, N_addm, N_le, N_lt, N_eq, N_in, N_cl, N_ne, N_ne', N_ltm, N_mlt, N_lem] <;> omega) (m_ownIn h hk2 hv ⟨fun q => ?_, fun q => ?_⟩)
    · refine m_sends h hk2 (fun x' hF' => ?_)
      rw [(own_eq q).2.2]
      have r3 := rv_bd (r := 0) hT hW (by omega) hk2 hv
      unfold bd at r3
      have e2 : (iI (sentS T W v k).1 = -1) ↔ (sentS T W v k).1 = -1 := i_eq (b := -1) ⟨⟨by omega, by omega⟩, by omega, by omega⟩
      have e4 : (lI (sentS T W v k).2 < lI (rv T W 0 k v)) ↔ (sentS T W v k).2 < rv T W 0 k v := l_lt ⟨⟨by omega, by omega⟩, by omega, by omega⟩
      have new : ((sentS T W v k).1 = -1 ∨ (sentS T W v k).2 < rv T W 0 k v) → ∀ x6 : Int32, x6 = nI (k + 1) → lp_X12_sentOf_7 Q n (nI v) (nI k) (lI (rv T W 0 k v)) x6 x' := by
        intro hc x6 e6
        subst e6
        have : sentS T W v (k + 1) = ((k : Int), rv T W 0 k v) := by
          conv => lhs; unfold sentS
          rw [if_pos q, if_pos hc]
        have z := m_sent_lp hv hq n (k + 1) x' (h.pM hF') (hF.tr hF') (by omega) (by omega)
        rw [this] at z
        rw [i_nI k]
        exact z
      rw [lg_cmp_gt, e4, e2]
      refine ⟨fun q1 => new (Or.inl q1), fun q1 => ⟨fun q2 => new (Or.inr q2), fun q2 => ?_⟩⟩
      intro x7 e7
      subst e7
      have : sentS T W v (k + 1) = sentS T W v k := by
        conv => lhs; unfold sentS
        rw [if_pos q, if_neg (fun z => z.elim q1 q2)]
      rw [← this]
      exact m_sent_lp hv hq n (k + 1) x' (h.pM hF') (hF.tr hF') (by omega) (by omega)
    · intro x3 e3
      subst e3
      have : sentS T W v (k + 1) = sentS T W v k := by
        conv => lhs; unfold sentS
        rw [if_neg (by rw [q]; decide)]
      rw [← this]
      exact m_sent_lp hv hq n (k + 1) x h hF (by omega) (by omega)
theorem m_sent {T : TT} {W : WW} {v : Nat} {x : fz_s} (h : MM T W x) (hv : v < 2) {Q : Int32 → fz_s → Prop} (hq : ∀ x', Fr pM x x' → Q (iI (snt T W v)) x') : wp_X12_sentOf (nI v) x Q := m_sent_lp hv hq 2048 0 x h Fr.rf (by omega) (by have := h.1.1; omega)
theorem m_cut {hi : Nat} {z : Int} {m : fz_s} (hh : hi < 1000) (hz : -100000000 ≤ z ∧ z ≤ 100000000) {Q : Int32 → fz_s → Prop} (hq : Q (nI (cut0 hi z)) m) : wp_X12_cut (lI z) (nI hi) m Q := by
  unfold wp_X12_cut
  rw [N_64 (by omega), lg_cmp_ge, lg_cmp_le]
  have e1 : (0 ≤ lI z) ↔ 0 ≤ z := l_le (a := 0) ⟨⟨by omega, by omega⟩, by omega, by omega⟩
  have e2 : (lI z ≤ lI (hi : Int)) ↔ z ≤ hi := l_le ⟨⟨by omega, by omega⟩, by omega, by omega⟩
  rw [e1, e2, l_32]
  unfold cut0 at hq
  by_cases c1 : 0 ≤ z
  · rw [if_neg (by omega)] at hq
    refine bt c1 ?_
    by_cases c2 : z ≤ hi
    · rw [if_neg (by omega), i_nI, show ((z.toNat : Nat) : Int) = z by omega] at hq
      exact bt c2 hq
    · rw [if_pos (by omega)] at hq
      exact bf c2 hq
  · rw [if_pos (by omega)] at hq
    exact bf c1 hq
def pN (a j : Nat) : Bool := decide (a = 271 ∨ a = 235 ∨ (a = 196 ∧ (j = 107 ∨ j = 53 ∨ j = 56)) ∨ (a = 232 ∧ j < 29))
theorem pN_f {a j : Nat} (h : ¬ (a = 271 ∨ a = 235 ∨ (a = 196 ∧ (j = 107 ∨ j = 53 ∨ j = 56)) ∨ (a = 232 ∧ j < 29))) : pN a j = false := decide_eq_false h
theorem pN_t {a j : Nat} (h : a = 271 ∨ a = 235 ∨ (a = 196 ∧ (j = 107 ∨ j = 53 ∨ j = 56)) ∨ (a = 232 ∧ j < 29)) : pN a j = true := decide_eq_true h
theorem pM_pN {s s' : fz_s} (h : Fr pM s s') : Fr pN s s' := h.mono fun a j q => by
  have := of_decide_eq_false q
  exact pM_f (by omega)
theorem m_sum1_lp {T : TT} {W : WW} {v : Nat} (hv : v < 2) {x0 : fz_s} {K : Int32 → fz_s → Prop} {Q : fz_s → Prop} (hq : ∀ x', Fr pM x0 x' → K (nI (v + 1)) (si x' 235 v (nI (nh T W v)))) : ∀ (n k : Nat) (x : fz_s), MM T W x → Fr pM x0 x → k ≤ T.1 → T.1 < n + k → lp_X12_summer_12 K Q n (nI v) (lI (hsm T W v k)) (nI k) x
  | 0, k, x, _, _, h1, h2 => absurd h2 (by omega)
  | n + 1, k, x, h, hF, h1, h2 => by
    have hT := h.1
    have hW := h.2.1
    have hn := hT.1
    have hb := hsm_bd hT hW hv k h1
    have hh := hW.1 v hv
    have e1 : nI k + 1 = nI (k + 1) := nI_1 k
    show nd_X12_summer_12 K (lp_X12_summer_12 K Q n) Q (nI v) (lI (hsm T W v k)) (nI k) x
    unfold nd_X12_summer_12 wp_X12_personMany
    rw [h.2.2.1.1, e1]
    by_cases hk : k = T.1
    · subst hk
      refine bt (by simp (disch := omega) only [N_lit, N_add, N_mul, N_sub, N_addneg, N_neg1, N_addm, N_le, N_lt, N_eq, N_in, N_cl, N_ne, N_ne', N_ltm, N_mlt, N_lem] <;> omega) ?_
      simp (disch := omega) only [show (1 : Int32) + 2 * nI v = nI (1 + 2 * v) by rw [show (2 : Int32) * nI v = nI (2 * v) from N_mul 2 v]; exact N_add 1 _, N_in, N_cl, true_and, h.2.2.2.1 v hv, N_64]
      rw [l_add]
      refine m_cut (hi := 999) (by omega) ⟨by omega, by omega⟩ ?_
      intro s5 e5 x6 e6
      rw [e5, e6, nI_1]
      exact hq x hF
    have hk2 : k < T.1 := by omega
    have hl := lv_le (W := W) hT hk2
    refine bf (by simp (disch := omega) only [N_lit, N_add, N_mul, N_sub, N_addneg, N_neg1, N_addm, N_le, N_lt, N_eq, N_in, N_cl, N_ne, N_ne', N_ltm, N_mlt, N_lem] <;> omega) (m_lives h hk2 ?_)
    rw [N_eq ⟨by omega, by omega⟩]
    by_cases c : lv T W k = v
    · refine nf c (m_does h hk2 hv (fun x' hF' => ?_))
      intro x12 e12 x13 e13
      rw [e12, e13, l_add]
      have ih := m_sum1_lp (Q := Q) hv hq n (k + 1) x' (h.pM hF') (hF.tr hF') (by omega) (by omega)
      unfold hsm at ih
      rw [if_pos c] at ih
      exact ih
    · refine nt c ?_
      intro x9 e9
      subst e9
      have ih := m_sum1_lp (Q := Q) hv hq n (k + 1) x h hF (by omega) (by omega)
      unfold hsm at ih
      rw [if_neg c, Int.add_zero] at ih
      exact ih
theorem upf_id {α : Type} {f : Nat → α} {p : Nat} : upf f p (f p) = f := by
  funext q
  unfold upf
  split
  · rename_i e; rw [e]
  · rfl
theorem stQ_id (W : WW) (v : Nat) : stQ W v (W.2.1 v) = W := by
  unfold stQ
  rw [upf_id]
theorem stO_id (W : WW) (p : Nat) : stO W p (W.2.2.2.2.1 p) = W := by
  unfold stO
  rw [upf_id]
theorem m_qua1 {T : TT} {W : WW} {v : Nat} {m : fz_s} (h : MM T W m) (hv : v < 2) {A : fz_s → Prop} {K : Int32 → fz_s → Prop} (hA : ∀ m', K (nI (v + 1)) m' → A m') (hq : ∀ m', MM T (stQ W v (nq T W v)) m' → Fr pN m m' → (∀ j, m'.1 235 j = m.1 235 j) → K (nI (v + 1)) m') : wp_X12_isTold 3 m (fun r2 s3 => ((r2 = false → ∀ x4 : Int32, x4 = nI v + 1 → K x4 s3) ∧ (r2 = true → wp_X12_codesTell 3 0 (nI v) s3 (fun r5 s6 => wp_X12_cut r5 99 s6 (fun r7 s8 => vp_in (2 + (2 * nI v)) 150 ∧ ∀ s9 : fz_s, s9 = si s8 232 (2 + (2 * nI v)).toNatClampNeg r7 → ∀ x10 : Int32, x10 = nI v + 1 → K x10 s9))))) := by
  have hb := (rv_dn (p := 0) h.1 (show 3 < 5 by omega) (env_bd3 h.1 h.2.1 hv)).1
  unfold bd at hb
  have hh := h.2.1.2.1 v hv
  rw [show (3 : Int32) = nI 3 from rfl, show nI v + 1 = nI (v + 1) from nI_1 v]
  refine m_rule (p := 0) (v := v) (r := 3) h (by omega) hv (Or.inr rfl) (fun e => ⟨fun _ => ?_, fun q => (by cases q)⟩) (fun t => ⟨fun q => (by cases q), fun _ => ?_⟩)
  · intro x4 e4
    subst e4
    unfold dfl at e
    rw [if_neg (by decide), if_neg (by decide), if_neg (by decide), if_pos rfl, env_1, clip_id (by unfold bd; omega)] at e
    have : nq T W v = W.2.1 v := by
      unfold nq cut0
      rw [e, if_neg (by omega), if_neg (by omega)]
      omega
    rw [this, stQ_id] at hq
    exact hq m h Fr.rf (fun _ => rfl)
  · refine t (fun m' hF => m_cut (hi := 99) (by omega) ⟨by omega, by omega⟩ ?_)
    simp (disch := omega) only [show (2 : Int32) + 2 * nI v = nI (2 + 2 * v) by rw [show (2 : Int32) * nI v = nI (2 * v) from N_mul 2 v]; exact N_add 2 _, N_in, N_cl, true_and]
    intro s9 e9 x10 e10
    subst e9
    subst e10
    exact hq _ ((h.pM hF).q (cut0_le _ _) hv) ((pM_pN hF).si (pN_t (by omega))) (fun j => (g_ne (by omega)).trans (hF.i _ _ (pM_f (by omega))))
theorem m_summer {T : TT} {W : WW} {m : fz_s} (h : MM T W m) {Q : fz_s → Prop} (hq : ∀ m', MM T (sumW T W) m' → Fr pN m m' → Q m') : wp_X12_summer m Q := by
  have hn := h.1.1
  have hset : ∀ {m' : fz_s} {v : Nat} {z : Int32}, MM T W m' → MM T W (si m' 235 v z) := fun h' => h'.cong (g_ne (by omega)) (fun a ha j => g_ne (by omega)) (fun j _ => g_ne (by omega))
  unfold wp_X12_summer
  show nd_X12_summer_2 (lp_X12_summer_2 Q 2047) Q (nI 0) m
  unfold nd_X12_summer_2
  refine bf (by simp (disch := omega) only [N_lit, N_add, N_mul, N_sub, N_addneg, N_neg1, N_addm, N_le, N_lt, N_eq, N_in, N_cl, N_ne, N_ne', N_ltm, N_mlt, N_lem] <;> omega) (m_sum1_lp (T := T) (W := W) (v := 0) (by omega) (x0 := m) (fun x1 hF1 => ?_) 2048 0 m h Fr.rf (by omega) (by omega))
  have h1 := hset (v := 0) (z := nI (nh T W 0)) (h.pM hF1)
  show nd_X12_summer_2 (lp_X12_summer_2 Q 2046) Q (nI 1) _
  unfold nd_X12_summer_2
  refine bf (by simp (disch := omega) only [N_lit, N_add, N_mul, N_sub, N_addneg, N_neg1, N_addm, N_le, N_lt, N_eq, N_in, N_cl, N_ne, N_ne', N_ltm, N_mlt, N_lem] <;> omega) (m_sum1_lp (T := T) (W := W) (v := 1) (by omega) (x0 := si x1 235 0 (nI (nh T W 0))) (fun x2 hF2 => ?_) 2048 0 _ h1 Fr.rf (by omega) (by omega))
  have h2 := hset (v := 1) (z := nI (nh T W 1)) (h1.pM hF2)
  show nd_X12_summer_2 (lp_X12_summer_2 Q 2045) Q (nI 2) _
  unfold nd_X12_summer_2
  refine bt (by simp (disch := omega) only [N_lit, N_add, N_mul, N_sub, N_addneg, N_neg1, N_addm, N_le, N_lt, N_eq, N_in, N_cl, N_ne, N_ne', N_ltm, N_mlt, N_lem] <;> omega) ?_
  have r0 : (si x2 235 1 (nI (nh T W 1))).1 235 0 = nI (nh T W 0) := by
    rw [g_nj (by omega), hF2.i _ _ (pM_f (by omega))]
    exact g_eq
  have r1 : (si x2 235 1 (nI (nh T W 1))).1 235 1 = nI (nh T W 1) := g_eq
  have hF : Fr pN m (si x2 235 1 (nI (nh T W 1))) := (((pM_pN hF1).si (pN_t (by omega))).tr (pM_pN hF2)).si (pN_t (by omega))
  generalize si x2 235 1 (nI (nh T W 1)) = y at h2 r0 r1 hF ⊢
  show nd_X12_summer_80 (lp_X12_summer_80 Q 2047) Q (nI 0) y
  unfold nd_X12_summer_80
  refine bf (by simp (disch := omega) only [N_lit, N_add, N_mul, N_sub, N_addneg, N_neg1, N_addm, N_le, N_lt, N_eq, N_in, N_cl, N_ne, N_ne', N_ltm, N_mlt, N_lem] <;> omega) ⟨N_in ⟨by omega, by omega⟩, ?_⟩
  simp (disch := omega) only [show (1 : Int32) + 2 * nI 0 = nI (1 + 2 * 0) from rfl, N_in, N_cl, true_and, r0]
  intro s1 e1
  have h3 : MM T (stH W 0 (nh T W 0)) s1 := by
    rw [e1]
    exact h2.h (cut0_le _ _) (by omega)
  have hF3 : Fr pN m s1 := by
    rw [e1]
    exact hF.si (pN_t (by omega))
  have r13 : s1.1 235 1 = nI (nh T W 1) := by
    rw [e1, g_ne (by omega)]
    exact r1
  refine m_qua1 (v := 0) h3 (by omega) (A := fun _ => True) (fun _ _ => trivial) (fun y4 h4 hF4 r4 => ?_)
  show nd_X12_summer_80 (lp_X12_summer_80 Q 2046) Q (nI 1) y4
  unfold nd_X12_summer_80
  refine bf (by simp (disch := omega) only [N_lit, N_add, N_mul, N_sub, N_addneg, N_neg1, N_addm, N_le, N_lt, N_eq, N_in, N_cl, N_ne, N_ne', N_ltm, N_mlt, N_lem] <;> omega) ⟨N_in ⟨by omega, by omega⟩, ?_⟩
  simp (disch := omega) only [show (1 : Int32) + 2 * nI 1 = nI (1 + 2 * 1) from rfl, N_in, N_cl, true_and, r4, r13]
  intro s5 e5
  have h5 : MM T (stH (stQ (stH W 0 (nh T W 0)) 0 (nq T (stH W 0 (nh T W 0)) 0)) 1 (nh T W 1)) s5 := by
    rw [e5]
    exact h4.h (cut0_le _ _) (by omega)
  have hF5 : Fr pN m s5 := by
    rw [e5]
    exact (hF3.tr hF4).si (pN_t (by omega))
  refine m_qua1 (v := 1) h5 (by omega) (A := fun _ => True) (fun _ _ => trivial) (fun y6 h6 hF6 r6 => ?_)
  show nd_X12_summer_80 (lp_X12_summer_80 Q 2045) Q (nI 2) y6
  unfold nd_X12_summer_80
  refine bt (by simp (disch := omega) only [N_lit, N_add, N_mul, N_sub, N_addneg, N_neg1, N_addm, N_le, N_lt, N_eq, N_in, N_cl, N_ne, N_ne', N_ltm, N_mlt, N_lem] <;> omega) (hq y6 ?_ (hF5.tr hF6))
  have hH := (h.2.1.har)
  have q0 : nq T (stH W 0 (nh T W 0)) 0 = nq T (harW T W) 0 := nq_cg h.1 hH (by omega) rfl rfl rfl
  have q1 : nq T (stH (stQ (stH W 0 (nh T W 0)) 0 (nq T (stH W 0 (nh T W 0)) 0)) 1 (nh T W 1)) 1 = nq T (harW T W) 1 := nq_cg h.1 hH (by omega) rfl (show upf W.2.1 0 (nq T (stH W 0 (nh T W 0)) 0) 1 = W.2.1 1 from upf_ne (by omega)) rfl
  rw [q1, q0] at h6
  exact h6
theorem m_cross1 {T : TT} {W : WW} {p : Nat} {m : fz_s} (h : MM T W m) (hp : p < T.1) (ha : W.2.2.2.1 p = false) {Q : fz_s → Prop} (hq : ∀ m', MM T (crs W p) m' → Fr pN m m' → Q m') : wp_X12_goesAway (nI p) m Q := by
  have hn := h.1.1
  have hz := h.c (p := p)
  rw [ha] at hz
  unfold wp_X12_goesAway
  simp (disch := omega) only [show (6 : Int32) + 3 * nI p = nI (6 + 3 * p) by rw [show (3 : Int32) * nI p = nI (3 * p) from N_mul 3 p]; exact N_add 6 _, show (7 : Int32) + 3 * nI p = nI (7 + 3 * p) by rw [show (3 : Int32) * nI p = nI (3 * p) from N_mul 3 p]; exact N_add 7 _, N_in, N_cl, true_and]
  intro s1 e1 s2 e2
  subst e1
  subst e2
  exact hq _ hz ((Fr.rf.si (pN_t (by omega))).si (pN_t (by omega)))
theorem m_cross0 {T : TT} {W : WW} {p : Nat} {m : fz_s} (h : MM T W m) (hp : p < T.1) (ha : W.2.2.2.1 p = true) {Q : fz_s → Prop} (hq : ∀ m', MM T (crs W p) m' → Fr pN m m' → Q m') : wp_X12_comesHome (nI p) m Q := by
  have hn := h.1.1
  have hz := h.c (p := p)
  rw [ha] at hz
  unfold wp_X12_comesHome
  simp (disch := omega) only [show (6 : Int32) + 3 * nI p = nI (6 + 3 * p) by rw [show (3 : Int32) * nI p = nI (3 * p) from N_mul 3 p]; exact N_add 6 _, show (7 : Int32) + 3 * nI p = nI (7 + 3 * p) by rw [show (3 : Int32) * nI p = nI (3 * p) from N_mul 3 p]; exact N_add 7 _, N_in, N_cl, true_and]
  intro s1 e1 s2 e2
  subst e1
  subst e2
  exact hq _ hz ((Fr.rf.si (pN_t (by omega))).si (pN_t (by omega)))
theorem m_autumn_lp {T : TT} {W : WW} {x0 : fz_s} {Q : fz_s → Prop} (hq : ∀ x', MM T (autW T W) x' → Fr pN x0 x' → Q x') : ∀ (n k : Nat) (x : fz_s), MM T (autS T W k) x → Fr pN x0 x → k ≤ T.1 → T.1 < n + k → lp_X12_autumn_2 Q n (nI k) x
  | 0, k, x, _, _, h1, h2 => absurd h2 (by omega)
  | n + 1, k, x, h, hF, h1, h2 => by
    have hn := h.1.1
    have e1 : nI k + 1 = nI (k + 1) := nI_1 k
    show nd_X12_autumn_2 (lp_X12_autumn_2 Q n) Q (nI k) x
    unfold nd_X12_autumn_2 wp_X12_personMany
    rw [h.2.2.1.1, e1]
    by_cases hk : k = T.1
    · subst hk
      exact bt (by simp (disch := omega) only [N_lit, N_add, N_mul, N_sub, N_addneg, N_neg1, N_addm, N_le, N_lt, N_eq, N_in, N_cl, N_ne, N_ne', N_ltm, N_mlt, N_lem] <;> omega) (hq x h hF)
    have hk2 : k < T.1 := by omega
    have ih := m_autumn_lp hq n (k + 1)
    refine bf (by simp (disch := omega) only [N_lit, N_add, N_mul, N_sub, N_addneg, N_neg1, N_addm, N_le, N_lt, N_eq, N_in, N_cl, N_ne, N_ne', N_ltm, N_mlt, N_lem] <;> omega) (m_isAway h hk2 ⟨fun q => ?_, fun q => ?_⟩)
    · refine m_stay h hk2 (fun x' hF' => ?_)
      have h' := h.pM hF'
      have ho := h.2.1.2.2.2.1 k hk2
      refine ⟨fun z => ?_, fun z => ?_⟩
      · have z' := of_decide_eq_true z
        refine m_awayOf h' hk2 ?_
        have en : autS T W (k + 1) = stO (autS T W k) k (if (autS T W k).2.2.2.2.1 k < 99 then (autS T W k).2.2.2.2.1 k + 1 else 99) := by
          rw [autS_s, if_pos q, if_neg z']
        by_cases c : (autS T W k).2.2.2.2.1 k < 99
        · rw [if_pos c] at en
          refine bf (by simp (disch := omega) only [N_lit, N_add, N_mul, N_sub, N_addneg, N_neg1, N_addm, N_le, N_lt, N_eq, N_in, N_cl, N_ne, N_ne', N_ltm, N_mlt, N_lem] <;> omega) ?_
          simp (disch := omega) only [show (7 : Int32) + 3 * nI k = nI (7 + 3 * k) by rw [show (3 : Int32) * nI k = nI (3 * k) from N_mul 3 k]; exact N_add 7 _, N_in, N_cl, true_and, h'.2.2.2.2.2.2.2.1 k hk2]
          intro s10 e10 x11 e11
          rw [nI_1] at e10
          subst e10
          subst e11
          refine ih _ ?_ ((hF.tr (pM_pN hF')).si (pN_t (by omega))) (by omega) (by omega)
          rw [en]
          exact h'.o (by omega)
        · rw [if_neg c] at en
          refine bt (by simp (disch := omega) only [N_lit, N_add, N_mul, N_sub, N_addneg, N_neg1, N_addm, N_le, N_lt, N_eq, N_in, N_cl, N_ne, N_ne', N_ltm, N_mlt, N_lem] <;> omega) ?_
          intro x9 e9
          subst e9
          refine ih x' ?_ (hF.tr (pM_pN hF')) (by omega) (by omega)
          rw [en, show (99 : Nat) = (autS T W k).2.2.2.2.1 k by omega, stO_id]
          exact h'
      · have z' : rv T (autS T W k) 4 k (lv T (autS T W k) k) = 0 := Decidable.byContradiction (of_decide_eq_false z)
        refine m_cross0 h' hk2 q (fun x2 h2' hF2 => ?_)
        intro x14 e14
        subst e14
        refine ih x2 ?_ (hF.tr ((pM_pN hF').tr hF2)) (by omega) (by omega)
        rw [autS_s, if_pos q, if_pos z']
        exact h2'
    · intro x15 e15
      subst e15
      refine ih x ?_ hF (by omega) (by omega)
      rw [autS_s, if_neg (by rw [q]; decide)]
      exact h
theorem m_autumn {T : TT} {W : WW} {x : fz_s} (h : MM T W x) {Q : fz_s → Prop} (hq : ∀ x', MM T (autW T W) x' → Fr pN x x' → Q x') : wp_X12_autumn x Q := m_autumn_lp hq 2048 0 x h Fr.rf (by omega) (by have := h.1.1; omega)
/-- the year ahead of its end -/
def yaW (T : TT) (W : WW) (a b : Int) (snow : Bool) : WW := if snow = true then sumW T (goW W a b) else autW T (sumW T (goW W a b))
theorem ya_yr {T : TT} {W : WW} {a b : Int} {s : Bool} : (yaW T W a b s).2.2.2.2.2 = W.2.2.2.2.2 := by
  unfold yaW
  cases s with
  | true => exact go_yr
  | false => exact (au_yr _).trans go_yr
/-- a pair that may be sent, or none -/
def PRok (T : TT) (W : WW) (a b : Int) : Prop := (a = -1 ∧ b = -1) ∨ (0 ≤ a ∧ a < T.1 ∧ 0 ≤ b ∧ b < T.1 ∧ own T W 0 a.toNat = true ∧ own T W 1 b.toNat = true)
theorem m_year15 {T : TT} {W V : WW} {a b : Int} {sn : Bool} {m0 m : fz_s} (h : MM T V m) (hV : V = goW W a b) (hF : Fr pN m0 m) {Q : fz_s → Prop} (hq : ∀ m', MM T (yaW T W a b sn) m' → Fr pN m0 m' → nd_X12_yearWith_27 Q (iI a) (iI b) m') : nd_X12_yearWith_15 Q (iI a) (iI b) sn m := by
  subst hV
  unfold nd_X12_yearWith_15
  refine m_summer h (fun m1 h1 hF1 => ⟨fun q => ?_, fun q => ?_⟩)
  · refine hq m1 ?_ (hF.tr hF1)
    unfold yaW
    rw [if_pos q]
    exact h1
  · refine m_autumn h1 (fun m2 h2 hF2 => hq m2 ?_ ((hF.tr hF1).tr hF2))
    unfold yaW
    rw [if_neg (by rw [q]; decide)]
    exact h2
theorem m_yearPre {T : TT} {W : WW} {a b : Int} {sn : Bool} {m : fz_s} (h : MM T W m) (hp : PRok T W a b) {Q : fz_s → Prop} (hq : ∀ m', MM T (yaW T W a b sn) m' → Fr pN m m' → nd_X12_yearWith_27 Q (iI a) (iI b) m') : wp_X12_yearWith (iI a) (iI b) sn m Q := by
  have hn := h.1.1
  unfold wp_X12_yearWith
  rcases hp with ⟨rfl, rfl⟩ | ⟨a1, a2, b1, b2, oa, ob⟩
  · refine bt rfl (m_year15 h ?_ Fr.rf hq)
    unfold goW
    rw [if_pos rfl]
  · have e2 : (iI a = -1) ↔ a = -1 := i_eq (b := -1) ⟨⟨by omega, by omega⟩, by omega, by omega⟩
    refine bf (fun q => by have := e2.mp q; omega) ?_
    have ea : iI a = nI a.toNat := by rw [i_nI, show ((a.toNat : Nat) : Int) = a by omega]
    have eb : iI b = nI b.toNat := by rw [i_nI, show ((b.toNat : Nat) : Int) = b by omega]
    have oa' := own_eq oa
    have ob' := own_eq ob
    have hne : b.toNat ≠ a.toNat := fun q => by
      have h1 := oa'.1
      have h2 := ob'.1
      rw [q] at h2
      omega
    have key : wp_X12_goesAway (nI a.toNat) m (fun s2 => wp_X12_goesAway (nI b.toNat) s2 (fun s4 => nd_X12_yearWith_15 Q (iI a) (iI b) sn s4)) := by
      refine m_cross1 h (by omega) oa'.2.1 (fun m1 h1 hF1 => m_cross1 h1 (by omega) ?_ (fun m2 h2 hF2 => ?_))
      · show upf W.2.2.2.1 a.toNat _ b.toNat = false
        rw [upf_ne hne]
        exact ob'.2.1
      · refine m_year15 h2 ?_ (hF1.tr hF2) hq
        unfold goW
        rw [if_neg (by omega)]
    rw [← ea, ← eb] at key
    exact key
theorem ye_ya (T : TT) (W : WW) (a b : Int) (s : Bool) : yeW T W a b s = tuW (yaW T W a b s) := rfl
/-- in thought: nothing is kept -/
theorem m_yearT {T : TT} {W : WW} {a b : Int} {sn : Bool} {m : fz_s} (h : MM T W m) (hy : W.2.2.2.2.2 < 2000) (hp : PRok T W a b) (ht : m.1 196 58 = nI 1) {Q : fz_s → Prop} (hq : ∀ m', MM T (yeW T W a b sn) m' → Fr pN m m' → Q m') : wp_X12_yearWith (iI a) (iI b) sn m Q := by
  refine m_yearPre h hp (fun m1 h1 hF1 => ?_)
  unfold nd_X12_yearWith_27 wp_X12_isKept
  rw [hF1.i _ _ (pN_f (by omega)), ht]
  refine bf (by simp (disch := omega) only [N_lit, N_add, N_mul, N_sub, N_addneg, N_neg1, N_addm, N_le, N_lt, N_eq, N_in, N_cl, N_ne, N_ne', N_ltm, N_mlt, N_lem] <;> omega) ?_
  intro s3 e3
  rw [show m1.1 232 (0 : Int32).toNatClampNeg = nI (yaW T W a b sn).2.2.2.2.2 from h1.2.2.2.2.2.2.2.2, nI_1] at e3
  subst e3
  refine hq _ ?_ (hF1.si (pN_t (Or.inr (Or.inr (Or.inr ⟨rfl, by decide⟩)))))
  rw [ye_ya]
  exact h1.y (by rw [ya_yr]; omega)
def kc (n : Nat) : Nat := if n < 40 then n else 40
def KPr (kf : Nat → Nat × Int × Int) (kn : Nat) (f : Nat → Int32) : Prop := f 29 = nI (kc kn) ∧ ∀ k, k < kc kn → f (30 + 3 * k) = nI (kf (kn - kc kn + k)).1 ∧ f (31 + 3 * k) = iI (kf (kn - kc kn + k)).2.1 ∧ f (32 + 3 * k) = iI (kf (kn - kc kn + k)).2.2
def KP (kf : Nat → Nat × Int × Int) (kn : Nat) (m : fz_s) : Prop := KPr kf kn (m.1 232)
theorem kc_le (n : Nat) : kc n ≤ n ∧ kc n ≤ 40 := by
  unfold kc
  split <;> omega
theorem KPr.cong {kf : Nat → Nat × Int × Int} {kn : Nat} {f g : Nat → Int32} (h : KPr kf kn f) (h2 : ∀ j, 29 ≤ j → j < 150 → g j = f j) : KPr kf kn g := by
  have := kc_le kn
  exact ⟨(h2 29 (by omega) (by omega)).trans h.1, fun k hk => ⟨(h2 _ (by omega) (by omega)).trans (h.2 k hk).1, (h2 _ (by omega) (by omega)).trans (h.2 k hk).2.1, (h2 _ (by omega) (by omega)).trans (h.2 k hk).2.2⟩⟩
theorem KP.cong {kf : Nat → Nat × Int × Int} {kn : Nat} {m m' : fz_s} (h : KP kf kn m) (h2 : ∀ j, 29 ≤ j → m'.1 232 j = m.1 232 j) : KP kf kn m' := KPr.cong h (fun j hj _ => h2 j hj)
def pS (a j : Nat) : Bool := decide (a = 232 ∧ 29 ≤ j)
theorem pS_t {a j : Nat} (h : a = 232 ∧ 29 ≤ j) : pS a j = true := decide_eq_true h
theorem pS_f {a j : Nat} (h : ¬ (a = 232 ∧ 29 ≤ j)) : pS a j = false := decide_eq_false h
theorem m_kept64 {kf : Nat → Nat × Int × Int} {kn y : Nat} {a b : Int} {m0 m : fz_s} (hF : Fr pS m0 m) (h0 : m.1 232 0 = nI y) (h29 : m.1 232 29 = nI (kc (kn + 1))) (hk : ∀ k, k + 1 < kc (kn + 1) → m.1 232 (30 + 3 * k) = nI (kf (kn + 1 - kc (kn + 1) + k)).1 ∧ m.1 232 (31 + 3 * k) = iI (kf (kn + 1 - kc (kn + 1) + k)).2.1 ∧ m.1 232 (32 + 3 * k) = iI (kf (kn + 1 - kc (kn + 1) + k)).2.2) {Q : fz_s → Prop} (hq : ∀ m', Fr pS m0 m' → KP (upf kf kn (y, a, b)) (kn + 1) m' → Q m') : nd_X12_isKept_64 Q (iI a) (iI b) m := by
  have hc := kc_le (kn + 1)
  have hc1 : 1 ≤ kc (kn + 1) := by unfold kc; split <;> omega
  unfold nd_X12_isKept_64
  intro x1 e1
  rw [show m.1 232 (29 : Int32).toNatClampNeg = nI (kc (kn + 1)) from h29, show (30 : Int32) + 3 * nI (kc (kn + 1)) - 3 = nI (30 + 3 * kc (kn + 1) - 3) by rw [show (3 : Int32) * nI (kc (kn + 1)) = nI (3 * kc (kn + 1)) from N_mul 3 _, show (30 : Int32) + nI (3 * kc (kn + 1)) = nI (30 + 3 * kc (kn + 1)) from N_add 30 _]; exact N_sub (b := 3) (by omega)] at e1
  subst e1
  rw [show nI (30 + 3 * kc (kn + 1) - 3) + 1 = nI (30 + 3 * kc (kn + 1) - 3 + 1) from nI_1 _, show nI (30 + 3 * kc (kn + 1) - 3) + 2 = nI (30 + 3 * kc (kn + 1) - 3 + 2) from N_add _ 2, N_cl (by omega), N_cl (by omega), N_cl (by omega)]
  refine ⟨N_in ⟨by omega, by omega⟩, fun s2 e2 => ⟨N_in ⟨by omega, by omega⟩, fun s3 e3 => ⟨N_in ⟨by omega, by omega⟩, fun s4 e4 => ?_⟩⟩⟩
  rw [show m.1 232 (0 : Int32).toNatClampNeg = nI y from h0] at e2
  subst e2
  subst e3
  subst e4
  refine hq _ (((hF.si (pS_t (by omega))).si (pS_t (by omega))).si (pS_t (by omega))) ⟨?_, fun k hk' => ?_⟩
  · rw [g_nj (by omega), g_nj (by omega), g_nj (by omega)]
    exact h29
  · by_cases c : k + 1 = kc (kn + 1)
    · rw [show kn + 1 - kc (kn + 1) + k = kn by omega, upf_eq, show 30 + 3 * k = 30 + 3 * kc (kn + 1) - 3 by omega, show 31 + 3 * k = 30 + 3 * kc (kn + 1) - 3 + 1 by omega, show 32 + 3 * k = 30 + 3 * kc (kn + 1) - 3 + 2 by omega]
      refine ⟨?_, ?_, ?_⟩
      · rw [g_nj (by omega), g_nj (by omega), g_eq]
      · rw [g_nj (by omega), g_eq]
      · rw [g_eq]
    · rw [upf_ne (by omega)]
      have := hk k (by omega)
      refine ⟨?_, ?_, ?_⟩
      · rw [g_nj (by omega), g_nj (by omega), g_nj (by omega)]; exact this.1
      · rw [g_nj (by omega), g_nj (by omega), g_nj (by omega)]; exact this.2.1
      · rw [g_nj (by omega), g_nj (by omega), g_nj (by omega)]; exact this.2.2
theorem m_keptlp {a b : Int} {m : fz_s} {Q : fz_s → Prop} (hq : ∀ m', Fr pS m m' → (∀ j, 30 ≤ j → j < 147 → m'.1 232 j = m.1 232 (j + 3)) → m'.1 232 29 = m.1 232 29 → nd_X12_isKept_64 Q (iI a) (iI b) m') : ∀ (n k : Nat) (x : fz_s), Fr pS m x → (∀ j, 30 ≤ j → j < k → x.1 232 j = m.1 232 (j + 3)) → (∀ j, k ≤ j ∨ j = 29 → x.1 232 j = m.1 232 j) → 30 ≤ k → k ≤ 147 → 147 < n + k → lp_X12_isKept_23 Q n (iI a) (iI b) (nI k) x
  | 0, k, x, _, _, _, _, h1, h2 => absurd h2 (by omega)
  | n + 1, k, x, hF, hl, hr, h3, h1, h2 => by
    show nd_X12_isKept_23 (lp_X12_isKept_23 Q n) Q (iI a) (iI b) (nI k) x
    unfold nd_X12_isKept_23
    by_cases c : k = 147
    · subst c
      exact bt (by simp (disch := omega) only [N_lit, N_add, N_mul, N_sub, N_addneg, N_neg1, N_addm, N_le, N_lt, N_eq, N_in, N_cl, N_ne, N_ne', N_ltm, N_mlt, N_lem] <;> omega) (hq x hF hl (hr 29 (Or.inr rfl)))
    refine bf (by simp (disch := omega) only [N_lit, N_add, N_mul, N_sub, N_addneg, N_neg1, N_addm, N_le, N_lt, N_eq, N_in, N_cl, N_ne, N_ne', N_ltm, N_mlt, N_lem] <;> omega) ?_
    rw [show nI k + 3 = nI (k + 3) from N_add k 3, show nI k + 1 = nI (k + 1) from nI_1 k, N_cl (by omega), N_cl (by omega)]
    refine ⟨N_in ⟨by omega, by omega⟩, N_in ⟨by omega, by omega⟩, fun s1 e1 x2 e2 => ?_⟩
    subst e1
    subst e2
    refine m_keptlp hq n (k + 1) _ (hF.si (pS_t (by omega))) (fun j j1 j2 => ?_) (fun j j1 => ?_) (by omega) (by omega) (by omega)
    · by_cases c2 : j = k
      · subst c2
        rw [g_eq]
        exact hr _ (by omega)
      · rw [g_nj c2]
        exact hl j j1 (by omega)
    · rw [g_nj (by omega)]
      exact hr j (by omega)
theorem m_kept {kf : Nat → Nat × Int × Int} {kn y : Nat} {a b : Int} {m : fz_s} (h : KP kf kn m) (h0 : m.1 232 0 = nI y) (ht : m.1 196 58 = nI 0) {Q : fz_s → Prop} (hq : ∀ m', Fr pS m m' → KP (upf kf kn (y, a, b)) (kn + 1) m' → Q m') : wp_X12_isKept (iI a) (iI b) m Q := by
  have hc := kc_le kn
  unfold wp_X12_isKept
  rw [ht, show m.1 232 (29 : Int32).toNatClampNeg = nI (kc kn) from h.1]
  refine bt rfl ?_
  by_cases c : kn < 40
  · have e1 : kc kn = kn := if_pos c
    have e2 : kc (kn + 1) = kn + 1 := by unfold kc; split <;> omega
    refine nt (by simp (disch := omega) only [N_lit, N_add, N_mul, N_sub, N_addneg, N_neg1, N_addm, N_le, N_lt, N_eq, N_in, N_cl, N_ne, N_ne', N_ltm, N_mlt, N_lem] <;> omega) ?_
    intro s1 es
    rw [nI_1] at es
    subst es
    refine m_kept64 (kn := kn) (Fr.rf.si (pS_t ⟨rfl, by decide⟩)) ((g_nj (by decide)).trans h0) ?_ (fun k hk => ?_) hq
    · rw [e2, e1]
      exact g_eq
    · have := h.2 k (by omega)
      rw [e1, Nat.sub_self] at this
      rw [e2, Nat.sub_self]
      refine ⟨(g_nj ?_).trans this.1, (g_nj ?_).trans this.2.1, (g_nj ?_).trans this.2.2⟩
      · show 30 + 3 * k ≠ 29; omega
      · show 31 + 3 * k ≠ 29; omega
      · show 32 + 3 * k ≠ 29; omega
  · have e1 : kc kn = 40 := if_neg c
    have e2 : kc (kn + 1) = 40 := if_neg (by omega)
    refine nf (by rw [e1]; rfl) ?_
    refine m_keptlp (fun m1 hF1 hl h29 => ?_) 2048 30 m Fr.rf (fun j j1 j2 => by omega) (fun j _ => rfl) (by omega) (by omega) (by omega)
    refine m_kept64 (kn := kn) hF1 ((hF1.i _ _ (pS_f (by omega))).trans h0) ?_ (fun k hk => ?_) hq
    · rw [h29, e2, h.1, e1]
    · have := h.2 (k + 1) (by omega)
      rw [e1] at this
      rw [e2, hl _ (by omega) (by omega), hl _ (by omega) (by omega), hl _ (by omega) (by omega), show kn + 1 - 40 + k = kn - 40 + (k + 1) by omega]
      exact this
def pK (a j : Nat) : Bool := decide (a = 271 ∨ a = 235 ∨ (a = 196 ∧ (j = 107 ∨ j = 53 ∨ j = 56)) ∨ a = 232)
theorem pK_f {a j : Nat} (h : ¬ (a = 271 ∨ a = 235 ∨ (a = 196 ∧ (j = 107 ∨ j = 53 ∨ j = 56)) ∨ a = 232)) : pK a j = false := decide_eq_false h
theorem pN_pK {s s' : fz_s} (h : Fr pN s s') : Fr pK s s' := h.mono fun a j q => by
  have := of_decide_eq_false q
  exact pN_f (by omega)
theorem pS_pK {s s' : fz_s} (h : Fr pS s s') : Fr pK s s' := h.mono fun a j q => by
  have := of_decide_eq_false q
  exact pS_f (by omega)
/-- in earnest: the year is kept -/
theorem m_yearR {T : TT} {W : WW} {a b : Int} {sn : Bool} {m : fz_s} {kf : Nat → Nat × Int × Int} {kn : Nat} (h : MM T W m) (hk : KP kf kn m) (hy : W.2.2.2.2.2 < 2000) (hp : PRok T W a b) (ht : m.1 196 58 = nI 0) {Q : fz_s → Prop} (hq : ∀ m', MM T (yeW T W a b sn) m' → Fr pK m m' → KP (upf kf kn (W.2.2.2.2.2, a, b)) (kn + 1) m' → Q m') : wp_X12_yearWith (iI a) (iI b) sn m Q := by
  refine m_yearPre h hp (fun m1 h1 hF1 => ?_)
  unfold nd_X12_yearWith_27
  have h0 : m1.1 232 0 = nI W.2.2.2.2.2 := by
    rw [h1.2.2.2.2.2.2.2.2, ya_yr]
  refine m_kept (kn := kn) (hk.cong (fun j hj => hF1.i _ _ (pN_f (by omega)))) h0 ((hF1.i _ _ (pN_f (by omega))).trans ht) (fun m2 hF2 hk2 => ?_)
  intro s3 e3
  have h2 : MM T (yaW T W a b sn) m2 := h1.cong (hF2.i _ _ (pS_f (by omega))) (fun a ha j => hF2.i _ _ (pS_f (by omega))) (fun j hj => hF2.i _ _ (pS_f (by omega)))
  rw [show m2.1 232 (0 : Int32).toNatClampNeg = nI (yaW T W a b sn).2.2.2.2.2 from h2.2.2.2.2.2.2.2.2, nI_1] at e3
  subst e3
  refine hq _ ?_ (((pN_pK hF1).tr (pS_pK hF2)).si (decide_eq_true (Or.inr (Or.inr (Or.inr rfl))))) (hk2.cong (fun j hj => g_nj ?_))
  · rw [ye_ya]
    exact h2.y (by rw [ya_yr]; omega)
  · show j ≠ 0
    omega
theorem prs_ok (T : TT) (W : WW) : PRok T W (prs T W).1 (prs T W).2 := by
  unfold prs
  split
  · rename_i q
    unfold prO at q
    rw [Bool.and_eq_true] at q
    have p0 := passI_f q.1
    have p1 := passI_f q.2
    exact Or.inr ⟨p0.1, p0.2, p1.1, p1.2, (snt_r T W 0).2.2 (by omega), (snt_r T W 1).2.2 (by omega)⟩
  · exact Or.inl ⟨rfl, rfl⟩
/-- up to the year's pair -/
theorem m_goesPre {T : TT} {W : WW} {m : fz_s} (h : MM T W m) {Q : fz_s → Prop} (hq : ∀ m', MM T W m' → (∃ m1, Fr pM m m1 ∧ (m' = m1 ∧ prO T W = false ∨ m' = si m1 196 59 (m.1 196 59 + 1) ∧ prO T W = true)) → wp_X12_yearWith (iI (prs T W).1) (iI (prs T W).2) false m' Q) : wp_X12_yearGoes m Q := by
  have hn := h.1.1
  have r0 := snt_r T W 0
  have r1 := snt_r T W 1
  unfold wp_X12_yearGoes
  refine m_sent (v := 0) h (by omega) (fun m1 hF1 => m_sent (v := 1) (h.pM hF1) (by omega) (fun m2 hF2 => ?_))
  have hF2' := hF1.tr hF2
  have no : prO T W = false → ∀ m', Fr pM m m' → nd_X12_yearGoes_43 Q (iI (snt T W 0)) (iI (snt T W 1)) false m' := by
    intro ho m' hF'
    unfold nd_X12_yearGoes_43 nd_X12_yearGoes_58 nd_X12_yearGoes_68 nd_X12_yearGoes_77
    refine ⟨fun _ => ⟨fun _ => ⟨fun _ => ?_, fun q => (by cases q)⟩, fun q => (by cases q)⟩, fun q => (by cases q)⟩
    have ep : prs T W = (-1, -1) := by unfold prs; rw [if_neg (by rw [ho]; decide)]
    rw [ep] at hq
    exact hq m' (h.pM hF') ⟨m', hF', Or.inl ⟨rfl, ho⟩⟩
  have e0 : (iI (snt T W 0) = -1) ↔ snt T W 0 = -1 := i_eq (b := -1) ⟨⟨by omega, by omega⟩, by omega, by omega⟩
  have e1 : (iI (snt T W 1) = -1) ↔ snt T W 1 = -1 := i_eq (b := -1) ⟨⟨by omega, by omega⟩, by omega, by omega⟩
  rw [e0, e1]
  have pn : ∀ z : Int, z = -1 → passI T W z = false := fun z hz => by
    unfold passI
    rw [decide_eq_false (by omega)]
    rfl
  refine ⟨fun q => no (by unfold prO; rw [pn _ q]; rfl) m2 hF2', fun q => ⟨fun q1 => no (by unfold prO; rw [pn _ q1, Bool.and_false]) m2 hF2', fun q1 => ?_⟩⟩
  obtain ⟨a, ha⟩ : ∃ a : Nat, snt T W 0 = a := ⟨(snt T W 0).toNat, by omega⟩
  obtain ⟨b, hb⟩ : ∃ b : Nat, snt T W 1 = b := ⟨(snt T W 1).toNat, by omega⟩
  have ha' : a < T.1 := by omega
  have hb' : b < T.1 := by omega
  have k0 : passI T W (snt T W 0) = pass T W a := by rw [ha]; exact passI_n ha'
  have k1 : passI T W (snt T W 1) = pass T W b := by rw [hb]; exact passI_n hb'
  have go : wp_X12_doesPass (nI a) m2 (fun r5 s6 => ((r5 = false → nd_X12_yearGoes_43 Q (iI (snt T W 0)) (iI (snt T W 1)) false s6) ∧ (r5 = true → wp_X12_doesPass (nI b) s6 (fun r7 s8 => ((r7 = false → nd_X12_yearGoes_43 Q (iI (snt T W 0)) (iI (snt T W 1)) false s8) ∧ (r7 = true → nd_X12_yearGoes_43 Q (iI (snt T W 0)) (iI (snt T W 1)) true s8)))))) := by
    refine m_pass (h.pM hF2') ha' (fun m3 hF3 => ⟨fun z => no (by unfold prO; rw [k0, z]; rfl) m3 (hF2'.tr hF3), fun z => ?_⟩)
    have hF3' := hF2'.tr hF3
    refine m_pass (h.pM hF3') hb' (fun m4 hF4 => ⟨fun z2 => no (by unfold prO; rw [k1, z2, Bool.and_false]) m4 (hF3'.tr hF4), fun z2 => ?_⟩)
    have hF4' := hF3'.tr hF4
    have ho : prO T W = true := by unfold prO; rw [k0, k1, z, z2]; rfl
    have ep : prs T W = (snt T W 0, snt T W 1) := by unfold prs; rw [if_pos ho]
    rw [ep] at hq
    unfold nd_X12_yearGoes_43 nd_X12_yearGoes_58 nd_X12_yearGoes_68 nd_X12_yearGoes_77
    refine ⟨fun q => (by cases q), fun _ s1 es => ⟨fun q => (by cases q), fun _ => ⟨fun q => (by cases q), fun _ => ?_⟩⟩⟩
    rw [hF4'.i _ _ (pM_f (by omega))] at es
    subst es
    exact hq _ ((h.pM hF4').cong (g_nj (by omega)) (fun a ha j => g_ne (by omega)) (fun j _ => g_ne (by omega))) ⟨m4, hF4', Or.inr ⟨rfl, ho⟩⟩
  rw [i_nI a, i_nI b, ← ha, ← hb] at go
  exact go
def pG (a j : Nat) : Bool := decide (a = 271 ∨ a = 235 ∨ (a = 196 ∧ (j = 107 ∨ j = 53 ∨ j = 56 ∨ j = 59)) ∨ (a = 232 ∧ j < 29))
theorem pG_f {a j : Nat} (h : ¬ (a = 271 ∨ a = 235 ∨ (a = 196 ∧ (j = 107 ∨ j = 53 ∨ j = 56 ∨ j = 59)) ∨ (a = 232 ∧ j < 29))) : pG a j = false := decide_eq_false h
theorem pG_t {a j : Nat} (h : a = 271 ∨ a = 235 ∨ (a = 196 ∧ (j = 107 ∨ j = 53 ∨ j = 56 ∨ j = 59)) ∨ (a = 232 ∧ j < 29)) : pG a j = true := decide_eq_true h
theorem pN_pG {s s' : fz_s} (h : Fr pN s s') : Fr pG s s' := h.mono fun a j q => by
  have := of_decide_eq_false q
  exact pN_f (by omega)
theorem m_goesT {T : TT} {W : WW} {m : fz_s} (h : MM T W m) (hy : W.2.2.2.2.2 < 2000) (ht : m.1 196 58 = nI 1) {Q : fz_s → Prop} (hq : ∀ m', MM T (yrW T W) m' → Fr pG m m' → Q m') : wp_X12_yearGoes m Q := by
  refine m_goesPre h (fun m1 h1 hm => ?_)
  obtain ⟨m2, hF2, hm⟩ := hm
  have hF : Fr pG m m1 := by
    rcases hm with ⟨rfl, _⟩ | ⟨rfl, _⟩
    · exact pN_pG (pM_pN hF2)
    · exact (pN_pG (pM_pN hF2)).si (pG_t (by omega))
  have ht1 : m1.1 196 58 = nI 1 := by
    rcases hm with ⟨rfl, _⟩ | ⟨rfl, _⟩
    · exact (hF2.i _ _ (pM_f (by omega))).trans ht
    · exact (g_nj (by omega)).trans ((hF2.i _ _ (pM_f (by omega))).trans ht)
  exact m_yearT h1 hy (prs_ok T W) ht1 (fun m3 h3 hF3 => hq m3 h3 (hF.tr (pN_pG hF3)))
def pH (a j : Nat) : Bool := decide (a = 271 ∨ a = 235 ∨ (a = 196 ∧ (j = 107 ∨ j = 53 ∨ j = 56 ∨ j = 59)) ∨ a = 232)
theorem pH_f {a j : Nat} (h : ¬ (a = 271 ∨ a = 235 ∨ (a = 196 ∧ (j = 107 ∨ j = 53 ∨ j = 56 ∨ j = 59)) ∨ a = 232)) : pH a j = false := decide_eq_false h
theorem pG_pH {s s' : fz_s} (h : Fr pG s s') : Fr pH s s' := h.mono fun a j q => by
  have := of_decide_eq_false q
  exact pG_f (by omega)
theorem pK_pH {s s' : fz_s} (h : Fr pK s s') : Fr pH s s' := h.mono fun a j q => by
  have := of_decide_eq_false q
  exact pK_f (by omega)
theorem m_goesR {T : TT} {W : WW} {m : fz_s} {kf : Nat → Nat × Int × Int} {kn : Nat} (h : MM T W m) (hk : KP kf kn m) (hy : W.2.2.2.2.2 < 2000) (ht : m.1 196 58 = nI 0) {Q : fz_s → Prop} (hq : ∀ m', MM T (yrW T W) m' → Fr pH m m' → KP (upf kf kn (W.2.2.2.2.2, (prs T W).1, (prs T W).2)) (kn + 1) m' → m'.1 196 59 = m.1 196 59 + nI (b01 (prO T W)) → Q m') : wp_X12_yearGoes m Q := by
  refine m_goesPre h (fun m1 h1 hm => ?_)
  obtain ⟨m2, hF2, hm⟩ := hm
  have hF : Fr pG m m1 := by
    rcases hm with ⟨rfl, _⟩ | ⟨rfl, _⟩
    · exact pN_pG (pM_pN hF2)
    · exact (pN_pG (pM_pN hF2)).si (pG_t (by omega))
  have ht1 : m1.1 196 58 = nI 0 := by
    rcases hm with ⟨rfl, _⟩ | ⟨rfl, _⟩
    · exact (hF2.i _ _ (pM_f (by omega))).trans ht
    · exact (g_nj (by omega)).trans ((hF2.i _ _ (pM_f (by omega))).trans ht)
  have hx : m1.1 196 59 = m.1 196 59 + nI (b01 (prO T W)) := by
    rcases hm with ⟨rfl, ho⟩ | ⟨rfl, ho⟩
    · rw [ho, hF2.i _ _ (pM_f (by omega))]
      exact (Int32.add_zero _).symm
    · rw [ho]
      exact g_eq
  exact m_yearR h1 (hk.cong (fun j hj => hF.i _ _ (pG_f (by omega)))) hy (prs_ok T W) ht1 (fun m3 h3 hF3 hk3 => hq m3 h3 ((pG_pH hF).tr (pK_pH hF3)) hk3 ((hF3.i _ _ (pK_f (by omega))).trans hx))

/-! QUESTIONS: class and model alike -/
def pTk (a j : Nat) : Bool := decide (a = 196 ∧ (j = 108 ∨ j = 109))
theorem pTk_f {a j : Nat} (h : ¬ (a = 196 ∧ (j = 108 ∨ j = 109))) : pTk a j = false := decide_eq_false h
theorem pTk_t {a j : Nat} (h : a = 196 ∧ (j = 108 ∨ j = 109)) : pTk a j = true := decide_eq_true h
theorem t_90 {kd : Nat} (hk : kd ≤ 3) {v : Int64} {s : fz_s} {Q : fz_s → Prop} (hq : ∀ s1 : fz_s, s1 = si s 196 109 0 → Q s1) : nd_X12_qTakes_90 Q (nI kd) v s := bt (by simp (disch := omega) only [N_lit, N_add, N_mul, N_sub, N_addneg, N_neg1, N_addm, N_le, N_lt, N_eq, N_in, N_cl, N_ne, N_ne', N_ltm, N_mlt, N_lem] <;> omega) hq
theorem m_qTakes {kd p : Nat} {acc v : Int} {m : fz_s} (hk : kd ≤ 5) (hp : p < 8) (ha : -100000000 ≤ acc ∧ acc ≤ 100000000) (hv : bd v) (h3 : kd < 3 → v = 0 ∨ v = 1) (h108 : m.2.1 196 108 = lI acc) (h109 : m.1 196 109 = nI (if p = 0 then 1 else 0)) {Q : fz_s → Prop} (hq : ∀ m', m'.2.1 196 108 = lI (yst (26 + kd) p acc v) → m'.1 196 109 = nI 0 → Fr pTk m m' → Q m') : wp_X12_qTakes (nI kd) (lI v) (nI p) m Q := by
  unfold bd at hv
  have e1 : (lI v = 1) ↔ v = 1 := l_eq (b := 1) ⟨⟨by omega, by omega⟩, by omega, by omega⟩
  have em : (lI acc = -1) ↔ acc = -1 := by
    rw [show (-1 : Int64) = lI (-1) by decide +kernel]
    exact l_eq ⟨⟨by omega, by omega⟩, by omega, by omega⟩
  have e64 : (nI p).toInt64 = lI p := N_64 (by omega)
  -- all ends are of two kinds
  have keep : yst (26 + kd) p acc v = acc → ∀ s1 : fz_s, s1 = si m 196 109 0 → Q s1 := by
    intro e s1 es
    refine hq s1 ?_ ?_ ?_
    · rw [e, es]; exact h108
    · rw [es, g_eq]; rfl
    · rw [es]; exact Fr.rf.si (pTk_t (by omega))
  have put : ∀ z : Int, yst (26 + kd) p acc v = z → ∀ s0 : fz_s, s0 = sl m 196 108 (lI z) → ∀ s1 : fz_s, s1 = si s0 196 109 0 → Q s1 := by
    intro z e s0 e0 s1 es
    refine hq s1 ?_ ?_ ?_
    · rw [e, es, e0]; exact gl_eq
    · rw [es, g_eq]; rfl
    · rw [es, e0]; exact (Fr.rf.sl (pTk_t (by omega))).si (pTk_t (by omega))
  unfold wp_X12_qTakes
  rw [lg_cmp_eq, e1]
  rcases (show kd = 0 ∨ kd = 1 ∨ kd = 2 ∨ kd = 3 ∨ kd = 4 ∨ kd = 5 by omega) with rfl | rfl | rfl | rfl | rfl | rfl
  · refine bf (by decide +kernel) ?_
    have lo : ∀ (u : Bool) (s : fz_s), (∀ s1 : fz_s, s1 = si s 196 109 0 → Q s1) → nd_X12_qTakes_55 Q (nI 0) (lI v) u s := fun u s hq' => nt (by decide +kernel) (nt (by decide +kernel) (t_90 (by omega) hq'))
    have l38 : ∀ (u : Bool) (s : fz_s), (∀ s1 : fz_s, s1 = si s 196 109 0 → Q s1) → nd_X12_qTakes_38 Q (nI 0) (lI v) (nI p) u s := fun u s hq' => nt (by decide +kernel) (lo u s hq')
    by_cases c1 : v = 1
    · refine nf c1 ?_
      unfold nd_X12_qTakes_16
      refine nf rfl (b2 ?_)
      rw [h108, lg_cmp_eq, em, e64]
      by_cases c2 : acc = -1
      · exact bt c2 (fun s1 es1 => lo true s1 (put p (by unfold yst; rw [if_pos rfl, if_pos ⟨c2, by omega⟩]) s1 es1))
      · exact bf c2 (l38 true m (keep (by unfold yst; rw [if_pos rfl, if_neg (fun z => c2 z.1)])))
    · have c0 : v = 0 := by have := h3 (by omega); omega
      refine nt c1 ?_
      unfold nd_X12_qTakes_16
      exact nf rfl (b3 (l38 false m (keep (by unfold yst; rw [if_pos rfl, if_neg (fun z => z.2 c0)]))))
  · refine bf (by decide +kernel) ?_
    have lo : ∀ (u : Bool) (s : fz_s), (∀ s1 : fz_s, s1 = si s 196 109 0 → Q s1) → nd_X12_qTakes_55 Q (nI 1) (lI v) u s := fun u s hq' => nt (by decide +kernel) (nt (by decide +kernel) (t_90 (by omega) hq'))
    by_cases c1 : v = 1
    · refine nf c1 ?_
      unfold nd_X12_qTakes_16
      refine nt (by decide +kernel) ?_
      unfold nd_X12_qTakes_38
      refine nf rfl (b2 ?_)
      rw [e64]
      exact fun s1 es1 => lo true s1 (put p (by unfold yst; rw [if_neg (by omega), if_pos rfl, if_pos (by omega)]) s1 es1)
    · have c0 : v = 0 := by have := h3 (by omega); omega
      refine nt c1 ?_
      unfold nd_X12_qTakes_16
      refine nt (by decide +kernel) ?_
      unfold nd_X12_qTakes_38
      exact nf rfl (b3 (lo false m (keep (by unfold yst; rw [if_neg (by omega), if_pos rfl, if_neg (fun z => z c0)]))))
  · refine bf (by decide +kernel) ?_
    have lo : ∀ (s : fz_s), (∀ s1 : fz_s, s1 = si s 196 109 0 → Q s1) → nd_X12_qTakes_75 Q (nI 2) (lI v) s := fun s hq' => nt (by decide +kernel) (t_90 (by omega) hq')
    by_cases c1 : v = 1
    · refine nf c1 ?_
      unfold nd_X12_qTakes_16
      refine nt (by decide +kernel) ?_
      unfold nd_X12_qTakes_38
      refine nt (by decide +kernel) ?_
      unfold nd_X12_qTakes_55
      refine nf rfl (b2 ?_)
      rw [h108, show lI acc + 1 = lI (acc + 1) from l_add acc 1]
      exact fun s1 es1 => lo s1 (put (acc + 1) (by unfold yst; rw [if_neg (by omega), if_neg (by omega), if_pos (by omega), c1]) s1 es1)
    · have c0 : v = 0 := by have := h3 (by omega); omega
      refine nt c1 ?_
      unfold nd_X12_qTakes_16
      refine nt (by decide +kernel) ?_
      unfold nd_X12_qTakes_38
      refine nt (by decide +kernel) ?_
      unfold nd_X12_qTakes_55
      exact nf rfl (b3 (lo m (keep (by unfold yst; rw [if_neg (by omega), if_neg (by omega), if_pos (by omega)]; omega))))
  · refine bt (by decide +kernel) ?_
    unfold nd_X12_qTakes_16
    refine nt (by decide +kernel) ?_
    unfold nd_X12_qTakes_38
    refine nt (by decide +kernel) ?_
    unfold nd_X12_qTakes_55
    refine nt (by decide +kernel) ?_
    unfold nd_X12_qTakes_75
    refine nf rfl ?_
    rw [h108, l_add]
    exact fun s1 es1 => t_90 (by omega) (put (acc + v) (by unfold yst; rw [if_neg (by omega), if_neg (by omega), if_pos (by omega)]) s1 es1)
  · refine bt (by decide +kernel) ?_
    unfold nd_X12_qTakes_16
    refine nt (by decide +kernel) ?_
    unfold nd_X12_qTakes_38
    refine nt (by decide +kernel) ?_
    unfold nd_X12_qTakes_55
    refine nt (by decide +kernel) ?_
    unfold nd_X12_qTakes_75
    refine nt (by decide +kernel) ?_
    unfold nd_X12_qTakes_90
    refine bf (by decide +kernel) ?_
    rw [h109]
    by_cases c0 : p = 0
    · rw [if_pos c0]
      exact nt (by decide +kernel) (fun s1 es1 => put v (by unfold yst; rw [if_neg (by omega), if_neg (by omega), if_neg (by omega), if_pos rfl, if_pos c0]) s1 es1)
    · rw [if_neg c0]
      refine nf rfl (nf rfl ?_)
      rw [h108, lg_cmp_le, l_le ⟨⟨by omega, by omega⟩, by omega, by omega⟩]
      by_cases c2 : v ≤ acc
      · refine bt c2 (keep ?_)
        unfold yst
        rw [if_neg (by omega), if_neg (by omega), if_neg (by omega), if_pos rfl, if_neg c0]
        split <;> omega
      · exact bf c2 (fun s1 es1 => put v (by unfold yst; rw [if_neg (by omega), if_neg (by omega), if_neg (by omega), if_pos rfl, if_neg c0, if_neg (by omega)]) s1 es1)
  · refine bt (by decide +kernel) ?_
    unfold nd_X12_qTakes_16
    refine nt (by decide +kernel) ?_
    unfold nd_X12_qTakes_38
    refine nt (by decide +kernel) ?_
    unfold nd_X12_qTakes_55
    refine nt (by decide +kernel) ?_
    unfold nd_X12_qTakes_75
    refine nt (by decide +kernel) ?_
    unfold nd_X12_qTakes_90
    refine bf (by decide +kernel) ?_
    rw [h109]
    by_cases c0 : p = 0
    · rw [if_pos c0]
      exact nt (by decide +kernel) (fun s1 es1 => put v (by unfold yst; rw [if_neg (by omega), if_neg (by omega), if_neg (by omega), if_neg (by omega), if_pos c0]) s1 es1)
    · rw [if_neg c0]
      refine nf rfl (nt (by decide +kernel) ?_)
      rw [h108, lg_cmp_ge, l_le ⟨⟨by omega, by omega⟩, by omega, by omega⟩]
      by_cases c2 : acc ≤ v
      · refine bt c2 (keep ?_)
        unfold yst
        rw [if_neg (by omega), if_neg (by omega), if_neg (by omega), if_neg (by omega), if_neg c0, if_neg (by omega)]
      · exact bf c2 (fun s1 es1 => put v (by unfold yst; rw [if_neg (by omega), if_neg (by omega), if_neg (by omega), if_neg (by omega), if_neg c0, if_pos (by omega)]) s1 es1)
/-! over all people -/
def pQa (a j : Nat) : Bool := decide (a = 271 ∨ a = 234 ∨ (a = 196 ∧ (j = 107 ∨ j = 53 ∨ j = 56 ∨ j = 108 ∨ j = 109)))
theorem pQa_f {a j : Nat} (h : ¬ (a = 271 ∨ a = 234 ∨ (a = 196 ∧ (j = 107 ∨ j = 53 ∨ j = 56 ∨ j = 108 ∨ j = 109)))) : pQa a j = false := decide_eq_false h
theorem pQa_t {a j : Nat} (h : a = 271 ∨ a = 234 ∨ (a = 196 ∧ (j = 107 ∨ j = 53 ∨ j = 56 ∨ j = 108 ∨ j = 109))) : pQa a j = true := decide_eq_true h
theorem y_MQa {s s' : fz_s} (h : Fr pM s s') : Fr pQa s s' := h.mono fun a j q => by
  have := of_decide_eq_false q
  exact pM_f (by omega)
theorem y_PQa {s s' : fz_s} (h : Fr pP s s') : Fr pQa s s' := h.mono fun a j q => by
  have := of_decide_eq_false q
  exact pP_f (by omega)
theorem y_TQa {s s' : fz_s} (h : Fr pTk s s') : Fr pQa s s' := h.mono fun a j q => by
  have := of_decide_eq_false q
  exact pTk_f (by omega)
theorem MM.qa {T : TT} {W : WW} {m m' : fz_s} (h : MM T W m) (hF : Fr pQa m m') : MM T W m' := h.cong (hF.i _ _ (pQa_f (by omega))) (fun a ha j => hF.i _ _ (pQa_f (by omega))) (fun j _ => hF.i _ _ (pQa_f (by omega)))
theorem m_233 {T : TT} {W : WW} {l : List Nat} {ty : Bool} {f : (Nat → Int) → Int} {kd : Nat} (hk : kd ≤ 5) (hty : kd < 3 → ty = true) (hl : l.length ≤ 1600) (hD : Dn scQ ty l f) {m0 : fz_s} {Q : Int64 → fz_s → Prop} (hq : ∀ m', Fr pQa m0 m' → Q (lI (yan (26 + kd) (fun p => f (envQ T W p)) T.1)) m') : ∀ (n p : Nat) (m : fz_s), p ≤ T.1 → T.1 < n + p → (∀ p, p < T.1 → yQT T W p l m) → MM T W m → m.2.1 196 108 = lI (yan (26 + kd) (fun p => f (envQ T W p)) p) → m.1 196 109 = nI (if p = 0 then 1 else 0) → Fr pQa m0 m → lp_X12_ask_233 Q n (nI kd) (nI p) m
  | 0, p, m, h1, h2, _, _, _, _, _ => absurd h2 (by omega)
  | n + 1, p, m, h1, h2, hT, hM, h108, h109, hF => by
    have hn := hM.1.1
    have hqb : ∀ p, p < T.1 → bd (f (envQ T W p)) := fun p hp => (hD _ (fun k _ => envQ_bd hM.1 hM.2.1 hp k)).2.1
    show nd_X12_ask_233 (lp_X12_ask_233 Q n) Q (nI kd) (nI p) m
    unfold nd_X12_ask_233 wp_X12_personMany
    rw [hM.2.2.1.1]
    by_cases c : T.1 ≤ p
    · have hp : p = T.1 := by omega
      subst hp
      refine bt (by simp (disch := omega) only [N_lit, N_add, N_mul, N_sub, N_addneg, N_neg1, N_addm, N_le, N_lt, N_eq, N_in, N_cl, N_ne, N_ne', N_ltm, N_mlt, N_lem] <;> omega) ?_
      rw [h108]
      exact hq m hF
    refine bf (by simp (disch := omega) only [N_lit, N_add, N_mul, N_sub, N_addneg, N_neg1, N_addm, N_le, N_lt, N_eq, N_in, N_cl, N_ne, N_ne', N_ltm, N_mlt, N_lem] <;> omega) ?_
    have hab := yan_bd (vb := 26 + kd) (q := fun p => f (envQ T W p)) (n := T.1) hqb p (by omega) (by omega)
    refine m_qTold (hT p (by omega)) (by omega) hl hD (fun m1 F1 => ?_)
    refine m_qTakes hk (by omega) ⟨by omega, by omega⟩ (hqb p (by omega)) (fun z => (hD _ (fun k _ => envQ_bd hM.1 hM.2.1 (by omega) k)).2.2 (hty z)) ((F1.l _ _ (pP_f (by omega))).trans h108) ((F1.i _ _ (pP_f (by omega))).trans h109) (fun m2 g1 g2 F2 x7 e7 => ?_)
    rw [e7, nI_1]
    refine m_233 hk hty hl hD hq n (p + 1) m2 (by omega) (by omega) (fun p' hp' => ?_) (hM.qa ((y_PQa F1).tr (y_TQa F2))) g1 (by rw [g2, if_neg (by omega)]) (hF.tr ((y_PQa F1).tr (y_TQa F2)))
    obtain ⟨y1, y2, y3, y4, y5⟩ := (hT p' hp').pP F1
    exact ⟨y1.qa (y_TQa F2), (F2.i _ _ (pTk_f (by omega))).trans y2, (F2.i _ _ (pTk_f (by omega))).trans y3, y4.cong (fun k _ _ => F2.i _ _ (pTk_f (by omega))), fun v hv => (F2.l _ _ (pTk_f (by omega))).trans (y5 v hv)⟩
theorem m_193 {T : TT} {W : WW} {p : Nat} (hp : p < T.1) {kd : Nat} {m0 : fz_s} {K : Int32 → Int32 → fz_s → Prop} {Q : Int64 → fz_s → Prop} (hq : ∀ m', MM T W m' → (∀ v, v < 2 → m'.2.1 234 (2 * p + v) = lI (rv T W 2 p v)) → (∀ j, ¬ (2 * p ≤ j ∧ j < 2 * p + 2) → m'.2.1 234 j = m0.2.1 234 j) → (∀ a j, ¬ (a = 271 ∨ (a = 196 ∧ (j = 107 ∨ j = 53 ∨ j = 56))) → m'.1 a j = m0.1 a j) → m'.2.1 196 108 = m0.2.1 196 108 → Fr pQa m0 m' → K (nI kd) (nI (p + 1)) m') : ∀ (n v : Nat) (m : fz_s), v ≤ 2 → 2 < n + v → MM T W m → (∀ w, w < v → m.2.1 234 (2 * p + w) = lI (rv T W 2 p w)) → (∀ j, ¬ (2 * p ≤ j ∧ j < 2 * p + 2) → m.2.1 234 j = m0.2.1 234 j) → (∀ a j, ¬ (a = 271 ∨ (a = 196 ∧ (j = 107 ∨ j = 53 ∨ j = 56))) → m.1 a j = m0.1 a j) → m.2.1 196 108 = m0.2.1 196 108 → Fr pQa m0 m → lp_X12_ask_193 K Q n (nI kd) (nI p) (nI v) m
  | 0, v, m, h1, h2, _, _, _, _, _, _ => absurd h2 (by omega)
  | n + 1, v, m, h1, h2, hM, h3, h4, h5, h6, hF => by
    have hn := hM.1.1
    show nd_X12_ask_193 K (lp_X12_ask_193 K Q n) Q (nI kd) (nI p) (nI v) m
    unfold nd_X12_ask_193
    by_cases c : 2 ≤ v
    · have hv : v = 2 := by omega
      subst hv
      refine bt (by decide +kernel) (fun x1 e1 => ?_)
      rw [e1, nI_1]
      exact hq m hM h3 h4 h5 h6 hF
    refine bf (by simp (disch := omega) only [N_lit, N_add, N_mul, N_sub, N_addneg, N_neg1, N_addm, N_le, N_lt, N_eq, N_in, N_cl, N_ne, N_ne', N_ltm, N_mlt, N_lem] <;> omega) (m_does hM hp (by omega) (fun m1 F1 => ?_))
    rw [show (2 : Int32) * nI p = nI (2 * p) from N_mul 2 p, N_add]
    refine ⟨N_in ⟨by omega, by omega⟩, fun s4 e4 x5 e5 => ?_⟩
    rw [N_cl (by omega)] at e4
    rw [e5, nI_1]
    have F4 : Fr pQa m s4 := by rw [e4]; exact (y_MQa F1).sl (pQa_t (by omega))
    refine m_193 hp hq n (v + 1) s4 (by omega) (by omega) (hM.qa F4) (fun w hw => ?_) (fun j hj => ?_) (fun a j g => ?_) ?_ (hF.tr F4)
    · rw [e4]
      by_cases cw : w = v
      · rw [cw, gl_eq]
      · rw [gl_nj (by omega), F1.l _ _ (pM_f (by omega))]; exact h3 w (by omega)
    · rw [e4, gl_nj (by omega), F1.l _ _ (pM_f (by omega))]; exact h4 j hj
    · rw [e4]
      show m1.1 a j = _
      rw [F1.i _ _ (pM_f (by omega))]; exact h5 a j g
    · rw [e4, gl_ne (by omega), F1.l _ _ (pM_f (by omega))]; exact h6
theorem m_183 {T : TT} {W : WW} {l : List Nat} {ty : Bool} {f : (Nat → Int) → Int} {kd : Nat} (hk : kd ≤ 5) (hty : kd < 3 → ty = true) (hl : l.length ≤ 1600) (hD : Dn scQ ty l f) {m0 : fz_s} (h52 : m0.1 196 52 = nI 1) (h101 : m0.1 196 101 = nI l.length) (hS : Seg (m0.1 269) cM 0 l) (h108 : m0.2.1 196 108 = lI (yan (26 + kd) (fun p => f (envQ T W p)) 0)) (h109 : m0.1 196 109 = nI 1) {Q : Int64 → fz_s → Prop} (hq : ∀ m', Fr pQa m0 m' → Q (lI (yan (26 + kd) (fun p => f (envQ T W p)) T.1)) m') : ∀ (n p : Nat) (m : fz_s), p ≤ T.1 → T.1 < n + p → MM T W m → (∀ p', p' < p → ∀ v, v < 2 → m.2.1 234 (2 * p' + v) = lI (rv T W 2 p' v)) → (∀ a j, ¬ (a = 271 ∨ (a = 196 ∧ (j = 107 ∨ j = 53 ∨ j = 56))) → m.1 a j = m0.1 a j) → m.2.1 196 108 = m0.2.1 196 108 → Fr pQa m0 m → lp_X12_ask_183 Q n (nI kd) (nI p) m
  | 0, p, m, h1, h2, _, _, _, _, _ => absurd h2 (by omega)
  | n + 1, p, m, h1, h2, hM, h3, h4, h5, hF => by
    have hn := hM.1.1
    show nd_X12_ask_183 (lp_X12_ask_183 Q n) Q (nI kd) (nI p) m
    unfold nd_X12_ask_183 wp_X12_personMany
    rw [hM.2.2.1.1]
    by_cases c : T.1 ≤ p
    · have hp : p = T.1 := by omega
      subst hp
      refine bt (by simp (disch := omega) only [N_lit, N_add, N_mul, N_sub, N_addneg, N_neg1, N_addm, N_le, N_lt, N_eq, N_in, N_cl, N_ne, N_ne', N_ltm, N_mlt, N_lem] <;> omega) (fun s3 e3 => ?_)
      have F3 : Fr pQa m s3 := by rw [e3]; exact Fr.rf.si (pQa_t (by omega))
      have i3 : ∀ a j, ¬ (a = 271 ∨ (a = 196 ∧ (j = 107 ∨ j = 53 ∨ j = 56))) → s3.1 a j = m0.1 a j := fun a j g => by rw [e3, g_si, if_neg (by omega)]; exact h4 a j g
      have l3 : s3.2.1 = m.2.1 := by rw [e3]; rfl
      have M3 := hM.qa F3
      refine m_233 (T := T) (W := W) hk hty hl hD hq 2048 0 s3 (by omega) (by omega) (fun p' hp' => ⟨M3, (i3 _ _ (by omega)).trans h52, (i3 _ _ (by omega)).trans h101, hS.cong (fun k _ _ => i3 _ _ (by omega)), fun v hv => by rw [l3]; exact h3 p' hp' v hv⟩) M3 (by rw [l3, h5]; exact h108) (by rw [if_pos rfl]; exact (i3 _ _ (by omega)).trans h109) (hF.tr F3)
    refine bf (by simp (disch := omega) only [N_lit, N_add, N_mul, N_sub, N_addneg, N_neg1, N_addm, N_le, N_lt, N_eq, N_in, N_cl, N_ne, N_ne', N_ltm, N_mlt, N_lem] <;> omega) ?_
    refine m_193 (T := T) (W := W) (p := p) (by omega) (fun m1 g1 g2 g3 g4 g5 g6 => ?_) 2048 0 m (by omega) (by omega) hM (fun w hw => absurd hw (Nat.not_lt_zero _)) (fun _ _ => rfl) (fun _ _ _ => rfl) rfl Fr.rf
    refine m_183 hk hty hl hD h52 h101 hS h108 h109 hq n (p + 1) m1 (by omega) (by omega) g1 (fun p' hp' v hv => ?_) (fun a j g => (g4 a j g).trans (h4 a j g)) (g5.trans h5) (hF.tr g6)
    by_cases cp : p' = p
    · subst cp
      exact g2 v hv
    · rw [g3 _ (by omega)]; exact h3 p' (by omega) v hv
/-! the text -/
def yGQ (tp : Nat → Nat) (tn k b : Nat) (so : Bool) (t : yTok) (b' : Nat) (so' : Bool) (t' : yTok) (l : List Nat) : Prop := (k < 3 → yOKe tp tn 2 0 b so t b' so' t' l ∧ ¬ yWo t' 20 ∧ ¬ yWo t' 21) ∧ (¬ k < 3 → yOKs tp tn 2 0 b so t b' so' t' l ∧ yNop tp t')
def yGR (tp : Nat → Nat) (tn k b : Nat) (so : Bool) (t : yTok) (kd pl : Nat) : Prop := (k < 3 → yNOe tp tn 2 0 b so t kd pl) ∧ (¬ k < 3 → yNOs tp tn 2 0 b so t kd pl)
def sAsk (tp : Nat → Nat) (tn : Nat) (t : yTok) (K : Nat → List Nat → Prop) (F : Nat → Nat → Prop) : Prop := ((∀ k, k < 6 → ¬ yWo t (26 + k)) ∧ F 1 t.1) ∨ (∃ k, k < 6 ∧ yWo t (26 + k) ∧ ∃ t1, yTS tp tn t.2.1 true t1 ∧ ((∃ b' so' t' l, yTS tp tn b' so' t' ∧ (t.2.1 < b' ∧ l.length + t.2.1 ≤ b') ∧ yGQ tp tn k t.2.1 true t1 b' so' t' l ∧ ((t'.2.2.1 = 0 ∧ K k l) ∨ (t'.2.2.1 ≠ 0 ∧ F 1 t'.1))) ∨ (∃ kd pl, yGR tp tn k t.2.1 true t1 kd pl ∧ F kd pl)))
theorem m_kind {tp : Nat → Nat} {tn b : Nat} {so : Bool} {t : yTok} {a : Nat} {m : fz_s} (hP : yPM tp tn b so t a m) {Q : Int32 → fz_s → Prop} (hT : ∀ k, k < 6 → yWo t (26 + k) → ∀ m', yAd tp tn t.2.1 true m' → Fr pKt m m' → Q (nI k) m') (hN : (∀ k, k < 6 → ¬ yWo t (26 + k)) → ∀ m', yFM 1 t.1 m' → Fr pKt m m' → Q (nI 5) m') : wp_X12_qKind m Q := by
  have k76 : ∀ (k : Nat) (s : fz_s), k < 5 → Q (nI k) s → nd_X12_qKind_76 Q (nI k) s := fun k s hk h => nt (by simp (disch := omega) only [N_lit, N_add, N_mul, N_sub, N_addneg, N_neg1, N_addm, N_le, N_lt, N_eq, N_in, N_cl, N_ne, N_ne', N_ltm, N_mlt, N_lem] <;> omega) h
  unfold wp_X12_qKind
  refine y_takes hP 26 (by decide +kernel) (fun hw m1 h1 F1 => b2 (k76 0 m1 (by omega) (hT 0 (by omega) hw m1 h1 F1))) (fun n0 m1 P1 F1 => b3 ?_)
  refine y_takes P1 27 (by decide +kernel) (fun hw m2 h2 F2 => b2 (k76 1 m2 (by omega) (hT 1 (by omega) hw m2 h2 (F1.tr F2)))) (fun n1 m2 P2 F2 => b3 ?_)
  have F12 := F1.tr F2
  refine y_takes P2 28 (by decide +kernel) (fun hw m3 h3 F3 => b2 (k76 2 m3 (by omega) (hT 2 (by omega) hw m3 h3 (F12.tr F3)))) (fun n2 m3 P3 F3 => b3 ?_)
  have F13 := F12.tr F3
  refine y_takes P3 29 (by decide +kernel) (fun hw m4 h4 F4 => b2 (k76 3 m4 (by omega) (hT 3 (by omega) hw m4 h4 (F13.tr F4)))) (fun n3 m4 P4 F4 => b3 ?_)
  have F14 := F13.tr F4
  refine y_takes P4 30 (by decide +kernel) (fun hw m5 h5 F5 => b2 (k76 4 m5 (by omega) (hT 4 (by omega) hw m5 h5 (F14.tr F5)))) (fun n4 m5 P5 F5 => b3 ?_)
  have F15 := F14.tr F5
  unfold nd_X12_qKind_76
  refine nf rfl ?_
  refine y_asks P5 31 (by decide +kernel) (fun hw m6 h6 F6 => hT 5 (by omega) hw m6 h6 (F15.tr F6)) (fun n5 m6 q6 F6 => hN (fun k hk => ?_) m6 q6 (F15.tr F6))
  rcases (show k = 0 ∨ k = 1 ∨ k = 2 ∨ k = 3 ∨ k = 4 ∨ k = 5 by omega) with rfl | rfl | rfl | rfl | rfl | rfl
  · exact n0
  · exact n1
  · exact n2
  · exact n3
  · exact n4
  · exact n5
theorem b_109 {m : fz_s} (hb : ¬ m.1 196 5 = 0) {v : Int32} {Q : Int64 → fz_s → Prop} (hq : nd_X12_ask_133 Q v m) : nd_X12_ask_109 Q v m := nt hb hq
set_option maxHeartbeats 4000000 in
theorem m_askP {tp : Nat → Nat} {tn : Nat} {t0 : yTok} {K : Nat → List Nat → Prop} {F : Nat → Nat → Prop} (h : sAsk tp tn t0 K F) {m : fz_s} (hn : tn ≤ 1600) (hB : ∀ j, tp j < 256) (h1 : m.1 196 1 = nI tn) (ht : ∀ j, j < 1600 → m.1 197 j = nI (tp j)) (h10 : I10 m) (h52 : m.1 196 52 = nI 1) (hT0 : yTS tp tn 0 false t0) {Q : Int64 → fz_s → Prop} (hT : ∀ k l m', K k l → k < 6 → yQS [] 0 l 0 2 m' → m'.1 196 5 = 0 → m'.1 196 6 = -1 → Fr pD (si m 196 1 0) m' → nd_X12_ask_133 Q (nI k) m') (hN : ∀ kd pl k m', F kd pl → yFM kd pl m' → Fr pD (si m 196 1 0) m' → nd_X12_ask_133 Q (nI k) m') : wp_X12_ask m Q := by
  unfold wp_X12_ask
  rw [h52]
  refine nt (by decide +kernel) ?_
  intro s1 e1 s2 e2 s3 e3 s4 e4 s5 e5 s6 e6 s7 e7 s8 e8 s9 e9 s10 e10 s11 e11
  rw [h1] at e1
  have o11 : ∀ a j, ¬ (a = 196 ∧ (j = 1 ∨ j = 2 ∨ j = 3 ∨ j = 4 ∨ j = 5 ∨ j = 6 ∨ j = 53 ∨ j = 101 ∨ j = 103 ∨ j = 104 ∨ j = 105)) → s11.1 a j = m.1 a j := fun a j g => by
    rw [e11, g_si, if_neg (by omega), e10, g_si, if_neg (by omega), e9, g_si, if_neg (by omega), e8, g_si, if_neg (by omega), e7, g_si, if_neg (by omega), e6, g_si, if_neg (by omega), e5, g_si, if_neg (by omega), e4, g_si, if_neg (by omega), e3, g_si, if_neg (by omega), e2, g_si, if_neg (by omega), e1, g_si, if_neg (by omega)]
  have k7 : ∀ j, ¬ (j = 53 ∨ j = 101 ∨ j = 103 ∨ j = 104 ∨ j = 105) → s11.1 196 j = s6.1 196 j := fun j g => by
    rw [e11, g_nj (by omega), e10, g_nj (by omega), e9, g_nj (by omega), e8, g_nj (by omega), e7, g_nj (by omega)]
  have k1 : s11.1 196 1 = 0 := by rw [k7 _ (by omega), e6, g_nj (by omega), e5, g_nj (by omega), e4, g_nj (by omega), e3, g_nj (by omega), e2, g_eq]
  have k3 : s11.1 196 3 = nI tn := by rw [k7 _ (by omega), e6, g_nj (by omega), e5, g_nj (by omega), e4, g_nj (by omega), e3, g_nj (by omega), e2, g_nj (by omega), e1, g_eq]
  have k2 : s11.1 196 2 = nI 0 := by rw [k7 _ (by omega), e6, g_nj (by omega), e5, g_nj (by omega), e4, g_nj (by omega), e3, g_eq]; rfl
  have k4 : s11.1 196 4 = -1 := by rw [k7 _ (by omega), e6, g_nj (by omega), e5, g_nj (by omega), e4, g_eq]
  have k5 : s11.1 196 5 = 0 := by rw [k7 _ (by omega), e6, g_nj (by omega), e5, g_eq]
  have k6 : s11.1 196 6 = -1 := by rw [k7 _ (by omega), e6, g_eq]
  have S11 : yQS [] 0 [] 0 2 s11 := by
    refine ⟨?_, ?_, ?_, ?_, ?_, trivial, trivial, fun v hv => by cases hv⟩
    · rw [e11, g_nj (by omega), e10, g_nj (by omega), e9, g_nj (by omega), e8, g_nj (by omega), e7, g_eq]; rfl
    · rw [e11, g_nj (by omega), e10, g_nj (by omega), e9, g_nj (by omega), e8, g_eq]; rfl
    · rw [e11, g_nj (by omega), e10, g_nj (by omega), e9, g_eq]; rfl
    · rw [e11, g_nj (by omega), e10, g_eq]; rfl
    · rw [e11, g_eq]; rfl
  have F11 : Fr pD (si m 196 1 0) s11 := by
    intro a j hp
    have g := of_decide_eq_false hp
    refine ⟨?_, by rw [e11, e10, e9, e8, e7, e6, e5, e4, e3, e2, e1]; rfl⟩
    by_cases c : a = 196 ∧ j = 1
    · obtain ⟨rfl, rfl⟩ := c
      rw [g_eq, k1]
    · rw [g_si, if_neg c]
      exact o11 a j (by omega)
  have P11 : yPM tp tn 0 false t0 0 s11 := ⟨⟨hn, hB, k3, fun j hj => (o11 _ _ (by omega)).trans (ht j hj), h10.cg (fun a j q => o11 _ _ (by omega))⟩, hT0, ⟨Nat.le_refl _, Nat.zero_le _⟩, k2, Or.inr ⟨rfl, -1, by omega, by omega, by rw [k4]; decide +kernel⟩, k5, k6⟩
  have n14 : yN14 [] := fun z => by obtain ⟨_, _, z, _⟩ := z; cases z
  refine m_kind P11 (fun k hk hw m1 hA F1 => ?_) (fun nw m1 q1 F1 => ?_)
  · have hsp : ∃ t1, yTS tp tn t0.2.1 true t1 ∧ ((∃ b' so' t' l, yTS tp tn b' so' t' ∧ (t0.2.1 < b' ∧ l.length + t0.2.1 ≤ b') ∧ yGQ tp tn k t0.2.1 true t1 b' so' t' l ∧ ((t'.2.2.1 = 0 ∧ K k l) ∨ (t'.2.2.1 ≠ 0 ∧ F 1 t'.1))) ∨ (∃ kd pl, yGR tp tn k t0.2.1 true t1 kd pl ∧ F kd pl)) := by
      rcases h with z | ⟨k', z1, z2, z3⟩
      · exact absurd hw (z.1 k hk)
      · have : k' = k := by
          have a1 := z2.2
          have a2 := hw.2
          omega
        subst this
        exact z3
    obtain ⟨t1, ht1, hsp⟩ := hsp
    have P1 := hA t1 ht1
    have S1 := S11.k F1
    have G1 := F11.tr (y_KD F1)
    have ok : ∀ b' so' t' l, yTS tp tn b' so' t' → ((t'.2.2.1 = 0 ∧ K k l) ∨ (t'.2.2.1 ≠ 0 ∧ F 1 t'.1)) → ∀ m2, yPM tp tn b' so' t' t'.1 m2 → yQS [] 0 ([] ++ l) 0 2 m2 → Fr pQ m1 m2 → nd_X12_ask_109 Q (nI k) m2 := by
      intro b' so' t' l g1 g4 m2 P2 S2 F2
      unfold nd_X12_ask_109
      refine nf P2.2.2.2.2.2.1 (y_look P2 (fun m3 P3 F3 => ?_))
      have lk := y_lkn P3.2.1 P3.1.2.1
      have G3 := (G1.tr (y_QD F2)).tr (y_KD (y_AK F3))
      rcases g4 with ⟨z1, z2⟩ | ⟨z1, z2⟩
      · exact bt (lk.mpr z1) (hT k l m3 z2 hk (S2.k (y_AK F3)) P3.2.2.2.2.2.1 P3.2.2.2.2.2.2 G3)
      · exact bf (fun z => z1 (lk.mp z)) (y_mfailAt P3 (kd := 1) ⟨by omega, by omega⟩ (fun m4 q4 F4 => hN _ _ k m4 z2 q4 (G3.tr (y_KD F4))))
    refine nf P1.2.2.2.2.2.1 ?_
    by_cases c3 : k < 3
    · refine bf (by simp (disch := omega) only [N_lit, N_add, N_mul, N_sub, N_addneg, N_neg1, N_addm, N_le, N_lt, N_eq, N_in, N_cl, N_ne, N_ne', N_ltm, N_mlt, N_lem] <;> omega) ?_
      rcases hsp with ⟨b', so', t', l, g1, g2, g3, g4⟩ | ⟨kd, pl, g1, g2⟩
      · obtain ⟨o1, o2, o3⟩ := g3.1 c3
        exact y_qTestOK o1 o2 o3 g1 g2 P1 S1 (Nat.zero_le _) (fun m2 P2 S2 F2 => ok b' so' t' l g1 g4 m2 P2 S2 F2)
      · exact y_qTestNO (g1.1 c3) P1 S1 (Nat.zero_le _) (fun m2 q2 F2 => b_109 q2.bad (hN kd pl k m2 g2 q2 (G1.tr (y_QD F2))))
    · refine bt (by simp (disch := omega) only [N_lit, N_add, N_mul, N_sub, N_addneg, N_neg1, N_addm, N_le, N_lt, N_eq, N_in, N_cl, N_ne, N_ne', N_ltm, N_mlt, N_lem] <;> omega) ?_
      unfold nd_X12_ask_98
      refine nf P1.2.2.2.2.2.1 ?_
      rcases hsp with ⟨b', so', t', l, g1, g2, g3, g4⟩ | ⟨kd, pl, g1, g2⟩
      · obtain ⟨o1, o2⟩ := g3.2 c3
        exact y_qSumsOK o1 o2 g1 g2 P1 S1 (Nat.zero_le _) n14 (fun m2 P2 S2 F2 => ok b' so' t' l g1 g4 m2 P2 S2 F2)
      · exact y_qSumsNO (g1.2 c3) P1 S1 (Nat.zero_le _) n14 (fun m2 q2 F2 => b_109 q2.1.bad (hN kd pl k m2 g2 q2.1 (G1.tr (y_QD F2))))
  · have hf : F 1 t0.1 := by
      rcases h with z | ⟨k', z1, z2, z3⟩
      · exact z.2
      · exact absurd z2 (nw k' z1)
    refine nt q1.bad ?_
    unfold nd_X12_ask_98
    exact nt q1.bad (b_109 q1.bad (hN _ _ 5 m1 hf q1 (F11.tr (y_KD F1))))

/-! EXAM: both -/
def z0 (_j : Nat) : Nat := 0
def exmS (T : TT) (W : WW) : Nat → Nat → Option (Nat × (Nat → Nat))
  | 0, _ => none
  | d + 1, c => match fnd T W c 0 0 z0 with
    | some z => some (c, z)
    | none => exmS T W d (c + 1)
theorem exmS_s {T : TT} {W : WW} {d c : Nat} {z : Nat → Nat} (h : fnd T W c 0 0 z0 = some z) : exmS T W (d + 1) c = some (c, z) := by
  show (match fnd T W c 0 0 z0 with
    | some z => some (c, z)
    | none => exmS T W d (c + 1)) = _
  rw [h]
theorem exmS_n {T : TT} {W : WW} {d c : Nat} (h : fnd T W c 0 0 z0 = none) : exmS T W (d + 1) c = exmS T W d (c + 1) := by
  show (match fnd T W c 0 0 z0 with
    | some z => some (c, z)
    | none => exmS T W d (c + 1)) = _
  rw [h]
def pXm (a _j : Nat) : Bool := decide (a = 32 ∨ a = 33 ∨ (181 ≤ a ∧ a ≤ 183))
theorem pXm_f {a j : Nat} (h : ¬ (a = 32 ∨ a = 33 ∨ (181 ≤ a ∧ a ≤ 183))) : pXm a j = false := decide_eq_false h
theorem pXm_pC {s s' : fz_s} (h : Fr pXm s s') : Fr pC s s' := h.mono fun a j q => by
  have := of_decide_eq_false q
  exact pXm_f (by omega)
theorem c_find_lp {T : TT} {W : WW} {x0 : fz_s} {Q : Bool → fz_s → Prop} (hs : ∀ c z x', exmS T W 4 0 = some (c, z) → c ≤ 3 → Fr pXm x0 x' → x'.1 181 5 = nI c → (∀ j, j < c → x'.1 183 j = nI (z j)) → Q true x') (hn : ∀ x', exmS T W 4 0 = none → Fr pXm x0 x' → Q false x') : ∀ (d n c : Nat) (x : fz_s), c + d = 4 → d < n → Fr pXm x0 x → x.1 181 5 = nI c → EX T W T.1 0 x → exmS T W 4 0 = exmS T W d c → lp_X1_find_10 35 Q n x
  | d, 0, c, x, _, h2, _, _, _, _ => absurd h2 (by omega)
  | 0, n + 1, c, x, hc, _, hF, h5, _, he => by
    have : c = 4 := by omega
    subst this
    show nd_X1_find_10 35 (lp_X1_find_10 35 Q n) Q x
    unfold nd_X1_find_10
    rw [h5]
    exact bt (by simp (disch := omega) only [N_lit, N_add, N_mul, N_sub, N_addneg, N_neg1, N_addm, N_le, N_lt, N_eq, N_in, N_cl, N_ne, N_ne', N_ltm, N_mlt, N_lem] <;> omega) (hn x he hF)
  | d + 1, n + 1, c, x, hc, h2, hF, h5, hE, he => by
    show nd_X1_find_10 35 (lp_X1_find_10 35 Q n) Q x
    unfold nd_X1_find_10
    rw [h5]
    refine bf (by simp (disch := omega) only [N_lit, N_add, N_mul, N_sub, N_addneg, N_neg1, N_addm, N_le, N_lt, N_eq, N_in, N_cl, N_ne, N_ne', N_ltm, N_mlt, N_lem] <;> omega) (c_search (T := T) (W := W) (c := c) (by omega) c 8 0 0 z0 0 x _ (by omega) (by omega) (by omega) h5 hE (Bs_0.cg (fun i _ => by show (dueP T W i && false) = false; rw [Bool.and_false])) (fun j hj => absurd hj (Nat.not_lt_zero _)) (fun z x' hz f' hz' => ?_) (fun x' hz f' _ => ?_))
    · have g' : Fr pXm x x' := f'.mono fun a j q => by
        have := of_decide_eq_false q
        exact p183_f (by omega)
      exact ⟨fun e => (by cases e), fun _ => hs c z x' (by rw [he]; exact exmS_s hz) (by omega) (hF.tr g') ((f'.i _ _ (p183_f (by omega))).trans h5) hz'⟩
    · have g' : Fr pXm x x' := f'.mono fun a j q => by
        have := of_decide_eq_false q
        exact p183_f (by omega)
      refine ⟨fun _ s3 e3 => ?_, fun e => (by cases e)⟩
      rw [show x'.1 181 5 = nI c from (f'.i _ _ (p183_f (by omega))).trans h5, nI_1] at e3
      refine c_find_lp hs hn d n (c + 1) s3 (by omega) (by omega) (by rw [e3]; exact (hF.tr g').si (decide_eq_true (by omega))) (by rw [e3]; exact g_eq) ?_ (by rw [he]; exact exmS_n hz)
      rw [e3]
      exact ⟨(hE.p f').1, (hE.p f').2⟩
theorem c_find {T : TT} {W : WW} {x : fz_s} (h : CC T W 35 x) {Q : Bool → fz_s → Prop} (hs : ∀ c z x', exmS T W 4 0 = some (c, z) → c ≤ 3 → Fr pC x x' → x'.1 181 5 = nI c → (∀ j, j < c → x'.1 183 j = nI (z j)) → Q true x') (hn : ∀ x', exmS T W 4 0 = none → Fr pC x x' → Q false x') : wp_X1_find 35 x Q := by
  unfold wp_X1_find
  refine c_fillP h (fun x1 f1 E1 => ?_)
  intro s3 e3
  have g1 : Fr pXm x x1 := f1.mono fun a j q => by
    have := of_decide_eq_false q
    exact p18_f (by omega)
  refine c_find_lp (T := T) (W := W) (x0 := x) (fun c z x' a b d e f => hs c z x' a b (pXm_pC d) e f) (fun x' a b => hn x' a (pXm_pC b)) 4 2048 0 s3 (by omega) (by omega) (by rw [e3]; exact g1.si (decide_eq_true (by omega))) (by rw [e3]; exact g_eq) ?_ rfl
  rw [e3]
  exact E1
/-! the model -/
def pYs (a j : Nat) : Bool := decide (a = 271 ∨ a = 238 ∨ (a = 196 ∧ (j = 107 ∨ j = 53 ∨ j = 56 ∨ j = 64)))
theorem pYs_f {a j : Nat} (h : ¬ (a = 271 ∨ a = 238 ∨ (a = 196 ∧ (j = 107 ∨ j = 53 ∨ j = 56 ∨ j = 64)))) : pYs a j = false := decide_eq_false h
theorem pYs_t {a j : Nat} (h : a = 271 ∨ a = 238 ∨ (a = 196 ∧ (j = 107 ∨ j = 53 ∨ j = 56 ∨ j = 64))) : pYs a j = true := decide_eq_true h
theorem pM_pYs {s s' : fz_s} (h : Fr pM s s') : Fr pYs s s' := h.mono fun a j q => by
  have := of_decide_eq_false q
  exact pM_f (by omega)
theorem pYs_pD {s s' : fz_s} (h : Fr pYs s s') : Fr pD s s' := h.mono fun a j q => by
  have := of_decide_eq_false q
  exact pYs_f (by omega)
def YS (T : TT) (W : WW) (m : fz_s) : Prop := m.1 196 64 = bts (pass T W) T.1 ∧ ∀ q, q < 27 → m.1 238 q = bts (ansQ T W q) T.1
theorem m_yes58 {T : TT} {W : WW} {q : Nat} (hq27 : q < 27) {m0 : fz_s} (h0 : MM T W m0) {K : Int32 → fz_s → Prop} {Q : fz_s → Prop} {ps : Int32} (hk : ∀ m', Fr pYs m0 m' → m'.1 196 64 = ps → (∀ k, k < q + 1 → m'.1 238 k = bts (ansQ T W k) T.1) → K (nI (q + 1)) m') : ∀ (n p : Nat) (m : fz_s), Fr pYs m0 m → m.1 196 64 = ps → (∀ k, k < q → m.1 238 k = bts (ansQ T W k) T.1) → m.1 238 q = bts (ansQ T W q) p → p ≤ T.1 → T.1 < n + p → lp_X12_laysYes_58 K Q n (nI q) (nI p) m
  | 0, p, m, _, _, _, _, h1, h2 => absurd h2 (by omega)
  | n + 1, p, m, hF, h64, hl, hc, h1, h2 => by
    have hn := h0.1.1
    have h := h0.fr (pYs_pD hF)
    show nd_X12_laysYes_58 K (lp_X12_laysYes_58 K Q n) Q (nI q) (nI p) m
    unfold nd_X12_laysYes_58 wp_X12_personMany
    dsimp only
    rw [h.2.2.1.1]
    by_cases c : p = T.1
    · subst c
      refine bt (by simp (disch := omega) only [N_lit, N_add, N_mul, N_sub, N_addneg, N_neg1, N_addm, N_le, N_lt, N_eq, N_in, N_cl, N_ne, N_ne', N_ltm, N_mlt, N_lem] <;> omega) ?_
      intro x3 e3
      rw [e3, nI_1]
      refine hk m hF h64 (fun k hk' => ?_)
      by_cases ck : k = q
      · subst ck; exact hc
      · exact hl k (by omega)
    have hp : p < T.1 := by omega
    have hh := hasQ_le (q := q) h0.1 h0.2.1 hp
    have es : bts (ansQ T W q) (p + 1) = if ansQ T W q p = true then bts (ansQ T W q) p ||| (1 <<< (nI p &&& 31)) else bts (ansQ T W q) p := rfl
    have fin : ∀ v : Nat, v = hasQ T W q p → nd_X12_laysYes_96 K (lp_X12_laysYes_58 K Q n) Q (nI q) (nI p) (nI v) m := by
      intro v hv
      unfold nd_X12_laysYes_96
      rw [show nI q - nI q / 9 * 9 = nI (q % 9) from N_mod (b := 9) ⟨by omega, by omega⟩, nI_1, hv, N_le ⟨by omega, by omega⟩, nI_1, N_cl (by omega), hc]
      unfold ansQ at es
      refine ⟨fun cc x1 e1 => ?_, fun cc => ⟨N_in ⟨by omega, by omega⟩, N_in ⟨by omega, by omega⟩, fun s2 e2 x3 e3 => ?_⟩⟩
      · subst e1
        refine m_yes58 hq27 h0 hk n (p + 1) m hF h64 hl ?_ (by omega) (by omega)
        rw [hc]
        rw [decide_eq_false (by omega), if_neg (by decide)] at es
        exact es.symm
      · subst e3
        refine m_yes58 hq27 h0 hk n (p + 1) s2 (by rw [e2]; exact hF.si (pYs_t (by omega))) (by rw [e2, g_ne (by omega)]; exact h64) (fun k hk' => by rw [e2, g_nj (by omega)]; exact hl k hk') ?_ (by omega) (by omega)
        rw [e2, g_eq]
        rw [decide_eq_true (by omega), if_pos rfl] at es
        exact es.symm
    refine bf (by simp (disch := omega) only [N_lit, N_add, N_mul, N_sub, N_addneg, N_neg1, N_addm, N_le, N_lt, N_eq, N_in, N_cl, N_ne, N_ne', N_ltm, N_mlt, N_lem] <;> omega) ⟨fun c9 => ?_, fun c9 => ?_⟩
    · have c9' : 9 ≤ q := (N_le (a := 9) ⟨by omega, by omega⟩).mp c9
      rw [show nI q / 9 = nI (q / 9) from N_div (b := 9) ⟨by omega, by omega⟩, show (3 : Int32) * nI p = nI (3 * p) from N_mul 3 p, show (24 : Int32) + nI (3 * p) = nI (24 + 3 * p) from N_add 24 _, N_add, N_cl (by omega)]
      refine ⟨N_in ⟨by omega, by omega⟩, ?_⟩
      rcases (show q / 9 = 1 ∨ q / 9 = 2 by omega) with e | e
      · rw [e, show 24 + 3 * p + 1 = 25 + 3 * p by omega, h.2.2.1.2.2.1 p hp]
        exact fin _ (by unfold hasQ; rw [if_neg (by omega), if_pos e])
      · rw [e, show 24 + 3 * p + 2 = 26 + 3 * p by omega, h.2.2.1.2.2.2.1 p hp]
        exact fin _ (by unfold hasQ; rw [if_neg (by omega), if_neg (by omega)])
    · have c9' : ¬ 9 ≤ q := fun z => c9 ((N_le (a := 9) ⟨by omega, by omega⟩).mpr z)
      exact m_wits h hp (fin _ (by unfold hasQ; rw [if_pos (by omega)]))
theorem m_yes43 {T : TT} {W : WW} {m0 : fz_s} (h0 : MM T W m0) {Q : fz_s → Prop} (hk : ∀ m', Fr pYs m0 m' → YS T W m' → Q m') : ∀ (n q : Nat) (m : fz_s), Fr pYs m0 m → m.1 196 64 = bts (pass T W) T.1 → (∀ k, k < q → m.1 238 k = bts (ansQ T W k) T.1) → q ≤ 27 → 27 < n + q → lp_X12_laysYes_43 Q n (nI q) m
  | 0, q, m, _, _, _, h1, h2 => absurd h2 (by omega)
  | n + 1, q, m, hF, h64, hl, h1, h2 => by
    have hn := h0.1.1
    show nd_X12_laysYes_43 (lp_X12_laysYes_43 Q n) Q (nI q) m
    unfold nd_X12_laysYes_43
    by_cases c : q = 27
    · subst c
      exact bt (by simp (disch := omega) only [N_lit, N_add, N_mul, N_sub, N_addneg, N_neg1, N_addm, N_le, N_lt, N_eq, N_in, N_cl, N_ne, N_ne', N_ltm, N_mlt, N_lem] <;> omega) (hk m hF ⟨h64, hl⟩)
    refine bf (by simp (disch := omega) only [N_lit, N_add, N_mul, N_sub, N_addneg, N_neg1, N_addm, N_le, N_lt, N_eq, N_in, N_cl, N_ne, N_ne', N_ltm, N_mlt, N_lem] <;> omega) ⟨N_in ⟨by omega, by omega⟩, fun s1 e1 => ?_⟩
    rw [N_cl (by omega)] at e1
    exact m_yes58 (q := q) (by omega) h0 (fun m' a b c => m_yes43 h0 hk n (q + 1) m' a b c (by omega) (by omega)) 2048 0 s1 (by rw [e1]; exact hF.si (pYs_t (by omega))) (by rw [e1, g_ne (by omega)]; exact h64) (fun k hk' => by rw [e1, g_nj (by omega)]; exact hl k hk') (by rw [e1]; exact g_eq) (by omega) (by omega)
theorem m_yes7 {T : TT} {W : WW} {m0 : fz_s} (h0 : MM T W m0) {Q : fz_s → Prop} (hk : ∀ m', Fr pYs m0 m' → YS T W m' → Q m') : ∀ (n p : Nat) (m : fz_s), Fr pYs m0 m → m.1 196 64 = bts (pass T W) p → p ≤ T.1 → T.1 < n + p → lp_X12_laysYes_7 Q n (nI p) m
  | 0, p, m, _, _, h1, h2 => absurd h2 (by omega)
  | n + 1, p, m, hF, h64, h1, h2 => by
    have hn := h0.1.1
    have h := h0.fr (pYs_pD hF)
    show nd_X12_laysYes_7 (lp_X12_laysYes_7 Q n) Q (nI p) m
    unfold nd_X12_laysYes_7 wp_X12_personMany
    dsimp only
    rw [h.2.2.1.1]
    by_cases c : p = T.1
    · subst c
      exact bt (by simp (disch := omega) only [N_lit, N_add, N_mul, N_sub, N_addneg, N_neg1, N_addm, N_le, N_lt, N_eq, N_in, N_cl, N_ne, N_ne', N_ltm, N_mlt, N_lem] <;> omega) (m_yes43 h0 hk 2048 0 m hF h64 (fun k hk' => absurd hk' (Nat.not_lt_zero _)) (by omega) (by omega))
    have hp : p < T.1 := by omega
    have es : bts (pass T W) (p + 1) = if pass T W p = true then bts (pass T W) p ||| (1 <<< (nI p &&& 31)) else bts (pass T W) p := rfl
    refine bf (by simp (disch := omega) only [N_lit, N_add, N_mul, N_sub, N_addneg, N_neg1, N_addm, N_le, N_lt, N_eq, N_in, N_cl, N_ne, N_ne', N_ltm, N_mlt, N_lem] <;> omega) (m_pass h hp (fun m1 f1 => ⟨fun e x5 e5 => ?_, fun e s6 e6 x7 e7 => ?_⟩))
    · rw [e5, nI_1]
      refine m_yes7 h0 hk n (p + 1) m1 (hF.tr (pM_pYs f1)) ?_ (by omega) (by omega)
      rw [f1.i _ _ (pM_f (by omega)), h64, es, if_neg (by rw [e]; decide)]
    · rw [e7, nI_1]
      rw [show m1.1 196 64 = bts (pass T W) p from (f1.i _ _ (pM_f (by omega))).trans h64] at e6
      refine m_yes7 h0 hk n (p + 1) s6 (by rw [e6]; exact (hF.tr (pM_pYs f1)).si (pYs_t (by omega))) ?_ (by omega) (by omega)
      rw [e6, g_eq, es, if_pos e]
theorem m_laysYes {T : TT} {W : WW} {m : fz_s} (h : MM T W m) {Q : fz_s → Prop} (hk : ∀ m', Fr pYs m m' → YS T W m' → Q m') : wp_X12_laysYes m Q := by
  unfold wp_X12_laysYes
  intro s1 e1
  exact m_yes7 h hk 2048 0 s1 (by rw [e1]; exact Fr.rf.si (pYs_t (by omega))) (by rw [e1]; exact g_eq) (by omega) (by have := h.1.1; omega)
def cnd (T : TT) (W : WW) (fa fb fc : Nat → Bool) (p q : Nat) : Prop := pass T W p = pass T W q ∨ fa p ≠ fa q ∨ fb p ≠ fb q ∨ fc p ≠ fc q
theorem b01_eq (a b : Bool) : (nI (b01 a) = nI (b01 b)) ↔ a = b := by
  cases a <;> cases b <;> decide +kernel
theorem m_tell15 {T : TT} {W : WW} {m : fz_s} (h : MM T W m) (hY : m.1 196 64 = bts (pass T W) T.1) {fa fb fc : Nat → Bool} {p : Nat} (hp : p < T.1) {K : Int32 → Int32 → Int32 → Int32 → fz_s → Prop} {Q : Bool → fz_s → Prop} (hk : (∀ q, q < p → cnd T W fa fb fc p q) → K (bts fa T.1) (bts fb T.1) (bts fc T.1) (nI (p + 1)) m) (hf : ¬ (∀ q, q < p → cnd T W fa fb fc p q) → Q false m) : ∀ (n q : Nat), (∀ j, j < q → cnd T W fa fb fc p j) → q ≤ p → p < n + q → lp_X12_doTell_15 K Q n (bts fa T.1) (bts fb T.1) (bts fc T.1) (nI p) (nI q) m
  | 0, q, _, h1, h2 => absurd h2 (by omega)
  | n + 1, q, ho, h1, h2 => by
    have hn := h.1.1
    show nd_X12_doTell_15 K (lp_X12_doTell_15 K Q n) Q (bts fa T.1) (bts fb T.1) (bts fc T.1) (nI p) (nI q) m
    unfold nd_X12_doTell_15
    by_cases c : q = p
    · subst c
      refine bt (by simp (disch := omega) only [N_lit, N_add, N_mul, N_sub, N_addneg, N_neg1, N_addm, N_le, N_lt, N_eq, N_in, N_cl, N_ne, N_ne', N_ltm, N_mlt, N_lem] <;> omega) ?_
      intro x1 e1
      rw [e1, nI_1]
      exact hk ho
    have hq : q < T.1 := by omega
    rw [hY, bts_v (pass T W) (by omega) hp, bts_v (pass T W) (by omega) hq, bts_v fa (by omega) hp, bts_v fa (by omega) hq, bts_v fb (by omega) hp, bts_v fb (by omega) hq, bts_v fc (by omega) hp, bts_v fc (by omega) hq, b01_eq, b01_eq, b01_eq, b01_eq]
    have ok : cnd T W fa fb fc p q → nd_X12_doTell_93 K (lp_X12_doTell_15 K Q n) Q (bts fa T.1) (bts fb T.1) (bts fc T.1) (nI p) (nI q) true m := by
      intro e
      unfold nd_X12_doTell_93
      refine ⟨fun _ x1 e1 => ?_, fun z => (by cases z)⟩
      rw [e1, nI_1]
      refine m_tell15 h hY hp hk hf n (q + 1) (fun j hj => ?_) (by omega) (by omega)
      by_cases cj : j = q
      · subst cj; exact e
      · exact ho j (by omega)
    refine bf (by simp (disch := omega) only [N_lit, N_add, N_mul, N_sub, N_addneg, N_neg1, N_addm, N_le, N_lt, N_eq, N_in, N_cl, N_ne, N_ne', N_ltm, N_mlt, N_lem] <;> omega) ⟨fun e => ok (Or.inl e), fun e => ⟨fun e2 => ok (Or.inr (Or.inl e2)), fun e2 => ⟨fun e3 => ok (Or.inr (Or.inr (Or.inl e3))), fun e3 => ⟨fun e4 => ?_, fun e4 => ok (Or.inr (Or.inr (Or.inr e4)))⟩⟩⟩⟩
    unfold nd_X12_doTell_93
    refine ⟨fun z => (by cases z), fun _ => hf (fun z => ?_)⟩
    rcases z q (by omega) with y | y | y | y
    · exact e y
    · exact y e2
    · exact y e3
    · exact y e4
theorem m_tellA {T : TT} {W : WW} {m : fz_s} (h : MM T W m) (hY : m.1 196 64 = bts (pass T W) T.1) {fa fb fc : Nat → Bool} {Q : Bool → fz_s → Prop} (ht : (∀ p q, p < T.1 → q < p → cnd T W fa fb fc p q) → Q true m) (hf : ¬ (∀ p q, p < T.1 → q < p → cnd T W fa fb fc p q) → Q false m) : ∀ (n p : Nat), (∀ p' q, p' < p → q < p' → cnd T W fa fb fc p' q) → p ≤ T.1 → T.1 < n + p → lp_X12_doTell_3 Q n (bts fa T.1) (bts fb T.1) (bts fc T.1) (nI p) m
  | 0, p, _, h1, h2 => absurd h2 (by omega)
  | n + 1, p, ho, h1, h2 => by
    have hn := h.1.1
    show nd_X12_doTell_3 (lp_X12_doTell_3 Q n) Q (bts fa T.1) (bts fb T.1) (bts fc T.1) (nI p) m
    unfold nd_X12_doTell_3 wp_X12_personMany
    dsimp only
    rw [h.2.2.1.1]
    by_cases c : p = T.1
    · subst c
      exact bt (by simp (disch := omega) only [N_lit, N_add, N_mul, N_sub, N_addneg, N_neg1, N_addm, N_le, N_lt, N_eq, N_in, N_cl, N_ne, N_ne', N_ltm, N_mlt, N_lem] <;> omega) (ht ho)
    refine bf (by simp (disch := omega) only [N_lit, N_add, N_mul, N_sub, N_addneg, N_neg1, N_addm, N_le, N_lt, N_eq, N_in, N_cl, N_ne, N_ne', N_ltm, N_mlt, N_lem] <;> omega) (m_tell15 h hY (by omega) (fun hall => m_tellA h hY ht hf n (p + 1) (fun p' q hp' hq' => ?_) (by omega) (by omega)) (fun hno => hf (fun z => hno (fun q hq => z p q (by omega) hq))) 2048 0 (fun j hj => absurd hj (Nat.not_lt_zero _)) (by omega) (by omega))
    by_cases cp : p' = p
    · subst cp; exact hall q hq'
    · exact ho p' q (by omega) hq'
theorem tell_ok {T : TT} {W : WW} (hn : T.1 ≤ 8) {ch : Nat → Nat} {k : Nat} {fa fb fc : Nat → Bool} (hD : ∀ i, anyD T W ch i k = ((fa (i / 8) != fa (i % 8)) || ((fb (i / 8) != fb (i % 8)) || (fc (i / 8) != fc (i % 8))))) : (∀ p q, p < T.1 → q < p → cnd T W fa fb fc p q) ↔ okE T W ch k = true := by
  unfold okE
  rw [okN_t]
  have dk : ∀ p r, p < T.1 → r < T.1 → dueP T W (8 * p + r) = (pass T W p && !pass T W r) := fun p r hp hr => by
    unfold dueP
    rw [show (8 * p + r) / 8 = p by omega, show (8 * p + r) % 8 = r by omega, decide_eq_true hp, decide_eq_true hr, Bool.true_and, Bool.true_and]
  have da : ∀ p r, r < 8 → anyD T W ch (8 * p + r) k = ((fa p != fa r) || ((fb p != fb r) || (fc p != fc r))) := fun p r hr => by
    rw [hD, show (8 * p + r) / 8 = p by omega, show (8 * p + r) % 8 = r by omega]
  constructor
  · intro h i hi e
    have hp : i / 8 < T.1 ∧ i % 8 < T.1 ∧ pass T W (i / 8) = true ∧ pass T W (i % 8) = false := by
      unfold dueP at e
      rw [Bool.and_eq_true, Bool.and_eq_true, Bool.and_eq_true, decide_eq_true_eq, decide_eq_true_eq, Bool.not_eq_true'] at e
      exact ⟨e.1, e.2.1, e.2.2.1, e.2.2.2⟩
    rw [hD]
    have hne : i / 8 ≠ i % 8 := fun z => by
      have h1 := hp.2.2.1
      rw [z, hp.2.2.2] at h1
      cases h1
    have key : fa (i / 8) ≠ fa (i % 8) ∨ fb (i / 8) ≠ fb (i % 8) ∨ fc (i / 8) ≠ fc (i % 8) := by
      rcases Nat.lt_or_gt_of_ne hne with c | c
      · rcases h (i % 8) (i / 8) hp.2.1 c with y | y | y | y
        · rw [hp.2.2.1, hp.2.2.2] at y; cases y
        · exact Or.inl (fun z => y z.symm)
        · exact Or.inr (Or.inl (fun z => y z.symm))
        · exact Or.inr (Or.inr (fun z => y z.symm))
      · rcases h (i / 8) (i % 8) hp.1 c with y | y | y | y
        · rw [hp.2.2.1, hp.2.2.2] at y; cases y
        · exact Or.inl y
        · exact Or.inr (Or.inl y)
        · exact Or.inr (Or.inr y)
    rcases key with y | y | y
    · rw [bne_iff_ne.mpr y]; rfl
    · rw [bne_iff_ne.mpr y]; simp
    · rw [bne_iff_ne.mpr y]; simp
  · intro h p q hp hq
    have fin : ∀ a b, (a = p ∧ b = q) ∨ (a = q ∧ b = p) → pass T W a = true → pass T W b = false → cnd T W fa fb fc p q := by
      intro a b hab ea eb
      have ha : a < T.1 := by omega
      have hb : b < T.1 := by omega
      have z := h (8 * a + b) (by omega) (by rw [dk a b ha hb, ea, eb]; rfl)
      rw [da a b (by omega), Bool.or_eq_true, Bool.or_eq_true, bne_iff_ne, bne_iff_ne, bne_iff_ne] at z
      right
      rcases hab with ⟨rfl, rfl⟩ | ⟨rfl, rfl⟩
      · exact z
      · rcases z with y | y | y
        · exact Or.inl (fun z => y z.symm)
        · exact Or.inr (Or.inl (fun z => y z.symm))
        · exact Or.inr (Or.inr (fun z => y z.symm))
    cases e1 : pass T W p <;> cases e2 : pass T W q
    · exact Or.inl (by rw [e1, e2])
    · exact fin q p (Or.inr ⟨rfl, rfl⟩) e2 e1
    · exact fin p q (Or.inl ⟨rfl, rfl⟩) e1 e2
    · exact Or.inl (by rw [e1, e2])
def fFal (_p : Nat) : Bool := false
theorem bts_F : ∀ n, bts fFal n = 0
  | 0 => rfl
  | n + 1 => by
    show (if fFal n = true then _ else bts fFal n) = 0
    rw [if_neg (show ¬ (fFal n = true) by unfold fFal; decide)]
    exact bts_F n
/-- one look whether questions tell all apart -/
theorem m_leaf {T : TT} {W : WW} {m : fz_s} (h : MM T W m) (hY : m.1 196 64 = bts (pass T W) T.1) {ch : Nat → Nat} {k : Nat} {fa fb fc : Nat → Bool} {x y z : Int32} (hx : x = bts fa T.1) (hy : y = bts fb T.1) (hz : z = bts fc T.1) (hD : ∀ i, anyD T W ch i k = ((fa (i / 8) != fa (i % 8)) || ((fb (i / 8) != fb (i % 8)) || (fc (i / 8) != fc (i % 8))))) {Q : Bool → fz_s → Prop} (ht : fnd T W 0 k 0 ch = some ch → Q true m) (hf : fnd T W 0 k 0 ch = none → Q false m) : wp_X12_doTell x y z m Q := by
  have hn := h.1.1
  have ef : fnd T W 0 k 0 ch = if okE T W ch k = true then some ch else none := rfl
  subst hx
  subst hy
  subst hz
  unfold wp_X12_doTell
  exact m_tellA h hY (fun hall => ht (by rw [ef, if_pos ((tell_ok hn hD).mp hall)])) (fun hno => hf (by rw [ef, if_neg (fun z => hno ((tell_ok hn hD).mpr z))])) 2048 0 (fun p' q hp' _ => absurd hp' (Nat.not_lt_zero _)) (by omega) (by omega)

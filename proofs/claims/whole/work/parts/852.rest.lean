/-! REST, FEIGN -/
def rstS (T : TT) (W : WW) (a b : Nat) : Nat → Bool
  | 0 => true
  | p + 1 => rstS T W a b p && ((!own T W 0 p || decide (hby T W p b 0 ≤ hby T W a b 0)) && (!own T W 1 p || decide (hby T W a p 1 ≤ hby T W a b 1)))
theorem rstS_f {T : TT} {W : WW} {a b : Nat} : ∀ {p q : Nat}, p ≤ q → rstS T W a b p = false → rstS T W a b q = false
  | p, 0, h, e => by
    have : p = 0 := by omega
    subst this
    exact e
  | p, q + 1, h, e => by
    by_cases c : p = q + 1
    · subst c
      exact e
    · show (rstS T W a b q && _) = false
      rw [rstS_f (by omega) e]
      rfl
theorem c_rests_lp {T : TT} {W : WW} {x : fz_s} (h : CC T W 35 x) (hH : FH T W T.1 0 (x.1 179)) {a b : Nat} (ha : a < T.1) (hb : b < T.1) (ho : ownP T W a b = true) {Q : Bool → fz_s → Prop} (hq : Q (rstS T W a b T.1) x) : ∀ (n p : Nat), rstS T W a b p = true → p ≤ T.1 → T.1 < n + p → lp_X3_rests_3 35 Q n (nI a) (nI b) (nI p) x
  | 0, p, _, h1, h2 => absurd h2 (by omega)
  | n + 1, p, hr, h1, h2 => by
    have hn := h.1.1
    have hab : own T W 0 a = true ∧ own T W 1 b = true := by unfold ownP at ho; rw [Bool.and_eq_true] at ho; exact ho
    show nd_X3_rests_3 35 (lp_X3_rests_3 35 Q n) Q (nI a) (nI b) (nI p) x
    unfold nd_X3_rests_3
    rw [h.2.2.1.1]
    by_cases c : p = T.1
    · subst c
      rw [hr] at hq
      exact bt (by simp (disch := omega) only [N_lit, N_add, N_mul, N_sub, N_addneg, N_neg1, N_addm, N_le, N_lt, N_eq, N_in, N_cl, N_ne, N_ne', N_ltm, N_mlt, N_lem] <;> omega) hq
    have hp : p < T.1 := by omega
    have no : rstS T W a b (p + 1) = false → Q false x := fun e => by
      rw [rstS_f (show p + 1 ≤ T.1 by omega) e] at hq
      exact hq
    have second : (!own T W 0 p || decide (hby T W p b 0 ≤ hby T W a b 0)) = true → nd_X3_rests_57 35 (lp_X3_rests_3 35 Q n) Q (nI a) (nI b) (nI p) x := by
      intro e0
      unfold nd_X3_rests_57
      have nxt : (!own T W 1 p || decide (hby T W a p 1 ≤ hby T W a b 1)) = true → ∀ x3 : Int32, x3 = nI p + 1 → lp_X3_rests_3 35 Q n (nI a) (nI b) x3 x := by
        intro e1 x3 e3
        rw [e3, nI_1]
        refine c_rests_lp h hH ha hb ho hq n (p + 1) ?_ (by omega) (by omega)
        show (rstS T W a b p && _) = true
        rw [hr, e0, e1]
        rfl
      rw [show (1 : Int32) = nI 1 from rfl] at nxt ⊢
      refine c_canSend (v := 1) h hp (by omega) ⟨fun q => nxt (by rw [q]; rfl), fun q => ?_⟩
      have g1 : hby T W a p 1 ≤ 999 := cut0_le _ _
      have g2 : hby T W a b 1 ≤ 999 := cut0_le _ _
      refine c_cell3 ⟨N_in ⟨by omega, by omega⟩, c_cell3 ⟨N_in ⟨by omega, by omega⟩, ?_⟩⟩
      rw [N_cl (by omega), N_cl (by omega), hH a p 1 ha hp (by omega) (by omega) (by unfold ownP; rw [hab.1, q]; rfl), hH a b 1 ha hb (by omega) (by omega) ho, N_le ⟨by omega, by omega⟩]
      by_cases c1 : hby T W a p 1 ≤ hby T W a b 1
      · exact bt c1 (nxt (by rw [decide_eq_true c1, Bool.or_true]))
      · refine bf c1 (no ?_)
        show (rstS T W a b p && _) = false
        rw [q, decide_eq_false c1, hr, e0]
        rfl
    have g1 : hby T W p b 0 ≤ 999 := cut0_le _ _
    have g2 : hby T W a b 0 ≤ 999 := cut0_le _ _
    rw [show (0 : Int32) = nI 0 from rfl]
    refine bf (by simp (disch := omega) only [N_lit, N_add, N_mul, N_sub, N_addneg, N_neg1, N_addm, N_le, N_lt, N_eq, N_in, N_cl, N_ne, N_ne', N_ltm, N_mlt, N_lem] <;> omega) (c_canSend (v := 0) h hp (by omega) ⟨fun q => second (by rw [q]; rfl), fun q => ?_⟩)
    refine c_cell3 ⟨N_in ⟨by omega, by omega⟩, c_cell3 ⟨N_in ⟨by omega, by omega⟩, ?_⟩⟩
    rw [N_cl (by omega), N_cl (by omega), hH p b 0 hp hb (by omega) (by omega) (by unfold ownP; rw [hab.2, q]; rfl), hH a b 0 ha hb (by omega) (by omega) ho, N_le ⟨by omega, by omega⟩]
    by_cases c1 : hby T W p b 0 ≤ hby T W a b 0
    · exact bt c1 (second (by rw [decide_eq_true c1, Bool.or_true]))
    · refine bf c1 (no ?_)
      show (rstS T W a b p && _) = false
      rw [q, decide_eq_false c1]
      show (rstS T W a b p && (false && _)) = false
      rw [Bool.false_and, Bool.and_false]
theorem m_rests_lp {T : TT} {W : WW} {m : fz_s} (h : MM T W m) (hL : LH T W m) {a b : Nat} (ha : a < T.1) (hb : b < T.1) (ho : ownP T W a b = true) {Q : Bool → fz_s → Prop} (hq : Q (rstS T W a b T.1) m) : ∀ (n p : Nat), rstS T W a b p = true → p ≤ T.1 → T.1 < n + p → lp_X12_isRest_2 Q n (nI a) (nI b) (nI p) m
  | 0, p, _, h1, h2 => absurd h2 (by omega)
  | n + 1, p, hr, h1, h2 => by
    have hn := h.1.1
    have hab : own T W 0 a = true ∧ own T W 1 b = true := by unfold ownP at ho; rw [Bool.and_eq_true] at ho; exact ho
    have gn : ∀ v, nh T W v ≤ 999 := fun v => cut0_le _ _
    have gh : ∀ a b v, hby T W a b v ≤ 999 := fun a b v => cut0_le _ _
    show nd_X12_isRest_2 (lp_X12_isRest_2 Q n) Q (nI a) (nI b) (nI p) m
    unfold nd_X12_isRest_2 wp_X12_personMany
    rw [h.2.2.1.1]
    by_cases c : p = T.1
    · subst c
      rw [hr] at hq
      exact bt (by simp (disch := omega) only [N_lit, N_add, N_mul, N_sub, N_addneg, N_neg1, N_addm, N_le, N_lt, N_eq, N_in, N_cl, N_ne, N_ne', N_ltm, N_mlt, N_lem] <;> omega) hq
    have hp : p < T.1 := by omega
    have no : rstS T W a b (p + 1) = false → Q false m := fun e => by
      rw [rstS_f (show p + 1 ≤ T.1 by omega) e] at hq
      exact hq
    have second : (!own T W 0 p || decide (hby T W p b 0 ≤ hby T W a b 0)) = true → nd_X12_isRest_38 (lp_X12_isRest_2 Q n) Q (nI a) (nI b) (nI p) m := by
      intro e0
      unfold nd_X12_isRest_38
      have nxt : (!own T W 1 p || decide (hby T W a p 1 ≤ hby T W a b 1)) = true → ∀ x3 : Int32, x3 = nI p + 1 → lp_X12_isRest_2 Q n (nI a) (nI b) x3 m := by
        intro e1 x3 e3
        rw [e3, nI_1]
        refine m_rests_lp h hL ha hb ho hq n (p + 1) ?_ (by omega) (by omega)
        show (rstS T W a b p && _) = true
        rw [hr, e0, e1]
        rfl
      rw [show (1 : Int32) = nI 1 from rfl] at nxt ⊢
      refine m_ownIn (v := 1) h hp (by omega) ⟨fun q => nxt (by rw [q]; rfl), fun q => ?_⟩
      have g1 := gh a p 1
      have g2 := gh a b 1
      have g3 := gn 1
      refine m_gainOf (v := 1) hn hL ha hp (by omega) (by unfold ownP; rw [hab.1, q]; rfl) (m_gainOf (v := 1) hn hL ha hb (by omega) ho ?_)
      rw [i_le ⟨⟨by omega, by omega⟩, by omega, by omega⟩]
      by_cases c1 : hby T W a p 1 ≤ hby T W a b 1
      · exact bt (by omega) (nxt (by rw [decide_eq_true c1, Bool.or_true]))
      · refine bf (by omega) (no ?_)
        show (rstS T W a b p && _) = false
        rw [q, decide_eq_false c1, hr, e0]
        rfl
    have g1 := gh p b 0
    have g2 := gh a b 0
    have g3 := gn 0
    rw [show (0 : Int32) = nI 0 from rfl]
    refine bf (by simp (disch := omega) only [N_lit, N_add, N_mul, N_sub, N_addneg, N_neg1, N_addm, N_le, N_lt, N_eq, N_in, N_cl, N_ne, N_ne', N_ltm, N_mlt, N_lem] <;> omega) (m_ownIn (v := 0) h hp (by omega) ⟨fun q => second (by rw [q]; rfl), fun q => ?_⟩)
    refine m_gainOf (v := 0) hn hL hp hb (by omega) (by unfold ownP; rw [hab.2, q]; rfl) (m_gainOf (v := 0) hn hL ha hb (by omega) ho ?_)
    rw [i_le ⟨⟨by omega, by omega⟩, by omega, by omega⟩]
    by_cases c1 : hby T W p b 0 ≤ hby T W a b 0
    · exact bt (by omega) (second (by rw [decide_eq_true c1, Bool.or_true]))
    · refine bf (by omega) (no ?_)
      show (rstS T W a b p && _) = false
      rw [q, decide_eq_false c1]
      show (rstS T W a b p && (false && _)) = false
      rw [Bool.false_and, Bool.and_false]
def rok (T : TT) (W : WW) (a b : Nat) : Bool := ownP T W a b && rstS T W a b T.1
def rsB (T : TT) (W : WW) (a : Nat) : Nat → Option Nat
  | 0 => none
  | b + 1 => match rsB T W a b with
    | some z => some z
    | none => if rok T W a b = true then some b else none
def rsA (T : TT) (W : WW) : Nat → Option (Nat × Nat)
  | 0 => none
  | a + 1 => match rsA T W a with
    | some z => some z
    | none => match rsB T W a T.1 with
      | some b => some (a, b)
      | none => none
theorem rsB_n {T : TT} {W : WW} {a b : Nat} (h : rsB T W a b = none) : rsB T W a (b + 1) = if rok T W a b = true then some b else none := by
  show (match rsB T W a b with
    | some z => some z
    | none => if rok T W a b = true then some b else none) = _
  rw [h]
theorem rsB_s {T : TT} {W : WW} {a b z : Nat} (h : rsB T W a b = some z) : rsB T W a (b + 1) = some z := by
  show (match rsB T W a b with
    | some z => some z
    | none => if rok T W a b = true then some b else none) = _
  rw [h]
theorem rsB_le {T : TT} {W : WW} {a z : Nat} : ∀ {b k : Nat}, b ≤ k → rsB T W a b = some z → rsB T W a k = some z
  | b, 0, h, e => by
    have : b = 0 := by omega
    subst this
    exact e
  | b, k + 1, h, e => by
    by_cases c : b = k + 1
    · subst c; exact e
    · exact rsB_s (rsB_le (by omega) e)
theorem rsA_n {T : TT} {W : WW} {a : Nat} (h : rsA T W a = none) : rsA T W (a + 1) = (match rsB T W a T.1 with
      | some b => some (a, b)
      | none => none) := by
  show (match rsA T W a with
    | some z => some z
    | none => match rsB T W a T.1 with
      | some b => some (a, b)
      | none => none) = _
  rw [h]
theorem rsA_s {T : TT} {W : WW} {a : Nat} {z : Nat × Nat} (h : rsA T W a = some z) : rsA T W (a + 1) = some z := by
  show (match rsA T W a with
    | some z => some z
    | none => match rsB T W a T.1 with
      | some b => some (a, b)
      | none => none) = _
  rw [h]
theorem rsA_le {T : TT} {W : WW} {z : Nat × Nat} : ∀ {b k : Nat}, b ≤ k → rsA T W b = some z → rsA T W k = some z
  | b, 0, h, e => by
    have : b = 0 := by omega
    subst this
    exact e
  | b, k + 1, h, e => by
    by_cases c : b = k + 1
    · subst c; exact e
    · exact rsA_s (rsA_le (by omega) e)
theorem rs_hit {T : TT} {W : WW} {a b : Nat} (ha : a < T.1) (hb : b < T.1) (hA : rsA T W a = none) (hB : rsB T W a b = none) (ho : rok T W a b = true) : rsA T W T.1 = some (a, b) := by
  have e1 : rsB T W a (b + 1) = some b := by rw [rsB_n hB, if_pos ho]
  have e2 := rsB_le (show b + 1 ≤ T.1 by omega) e1
  have e3 : rsA T W (a + 1) = some (a, b) := by rw [rsA_n hA, e2]
  exact rsA_le (show a + 1 ≤ T.1 by omega) e3
theorem c_restI {T : TT} {W : WW} {x : fz_s} (h : CC T W 35 x) (hH : FH T W T.1 0 (x.1 179)) {a : Nat} (ha : a < T.1) (hA : rsA T W a = none) {K : Int32 → fz_s → Prop} {Q : Bool → fz_s → Prop} (hs : ∀ a b x', rsA T W T.1 = some (a, b) → Fr pBg x x' → x'.1 180 0 = nI a → x'.1 180 1 = nI b → Q true x') (hk : rsB T W a T.1 = none → K (nI (a + 1)) x) : ∀ (n b : Nat), rsB T W a b = none → b ≤ T.1 → T.1 < n + b → lp_X3_findRest_20 35 K Q n (nI a) (nI b) x
  | 0, b, _, h1, h2 => absurd h2 (by omega)
  | n + 1, b, hB, h1, h2 => by
    have hn := h.1.1
    show nd_X3_findRest_20 35 K (lp_X3_findRest_20 35 K Q n) Q (nI a) (nI b) x
    unfold nd_X3_findRest_20
    rw [h.2.2.1.1, nI_1, nI_1]
    by_cases c : b = T.1
    · subst c
      refine bt (by simp (disch := omega) only [N_lit, N_add, N_mul, N_sub, N_addneg, N_neg1, N_addm, N_le, N_lt, N_eq, N_in, N_cl, N_ne, N_ne', N_ltm, N_mlt, N_lem] <;> omega) ?_
      intro x1 e1
      subst e1
      exact hk hB
    have hb : b < T.1 := by omega
    have no : rok T W a b = false → ∀ x4 : Int32, x4 = nI (b + 1) → lp_X3_findRest_20 35 K Q n (nI a) x4 x := by
      intro e x4 e4
      subst e4
      exact c_restI h hH ha hA hs hk n (b + 1) (by rw [rsB_n hB, if_neg (by rw [e]; decide)]) (by omega) (by omega)
    refine bf (by simp (disch := omega) only [N_lit, N_add, N_mul, N_sub, N_addneg, N_neg1, N_addm, N_le, N_lt, N_eq, N_in, N_cl, N_ne, N_ne', N_ltm, N_mlt, N_lem] <;> omega) (c_isPair h ha hb ⟨fun q => no (by unfold rok; rw [q]; rfl), fun q => ?_⟩)
    unfold wp_X3_rests
    refine c_rests_lp h hH ha hb q ⟨fun q2 => no (by unfold rok; rw [q2, Bool.and_false]), fun q2 => ?_⟩ 2048 0 rfl (by omega) (by omega)
    unfold wp_X3_choose
    intro s1 e1 s2 e2
    refine hs a b s2 (rs_hit ha hb hA hB (by unfold rok; rw [q, q2]; rfl)) ?_ ?_ ?_
    · rw [e2, e1]
      exact (Fr.rf.si (decide_eq_true (by omega))).si (decide_eq_true (by omega))
    · rw [e2, e1]
      exact (g_nj (by decide)).trans g_eq
    · rw [e2]
      exact g_eq
theorem c_restO {T : TT} {W : WW} {x : fz_s} (h : CC T W 35 x) (hH : FH T W T.1 0 (x.1 179)) {Q : Bool → fz_s → Prop} (hs : ∀ a b x', rsA T W T.1 = some (a, b) → Fr pBg x x' → x'.1 180 0 = nI a → x'.1 180 1 = nI b → Q true x') (hn : rsA T W T.1 = none → Q false x) : ∀ (n a : Nat), rsA T W a = none → a ≤ T.1 → T.1 < n + a → lp_X3_findRest_7 35 Q n (nI a) x
  | 0, a, _, h1, h2 => absurd h2 (by omega)
  | n + 1, a, hA, h1, h2 => by
    have hn8 := h.1.1
    show nd_X3_findRest_7 35 (lp_X3_findRest_7 35 Q n) Q (nI a) x
    unfold nd_X3_findRest_7
    rw [h.2.2.1.1]
    by_cases c : a = T.1
    · subst c
      exact bt (by simp (disch := omega) only [N_lit, N_add, N_mul, N_sub, N_addneg, N_neg1, N_addm, N_le, N_lt, N_eq, N_in, N_cl, N_ne, N_ne', N_ltm, N_mlt, N_lem] <;> omega) (hn hA)
    exact bf (by simp (disch := omega) only [N_lit, N_add, N_mul, N_sub, N_addneg, N_neg1, N_addm, N_le, N_lt, N_eq, N_in, N_cl, N_ne, N_ne', N_ltm, N_mlt, N_lem] <;> omega) (c_restI h hH (by omega) hA hs (fun hB => c_restO h hH hs hn n (a + 1) (by rw [rsA_n hA, hB]) (by omega) (by omega)) 2048 0 rfl (by omega) (by omega))
theorem m_restI {T : TT} {W : WW} {m : fz_s} (h : MM T W m) (hL : LH T W m) {a : Nat} (ha : a < T.1) (hA : rsA T W a = none) {p0 : Int32} {K : Int32 → Int32 → fz_s → Prop} {Q : Int32 → fz_s → Prop} (hs : ∀ a b, rsA T W T.1 = some (a, b) → ((¬ p0 = 0 → Q (nI b) m) ∧ (p0 = 0 → Q (nI a) m))) (hk : rsB T W a T.1 = none → K p0 (nI (a + 1)) m) : ∀ (n b : Nat), rsB T W a b = none → b ≤ T.1 → T.1 < n + b → lp_X12_rest_38 K Q n p0 (nI a) (nI b) m
  | 0, b, _, h1, h2 => absurd h2 (by omega)
  | n + 1, b, hB, h1, h2 => by
    have hn := h.1.1
    show nd_X12_rest_38 K (lp_X12_rest_38 K Q n) Q p0 (nI a) (nI b) m
    unfold nd_X12_rest_38 wp_X12_personMany
    rw [h.2.2.1.1, nI_1, nI_1]
    by_cases c : b = T.1
    · subst c
      refine bt (by simp (disch := omega) only [N_lit, N_add, N_mul, N_sub, N_addneg, N_neg1, N_addm, N_le, N_lt, N_eq, N_in, N_cl, N_ne, N_ne', N_ltm, N_mlt, N_lem] <;> omega) ?_
      intro x1 e1
      subst e1
      exact hk hB
    have hb : b < T.1 := by omega
    have no : rok T W a b = false → ∀ x4 : Int32, x4 = nI (b + 1) → lp_X12_rest_38 K Q n p0 (nI a) x4 m := by
      intro e x4 e4
      subst e4
      exact m_restI h hL ha hA hs hk n (b + 1) (by rw [rsB_n hB, if_neg (by rw [e]; decide)]) (by omega) (by omega)
    refine bf (by simp (disch := omega) only [N_lit, N_add, N_mul, N_sub, N_addneg, N_neg1, N_addm, N_le, N_lt, N_eq, N_in, N_cl, N_ne, N_ne', N_ltm, N_mlt, N_lem] <;> omega) (m_ownIn (v := 0) h ha (by omega) ⟨fun q => no (by unfold rok ownP; rw [q]; rfl), fun q => m_ownIn (v := 1) h hb (by omega) ⟨fun q2 => no (by unfold rok ownP; rw [q2, Bool.and_false]; rfl), fun q2 => ?_⟩⟩)
    have ho : ownP T W a b = true := by unfold ownP; rw [q, q2]; rfl
    unfold wp_X12_isRest
    exact m_rests_lp h hL ha hb ho ⟨fun q3 => no (by unfold rok; rw [q3, Bool.and_false]), fun q3 => hs a b (rs_hit ha hb hA hB (by unfold rok; rw [ho, q3]; rfl))⟩ 2048 0 rfl (by omega) (by omega)
theorem m_restO {T : TT} {W : WW} {m : fz_s} (h : MM T W m) (hL : LH T W m) {p0 : Int32} {Q : Int32 → fz_s → Prop} (hs : ∀ a b, rsA T W T.1 = some (a, b) → ((¬ p0 = 0 → Q (nI b) m) ∧ (p0 = 0 → Q (nI a) m))) (hn : rsA T W T.1 = none → Q (-1) m) : ∀ (n a : Nat), rsA T W a = none → a ≤ T.1 → T.1 < n + a → lp_X12_rest_28 Q n p0 (nI a) m
  | 0, a, _, h1, h2 => absurd h2 (by omega)
  | n + 1, a, hA, h1, h2 => by
    have hn8 := h.1.1
    show nd_X12_rest_28 (lp_X12_rest_28 Q n) Q p0 (nI a) m
    unfold nd_X12_rest_28 wp_X12_personMany
    rw [h.2.2.1.1]
    by_cases c : a = T.1
    · subst c
      exact bt (by simp (disch := omega) only [N_lit, N_add, N_mul, N_sub, N_addneg, N_neg1, N_addm, N_le, N_lt, N_eq, N_in, N_cl, N_ne, N_ne', N_ltm, N_mlt, N_lem] <;> omega) (hn hA)
    exact bf (by simp (disch := omega) only [N_lit, N_add, N_mul, N_sub, N_addneg, N_neg1, N_addm, N_le, N_lt, N_eq, N_in, N_cl, N_ne, N_ne', N_ltm, N_mlt, N_lem] <;> omega) (m_restI h hL (by omega) hA hs (fun hB => m_restO h hL hs hn n (a + 1) (by rw [rsA_n hA, hB]) (by omega) (by omega)) 2048 0 rfl (by omega) (by omega))
theorem EQ_rest_ok : EQ_rest INV := by
  intro x m p0 h
  obtain ⟨t, T, W, kf, kn, ⟨tp, tn, h1⟩, h2, ⟨pn, h3⟩, ⟨sd, h4⟩, ⟨sn, nm, nl, h5⟩, h6, h7, ⟨us, ac, o, nw, h8⟩, ⟨rs, rn, h9⟩, h10⟩ := id h
  obtain ⟨z, rfl, hz⟩ := i_of p0
  have hn := h6.1.1.1
  have hyr := h6.2.2.1
  have m0 : m.1 232 0 = nI W.2.2.2.2.2 := h6.2.1.2.2.2.2.2.2.2.2
  have l0 : lR 0 := by unfold lR; omega
  have l1 : lR 1 := by unfold lR; omega
  have e1 : (iI z < 0) ↔ z < 0 := i_lt (b := 0) ⟨hz, by omega, by omega⟩
  have e2 : ((1 : Int32) < iI z) ↔ 1 < z := i_lt (a := 1) (b := z) ⟨⟨by omega, by omega⟩, hz⟩
  have z0 : (iI z = 0) ↔ z = 0 := i_eq (b := 0) ⟨hz, by omega, by omega⟩
  have no : (ahd t W 1 1 1 = false ∨ ¬ (0 ≤ z ∧ z ≤ 1)) → wp_X12_rest (iI z) m (fun r' m' => (-1 : Int32) = r' ∧ INV x m') := by
    intro hor
    unfold wp_X12_rest
    rw [i_64 hz]
    refine m_isAhead (lo := 1) (hi := 1) (z := 1) h5.2.1 m0 hyr (by omega) (by omega) (by omega) ⟨fun _ => ⟨rfl, h⟩, fun q => m_isIn (b := 0) (c := 1) (lR_i hz) l0 l1 ⟨fun q2 => ?_, fun _ => ⟨rfl, h⟩⟩⟩
    rcases hor with e | e
    · rw [q] at e; cases e
    · exact absurd (of_decide_eq_true q2) e
  unfold wp_X11_rest
  rw [e1, e2]
  by_cases c1 : z < 0
  · exact bt c1 (no (Or.inr (by omega)))
  refine bf c1 ?_
  by_cases c2 : 1 < z
  · exact bt c2 (no (Or.inr (by omega)))
  refine bf c2 (c_noTreaty h5.1 ⟨fun q => no (Or.inl (by rw [Bool.not_eq_true'] at q; unfold ahd; rw [q]; rfl)), fun q => ?_⟩)
  rw [Bool.not_eq_false'] at q
  refine c_beyond (z := 1) h6.1.2.2.2.1.2.2.2.2.2 hyr (by omega) ⟨fun q2 => no (Or.inl (by unfold ahd; have := of_decide_eq_true q2; rw [decide_eq_false (by omega), Bool.and_false])), fun q2 => ?_⟩
  have qb := of_decide_eq_false q2
  have yes : ∀ (x' : fz_s) (r : Int32), Fr pC x x' → (∀ m', Fdd m m' → ∀ a b, rsA T W T.1 = some (a, b) → ((¬ iI z = 0 → (r = nI b ∧ INV x' m')) ∧ (iI z = 0 → (r = nI a ∧ INV x' m')))) → (rsA T W T.1 = none → r = -1) → wp_X12_rest (iI z) m (fun r' m' => r = r' ∧ INV x' m') := by
    intro x' r hF hs hnn
    unfold wp_X12_rest
    rw [i_64 hz]
    refine m_isAhead (lo := 1) (hi := 1) (z := 1) h5.2.1 m0 hyr (by omega) (by omega) (by omega) ?_
    rw [show ahd t W 1 1 1 = true by unfold ahd; rw [q, decide_eq_true (by omega)]; rfl]
    refine ⟨fun q => (by cases q), fun _ => m_isIn (b := 0) (c := 1) (lR_i hz) l0 l1 ⟨fun _ => ?_, fun q => absurd (of_decide_eq_false q) (by omega)⟩⟩
    refine m_lays (by omega) h6.2.1 h6.2.2.2 (fun m' hm hl => ?_)
    exact m_restO (p0 := iI z) (h6.2.1.cg (fun a j q => hm.1 a j (pD_f (by omega)))) hl (hs m' hm) (fun e => ⟨hnn e, h.fd hF hm⟩) 2048 0 rfl (by omega) (by omega)
  unfold wp_X3_findRest
  refine c_fill h6.1 (fun x1 f1 H1 => ?_)
  refine c_restO (h6.1.pC (pFl_pC f1)) H1 (fun a b x2 hr f2 g0 g1 => ⟨fun _ => ⟨i_in ⟨by omega, by omega⟩, ?_⟩, fun q => (by cases q)⟩) (fun hr => ⟨fun q => (by cases q), fun _ => ?_⟩) 2048 0 rfl (by omega) (by omega)
  · have hF := (pFl_pC f1).tr (pBg_pC f2)
    refine yes x2 _ hF (fun m' hm a' b' hr' => ?_) (fun e => by rw [hr] at e; cases e)
    have e3 : (a', b') = (a, b) := Option.some.inj (hr'.symm.trans hr)
    have ea : a' = a := congrArg Prod.fst e3
    have eb : b' = b := congrArg Prod.snd e3
    rw [ea, eb, z0, i_cl hz]
    refine ⟨fun c => ⟨?_, h.fd hF hm⟩, fun c => ⟨?_, h.fd hF hm⟩⟩
    · rw [show z.toNat = 1 by omega]; exact g1
    · rw [show z.toNat = 0 by omega]; exact g0
  · exact yes x1 _ (pFl_pC f1) (fun m' hm a' b' hr' => by rw [hr] at hr'; cases hr') (fun _ => rfl)
/-! feign -/
def fgN (T : TT) (W : WW) (p w : Nat) : Bool := decide (snt T (stW W p w) (T.2.1 p) = p) && pass T (stW W p w) p
def fgZ (T : TT) (W : WW) (p : Nat) (z : Int) : Bool := decide (0 ≤ z ∧ z ≤ 9) && fgN T W p z.toNat
def feR (T : TT) (W : WW) (p : Nat) : Nat → Nat → Int
  | 0, _ => -1
  | f + 1, k => if fgZ T W p ((W.2.2.1 p : Int) - k) = true then (W.2.2.1 p : Int) - k else if fgZ T W p ((W.2.2.1 p : Int) + k) = true then (W.2.2.1 p : Int) + k else feR T W p f (k + 1)
theorem stW_2 (W : WW) (p u w : Nat) : stW (stW W p u) p w = stW W p w := by
  unfold stW
  dsimp only
  rw [show upf (upf W.2.2.1 p u) p w = upf W.2.2.1 p w from by
    funext q
    by_cases c : q = p
    · subst c; rw [upf_eq, upf_eq]
    · rw [upf_ne c, upf_ne c, upf_ne c]]
theorem stW_id (W : WW) (p : Nat) : stW W p (W.2.2.1 p) = W := by
  unfold stW
  rw [upf_id]
theorem c_feigned {T : TT} {W : WW} {p u : Nat} {z : Int} {x : fz_s} (h : CC T (stW W p u) 41 x) (hp : p < T.1) (hz : -20 ≤ z ∧ z ≤ 20) {Q : Bool → fz_s → Prop} (hq : ∀ x' u', CC T (stW W p u') 41 x' → Fr pC x x' → Q (fgZ T W p z) x') : wp_X11_feigned (nI p) (iI z) x Q := by
  have hn := h.1.1
  have hm := h.1.2.1 p hp
  unfold wp_X11_feigned
  have e1 : (iI z < 0) ↔ z < 0 := i_lt (b := 0) ⟨⟨by omega, by omega⟩, by omega, by omega⟩
  have e2 : (iI z ≤ 9) ↔ z ≤ 9 := i_le (b := 9) ⟨⟨by omega, by omega⟩, by omega, by omega⟩
  rw [e1, e2]
  by_cases c1 : z < 0
  · have := hq x u h Fr.rf
    rw [show fgZ T W p z = false by unfold fgZ; rw [decide_eq_false (by omega)]; rfl] at this
    exact bt c1 this
  refine bf c1 ?_
  by_cases c2 : z ≤ 9
  · obtain ⟨w, rfl⟩ : ∃ w : Nat, z = w := ⟨z.toNat, by omega⟩
    have ef : fgZ T W p (w : Int) = fgN T W p w := by
      unfold fgZ
      rw [decide_eq_true (by omega), Bool.true_and, Int.toNat_natCast]
    refine bt c2 ⟨N_in ⟨by omega, by omega⟩, fun s1 es => ⟨N_in ⟨by omega, by omega⟩, ?_⟩⟩
    rw [N_cl (by omega), ← i_nI] at es
    have h1 : CC T (stW W p w) 41 s1 := by
      have := h.w (v := p) (n := w) (by omega)
      rw [stW_2] at this
      rw [es]
      exact this
    have f1 : Fr pC x s1 := by rw [es]; exact Fr.rf.si (pC_t (by omega))
    rw [N_cl (by omega), show s1.1 10 p = nI (T.2.1 p) from h1.2.2.1.2.1 p hp]
    refine c_toSend h1 (by omega) (fun x2 f2 => ?_)
    have r0 := snt_r T (stW W p w) (T.2.1 p)
    have e3 : (iI (snt T (stW W p w) (T.2.1 p)) = nI p) ↔ snt T (stW W p w) (T.2.1 p) = p := by
      rw [i_nI]
      exact i_eq ⟨⟨by omega, by omega⟩, by omega, by omega⟩
    rw [e3]
    have h2 := h1.fr f2
    have f2' := f1.tr (pE_pC f2)
    refine ⟨fun c => ?_, fun c => ?_⟩
    · have := hq x2 w h2 f2'
      rw [ef, show fgN T W p w = false by unfold fgN; rw [decide_eq_false c]; rfl] at this
      exact this
    · rw [i_nI p]
      refine c_wouldPass h2 ⟨by omega, by omega⟩ (fun x3 f3 => ?_)
      have := hq x3 w (h2.fr f3) (f2'.tr (pE_pC f3))
      rw [ef, show fgN T W p w = pass T (stW W p w) p by unfold fgN; rw [decide_eq_true c, Bool.true_and]] at this
      rw [passI_n hp]
      exact ⟨fun e => by rw [e] at this; exact this, fun e => by rw [e] at this; exact this⟩
  · have := hq x u h Fr.rf
    rw [show fgZ T W p z = false by unfold fgZ; rw [decide_eq_false (by omega)]; rfl] at this
    exact bf c2 this
theorem c_feign_lp {T : TT} {W : WW} {p : Nat} (hp : p < T.1) (hw : W.2.2.1 p ≤ 9) {x0 : fz_s} {Q : Int32 → fz_s → Prop} {r : Int} (hq : ∀ x', Fr pC x0 x' → Q (iI r) x') : ∀ (f n k u : Nat) (x : fz_s), CC T (stW W p u) 41 x → Fr pC x0 x → f + k = 10 → 10 < n + k → feR T W p f k = r → lp_X11_feign_62 Q n (nI p) (nI (W.2.2.1 p)) (nI k) x
  | f, 0, k, u, x, _, _, h1, h2, _ => absurd h2 (by omega)
  | 0, n + 1, k, u, x, h, hF, h1, h2, hr => by
    have hk : k = 10 := by omega
    subst hk
    show nd_X11_feign_62 (lp_X11_feign_62 Q n) Q (nI p) (nI (W.2.2.1 p)) (nI 10) x
    unfold nd_X11_feign_62
    refine bt (by simp (disch := omega) only [N_lit, N_add, N_mul, N_sub, N_addneg, N_neg1, N_addm, N_le, N_lt, N_eq, N_in, N_cl, N_ne, N_ne', N_ltm, N_mlt, N_lem] <;> omega) ?_
    have := hq x hF
    rw [← hr] at this
    exact this
  | f + 1, n + 1, k, u, x, h, hF, h1, h2, hr => by
    show nd_X11_feign_62 (lp_X11_feign_62 Q n) Q (nI p) (nI (W.2.2.1 p)) (nI k) x
    unfold nd_X11_feign_62
    unfold feR at hr
    rw [show nI (W.2.2.1 p) - nI k = iI ((W.2.2.1 p : Int) - k) by rw [i_nI, i_nI, i_sub], show nI (W.2.2.1 p) + nI k = iI ((W.2.2.1 p : Int) + k) by rw [i_nI, i_nI, i_add]]
    refine bf (by simp (disch := omega) only [N_lit, N_add, N_mul, N_sub, N_addneg, N_neg1, N_addm, N_le, N_lt, N_eq, N_in, N_cl, N_ne, N_ne', N_ltm, N_mlt, N_lem] <;> omega) (c_feigned h hp (by omega) (fun x1 u1 h1' f1 => ⟨fun q => ?_, fun q => ?_⟩))
    · rw [if_neg (by rw [q]; decide)] at hr
      refine c_feigned h1' hp (by omega) (fun x2 u2 h2' f2 => ⟨fun q2 => ?_, fun q2 => ?_⟩)
      · rw [if_neg (by rw [q2]; decide)] at hr
        intro x5 e5
        rw [e5, nI_1]
        exact c_feign_lp hp hw hq f n (k + 1) u2 x2 h2' (hF.tr (f1.tr f2)) (by omega) (by omega) hr
      · rw [if_pos q2] at hr
        rw [hr]
        exact hq x2 (hF.tr (f1.tr f2))
    · rw [if_pos q] at hr
      rw [hr]
      exact hq x1 (hF.tr f1)
theorem m_sentWith {T : TT} {W : WW} {p w : Nat} {m : fz_s} (h : MM T W m) (hp : p < T.1) (hw : w ≤ 9) {Q : Bool → fz_s → Prop} (hq : ∀ m', Fr pM m m' → Q (fgN T W p w) m') : wp_X12_isSentWith (nI p) (nI w) m Q := by
  have hn := h.1.1
  have hm := h.1.2.1 p hp
  unfold wp_X12_isSentWith
  refine m_wits h hp ?_
  rw [show (5 : Int32) + 3 * nI p = nI (5 + 3 * p) by rw [show (3 : Int32) * nI p = nI (3 * p) from N_mul 3 p]; exact N_add 5 _, N_cl (by omega)]
  refine ⟨N_in ⟨by omega, by omega⟩, fun s3 e3 => ?_⟩
  have h3 : MM T (stW W p w) s3 := by rw [e3]; exact h.w hw
  have fin : ∀ (u : Bool) (s9 : fz_s), u = fgN T W p w → Fr pM s3 s9 → nd_X12_isSentWith_43 Q (nI p) (nI (W.2.2.1 p)) u s9 := by
    intro u s9 hu f9
    unfold nd_X12_isSentWith_43
    rw [show (5 : Int32) + 3 * nI p = nI (5 + 3 * p) by rw [show (3 : Int32) * nI p = nI (3 * p) from N_mul 3 p]; exact N_add 5 _, N_cl (by omega)]
    refine ⟨N_in ⟨by omega, by omega⟩, fun s1 e1 => ?_⟩
    rw [hu]
    refine hq s1 (fun a j ha => ?_)
    rw [e1]
    refine ⟨?_, ?_⟩
    · by_cases c : a = 232 ∧ j = 5 + 3 * p
      · rw [c.1, c.2, g_eq]
        exact (h.2.2.2.2.2.1 p hp).symm
      · rw [g_si, if_neg c, f9.i a j ha, e3, g_si, if_neg c]
    · show s9.2.1 a j = m.2.1 a j
      rw [f9.l a j ha, e3]
      rfl
  refine m_home h3 hp (m_sent h3 (by omega) (fun s7 f7 => ?_))
  have r0 := snt_r T (stW W p w) (T.2.1 p)
  have e4 : (iI (snt T (stW W p w) (T.2.1 p)) = nI p) ↔ snt T (stW W p w) (T.2.1 p) = p := by
    rw [i_nI]
    exact i_eq ⟨⟨by omega, by omega⟩, by omega, by omega⟩
  rw [e4]
  refine ⟨fun c => fin false s7 (by unfold fgN; rw [decide_eq_false c]; rfl) f7, fun c => m_pass (h3.pM f7) hp (fun s9 f9 => ⟨fun e => fin false s9 ?_ (f7.tr f9), fun e => fin true s9 ?_ (f7.tr f9)⟩)⟩
  · unfold fgN; rw [e, Bool.and_false]
  · unfold fgN; rw [e, decide_eq_true c]; rfl
theorem m_feign_lp {T : TT} {W : WW} {p : Nat} (hp : p < T.1) {m0 : fz_s} {Q : Int32 → fz_s → Prop} {r : Int} (hq : ∀ m', Fr pM m0 m' → Q (iI r) m') : ∀ (f n k : Nat) (m : fz_s), MM T W m → Fr pM m0 m → f + k = 10 → 10 < n + k → feR T W p f k = r → lp_X12_feign_30 Q n (nI p) (nI k) m
  | f, 0, k, m, _, _, h1, h2, _ => absurd h2 (by omega)
  | 0, n + 1, k, m, h, hF, h1, h2, hr => by
    have hk : k = 10 := by omega
    subst hk
    show nd_X12_feign_30 (lp_X12_feign_30 Q n) Q (nI p) (nI 10) m
    unfold nd_X12_feign_30
    refine bt (by simp (disch := omega) only [N_lit, N_add, N_mul, N_sub, N_addneg, N_neg1, N_addm, N_le, N_lt, N_eq, N_in, N_cl, N_ne, N_ne', N_ltm, N_mlt, N_lem] <;> omega) ?_
    have := hq m hF
    rw [← hr] at this
    exact this
  | f + 1, n + 1, k, m, h, hF, h1, h2, hr => by
    have hw := h.2.1.2.2.1 p hp
    show nd_X12_feign_30 (lp_X12_feign_30 Q n) Q (nI p) (nI k) m
    unfold nd_X12_feign_30
    unfold feR at hr
    refine bf (by simp (disch := omega) only [N_lit, N_add, N_mul, N_sub, N_addneg, N_neg1, N_addm, N_le, N_lt, N_eq, N_in, N_cl, N_ne, N_ne', N_ltm, N_mlt, N_lem] <;> omega) (m_wits h hp ?_)
    intro x3 e3
    refine m_wits h hp ?_
    intro x6 e6
    rw [show nI (W.2.2.1 p) - nI k = iI ((W.2.2.1 p : Int) - k) by rw [i_nI, i_nI, i_sub]] at e3
    rw [N_add] at e6
    subst e3
    subst e6
    have e1 : (iI ((W.2.2.1 p : Int) - k) < 0) ↔ (W.2.2.1 p : Int) - k < 0 := i_lt (b := 0) ⟨⟨by omega, by omega⟩, by omega, by omega⟩
    have more : ∀ s, MM T W s → Fr pM m0 s → fgZ T W p ((W.2.2.1 p : Int) - k) = false → nd_X12_feign_68 (lp_X12_feign_30 Q n) Q (nI p) (nI k) (nI (W.2.2.1 p + k)) s := by
      intro s hs hFs hz
      rw [if_neg (by rw [hz]; decide)] at hr
      unfold nd_X12_feign_68
      rw [nI_1]
      have nx : fgZ T W p ((W.2.2.1 p : Int) + k) = false → ∀ s', MM T W s' → Fr pM m0 s' → ∀ x1 : Int32, x1 = nI (k + 1) → lp_X12_feign_30 Q n (nI p) x1 s' := by
        intro hz2 s' hs' hF' x1 ex
        subst ex
        rw [if_neg (by rw [hz2]; decide)] at hr
        exact m_feign_lp hp hq f n (k + 1) s' hs' hF' (by omega) (by omega) hr
      by_cases c9 : 9 < W.2.2.1 p + k
      · exact bt (by simp (disch := omega) only [N_lit, N_add, N_mul, N_sub, N_addneg, N_neg1, N_addm, N_le, N_lt, N_eq, N_in, N_cl, N_ne, N_ne', N_ltm, N_mlt, N_lem] <;> omega) (nx (by unfold fgZ; rw [decide_eq_false (by omega)]; rfl) s hs hFs)
      · have ef : fgZ T W p ((W.2.2.1 p : Int) + k) = fgN T W p (W.2.2.1 p + k) := by
          unfold fgZ
          rw [decide_eq_true (by omega), Bool.true_and, show ((W.2.2.1 p : Int) + k).toNat = W.2.2.1 p + k by omega]
        refine bf (by simp (disch := omega) only [N_lit, N_add, N_mul, N_sub, N_addneg, N_neg1, N_addm, N_le, N_lt, N_eq, N_in, N_cl, N_ne, N_ne', N_ltm, N_mlt, N_lem] <;> omega) (m_sentWith hs hp (by omega) (fun s' f' => ⟨fun e => nx (ef.trans e) s' (hs.pM f') (hFs.tr f'), fun e => ?_⟩))
        rw [if_pos (ef.trans e)] at hr
        rw [i_nI, show ((W.2.2.1 p + k : Nat) : Int) = (W.2.2.1 p : Int) + k by omega, hr]
        exact hq s' (hFs.tr f')
    rw [e1]
    by_cases c0 : (W.2.2.1 p : Int) - k < 0
    · exact bt c0 (more m h hF (by unfold fgZ; rw [decide_eq_false (by omega)]; rfl))
    · have ef : fgZ T W p ((W.2.2.1 p : Int) - k) = fgN T W p (W.2.2.1 p - k) := by
        unfold fgZ
        rw [decide_eq_true (by omega), Bool.true_and, show ((W.2.2.1 p : Int) - k).toNat = W.2.2.1 p - k by omega]
      rw [show iI ((W.2.2.1 p : Int) - k) = nI (W.2.2.1 p - k) by rw [i_nI, show ((W.2.2.1 p - k : Nat) : Int) = (W.2.2.1 p : Int) - k by omega]]
      refine bf c0 (m_sentWith h hp (by omega) (fun s' f' => ⟨fun e => more s' (h.pM f') (hF.tr f') (ef.trans e), fun e => ?_⟩))
      rw [if_pos (ef.trans e)] at hr
      rw [i_nI, show ((W.2.2.1 p - k : Nat) : Int) = (W.2.2.1 p : Int) - k by omega, hr]
      exact hq s' (hF.tr f')
theorem EQ_feign_ok : EQ_feign INV := by
  intro x m p0 h
  obtain ⟨t, T, W, kf, kn, ⟨tp, tn, h1⟩, h2, ⟨pn, h3⟩, ⟨sd, h4⟩, ⟨sn, nm, nl, h5⟩, h6, h7, ⟨us, ac, o, nw, h8⟩, ⟨rs, rn, h9⟩, h10⟩ := id h
  obtain ⟨z, rfl, hz⟩ := i_of p0
  have hn := h6.1.1.1
  have hyr := h6.2.2.1
  have cT := h6.1.2.2.1
  have cW := h6.1.2.2.2.1
  have mT := h6.2.1.2.2.1
  have m0 : m.1 232 0 = nI W.2.2.2.2.2 := h6.2.1.2.2.2.2.2.2.2.2
  unfold wp_X11_feign wp_X12_feign
  refine c_noPerson cT.1 hn hz ⟨fun q => ?_, fun q => ?_⟩
  · exact m_isPerson mT.1 hn hz ⟨fun _ => ⟨rfl, h⟩, fun q2 => absurd (of_decide_eq_true q2) (not_dec.mp q)⟩
  have q' : 0 ≤ z ∧ z < T.1 := Decidable.byContradiction fun z => by rw [decide_eq_false z] at q; cases q
  have ht : t = true := Decidable.byContradiction fun e => by
    have := h5.2.2.1.1 ((Bool.not_eq_true _).mp e)
    omega
  obtain ⟨p, rfl⟩ : ∃ p : Nat, z = p := ⟨z.toNat, by omega⟩
  have hp : p < T.1 := by omega
  have hw := h6.1.2.1.2.2.1 p hp
  have hm := h6.1.1.2.1 p hp
  have hlv := lv_le (W := W) h6.1.1 hp
  have into : ∀ {Q : Int32 → fz_s → Prop}, (W.2.2.2.1 p = true → Q (-1) m) → (W.2.2.2.1 p = false → ahd t W 1 1 1 = true → lp_X12_feign_30 Q 2048 (nI p) 0 m) → (ahd t W 1 1 1 = false → Q (-1) m) → wp_X12_isPerson (iI (p : Int)) m (fun r1 s2 => ((r1 = false → Q (-1) s2) ∧ (r1 = true → wp_X12_isAway (iI (p : Int)) s2 (fun r3 s4 => ((r3 = true → Q (-1) s4) ∧ (r3 = false → wp_X12_isAhead 1 1 1 s4 (fun r5 s6 => ((r5 = true → lp_X12_feign_30 Q 2048 (iI (p : Int)) 0 s6) ∧ (r5 = false → Q (-1) s6))))))))) := by
    intro Q a b c
    refine m_isPerson mT.1 hn hz ⟨fun q2 => absurd q' (of_decide_eq_false q2), fun _ => ?_⟩
    rw [← i_nI]
    refine m_isAway h6.2.1 hp ⟨a, fun e => ?_⟩
    exact m_isAhead (lo := 1) (hi := 1) (z := 1) h5.2.1 m0 hyr (by omega) (by omega) (by omega) ⟨b e, c⟩
  refine c_beyond (z := 1) cW.2.2.2.2.2 hyr (by omega) ⟨fun q2 => ?_, fun q2 => ?_⟩
  · have eb : ahd t W 1 1 1 = false := by unfold ahd; have := of_decide_eq_true q2; rw [decide_eq_false (by omega), Bool.and_false]
    exact into (Q := fun r' m' => (-1 : Int32) = r' ∧ INV x m') (fun _ => ⟨rfl, h⟩) (fun _ e => by rw [eb] at e; cases e) (fun _ => ⟨rfl, h⟩)
  have eb : ahd t W 1 1 1 = true := by unfold ahd; have := of_decide_eq_false q2; rw [ht, decide_eq_true (by omega)]; rfl
  have hi : vp_in (iI (p : Int)) 8 := i_in ⟨by omega, by omega⟩
  rw [i_cl hz, Int.toNat_natCast, show x.1 39 p = nI (lv T W p) from cW.2.2.2.1 p hp, show x.1 10 p = nI (T.2.1 p) from cT.2.1 p hp, N_eq ⟨by omega, by omega⟩, lv_ne hm, show x.1 38 p = nI (W.2.2.1 p) from cW.2.2.1 p hp]
  refine ⟨hi, hi, fun c => ⟨hi, fun x5 e5 => ?_⟩, fun c => ?_⟩
  · subst e5
    refine c_takeW h6.1 (by omega) (by omega) (fun x1 f1 c1 _ => ?_)
    have c1' : CC T (stW W p (W.2.2.1 p)) 41 x1 := by rw [stW_id]; exact c1
    rw [← i_nI] at into ⊢
    refine c_feign_lp hp hw (x0 := x) (r := feR T W p 10 0) (fun x2 f2 => into (Q := fun r' m' => iI (feR T W p 10 0) = r' ∧ INV x2 m') (fun e => by rw [c] at e; cases e) (fun _ _ => ?_) (fun e => by rw [eb] at e; cases e)) 10 2048 0 (W.2.2.1 p) x1 c1' (pT_pC f1) (by omega) (by omega) rfl
    exact m_feign_lp hp (m0 := m) (r := feR T W p 10 0) (fun m' f' => ⟨rfl, h.fr f2 (pM_pD f')⟩) 10 2048 0 m h6.2.1 Fr.rf (by omega) (by omega) rfl
  · exact into (Q := fun r' m' => (-1 : Int32) = r' ∧ INV x m') (fun _ => ⟨rfl, h⟩) (fun e _ => absurd e c) (fun _ => ⟨rfl, h⟩)

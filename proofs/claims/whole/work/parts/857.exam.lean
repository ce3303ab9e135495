/-! EXAM -/
def hasQ (T : TT) (W : WW) (q p : Nat) : Nat := if q / 9 = 0 then W.2.2.1 p else if q / 9 = 1 then T.2.2.1 p else T.2.2.2.1 p
def ansQ (T : TT) (W : WW) (q p : Nat) : Bool := decide (hasQ T W q p < q % 9 + 1)
theorem hasQ_le {T : TT} {W : WW} (hT : TV T) (hW : WV T W) {q p : Nat} (hp : p < T.1) : hasQ T W q p ≤ 9 := by
  unfold hasQ
  split
  · exact hW.2.2.1 p hp
  split
  · exact hT.2.2.1 p hp
  · exact hT.2.2.2.1 p hp
theorem c_answer {T : TT} {W : WW} {p q : Nat} {x : fz_s} (h : CC T W 35 x) (hp : p < T.1) (hq27 : q < 27) {Q : Bool → fz_s → Prop} (hq : Q (ansQ T W q p) x) : wp_X1_answer 35 (nI p) (nI q) x Q := by
  have hn := h.1.1
  have hh := hasQ_le (q := q) h.1 h.2.1 hp
  unfold wp_X1_answer
  intro x1 e1
  rw [show nI q - nI q / 9 * 9 = nI (q % 9) from N_mod (b := 9) ⟨by omega, by omega⟩, nI_1] at e1
  subst e1
  have hi : vp_in (nI p) 8 := N_in ⟨by omega, by omega⟩
  rw [show nI q / 9 = nI (q / 9) from N_div (b := 9) ⟨by omega, by omega⟩, N_cl (by omega), h.2.2.2.1.2.2.1 p hp, show x.1 12 p = nI (T.2.2.1 p) from h.2.2.1.2.2.1 p hp, show x.1 13 p = nI (T.2.2.2.1 p) from h.2.2.1.2.2.2.1 p hp]
  have fin : ∀ v : Nat, v = hasQ T W q p → ((nI (q % 9 + 1) ≤ nI v → Q false x) ∧ (¬ nI (q % 9 + 1) ≤ nI v → Q true x)) := by
    intro v hv
    rw [hv, N_le ⟨by omega, by omega⟩]
    unfold ansQ at hq
    refine ⟨fun c => ?_, fun c => ?_⟩
    · rw [decide_eq_false (by omega)] at hq; exact hq
    · rw [decide_eq_true (by omega)] at hq; exact hq
  have e0 : (nI (q / 9) = 0) ↔ q / 9 = 0 := N_eq (b := 0) ⟨by omega, by omega⟩
  have e1 : (nI (q / 9) = 1) ↔ q / 9 = 1 := N_eq (b := 1) ⟨by omega, by omega⟩
  rw [e0, e1]
  refine ⟨fun c => ⟨hi, fin _ ?_⟩, fun c => ⟨hi, fin _ ?_⟩, fun c => ⟨hi, fin _ ?_⟩⟩
  · unfold hasQ; rw [if_pos c]
  · unfold hasQ; rw [if_neg (by omega), if_pos c]
  · unfold hasQ; rw [if_neg c.1, if_neg c.2]
def Bs (x : Int64) (S : Nat → Bool) : Prop := ∀ i, i < 64 → x.toBitVec.getLsbD i = S i
theorem Bs.or {x y : Int64} {S R : Nat → Bool} (h : Bs x S) (h2 : Bs y R) : Bs (x ||| y) (fun i => S i || R i) := fun i hi => by
  show (x.toBitVec ||| y.toBitVec).getLsbD i = _
  rw [BitVec.getLsbD_or, h i hi, h2 i hi]
theorem Bs.cg {x : Int64} {S R : Nat → Bool} (h : Bs x S) (he : ∀ i, i < 64 → R i = S i) : Bs x R := fun i hi => (h i hi).trans (he i hi).symm
theorem Bs.eq {x y : Int64} {S R : Nat → Bool} (h : Bs x S) (h2 : Bs y R) : x = y ↔ ∀ i, i < 64 → S i = R i := by
  constructor
  · intro e i hi
    rw [← h i hi, ← h2 i hi, e]
  · intro e
    exact Int64.toBitVec_inj.mp (BitVec.eq_of_getLsbD_eq (fun i hi => by rw [h i hi, h2 i hi]; exact e i hi))
theorem Bs_0 : Bs 0 (fun _ => false) := by
  unfold Bs
  decide +kernel
theorem lshl_b : ∀ k, k < 64 → ∀ i, i < 64 → (fz_lshl 1 (nI k)).toBitVec.getLsbD i = decide (i = k) := by decide +kernel
def dueP (T : TT) (W : WW) (i : Nat) : Bool := decide (i / 8 < T.1) && (decide (i % 8 < T.1) && (pass T W (i / 8) && !pass T W (i % 8)))
def prc (p r i : Nat) : Bool := decide (i / 8 < p ∨ (i / 8 = p ∧ i % 8 < r))
def dif (T : TT) (W : WW) (q i : Nat) : Bool := ansQ T W q (i / 8) != ansQ T W q (i % 8)
theorem prc_s {p r i : Nat} (hr : r < 8) : prc p (r + 1) i = (prc p r i || decide (i = 8 * p + r)) := by
  unfold prc
  rw [← Bool.decide_or, decide_eq_decide]
  omega
def EX (T : TT) (W : WW) (p r : Nat) (x : fz_s) : Prop := Bs (x.2.1 181 4) (fun i => dueP T W i && prc p r i) ∧ ∀ q, q < 27 → Bs (x.2.1 182 q) (fun i => (dueP T W i && prc p r i) && dif T W q i)
theorem EX.no {T : TT} {W : WW} {p r : Nat} {x : fz_s} (h : EX T W p r x) (hr : r < 8) (hd : dueP T W (8 * p + r) = false) : EX T W p (r + 1) x := by
  have key : ∀ i, (dueP T W i && prc p (r + 1) i) = (dueP T W i && prc p r i) := fun i => by
    rw [prc_s hr]
    by_cases c : i = 8 * p + r
    · rw [c, hd]; rfl
    · rw [decide_eq_false c, Bool.or_false]
  exact ⟨h.1.cg (fun i _ => key i), fun q hq => (h.2 q hq).cg (fun i _ => by rw [key i])⟩
theorem EX.nx {T : TT} {W : WW} {p : Nat} {x : fz_s} (h : EX T W p T.1 x) : EX T W (p + 1) 0 x := by
  have key : ∀ i, (dueP T W i && prc (p + 1) 0 i) = (dueP T W i && prc p T.1 i) := fun i => by
    unfold dueP prc
    by_cases c : i % 8 < T.1
    · rw [show decide (i / 8 < p + 1 ∨ i / 8 = p + 1 ∧ i % 8 < 0) = decide (i / 8 < p ∨ i / 8 = p ∧ i % 8 < T.1) by rw [decide_eq_decide]; omega]
    · rw [decide_eq_false c, Bool.false_and, Bool.and_false, Bool.false_and, Bool.false_and]
  exact ⟨h.1.cg (fun i _ => key i), fun q hq => (h.2 q hq).cg (fun i _ => by rw [key i])⟩
def p18 (a _j : Nat) : Bool := decide (a = 32 ∨ a = 33 ∨ a = 181 ∨ a = 182)
theorem p18_f {a j : Nat} (h : ¬ (a = 32 ∨ a = 33 ∨ a = 181 ∨ a = 182)) : p18 a j = false := decide_eq_false h
theorem p18_t {a j : Nat} (h : a = 32 ∨ a = 33 ∨ a = 181 ∨ a = 182) : p18 a j = true := decide_eq_true h
theorem p18_pC {s s' : fz_s} (h : Fr p18 s s') : Fr pC s s' := h.mono fun a j q => by
  have := of_decide_eq_false q
  exact p18_f (by omega)
theorem pE_p18 {s s' : fz_s} (h : Fr pE s s') : Fr p18 s s' := h.mono fun a j q => by
  have := of_decide_eq_false q
  exact pE_f (by omega)
theorem bi_eq (a b : Bool) : (bi a = bi b) ↔ a = b := by
  cases a <;> cases b <;> decide +kernel
theorem c_addq {T : TT} {W : WW} {p r : Nat} {x0 : fz_s} (h0 : CC T W 35 x0) (hp : p < T.1) (hr : r < T.1) (hd : dueP T W (8 * p + r) = true) {v4 : Int64} (hv : Bs v4 (fun i => decide (i = 8 * p + r))) {Q : fz_s → Prop} (hq : ∀ x', Fr p18 x0 x' → EX T W p (r + 1) x' → Q x') : ∀ (n q : Nat) (x : fz_s), Fr p18 x0 x → Bs (x.2.1 181 4) (fun i => dueP T W i && prc p (r + 1) i) → (∀ k, k < q → Bs (x.2.1 182 k) (fun i => (dueP T W i && prc p (r + 1) i) && dif T W k i)) → (∀ k, q ≤ k → k < 27 → Bs (x.2.1 182 k) (fun i => (dueP T W i && prc p r i) && dif T W k i)) → q ≤ 27 → 27 < n + q → lp_X1_addPair_24 35 Q n (nI p) (nI r) v4 (nI q) x
  | 0, q, x, _, _, _, _, h1, h2 => absurd h2 (by omega)
  | n + 1, q, x, hF, hD, hlo, hhi, h1, h2 => by
    have hn := h0.1.1
    have h := h0.pC (p18_pC hF)
    show nd_X1_addPair_24 35 (lp_X1_addPair_24 35 Q n) Q (nI p) (nI r) v4 (nI q) x
    unfold nd_X1_addPair_24
    by_cases c : q = 27
    · subst c
      exact bt (by simp (disch := omega) only [N_lit, N_add, N_mul, N_sub, N_addneg, N_neg1, N_addm, N_le, N_lt, N_eq, N_in, N_cl, N_ne, N_ne', N_ltm, N_mlt, N_lem] <;> omega) (hq x hF ⟨hD, hlo⟩)
    have hq27 : q < 27 := by omega
    refine bf (by simp (disch := omega) only [N_lit, N_add, N_mul, N_sub, N_addneg, N_neg1, N_addm, N_le, N_lt, N_eq, N_in, N_cl, N_ne, N_ne', N_ltm, N_mlt, N_lem] <;> omega) (c_answer h hp hq27 (c_answer h hr hq27 ?_))
    rw [bi_eq, nI_1]
    have key : ∀ i, ((dueP T W i && prc p (r + 1) i) && dif T W q i) = (((dueP T W i && prc p r i) && dif T W q i) || (decide (i = 8 * p + r) && dif T W q i)) := fun i => by
      rw [prc_s (show r < 8 by omega)]
      by_cases ci : i = 8 * p + r
      · rw [decide_eq_true ci, ci, hd, Bool.or_true, Bool.true_and, Bool.true_and, Bool.true_and]
        cases dif T W q (8 * p + r) <;> simp
      · rw [decide_eq_false ci, Bool.or_false, Bool.false_and, Bool.or_false]
    have dk : dif T W q (8 * p + r) = (ansQ T W q p != ansQ T W q r) := by
      unfold dif
      rw [show (8 * p + r) / 8 = p by omega, show (8 * p + r) % 8 = r by omega]
    refine ⟨fun e x5 e5 => ?_, fun e => ⟨N_in ⟨by omega, by omega⟩, N_in ⟨by omega, by omega⟩, fun s6 e6 x7 e7 => ?_⟩⟩
    · subst e5
      refine c_addq h0 hp hr hd hv hq n (q + 1) x hF hD (fun k hk => ?_) (fun k hk hk2 => hhi k (by omega) hk2) (by omega) (by omega)
      by_cases ck : k = q
      · subst ck
        refine (hhi k (by omega) (by omega)).cg (fun i hi => ?_)
        rw [key i]
        by_cases ci : i = 8 * p + r
        · rw [ci, dk, e]
          simp
        · rw [decide_eq_false ci, Bool.false_and, Bool.or_false]
      · exact hlo k (by omega)
    · subst e7
      rw [N_cl (by omega)] at e6
      have hne : (ansQ T W q p != ansQ T W q r) = true := by
        cases h1 : ansQ T W q p <;> cases h2 : ansQ T W q r <;> first | rfl | (exfalso; exact e (by rw [h1, h2]))
      refine c_addq h0 hp hr hd hv hq n (q + 1) s6 (by rw [e6]; exact hF.sl (p18_t (by omega))) (by rw [e6, gl_ne (by omega)]; exact hD) (fun k hk => ?_) (fun k hk hk2 => by rw [e6, gl_nj (by omega)]; exact hhi k (by omega) hk2) (by omega) (by omega)
      by_cases ck : k = q
      · subst ck
        rw [e6, gl_eq]
        refine ((hhi k (by omega) (by omega)).or hv).cg (fun i hi => ?_)
        rw [key i]
        by_cases ci : i = 8 * p + r
        · rw [ci, dk, hne]
          simp
        · rw [decide_eq_false ci, Bool.false_and]
      · rw [e6, gl_nj ck]
        exact hlo k (by omega)

/-! EXAM: the class -/
def fN (f : Nat → Bool) (n w : Nat) : Bool := f w && decide (w < n)
theorem bts_fN (f : Nat → Bool) (n : Nat) : ∀ k, n ≤ k → bts (fN f n) k = bts f n
  | 0, h => by
    have : n = 0 := by omega
    subst this
    rfl
  | k + 1, h => by
    by_cases c : n = k + 1
    · subst c
      exact bts_cong _ (fun w hw => by unfold fN; rw [decide_eq_true hw, Bool.and_true])
    · show (if fN f n k = true then _ else bts (fN f n) k) = _
      rw [if_neg (by unfold fN; rw [decide_eq_false (by omega), Bool.and_false]; decide)]
      exact bts_fN f n k (by omega)
theorem bts_v10 : ∀ b0 b1 b2 b3 b4 b5 b6 b7 b8 b9 : Bool, ∀ w, w < 10 → ((bts (bt10 b0 b1 b2 b3 b4 b5 b6 b7 b8 b9) 10 >>> (nI w &&& 31)) &&& 1) = nI (b01 (bt10 b0 b1 b2 b3 b4 b5 b6 b7 b8 b9 w)) := by decide +kernel
theorem bts_v (f : Nat → Bool) {n w : Nat} (hn : n ≤ 10) (hw : w < n) : (bts f n >>> (nI w &&& 31)) &&& 1 = nI (b01 (f w)) := by
  have e1 : bts f n = bts (fN f n) 10 := (bts_fN f n 10 hn).symm
  have e2 : f w = fN f n w := by unfold fN; rw [decide_eq_true hw, Bool.and_true]
  rw [e1, e2, bts_cong 10 (bt10_eq (fN f n)), bt10_eq (fN f n) w (by omega)]
  exact bts_v10 _ _ _ _ _ _ _ _ _ _ w (by omega)
theorem c_fill80 {T : TT} {W : WW} {p : Nat} {x0 : fz_s} (h0 : CC T W 35 x0) (hp : p < T.1) {K : Int32 → Int32 → fz_s → Prop} {Q : fz_s → Prop} (hq : ∀ x', Fr p18 x0 x' → EX T W (p + 1) 0 x' → K (bts (pass T W) T.1) (nI (p + 1)) x') : ∀ (n r : Nat) (x : fz_s), Fr p18 x0 x → EX T W p r x → r ≤ T.1 → T.1 < n + r → lp_X1_fillParts_80 35 K Q n (bts (pass T W) T.1) (nI p) (nI r) x
  | 0, r, x, _, _, h1, h2 => absurd h2 (by omega)
  | n + 1, r, x, hF, hE, h1, h2 => by
    have hn := h0.1.1
    have h := h0.pC (p18_pC hF)
    show nd_X1_fillParts_80 35 K (lp_X1_fillParts_80 35 K Q n) Q (bts (pass T W) T.1) (nI p) (nI r) x
    unfold nd_X1_fillParts_80
    rw [h.2.2.1.1, nI_1, nI_1]
    by_cases c : r = T.1
    · subst c
      refine bt (by simp (disch := omega) only [N_lit, N_add, N_mul, N_sub, N_addneg, N_neg1, N_addm, N_le, N_lt, N_eq, N_in, N_cl, N_ne, N_ne', N_ltm, N_mlt, N_lem] <;> omega) ?_
      intro x1 e1
      subst e1
      exact hq x hF hE.nx
    have hr : r < T.1 := by omega
    have dk : dueP T W (8 * p + r) = (pass T W p && !pass T W r) := by
      unfold dueP
      rw [show (8 * p + r) / 8 = p by omega, show (8 * p + r) % 8 = r by omega, decide_eq_true hp, decide_eq_true hr, Bool.true_and, Bool.true_and]
    have no : dueP T W (8 * p + r) = false → ∀ x2 : Int32, x2 = nI (r + 1) → lp_X1_fillParts_80 35 K Q n (bts (pass T W) T.1) (nI p) x2 x := by
      intro e x2 e2
      subst e2
      exact c_fill80 h0 hp hq n (r + 1) x hF (hE.no (by omega) e) (by omega) (by omega)
    rw [bts_v (pass T W) (by omega) hp, bts_v (pass T W) (by omega) hr]
    have z : ∀ b : Bool, (nI (b01 b) = 0) ↔ b = false := fun b => by cases b <;> decide +kernel
    rw [z, z]
    refine bf (by simp (disch := omega) only [N_lit, N_add, N_mul, N_sub, N_addneg, N_neg1, N_addm, N_le, N_lt, N_eq, N_in, N_cl, N_ne, N_ne', N_ltm, N_mlt, N_lem] <;> omega) ⟨fun e => no (by rw [dk, e]; rfl), fun e => ⟨fun e2 => no (by rw [dk, (Bool.not_eq_false _).mp e2]; simp), fun e2 => ?_⟩⟩
    have hd : dueP T W (8 * p + r) = true := by rw [dk, (Bool.not_eq_false _).mp e, e2]; rfl
    unfold wp_X1_addPair
    intro x1 e1 s2 es2
    rw [show nI p * 8 = nI (p * 8) from N_mul p 8, N_add, show p * 8 + r = 8 * p + r by omega] at e1
    have hv : Bs x1 (fun i => decide (i = 8 * p + r)) := by
      rw [e1]
      exact fun i hi => lshl_b (8 * p + r) (by omega) i hi
    refine c_addq h0 hp hr hd hv (fun x' f' E' => ?_) 2048 0 s2 (by rw [es2]; exact hF.sl (p18_t (by omega))) ?_ (fun k hk => absurd hk (Nat.not_lt_zero _)) (fun k _ hk => by rw [es2, gl_ne (by omega)]; exact hE.2 k hk) (by omega) (by omega)
    · intro x6 e6
      subst e6
      exact c_fill80 h0 hp hq n (r + 1) x' f' E' (by omega) (by omega)
    · rw [es2, gl_eq]
      refine (hE.1.or hv).cg (fun i hi => ?_)
      rw [prc_s (show r < 8 by omega)]
      by_cases ci : i = 8 * p + r
      · rw [decide_eq_true ci, ci, hd]; simp
      · rw [decide_eq_false ci, Bool.or_false, Bool.or_false]
theorem c_fill66 {T : TT} {W : WW} {x0 : fz_s} (h0 : CC T W 35 x0) {Q : fz_s → Prop} (hq : ∀ x', Fr p18 x0 x' → EX T W T.1 0 x' → Q x') : ∀ (n p : Nat) (x : fz_s), Fr p18 x0 x → EX T W p 0 x → p ≤ T.1 → T.1 < n + p → lp_X1_fillParts_66 35 Q n (bts (pass T W) T.1) (nI p) x
  | 0, p, x, _, _, h1, h2 => absurd h2 (by omega)
  | n + 1, p, x, hF, hE, h1, h2 => by
    have hn := h0.1.1
    have h := h0.pC (p18_pC hF)
    show nd_X1_fillParts_66 35 (lp_X1_fillParts_66 35 Q n) Q (bts (pass T W) T.1) (nI p) x
    unfold nd_X1_fillParts_66
    rw [h.2.2.1.1]
    by_cases c : p = T.1
    · subst c
      exact bt (by simp (disch := omega) only [N_lit, N_add, N_mul, N_sub, N_addneg, N_neg1, N_addm, N_le, N_lt, N_eq, N_in, N_cl, N_ne, N_ne', N_ltm, N_mlt, N_lem] <;> omega) (hq x hF hE)
    exact bf (by simp (disch := omega) only [N_lit, N_add, N_mul, N_sub, N_addneg, N_neg1, N_addm, N_le, N_lt, N_eq, N_in, N_cl, N_ne, N_ne', N_ltm, N_mlt, N_lem] <;> omega) (c_fill80 h0 (by omega) (fun x' f' E' => c_fill66 h0 hq n (p + 1) x' f' E' (by omega) (by omega)) 2048 0 x hF hE (by omega) (by omega))
theorem EX.pE {T : TT} {W : WW} {p r : Nat} {x x' : fz_s} (h : EX T W p r x) (hF : Fr pE x x') : EX T W p r x' := ⟨by rw [hF.l _ _ (pE_f (by omega))]; exact h.1, fun q hq => by rw [hF.l _ _ (pE_f (by omega))]; exact h.2 q hq⟩
theorem c_fill30 {T : TT} {W : WW} {x0 : fz_s} (h0 : CC T W 35 x0) {Q : fz_s → Prop} (hq : ∀ x', Fr p18 x0 x' → EX T W T.1 0 x' → Q x') : ∀ (n p : Nat) (x : fz_s), Fr p18 x0 x → EX T W 0 0 x → p ≤ T.1 → T.1 < n + p → lp_X1_fillParts_30 35 Q n (bts (pass T W) p) (nI p) x
  | 0, p, x, _, _, h1, h2 => absurd h2 (by omega)
  | n + 1, p, x, hF, hE, h1, h2 => by
    have hn := h0.1.1
    have h := h0.pC (p18_pC hF)
    show nd_X1_fillParts_30 35 (lp_X1_fillParts_30 35 Q n) Q (bts (pass T W) p) (nI p) x
    unfold nd_X1_fillParts_30
    rw [h.2.2.1.1]
    by_cases c : p = T.1
    · subst c
      exact bt (by simp (disch := omega) only [N_lit, N_add, N_mul, N_sub, N_addneg, N_neg1, N_addm, N_le, N_lt, N_eq, N_in, N_cl, N_ne, N_ne', N_ltm, N_mlt, N_lem] <;> omega) (c_fill66 h0 hq 2048 0 x hF hE (by omega) (by omega))
    have hp : p < T.1 := by omega
    refine bf (by simp (disch := omega) only [N_lit, N_add, N_mul, N_sub, N_addneg, N_neg1, N_addm, N_le, N_lt, N_eq, N_in, N_cl, N_ne, N_ne', N_ltm, N_mlt, N_lem] <;> omega) ?_
    rw [i_nI p]
    refine c_wouldPass h ⟨by omega, by omega⟩ (fun x1 f1 => c_bit ?_)
    intro x5 e5 x6 e6
    rw [passI_n hp, ← i_nI p, bts_c (pass T W) (by omega)] at e5
    rw [e5, e6, ← i_nI p, nI_1]
    exact c_fill30 h0 hq n (p + 1) x1 (hF.tr (pE_p18 f1)) (hE.pE f1) (by omega) (by omega)
theorem c_fill7 {T : TT} {W : WW} {x0 : fz_s} (h0 : CC T W 35 x0) {Q : fz_s → Prop} (hq : ∀ x', Fr p18 x0 x' → EX T W T.1 0 x' → Q x') : ∀ (n q : Nat) (x : fz_s), Fr p18 x0 x → x.2.1 181 4 = 0 → (∀ k, k < q → x.2.1 182 k = 0) → q ≤ 27 → 27 < n + q → lp_X1_fillParts_7 35 Q n (nI q) x
  | 0, q, x, _, _, _, h1, h2 => absurd h2 (by omega)
  | n + 1, q, x, hF, hd, hz, h1, h2 => by
    have hn := h0.1.1
    show nd_X1_fillParts_7 35 (lp_X1_fillParts_7 35 Q n) Q (nI q) x
    unfold nd_X1_fillParts_7
    by_cases c : q = 27
    · subst c
      refine bt (by simp (disch := omega) only [N_lit, N_add, N_mul, N_sub, N_addneg, N_neg1, N_addm, N_le, N_lt, N_eq, N_in, N_cl, N_ne, N_ne', N_ltm, N_mlt, N_lem] <;> omega) (c_fill30 h0 hq 2048 0 x hF ⟨?_, fun k hk => ?_⟩ (by omega) (by omega))
      · rw [hd]
        refine Bs_0.cg (fun i _ => ?_)
        unfold prc
        rw [decide_eq_false (by omega), Bool.and_false]
      · rw [hz k hk]
        refine Bs_0.cg (fun i _ => ?_)
        unfold prc
        rw [decide_eq_false (by omega), Bool.and_false, Bool.false_and]
    refine bf (by simp (disch := omega) only [N_lit, N_add, N_mul, N_sub, N_addneg, N_neg1, N_addm, N_le, N_lt, N_eq, N_in, N_cl, N_ne, N_ne', N_ltm, N_mlt, N_lem] <;> omega) ⟨N_in ⟨by omega, by omega⟩, fun s1 e1 x2 e2 => ?_⟩
    rw [N_cl (by omega)] at e1
    rw [e2, nI_1]
    refine c_fill7 h0 hq n (q + 1) s1 (by rw [e1]; exact hF.sl (p18_t (by omega))) (by rw [e1, gl_ne (by omega)]; exact hd) (fun k hk => ?_) (by omega) (by omega)
    rw [e1]
    by_cases ck : k = q
    · subst ck; exact gl_eq
    · rw [gl_nj ck]; exact hz k (by omega)
theorem c_fillP {T : TT} {W : WW} {x : fz_s} (h : CC T W 35 x) {Q : fz_s → Prop} (hq : ∀ x', Fr p18 x x' → EX T W T.1 0 x' → Q x') : wp_X1_fillParts 35 x Q := by
  unfold wp_X1_fillParts
  intro s1 e1
  exact c_fill7 h hq 2048 0 s1 (by rw [e1]; exact Fr.rf.sl (p18_t (by omega))) (by rw [e1]; exact gl_eq) (fun k hk => absurd hk (Nat.not_lt_zero _)) (by omega) (by omega)
/-! the search, as it is asked -/
def anyD (T : TT) (W : WW) (ch : Nat → Nat) (i : Nat) : Nat → Bool
  | 0 => false
  | k + 1 => anyD T W ch i k || dif T W (ch k) i
theorem anyD_cg {T : TT} {W : WW} {ch ch' : Nat → Nat} {i : Nat} : ∀ k, (∀ j, j < k → ch' j = ch j) → anyD T W ch' i k = anyD T W ch i k
  | 0, _ => rfl
  | k + 1, h => by
    unfold anyD
    rw [anyD_cg k (fun j hj => h j (by omega)), h k (by omega)]
def okN (T : TT) (W : WW) (ch : Nat → Nat) (k : Nat) : Nat → Bool
  | 0 => true
  | i + 1 => okN T W ch k i && (!dueP T W i || anyD T W ch i k)
theorem okN_t {T : TT} {W : WW} {ch : Nat → Nat} {k : Nat} : ∀ n, okN T W ch k n = true ↔ ∀ i, i < n → dueP T W i = true → anyD T W ch i k = true
  | 0 => ⟨fun _ i hi => absurd hi (Nat.not_lt_zero _), fun _ => rfl⟩
  | n + 1 => by
    unfold okN
    rw [Bool.and_eq_true, okN_t n, Bool.or_eq_true, Bool.not_eq_true']
    constructor
    · intro h i hi e
      by_cases c : i = n
      · subst c
        rcases h.2 with z | z
        · rw [e] at z; cases z
        · exact z
      · exact h.1 i (by omega) e
    · intro h
      refine ⟨fun i hi => h i (by omega), ?_⟩
      cases e : dueP T W n with
      | false => exact Or.inl rfl
      | true => exact Or.inr (h n (by omega) e)
def okE (T : TT) (W : WW) (ch : Nat → Nat) (k : Nat) : Bool := okN T W ch k 64
def gon (f : Nat → Option (Nat → Nat)) : Nat → Nat → Option (Nat → Nat)
  | 0, _ => none
  | d + 1, q => match f q with
    | some z => some z
    | none => gon f d (q + 1)
theorem gon_n {f : Nat → Option (Nat → Nat)} {d q : Nat} (h : f q = none) : gon f (d + 1) q = gon f d (q + 1) := by
  show (match f q with
    | some z => some z
    | none => gon f d (q + 1)) = _
  rw [h]
theorem gon_s {f : Nat → Option (Nat → Nat)} {d q : Nat} {z : Nat → Nat} (h : f q = some z) : gon f (d + 1) q = some z := by
  show (match f q with
    | some z => some z
    | none => gon f d (q + 1)) = _
  rw [h]
def fnd (T : TT) (W : WW) : Nat → Nat → Nat → (Nat → Nat) → Option (Nat → Nat)
  | 0, k, _, ch => if okE T W ch k = true then some ch else none
  | r + 1, k, lo, ch => gon (fun q => fnd T W r (k + 1) (q + 1) (upf ch k q)) (27 - lo) lo
def p183 (a _j : Nat) : Bool := decide (a = 183)
theorem p183_f {a j : Nat} (h : a ≠ 183) : p183 a j = false := decide_eq_false h
theorem p183_pC {s s' : fz_s} (h : Fr p183 s s') : Fr pC s s' := h.mono fun a j q => by
  have := of_decide_eq_false q
  exact p183_f (by omega)
theorem EX.p {T : TT} {W : WW} {p r : Nat} {x x' : fz_s} (h : EX T W p r x) (hF : Fr p183 x x') : EX T W p r x' := ⟨by rw [hF.l _ _ (p183_f (by omega))]; exact h.1, fun q hq => by rw [hF.l _ _ (p183_f (by omega))]; exact h.2 q hq⟩
theorem dueP_n {T : TT} {W : WW} (i : Nat) : (dueP T W i && prc T.1 0 i) = dueP T W i := by
  unfold dueP prc
  by_cases c : i / 8 < T.1
  · rw [decide_eq_true (p := i / 8 < T.1 ∨ i / 8 = T.1 ∧ i % 8 < 0) (Or.inl c), Bool.and_true]
  · rw [decide_eq_false c]; rfl
theorem c_search {T : TT} {W : WW} {c : Nat} (hc : c ≤ 3) : ∀ (r f k lo : Nat) (ch : Nat → Nat) (pd : Int64) (x : fz_s) (Q : Bool → fz_s → Prop), k + r = c → r < f → lo ≤ 27 → x.1 181 5 = nI c → EX T W T.1 0 x → Bs pd (fun i => dueP T W i && anyD T W ch i k) → (∀ j, j < k → x.1 183 j = nI (ch j)) → (∀ z x', fnd T W r k lo ch = some z → Fr p183 x x' → (∀ j, j < c → x'.1 183 j = nI (z j)) → Q true x') → (∀ x', fnd T W r k lo ch = none → Fr p183 x x' → (∀ j, j < k → x'.1 183 j = nI (ch j)) → Q false x') → wp_S f (nI k) (nI lo) pd x Q
  | r, 0, k, lo, ch, pd, x, Q, _, hf, _, _, _, _, _, _, _ => absurd hf (Nat.not_lt_zero _)
  | 0, f + 1, k, lo, ch, pd, x, Q, hk, _, hlo, h5, hE, hB, hC, hs, hn => by
    have hkc : k = c := by omega
    subst hkc
    show wp_X1_search (wp_S f) (nI k) (nI lo) pd x Q
    unfold wp_X1_search
    rw [h5]
    refine bt (by simp (disch := omega) only [N_lit, N_add, N_mul, N_sub, N_addneg, N_neg1, N_addm, N_le, N_lt, N_eq, N_in, N_cl, N_ne, N_ne', N_ltm, N_mlt, N_lem] <;> omega) ?_
    unfold nd_X1_search_13
    have eqv : (pd = x.2.1 181 4) ↔ okE T W ch k = true := by
      rw [Bs.eq hB hE.1]
      unfold okE
      rw [okN_t]
      constructor
      · intro z i hi e
        have := z i hi
        rw [dueP_n, e, Bool.true_and] at this
        exact this
      · intro z i hi
        rw [dueP_n]
        cases e : dueP T W i with
        | false => rfl
        | true => rw [Bool.true_and]; exact z i hi e
    rw [lg_cmp_eq, eqv]
    have ef : fnd T W 0 k lo ch = if okE T W ch k = true then some ch else none := rfl
    refine ⟨fun e => hn x (by rw [ef, if_neg e]) Fr.rf hC, fun e => hs ch x (by rw [ef, if_pos e]) Fr.rf hC⟩
  | r + 1, f + 1, k, lo, ch, pd, x, Q, hk, hf, hlo, h5, hE, hB, hC, hs, hn => by
    show wp_X1_search (wp_S f) (nI k) (nI lo) pd x Q
    unfold wp_X1_search
    rw [h5]
    refine bf (by simp (disch := omega) only [N_lit, N_add, N_mul, N_sub, N_addneg, N_neg1, N_addm, N_le, N_lt, N_eq, N_in, N_cl, N_ne, N_ne', N_ltm, N_mlt, N_lem] <;> omega) (bt (by simp (disch := omega) only [N_lit, N_add, N_mul, N_sub, N_addneg, N_neg1, N_addm, N_le, N_lt, N_eq, N_in, N_cl, N_ne, N_ne', N_ltm, N_mlt, N_lem] <;> omega) ?_)
    have ef : fnd T W (r + 1) k lo ch = gon (fun q => fnd T W r (k + 1) (q + 1) (upf ch k q)) (27 - lo) lo := rfl
    rw [ef] at hs hn
    have loop : ∀ (d n q : Nat) (y : fz_s), q + d = 27 → d < n → Fr p183 x y → (∀ j, j < k → y.1 183 j = nI (ch j)) → gon (fun q => fnd T W r (k + 1) (q + 1) (upf ch k q)) (27 - lo) lo = gon (fun q => fnd T W r (k + 1) (q + 1) (upf ch k q)) d q → lp_X1_search_31 (wp_S f) Q n (nI k) pd (nI q) y := by
      intro d
      induction d with
      | zero =>
        intro n q y hq hn' hF hy he
        cases n with
        | zero => exact absurd hn' (by omega)
        | succ n =>
          have : q = 27 := by omega
          subst this
          show nd_X1_search_31 (wp_S f) (lp_X1_search_31 (wp_S f) Q n) Q (nI k) pd (nI 27) y
          unfold nd_X1_search_31
          exact bt (by simp (disch := omega) only [N_lit, N_add, N_mul, N_sub, N_addneg, N_neg1, N_addm, N_le, N_lt, N_eq, N_in, N_cl, N_ne, N_ne', N_ltm, N_mlt, N_lem] <;> omega) (hn y he hF hy)
      | succ d ih =>
        intro n q y hq hn' hF hy he
        cases n with
        | zero => exact absurd hn' (by omega)
        | succ n =>
          show nd_X1_search_31 (wp_S f) (lp_X1_search_31 (wp_S f) Q n) Q (nI k) pd (nI q) y
          unfold nd_X1_search_31
          refine bf (by simp (disch := omega) only [N_lit, N_add, N_mul, N_sub, N_addneg, N_neg1, N_addm, N_le, N_lt, N_eq, N_in, N_cl, N_ne, N_ne', N_ltm, N_mlt, N_lem] <;> omega) ⟨N_in ⟨by omega, by omega⟩, fun s1 e1 => ⟨N_in ⟨by omega, by omega⟩, ?_⟩⟩
          rw [N_cl (by omega)] at e1
          have f1 : Fr p183 x s1 := by rw [e1]; exact hF.si (decide_eq_true rfl)
          have hEq := (hE.p f1).2 q (by omega)
          rw [N_cl (by omega), nI_1, nI_1]
          refine c_search hc r f (k + 1) (q + 1) (upf ch k q) _ s1 _ (by omega) (by omega) (by omega) ((f1.i _ _ (p183_f (by omega))).trans h5) (hE.p f1) ?_ (fun j hj => ?_) (fun z x' hz f' hz' => ?_) (fun x' hz f' hp => ?_)
          · refine (hB.or hEq).cg (fun i hi => ?_)
            rw [dueP_n]
            show (dueP T W i && (anyD T W (upf ch k q) i k || dif T W (upf ch k q k) i)) = _
            rw [upf_eq, anyD_cg (ch := ch) k (fun j hj => upf_ne (by omega)), Bool.and_or_distrib_left]
          · rw [e1]
            by_cases cj : j = k
            · subst cj; rw [upf_eq, g_eq]
            · rw [upf_ne cj, g_nj cj]; exact hy j (by omega)
          · refine ⟨fun e => (by cases e), fun _ => hs z x' ?_ (f1.tr f') hz'⟩
            rw [he]
            exact gon_s hz
          · refine ⟨fun _ x4 e4 => ?_, fun e => (by cases e)⟩
            subst e4
            refine ih n (q + 1) x' (by omega) (by omega) (f1.tr f') (fun j hj => ?_) (he.trans (gon_n hz))
            have := hp j (by omega)
            rw [upf_ne (by omega)] at this
            exact this
    exact loop (27 - lo) 2048 lo x (by omega) (by omega) Fr.rf hC rfl

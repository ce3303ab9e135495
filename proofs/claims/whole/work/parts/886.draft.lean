/-! THE TREATY'S DRAFT -/
theorem y_encinj {f g : Nat → Nat} : ∀ {n n' : Nat}, (∀ k, k < n → 1 ≤ f k ∧ f k ≤ 26) → (∀ k, k < n' → 1 ≤ g k ∧ g k ≤ 26) → enc f n = enc g n' → n = n' ∧ ∀ k, k < n → f k = g k
  | 0, 0, _, _, _ => ⟨rfl, fun k hk => absurd hk (Nat.not_lt_zero _)⟩
  | 0, n' + 1, _, hg, h => by
    have h' : 0 = 27 * enc g n' + g n' := h
    have := hg n' (by omega)
    omega
  | n + 1, 0, hf, _, h => by
    have h' : 27 * enc f n + f n = 0 := h
    have := hf n (by omega)
    omega
  | n + 1, n' + 1, hf, hg, h => by
    have h' : 27 * enc f n + f n = 27 * enc g n' + g n' := h
    have h1 := hf n (by omega)
    have h2 := hg n' (by omega)
    obtain ⟨e1, e2⟩ := y_encinj (f := f) (g := g) (n := n) (n' := n') (fun k hk => hf k (by omega)) (fun k hk => hg k (by omega)) (by omega)
    refine ⟨by omega, fun k hk => ?_⟩
    by_cases c : k = n
    · subst c
      subst e1
      omega
    · exact e2 k (by omega)
theorem y_encc {f g : Nat → Nat} : ∀ {n : Nat}, (∀ k, k < n → f k = g k) → enc f n = enc g n
  | 0, _ => rfl
  | n + 1, h => by
    show 27 * enc f n + f n = 27 * enc g n + g n
    rw [h n (by omega), y_encc (f := f) (g := g) (fun k hk => h k (by omega))]
/-- villages, people; names; harvests, quarrels; home, wits, oath, cheer; snow; codes; the rules' codes -/
abbrev yD : Type := (Nat × Nat) × ((Nat → Nat → Nat) × (Nat → Nat)) × ((Nat → Nat) × (Nat → Nat)) × ((Nat → Nat) × (Nat → Nat) × (Nat → Nat) × (Nat → Nat)) × Nat × Nat × (Nat → Option (Nat × List Nat))
def yD.nv (D : yD) : Nat := D.1.1
def yD.np (D : yD) : Nat := D.1.2
def yD.nm (D : yD) : Nat → Nat → Nat := D.2.1.1
def yD.nl (D : yD) : Nat → Nat := D.2.1.2
def yD.hv (D : yD) : Nat → Nat := D.2.2.1.1
def yD.qv (D : yD) : Nat → Nat := D.2.2.1.2
def yD.ho (D : yD) : Nat → Nat := D.2.2.2.1.1
def yD.wi (D : yD) : Nat → Nat := D.2.2.2.1.2.1
def yD.oa (D : yD) : Nat → Nat := D.2.2.2.1.2.2.1
def yD.ch (D : yD) : Nat → Nat := D.2.2.2.1.2.2.2
def yD.sn (D : yD) : Nat := D.2.2.2.2.1
def yD.cz (D : yD) : Nat := D.2.2.2.2.2.1
def yD.rl (D : yD) : Nat → Option (Nat × List Nat) := D.2.2.2.2.2.2
def yNd (D : yD) (i : Nat) : Prop := i < D.nv ∨ (2 ≤ i ∧ i < 2 + D.np)
def ytk (r : Nat) : Nat := if r = 3 then 1 else 0
def yDV (D : yD) : Prop := D.nv ≤ 2 ∧ D.np ≤ 8 ∧ (∀ i, yNd D i → (1 ≤ D.nl i ∧ D.nl i ≤ 6) ∧ ∀ k, k < D.nl i → 1 ≤ D.nm i k ∧ D.nm i k ≤ 26) ∧ (∀ v, v < D.nv → D.hv v ≤ 999 ∧ D.qv v ≤ 99) ∧ (∀ p, p < D.np → D.ho p ≤ 1 ∧ D.wi p ≤ 9 ∧ D.oa p ≤ 9 ∧ D.ch p ≤ 9) ∧ D.sn ≤ 100 ∧ D.cz ≤ 1600 ∧ ∀ r, r < 5 → ∀ a l, D.rl r = some (a, l) → a + l.length ≤ D.cz ∧ yEv (ysc (ytk r)) (tsR r) 24 l
def yDX (D : yD) (x : fz_s) : Prop := x.1 17 11 = nI D.nv ∧ x.1 17 12 = nI D.np ∧ x.1 17 14 = nI D.sn ∧ x.1 17 10 = nI D.cz ∧ (∀ i, yNd D i → ∀ k, k < 6 → x.1 18 (6 * i + k) = nI (if k < D.nl i then D.nm i k else 0)) ∧ (∀ v, v < D.nv → x.1 19 v = nI (D.hv v) ∧ x.1 20 v = nI (D.qv v)) ∧ (∀ p, p < D.np → x.1 21 p = nI (D.ho p) ∧ x.1 22 p = nI (D.wi p) ∧ x.1 23 p = nI (D.oa p) ∧ x.1 24 p = nI (D.ch p)) ∧ (∀ r, r < 5 → D.rl r = none → x.1 26 r = -1) ∧ ∀ r, r < 5 → ∀ a l, D.rl r = some (a, l) → x.1 26 r = nI a ∧ x.1 27 r = nI (a + l.length) ∧ Seg (x.1 25) cC a l
def yDM (D : yD) (m : fz_s) : Prop := m.1 196 38 = nI D.nv ∧ m.1 196 39 = nI D.np ∧ m.1 196 45 = nI D.sn ∧ m.1 196 50 = nI D.cz ∧ (∀ i, yNd D i → m.2.1 225 i = lI (enc (D.nm i) (D.nl i))) ∧ (∀ v, v < D.nv → m.1 226 (2 * v) = nI (D.hv v) ∧ m.1 226 (2 * v + 1) = nI (D.qv v)) ∧ (∀ p, p < D.np → m.1 227 (3 * p) = nI (D.ho p) ∧ m.1 228 p = nI (D.wi p) ∧ m.1 227 (3 * p + 1) = nI (D.oa p) ∧ m.1 227 (3 * p + 2) = nI (D.ch p)) ∧ (∀ r, r < 5 → D.rl r = none → m.1 229 r = -1) ∧ ∀ r, r < 5 → ∀ a l, D.rl r = some (a, l) → m.1 229 r = nI a ∧ m.1 230 r = nI (a + l.length) ∧ Seg (m.1 231) cM a l
theorem yDX.fr {D : yD} {x x' : fz_s} (h : yDX D x) (hV : yDV D) (h1 : ∀ a j, 17 ≤ a → a ≤ 27 → (a = 17 → j ≠ 13) → (a = 25 → j < D.cz) → x'.1 a j = x.1 a j) : yDX D x' := by
  obtain ⟨a1, a2, a3, a4, a5, a6, a7, a8, a9⟩ := h
  refine ⟨(h1 _ _ (by omega) (by omega) (by omega) (by omega)).trans a1, (h1 _ _ (by omega) (by omega) (by omega) (by omega)).trans a2, (h1 _ _ (by omega) (by omega) (by omega) (by omega)).trans a3, (h1 _ _ (by omega) (by omega) (by omega) (by omega)).trans a4, fun i hi k hk => (h1 _ _ (by omega) (by omega) (by omega) (by omega)).trans (a5 i hi k hk), fun v hv => ⟨(h1 _ _ (by omega) (by omega) (by omega) (by omega)).trans (a6 v hv).1, (h1 _ _ (by omega) (by omega) (by omega) (by omega)).trans (a6 v hv).2⟩, fun p hp => ?_, fun r hr e => (h1 _ _ (by omega) (by omega) (by omega) (by omega)).trans (a8 r hr e), fun r hr a l e => ?_⟩
  · obtain ⟨z1, z2, z3, z4⟩ := a7 p hp
    exact ⟨(h1 _ _ (by omega) (by omega) (by omega) (by omega)).trans z1, (h1 _ _ (by omega) (by omega) (by omega) (by omega)).trans z2, (h1 _ _ (by omega) (by omega) (by omega) (by omega)).trans z3, (h1 _ _ (by omega) (by omega) (by omega) (by omega)).trans z4⟩
  · obtain ⟨z1, z2, z3⟩ := a9 r hr a l e
    have z4 := (hV.2.2.2.2.2.2.2 r hr a l e).1
    exact ⟨(h1 _ _ (by omega) (by omega) (by omega) (by omega)).trans z1, (h1 _ _ (by omega) (by omega) (by omega) (by omega)).trans z2, z3.cong (fun k _ hk => h1 _ _ (by omega) (by omega) (by omega) (by omega))⟩
theorem yDX.c {D : yD} {x x' : fz_s} (h : yDX D x) (hV : yDV D) (hF : Fr p4 x x') : yDX D x' := h.fr hV (fun a j _ _ _ _ => hF.i _ _ (p4_f (by omega)))
theorem yDM.fr {D : yD} {m m' : fz_s} (h : yDM D m) (h1 : ∀ j, j = 38 ∨ j = 39 ∨ j = 45 ∨ j = 50 → m'.1 196 j = m.1 196 j) (h2 : ∀ a j, 226 ≤ a → a ≤ 231 → m'.1 a j = m.1 a j) (h3 : ∀ j, m'.2.1 225 j = m.2.1 225 j) : yDM D m' := by
  obtain ⟨a1, a2, a3, a4, a5, a6, a7, a8, a9⟩ := h
  refine ⟨(h1 _ (by omega)).trans a1, (h1 _ (by omega)).trans a2, (h1 _ (by omega)).trans a3, (h1 _ (by omega)).trans a4, fun i hi => (h3 _).trans (a5 i hi), fun v hv => ⟨(h2 _ _ (by omega) (by omega)).trans (a6 v hv).1, (h2 _ _ (by omega) (by omega)).trans (a6 v hv).2⟩, fun p hp => ?_, fun r hr e => (h2 _ _ (by omega) (by omega)).trans (a8 r hr e), fun r hr a l e => ?_⟩
  · obtain ⟨z1, z2, z3, z4⟩ := a7 p hp
    exact ⟨(h2 _ _ (by omega) (by omega)).trans z1, (h2 _ _ (by omega) (by omega)).trans z2, (h2 _ _ (by omega) (by omega)).trans z3, (h2 _ _ (by omega) (by omega)).trans z4⟩
  · obtain ⟨z1, z2, z3⟩ := a9 r hr a l e
    exact ⟨(h2 _ _ (by omega) (by omega)).trans z1, (h2 _ _ (by omega) (by omega)).trans z2, z3.cong (fun k _ hk => h2 _ _ (by omega) (by omega))⟩
theorem yDM.k {D : yD} {m m' : fz_s} (h : yDM D m) (hF : Fr pKt m m') : yDM D m' := h.fr (fun j _ => hF.i _ _ (pKt_f (by omega))) (fun a j _ _ => hF.i _ _ (pKt_f (by omega))) (fun j => hF.l _ _ (pKt_f (by omega)))
theorem yDM.q {D : yD} {m m' : fz_s} (h : yDM D m) (hF : Fr pQ m m') : yDM D m' := h.fr (fun j _ => hF.i _ _ (pQ_f (by omega))) (fun a j _ _ => hF.i _ _ (pQ_f (by omega))) (fun j => hF.l _ _ (pQ_f (by omega)))
theorem y_KD {s s' : fz_s} (h : Fr pKt s s') : Fr pD s s' := h.mono fun a j q => by
  have := of_decide_eq_false q
  exact pKt_f (by omega)
theorem y_QD {s s' : fz_s} (h : Fr pQ s s') : Fr pD s s' := h.mono fun a j q => by
  have := of_decide_eq_false q
  exact pQ_f (by omega)
def pDs (a j : Nat) : Bool := decide ((a = 196 ∧ ¬ (j = 1 ∨ j = 7 ∨ j = 8 ∨ j = 40 ∨ j = 46 ∨ j = 51 ∨ j = 52 ∨ j = 58 ∨ j = 66 ∨ j = 72 ∨ j = 73 ∨ j = 74 ∨ j = 111)) ∨ (a = 225 ∧ j < 10) ∨ a = 226 ∨ (a = 227 ∧ j < 24) ∨ a = 228 ∨ (a = 229 ∧ j < 5) ∨ (a = 230 ∧ j < 5) ∨ (a = 231 ∧ j < 1600) ∨ (233 ≤ a ∧ a ≤ 239) ∨ a = 241 ∨ a = 242 ∨ (269 ≤ a ∧ a ≤ 271))
theorem pDs_f {a j : Nat} (h : ¬ ((a = 196 ∧ ¬ (j = 1 ∨ j = 7 ∨ j = 8 ∨ j = 40 ∨ j = 46 ∨ j = 51 ∨ j = 52 ∨ j = 58 ∨ j = 66 ∨ j = 72 ∨ j = 73 ∨ j = 74 ∨ j = 111)) ∨ (a = 225 ∧ j < 10) ∨ a = 226 ∨ (a = 227 ∧ j < 24) ∨ a = 228 ∨ (a = 229 ∧ j < 5) ∨ (a = 230 ∧ j < 5) ∨ (a = 231 ∧ j < 1600) ∨ (233 ≤ a ∧ a ≤ 239) ∨ a = 241 ∨ a = 242 ∨ (269 ≤ a ∧ a ≤ 271))) : pDs a j = false := decide_eq_false h
theorem pDs_t {a j : Nat} (h : (a = 196 ∧ ¬ (j = 1 ∨ j = 7 ∨ j = 8 ∨ j = 40 ∨ j = 46 ∨ j = 51 ∨ j = 52 ∨ j = 58 ∨ j = 66 ∨ j = 72 ∨ j = 73 ∨ j = 74 ∨ j = 111)) ∨ (a = 225 ∧ j < 10) ∨ a = 226 ∨ (a = 227 ∧ j < 24) ∨ a = 228 ∨ (a = 229 ∧ j < 5) ∨ (a = 230 ∧ j < 5) ∨ (a = 231 ∧ j < 1600) ∨ (233 ≤ a ∧ a ≤ 239) ∨ a = 241 ∨ a = 242 ∨ (269 ≤ a ∧ a ≤ 271)) : pDs a j = true := decide_eq_true h
theorem y_sD {s s' : fz_s} (h : Fr pDs s s') : Fr pD s s' := h.mono fun a j q => by
  have := of_decide_eq_false q
  exact pDs_f (by omega)
theorem y_KDs {s s' : fz_s} (h : Fr pKt s s') : Fr pDs s s' := h.mono fun a j q => by
  have := of_decide_eq_false q
  exact pKt_f (by omega)
theorem y_QDs {s s' : fz_s} (h : Fr pQ s s') : Fr pDs s s' := h.mono fun a j q => by
  have := of_decide_eq_false q
  exact pQ_f (by omega)
theorem y_4C {s s' : fz_s} (h : Fr p4 s s') : Fr pC s s' := h.mono fun a j q => by
  have := of_decide_eq_false q
  exact p4_f (by omega)
/-! names -/
def yMa (tp : Nat → Nat) (D : yD) (t : yTok) (i : Nat) : Prop := t.2.1 = t.1 + D.nl i ∧ ∀ k, k < D.nl i → D.nm i k = yltr tp t.1 k
def yMat (tp : Nat → Nat) (D : yD) (t : yTok) : Prop := ∃ i, yNd D i ∧ yMa tp D t i
theorem y_letH {tp : Nat → Nat} {tn b : Nat} {so : Bool} {t : yTok} {x : fz_s} (hX : yPX tp tn b so t x) (hk1 : t.2.2.1 = 1) {k : Nat} (hk : k < 6) {Q : Int32 → fz_s → Prop} (hq : Q (nI (if k < t.2.1 - t.1 then yltr tp t.1 k else 0)) x) : wp_X8_letterHere (nI k) x Q := by
  obtain ⟨a1, a2, a3, a4, a5, a6, a7, a8⟩ := hX
  have hn := a1.1
  have he := a2.2.2.1
  obtain ⟨d1, d2, d3, d4⟩ := a2.lt a1.2.1 hk1
  unfold wp_X8_letterHere
  rw [a5, a3]
  intro x1 e1
  rw [N_add] at e1
  rw [e1]
  refine bf (by simp (disch := omega) only [N_lit, N_add, N_mul, N_sub, N_addneg, N_neg1, N_addm, N_le, N_lt, N_eq, N_in, N_cl, N_ne, N_ne', N_ltm, N_mlt, N_lem] <;> omega) ?_
  by_cases c : t.1 + k < t.2.1
  · rw [if_pos (by omega)] at hq
    refine bt (by simp (disch := omega) only [N_lit, N_add, N_mul, N_sub, N_addneg, N_neg1, N_addm, N_le, N_lt, N_eq, N_in, N_cl, N_ne, N_ne', N_ltm, N_mlt, N_lem] <;> omega) ⟨N_in ⟨by omega, by omega⟩, ?_⟩
    rw [N_cl (by omega), a1.2.2.2 _ (by omega)]
    have d := d2 (t.1 + k) (by omega) c
    have e2 : nI (tp (t.1 + k)) - 97 + 1 = nI (yltr tp t.1 k) := by
      show nI (tp (t.1 + k)) - nI 97 + nI 1 = nI (tp (t.1 + k) - 96)
      rw [N_sub (by omega), N_add]
      congr 1
      omega
    rw [e2]
    exact hq
  · rw [if_neg (by omega)] at hq
    exact bf (by simp (disch := omega) only [N_lit, N_add, N_mul, N_sub, N_addneg, N_neg1, N_addm, N_le, N_lt, N_eq, N_in, N_cl, N_ne, N_ne', N_ltm, N_mlt, N_lem] <;> omega) hq
theorem y_ltr1 {tp : Nat → Nat} {tn b : Nat} {so : Bool} {t : yTok} (h : yTS tp tn b so t) (hB : ∀ j, tp j < 256) (hk1 : t.2.2.1 = 1) {k : Nat} (hk : t.1 + k < t.2.1) : 1 ≤ yltr tp t.1 k ∧ yltr tp t.1 k ≤ 26 := by
  have d := (h.lt hB hk1).2.1 (t.1 + k) (by omega) hk
  unfold yltr
  omega
theorem y_isHlp {tp : Nat → Nat} {tn b : Nat} {so : Bool} {t : yTok} {D : yD} {x : fz_s} (hX : yPX tp tn b so t x) (hV : yDV D) (hD : yDX D x) (hm : yNm t) {i : Nat} (hi : yNd D i) {Q : Bool → fz_s → Prop} (hT : yMa tp D t i → Q true x) (hN : ¬ yMa tp D t i → Q false x) : ∀ (n k : Nat), k ≤ 6 → 6 < n + k → (∀ j, j < k → (if j < D.nl i then D.nm i j else 0) = (if j < t.2.1 - t.1 then yltr tp t.1 j else 0)) → lp_X9_isHere_17_2 Q n (nI i) (nI k) x
  | 0, k, h1, h2, _ => absurd h2 (by omega)
  | n + 1, k, h1, h2, h3 => by
    have hnl := (hV.2.2.1 i hi)
    have hi10 : i < 10 := by
      have := hV.1
      have := hV.2.1
      rcases hi with z | z <;> omega
    have hB := hX.1.2.1
    have hlt := (hX.2.1.lt hB hm.1).1
    have hm3 := hm.2.2
    show nd_X9_isHere_17_2 (lp_X9_isHere_17_2 Q n) Q (nI i) (nI k) x
    unfold nd_X9_isHere_17_2
    by_cases c : 6 ≤ k
    · refine bt (by simp (disch := omega) only [N_lit, N_add, N_mul, N_sub, N_addneg, N_neg1, N_addm, N_le, N_lt, N_eq, N_in, N_cl, N_ne, N_ne', N_ltm, N_mlt, N_lem] <;> omega) (hT ?_)
      have hk6 : k = 6 := by omega
      subst hk6
      have e : t.2.1 - t.1 = D.nl i := by
        by_cases c1 : t.2.1 - t.1 < D.nl i
        · have := h3 (t.2.1 - t.1) (by omega)
          rw [if_pos c1, if_neg (by omega)] at this
          have := (hnl.2 _ c1).1
          omega
        · by_cases c2 : D.nl i < t.2.1 - t.1
          · have := h3 (D.nl i) (by omega)
            rw [if_neg (by omega), if_pos c2] at this
            have := (y_ltr1 hX.2.1 hB hm.1 (k := D.nl i) (by omega)).1
            omega
          · omega
      refine ⟨by omega, fun j hj => ?_⟩
      have := h3 j (by omega)
      rw [if_pos hj, if_pos (by omega)] at this
      exact this
    refine bf (by simp (disch := omega) only [N_lit, N_add, N_mul, N_sub, N_addneg, N_neg1, N_addm, N_le, N_lt, N_eq, N_in, N_cl, N_ne, N_ne', N_ltm, N_mlt, N_lem] <;> omega) ?_
    unfold wp_X9_letterOf_17
    intro x1 e1
    have e2 : x1 = nI (6 * i + k) := by
      rw [e1]
      show nI i * nI 6 + nI k = _
      rw [N_mul, N_add]
      congr 1
      omega
    rw [e2]
    refine bf (by simp (disch := omega) only [N_lit, N_add, N_mul, N_sub, N_addneg, N_neg1, N_addm, N_le, N_lt, N_eq, N_in, N_cl, N_ne, N_ne', N_ltm, N_mlt, N_lem] <;> omega) (bt (by simp (disch := omega) only [N_lit, N_add, N_mul, N_sub, N_addneg, N_neg1, N_addm, N_le, N_lt, N_eq, N_in, N_cl, N_ne, N_ne', N_ltm, N_mlt, N_lem] <;> omega) ⟨N_in ⟨by omega, by omega⟩, ?_⟩)
    rw [N_cl (by omega), hD.2.2.2.2.1 i hi k (by omega)]
    refine y_letH hX hm.1 (by omega) ?_
    have g1 : (if k < D.nl i then D.nm i k else 0) < 100 := by
      split
      · rename_i z
        have := (hnl.2 k z).2
        omega
      · omega
    have g2 : (if k < t.2.1 - t.1 then yltr tp t.1 k else 0) < 100 := by
      split
      · rename_i z
        have := (y_ltr1 hX.2.1 hB hm.1 (k := k) (by omega)).2
        omega
      · omega
    by_cases c2 : (if k < D.nl i then D.nm i k else 0) = (if k < t.2.1 - t.1 then yltr tp t.1 k else 0)
    · refine bt (by rw [c2]) (fun x5 e5 => ?_)
      rw [e5, nI_1]
      refine y_isHlp hX hV hD hm hi hT hN n (k + 1) (by omega) (by omega) (fun j hj => ?_)
      by_cases cj : j = k
      · rw [cj]; exact c2
      · exact h3 j (by omega)
    · refine bf (fun z => c2 ((N_eq ⟨by omega, by omega⟩).mp z)) (hN (fun z => c2 ?_))
      have z1 := z.1
      by_cases ck : k < D.nl i
      · rw [if_pos ck, if_pos (by omega), z.2 k ck]
      · rw [if_neg ck, if_neg (by omega)]
/-- which name stands there -/
def yNH (tp : Nat → Nat) (D : yD) (t : yTok) (z : Int) : Prop := (∃ i : Nat, z = (i : Int) ∧ yNd D i ∧ yMa tp D t i ∧ ∀ j, j < i → yNd D j → ¬ yMa tp D t j) ∨ (z = -1 ∧ ¬ yMat tp D t)
theorem y_nH2 {tp : Nat → Nat} {tn b : Nat} {so : Bool} {t : yTok} {D : yD} {x : fz_s} (hX : yPX tp tn b so t x) (hV : yDV D) (hD : yDX D x) (hm : yNm t) (hv : ∀ j, j < D.nv → ¬ yMa tp D t j) {Q : Int32 → fz_s → Prop} (hq : ∀ z, yNH tp D t z → Q (iI z) x) : ∀ (n p : Nat), p ≤ D.np → D.np < n + p → (∀ j, j < p → ¬ yMa tp D t (2 + j)) → lp_X9_nameHere_17_29 Q n (nI p) x
  | 0, p, h1, h2, _ => absurd h2 (by omega)
  | n + 1, p, h1, h2, h3 => by
    have hnp := hV.2.1
    have hnv := hV.1
    show nd_X9_nameHere_17_29 (lp_X9_nameHere_17_29 Q n) Q (nI p) x
    unfold nd_X9_nameHere_17_29
    rw [hD.2.1]
    by_cases c : D.np ≤ p
    · refine bt (by simp (disch := omega) only [N_lit, N_add, N_mul, N_sub, N_addneg, N_neg1, N_addm, N_le, N_lt, N_eq, N_in, N_cl, N_ne, N_ne', N_ltm, N_mlt, N_lem] <;> omega) (hq (-1) (Or.inr ⟨rfl, fun z => ?_⟩))
      obtain ⟨i, z1, z2⟩ := z
      rcases z1 with y | y
      · exact hv i y z2
      · have := h3 (i - 2) (by omega)
        rw [show 2 + (i - 2) = i by omega] at this
        exact this z2
    refine bf (by simp (disch := omega) only [N_lit, N_add, N_mul, N_sub, N_addneg, N_neg1, N_addm, N_le, N_lt, N_eq, N_in, N_cl, N_ne, N_ne', N_ltm, N_mlt, N_lem] <;> omega) ?_
    rw [show (2 : Int32) + nI p = nI (2 + p) from N_add 2 p]
    refine y_isHlp hX hV hD hm (Or.inr ⟨by omega, by omega⟩) (fun z => b2 ?_) (fun z => b3 (fun x3 e3 => ?_)) 2048 0 (by omega) (by omega) (fun j hj => absurd hj (Nat.not_lt_zero _))
    · rw [i_nI]
      refine hq _ (Or.inl ⟨2 + p, rfl, Or.inr ⟨by omega, by omega⟩, z, fun j hj hn => ?_⟩)
      rcases hn with y | y
      · exact hv j y
      · have := h3 (j - 2) (by omega)
        rw [show 2 + (j - 2) = j by omega] at this
        exact this
    · rw [e3, nI_1]
      refine y_nH2 hX hV hD hm hv hq n (p + 1) (by omega) (by omega) (fun j hj => ?_)
      by_cases cj : j = p
      · rw [cj]; exact z
      · exact h3 j (by omega)
theorem y_nH1 {tp : Nat → Nat} {tn b : Nat} {so : Bool} {t : yTok} {D : yD} {x : fz_s} (hX : yPX tp tn b so t x) (hV : yDV D) (hD : yDX D x) (hm : yNm t) {Q : Int32 → fz_s → Prop} (hq : ∀ z, yNH tp D t z → Q (iI z) x) : ∀ (n v : Nat), v ≤ D.nv → D.nv < n + v → (∀ j, j < v → ¬ yMa tp D t j) → lp_X9_nameHere_17_2 Q n (nI v) x
  | 0, v, h1, h2, _ => absurd h2 (by omega)
  | n + 1, v, h1, h2, h3 => by
    have hnv := hV.1
    show nd_X9_nameHere_17_2 (lp_X9_nameHere_17_2 Q n) Q (nI v) x
    unfold nd_X9_nameHere_17_2
    rw [hD.1]
    by_cases c : D.nv ≤ v
    · exact bt (by simp (disch := omega) only [N_lit, N_add, N_mul, N_sub, N_addneg, N_neg1, N_addm, N_le, N_lt, N_eq, N_in, N_cl, N_ne, N_ne', N_ltm, N_mlt, N_lem] <;> omega) (y_nH2 hX hV hD hm (fun j hj => h3 j (by omega)) hq 2048 0 (by omega) (by have := hV.2.1; omega) (fun j hj => absurd hj (Nat.not_lt_zero _)))
    refine bf (by simp (disch := omega) only [N_lit, N_add, N_mul, N_sub, N_addneg, N_neg1, N_addm, N_le, N_lt, N_eq, N_in, N_cl, N_ne, N_ne', N_ltm, N_mlt, N_lem] <;> omega) ?_
    refine y_isHlp hX hV hD hm (Or.inl (by omega)) (fun z => b2 ?_) (fun z => b3 (fun x3 e3 => ?_)) 2048 0 (by omega) (by omega) (fun j hj => absurd hj (Nat.not_lt_zero _))
    · rw [i_nI]
      exact hq _ (Or.inl ⟨v, rfl, Or.inl (by omega), z, fun j hj _ => h3 j hj⟩)
    · rw [e3, nI_1]
      refine y_nH1 hX hV hD hm hq n (v + 1) (by omega) (by omega) (fun j hj => ?_)
      by_cases cj : j = v
      · rw [cj]; exact z
      · exact h3 j (by omega)
theorem y_nameHere {tp : Nat → Nat} {tn b : Nat} {so : Bool} {t : yTok} {D : yD} {x : fz_s} (hX : yPX tp tn b so t x) (hV : yDV D) (hD : yDX D x) (hm : yNm t) {Q : Int32 → fz_s → Prop} (hq : ∀ z, yNH tp D t z → Q (iI z) x) : wp_X9_nameHere_17 x Q := y_nH1 hX hV hD hm hq 2048 0 (by omega) (by have := hV.1; omega) (fun j hj => absurd hj (Nat.not_lt_zero _))
theorem y_ma_enc {tp : Nat → Nat} {tn b : Nat} {so : Bool} {t : yTok} {D : yD} (h : yTS tp tn b so t) (hB : ∀ j, tp j < 256) (hV : yDV D) (hm : yNm t) {i : Nat} (hi : yNd D i) : enc (D.nm i) (D.nl i) = enc (yltr tp t.1) (t.2.1 - t.1) ↔ yMa tp D t i := by
  have hlt := (h.lt hB hm.1).1
  constructor
  · intro z
    obtain ⟨e1, e2⟩ := y_encinj (hV.2.2.1 i hi).2 (fun k hk => y_ltr1 h hB hm.1 (by omega)) z
    exact ⟨by omega, e2⟩
  · intro z
    have z1 := z.1
    rw [show t.2.1 - t.1 = D.nl i by omega]
    exact y_encc z.2

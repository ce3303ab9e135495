/-! THE MODEL'S TOKENS: what each call does -/
theorem yTS.nb {tp : Nat → Nat} {tn b : Nat} {so : Bool} {t : yTok} (h : yTS tp tn b so t) (hq : t.1 < tn) : tp t.1 ≠ 10 ∧ tp t.1 ≠ 32 := by
  rcases h.2.2.2.2 with z | z | z | z | z
  · omega
  · have := z.2.2.1.2.2.1 t.1 (Nat.le_refl _) z.2.1
    omega
  · have := z.2.2.1.2.2.1 t.1 (Nat.le_refl _) z.2.1
    omega
  · omega
  · omega
theorem yTS.k0 {tp : Nat → Nat} {tn b : Nat} {so : Bool} {t : yTok} (h : yTS tp tn b so t) : t.1 < tn ↔ t.2.2.1 ≠ 0 := by
  have h3 := h.2.2.1
  rcases h.2.2.2.2 with z | z | z | z | z <;> omega
def yMT (tp : Nat → Nat) (tn : Nat) (m : fz_s) : Prop := tn ≤ 1600 ∧ (∀ j, tp j < 256) ∧ m.1 196 3 = nI tn ∧ (∀ j, j < 1600 → m.1 197 j = nI (tp j)) ∧ I10 m
def yEn (b : Nat) (so : Bool) (v : Int32) : Prop := (so = true ∧ v = nI b) ∨ (so = false ∧ ∃ z : Int, -1 ≤ z ∧ z < (b : Int) ∧ v = iI z)
/-- the model, at a, ahead of the token t -/
def yPM (tp : Nat → Nat) (tn b : Nat) (so : Bool) (t : yTok) (a : Nat) (m : fz_s) : Prop := yMT tp tn m ∧ yTS tp tn b so t ∧ (b ≤ a ∧ a ≤ t.1) ∧ m.1 196 2 = nI a ∧ yEn b so (m.1 196 4) ∧ m.1 196 5 = 0 ∧ m.1 196 6 = -1
def yFM (kd pl : Nat) (m : fz_s) : Prop := (1 ≤ kd ∧ kd ≤ 5) ∧ pl < 2000 ∧ m.1 196 5 = nI kd ∧ m.1 196 6 = nI pl
def yAd (tp : Nat → Nat) (tn e : Nat) (so : Bool) (m : fz_s) : Prop := ∀ t', yTS tp tn e so t' → yPM tp tn e so t' e m
def pA (a j : Nat) : Bool := decide (a = 196 ∧ j = 2)
theorem pA_f {a j : Nat} (h : ¬ (a = 196 ∧ j = 2)) : pA a j = false := decide_eq_false h
theorem pA_t {a j : Nat} (h : a = 196 ∧ j = 2) : pA a j = true := decide_eq_true h
def pKt (a j : Nat) : Bool := decide (a = 196 ∧ (j = 2 ∨ j = 4 ∨ j = 5 ∨ j = 6 ∨ j = 10 ∨ j = 37))
theorem pKt_f {a j : Nat} (h : ¬ (a = 196 ∧ (j = 2 ∨ j = 4 ∨ j = 5 ∨ j = 6 ∨ j = 10 ∨ j = 37))) : pKt a j = false := decide_eq_false h
theorem pKt_t {a j : Nat} (h : a = 196 ∧ (j = 2 ∨ j = 4 ∨ j = 5 ∨ j = 6 ∨ j = 10 ∨ j = 37)) : pKt a j = true := decide_eq_true h
theorem y_AK {s s' : fz_s} (h : Fr pA s s') : Fr pKt s s' := h.mono fun a j q => by
  have := of_decide_eq_false q
  exact pA_f (by omega)
theorem yMT.fr {tp : Nat → Nat} {tn : Nat} {m m' : fz_s} (h : yMT tp tn m) (h1 : m'.1 196 3 = m.1 196 3) (h2 : ∀ a j, 197 ≤ a → a ≤ 224 ∨ (244 ≤ a ∧ a ≤ 268) → m'.1 a j = m.1 a j) : yMT tp tn m' := by
  obtain ⟨a1, a2, a3, a4, a5⟩ := h
  refine ⟨a1, a2, h1.trans a3, fun j hj => (h2 197 j (by omega) (by omega)).trans (a4 j hj), fun a j h3 h4 h5 => ?_⟩
  have := wds_ne h5 h3 h4
  exact (h2 a j (by omega) (by omega)).trans (a5 a j h3 h4 h5)
theorem yMT.k {tp : Nat → Nat} {tn : Nat} {m m' : fz_s} (h : yMT tp tn m) (hF : Fr pKt m m') : yMT tp tn m' := h.fr (hF.i _ _ (pKt_f (by omega))) (fun a j _ _ => hF.i _ _ (pKt_f (by omega)))
theorem yPM.k {tp : Nat → Nat} {tn b : Nat} {so : Bool} {t : yTok} {a : Nat} {m m' : fz_s} (h : yPM tp tn b so t a m) (h1 : m'.1 196 3 = m.1 196 3) (h2 : ∀ a j, 197 ≤ a → a ≤ 224 ∨ (244 ≤ a ∧ a ≤ 268) → m'.1 a j = m.1 a j) (h3 : m'.1 196 2 = m.1 196 2) (h4 : m'.1 196 4 = m.1 196 4) (h5 : m'.1 196 5 = m.1 196 5) (h6 : m'.1 196 6 = m.1 196 6) : yPM tp tn b so t a m' := by
  obtain ⟨a1, a2, a3, a4, a5, a6, a7⟩ := h
  exact ⟨a1.fr h1 h2, a2, a3, h3.trans a4, by rw [h4]; exact a5, h5.trans a6, h6.trans a7⟩
def yLk (tp : Nat → Nat) (tn : Nat) (t : yTok) : Int32 := if t.1 < tn then nI (tp t.1) else -1
theorem y_lklp {tp : Nat → Nat} {tn b : Nat} {so : Bool} {t : yTok} {m0 : fz_s} {Q : Int32 → fz_s → Prop} (hq : ∀ m', yPM tp tn b so t t.1 m' → Fr pA m0 m' → Q (yLk tp tn t) m') : ∀ (n a : Nat) (m : fz_s), t.1 < n + a → yPM tp tn b so t a m → Fr pA m0 m → lp_X12_look_0 Q n m
  | 0, a, m, h1, h, _ => absurd h1 (by have := h.2.2.1; omega)
  | n + 1, a, m, h1, h, hF => by
    obtain ⟨a1, a2, a3, a4, a5, a6, a7⟩ := id h
    have hn := a1.1
    have ht := a2.2.1
    have hB := a1.2.1 a
    show nd_X12_look_0 (lp_X12_look_0 Q n) Q m
    unfold nd_X12_look_0
    have e52 : a = t.1 → nd_X12_look_52 Q m := by
      intro ea
      subst ea
      have hq' := hq m h hF
      unfold yLk at hq'
      unfold nd_X12_look_52
      rw [a1.2.2.1, a4]
      by_cases c : t.1 < tn
      · rw [if_pos c] at hq'
        refine bf (by simp (disch := omega) only [N_lit, N_add, N_mul, N_sub, N_addneg, N_neg1, N_addm, N_le, N_lt, N_eq, N_in, N_cl, N_ne, N_ne', N_ltm, N_mlt, N_lem] <;> omega) ⟨N_in ⟨by omega, by omega⟩, ?_⟩
        rw [N_cl (by omega), a1.2.2.2.1 _ (by omega)]
        exact hq'
      · rw [if_neg c] at hq'
        exact bt (by simp (disch := omega) only [N_lit, N_add, N_mul, N_sub, N_addneg, N_neg1, N_addm, N_le, N_lt, N_eq, N_in, N_cl, N_ne, N_ne', N_ltm, N_mlt, N_lem] <;> omega) hq'
    rw [a1.2.2.1, a4]
    by_cases c1 : tn ≤ a
    · exact bt (by simp (disch := omega) only [N_lit, N_add, N_mul, N_sub, N_addneg, N_neg1, N_addm, N_le, N_lt, N_eq, N_in, N_cl, N_ne, N_ne', N_ltm, N_mlt, N_lem] <;> omega) (e52 (by omega))
    refine bf (by simp (disch := omega) only [N_lit, N_add, N_mul, N_sub, N_addneg, N_neg1, N_addm, N_le, N_lt, N_eq, N_in, N_cl, N_ne, N_ne', N_ltm, N_mlt, N_lem] <;> omega) ⟨N_in ⟨by omega, by omega⟩, ?_⟩
    rw [N_cl (by omega), a1.2.2.2.1 _ (by omega), nI_1]
    have up : a < t.1 → ∀ s1 : fz_s, s1 = si m 196 2 (nI (a + 1)) → lp_X12_look_0 Q n s1 := by
      intro ha s1 e1
      refine y_lklp hq n (a + 1) s1 (by omega) ⟨?_, a2, ⟨by omega, by omega⟩, ?_, ?_, ?_, ?_⟩ ?_
      · exact a1.fr (by rw [e1, g_nj (by omega)]) (fun a' j _ _ => by rw [e1, g_ne (by omega)])
      · rw [e1, g_eq]
      · rw [e1, g_nj (by omega)]; exact a5
      · rw [e1, g_nj (by omega)]; exact a6
      · rw [e1, g_nj (by omega)]; exact a7
      · rw [e1]; exact hF.si (pA_t ⟨rfl, rfl⟩)
    by_cases c2 : a = t.1
    · have nb := a2.nb (by omega)
      rw [← c2] at nb
      refine bf (by simp (disch := omega) only [N_lit, N_add, N_mul, N_sub, N_addneg, N_neg1, N_addm, N_le, N_lt, N_eq, N_in, N_cl, N_ne, N_ne', N_ltm, N_mlt, N_lem] <;> omega) ⟨N_in ⟨by omega, by omega⟩, nt (by simp (disch := omega) only [N_lit, N_add, N_mul, N_sub, N_addneg, N_neg1, N_addm, N_le, N_lt, N_eq, N_in, N_cl, N_ne, N_ne', N_ltm, N_mlt, N_lem] <;> omega) (e52 c2)⟩
    · have bl := a2.2.2.2.1 a (by omega) (by omega)
      by_cases c3 : tp a = 10
      · exact bt (by simp (disch := omega) only [N_lit, N_add, N_mul, N_sub, N_addneg, N_neg1, N_addm, N_le, N_lt, N_eq, N_in, N_cl, N_ne, N_ne', N_ltm, N_mlt, N_lem] <;> omega) (up (by omega))
      · exact bf (by simp (disch := omega) only [N_lit, N_add, N_mul, N_sub, N_addneg, N_neg1, N_addm, N_le, N_lt, N_eq, N_in, N_cl, N_ne, N_ne', N_ltm, N_mlt, N_lem] <;> omega) ⟨N_in ⟨by omega, by omega⟩, nf (by simp (disch := omega) only [N_lit, N_add, N_mul, N_sub, N_addneg, N_neg1, N_addm, N_le, N_lt, N_eq, N_in, N_cl, N_ne, N_ne', N_ltm, N_mlt, N_lem] <;> omega) (up (by omega))⟩
theorem y_look {tp : Nat → Nat} {tn b : Nat} {so : Bool} {t : yTok} {a : Nat} {m : fz_s} (h : yPM tp tn b so t a m) {Q : Int32 → fz_s → Prop} (hq : ∀ m', yPM tp tn b so t t.1 m' → Fr pA m m' → Q (yLk tp tn t) m') : wp_X12_look m Q := y_lklp hq 2048 a m (by have := h.1.1; have := h.2.1.2.1; omega) h Fr.rf
theorem y_lkc {tp : Nat → Nat} {tn b : Nat} {so : Bool} {t : yTok} (h : yTS tp tn b so t) (hB : ∀ j, tp j < 256) {c : Nat} (hc : c < 256) (hs : ¬ yin 97 122 10 c ∧ ¬ yin 48 57 32 c) : yLk tp tn t = nI c ↔ ySg tp t c := by
  have hb := hB t.1
  have h3 := h.2.2.1
  unfold yLk ySg
  by_cases c1 : t.1 < tn
  · rw [if_pos c1, N_eq ⟨by omega, by omega⟩]
    rcases h.2.2.2.2 with z | z | z | z | z
    · omega
    · have := z.2.2.1.2.2.1 t.1 (Nat.le_refl _) z.2.1
      omega
    · have := z.2.2.1.2.2.1 t.1 (Nat.le_refl _) z.2.1
      omega
    · omega
    · omega
  · rw [if_neg c1]
    have hk := h.k0
    constructor
    · intro z
      exact absurd z.symm (by rw [show (-1 : Int32) = iI (-1) by decide +kernel]; intro z; exact (N_ne (by omega)).mp z)
    · intro z; omega
theorem y_lkn {tp : Nat → Nat} {tn b : Nat} {so : Bool} {t : yTok} (h : yTS tp tn b so t) (hB : ∀ j, tp j < 256) : yLk tp tn t = -1 ↔ t.2.2.1 = 0 := by
  have hb := hB t.1
  have hk := h.k0
  unfold yLk
  by_cases c1 : t.1 < tn
  · rw [if_pos c1]
    constructor
    · intro z
      rw [show (-1 : Int32) = iI (-1) by decide +kernel] at z
      exact absurd z (fun z => (N_ne (by omega)).mp z)
    · intro z; omega
  · rw [if_neg c1]
    constructor
    · intro _; omega
    · intro _; rfl
theorem y_isLet {v : Int32} {m : fz_s} {Q : Bool → fz_s → Prop} {c : Nat} (hv : v = nI c ∨ (v = -1 ∧ c = 0)) (hc : c < 256) (hT : 97 ≤ c ∧ c ≤ 122 → Q true m) (hN : ¬ (97 ≤ c ∧ c ≤ 122) → Q false m) : wp_X12_isLetter v m Q := by
  unfold wp_X12_isLetter
  rcases hv with rfl | ⟨rfl, rfl⟩
  · by_cases c1 : c < 97
    · exact bt (by simp (disch := omega) only [N_lit, N_add, N_mul, N_sub, N_addneg, N_neg1, N_addm, N_le, N_lt, N_eq, N_in, N_cl, N_ne, N_ne', N_ltm, N_mlt, N_lem] <;> omega) (hN (by omega))
    refine bf (by simp (disch := omega) only [N_lit, N_add, N_mul, N_sub, N_addneg, N_neg1, N_addm, N_le, N_lt, N_eq, N_in, N_cl, N_ne, N_ne', N_ltm, N_mlt, N_lem] <;> omega) ?_
    by_cases c2 : 122 < c
    · exact bt (by simp (disch := omega) only [N_lit, N_add, N_mul, N_sub, N_addneg, N_neg1, N_addm, N_le, N_lt, N_eq, N_in, N_cl, N_ne, N_ne', N_ltm, N_mlt, N_lem] <;> omega) (hN (by omega))
    · exact bf (by simp (disch := omega) only [N_lit, N_add, N_mul, N_sub, N_addneg, N_neg1, N_addm, N_le, N_lt, N_eq, N_in, N_cl, N_ne, N_ne', N_ltm, N_mlt, N_lem] <;> omega) (hT (by omega))
  · exact bt (by decide +kernel) (hN (by omega))
theorem y_isDig {v : Int32} {m : fz_s} {Q : Bool → fz_s → Prop} {c : Nat} (hv : v = nI c ∨ (v = -1 ∧ c = 0)) (hc : c < 256) (hT : 48 ≤ c ∧ c ≤ 57 → Q true m) (hN : ¬ (48 ≤ c ∧ c ≤ 57) → Q false m) : wp_X12_isDigit v m Q := by
  unfold wp_X12_isDigit
  rcases hv with rfl | ⟨rfl, rfl⟩
  · by_cases c1 : c < 48
    · exact bt (by simp (disch := omega) only [N_lit, N_add, N_mul, N_sub, N_addneg, N_neg1, N_addm, N_le, N_lt, N_eq, N_in, N_cl, N_ne, N_ne', N_ltm, N_mlt, N_lem] <;> omega) (hN (by omega))
    refine bf (by simp (disch := omega) only [N_lit, N_add, N_mul, N_sub, N_addneg, N_neg1, N_addm, N_le, N_lt, N_eq, N_in, N_cl, N_ne, N_ne', N_ltm, N_mlt, N_lem] <;> omega) ?_
    by_cases c2 : 57 < c
    · exact bt (by simp (disch := omega) only [N_lit, N_add, N_mul, N_sub, N_addneg, N_neg1, N_addm, N_le, N_lt, N_eq, N_in, N_cl, N_ne, N_ne', N_ltm, N_mlt, N_lem] <;> omega) (hN (by omega))
    · exact bf (by simp (disch := omega) only [N_lit, N_add, N_mul, N_sub, N_addneg, N_neg1, N_addm, N_le, N_lt, N_eq, N_in, N_cl, N_ne, N_ne', N_ltm, N_mlt, N_lem] <;> omega) (hT (by omega))
  · exact bt (by decide +kernel) (hN (by omega))
def yLc (tp : Nat → Nat) (tn : Nat) (t : yTok) : Nat := if t.1 < tn then tp t.1 else 0
theorem y_lk0 (tp : Nat → Nat) (tn : Nat) (t : yTok) : yLk tp tn t = nI (yLc tp tn t) ∨ (yLk tp tn t = -1 ∧ yLc tp tn t = 0) := by
  unfold yLk yLc
  by_cases c : t.1 < tn
  · rw [if_pos c, if_pos c]; exact Or.inl rfl
  · rw [if_neg c, if_neg c]; exact Or.inr ⟨rfl, rfl⟩
/-- a letter or a digit that isn't behind a word -/
theorem y_ended {b : Nat} {so : Bool} {q : Nat} {v : Int32} (h : yEn b so v) (hb : b ≤ q) (hq : q ≤ 1600) : nI q = v ↔ so = true ∧ q = b := by
  rcases h with ⟨h1, h2⟩ | ⟨h1, z, h2, h3, h4⟩
  · rw [h2, N_eq ⟨by omega, by omega⟩]
    exact ⟨fun z => ⟨h1, z⟩, fun z => z.2⟩
  · rw [h4, i_nI, i_eq ⟨⟨by omega, by omega⟩, by omega, by omega⟩]
    constructor
    · intro; omega
    · intro z; rw [h1] at z; cases z.1
theorem y_wdb : ∀ a, a < 269 → ∀ j, j < 8 → (wds a).getD j 0 < 1000 := by decide +kernel
theorem y_wdl : ∀ a, a < 269 → (wds a).length < 8 := by decide +kernel
theorem y_cmplp {tp : Nat → Nat} {tn a0 n0 q : Nat} {m : fz_s} (h : yMT tp tn m) (hat : m.1 196 2 = nI q) (ha : 199 ≤ a0 ∧ a0 ≤ 268) (hn : n0 = (wds a0).length) (hq2 : q + n0 ≤ tn) {Q : Bool → fz_s → Prop} (hT : (∀ j, j < n0 → tp (q + j) = (wds a0).getD j 0) → Q true m) (hN : ¬ (∀ j, j < n0 → tp (q + j) = (wds a0).getD j 0) → Q false m) : ∀ (n v : Nat), v ≤ n0 → n0 < n + v → (∀ j, j < v → tp (q + j) = (wds a0).getD j 0) → lp_X12_isHere_76 a0 n0 Q n (nI v) m
  | 0, v, h1, h2, _ => absurd h2 (by omega)
  | n + 1, v, h1, h2, h3 => by
    have hn0 := h.1
    show nd_X12_isHere_76 a0 n0 (lp_X12_isHere_76 a0 n0 Q n) Q (nI v) m
    unfold nd_X12_isHere_76
    by_cases c1 : n0 ≤ v
    · exact bt (by simp (disch := omega) only [N_lit, N_add, N_mul, N_sub, N_addneg, N_neg1, N_addm, N_le, N_lt, N_eq, N_in, N_cl, N_ne, N_ne', N_ltm, N_mlt, N_lem] <;> omega) (hT (fun j hj => h3 j (by omega)))
    refine bf (by simp (disch := omega) only [N_lit, N_add, N_mul, N_sub, N_addneg, N_neg1, N_addm, N_le, N_lt, N_eq, N_in, N_cl, N_ne, N_ne', N_ltm, N_mlt, N_lem] <;> omega) ?_
    rw [hat, N_add, N_cl (by omega), N_cl (by omega), h.2.2.2.1 _ (by omega), h.2.2.2.2 a0 v ha.1 ha.2 (by omega)]
    have hB := h.2.1 (q + v)
    have hW := y_wdb a0 (by omega) v (by have := y_wdl a0 (by omega); omega)
    refine ⟨N_in ⟨by omega, by omega⟩, N_in ⟨by omega, by omega⟩, ?_⟩
    by_cases c2 : tp (q + v) = (wds a0).getD v 0
    · refine bt (by rw [c2]) (fun x1 e1 => ?_)
      rw [e1, nI_1]
      refine y_cmplp h hat ha hn hq2 hT hN n (v + 1) (by omega) (by omega) (fun j hj => ?_)
      by_cases cj : j = v
      · rw [cj]; exact c2
      · exact h3 j (by omega)
    · exact bf (fun z => c2 ((N_eq ⟨by omega, by omega⟩).mp z)) (hN (fun z => c2 (z v (by omega))))
theorem y_endlp {tp : Nat → Nat} {tn a0 n0 q e : Nat} {m : fz_s} (h : yMT tp tn m) (hr : yRun tp tn 97 122 300 q e) {Q : Bool → fz_s → Prop} (hq : nd_X12_isHere_61 a0 n0 Q (nI e) m) : ∀ (n v : Nat), q ≤ v → v ≤ e → e < n + v → lp_X12_isHere_35 a0 n0 Q n (nI v) m
  | 0, v, _, h1, h2 => absurd h2 (by omega)
  | n + 1, v, h0, h1, h2 => by
    have hn := h.1
    have he := hr.2.1
    have hB := h.2.1 v
    show nd_X12_isHere_35 a0 n0 (lp_X12_isHere_35 a0 n0 Q n) Q (nI v) m
    unfold nd_X12_isHere_35
    rw [h.2.2.1]
    by_cases c1 : tn ≤ v
    · have : v = e := by omega
      rw [this]
      exact bt (by simp (disch := omega) only [N_lit, N_add, N_mul, N_sub, N_addneg, N_neg1, N_addm, N_le, N_lt, N_eq, N_in, N_cl, N_ne, N_ne', N_ltm, N_mlt, N_lem] <;> omega) hq
    refine bf (by simp (disch := omega) only [N_lit, N_add, N_mul, N_sub, N_addneg, N_neg1, N_addm, N_le, N_lt, N_eq, N_in, N_cl, N_ne, N_ne', N_ltm, N_mlt, N_lem] <;> omega) ⟨N_in ⟨by omega, by omega⟩, ?_⟩
    rw [N_cl (by omega), h.2.2.2.1 _ (by omega)]
    refine y_isLet (c := tp v) (Or.inl rfl) hB (fun hl => b2 (fun x3 e3 => ?_)) (fun hl => b3 ?_)
    · rw [e3, nI_1]
      refine y_endlp h hr hq n (v + 1) (by omega) ?_ (by omega)
      by_cases c2 : v = e
      · have := hr.2.2.2 (by omega)
        rw [← c2] at this
        omega
      · omega
    · by_cases c2 : v = e
      · rw [c2]; exact hq
      · have := hr.2.2.1 v h0 (by omega)
        omega
theorem y_isHereL {tp : Nat → Nat} {tn b : Nat} {so : Bool} {t : yTok} {a a0 n0 : Nat} {m : fz_s} (h : yPM tp tn b so t a m) (ha : 199 ≤ a0 ∧ a0 ≤ 268) (hn : n0 = (wds a0).length) {Q : Bool → fz_s → Prop} (hT : t.2.2.1 = 1 ∧ yMt tp t.1 t.2.1 (wds a0) → ∀ m', yPM tp tn b so t t.1 m' → Fr pA m m' → Q true m') (hN : ¬ (t.2.2.1 = 1 ∧ yMt tp t.1 t.2.1 (wds a0)) → ∀ m', yPM tp tn b so t t.1 m' → Fr pA m m' → Q false m') : wp_X12_isHere a0 n0 m Q := by
  unfold wp_X12_isHere
  refine nf h.2.2.2.2.2.1 ?_
  refine y_look h (fun m' h' hF => ?_)
  obtain ⟨a1, a2, a3, a4, a5, a6, a7⟩ := id h'
  have hn0 := a1.1
  have ht := a2.2.1
  have ht2 := a2.2.2.1
  have hLb : yLc tp tn t < 256 := by
    unfold yLc
    split
    · exact a1.2.1 _
    · omega
  refine y_isLet (y_lk0 tp tn t) hLb (fun hl => b2 ?_) (fun hl => b3 ?_)
  · have hq : t.1 < tn := by
      unfold yLc at hl
      by_cases c : t.1 < tn
      · exact c
      · rw [if_neg c] at hl; omega
    unfold yLc at hl
    rw [if_pos hq] at hl
    have hE := y_ended (q := t.1) a5 (by omega) (by omega)
    rw [a4]
    have hk := a2.2.2.2.2
    by_cases c1 : so = true ∧ t.1 = b
    · refine nf (hE.mpr c1) (hN (fun z => ?_) m' h' hF)
      rcases hk with y | y | y | y | y
      · omega
      · exact y.2.2.2.1 c1.1 c1.2
      · omega
      · omega
      · omega
    · refine nt (fun z => c1 (hE.mp z)) (fun x5 e5 => ?_)
      rw [e5]
      have hk1 : t.2.2.1 = 1 ∧ yRun tp tn 97 122 300 t.1 t.2.1 ∧ t.1 < t.2.1 := by
        rcases hk with y | y | y | y | y
        · omega
        · exact ⟨y.1, y.2.2.1, y.2.1⟩
        · have := y.2.2.1.2.2.1 t.1 (Nat.le_refl _) y.2.1
          omega
        · omega
        · exact absurd ⟨y.2.2.2.1, y.2.2.2.2⟩ c1
      refine y_endlp a1 hk1.2.1 ?_ 2048 t.1 (Nat.le_refl _) (by omega) (by omega)
      unfold nd_X12_isHere_61
      rw [a4, N_sub (by omega)]
      have hl8 := y_wdl a0 (by omega)
      by_cases c2 : t.2.1 - t.1 = n0
      · refine bt (by rw [c2]) ?_
        refine y_cmplp a1 a4 ha hn (by omega) (fun hc => ?_) (fun hc => ?_) 2048 0 (by omega) (by omega) (fun j hj => absurd hj (Nat.not_lt_zero _))
        · exact hT ⟨hk1.1, by omega, fun j hj => hc j (by omega)⟩ m' h' hF
        · exact hN (fun z => hc (fun j hj => z.2.2 j (by omega))) m' h' hF
      · refine bf (fun z => c2 ((N_eq ⟨by omega, by omega⟩).mp z)) (hN (fun z => c2 ?_) m' h' hF)
        have := z.2.1
        omega
  · refine hN (fun z => hl ?_) m' h' hF
    have hk := a2.2.2.2.2
    unfold yLc
    rcases hk with y | y | y | y | y
    · omega
    · have := y.2.2.1.2.2.1 t.1 (Nat.le_refl _) y.2.1
      have := a1.2.1 t.1
      rw [if_pos (by omega)]
      omega
    · omega
    · omega
    · omega
theorem yTS.wn {tp : Nat → Nat} {tn b : Nat} {so : Bool} {t : yTok} (h : yTS tp tn b so t) (hk : t.2.2.1 = 1) : yWN tp t.1 t.2.1 t.2.2.2 := by
  rcases h.2.2.2.2 with z | z | z | z | z
  · omega
  · exact z.2.2.2.2
  · omega
  · omega
  · omega
theorem y_isHere {tp : Nat → Nat} {tn b : Nat} {so : Bool} {t : yTok} {a a0 n0 : Nat} {m : fz_s} (h : yPM tp tn b so t a m) (i : Nat) (hw : 199 ≤ a0 ∧ a0 ≤ 268 ∧ i < 32 ∧ n0 = (wds a0).length ∧ wds a0 = yWL.getD i []) {Q : Bool → fz_s → Prop} (hT : yWo t i → ∀ m', yPM tp tn b so t t.1 m' → Fr pA m m' → Q true m') (hN : ¬ yWo t i → ∀ m', yPM tp tn b so t t.1 m' → Fr pA m m' → Q false m') : wp_X12_isHere a0 n0 m Q := by
  have e : (t.2.2.1 = 1 ∧ yMt tp t.1 t.2.1 (wds a0)) ↔ yWo t i := by
    unfold yWo
    rw [hw.2.2.2.2]
    constructor
    · intro z; exact ⟨z.1, ((h.2.1.wn z.1).iff hw.2.2.1).mpr z.2⟩
    · intro z; exact ⟨z.1, ((h.2.1.wn z.1).iff hw.2.2.1).mp z.2⟩
  refine y_isHereL h ⟨hw.1, hw.2.1⟩ hw.2.2.2.1 (fun z => hT (e.mp z)) (fun z => hN (fun y => z (e.mpr y)))
theorem yWo.len {tp : Nat → Nat} {tn b : Nat} {so : Bool} {t : yTok} (h : yTS tp tn b so t) {i : Nat} (hi : i < 32) (hw : yWo t i) : t.2.1 = t.1 + (yWL.getD i []).length := (((h.wn hw.1).iff hi).mp hw.2).1
theorem y_takes {tp : Nat → Nat} {tn b : Nat} {so : Bool} {t : yTok} {a a0 n0 : Nat} {m : fz_s} (h : yPM tp tn b so t a m) (i : Nat) (hw : 199 ≤ a0 ∧ a0 ≤ 268 ∧ i < 32 ∧ n0 = (wds a0).length ∧ wds a0 = yWL.getD i []) {Q : Bool → fz_s → Prop} (hT : yWo t i → ∀ m', yAd tp tn t.2.1 true m' → Fr pKt m m' → Q true m') (hN : ¬ yWo t i → ∀ m', yPM tp tn b so t t.1 m' → Fr pKt m m' → Q false m') : wp_X12_takes a0 n0 m Q := by
  unfold wp_X12_takes
  refine y_isHere h i hw (fun hs m' h' hF => b1 (fun s3 e3 s4 e4 => ?_)) (fun hs m' h' hF => b4 (hN hs m' h' (y_AK hF)))
  obtain ⟨a1, a2, a3, a4, a5, a6, a7⟩ := id h'
  have hl := hs.len a2 hw.2.2.1
  have hl2 : t.1 + n0 = t.2.1 := by rw [hl, hw.2.2.2.1, hw.2.2.2.2]
  rw [a4, N_add, hl2] at e3
  have r3 : s3.1 196 2 = nI t.2.1 := by rw [e3, g_eq]
  rw [r3] at e4
  have F4 : Fr pKt m' s4 := by rw [e4, e3]; exact (Fr.rf.si (pKt_t (by omega))).si (pKt_t (by omega))
  refine hT hs s4 (fun t' ht' => ⟨a1.k F4, ht', ⟨Nat.le_refl _, ht'.1⟩, ?_, Or.inl ⟨rfl, ?_⟩, ?_, ?_⟩) ((y_AK hF).tr F4)
  · rw [e4, g_nj (by omega)]; exact r3
  · rw [e4, g_eq]
  · rw [e4, g_nj (by omega), e3, g_nj (by omega)]; exact a6
  · rw [e4, g_nj (by omega), e3, g_nj (by omega)]; exact a7
theorem y_mfail {m : fz_s} (h0 : m.1 196 5 = 0) {kd pl : Nat} (hk : 1 ≤ kd ∧ kd ≤ 5) (hp : pl < 2000) {Q : fz_s → Prop} (hq : ∀ m', yFM kd pl m' → Fr pKt m m' → Q m') : wp_X12_fail (nI kd) (nI pl) m Q := by
  unfold wp_X12_fail
  refine bt h0 (fun s1 e1 s2 e2 => hq s2 ⟨hk, hp, ?_, ?_⟩ ?_)
  · rw [e2, g_nj (by omega), e1, g_eq]
  · rw [e2, g_eq]
  · rw [e2, e1]; exact (Fr.rf.si (pKt_t (by omega))).si (pKt_t (by omega))
theorem y_mfailAt {tp : Nat → Nat} {tn b : Nat} {so : Bool} {t : yTok} {m : fz_s} (h : yPM tp tn b so t t.1 m) {kd : Nat} (hk : 1 ≤ kd ∧ kd ≤ 5) {Q : fz_s → Prop} (hq : ∀ m', yFM kd t.1 m' → Fr pKt m m' → Q m') : wp_X12_fail (nI kd) (m.1 196 2) m Q := by
  rw [h.2.2.2.1]
  exact y_mfail h.2.2.2.2.2.1 hk (by have := h.1.1; have := h.2.1.2.1; omega) hq
theorem y_asks {tp : Nat → Nat} {tn b : Nat} {so : Bool} {t : yTok} {a a0 n0 : Nat} {m : fz_s} (h : yPM tp tn b so t a m) (i : Nat) (hw : 199 ≤ a0 ∧ a0 ≤ 268 ∧ i < 32 ∧ n0 = (wds a0).length ∧ wds a0 = yWL.getD i []) {Q : fz_s → Prop} (hT : yWo t i → ∀ m', yAd tp tn t.2.1 true m' → Fr pKt m m' → Q m') (hN : ¬ yWo t i → ∀ m', yFM 1 t.1 m' → Fr pKt m m' → Q m') : wp_X12_asks a0 n0 m Q := by
  unfold wp_X12_asks
  refine nf h.2.2.2.2.2.1 ?_
  refine y_takes h i hw (fun hs m' h' hF => b1 (hT hs m' h' hF)) (fun hs m' h' hF => b4 (y_mfailAt h' (kd := 1) ⟨by omega, by omega⟩ (fun m2 h2 hF2 => hN hs m2 h2 (hF.tr hF2))))
theorem y_asksBad {m : fz_s} (hb : ¬ m.1 196 5 = 0) {a0 n0 : Nat} {Q : fz_s → Prop} (hq : Q m) : wp_X12_asks a0 n0 m Q := nt hb hq
theorem y_takesSign {tp : Nat → Nat} {tn b : Nat} {so : Bool} {t : yTok} {a : Nat} {m : fz_s} (h : yPM tp tn b so t a m) (c : Nat) (hc : c < 256 ∧ ¬ yin 97 122 10 c ∧ ¬ yin 48 57 32 c) {Q : Bool → fz_s → Prop} (hT : ySg tp t c → ∀ m', yAd tp tn t.2.1 false m' → m'.1 196 2 = nI (t.1 + 1) → Fr pKt m m' → Q true m') (hN : ¬ ySg tp t c → ∀ m', yPM tp tn b so t t.1 m' → Fr pKt m m' → Q false m') : wp_X12_takesSign (nI c) m Q := by
  unfold wp_X12_takesSign
  refine nf h.2.2.2.2.2.1 ?_
  refine y_look h (fun m' h' hF => ?_)
  obtain ⟨a1, a2, a3, a4, a5, a6, a7⟩ := id h'
  have hn := a1.1
  have ht := a2.2.1
  have hL := y_lkc a2 a1.2.1 hc.1 hc.2
  by_cases c1 : ySg tp t c
  · refine bt (hL.mpr c1) (fun s3 e3 => ?_)
    rw [a4, nI_1] at e3
    have he : t.2.1 = t.1 + 1 := by
      have := c1.1
      rcases a2.2.2.2.2 with z | z | z | z | z <;> omega
    have F3 : Fr pKt m' s3 := by rw [e3]; exact Fr.rf.si (pKt_t (by omega))
    have r2 : s3.1 196 2 = nI (t.1 + 1) := by rw [e3, g_eq]
    refine hT c1 s3 (fun t' ht' => ⟨a1.k F3, ht', ⟨Nat.le_refl _, ht'.1⟩, ?_, Or.inr ⟨rfl, ?_⟩, ?_, ?_⟩) r2 ((y_AK hF).tr F3)
    · rw [he]; exact r2
    · rw [e3, g_nj (by omega)]
      rcases a5 with ⟨z1, z2⟩ | ⟨z1, z, z2, z3, z4⟩
      · exact ⟨(b : Int), by omega, by omega, by rw [z2, i_nI]⟩
      · exact ⟨z, z2, by omega, z4⟩
    · rw [e3, g_nj (by omega)]; exact a6
    · rw [e3, g_nj (by omega)]; exact a7
  · exact bf (fun z => c1 (hL.mp z)) (hN c1 m' h' (y_AK hF))
theorem y_asksSign {tp : Nat → Nat} {tn b : Nat} {so : Bool} {t : yTok} {a : Nat} {m : fz_s} (h : yPM tp tn b so t a m) (c : Nat) (hc : c < 256 ∧ ¬ yin 97 122 10 c ∧ ¬ yin 48 57 32 c) {Q : fz_s → Prop} (hT : ySg tp t c → ∀ m', yAd tp tn t.2.1 false m' → Fr pKt m m' → Q m') (hN : ¬ ySg tp t c → ∀ m', yFM 1 t.1 m' → Fr pKt m m' → Q m') : wp_X12_asksSign (nI c) m Q := by
  unfold wp_X12_asksSign
  refine nf h.2.2.2.2.2.1 ?_
  refine y_takesSign h c hc (fun hs m' h' _ hF => b1 (hT hs m' h' hF)) (fun hs m' h' hF => b4 (y_mfailAt h' (kd := 1) ⟨by omega, by omega⟩ (fun m2 h2 hF2 => hN hs m2 h2 (hF.tr hF2))))
theorem y_asksSignBad {m : fz_s} (hb : ¬ m.1 196 5 = 0) {c : Int32} {Q : fz_s → Prop} (hq : Q m) : wp_X12_asksSign c m Q := nt hb hq
theorem yFM.bad {kd pl : Nat} {m : fz_s} (h : yFM kd pl m) : ¬ m.1 196 5 = 0 := by
  rw [h.2.2.1]
  intro z
  have := (N_eq (a := kd) (b := 0) ⟨by have := h.1; omega, by omega⟩).mp z
  have := h.1
  omega
theorem y_isIn {v most : Nat} {m : fz_s} {Q : Bool → fz_s → Prop} (h : v < 100000 ∧ most < 100000) (hT : v ≤ most → Q true m) (hN : ¬ v ≤ most → Q false m) : wp_X12_isIn (nI v).toInt64 (0 : Int32).toInt64 (nI most).toInt64 m Q := by
  rw [N_64 (by omega), N_64 (by omega), show (0 : Int32).toInt64 = lI ((0 : Nat) : Int) from N_64 (a := 0) (by omega)]
  refine m_isIn (a := (v : Int)) (b := ((0 : Nat) : Int)) (c := (most : Int)) ⟨by omega, by omega⟩ ⟨by omega, by omega⟩ ⟨by omega, by omega⟩ ?_
  by_cases c : v ≤ most
  · rw [decide_eq_true ⟨by omega, by omega⟩]; exact hT c
  · rw [decide_eq_false (fun z => by omega)]; exact hN c
theorem yTS.dg {tp : Nat → Nat} {tn b : Nat} {so : Bool} {t : yTok} (h : yTS tp tn b so t) (hB : ∀ j, tp j < 256) (hk : t.2.2.1 = 2) : t.1 < t.2.1 ∧ (∀ j, t.1 ≤ j → j < t.2.1 → 48 ≤ tp j ∧ tp j ≤ 57) ∧ (t.2.1 < tn → ¬ (48 ≤ tp t.2.1 ∧ tp t.2.1 ≤ 57)) ∧ (so = true → t.1 ≠ b) := by
  rcases h.2.2.2.2 with z | z | z | z | z
  · omega
  · omega
  · refine ⟨z.2.1, fun j h1 h2 => ?_, fun h1 => ?_, z.2.2.2⟩
    · have := z.2.2.1.2.2.1 j h1 h2
      have := hB j
      omega
    · have := z.2.2.1.2.2.2 h1
      omega
  · omega
  · omega
theorem yTS.lt {tp : Nat → Nat} {tn b : Nat} {so : Bool} {t : yTok} (h : yTS tp tn b so t) (hB : ∀ j, tp j < 256) (hk : t.2.2.1 = 1) : t.1 < t.2.1 ∧ (∀ j, t.1 ≤ j → j < t.2.1 → 97 ≤ tp j ∧ tp j ≤ 122) ∧ (t.2.1 < tn → ¬ (97 ≤ tp t.2.1 ∧ tp t.2.1 ≤ 122)) ∧ (so = true → t.1 ≠ b) := by
  rcases h.2.2.2.2 with z | z | z | z | z
  · omega
  · refine ⟨z.2.1, fun j h1 h2 => ?_, fun h1 => ?_, z.2.2.2.1⟩
    · have := z.2.2.1.2.2.1 j h1 h2
      have := hB j
      omega
    · have := z.2.2.1.2.2.2 h1
      omega
  · omega
  · omega
  · omega
/-- what the loop over digits keeps -/
def yDg (tp : Nat → Nat) (tn b : Nat) (so : Bool) (t : yTok) (i : Nat) (m : fz_s) : Prop := yMT tp tn m ∧ yTS tp tn b so t ∧ m.1 196 2 = nI (t.1 + i) ∧ m.1 196 5 = 0 ∧ m.1 196 6 = -1
theorem y_mnumlp {tp : Nat → Nat} {tn b most : Nat} {so : Bool} {t : yTok} (hk : t.2.2.1 = 2) (hm : most < 100000) {m0 : fz_s} {Q : Int32 → fz_s → Prop} (hT : yNu tp t most → ∀ m', yAd tp tn t.2.1 true m' → Fr pKt m0 m' → Q (nI (yval tp t.1 (t.2.1 - t.1))) m') (hN : ¬ yNu tp t most → ∀ v m', v ≤ 9999 → yFM (yNk t) (yNp t) m' → Fr pKt m0 m' → Q (nI v) m') : ∀ (n i : Nat) (m : fz_s), i ≤ 4 → t.1 + i ≤ t.2.1 → t.2.1 < n + t.1 + i → yDg tp tn b so t i m → Fr pKt m0 m → lp_X12_number_49 Q n 0 (nI most) (nI t.1) (nI (yval tp t.1 i)) m
  | 0, i, m, h0, h1, h2, _, _ => absurd h2 (by omega)
  | n + 1, i, m, h0, h1, h2, h, hF => by
    obtain ⟨a1, a2, a4, a6, a7⟩ := id h
    have hn := a1.1
    have ht := a2.2.2.1
    obtain ⟨d1, d2, d3, d4⟩ := a2.dg a1.2.1 hk
    have hv : yval tp t.1 i ≤ 9999 := y_val9 h0 (fun j hj => (d2 _ (by omega) (by omega)).2)
    have fin : t.1 + i = t.2.1 → nd_X12_number_129 Q 0 (nI most) (nI t.1) (nI (yval tp t.1 i)) m := by
      intro ei
      unfold nd_X12_number_129
      intro s1 e1 s2 e2
      have ei' : t.2.1 - t.1 = i := by omega
      rw [a4, ei] at e1
      have F2 : Fr pKt m s2 := by rw [e2, e1]; exact (Fr.rf.si (pKt_t (by omega))).si (pKt_t (by omega))
      have r10 : s2.1 196 10 = nI t.1 := by rw [e2, g_eq]
      have r5 : s2.1 196 5 = 0 := by rw [e2, g_nj (by omega), e1, g_nj (by omega)]; exact a6
      unfold yNu at hT hN
      unfold yNk yNp at hN
      rw [ei'] at hT hN
      refine y_isIn ⟨by omega, hm⟩ (fun c => b1 ?_) (fun c => b4 ?_)
      · refine hT ⟨hk, by omega, c⟩ s2 (fun t' ht' => ⟨a1.k F2, ht', ⟨Nat.le_refl _, ht'.1⟩, ?_, Or.inl ⟨rfl, ?_⟩, r5, ?_⟩) (hF.tr F2)
        · rw [e2, g_nj (by omega), e1, g_nj (by omega), a4, ei]
        · rw [e2, g_nj (by omega), e1, g_eq]
        · rw [e2, g_nj (by omega), e1, g_nj (by omega)]; exact a7
      · rw [r10]
        rw [if_pos ⟨hk, by omega⟩, if_neg (fun z => z.2 (by omega))] at hN
        exact y_mfail r5 (kd := 2) ⟨by omega, by omega⟩ (by omega) (fun m' h1 h2 => hN (fun z => c z.2.2) _ m' hv h1 ((hF.tr F2).tr h2))
    show nd_X12_number_49 (lp_X12_number_49 Q n) Q 0 (nI most) (nI t.1) (nI (yval tp t.1 i)) m
    unfold nd_X12_number_49
    rw [a1.2.2.1, a4]
    by_cases c1 : tn ≤ t.1 + i
    · exact bt (by simp (disch := omega) only [N_lit, N_add, N_mul, N_sub, N_addneg, N_neg1, N_addm, N_le, N_lt, N_eq, N_in, N_cl, N_ne, N_ne', N_ltm, N_mlt, N_lem] <;> omega) (fin (by omega))
    refine bf (by simp (disch := omega) only [N_lit, N_add, N_mul, N_sub, N_addneg, N_neg1, N_addm, N_le, N_lt, N_eq, N_in, N_cl, N_ne, N_ne', N_ltm, N_mlt, N_lem] <;> omega) ⟨N_in ⟨by omega, by omega⟩, ?_⟩
    rw [N_cl (by omega), a1.2.2.2.1 _ (by omega)]
    refine y_isDig (c := tp (t.1 + i)) (Or.inl rfl) (a1.2.1 _) (fun hd => b2 ?_) (fun hd => b3 (fin ?_))
    · have hi : t.1 + i < t.2.1 := by
        by_cases z : t.1 + i = t.2.1
        · rw [z] at hd c1
          exact absurd hd (d3 (by omega))
        · omega
      rw [a4, N_sub (by omega), show t.1 + i - t.1 = i by omega]
      by_cases c2 : i = 4
      · refine nf (by rw [c2]; rfl) ?_
        unfold yNu yNk yNp at hN
        rw [if_neg (fun z => by omega), if_pos ⟨hk, by omega⟩] at hN
        subst c2
        exact y_mfail a6 (kd := 1) ⟨by omega, by omega⟩ (by omega) (fun m' h1 h2 => hN (fun z => by omega) 0 m' (by omega) h1 (hF.tr h2))
      · refine nt (fun z => c2 ((N_eq (b := 4) ⟨by omega, by omega⟩).mp z)) ⟨N_in ⟨by omega, by omega⟩, fun x3 e3 s4 e4 => ?_⟩
        rw [N_cl (by omega), a1.2.2.2.1 _ (by omega)] at e3
        rw [nI_1] at e4
        have e7 : 10 * nI (yval tp t.1 i) + nI (tp (t.1 + i)) - 48 = nI (yval tp t.1 (i + 1)) := by
          show nI 10 * nI (yval tp t.1 i) + nI (tp (t.1 + i)) - nI 48 = nI (10 * yval tp t.1 i + (tp (t.1 + i) - 48))
          rw [N_mul, N_add, N_sub (by omega)]
          congr 1
          omega
        rw [e3, e7]
        have F4 : Fr pKt m s4 := by rw [e4]; exact Fr.rf.si (pKt_t (by omega))
        refine y_mnumlp (b := b) (so := so) hk hm hT hN n (i + 1) s4 (by omega) (by omega) (by omega) ⟨a1.k F4, a2, ?_, ?_, ?_⟩ (hF.tr F4)
        · rw [e4, g_eq]; rfl
        · rw [e4, g_nj (by omega)]; exact a6
        · rw [e4, g_nj (by omega)]; exact a7
    · by_cases z : t.1 + i = t.2.1
      · exact z
      · exact absurd (d2 (t.1 + i) (by omega) (by omega)) hd
theorem y_number {tp : Nat → Nat} {tn b most : Nat} {so : Bool} {t : yTok} {a : Nat} {m : fz_s} (h : yPM tp tn b so t a m) (hm : most < 100000) {Q : Int32 → fz_s → Prop} (hT : yNu tp t most → ∀ m', yAd tp tn t.2.1 true m' → Fr pKt m m' → Q (nI (yval tp t.1 (t.2.1 - t.1))) m') (hN : ¬ yNu tp t most → ∀ v m', v ≤ 9999 → yFM (yNk t) (yNp t) m' → Fr pKt m m' → Q (nI v) m') : wp_X12_number 0 (nI most) m Q := by
  unfold wp_X12_number
  refine bt h.2.2.2.2.2.1 ?_
  refine y_look h (fun m' h' hF => ?_)
  obtain ⟨a1, a2, a3, a4, a5, a6, a7⟩ := id h'
  have hn0 := a1.1
  have ht := a2.2.1
  have ht2 := a2.2.2.1
  have hk := a2.2.2.2.2
  have hLb : yLc tp tn t < 256 := by
    unfold yLc
    split
    · exact a1.2.1 _
    · omega
  have no : t.2.2.1 ≠ 2 → nd_X12_number_30 Q m' := by
    intro hc
    unfold yNu yNk yNp at hN
    rw [if_neg (fun z => hc z.1), if_neg (fun z => hc z.1)] at hN
    exact y_mfailAt h' (kd := 1) ⟨by omega, by omega⟩ (fun m2 h2 hF2 => hN (fun z => hc z.1) 0 m2 (by omega) h2 ((y_AK hF).tr hF2))
  have hE := y_ended (q := t.1) a5 (by omega) (by omega)
  refine y_isDig (y_lk0 tp tn t) hLb (fun hl => b2 ?_) (fun hl => b3 (no (fun hc => hl ?_)))
  · rw [a4]
    by_cases c1 : so = true ∧ t.1 = b
    · refine nf (hE.mpr c1) (no (fun hc => ?_))
      exact (a2.dg a1.2.1 hc).2.2.2 c1.1 c1.2
    · refine nt (fun z => c1 (hE.mp z)) (fun x5 e5 => ?_)
      rw [e5]
      have hk2 : t.2.2.1 = 2 := by
        unfold yLc at hl
        rcases hk with z | z | z | z | z
        · rw [if_neg (by omega)] at hl
          omega
        · have := z.2.2.1.2.2.1 t.1 (Nat.le_refl _) z.2.1
          rw [if_pos (by omega)] at hl
          omega
        · exact z.1
        · rw [if_pos (by omega)] at hl
          omega
        · exact absurd ⟨z.2.2.2.1, z.2.2.2.2⟩ c1
      have hd := a2.dg a1.2.1 hk2
      exact y_mnumlp (b := b) (so := so) hk2 hm (fun z m2 h2 hF2 => hT z m2 h2 ((y_AK hF).tr hF2)) (fun z v m2 hv h2 hF2 => hN z v m2 hv h2 ((y_AK hF).tr hF2)) 2048 0 m' (by omega) (by omega) (by omega) ⟨a1, a2, a4, a6, a7⟩ Fr.rf
  · have hd := a2.dg a1.2.1 hc
    unfold yLc
    rw [if_pos (by omega)]
    exact hd.2.1 t.1 (Nat.le_refl _) hd.1
theorem y_numberBad {m : fz_s} (hb : ¬ m.1 196 5 = 0) {u v : Int32} {Q : Int32 → fz_s → Prop} (hq : Q 0 m) : wp_X12_number u v m Q := bf hb hq

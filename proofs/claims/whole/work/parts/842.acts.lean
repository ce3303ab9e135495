/-! WHAT IS REMEMBERED -/
theorem ga_eq {s : fz_s} {a k : Nat} {f : Nat → Int32} : (sa s a f).1 a k = f k := by
  rw [g_sa, if_pos rfl]
theorem ga_ne {s : fz_s} {a b k : Nat} {f : Nat → Int32} (h : b ≠ a) : (sa s a f).1 b k = s.1 b k := by
  rw [g_sa, if_neg h]
theorem va_in {f g : Nat → Int32} {n k : Nat} (h : k < n) : va_cpy f g 0 0 n k = f k := by
  unfold va_cpy
  rw [if_pos ⟨Nat.zero_le _, by omega⟩, Nat.zero_add, Nat.sub_zero]
def pT (w a _j : Nat) : Bool := decide (w ≤ a ∧ a ≤ w + 5)
theorem pT_f {w a j : Nat} (h : ¬ (w ≤ a ∧ a ≤ w + 5)) : pT w a j = false := decide_eq_false h
theorem pT_t {w a j : Nat} (h : w ≤ a ∧ a ≤ w + 5) : pT w a j = true := decide_eq_true h
theorem c_take {T : TT} {W : WW} {w w0 : Nat} {x : fz_s} (hn : T.1 ≤ 8) (hW : CW T W w0 x) (hd : w + 5 < w0 ∨ w0 + 5 < w) {Q : fz_s → Prop} (hq : ∀ x', Fr (pT w) x x' → CW T W w x' → x'.1 w 6 = x.1 w0 6 → Q x') : wp_X10_take w w0 x Q := by
  unfold wp_X10_take
  intro s1 e1 s2 e2 s3 e3 s4 e4 s5 e5 s6 e6 s7 e7
  have e1 : s1 = sa x (w + 1 + 0) (va_cpy (x.1 (w0 + 1 + 0)) (x.1 (w + 1 + 0)) 0 0 2) := e1
  have e2 : s2 = sa s1 (w + 1 + 1) (va_cpy (s1.1 (w0 + 1 + 1)) (s1.1 (w + 1 + 1)) 0 0 2) := e2
  have e3 : s3 = sa s2 (w + 1 + 2) (va_cpy (s2.1 (w0 + 1 + 2)) (s2.1 (w + 1 + 2)) 0 0 8) := e3
  have e4 : s4 = sa s3 (w + 1 + 3) (va_cpy (s3.1 (w0 + 1 + 3)) (s3.1 (w + 1 + 3)) 0 0 8) := e4
  have e5 : s5 = sa s4 (w + 1 + 4) (va_cpy (s4.1 (w0 + 1 + 4)) (s4.1 (w + 1 + 4)) 0 0 8) := e5
  obtain ⟨a1, a2, a3, a4, a5, a6⟩ := hW
  refine hq s7 ?_ ⟨fun v hv => ?_, fun v hv => ?_, fun v hv => ?_, fun v hv => ?_, fun v hv => ?_, ?_⟩ ?_
  · rw [e7, e6, e5, e4, e3, e2, e1]
    exact ((((((Fr.rf.sa (fun k => pT_t (by omega))).sa (fun k => pT_t (by omega))).sa (fun k => pT_t (by omega))).sa (fun k => pT_t (by omega))).sa (fun k => pT_t (by omega))).si (pT_t (by omega))).si (pT_t (by omega))
  · rw [e7, g_ne (by omega), e6, g_ne (by omega), e5, ga_ne (by omega), e4, ga_ne (by omega), e3, ga_ne (by omega), e2, ga_ne (by omega), e1, ga_eq, va_in (by omega)]
    exact a1 v hv
  · rw [e7, g_ne (by omega), e6, g_ne (by omega), e5, ga_ne (by omega), e4, ga_ne (by omega), e3, ga_ne (by omega), e2, ga_eq, va_in (by omega), e1, ga_ne (by omega)]
    exact a2 v hv
  · rw [e7, g_ne (by omega), e6, g_ne (by omega), e5, ga_ne (by omega), e4, ga_ne (by omega), e3, ga_eq, va_in (by omega), e2, ga_ne (by omega), e1, ga_ne (by omega)]
    exact a3 v hv
  · rw [e7, g_ne (by omega), e6, g_ne (by omega), e5, ga_ne (by omega), e4, ga_eq, va_in (by omega), e3, ga_ne (by omega), e2, ga_ne (by omega), e1, ga_ne (by omega)]
    exact a4 v hv
  · rw [e7, g_ne (by omega), e6, g_ne (by omega), e5, ga_eq, va_in (by omega), e4, ga_ne (by omega), e3, ga_ne (by omega), e2, ga_ne (by omega), e1, ga_ne (by omega)]
    exact a5 v hv
  · rw [e7, g_nj (by omega), e6, g_eq, e5, ga_ne (by omega), e4, ga_ne (by omega), e3, ga_ne (by omega), e2, ga_ne (by omega), e1, ga_ne (by omega)]
    exact a6
  · rw [e7, g_eq, e6, g_ne (by omega), e5, ga_ne (by omega), e4, ga_ne (by omega), e3, ga_ne (by omega), e2, ga_ne (by omega), e1, ga_ne (by omega)]
theorem c_takeW {T : TT} {W : WW} {w w0 : Nat} {x : fz_s} (h : CC T W w0 x) (hw : 35 ≤ w) (hd : w + 5 < w0 ∨ w0 + 5 < w) {Q : fz_s → Prop} (hq : ∀ x', Fr (pT w) x x' → CC T W w x' → x'.1 w 6 = x.1 w0 6 → Q x') : wp_X10_take w w0 x Q := c_take h.1.1 h.2.2.2.1 hd (fun x' hF hW h6 => hq x' hF ⟨h.1, h.2.1, h.2.2.1.cong (hF.i _ _ (pT_f (by omega))) (fun a ha j => hF.i _ _ (pT_f (by omega))), hW, hw⟩ h6)
def psh (us : Nat → WW × Nat) (e : WW × Nat) (i : Nat) : WW × Nat := if i = 0 then e else us (i - 1)
theorem psh_0 {us : Nat → WW × Nat} {e : WW × Nat} : psh us e 0 = e := if_pos rfl
theorem psh_s {us : Nat → WW × Nat} {e : WW × Nat} {i : Nat} (h : i ≠ 0) : psh us e i = us (i - 1) := if_neg h
def acN (ac : Nat) : Nat := if ac < 20 then ac + 1 else 20
def pU (a j : Nat) : Bool := decide ((52 ≤ a ∧ a ≤ 171) ∨ (a = 47 ∧ (j = 4 ∨ j = 5)))
theorem pU_f {a j : Nat} (h : ¬ ((52 ≤ a ∧ a ≤ 171) ∨ (a = 47 ∧ (j = 4 ∨ j = 5)))) : pU a j = false := decide_eq_false h
theorem pU_t {a j : Nat} (h : (52 ≤ a ∧ a ≤ 171) ∨ (a = 47 ∧ (j = 4 ∨ j = 5))) : pU a j = true := decide_eq_true h
theorem c_remember {T : TT} {W : WW} {us : Nat → WW × Nat} {ac o kn : Nat} {x : fz_s} (hn : T.1 ≤ 8) (ha : ac ≤ 20) (hU : UC T us ac o x) (hW : CW T W 35 x) (hk : x.1 35 6 = nI kn) {Q : fz_s → Prop} (hq : ∀ x' o', Fr pU x x' → UC T (psh us (W, kn)) (acN ac) o' x' → Q x') : wp_X4_remember 35 x Q := by
  obtain ⟨b1, b2, b3, b4⟩ := hU
  unfold wp_X4_remember
  rw [b2, b3, N_add, show nI (o + ac) - nI (o + ac) / 20 * 20 = nI ((o + ac) % 20) from N_mod (b := 20) ⟨by omega, by omega⟩, N_cl (by omega)]
  refine ⟨N_in ⟨by omega, by omega⟩, c_take hn hW (by omega) (fun x1 hF1 hW1 h61 => ?_)⟩
  have hF1' : Fr pU x x1 := hF1.mono fun a j q => by
    have := of_decide_eq_false q
    exact pT_f (by omega)
  have r4 : x1.1 47 4 = nI o := (hF1.i _ _ (pT_f (by omega))).trans b2
  have r5 : x1.1 47 5 = nI ac := (hF1.i _ _ (pT_f (by omega))).trans b3
  have old : ∀ i, i < ac → i + 1 < 20 → ∀ x', (∀ a j, 52 ≤ a → a ≤ 171 → x'.1 a j = x1.1 a j) → CW T (us i).1 (slC o ac i) x' ∧ x'.1 (slC o ac i) 6 = nI (us i).2 := by
    intro i hi hi2 x' hx'
    have hs := slC_r o ac i
    have hne : (o + ac - 1 - i) % 20 ≠ (o + ac) % 20 := by omega
    have hd : slC o ac i + 5 < 52 + 6 * ((o + ac) % 20) ∨ 52 + 6 * ((o + ac) % 20) + 5 < slC o ac i := by
      unfold slC
      omega
    exact ⟨((b4 i hi).1.cong (fun a j h1 h2 => hF1.i _ _ (pT_f (by omega)))).cong (fun a j h1 h2 => hx' a j (by omega) (by omega)), (hx' _ _ (by omega) (by omega)).trans ((hF1.i _ _ (pT_f (by omega))).trans (b4 i hi).2)⟩
  rw [r4, r5]
  by_cases c : ac < 20
  · refine bf (by simp (disch := omega) only [N_lit, N_add, N_mul, N_sub, N_addneg, N_neg1, N_addm, N_le, N_lt, N_eq, N_in, N_cl, N_ne, N_ne', N_ltm, N_mlt, N_lem] <;> omega) ?_
    intro s4 e4
    rw [nI_1] at e4
    have ex : ∀ a j, 52 ≤ a → a ≤ 171 → s4.1 a j = x1.1 a j := fun a j h1 h2 => by rw [e4, g_ne (by omega)]
    refine hq s4 o ?_ ?_
    · rw [e4]
      exact hF1'.si (pU_t (by omega))
    · have en : acN ac = ac + 1 := if_pos c
      rw [en]
      refine ⟨b1, ?_, ?_, fun i hi => ?_⟩
      · rw [e4, g_nj (by omega)]; exact r4
      · rw [e4]; exact g_eq
      · by_cases c0 : i = 0
        · subst c0
          rw [psh_0, show slC o (ac + 1) 0 = 52 + 6 * ((o + ac) % 20) by unfold slC; omega]
          exact ⟨hW1.cong (fun a j h1 h2 => ex a j (by omega) (by omega)), (ex _ _ (by omega) (by omega)).trans (h61.trans hk)⟩
        · rw [psh_s c0, show slC o (ac + 1) i = slC o ac (i - 1) by unfold slC; rw [show o + (ac + 1) - 1 - i = o + ac - 1 - (i - 1) by omega]]
          exact old (i - 1) (by omega) (by omega) s4 ex
  · have hac : ac = 20 := by omega
    subst hac
    refine bt (by simp (disch := omega) only [N_lit, N_add, N_mul, N_sub, N_addneg, N_neg1, N_addm, N_le, N_lt, N_eq, N_in, N_cl, N_ne, N_ne', N_ltm, N_mlt, N_lem] <;> omega) ?_
    intro s3 e3
    rw [nI_1, show nI (o + 1) - nI (o + 1) / 20 * 20 = nI ((o + 1) % 20) from N_mod (b := 20) ⟨by omega, by omega⟩] at e3
    have ex : ∀ a j, 52 ≤ a → a ≤ 171 → s3.1 a j = x1.1 a j := fun a j h1 h2 => by rw [e3, g_ne (by omega)]
    refine hq s3 ((o + 1) % 20) ?_ ⟨by omega, ?_, ?_, fun i hi => ?_⟩
    · rw [e3]
      exact hF1'.si (pU_t (by omega))
    · rw [e3]; exact g_eq
    · rw [e3, g_nj (by omega)]; exact r5
    · have hi' : i < 20 := hi
      by_cases c0 : i = 0
      · subst c0
        rw [psh_0, show slC ((o + 1) % 20) (acN 20) 0 = 52 + 6 * ((o + 20) % 20) by show 52 + 6 * (((o + 1) % 20 + 20 - 1 - 0) % 20) = _; omega]
        exact ⟨hW1.cong (fun a j h1 h2 => ex a j (by omega) (by omega)), (ex _ _ (by omega) (by omega)).trans (h61.trans hk)⟩
      · rw [psh_s c0, show slC ((o + 1) % 20) (acN 20) i = slC o 20 (i - 1) by show 52 + 6 * (((o + 1) % 20 + 20 - 1 - i) % 20) = 52 + 6 * ((o + 20 - 1 - (i - 1)) % 20); omega]
        exact old (i - 1) (by omega) (by omega) s3 ex
def pV (a j : Nat) : Bool := decide (a = 243 ∨ (a = 196 ∧ (j = 72 ∨ j = 73)))
theorem pV_f {a j : Nat} (h : ¬ (a = 243 ∨ (a = 196 ∧ (j = 72 ∨ j = 73)))) : pV a j = false := decide_eq_false h
theorem pV_t {a j : Nat} (h : a = 243 ∨ (a = 196 ∧ (j = 72 ∨ j = 73))) : pV a j = true := decide_eq_true h
theorem m_keeps_lp {nw ac : Nat} (hnw : nw < 20) (hac : ac ≤ 20) {m : fz_s} (r72 : m.1 196 72 = nI ac) (r73 : m.1 196 73 = nI nw) {Q : fz_s → Prop} (hq : ∀ m', Fr pV m m' → m'.1 196 73 = nI nw → m'.1 196 72 = nI (acN ac) → (∀ j, j < 150 → m'.1 243 (150 * nw + j) = m.1 232 j) → (∀ j, (j < 150 * nw ∨ 150 * nw + 150 ≤ j) → m'.1 243 j = m.1 243 j) → Q m') : ∀ (n k : Nat) (x : fz_s), Fr pV m x → x.1 196 73 = nI nw → x.1 196 72 = nI ac → (∀ j, j < k → x.1 243 (150 * nw + j) = m.1 232 j) → (∀ j, (j < 150 * nw ∨ 150 * nw + 150 ≤ j) → x.1 243 j = m.1 243 j) → k ≤ 150 → 150 < n + k → lp_X12_keeps_15 Q n (nI k) x
  | 0, k, x, _, _, _, _, _, h1, h2 => absurd h2 (by omega)
  | n + 1, k, x, hF, x73, x72, hl, hr, h1, h2 => by
    show nd_X12_keeps_15 (lp_X12_keeps_15 Q n) Q (nI k) x
    unfold nd_X12_keeps_15
    rw [x72, x73]
    by_cases c : k = 150
    · subst c
      refine bt (by simp (disch := omega) only [N_lit, N_add, N_mul, N_sub, N_addneg, N_neg1, N_addm, N_le, N_lt, N_eq, N_in, N_cl, N_ne, N_ne', N_ltm, N_mlt, N_lem] <;> omega) ?_
      by_cases c2 : ac < 20
      · refine bf (by simp (disch := omega) only [N_lit, N_add, N_mul, N_sub, N_addneg, N_neg1, N_addm, N_le, N_lt, N_eq, N_in, N_cl, N_ne, N_ne', N_ltm, N_mlt, N_lem] <;> omega) ?_
        intro s1 e1
        rw [nI_1] at e1
        refine hq s1 ?_ ?_ ?_ (fun j hj => ?_) (fun j hj => ?_)
        · rw [e1]; exact hF.si (pV_t (by omega))
        · rw [e1, g_nj (by omega)]; exact x73
        · rw [e1, g_eq, show acN ac = ac + 1 from if_pos c2]
        · rw [e1, g_ne (by omega)]; exact hl j hj
        · rw [e1, g_ne (by omega)]; exact hr j hj
      · refine bt (by simp (disch := omega) only [N_lit, N_add, N_mul, N_sub, N_addneg, N_neg1, N_addm, N_le, N_lt, N_eq, N_in, N_cl, N_ne, N_ne', N_ltm, N_mlt, N_lem] <;> omega) (hq x hF x73 ?_ hl hr)
        rw [x72, show acN ac = 20 from if_neg c2, show ac = 20 by omega]
    refine bf (by simp (disch := omega) only [N_lit, N_add, N_mul, N_sub, N_addneg, N_neg1, N_addm, N_le, N_lt, N_eq, N_in, N_cl, N_ne, N_ne', N_ltm, N_mlt, N_lem] <;> omega) ?_
    rw [show (150 : Int32) * nI nw = nI (150 * nw) from N_mul 150 nw, N_add, N_cl (by omega), N_cl (by omega), nI_1]
    refine ⟨N_in ⟨by omega, by omega⟩, N_in ⟨by omega, by omega⟩, fun s2 e2 x3 e3 => ?_⟩
    subst e3
    have r232 : x.1 232 k = m.1 232 k := hF.i _ _ (pV_f (by omega))
    refine m_keeps_lp hnw hac r72 r73 hq n (k + 1) s2 ?_ ?_ ?_ (fun j hj => ?_) (fun j hj => ?_) (by omega) (by omega)
    · rw [e2]; exact hF.si (pV_t (by omega))
    · rw [e2, g_ne (by omega)]; exact x73
    · rw [e2, g_ne (by omega)]; exact x72
    · rw [e2]
      by_cases c3 : j = k
      · subst c3
        rw [g_eq]
        exact r232
      · rw [g_nj (by omega)]
        exact hl j (by omega)
    · rw [e2, g_nj (by omega)]
      exact hr j hj
theorem m_keeps {T : TT} {W : WW} {kf : Nat → Nat × Int × Int} {us : Nat → WW × Nat} {ac nw kn : Nat} {m : fz_s} (hn : T.1 ≤ 8) (ha : ac ≤ 20) (hU : UM T kf us ac nw m) (hW : MW T W m) (hk : KP kf kn m) {Q : fz_s → Prop} (hq : ∀ m' nw', Fr pV m m' → UM T kf (psh us (W, kn)) (acN ac) nw' m' → Q m') : wp_X12_keeps m Q := by
  obtain ⟨b1, b2, b3, b4⟩ := hU
  unfold wp_X12_keeps
  intro s1 e1
  rw [b3, nI_1, show nI (nw + 1) - nI (nw + 1) / 20 * 20 = nI ((nw + 1) % 20) from N_mod (b := 20) ⟨by omega, by omega⟩] at e1
  have h72 : s1.1 196 72 = nI ac := by rw [e1, g_nj (by omega)]; exact b2
  have h73 : s1.1 196 73 = nI ((nw + 1) % 20) := by rw [e1]; exact g_eq
  have hF1 : Fr pV m s1 := by rw [e1]; exact Fr.rf.si (pV_t (by omega))
  have e232 : ∀ j, s1.1 232 j = m.1 232 j := fun j => by rw [e1, g_ne (by omega)]
  have e243 : ∀ j, s1.1 243 j = m.1 243 j := fun j => by rw [e1, g_ne (by omega)]
  refine m_keeps_lp (by omega) ha h72 h73 (fun m2 hF2 k73 k72 hl hr => ?_) 2048 0 s1 Fr.rf h73 h72 (fun j hj => by omega) (fun j _ => rfl) (by omega) (by omega)
  have hacN : acN ac ≤ 20 ∧ acN ac ≤ ac + 1 := by unfold acN; split <;> omega
  refine hq m2 ((nw + 1) % 20) (hF1.tr hF2) ⟨by omega, k72, k73, fun i hi => ?_⟩
  by_cases c0 : i = 0
  · subst c0
    have es : slM ((nw + 1) % 20) 0 = 150 * ((nw + 1) % 20) := by unfold slM; omega
    rw [psh_0, es]
    refine ⟨MWr.cong hn hW (fun j hj => ?_), KPr.cong hk (fun j h1 h2 => ?_)⟩
    · rw [hl j (by omega), e232]
    · rw [hl j (by omega), e232]
  · have es : slM ((nw + 1) % 20) i = slM nw (i - 1) := by unfold slM; omega
    have hne : (nw + 20 - (i - 1)) % 20 ≠ (nw + 1) % 20 := by omega
    rw [psh_s c0, es]
    have hz := b4 (i - 1) (by omega)
    have hf : ∀ j, j < 150 → m2.1 243 (slM nw (i - 1) + j) = m.1 243 (slM nw (i - 1) + j) := fun j hj => by
      rw [hr _ (by unfold slM; omega), e243]
    exact ⟨hz.1.cong hn (fun j hj => hf j (by omega)), hz.2.cong (fun j h1 h2 => hf j h2)⟩
theorem UP.push {T : TT} {W : WW} {us : Nat → WW × Nat} {ac kn : Nat} (h : UP T kn us ac) (hW : WV T W) (hy : W.2.2.2.2.2 ≤ 999) (hk : kn ≤ W.2.2.2.2.2) : UP T kn (psh us (W, kn)) (acN ac) := by
  obtain ⟨a1, a2, a3⟩ := h
  have hacN : acN ac ≤ 20 ∧ acN ac ≤ ac + 1 := by unfold acN; split <;> omega
  refine ⟨hacN.1, fun i j hij hj => ?_, fun i hi => ?_⟩
  · by_cases c0 : i = 0
    · subst c0
      rw [psh_0]
      by_cases c1 : j = 0
      · subst c1
        rw [psh_0]
        exact Nat.le_refl _
      · rw [psh_s c1]
        exact (a3 (j - 1) (by omega)).1
    · rw [psh_s c0, psh_s (by omega)]
      exact a2 (i - 1) (j - 1) (by omega) (by omega)
  · by_cases c0 : i = 0
    · subst c0
      rw [psh_0]
      exact ⟨Nat.le_refl _, hk, hy, hW⟩
    · rw [psh_s c0]
      exact a3 (i - 1) (by omega)
theorem CC.pU {T : TT} {W : WW} {x x' : fz_s} (h : CC T W 35 x) (hF : Fr pU x x') : CC T W 35 x' := h.cg (fun a j q => hF.i _ _ (pU_f (by omega)))
theorem MM.pV {T : TT} {W : WW} {m m' : fz_s} (h : MM T W m) (hF : Fr pV m m') : MM T W m' := h.cg (fun a j q => hF.i _ _ (pV_f (by omega)))
/-- an act that changes the world alone, behind what is remembered -/
def pWc (a j : Nat) : Bool := decide ((52 ≤ a ∧ a ≤ 171) ∨ (a = 47 ∧ (j = 4 ∨ j = 5)) ∨ (36 ≤ a ∧ a ≤ 40))
def pWm (a j : Nat) : Bool := decide (a = 243 ∨ (a = 196 ∧ (j = 72 ∨ j = 73)) ∨ (a = 232 ∧ j < 29))
theorem INV.act {x m x' m' : fz_s} {t : Bool} {T : TT} {W W' : WW} {kf : Nat → Nat × Int × Int} {kn : Nat} {us' : Nat → WW × Nat} {ac' o' nw' : Nat} (h : (∃ tp tn, I1 tp tn x m) ∧ I2 x m ∧ (∃ pn, I3 pn x m) ∧ (∃ sd, I4 sd x m) ∧ (∃ sn nm nl, I5 t T sn nm nl x m) ∧ I6 T W x m ∧ I7 W kf kn x m ∧ (∃ us ac o nw, I8 T kf kn us ac o nw x m) ∧ (∃ rs rn, I9 rs rn x m) ∧ I10 m) (hy : W'.2.2.2.2.2 = W.2.2.2.2.2) (hU : UP T kn us' ac') (hC : UC T us' ac' o' x') (hM : UM T kf us' ac' nw' m') (c' : CC T W' 35 x') (m6 : MM T W' m') (hx : Fr pWc x x') (hm : Fr pWm m m') : INV x' m' := by
  obtain ⟨⟨tp, tn, h1⟩, h2, ⟨pn, h3⟩, ⟨sd, h4⟩, ⟨sn, nm, nl, h5⟩, h6, h7, ⟨us, ac, o, nw, h8⟩, ⟨rs, rn, h9⟩, h10⟩ := h
  have ex : ∀ a j, ¬ ((52 ≤ a ∧ a ≤ 171) ∨ (a = 47 ∧ (j = 4 ∨ j = 5)) ∨ (36 ≤ a ∧ a ≤ 40)) → x'.1 a j = x.1 a j := fun a j ha => hx.i a j (decide_eq_false ha)
  have em : ∀ a j, ¬ (a = 243 ∨ (a = 196 ∧ (j = 72 ∨ j = 73)) ∨ (a = 232 ∧ j < 29)) → m'.1 a j = m.1 a j := fun a j ha => hm.i a j (decide_eq_false ha)
  have el : ∀ a j, ¬ (a = 243 ∨ (a = 196 ∧ (j = 72 ∨ j = 73)) ∨ (a = 232 ∧ j < 29)) → m'.2.1 a j = m.2.1 a j := fun a j ha => hm.l a j (decide_eq_false ha)
  have h7' : I7 W' kf kn x m := by
    unfold I7
    rw [hy]
    exact h7
  exact ⟨t, T, W', kf, kn, ⟨tp, tn, h1.cg (fun a j q => ex a j (by omega)) (fun a j q => em a j (by omega))⟩, h2.cg (fun a j q => ex a j (by omega)) (fun a j q => em a j (by omega)), ⟨pn, h3.cg (fun a j q => ex a j (by omega)) (fun a j q => em a j (by omega))⟩, ⟨sd, h4.cg (fun a j q => ex a j (by omega)) (fun a j q => el a j (by omega))⟩, ⟨sn, nm, nl, h5.cg (fun a j q => ex a j (by omega)) (fun a j q => em a j (by omega)) (fun a j q => el a j (by omega))⟩, ⟨c', m6, by rw [hy]; exact h6.2.2.1, (em _ _ (by omega)).trans h6.2.2.2⟩, h7'.cg (fun a j q => ex a j (by omega)) (fun a j q => em a j (by omega)), ⟨us', ac', o', nw', hU, hC, hM⟩, ⟨rs, rn, h9.cg (fun a j q => ex a j (by omega)) (fun a j q => em a j (by omega))⟩, h10.cg (fun a j q => em a j (by omega))⟩
theorem pU_pWc {s s' : fz_s} (h : Fr pU s s') : Fr pWc s s' := h.mono fun a j q => by
  have := of_decide_eq_false q
  exact pU_f (by omega)
theorem pV_pWm {s s' : fz_s} (h : Fr pV s s') : Fr pWm s s' := h.mono fun a j q => by
  have := of_decide_eq_false q
  exact pV_f (by omega)
theorem pX_pWc {s s' : fz_s} (h : Fr (pX 35) s s') : Fr pWc s s' := h.mono fun a j q => by
  have := of_decide_eq_false q
  exact pX_f (by omega)
theorem m_cross1' {T : TT} {W : WW} {p : Nat} {m : fz_s} (h : MM T W m) (hp : p < T.1) (ha : W.2.2.2.1 p = false) {Q : fz_s → Prop} (hq : ∀ m', MM T (crs W p) m' → Fr pN m m' → (∀ a j, ¬ (a = 232 ∧ j < 29) → m'.1 a j = m.1 a j) → (∀ a j, m'.2.1 a j = m.2.1 a j) → Q m') : wp_X12_goesAway (nI p) m Q := by
  have hn := h.1.1
  have hz := h.c (p := p)
  rw [ha] at hz
  unfold wp_X12_goesAway
  simp (disch := omega) only [show (6 : Int32) + 3 * nI p = nI (6 + 3 * p) by rw [show (3 : Int32) * nI p = nI (3 * p) from N_mul 3 p]; exact N_add 6 _, show (7 : Int32) + 3 * nI p = nI (7 + 3 * p) by rw [show (3 : Int32) * nI p = nI (3 * p) from N_mul 3 p]; exact N_add 7 _, N_in, N_cl, true_and]
  intro s1 e1 s2 e2
  subst e1
  subst e2
  exact hq _ hz ((Fr.rf.si (pN_t (by omega))).si (pN_t (by omega))) (fun a j q => by rw [g_si, if_neg (by omega), g_si, if_neg (by omega)]) (fun a j => rfl)
theorem m_cross0' {T : TT} {W : WW} {p : Nat} {m : fz_s} (h : MM T W m) (hp : p < T.1) (ha : W.2.2.2.1 p = true) {Q : fz_s → Prop} (hq : ∀ m', MM T (crs W p) m' → Fr pN m m' → (∀ a j, ¬ (a = 232 ∧ j < 29) → m'.1 a j = m.1 a j) → (∀ a j, m'.2.1 a j = m.2.1 a j) → Q m') : wp_X12_comesHome (nI p) m Q := by
  have hn := h.1.1
  have hz := h.c (p := p)
  rw [ha] at hz
  unfold wp_X12_comesHome
  simp (disch := omega) only [show (6 : Int32) + 3 * nI p = nI (6 + 3 * p) by rw [show (3 : Int32) * nI p = nI (3 * p) from N_mul 3 p]; exact N_add 6 _, show (7 : Int32) + 3 * nI p = nI (7 + 3 * p) by rw [show (3 : Int32) * nI p = nI (3 * p) from N_mul 3 p]; exact N_add 7 _, N_in, N_cl, true_and]
  intro s1 e1 s2 e2
  subst e1
  subst e2
  exact hq _ hz ((Fr.rf.si (pN_t (by omega))).si (pN_t (by omega))) (fun a j q => by rw [g_si, if_neg (by omega), g_si, if_neg (by omega)]) (fun a j => rfl)
theorem EQ_teach_ok : EQ_teach INV := by
  intro x m p0 p1 h
  obtain ⟨t, T, W, kf, kn, ⟨tp, tn, h1⟩, h2, ⟨pn, h3⟩, ⟨sd, h4⟩, ⟨sn, nm, nl, h5⟩, h6, h7, ⟨us, ac, o, nw, h8⟩, ⟨rs, rn, h9⟩, h10⟩ := id h
  obtain ⟨z, rfl, hz⟩ := i_of p0
  obtain ⟨y, rfl, hy⟩ := i_of p1
  have hn := h6.1.1.1
  obtain ⟨hT, hW, cT, cW, hw⟩ := id h6.1
  have mT := h6.2.1.2.2.1
  unfold wp_X11_teach wp_X12_teach
  rw [i_64 hy]
  have e1 : (iI y < 0) ↔ y < 0 := i_lt (b := 0) ⟨hy, by omega, by omega⟩
  have e2 : ((9 : Int32) < iI y) ↔ 9 < y := i_lt (a := 9) (b := y) ⟨⟨by omega, by omega⟩, hy⟩
  rw [e1, e2]
  have l0 : lR 0 := by unfold lR; omega
  have l9 : lR 9 := by unfold lR; omega
  have no : nd_X12_teach_29 (fun r' m' => false = r' ∧ INV (si x 195 2 (x.1 195 2 + 1)) m') m := by
    intro s1 es
    subst es
    exact ⟨rfl, h.refuse 2⟩
  refine c_noPerson cT.1 hn hz ⟨fun q => ?_, fun q => ?_⟩
  · have q' := not_dec.mp q
    exact c_refuse (k := 2) (by omega) (m_isPerson mT.1 hn hz ⟨fun _ => no, fun q => absurd (of_decide_eq_true q) q'⟩)
  have q' : 0 ≤ z ∧ z < T.1 := Decidable.byContradiction fun z => by rw [decide_eq_false z] at q; cases q
  by_cases c1 : y < 0
  · exact bt c1 (c_refuse (k := 2) (by omega) (m_isPerson mT.1 hn hz ⟨fun q => absurd q' (of_decide_eq_false q), fun _ => m_isIn (b := 0) (c := 9) (lR_i hy) l0 l9 ⟨fun _ => no, fun q => absurd (of_decide_eq_true q) (by omega)⟩⟩))
  refine bf c1 ?_
  by_cases c2 : 9 < y
  · exact bt c2 (c_refuse (k := 2) (by omega) (m_isPerson mT.1 hn hz ⟨fun q => absurd q' (of_decide_eq_false q), fun _ => m_isIn (b := 0) (c := 9) (lR_i hy) l0 l9 ⟨fun _ => no, fun q => absurd (of_decide_eq_true q) (by omega)⟩⟩))
  refine bf c2 ?_
  obtain ⟨p, rfl⟩ : ∃ p : Nat, z = p := ⟨z.toNat, by omega⟩
  obtain ⟨u, rfl⟩ : ∃ u : Nat, y = u := ⟨y.toNat, by omega⟩
  have hp : p < T.1 := by omega
  have hwp := hW.2.2.1 p hp
  rw [← i_nI p, ← i_nI u, N_cl (by omega), show x.1 38 p = nI (W.2.2.1 p) from cW.2.2.1 p hp, N_eq ⟨by omega, by omega⟩]
  have into : ∀ {Q : Bool → fz_s → Prop}, ((¬ W.2.2.1 p = u → wp_X12_keeps m (fun s8 => vp_in (5 + (3 * nI p)) 150 ∧ ∀ s9 : fz_s, s9 = si s8 232 (5 + (3 * nI p)).toNatClampNeg (nI u) → Q true s9)) ∧ (W.2.2.1 p = u → nd_X12_teach_29 Q m)) → wp_X12_isPerson (nI p) m (fun r1 s2 => ((r1 = false → nd_X12_teach_29 Q s2) ∧ (r1 = true → wp_X12_isIn (lI (u : Int)) 0 9 s2 (fun r3 s4 => ((r3 = false → nd_X12_teach_29 Q s4) ∧ (r3 = true → wp_X12_witsOf (nI p) s4 (fun r5 s6 => ((¬ r5 = nI u → wp_X12_keeps s6 (fun s8 => vp_in (5 + (3 * nI p)) 150 ∧ ∀ s9 : fz_s, s9 = si s8 232 (5 + (3 * nI p)).toNatClampNeg (nI u) → Q true s9)) ∧ (r5 = nI u → nd_X12_teach_29 Q s6))))))))) := by
    intro Q hq
    have hq2 : wp_X12_witsOf (nI p) m (fun r5 s6 => ((¬ r5 = nI u → wp_X12_keeps s6 (fun s8 => vp_in (5 + (3 * nI p)) 150 ∧ ∀ s9 : fz_s, s9 = si s8 232 (5 + (3 * nI p)).toNatClampNeg (nI u) → Q true s9)) ∧ (r5 = nI u → nd_X12_teach_29 Q s6))) := by
      refine m_wits h6.2.1 hp ?_
      rw [N_eq ⟨by omega, by omega⟩]
      exact hq
    have hz' := hz
    rw [i_nI p] at hq2 ⊢
    exact m_isPerson mT.1 hn hz' ⟨fun q => absurd q' (of_decide_eq_false q), fun _ => m_isIn (b := 0) (c := 9) (lR_i hy) l0 l9 ⟨fun q => absurd (of_decide_eq_false q) (by omega), fun _ => hq2⟩⟩
  refine ⟨N_in ⟨by omega, by omega⟩, fun c3 => ?_, fun c3 => ?_⟩
  · refine c_remember hn h8.1.1 h8.2.1 cW h7.1 (fun x1 o' hF1 hU1 => ⟨N_in ⟨by omega, by omega⟩, fun s5 e5 => into ⟨fun _ => ?_, fun q => absurd q c3⟩⟩)
    refine m_keeps hn h8.1.1 h8.2.2 h6.2.1.2.2.2 h7.2.2.2 (fun m1 nw' hF2 hU2 => ?_)
    simp (disch := omega) only [show (5 : Int32) + 3 * nI p = nI (5 + 3 * p) by rw [show (3 : Int32) * nI p = nI (3 * p) from N_mul 3 p]; exact N_add 5 _, N_in, N_cl, true_and]
    intro s9 e9
    have hx : Fr pWc x s5 := by rw [e5]; exact (pU_pWc hF1).si (decide_eq_true (by omega))
    have hm : Fr pWm m s9 := by rw [e9]; exact (pV_pWm hF2).si (decide_eq_true (by omega))
    refine INV.act (W' := stW W p u) ⟨⟨tp, tn, h1⟩, h2, ⟨pn, h3⟩, ⟨sd, h4⟩, ⟨sn, nm, nl, h5⟩, h6, h7, ⟨us, ac, o, nw, h8⟩, ⟨rs, rn, h9⟩, h10⟩ rfl (h8.1.push hW h6.2.2.1 h7.2.1) (hU1.cong ?_ ?_ (fun a j k1 k2 => ?_)) (hU2.cong hn ?_ ?_ (fun j => ?_)) ?_ ?_ hx hm
    · rw [e5, g_ne (by omega)]
    · rw [e5, g_ne (by omega)]
    · rw [e5, g_ne (by omega)]
    · rw [e9, g_ne (by omega)]
    · rw [e9, g_ne (by omega)]
    · rw [e9, g_ne (by omega)]
    · rw [e5]; exact (h6.1.pU hF1).w (by omega)
    · rw [e9]; exact (h6.2.1.pV hF2).w (by omega)
  · exact c_refuse (k := 2) (by omega) (into ⟨fun q => absurd c3 q, fun _ => no⟩)
theorem EQ_bring_ok : EQ_bring INV := by
  intro x m p0 h
  obtain ⟨t, T, W, kf, kn, ⟨tp, tn, h1⟩, h2, ⟨pn, h3⟩, ⟨sd, h4⟩, ⟨sn, nm, nl, h5⟩, h6, h7, ⟨us, ac, o, nw, h8⟩, ⟨rs, rn, h9⟩, h10⟩ := id h
  obtain ⟨z, rfl, hz⟩ := i_of p0
  have hn := h6.1.1.1
  obtain ⟨hT, hW, cT, cW, hw⟩ := id h6.1
  have mT := h6.2.1.2.2.1
  unfold wp_X11_bring wp_X12_bring
  refine c_noPerson cT.1 hn hz ⟨fun q => ?_, fun q => ?_⟩
  · have q' : 0 ≤ z ∧ z < T.1 := Decidable.byContradiction fun z => by rw [decide_eq_false z] at q; cases q
    obtain ⟨p, rfl⟩ : ∃ p : Nat, z = p := ⟨z.toNat, by omega⟩
    have hp : p < T.1 := by omega
    refine c_remember hn h8.1.1 h8.2.1 cW h7.1 (fun x1 o' hF1 hU1 => ?_)
    rw [← i_nI p]
    refine c_cross (h6.1.pU hF1) hp (fun x2 c2 hF2 => ⟨N_in ⟨by omega, by omega⟩, ?_⟩)
    rw [N_cl (by omega), show x2.1 39 p = nI (lv T (crs W p) p) from c2.2.2.2.1.2.2.2.1 p hp]
    have hx : Fr pWc x x2 := (pU_pWc hF1).tr (pX_pWc hF2)
    have fin : ∀ {m0 : fz_s} {nw' : Nat}, Fr pV m m0 → UM T kf (psh us (W, kn)) (acN ac) nw' m0 → ∀ m', MM T (crs W p) m' → Fr pN m0 m' → (∀ a j, ¬ (a = 232 ∧ j < 29) → m'.1 a j = m0.1 a j) → (∀ a j, m'.2.1 a j = m0.2.1 a j) → nd_X12_bring_39 (fun r' m' => nI (lv T (crs W p) p) = r' ∧ INV x2 m') (nI p) m' := by
      intro m0 nw' hF3 hU3 m' hM' hF4 hs hs2
      unfold nd_X12_bring_39
      refine m_lives hM' hp ⟨rfl, INV.act (W' := crs W p) ⟨⟨tp, tn, h1⟩, h2, ⟨pn, h3⟩, ⟨sd, h4⟩, ⟨sn, nm, nl, h5⟩, h6, h7, ⟨us, ac, o, nw, h8⟩, ⟨rs, rn, h9⟩, h10⟩ rfl (h8.1.push hW h6.2.2.1 h7.2.1) (hU1.cong (hF2.i _ _ (pX_f (by omega))) (hF2.i _ _ (pX_f (by omega))) (fun a j k1 k2 => hF2.i _ _ (pX_f (by omega)))) (hU3.cong hn (hs _ _ (by omega)) (hs _ _ (by omega)) (fun j => hs _ _ (by omega))) c2 hM' hx (fun a j ha => ?_)⟩
      have ha' := of_decide_eq_false ha
      exact ⟨(hs _ _ (by omega)).trans (hF3.i _ _ (pV_f (by omega))), (hs2 _ _).trans (hF3.l _ _ (pV_f (by omega)))⟩
    have main : wp_X12_keeps m (fun s4 => wp_X12_isAway (nI p) s4 (fun r5 s6 => ((r5 = false → wp_X12_goesAway (nI p) s6 (fun s8 => nd_X12_bring_39 (fun r' m' => nI (lv T (crs W p) p) = r' ∧ INV x2 m') (nI p) s8)) ∧ (r5 = true → wp_X12_comesHome (nI p) s6 (fun s10 => nd_X12_bring_39 (fun r' m' => nI (lv T (crs W p) p) = r' ∧ INV x2 m') (nI p) s10))))) := by
      refine m_keeps hn h8.1.1 h8.2.2 h6.2.1.2.2.2 h7.2.2.2 (fun m1 nw' hF3 hU3 => ?_)
      have hM1 := h6.2.1.pV hF3
      refine m_isAway hM1 hp ⟨fun e => ?_, fun e => ?_⟩
      · exact m_cross1' hM1 hp e (fun m' a b c d => fin hF3 hU3 m' a b c d)
      · exact m_cross0' hM1 hp e (fun m' a b c d => fin hF3 hU3 m' a b c d)
    rw [i_nI p] at main ⊢
    exact m_isPerson mT.1 hn hz ⟨fun _ => main, fun q => absurd q' (of_decide_eq_false q)⟩
  · have q' := not_dec.mp q
    refine c_refuse (k := 2) (by omega) (m_isPerson mT.1 hn hz ⟨fun q => absurd (of_decide_eq_true q) q', fun _ => ?_⟩)
    unfold wp_X12_refuses
    exact ⟨N_in (a := 2) ⟨by omega, by omega⟩, N_in (a := 2) ⟨by omega, by omega⟩, fun s1 es => by subst es; exact ⟨rfl, h.refuse 2⟩⟩
theorem EQ_calm_ok : EQ_calm INV := by
  intro x m p0 h
  obtain ⟨t, T, W, kf, kn, ⟨tp, tn, h1⟩, h2, ⟨pn, h3⟩, ⟨sd, h4⟩, ⟨sn, nm, nl, h5⟩, h6, h7, ⟨us, ac, o, nw, h8⟩, ⟨rs, rn, h9⟩, h10⟩ := id h
  obtain ⟨z, rfl, hz⟩ := i_of p0
  have hn := h6.1.1.1
  obtain ⟨hT, hW, cT, cW, hw⟩ := id h6.1
  have mW := h6.2.1.2.2.2
  unfold wp_X11_calm wp_X12_calm
  rw [i_64 hz]
  have no : nd_X12_calm_22 (fun r' m' => false = r' ∧ INV (si x 195 2 (x.1 195 2 + 1)) m') m := by
    intro s1 es
    subst es
    exact ⟨rfl, h.refuse 2⟩
  refine c_noVillage h5.1 hz ⟨fun q => ?_, fun q => ?_⟩
  · refine c_refuse (k := 2) (by omega) (m_isVillage h5.2.1 (lR_i hz) ?_)
    rw [nv_t q]
    exact ⟨fun _ => no, fun q => (by cases q)⟩
  have q3 := nv_f q
  obtain ⟨v, rfl⟩ : ∃ v : Nat, z = v := ⟨z.toNat, by omega⟩
  have hv : v < 2 := by omega
  have hq := hW.2.1 v hv
  rw [← i_nI v, N_cl (by omega), show x.1 37 v = nI (W.2.1 v) from cW.2.1 v hv (h5.2.2.1.2 q3.1), show (2 : Int32) + 2 * nI v = nI (2 + 2 * v) by rw [show (2 : Int32) * nI v = nI (2 * v) from N_mul 2 v]; exact N_add 2 _, N_cl (by omega)]
  have hi : vp_in (nI (2 + 2 * v)) 150 := N_in ⟨by omega, by omega⟩
  have e0 : (nI (W.2.1 v) = 0) ↔ W.2.1 v = 0 := N_eq (b := 0) ⟨by omega, by omega⟩
  have into : ∀ {Q : Bool → fz_s → Prop}, ((¬ W.2.1 v = 0 → wp_X12_keeps m (fun s4 => vp_in (nI (2 + 2 * v)) 150 ∧ ∀ s5 : fz_s, s5 = si s4 232 (2 + 2 * v) 0 → Q true s5)) ∧ (W.2.1 v = 0 → nd_X12_calm_22 Q m)) → wp_X12_isVillage (lI (v : Int)) m (fun r1 s2 => ((r1 = false → nd_X12_calm_22 Q s2) ∧ (r1 = true → vp_in (nI (2 + 2 * v)) 150 ∧ ((¬ (s2.1 232 (2 + 2 * v)) = 0 → wp_X12_keeps s2 (fun s4 => vp_in (nI (2 + 2 * v)) 150 ∧ ∀ s5 : fz_s, s5 = si s4 232 (2 + 2 * v) 0 → Q true s5)) ∧ ((s2.1 232 (2 + 2 * v)) = 0 → nd_X12_calm_22 Q s2))))) := by
    intro Q k
    refine m_isVillage h5.2.1 (lR_i hz) ?_
    rw [q3.1, decide_eq_true q3.2]
    refine ⟨fun q => (by cases q), fun _ => ⟨hi, ?_⟩⟩
    rw [show m.1 232 (2 + 2 * v) = nI (W.2.1 v) from mW.2.1 v hv, e0]
    exact k
  rw [e0]
  refine ⟨N_in ⟨by omega, by omega⟩, fun c3 => ?_, fun c3 => ?_⟩
  · refine c_remember hn h8.1.1 h8.2.1 cW h7.1 (fun x1 o' hF1 hU1 => ⟨N_in ⟨by omega, by omega⟩, fun s5 e5 => into ⟨fun _ => ?_, fun q => absurd q c3⟩⟩)
    refine m_keeps hn h8.1.1 h8.2.2 mW h7.2.2.2 (fun m1 nw' hF2 hU2 => ⟨hi, fun s9 e9 => ?_⟩)
    have hx : Fr pWc x s5 := by rw [e5]; exact (pU_pWc hF1).si (decide_eq_true (by omega))
    have hm : Fr pWm m s9 := by rw [e9]; exact (pV_pWm hF2).si (decide_eq_true (by omega))
    refine ⟨rfl, INV.act (W' := stQ W v 0) ⟨⟨tp, tn, h1⟩, h2, ⟨pn, h3⟩, ⟨sd, h4⟩, ⟨sn, nm, nl, h5⟩, h6, h7, ⟨us, ac, o, nw, h8⟩, ⟨rs, rn, h9⟩, h10⟩ rfl (h8.1.push hW h6.2.2.1 h7.2.1) (hU1.cong ?_ ?_ (fun a j k1 k2 => ?_)) (hU2.cong hn ?_ ?_ (fun j => ?_)) ?_ ?_ hx hm⟩
    · rw [e5, g_ne (by omega)]
    · rw [e5, g_ne (by omega)]
    · rw [e5, g_ne (by omega)]
    · rw [e9, g_ne (by omega)]
    · rw [e9, g_ne (by omega)]
    · rw [e9, g_ne (by omega)]
    · rw [e5]; exact (h6.1.pU hF1).q (n := 0) (by omega)
    · rw [e9]; exact (h6.2.1.pV hF2).q (n := 0) (by omega) hv
  · exact c_refuse (k := 2) (by omega) (into ⟨fun q => absurd c3 q, fun _ => no⟩)

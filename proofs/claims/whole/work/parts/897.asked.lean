/-! QUESTIONS: what is told -/
theorem c_ruledS {T : TT} {W : WW} {w r p v : Nat} {x : fz_s} (hT : TV T) (hW : WV T W) (cT : CT T x) (cW : CW T W w x) (hw : 35 ≤ w) (hr : r < 5) (hr3 : r ≠ 3) (hp : p < T.1) (hv : v < 2) {Q : Int32 → fz_s → Prop} (hq : ∀ x', Fr pE x x' → (∀ k, 2 ≤ k → k ≤ 6 → x'.1 32 k = iI (env T W p v k)) → Q (iI (rv T W r p v)) x') : wp_X0_ruled w (nI r) (nI p) (nI v) x Q := by
  have hn := hT.1
  obtain ⟨hne, l, a, b1, b2, b3, b4, b5⟩ : T.2.1 9 ≠ 5 ∧ ∃ l a, x.1 15 r = nI a ∧ x.1 16 r = nI (a + l.length) ∧ a + l.length ≤ 1632 ∧ Seg (x.1 14) cC a l ∧ Dn (scR r) (tsR r) l (T.2.2.2.2 r) := by
    rcases cT.2.2.2.2 r hr with z | z
    · omega
    · exact z
  unfold wp_X0_ruled
  refine ⟨N_in ⟨by omega, by omega⟩, fun s1 e1 => ⟨N_in ⟨by omega, by omega⟩, fun s2 e2 s3 e3 => ⟨N_in ⟨by omega, by omega⟩, fun s4 e4 => ⟨N_in ⟨by omega, by omega⟩, fun s5 e5 => ⟨N_in ⟨by omega, by omega⟩, fun s6 e6 => ⟨N_in ⟨by omega, by omega⟩, fun s7 e7 => ⟨N_in ⟨by omega, by omega⟩, N_in ⟨by omega, by omega⟩, ?_⟩⟩⟩⟩⟩⟩⟩
  have hz : s7.1 15 r = nI a ∧ s7.1 16 r = nI (a + l.length) ∧ (∀ j, s7.1 14 j = x.1 14 j) ∧ Fr pE x s7 := by
    refine ⟨?_, ?_, ?_, ?_⟩
    · simp (disch := omega) only [e7, e6, e5, e4, e3, e2, e1, g_ne, b1]
    · simp (disch := omega) only [e7, e6, e5, e4, e3, e2, e1, g_ne, b2]
    · intro j
      simp (disch := omega) only [e7, e6, e5, e4, e3, e2, e1, g_ne]
    · rw [e7, e6, e5, e4, e3, e2, e1]
      exact (((((((Fr.rf.si (decide_eq_true (by omega))).si (decide_eq_true (by omega))).si (decide_eq_true (by omega))).si (decide_eq_true (by omega))).si (decide_eq_true (by omega))).si (decide_eq_true (by omega))).si (decide_eq_true (by omega)))
  rw [N_cl (by omega), hz.1, hz.2.1]
  have hb : ∀ k, scR r k = true → bd (env T W p v k) := fun k _ => env_bd hT hW hp hv k
  have sl : ∀ k, k ≤ 6 → s7.1 32 k = iI (env T W p v k) := by
    intro k hk
    rcases (show k = 0 ∨ k = 1 ∨ k = 2 ∨ k = 3 ∨ k = 4 ∨ k = 5 ∨ k = 6 by omega) with rfl | rfl | rfl | rfl | rfl | rfl | rfl
    · rw [env_0]
      simp (disch := omega) only [e7, e6, e5, e4, e3, e2, e1, g_ne, g_nj, g_eq, N_lit, N_cl, cW.1 v hv]
      exact i_nI _
    · rw [env_1]
      simp (disch := omega) only [e7, e6, e5, e4, e3, e2, e1, g_ne, g_nj, g_eq, N_lit, N_cl, cW.2.1 v hv hne]
      exact i_nI _
    · rw [env_2]
      simp (disch := omega) only [e7, e6, e5, e4, e3, e2, e1, g_ne, g_nj, g_eq, N_lit, N_cl, cW.2.2.2.2.2]
      exact i_nI _
    · rw [env_3]
      simp (disch := omega) only [e7, e6, e5, e4, e3, e2, e1, g_ne, g_nj, g_eq, N_lit, N_cl, cW.2.2.1 p hp]
      exact i_nI _
    · rw [env_4]
      simp (disch := omega) only [e7, e6, e5, e4, e3, e2, e1, g_ne, g_nj, g_eq, N_lit, N_cl, cT.2.2.1 p hp]
      exact i_nI _
    · rw [env_5]
      simp (disch := omega) only [e7, e6, e5, e4, e3, e2, e1, g_ne, g_nj, g_eq, N_lit, N_cl, cT.2.2.2.1 p hp]
      exact i_nI _
    · rw [env_6]
      simp (disch := omega) only [e7, e6, e5, e4, e3, e2, e1, g_ne, g_nj, g_eq, N_lit, N_cl, cW.2.2.2.2.1 p hp]
      exact i_nI _
  refine c_value (σ := env T W p v) (sc := scR r) (v := rv T W r p v) (by omega) ⟨b3, by omega⟩ (b4.cong (fun k _ _ => hz.2.2.1 k)) hb (fun q => ?_) (fun q => ?_) (fun k hk hs => ?_) (b5 _ hb).1 (fun s' hF => hq s' (hz.2.2.2.tr (p33_pE hF)) (fun k k1 k2 => ?_))
  · unfold scR at q; rw [if_neg hr3] at q; exact absurd (of_decide_eq_true q) (by omega)
  · unfold scR at q; rw [if_neg hr3] at q; exact absurd (of_decide_eq_true q) (by omega)
  · unfold scR at hs
    rw [if_neg hr3] at hs
    have h6 := of_decide_eq_true hs
    exact sl k (by omega)
  · rw [hF.i _ _ (decide_eq_false (by omega))]
    exact sl k k2
theorem scQ_i {k : Nat} (h : scQ k = true) : (2 ≤ k ∧ k ≤ 6) ∨ (8 ≤ k ∧ k ≤ 14) := of_decide_eq_true h
theorem envQ_n {T : TT} {W : WW} {p k : Nat} (h : k ≠ 13 ∧ k ≠ 14) : envQ T W p k = env T W p 0 k := by
  unfold envQ
  rw [if_neg h.1, if_neg h.2]
theorem envQ_13 (T : TT) (W : WW) (p : Nat) : envQ T W p 13 = rv T W 2 p 0 := by unfold envQ; rw [if_pos rfl]
theorem envQ_14 (T : TT) (W : WW) (p : Nat) : envQ T W p 14 = rv T W 2 p 1 := by unfold envQ; rw [if_neg (by omega), if_pos rfl]
theorem envQ_bd {T : TT} {W : WW} {p : Nat} (hT : TV T) (hW : WV T W) (hp : p < T.1) (k : Nat) : bd (envQ T W p k) := by
  have b0 := (rv_dn (r := 2) (p := p) (v := 0) hT (by omega) (fun k _ => env_bd hT hW hp (by omega) k)).1
  have b1 := (rv_dn (r := 2) (p := p) (v := 1) hT (by omega) (fun k _ => env_bd hT hW hp (by omega) k)).1
  by_cases c13 : k = 13
  · rw [c13, envQ_13]; exact b0
  by_cases c14 : k = 14
  · rw [c14, envQ_14]; exact b1
  rw [envQ_n ⟨c13, c14⟩]
  exact env_bd hT hW hp (by omega) k
theorem env_v {T : TT} {W : WW} {p k : Nat} (h : 2 ≤ k ∧ k ≤ 6) : env T W p 1 k = env T W p 0 k := by
  rcases (show k = 2 ∨ k = 3 ∨ k = 4 ∨ k = 5 ∨ k = 6 by omega) with rfl | rfl | rfl | rfl | rfl
  · rw [env_2, env_2]
  · rw [env_3, env_3]
  · rw [env_4, env_4]
  · rw [env_5, env_5]
  · rw [env_6, env_6]
theorem c_questioned {T : TT} {W : WW} {p : Nat} {l : List Nat} {ty : Bool} {f : (Nat → Int) → Int} {x : fz_s} (h : CC T W 35 x) (hp : p < T.1) (hS : Seg (x.1 29) cC 0 l) (hl : l.length ≤ 1632) (hD : Dn scQ ty l f) {Q : Int32 → fz_s → Prop} (hq : ∀ x', Fr pE x x' → Q (iI (f (envQ T W p))) x') : wp_X0_questioned 35 29 1632 (nI l.length) (nI p) x Q := by
  obtain ⟨hT, hW, cT, cW, hw⟩ := id h
  have hn := hT.1
  unfold wp_X0_questioned
  refine c_ruledS (r := 2) (v := 0) hT hW cT cW hw (by omega) (by omega) hp (by omega) (fun x1 F1 _ => ?_)
  obtain ⟨-, -, cT1, cW1, -⟩ := h.fr F1
  refine c_ruledS (r := 2) (v := 1) hT hW cT1 cW1 hw (by omega) (by omega) hp (by omega) (fun x2 F2 sl2 => ?_)
  obtain ⟨-, -, cT2, cW2, -⟩ := h.fr (F1.tr F2)
  intro s5 e5 s6 e6 s7 e7 s8 e8 s9 e9
  refine ⟨N_in ⟨by omega, by omega⟩, fun s10 e10 => ⟨N_in ⟨by omega, by omega⟩, fun s11 e11 => ?_⟩⟩
  have z13 : (13 : Int32).toNatClampNeg = 13 := rfl
  have z14 : (14 : Int32).toNatClampNeg = 14 := rfl
  have z11 : (11 : Int32).toNatClampNeg = 11 := rfl
  have z12 : (12 : Int32).toNatClampNeg = 12 := rfl
  have z8 : (8 : Int32).toNatClampNeg = 8 := rfl
  have z9 : (9 : Int32).toNatClampNeg = 9 := rfl
  have z10 : (10 : Int32).toNatClampNeg = 10 := rfl
  have z0 : (0 : Int32).toNatClampNeg = 0 := rfl
  have z1 : (1 : Int32).toNatClampNeg = 1 := rfl
  rw [z13] at e5
  rw [z14] at e6
  rw [z11, z0] at e7
  rw [z12, z1] at e8
  rw [z8] at e9
  rw [z9, N_cl (by omega)] at e10
  rw [z10, N_cl (by omega)] at e11
  have o6 : ∀ a j, a ≠ 32 → s6.1 a j = x2.1 a j := fun a j g => by rw [e6, g_ne g, e5, g_ne g]
  have v7 : s6.1 (35 + 1 + 0) 0 = nI (W.1 0) := by rw [o6 _ _ (by omega)]; exact cW2.1 0 (by omega)
  rw [v7] at e7
  have v8 : s7.1 (35 + 1 + 0) 1 = nI (W.1 1) := by rw [e7, g_ne (by omega), o6 _ _ (by omega)]; exact cW2.1 1 (by omega)
  rw [v8] at e8
  have v10 : s9.1 (35 + 1 + 3) p = nI (lv T W p) := by rw [e9, g_ne (by omega), e8, g_ne (by omega), e7, g_ne (by omega), o6 _ _ (by omega)]; exact cW2.2.2.2.1 p hp
  rw [v10] at e10
  have v11 : s10.1 10 p = nI (T.2.1 p) := by rw [e10, g_ne (by omega), e9, g_ne (by omega), e8, g_ne (by omega), e7, g_ne (by omega), o6 _ _ (by omega)]; exact cT2.2.1 p hp
  rw [v11] at e11
  have o11 : ∀ a j, a ≠ 32 → s11.1 a j = x2.1 a j := fun a j g => by rw [e11, g_ne g, e10, g_ne g, e9, g_ne g, e8, g_ne g, e7, g_ne g]; exact o6 a j g
  have F11 : Fr pE x s11 := by
    rw [e11, e10, e9, e8, e7, e6, e5]
    exact ((((((((F1.tr F2).si (decide_eq_true (by omega))).si (decide_eq_true (by omega))).si (decide_eq_true (by omega))).si (decide_eq_true (by omega))).si (decide_eq_true (by omega))).si (decide_eq_true (by omega))).si (decide_eq_true (by omega)))
  have hb : ∀ k, scQ k = true → bd (envQ T W p k) := fun k _ => envQ_bd hT hW hp k
  have hv := c_value (a0 := 29) (n0 := 1632) (f := 0) (l := l) (σ := envQ T W p) (sc := scQ) (v := f (envQ T W p)) (s := s11) (Q := Q) (by omega) ⟨by omega, by omega⟩ (hS.cong (fun k _ _ => by rw [F11.i _ _ (pE_f (by omega))])) hb (fun _ => rfl) (fun _ => rfl) (fun k hk hs => ?_) (hD _ hb).1 (fun s' hF => hq s' (F11.tr (p33_pE hF)))
  · rw [Nat.zero_add] at hv
    exact hv
  · have hk' := scQ_i hs
    rcases (show (2 ≤ k ∧ k ≤ 6) ∨ k = 8 ∨ k = 9 ∨ k = 10 ∨ k = 11 ∨ k = 12 ∨ k = 13 ∨ k = 14 by omega) with z | rfl | rfl | rfl | rfl | rfl | rfl | rfl
    · rw [envQ_n ⟨by omega, by omega⟩, ← env_v z, ← sl2 k z.1 z.2, e11, g_nj (by omega), e10, g_nj (by omega), e9, g_nj (by omega), e8, g_nj (by omega), e7, g_nj (by omega), e6, g_nj (by omega), e5, g_nj (by omega)]
    · rw [envQ_n ⟨by omega, by omega⟩, env_8, e11, g_nj (by omega), e10, g_nj (by omega), e9, g_eq, i_nI]
    · rw [envQ_n ⟨by omega, by omega⟩, env_9, e11, g_nj (by omega), e10, g_eq, i_nI]
    · rw [envQ_n ⟨by omega, by omega⟩, env_10, e11, g_eq, i_nI]
    · rw [envQ_n ⟨by omega, by omega⟩, env_11, e11, g_nj (by omega), e10, g_nj (by omega), e9, g_nj (by omega), e8, g_nj (by omega), e7, g_eq, i_nI]
    · rw [envQ_n ⟨by omega, by omega⟩, env_12, e11, g_nj (by omega), e10, g_nj (by omega), e9, g_nj (by omega), e8, g_eq, i_nI]
    · rw [envQ_13, e11, g_nj (by omega), e10, g_nj (by omega), e9, g_nj (by omega), e8, g_nj (by omega), e7, g_nj (by omega), e6, g_nj (by omega), e5, g_eq]
    · rw [envQ_14, e11, g_nj (by omega), e10, g_nj (by omega), e9, g_nj (by omega), e8, g_nj (by omega), e7, g_nj (by omega), e6, g_eq]
/-! the answer -/
def yst (vb p : Nat) (acc v : Int) : Int := if vb = 26 then (if acc = -1 ∧ v ≠ 0 then (p : Int) else acc) else if vb = 27 then (if v ≠ 0 then (p : Int) else acc) else if vb ≤ 29 then acc + v else if vb = 30 then (if p = 0 then v else if v < acc then acc else v) else (if p = 0 then v else if v < acc then v else acc)
def yan (vb : Nat) (q : Nat → Int) : Nat → Int
  | 0 => if vb = 26 ∨ vb = 27 then -1 else 0
  | p + 1 => yst vb p (yan vb q p) (q p)
theorem yan_bd {vb : Nat} {q : Nat → Int} {n : Nat} (hq : ∀ p, p < n → bd (q p)) : ∀ p, p ≤ n → p ≤ 8 → -1000000 * (p : Int) - 10 ≤ yan vb q p ∧ yan vb q p ≤ 1000000 * (p : Int) + 10
  | 0, _, _ => by
    unfold yan
    split <;> omega
  | p + 1, h1, h2 => by
    have ih := yan_bd (vb := vb) hq p (by omega) (by omega)
    have hb := hq p (by omega)
    unfold bd at hb
    show _ ≤ yst vb p (yan vb q p) (q p) ∧ yst vb p (yan vb q p) (q p) ≤ _
    unfold yst
    repeat (first | omega | split)
theorem c_ans_lp {T : TT} {W : WW} {l : List Nat} {ty : Bool} {f : (Nat → Int) → Int} {vb : Nat} (hvb : 26 ≤ vb ∧ vb ≤ 31) (hl : l.length ≤ 1632) (hD : Dn scQ ty l f) {x0 : fz_s} {Q : Int64 → fz_s → Prop} (hq : ∀ x', Fr pE x0 x' → Q (lI (yan vb (fun p => f (envQ T W p)) T.1)) x') : ∀ (n p : Nat) (x : fz_s), p ≤ T.1 → T.1 < n + p → CC T W 35 x → Seg (x.1 29) cC 0 l → x.1 28 1 = nI l.length → x.1 28 2 = nI vb → Fr pE x0 x → lp_X5_answer_29 35 Q n (lI (yan vb (fun p => f (envQ T W p)) p)) (nI p) x
  | 0, p, x, h1, h2, _, _, _, _, _ => absurd h2 (by omega)
  | n + 1, p, x, h1, h2, h, hS, h281, h282, hF => by
    have hn := h.1.1
    have hqb : ∀ p, p < T.1 → bd (f (envQ T W p)) := fun p hp => (hD _ (fun k _ => envQ_bd h.1 h.2.1 hp k)).2.1
    show nd_X5_answer_29 35 (lp_X5_answer_29 35 Q n) Q _ (nI p) x
    unfold nd_X5_answer_29 wp_X0_peopleCount
    rw [h.2.2.1.1]
    by_cases c : T.1 ≤ p
    · have hp : p = T.1 := by omega
      subst hp
      exact bt (by simp (disch := omega) only [N_lit, N_add, N_mul, N_sub, N_addneg, N_neg1, N_addm, N_le, N_lt, N_eq, N_in, N_cl, N_ne, N_ne', N_ltm, N_mlt, N_lem] <;> omega) (hq x hF)
    refine bf (by simp (disch := omega) only [N_lit, N_add, N_mul, N_sub, N_addneg, N_neg1, N_addm, N_le, N_lt, N_eq, N_in, N_cl, N_ne, N_ne', N_ltm, N_mlt, N_lem] <;> omega) ?_
    rw [h281]
    refine c_questioned h (by omega) hS hl hD (fun x1 F1 => ?_)
    have k282 : x1.1 28 2 = nI vb := (F1.i _ _ (pE_f (by omega))).trans h282
    have hab := yan_bd (vb := vb) (q := fun p => f (envQ T W p)) (n := T.1) hqb p (by omega) (by omega)
    have hvb' := hqb p (by omega)
    unfold bd at hvb'
    have step : ∀ z : Int, z = yst vb p (yan vb (fun p => f (envQ T W p)) p) (f (envQ T W p)) → lp_X5_answer_29 35 Q n (lI z) (nI (p + 1)) x1 := by
      intro z ez
      have := c_ans_lp hvb hl hD hq n (p + 1) x1 (by omega) (by omega) (h.fr F1) (hS.cong (fun k _ _ => F1.i _ _ (pE_f (by omega)))) ((F1.i _ _ (pE_f (by omega))).trans h281) k282 (hF.tr F1)
      rw [ez]
      exact this
    have e64 : (iI (f (envQ T W p))).toInt64 = lI (f (envQ T W p)) := i_64 ⟨by omega, by omega⟩
    have go : (p = 0 → vb ≤ 29) → nd_X5_answer_75 35 (lp_X5_answer_29 35 Q n) Q (lI (yan vb (fun p => f (envQ T W p)) p)) (nI p) (iI (f (envQ T W p))) x1 := by
      intro hp0
      unfold nd_X5_answer_75 wp_X5_joined
      rw [k282, e64, N_64 (by omega), nI_1, lg_cmp_eq]
      generalize yan vb (fun p => f (envQ T W p)) p = acc at *
      generalize f (envQ T W p) = v at *
      have ev : ∀ j : Nat, j < 100 → (nI vb = nI j ↔ vb = j) := fun j hj => N_eq ⟨by omega, by omega⟩
      have q26 : (nI vb = 26) ↔ vb = 26 := ev 26 (by omega)
      have q27 : (nI vb = 27) ↔ vb = 27 := ev 27 (by omega)
      have q28 : (nI vb = 28) ↔ vb = 28 := ev 28 (by omega)
      have q29 : (nI vb = 29) ↔ vb = 29 := ev 29 (by omega)
      have q30 : (nI vb = 30) ↔ vb = 30 := ev 30 (by omega)
      have m1 : (lI acc = -1) ↔ acc = -1 := by
        rw [show (-1 : Int64) = lI (-1) by decide +kernel]
        exact l_eq ⟨⟨by omega, by omega⟩, by omega, by omega⟩
      have v0 : (iI v = 0) ↔ v = 0 := i_eq (b := 0) ⟨⟨by omega, by omega⟩, by omega, by omega⟩
      have lt : (lI v < lI acc) ↔ v < acc := l_lt ⟨⟨by omega, by omega⟩, by omega, by omega⟩
      rw [q26, q27, q28, q29, q30, m1, v0, l_add]
      unfold yst at step
      refine ⟨fun c1 => ?_, fun c1 => ?_, fun c1 x3 e3 => ?_, fun c1 x3 e3 => ?_, fun c1 x3 e3 => ?_, fun c1 x3 e3 => ?_⟩
      · rw [if_pos c1] at step
        by_cases c2 : acc = -1
        · refine nf c2 ?_
          by_cases c3 : v = 0
          · exact bt c3 (fun x3 e3 => by rw [e3]; exact step acc (by rw [if_neg (fun z => z.2 c3)]))
          · exact bf c3 (fun x3 e3 => by rw [e3]; exact step p (by rw [if_pos ⟨c2, c3⟩]))
        · exact nt c2 (fun x3 e3 => by rw [e3]; exact step acc (by rw [if_neg (fun z => c2 z.1)]))
      · rw [if_neg (by omega), if_pos c1] at step
        by_cases c3 : v = 0
        · exact bt c3 (fun x3 e3 => by rw [e3]; exact step acc (by rw [if_neg (fun z => z c3)]))
        · exact bf c3 (fun x3 e3 => by rw [e3]; exact step p (by rw [if_pos c3]))
      · rw [e3]
        exact step _ (by rw [if_neg (by omega), if_neg (by omega), if_pos (by omega)])
      · rw [e3]
        exact step _ (by rw [if_neg (by omega), if_neg (by omega), if_pos (by omega)])
      · rw [e3]
        rw [if_neg (by omega), if_neg (by omega), if_neg (by omega), if_pos c1, if_neg (by omega)] at step
        by_cases c2 : v < acc
        · rw [if_pos (lt.mpr c2)]
          exact step acc (by rw [if_pos c2])
        · rw [if_neg (fun z => c2 (lt.mp z))]
          exact step v (by rw [if_neg c2])
      · rw [e3]
        rw [if_neg (by omega), if_neg (by omega), if_neg (by omega), if_neg (by omega), if_neg (by omega)] at step
        by_cases c2 : v < acc
        · rw [if_pos (lt.mpr c2)]
          exact step v (by rw [if_pos c2])
        · rw [if_neg (fun z => c2 (lt.mp z))]
          exact step acc (by rw [if_neg c2])
    by_cases c0 : p = 0
    · refine nf (by rw [c0]; rfl) ?_
      rw [k282]
      by_cases c29 : vb ≤ 29
      · exact bt (by simp (disch := omega) only [N_lit, N_add, N_mul, N_sub, N_addneg, N_neg1, N_addm, N_le, N_lt, N_eq, N_in, N_cl, N_ne, N_ne', N_ltm, N_mlt, N_lem] <;> omega) (go (fun _ => c29))
      · refine bf (by simp (disch := omega) only [N_lit, N_add, N_mul, N_sub, N_addneg, N_neg1, N_addm, N_le, N_lt, N_eq, N_in, N_cl, N_ne, N_ne', N_ltm, N_mlt, N_lem] <;> omega) (fun x5 e5 x6 e6 => ?_)
        rw [e5, e64, e6, nI_1]
        refine step _ ?_
        unfold yst
        rw [if_neg (by omega), if_neg (by omega), if_neg c29, if_pos c0]
        by_cases c30 : vb = 30
        · rw [if_pos c30]
        · rw [if_neg c30, if_pos c0]
    · exact nt (by simp (disch := omega) only [N_lit, N_add, N_mul, N_sub, N_addneg, N_neg1, N_addm, N_le, N_lt, N_eq, N_in, N_cl, N_ne, N_ne', N_ltm, N_mlt, N_lem] <;> omega) (go (fun z => absurd z c0))
theorem y_answer {T : TT} {W : WW} {l : List Nat} {ty : Bool} {f : (Nat → Int) → Int} {vb : Nat} (hvb : 26 ≤ vb ∧ vb ≤ 31) (hl : l.length ≤ 1632) (hD : Dn scQ ty l f) {x : fz_s} (h : CC T W 35 x) (hS : Seg (x.1 29) cC 0 l) (h281 : x.1 28 1 = nI l.length) (h282 : x.1 28 2 = nI vb) {Q : Int64 → fz_s → Prop} (hq : ∀ x', Fr pE x x' → Q (lI (yan vb (fun p => f (envQ T W p)) T.1)) x') : wp_X5_answer 35 x Q := by
  have hn := h.1.1
  have go : ∀ z : Int64, z = lI (yan vb (fun p => f (envQ T W p)) 0) → lp_X5_answer_29 35 Q 2048 z (nI 0) x := fun z e => by
    rw [e]
    exact c_ans_lp hvb hl hD hq 2048 0 x (by omega) (by omega) h hS h281 h282 Fr.rf
  unfold wp_X5_answer
  rw [h282]
  unfold yan at go
  by_cases c26 : vb = 26
  · exact bt (by rw [c26]; rfl) (fun x1 e1 => go x1 (by rw [e1, if_pos (Or.inl c26)]; decide +kernel))
  refine bf (by simp (disch := omega) only [N_lit, N_add, N_mul, N_sub, N_addneg, N_neg1, N_addm, N_le, N_lt, N_eq, N_in, N_cl, N_ne, N_ne', N_ltm, N_mlt, N_lem] <;> omega) ?_
  by_cases c27 : vb = 27
  · exact nf (by rw [c27]; rfl) (fun x1 e1 => go x1 (by rw [e1, if_pos (Or.inr c27)]; decide +kernel))
  · exact nt (by simp (disch := omega) only [N_lit, N_add, N_mul, N_sub, N_addneg, N_neg1, N_addm, N_le, N_lt, N_eq, N_in, N_cl, N_ne, N_ne', N_ltm, N_mlt, N_lem] <;> omega) (go 0 (by rw [if_neg (by omega)]; rfl))

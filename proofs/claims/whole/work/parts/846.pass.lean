/-! the years' own -/
def chW (T : TT) (sf : Nat → Bool) (W : WW) : Nat → WW
  | 0 => W
  | k + 1 => if sf k = true then yeW T (chW T sf W k) (-1) (-1) true else yrW T (chW T sf W k)
def chP (T : TT) (sf : Nat → Bool) (W : WW) (k : Nat) : Int × Int := if sf k = true then (-1, -1) else prs T (chW T sf W k)
def chK (T : TT) (sf : Nat → Bool) (W : WW) (kf : Nat → Nat × Int × Int) (kn : Nat) : Nat → (Nat → Nat × Int × Int)
  | 0 => kf
  | k + 1 => upf (chK T sf W kf kn k) (kn + k) ((chW T sf W k).2.2.2.2.2, (chP T sf W k).1, (chP T sf W k).2)
theorem ch_yr (T : TT) (sf : Nat → Bool) (W : WW) : ∀ k, (chW T sf W k).2.2.2.2.2 = W.2.2.2.2.2 + k
  | 0 => rfl
  | k + 1 => by
    unfold chW
    split
    · rw [ye_yr, ch_yr T sf W k]; omega
    · show (yeW T _ _ _ false).2.2.2.2.2 = _
      rw [ye_yr, ch_yr T sf W k]; omega
theorem chK_lo {T : TT} {sf : Nat → Bool} {W : WW} {kf : Nat → Nat × Int × Int} {kn : Nat} : ∀ k j, j < kn → chK T sf W kf kn k j = kf j
  | 0, j, _ => rfl
  | k + 1, j, hj => by
    unfold chK
    rw [upf_ne (by omega)]
    exact chK_lo k j hj
def K7c (kf : Nat → Nat × Int × Int) (kn : Nat) (x : fz_s) : Prop := x.1 35 6 = nI kn ∧ ∀ k, k < kn → x.1 49 k = nI (kf k).1 ∧ x.1 50 k = iI (kf k).2.1 ∧ x.1 51 k = iI (kf k).2.2
theorem K7c.cg {kf : Nat → Nat × Int × Int} {kn : Nat} {x x' : fz_s} (h : K7c kf kn x) (hx : ∀ a j, (a = 35 ∧ j = 6) ∨ (49 ≤ a ∧ a ≤ 51) → x'.1 a j = x.1 a j) : K7c kf kn x' := ⟨(hx _ _ (by omega)).trans h.1, fun k hk => ⟨(hx _ _ (by omega)).trans (h.2 k hk).1, (hx _ _ (by omega)).trans (h.2 k hk).2.1, (hx _ _ (by omega)).trans (h.2 k hk).2.2⟩⟩
def pKp (a j : Nat) : Bool := decide ((49 ≤ a ∧ a ≤ 51) ∨ (a = 35 ∧ j = 6))
theorem pKp_f {a j : Nat} (h : ¬ ((49 ≤ a ∧ a ≤ 51) ∨ (a = 35 ∧ j = 6))) : pKp a j = false := decide_eq_false h
theorem pKp_t {a j : Nat} (h : (49 ≤ a ∧ a ≤ 51) ∨ (a = 35 ∧ j = 6)) : pKp a j = true := decide_eq_true h
theorem pKp_pYc {s s' : fz_s} (h : Fr pKp s s') : Fr pYc s s' := h.mono fun a j q => by
  have := of_decide_eq_false q
  exact pKp_f (by omega)
theorem c_keep {kf : Nat → Nat × Int × Int} {kn y : Nat} {a b : Int} {x : fz_s} (h : K7c kf kn x) (hk : kn ≤ 999) (h0 : x.1 34 0 = iI a) (h1 : x.1 34 1 = iI b) {Q : fz_s → Prop} (hq : ∀ x', Fr pKp x x' → K7c (upf kf kn (y, a, b)) (kn + 1) x' → Q x') : wp_X4_keep 35 (nI y) 34 2 x Q := by
  unfold wp_X4_keep
  intro x1 e1
  rw [h.1] at e1
  subst e1
  have hi : vp_in (nI kn) 1000 := N_in ⟨by omega, by omega⟩
  refine bf (by simp (disch := omega) only [N_lit, N_add, N_mul, N_sub, N_addneg, N_neg1, N_addm, N_le, N_lt, N_eq, N_in, N_cl, N_ne, N_ne', N_ltm, N_mlt, N_lem] <;> omega) (bt (by simp (disch := omega) only [N_lit, N_add, N_mul, N_sub, N_addneg, N_neg1, N_addm, N_le, N_lt, N_eq, N_in, N_cl, N_ne, N_ne', N_ltm, N_mlt, N_lem] <;> omega) ⟨hi, fun s2 e2 => ⟨N_in (a := 0) ⟨by omega, by omega⟩, hi, fun s3 e3 => ⟨N_in (a := 1) ⟨by omega, by omega⟩, hi, fun s4 e4 s5 e5 => ?_⟩⟩⟩)
  rw [N_cl (by omega)] at e2 e3 e4
  have r0 : s2.1 34 (0 : Int32).toNatClampNeg = iI a := by rw [e2, g_ne (by omega)]; exact h0
  rw [r0] at e3
  have r1 : s3.1 34 (1 : Int32).toNatClampNeg = iI b := by rw [e3, g_ne (by omega), e2, g_ne (by omega)]; exact h1
  rw [r1] at e4
  have r6 : s4.1 35 6 = nI kn := by rw [e4, g_ne (by omega), e3, g_ne (by omega), e2, g_ne (by omega)]; exact h.1
  rw [r6, nI_1] at e5
  refine hq s5 ?_ ⟨by rw [e5]; exact g_eq, fun k hk' => ?_⟩
  · rw [e5, e4, e3, e2]
    exact (((Fr.rf.si (pKp_t (by omega))).si (pKp_t (by omega))).si (pKp_t (by omega))).si (pKp_t (by omega))
  · rw [e5, g_ne (by omega), g_ne (by omega), g_ne (by omega), e4, g_ne (by omega), g_ne (by omega), e3, g_ne (by omega), e2]
    by_cases c : k = kn
    · subst c
      rw [upf_eq, g_eq, g_eq, g_eq]
      exact ⟨rfl, rfl, rfl⟩
    · rw [upf_ne c, g_nj c, g_nj c, g_nj c, g_ne (by omega), g_ne (by omega), g_ne (by omega)]
      exact h.2 k (by omega)
theorem prs_m1 (T : TT) (W : WW) : (prs T W).1 = -1 ↔ prO T W = false := by
  unfold prs
  split
  · rename_i q
    have q2 := q
    unfold prO at q2
    rw [Bool.and_eq_true] at q2
    have p0 := passI_f q2.1
    rw [q]
    exact ⟨fun e => by have : snt T W 0 = -1 := e; omega, fun e => by cases e⟩
  · rename_i q
    exact ⟨fun _ => (Bool.not_eq_true _).mp q, fun _ => rfl⟩
theorem prs_rg (T : TT) (W : WW) (hn : T.1 ≤ 8) : -1 ≤ (prs T W).1 ∧ (prs T W).1 < 8 := by
  rcases prs_ok T W with ⟨a, b⟩ | ⟨a, b, c, d, e, f⟩ <;> omega
theorem cnt_s (f : Nat → Bool) (k : Nat) : cnt f (k + 1) = cnt f k + (if f k = true then 1 else 0) := rfl
def noS (_k : Nat) : Bool := false
theorem chW_n (T : TT) (W : WW) (k : Nat) : chW T noS W (k + 1) = yrW T (chW T noS W k) := if_neg (show ¬ (false = true) by decide)
theorem chP_n (T : TT) (W : WW) (k : Nat) : chP T noS W k = prs T (chW T noS W k) := if_neg (show ¬ (false = true) by decide)
def exS (T : TT) (W : WW) (k : Nat) : Bool := prO T (chW T noS W k)
theorem c_years_lp {T : TT} {W : WW} {kf : Nat → Nat × Int × Int} {kn N : Nat} (hN : N ≤ 100) (hkn : kn ≤ W.2.2.2.2.2) (hy : W.2.2.2.2.2 + N ≤ 999) {x0 : fz_s} {Q : Int32 → fz_s → Prop} (hq : ∀ x', CC T (chW T noS W N) 35 x' → K7c (chK T noS W kf kn N) (kn + N) x' → Fr pYc x0 x' → x'.1 2 17 = x0.1 2 17 → (∀ a j, (a = 47 ∧ (j = 4 ∨ j = 5)) ∨ (52 ≤ a ∧ a ≤ 171) → x'.1 a j = x0.1 a j) → Q (nI (cnt (exS T W) N)) x') : ∀ (n k : Nat) (x : fz_s), CC T (chW T noS W k) 35 x → K7c (chK T noS W kf kn k) (kn + k) x → Fr pYc x0 x → x.1 2 17 = x0.1 2 17 → (∀ a j, (a = 47 ∧ (j = 4 ∨ j = 5)) ∨ (52 ≤ a ∧ a ≤ 171) → x.1 a j = x0.1 a j) → k ≤ N → N < n + k → lp_X11_years_29 Q n (nI N) (nI (cnt (exS T W) k)) (nI k) x
  | 0, k, x, _, _, _, _, _, h1, h2 => absurd h2 (by omega)
  | n + 1, k, x, h, hK, hF, h17, hu, h1, h2 => by
    have hn := h.1.1
    show nd_X11_years_29 (lp_X11_years_29 Q n) Q (nI N) (nI (cnt (exS T W) k)) (nI k) x
    unfold nd_X11_years_29
    by_cases c : k = N
    · subst c
      exact bt (by simp (disch := omega) only [N_lit, N_add, N_mul, N_sub, N_addneg, N_neg1, N_addm, N_le, N_lt, N_eq, N_in, N_cl, N_ne, N_ne', N_ltm, N_mlt, N_lem] <;> omega) (hq x h hK hF h17 hu)
    refine bf (by simp (disch := omega) only [N_lit, N_add, N_mul, N_sub, N_addneg, N_neg1, N_addm, N_le, N_lt, N_eq, N_in, N_cl, N_ne, N_ne', N_ltm, N_mlt, N_lem] <;> omega) ?_
    intro x1 e1
    rw [h.2.2.2.1.2.2.2.2.2] at e1
    subst e1
    refine c_ordinary h (by rw [ch_yr]; omega) (fun s1 c1 f1 z0 z1 => ?_)
    refine c_keep (y := (chW T noS W k).2.2.2.2.2) (hK.cg (fun a j q => f1.i _ _ (pY_f (by omega)))) (by omega) z0 z1 (fun s2 f2 k2 => ?_)
    have r0 : s2.1 34 (0 : Int32).toNatClampNeg = iI (prs T (chW T noS W k)).1 := (f2.i _ _ (pKp_f (by show ¬ ((49 ≤ 34 ∧ 34 ≤ 51) ∨ (34 = 35 ∧ _)); omega))).trans z0
    have rg := prs_rg T (chW T noS W k) hn
    have e0 : (iI (prs T (chW T noS W k)).1 = -1) ↔ (prs T (chW T noS W k)).1 = -1 := i_eq (b := -1) ⟨⟨by omega, by omega⟩, by omega, by omega⟩
    rw [r0, e0, prs_m1, nI_1]
    have c2 : CC T (chW T noS W (k + 1)) 35 s2 := by
      rw [chW_n]
      exact c1.cg (fun a j q => f2.i _ _ (pKp_f (by omega)))
    have k2' : K7c (chK T noS W kf kn (k + 1)) (kn + (k + 1)) s2 := by
      unfold chK
      rw [chP_n]
      exact k2
    have f2' : Fr pYc x0 s2 := hF.tr ((pY_pYc f1).tr (pKp_pYc f2))
    have h17' : s2.1 2 17 = x0.1 2 17 := (f2.i _ _ (pKp_f (by omega))).trans ((f1.i _ _ (pY_f (by omega))).trans h17)
    have hu' : ∀ a j, (a = 47 ∧ (j = 4 ∨ j = 5)) ∨ (52 ≤ a ∧ a ≤ 171) → s2.1 a j = x0.1 a j := fun a j q => (f2.i _ _ (pKp_f (by omega))).trans ((f1.i _ _ (pY_f (by omega))).trans (hu a j q))
    have ih := c_years_lp hN hkn hy hq n (k + 1) s2 c2 k2' f2' h17' hu' (by omega) (by omega)
    unfold cnt at ih
    refine ⟨fun q => ?_, fun q => ?_⟩
    · intro x6 e6
      subst e6
      rw [if_neg (by unfold exS; rw [q]; decide)] at ih
      exact ih
    · intro x7 e7 x8 e8
      subst e8
      rw [if_pos (show exS T W k = true by unfold exS; exact (Bool.not_eq_false _).mp q)] at ih
      rw [e7, nI_1]
      exact ih
theorem m_years_lp {T : TT} {W : WW} {kf : Nat → Nat × Int × Int} {kn N : Nat} (hN : N ≤ 100) (hy : W.2.2.2.2.2 + N ≤ 999) {m0 : fz_s} {Q : fz_s → Prop} (hq : ∀ m', MM T (chW T noS W N) m' → KP (chK T noS W kf kn N) (kn + N) m' → Fr pH m0 m' → m'.1 196 59 = nI (cnt (exS T W) N) → Q m') : ∀ (n k : Nat) (m : fz_s), MM T (chW T noS W k) m → KP (chK T noS W kf kn k) (kn + k) m → Fr pH m0 m → m.1 196 58 = nI 0 → m.1 196 59 = nI (cnt (exS T W) k) → k ≤ N → N < n + k → lp_X12_yearsGo_2 Q n (nI N) (nI k) m
  | 0, k, m, _, _, _, _, _, h1, h2 => absurd h2 (by omega)
  | n + 1, k, m, h, hK, hF, h58, h59, h1, h2 => by
    show nd_X12_yearsGo_2 (lp_X12_yearsGo_2 Q n) Q (nI N) (nI k) m
    unfold nd_X12_yearsGo_2
    by_cases c : k = N
    · subst c
      exact bt (by simp (disch := omega) only [N_lit, N_add, N_mul, N_sub, N_addneg, N_neg1, N_addm, N_le, N_lt, N_eq, N_in, N_cl, N_ne, N_ne', N_ltm, N_mlt, N_lem] <;> omega) (hq m h hK hF h59)
    refine bf (by simp (disch := omega) only [N_lit, N_add, N_mul, N_sub, N_addneg, N_neg1, N_addm, N_le, N_lt, N_eq, N_in, N_cl, N_ne, N_ne', N_ltm, N_mlt, N_lem] <;> omega) (m_goesR h hK (by rw [ch_yr]; omega) h58 (fun m1 h1' hF1 k1 z59 => ?_))
    intro x3 e3
    rw [e3, nI_1]
    refine m_years_lp hN hy hq n (k + 1) m1 (by rw [chW_n]; exact h1') ?_ (hF.tr hF1) ((hF1.i _ _ (pH_f (by omega))).trans h58) ?_ (by omega) (by omega)
    · unfold chK
      rw [chP_n]
      exact k1
    · rw [z59, h59, N_add, show cnt (exS T W) (k + 1) = cnt (exS T W) k + (if exS T W k = true then 1 else 0) from rfl]
      rfl
theorem m_refuses {k : Nat} (hk : k < 6) {m : fz_s} {Q : Int32 → fz_s → Prop} (hq : Q (-1) (si m 198 k (m.1 198 k + 1))) : wp_X12_refuses (nI k) m Q := by
  unfold wp_X12_refuses
  rw [N_cl (by omega)]
  exact ⟨N_in ⟨by omega, by omega⟩, N_in ⟨by omega, by omega⟩, fun s1 e1 => by rw [e1]; exact hq⟩
theorem c_cannot {t : Bool} {W : WW} {z : Int} {x : fz_s} (h : x.1 6 11 = nI (2 * b01 t)) (h5 : x.1 35 5 = nI W.2.2.2.2.2) (hy : W.2.2.2.2.2 ≤ 999) (hz : -2147483648 ≤ z ∧ z < 2147483648) {Q : Bool → fz_s → Prop} (hq : Q (!ahd t W 1 100 z) x) : wp_X11_cannotPass (iI z) x Q := by
  unfold wp_X11_cannotPass
  unfold ahd at hq
  have e1 : (iI z < 1) ↔ z < 1 := i_lt (b := 1) ⟨hz, by omega, by omega⟩
  have e2 : ((100 : Int32) < iI z) ↔ 100 < z := i_lt (a := 100) (b := z) ⟨⟨by omega, by omega⟩, hz⟩
  rw [e1, e2]
  refine c_noTreaty h ⟨fun q => ?_, fun q => ?_⟩
  · rw [Bool.not_eq_true'] at q
    rw [q] at hq
    exact hq
  rw [Bool.not_eq_false'] at q
  rw [q, Bool.true_and] at hq
  by_cases c1 : z < 1
  · rw [decide_eq_false (by omega)] at hq
    exact bt c1 hq
  refine bf c1 ?_
  by_cases c2 : 100 < z
  · rw [decide_eq_false (by omega)] at hq
    exact bt c2 hq
  refine bf c2 (c_beyond h5 hy ⟨by omega, by omega⟩ ⟨fun q => ?_, fun q => ?_⟩)
  · have q' := of_decide_eq_false q
    rw [decide_eq_true (by omega)] at hq
    exact hq
  · have q' := of_decide_eq_true q
    rw [decide_eq_false (by omega)] at hq
    exact hq
theorem ahd_t {t : Bool} {W : WW} {lo hi z : Int} (h : ahd t W lo hi z = true) : t = true ∧ lo ≤ z ∧ z ≤ hi ∧ (W.2.2.2.2.2 : Int) + z ≤ 999 := by
  unfold ahd at h
  rw [Bool.and_eq_true] at h
  exact ⟨h.1, of_decide_eq_true h.2⟩
theorem KPr.kf {kf kf' : Nat → Nat × Int × Int} {n : Nat} {f : Nat → Int32} (h : KPr kf n f) (he : ∀ k, k < n → kf' k = kf k) : KPr kf' n f := by
  have hc := kc_le n
  refine ⟨h.1, fun k hk => ?_⟩
  rw [he _ (by omega)]
  exact h.2 k hk
theorem UM.kf {T : TT} {kf kf' : Nat → Nat × Int × Int} {us : Nat → WW × Nat} {ac nw kn : Nat} {m : fz_s} (h : UM T kf us ac nw m) (hU : UP T kn us ac) (he : ∀ k, k < kn → kf' k = kf k) : UM T kf' us ac nw m := ⟨h.1, h.2.1, h.2.2.1, fun i hi => ⟨(h.2.2.2 i hi).1, (h.2.2.2 i hi).2.kf (fun k hk => he k (by have := (hU.2.2 i hi).1; omega))⟩⟩
theorem UP.le {T : TT} {us : Nat → WW × Nat} {ac kn kn' : Nat} (h : UP T kn us ac) (hk : kn ≤ kn') : UP T kn' us ac := ⟨h.1, h.2.1, fun i hi => ⟨by have := (h.2.2 i hi).1; omega, (h.2.2 i hi).2⟩⟩
theorem EQ_years_ok : EQ_years INV := by
  intro x m p0 h
  obtain ⟨t, T, W, kf, kn, ⟨tp, tn, h1⟩, h2, ⟨pn, h3⟩, ⟨sd, h4⟩, ⟨sn, nm, nl, h5⟩, h6, h7, ⟨us, ac, o, nw, h8⟩, ⟨rs, rn, h9⟩, h10⟩ := id h
  obtain ⟨z, rfl, hz⟩ := i_of p0
  have hn := h6.1.1.1
  have hyr := h6.2.2.1
  have m0 : m.1 232 0 = nI W.2.2.2.2.2 := h6.2.1.2.2.2.2.2.2.2.2
  unfold wp_X11_years wp_X12_years
  refine c_cannot (W := W) h5.1 h6.1.2.2.2.1.2.2.2.2.2 hyr hz ⟨fun q => ?_, fun q => ?_⟩
  · rw [Bool.not_eq_false'] at q
    obtain ⟨ht, q1, q2, q3⟩ := ahd_t q
    obtain ⟨N, rfl⟩ : ∃ N : Nat, z = N := ⟨z.toNat, by omega⟩
    refine c_remember hn h8.1.1 h8.2.1 h6.1.2.2.2.1 h7.1 (fun x1 o' hF1 hU1 => ?_)
    rw [← i_nI N]
    refine c_years_lp (T := T) (W := W) (kf := kf) (kn := kn) (N := N) (by omega) h7.2.1 (by omega) (x0 := x1) (fun x2 c2 k2 hF2 h17 hu => ?_) 2048 0 x1 (h6.1.pU hF1) (K7c.cg ⟨h7.1, h7.2.2.1⟩ (fun a j q => hF1.i _ _ (pU_f (by omega)))) Fr.rf rfl (fun _ _ _ => rfl) (by omega) (by omega)
    rw [i_nI N]
    refine m_isAhead (lo := 1) (hi := 100) h5.2.1 m0 hyr hz (by omega) (by omega) ?_
    rw [q]
    refine ⟨fun _ => ?_, fun q => (by cases q)⟩
    refine m_keeps hn h8.1.1 h8.2.2 h6.2.1.2.2.2 h7.2.2.2 (fun m1 nw' hF3 hU3 => ?_)
    intro s5 e5
    have hF5 : Fr pYm m s5 := by rw [e5]; exact (pV_pYm hF3).si (decide_eq_true (by omega))
    have es : ∀ a j, ¬ (a = 196 ∧ j = 59) → s5.1 a j = m1.1 a j := fun a j hne => by rw [e5, g_si, if_neg hne]
    have hM5 : MM T W s5 := (h6.2.1.pV hF3).cg (fun a j q => es a j (by omega))
    rw [← i_nI N]
    have sk : KP kf kn s5 := h7.2.2.2.cong (fun j hj => (es _ _ (by omega)).trans (hF3.i _ _ (pV_f (by omega))))
    have s58 : s5.1 196 58 = nI 0 := by
      rw [es _ _ (by omega), hF3.i _ _ (pV_f (by omega))]
      exact h6.2.2.2
    have s59 : s5.1 196 59 = nI 0 := by rw [e5]; exact g_eq
    refine m_years_lp (T := T) (W := W) (kf := kf) (kn := kn) (N := N) (by omega) (by omega) (m0 := s5) (fun m2 hM2 kp2 hF6 h59 => ⟨h59.symm, ?_⟩) 2048 0 s5 hM5 sk Fr.rf s58 s59 (by omega) (by omega)
    have hx : Fr pYc x x2 := (pU_pYc hF1).tr hF2
    have hm : Fr pYm m m2 := hF5.tr (pH_pYm hF6)
    have hU := h8.1.push h6.1.2.1 hyr h7.2.1
    refine INV.big (W' := chW T noS W N) (kf' := chK T noS W kf kn N) (kn' := kn + N) (us' := psh us (W, kn)) (ac' := acN ac) (o' := o') (nw' := nw') (sd' := sd) ⟨⟨tp, tn, h1⟩, h2, ⟨pn, h3⟩, ⟨sd, h4⟩, ⟨sn, nm, nl, h5⟩, h6, h7, ⟨us, ac, o, nw, h8⟩, ⟨rs, rn, h9⟩, h10⟩ ⟨h4.1, ?_, ?_⟩ ⟨c2, hM2, ?_, ?_⟩ ⟨k2.1, ?_, k2.2, kp2⟩ ⟨hU.le (by omega), ?_, ?_⟩ hx hm
    · exact h17.trans ((hF1.i _ _ (pU_f (by omega))).trans h4.2.1)
    · rw [hF6.l _ _ (pH_f (by omega)), e5]
      exact (hF3.l _ _ (pV_f (by omega))).trans h4.2.2
    · rw [ch_yr]; omega
    · rw [hF6.i _ _ (pH_f (by omega)), es _ _ (by omega), hF3.i _ _ (pV_f (by omega))]
      exact h6.2.2.2
    · rw [ch_yr]; have := h7.2.1; omega
    · exact hU1.cong (hu _ _ (by omega)) (hu _ _ (by omega)) (fun a j k1 k2 => hu _ _ (by omega))
    · refine UM.kf (UM.cong hn hU3 ?_ ?_ (fun j => ?_)) hU (fun k hk => chK_lo N k hk)
      · rw [hF6.i _ _ (pH_f (by omega)), es _ _ (by omega)]
      · rw [hF6.i _ _ (pH_f (by omega)), es _ _ (by omega)]
      · rw [hF6.i _ _ (pH_f (by omega)), es _ _ (by omega)]
  · rw [Bool.not_eq_true'] at q
    refine c_refuse (k := 3) (by omega) (m_isAhead (lo := 1) (hi := 100) h5.2.1 m0 hyr hz (by omega) (by omega) ?_)
    rw [q]
    exact ⟨fun q => (by cases q), fun _ => m_refuses (k := 3) (by omega) ⟨rfl, h.refuse 3⟩⟩
/-! chance -/
def sdS (sd : Nat) : Nat → Nat
  | 0 => sd
  | k + 1 => lcg (sdS sd k)
def snS (sd sn : Nat) (k : Nat) : Bool := decide (sdS sd (k + 1) / 64 % 100 < sn)
theorem sdS_lt {sd : Nat} (h : sd < 2147483648) : ∀ k, sdS sd k < 2147483648
  | 0 => h
  | _ + 1 => lcg_lt _
theorem c_chance_lp {T : TT} {W : WW} {kf : Nat → Nat × Int × Int} {kn N sd sn : Nat} (hsd : sd < 2147483648) (hsn : sn ≤ 100) (hN : N ≤ 100) (hkn : kn ≤ W.2.2.2.2.2) (hy : W.2.2.2.2.2 + N ≤ 999) {x0 : fz_s} (h14 : x0.1 6 14 = nI sn) {Q : Int32 → fz_s → Prop} (hq : ∀ x', CC T (chW T (snS sd sn) W N) 35 x' → K7c (chK T (snS sd sn) W kf kn N) (kn + N) x' → Fr pYc x0 x' → x'.1 2 17 = nI (sdS sd N) → (∀ a j, (a = 47 ∧ (j = 4 ∨ j = 5)) ∨ (52 ≤ a ∧ a ≤ 171) → x'.1 a j = x0.1 a j) → Q (nI (cnt (snS sd sn) N)) x') : ∀ (n k : Nat) (x : fz_s), CC T (chW T (snS sd sn) W k) 35 x → K7c (chK T (snS sd sn) W kf kn k) (kn + k) x → Fr pYc x0 x → x.1 2 17 = nI (sdS sd k) → (∀ a j, (a = 47 ∧ (j = 4 ∨ j = 5)) ∨ (52 ≤ a ∧ a ≤ 171) → x.1 a j = x0.1 a j) → k ≤ N → N < n + k → lp_X11_chance_29 Q n (nI N) (nI (cnt (snS sd sn) k)) (nI k) x
  | 0, k, x, _, _, _, _, _, h1, h2 => absurd h2 (by omega)
  | n + 1, k, x, h, hK, hF, h17, hu, h1, h2 => by
    have hn := h.1.1
    show nd_X11_chance_29 (lp_X11_chance_29 Q n) Q (nI N) (nI (cnt (snS sd sn) k)) (nI k) x
    unfold nd_X11_chance_29
    by_cases c : k = N
    · subst c
      exact bt (by simp (disch := omega) only [N_lit, N_add, N_mul, N_sub, N_addneg, N_neg1, N_addm, N_le, N_lt, N_eq, N_in, N_cl, N_ne, N_ne', N_ltm, N_mlt, N_lem] <;> omega) (hq x h hK hF h17 hu)
    refine bf (by simp (disch := omega) only [N_lit, N_add, N_mul, N_sub, N_addneg, N_neg1, N_addm, N_le, N_lt, N_eq, N_in, N_cl, N_ne, N_ne', N_ltm, N_mlt, N_lem] <;> omega) ?_
    intro x1 e1
    rw [h.2.2.2.1.2.2.2.2.2] at e1
    subst e1
    have hs := sdS_lt hsd k
    refine c_draw hs h17 ?_
    have eD : ∀ a j, ¬ (a = 2 ∧ j = 17) → (si x 2 17 (nI (lcg (sdS sd k)))).1 a j = x.1 a j := fun a j hne => by rw [g_si, if_neg hne]
    have hD : CC T (chW T (snS sd sn) W k) 35 (si x 2 17 (nI (lcg (sdS sd k)))) := h.cg (fun a j q => eD a j (by omega))
    have r17 : (si x 2 17 (nI (lcg (sdS sd k)))).1 2 17 = nI (sdS sd (k + 1)) := g_eq
    have hFD : Fr pYc x0 (si x 2 17 (nI (lcg (sdS sd k)))) := hF.si (decide_eq_true (by omega))
    generalize si x 2 17 (nI (lcg (sdS sd k))) = y at eD hD r17 hFD ⊢
    have r14 : y.1 6 14 = nI sn := (hFD.i _ _ (pYc_f (by omega))).trans h14
    have hdr : lcg (sdS sd k) / 64 % 100 < 100 := by omega
    rw [r14, N_le ⟨by omega, by omega⟩]
    have fin : ∀ (s1 : fz_s) (b : Nat) (a1 a2 : Int), cnt (snS sd sn) (k + 1) = b → chP T (snS sd sn) W k = (a1, a2) → CC T (chW T (snS sd sn) W (k + 1)) 35 s1 → Fr (pY 35) y s1 → s1.1 34 0 = iI a1 → s1.1 34 1 = iI a2 → nd_X11_chance_87 (lp_X11_chance_29 Q n) Q (nI N) (nI b) (nI k) (nI (chW T (snS sd sn) W k).2.2.2.2.2) s1 := by
      intro s1 b a1 a2 hb hp c1 f1 z0 z1
      unfold nd_X11_chance_87
      refine c_keep (y := (chW T (snS sd sn) W k).2.2.2.2.2) (hK.cg (fun a j q => (f1.i _ _ (pY_f (by omega))).trans (eD _ _ (by omega)))) (by omega) z0 z1 (fun s2 f2 k2 => ?_)
      intro x3 e3
      rw [e3, nI_1, ← hb]
      refine c_chance_lp hsd hsn hN hkn hy h14 hq n (k + 1) s2 (c1.cg (fun a j q => f2.i _ _ (pKp_f (by omega)))) ?_ (hFD.tr ((pY_pYc f1).tr (pKp_pYc f2))) ((f2.i _ _ (pKp_f (by omega))).trans ((f1.i _ _ (pY_f (by omega))).trans r17)) (fun a j q => (f2.i _ _ (pKp_f (by omega))).trans ((f1.i _ _ (pY_f (by omega))).trans ((eD _ _ (by omega)).trans (hu a j q)))) (by omega) (by omega)
      unfold chK
      rw [hp]
      exact k2
    by_cases c2 : sn ≤ lcg (sdS sd k) / 64 % 100
    · have hf : snS sd sn k = false := decide_eq_false (by show ¬ (lcg (sdS sd k) / 64 % 100 < sn); omega)
      refine bt c2 (c_ordinary hD (by rw [ch_yr]; omega) (fun s1 c1 f1 z0 z1 => ?_))
      refine fin s1 _ _ _ ?_ ?_ ?_ f1 z0 z1
      · rw [cnt_s, if_neg (by rw [hf]; decide), Nat.add_zero]
      · unfold chP; rw [if_neg (by rw [hf]; decide)]
      · unfold chW; rw [if_neg (by rw [hf]; decide)]; exact c1
    · have hf : snS sd sn k = true := decide_eq_true (by show (lcg (sdS sd k) / 64 % 100 < sn); omega)
      refine bf c2 (c_snowy hD (by rw [ch_yr]; omega) (fun s1 c1 f1 z0 z1 => ?_))
      intro x8 e8
      rw [e8, nI_1]
      refine fin s1 _ _ _ ?_ ?_ ?_ f1 z0 z1
      · rw [cnt_s, if_pos hf]
      · unfold chP; rw [if_pos hf]
      · unfold chW; rw [if_pos hf]; exact c1
def pHc (a j : Nat) : Bool := decide (a = 271 ∨ a = 235 ∨ (a = 196 ∧ (j = 107 ∨ j = 53 ∨ j = 56 ∨ j = 59 ∨ j = 74)) ∨ a = 232)
theorem pHc_f {a j : Nat} (h : ¬ (a = 271 ∨ a = 235 ∨ (a = 196 ∧ (j = 107 ∨ j = 53 ∨ j = 56 ∨ j = 59 ∨ j = 74)) ∨ a = 232)) : pHc a j = false := decide_eq_false h
theorem pH_pHc {s s' : fz_s} (h : Fr pH s s') : Fr pHc s s' := h.mono fun a j q => by
  have := of_decide_eq_false q
  exact pH_f (by omega)
theorem pHc_pYm {s s' : fz_s} (h : Fr pHc s s') : Fr pYm s s' := h.mono fun a j q => by
  have := of_decide_eq_false q
  exact pHc_f (by omega)
theorem m_chance_lp {T : TT} {W : WW} {kf : Nat → Nat × Int × Int} {kn N sd sn : Nat} (hsd : sd < 2147483648) (hsn : sn ≤ 100) (hN : N ≤ 100) (hy : W.2.2.2.2.2 + N ≤ 999) {m0 : fz_s} (h46 : m0.1 196 46 = nI sn) {Q : Int32 → fz_s → Prop} (hq : ∀ m', MM T (chW T (snS sd sn) W N) m' → KP (chK T (snS sd sn) W kf kn N) (kn + N) m' → Fr pHc m0 m' → m'.2.1 196 74 = lI (sdS sd N) → Q (nI (cnt (snS sd sn) N)) m') : ∀ (n k : Nat) (m : fz_s), MM T (chW T (snS sd sn) W k) m → KP (chK T (snS sd sn) W kf kn k) (kn + k) m → Fr pHc m0 m → m.1 196 58 = nI 0 → m.2.1 196 74 = lI (sdS sd k) → k ≤ N → N < n + k → lp_X12_chance_25 Q n (nI N) (nI (cnt (snS sd sn) k)) (nI k) m
  | 0, k, m, _, _, _, _, _, h1, h2 => absurd h2 (by omega)
  | n + 1, k, m, h, hK, hF, h58, h74, h1, h2 => by
    show nd_X12_chance_25 (lp_X12_chance_25 Q n) Q (nI N) (nI (cnt (snS sd sn) k)) (nI k) m
    unfold nd_X12_chance_25
    by_cases c : k = N
    · subst c
      exact bt (by simp (disch := omega) only [N_lit, N_add, N_mul, N_sub, N_addneg, N_neg1, N_addm, N_le, N_lt, N_eq, N_in, N_cl, N_ne, N_ne', N_ltm, N_mlt, N_lem] <;> omega) (hq m h hK hF h74)
    refine bf (by simp (disch := omega) only [N_lit, N_add, N_mul, N_sub, N_addneg, N_neg1, N_addm, N_le, N_lt, N_eq, N_in, N_cl, N_ne, N_ne', N_ltm, N_mlt, N_lem] <;> omega) ?_
    have hs := sdS_lt hsd k
    refine m_draw hs h74 ?_
    have hD : MM T (chW T (snS sd sn) W k) (sl m 196 74 (lI (lcg (sdS sd k)))) := h.cg (fun a j q => rfl)
    have hKD : KP (chK T (snS sd sn) W kf kn k) (kn + k) (sl m 196 74 (lI (lcg (sdS sd k)))) := hK
    have r74 : (sl m 196 74 (lI (lcg (sdS sd k)))).2.1 196 74 = lI (sdS sd (k + 1)) := gl_eq
    have hFD : Fr pHc m0 (sl m 196 74 (lI (lcg (sdS sd k)))) := hF.sl (decide_eq_true (by omega))
    have r58 : (sl m 196 74 (lI (lcg (sdS sd k)))).1 196 58 = nI 0 := h58
    generalize sl m 196 74 (lI (lcg (sdS sd k))) = y at hD hKD r74 hFD r58 ⊢
    have r46 : y.1 196 46 = nI sn := (hFD.i _ _ (pHc_f (by omega))).trans h46
    have hdr : lcg (sdS sd k) / 64 % 100 < 100 := by omega
    rw [r46, N_le ⟨by omega, by omega⟩, nI_1, nI_1]
    by_cases c2 : sn ≤ lcg (sdS sd k) / 64 % 100
    · have hf : snS sd sn k = false := decide_eq_false (by show ¬ (lcg (sdS sd k) / 64 % 100 < sn); omega)
      refine bt c2 (m_goesR hD hKD (by rw [ch_yr]; omega) r58 (fun m1 h1' hF1 k1 _ => ?_))
      intro x5 e5
      subst e5
      have ih := m_chance_lp hsd hsn hN hy h46 hq n (k + 1) m1 ?_ ?_ (hFD.tr (pH_pHc hF1)) ((hF1.i _ _ (pH_f (by omega))).trans r58) ((hF1.l _ _ (pH_f (by omega))).trans r74) (by omega) (by omega)
      · unfold cnt at ih
        rw [if_neg (by rw [hf]; decide)] at ih
        exact ih
      · unfold chW; rw [if_neg (by rw [hf]; decide)]; exact h1'
      · unfold chK chP; rw [if_neg (by rw [hf]; decide)]; exact k1
    · have hf : snS sd sn k = true := decide_eq_true (by show (lcg (sdS sd k) / 64 % 100 < sn); omega)
      refine bf c2 (m_yearR (a := -1) (b := -1) hD hKD (by rw [ch_yr]; omega) (Or.inl ⟨rfl, rfl⟩) r58 (fun m1 h1' hF1 k1 => ?_))
      intro x8 e8 x9 e9
      subst e8
      subst e9
      have hF1' := pK_pH hF1
      have ih := m_chance_lp hsd hsn hN hy h46 hq n (k + 1) m1 ?_ ?_ (hFD.tr (pH_pHc hF1')) ((hF1'.i _ _ (pH_f (by omega))).trans r58) ((hF1'.l _ _ (pH_f (by omega))).trans r74) (by omega) (by omega)
      · unfold cnt at ih
        rw [if_pos hf] at ih
        exact ih
      · unfold chW; rw [if_pos hf]; exact h1'
      · unfold chK chP; rw [if_pos hf]; exact k1
theorem EQ_chance_ok : EQ_chance INV := by
  intro x m p0 h
  obtain ⟨t, T, W, kf, kn, ⟨tp, tn, h1⟩, h2, ⟨pn, h3⟩, ⟨sd, h4⟩, ⟨sn, nm, nl, h5⟩, h6, h7, ⟨us, ac, o, nw, h8⟩, ⟨rs, rn, h9⟩, h10⟩ := id h
  obtain ⟨z, rfl, hz⟩ := i_of p0
  have hn := h6.1.1.1
  have hyr := h6.2.2.1
  have m0 : m.1 232 0 = nI W.2.2.2.2.2 := h6.2.1.2.2.2.2.2.2.2.2
  unfold wp_X11_chance wp_X12_chance
  refine c_cannot (W := W) h5.1 h6.1.2.2.2.1.2.2.2.2.2 hyr hz ⟨fun q => ?_, fun q => ?_⟩
  · rw [Bool.not_eq_false'] at q
    obtain ⟨ht, q1, q2, q3⟩ := ahd_t q
    obtain ⟨N, rfl⟩ : ∃ N : Nat, z = N := ⟨z.toNat, by omega⟩
    refine c_remember hn h8.1.1 h8.2.1 h6.1.2.2.2.1 h7.1 (fun x1 o' hF1 hU1 => ?_)
    rw [← i_nI N]
    refine c_chance_lp (T := T) (W := W) (kf := kf) (kn := kn) (N := N) (sd := sd) (sn := sn) h4.1 h5.2.2.2.1 (by omega) h7.2.1 (by omega) (x0 := x1) ((hF1.i _ _ (pU_f (by omega))).trans h5.2.2.2.2.1) (fun x2 c2 k2 hF2 h17 hu => ?_) 2048 0 x1 (h6.1.pU hF1) (K7c.cg ⟨h7.1, h7.2.2.1⟩ (fun a j q => hF1.i _ _ (pU_f (by omega)))) Fr.rf ((hF1.i _ _ (pU_f (by omega))).trans h4.2.1) (fun _ _ _ => rfl) (by omega) (by omega)
    rw [i_nI N]
    refine m_isAhead (lo := 1) (hi := 100) h5.2.1 m0 hyr hz (by omega) (by omega) ?_
    rw [q]
    refine ⟨fun _ => ?_, fun q => (by cases q)⟩
    refine m_keeps hn h8.1.1 h8.2.2 h6.2.1.2.2.2 h7.2.2.2 (fun m1 nw' hF3 hU3 => ?_)
    rw [← i_nI N]
    refine m_chance_lp (T := T) (W := W) (kf := kf) (kn := kn) (N := N) (sd := sd) (sn := sn) h4.1 h5.2.2.2.1 (by omega) (by omega) (m0 := m1) ((hF3.i _ _ (pV_f (by omega))).trans h5.2.2.2.2.2.1) (fun m2 hM2 kp2 hF6 h74 => ⟨rfl, ?_⟩) 2048 0 m1 (h6.2.1.pV hF3) (h7.2.2.2.cong (fun j hj => hF3.i _ _ (pV_f (by omega)))) Fr.rf ((hF3.i _ _ (pV_f (by omega))).trans h6.2.2.2) ((hF3.l _ _ (pV_f (by omega))).trans h4.2.2) (by omega) (by omega)
    have hx : Fr pYc x x2 := (pU_pYc hF1).tr hF2
    have hm : Fr pYm m m2 := (pV_pYm hF3).tr (pHc_pYm hF6)
    have hU := h8.1.push h6.1.2.1 hyr h7.2.1
    refine INV.big (W' := chW T (snS sd sn) W N) (kf' := chK T (snS sd sn) W kf kn N) (kn' := kn + N) (us' := psh us (W, kn)) (ac' := acN ac) (o' := o') (nw' := nw') (sd' := sdS sd N) ⟨⟨tp, tn, h1⟩, h2, ⟨pn, h3⟩, ⟨sd, h4⟩, ⟨sn, nm, nl, h5⟩, h6, h7, ⟨us, ac, o, nw, h8⟩, ⟨rs, rn, h9⟩, h10⟩ ⟨sdS_lt h4.1 N, h17, h74⟩ ⟨c2, hM2, ?_, ?_⟩ ⟨k2.1, ?_, k2.2, kp2⟩ ⟨hU.le (by omega), ?_, ?_⟩ hx hm
    · rw [ch_yr]; omega
    · rw [hF6.i _ _ (pHc_f (by omega)), hF3.i _ _ (pV_f (by omega))]
      exact h6.2.2.2
    · rw [ch_yr]; have := h7.2.1; omega
    · exact hU1.cong (hu _ _ (by omega)) (hu _ _ (by omega)) (fun a j k1 k2 => hu _ _ (by omega))
    · exact UM.kf (UM.cong hn hU3 (hF6.i _ _ (pHc_f (by omega))) (hF6.i _ _ (pHc_f (by omega))) (fun j => hF6.i _ _ (pHc_f (by omega)))) hU (fun k hk => chK_lo N k hk)
  · rw [Bool.not_eq_true'] at q
    refine c_refuse (k := 3) (by omega) (m_isAhead (lo := 1) (hi := 100) h5.2.1 m0 hyr hz (by omega) (by omega) ?_)
    rw [q]
    exact ⟨fun q => (by cases q), fun _ => m_refuses (k := 3) (by omega) ⟨rfl, h.refuse 3⟩⟩

/-! GAIN, BARGAIN, REST -/
def ownZ (T : TT) (W : WW) (v : Nat) (z : Int) : Bool := decide (0 ≤ z ∧ z < T.1) && own T W v z.toNat
theorem m_ownZ {T : TT} {W : WW} {v : Nat} {z : Int} {m : fz_s} (h : MM T W m) (hz : -2147483648 ≤ z ∧ z < 2147483648) (hv : v < 2) {Q : Bool → fz_s → Prop} (hq : Q (ownZ T W v z) m) : wp_X12_isOwnIn (iI z) (nI v) m Q := by
  unfold ownZ at hq
  by_cases c : 0 ≤ z ∧ z < T.1
  · rw [decide_eq_true c, Bool.true_and] at hq
    obtain ⟨p, rfl⟩ : ∃ p : Nat, z = p := ⟨z.toNat, by omega⟩
    rw [← i_nI]
    rw [Int.toNat_natCast] at hq
    exact m_ownIn h (by omega) hv hq
  · rw [decide_eq_false c, Bool.false_and] at hq
    unfold wp_X12_isOwnIn
    refine m_isPerson h.2.2.1.1 h.1.1 hz ?_
    rw [decide_eq_false c]
    exact ⟨fun _ => hq, fun q => (by cases q)⟩
theorem EQ_gain_ok : EQ_gain INV := by
  intro x m p0 p1 p2 h
  obtain ⟨t, T, W, kf, kn, ⟨tp, tn, h1⟩, h2, ⟨pn, h3⟩, ⟨sd, h4⟩, ⟨sn, nm, nl, h5⟩, h6, h7, ⟨us, ac, o, nw, h8⟩, ⟨rs, rn, h9⟩, h10⟩ := id h
  obtain ⟨z, rfl, hz⟩ := i_of p0
  obtain ⟨y, rfl, hy⟩ := i_of p1
  obtain ⟨u, rfl, hu⟩ := i_of p2
  have hn := h6.1.1.1
  have hyr := h6.2.2.1
  have cT := h6.1.2.2.1
  have m0 : m.1 232 0 = nI W.2.2.2.2.2 := h6.2.1.2.2.2.2.2.2.2.2
  unfold wp_X11_gain wp_X12_gain
  rw [i_64 hu]
  have no : ∀ x', INV x' m → ((t && decide (0 ≤ u ∧ u < 2)) = false ∨ ahd t W 1 1 1 = false ∨ ownZ T W 0 z = false ∨ ownZ T W 1 y = false) → wp_X12_isVillage (lI u) m (fun r1 s2 => ((r1 = false → (-1000000000000000 : Int64) = -1000000000000000 ∧ INV x' s2) ∧ (r1 = true → wp_X12_isAhead 1 1 1 s2 (fun r3 s4 => ((r3 = false → (-1000000000000000 : Int64) = -1000000000000000 ∧ INV x' s4) ∧ (r3 = true → wp_X12_isOwnIn (iI z) 0 s4 (fun r5 s6 => ((r5 = false → (-1000000000000000 : Int64) = -1000000000000000 ∧ INV x' s6) ∧ (r5 = true → wp_X12_isOwnIn (iI y) 1 s6 (fun r7 s8 => ((r7 = true → wp_X12_laysHarvests s8 (fun s10 => wp_X12_gainOf (iI z) (iI y) (iI u) s10 (fun r11 s12 => (-1000000000000000 : Int64) = r11.toInt64 ∧ INV x' s12))) ∧ (r7 = false → (-1000000000000000 : Int64) = -1000000000000000 ∧ INV x' s8)))))))))))) := by
    intro x' hx' hor
    refine m_isVillage h5.2.1 (lR_i hu) ⟨fun _ => ⟨rfl, hx'⟩, fun q => ?_⟩
    refine m_isAhead (lo := 1) (hi := 1) (z := 1) h5.2.1 m0 hyr (by omega) (by omega) (by omega) ⟨fun _ => ⟨rfl, hx'⟩, fun q2 => ?_⟩
    refine m_ownZ (v := 0) h6.2.1 hz (by omega) ⟨fun _ => ⟨rfl, hx'⟩, fun q3 => ?_⟩
    refine m_ownZ (v := 1) h6.2.1 hy (by omega) ⟨fun q4 => ?_, fun _ => ⟨rfl, hx'⟩⟩
    rcases hor with e | e | e | e
    · rw [q] at e; cases e
    · rw [q2] at e; cases e
    · rw [q3] at e; cases e
    · rw [q4] at e; cases e
  refine c_noVillage h5.1 hu ⟨fun q => no x h (Or.inl (nv_t q)), fun q => ?_⟩
  have q3 := nv_f q
  refine c_noPerson cT.1 hn hz ⟨fun q => no x h (Or.inr (Or.inr (Or.inl (by unfold ownZ; rw [decide_eq_false (not_dec.mp q)]; rfl)))), fun q => ?_⟩
  have qz : 0 ≤ z ∧ z < T.1 := Decidable.byContradiction fun z => by rw [decide_eq_false z] at q; cases q
  refine c_noPerson cT.1 hn hy ⟨fun q => no x h (Or.inr (Or.inr (Or.inr (by unfold ownZ; rw [decide_eq_false (not_dec.mp q)]; rfl)))), fun q => ?_⟩
  have qy : 0 ≤ y ∧ y < T.1 := Decidable.byContradiction fun z => by rw [decide_eq_false z] at q; cases q
  refine c_beyond (z := 1) h6.1.2.2.2.1.2.2.2.2.2 hyr (by omega) ⟨fun q => ?_, fun q => no x h (Or.inr (Or.inl (by unfold ahd; have := of_decide_eq_true q; rw [decide_eq_false (by omega), Bool.and_false])))⟩
  have qb := of_decide_eq_false q
  obtain ⟨a, rfl⟩ : ∃ p : Nat, z = p := ⟨z.toNat, by omega⟩
  obtain ⟨b, rfl⟩ : ∃ p : Nat, y = p := ⟨y.toNat, by omega⟩
  obtain ⟨v, rfl⟩ : ∃ p : Nat, u = p := ⟨u.toNat, by omega⟩
  have ha : a < T.1 := by omega
  have hb : b < T.1 := by omega
  have hv : v < 2 := by omega
  have eo : ∀ (v p : Nat), p < T.1 → ownZ T W v (p : Int) = own T W v p := fun v p hp => by
    unfold ownZ
    rw [decide_eq_true (by omega), Bool.true_and, Int.toNat_natCast]
  rw [eo 0 a ha, eo 1 b hb] at no
  rw [← i_nI a, ← i_nI b, ← i_nI v] at no ⊢
  refine c_canSend (v := 0) h6.1 ha (by omega) ⟨fun q => no x h (Or.inr (Or.inr (Or.inl q))), fun qa => ?_⟩
  refine c_canSend (v := 1) h6.1 hb (by omega) ⟨fun qc => ?_, fun q => no x h (Or.inr (Or.inr (Or.inr q)))⟩
  have ho : ownP T W a b = true := by unfold ownP; rw [qa, qc]; rfl
  unfold wp_X3_gainOf
  refine c_harvestBy h6.1 ha hb hv (fun x1 f1 => c_nextHarvest hv (h6.1.pC (pB_pC f1)) (fun x2 f2 => ?_))
  have g0 : hby T W a b v ≤ 999 := cut0_le _ _
  have g1 : nh T W v ≤ 999 := cut0_le _ _
  dsimp only
  rw [show (nI (hby T W a b v) - nI (nh T W v)).toInt64 = lI ((hby T W a b v : Int) - nh T W v) by rw [i_nI, i_nI, i_sub, i_64 ⟨by omega, by omega⟩]]
  refine m_isVillage h5.2.1 (lR_i hu) ?_
  rw [q3.1, decide_eq_true q3.2]
  refine ⟨fun q => (by cases q), fun _ => ?_⟩
  refine m_isAhead (lo := 1) (hi := 1) (z := 1) h5.2.1 m0 hyr (by omega) (by omega) (by omega) ?_
  rw [show ahd t W 1 1 1 = true by unfold ahd; rw [q3.1, decide_eq_true (by omega)]; rfl]
  refine ⟨fun q => (by cases q), fun _ => ?_⟩
  refine m_ownIn (v := 0) h6.2.1 ha (by omega) ?_
  rw [qa]
  refine ⟨fun q => (by cases q), fun _ => m_ownIn (v := 1) h6.2.1 hb (by omega) ?_⟩
  rw [qc]
  refine ⟨fun _ => m_lays (by omega) h6.2.1 h6.2.2.2 (fun m' hm hl => m_gainOf hn hl ha hb hv ho ⟨?_, h.fd ((pB_pC f1).tr (pE_pC f2)) hm⟩), fun q => (by cases q)⟩
  rw [i_64 ⟨by omega, by omega⟩]
def gmn (T : TT) (W : WW) (a b : Nat) : Int := if (hby T W a b 1 : Int) - nh T W 1 < (hby T W a b 0 : Int) - nh T W 0 then (hby T W a b 1 : Int) - nh T W 1 else (hby T W a b 0 : Int) - nh T W 0
theorem gmn_r (T : TT) (W : WW) (a b : Nat) : -999 ≤ gmn T W a b ∧ gmn T W a b ≤ 999 := by
  have h1 : hby T W a b 0 ≤ 999 := cut0_le _ _
  have h2 : hby T W a b 1 ≤ 999 := cut0_le _ _
  have h3 : nh T W 0 ≤ 999 := cut0_le _ _
  have h4 : nh T W 1 ≤ 999 := cut0_le _ _
  unfold gmn
  split <;> omega
def bgs (T : TT) (W : WW) (a b : Nat) (st : Int × Int × Int) : Int × Int × Int := if ownP T W a b = true then (if st.2.2 < gmn T W a b then ((a : Int), (b : Int), gmn T W a b) else st) else st
def bgR (T : TT) (W : WW) (a : Nat) (st : Int × Int × Int) : Nat → Int × Int × Int
  | 0 => st
  | b + 1 => bgs T W a b (bgR T W a st b)
def bgA (T : TT) (W : WW) : Nat → Int × Int × Int
  | 0 => (-1, -1, 0)
  | a + 1 => bgR T W a (bgA T W a) T.1
def bgOK (st : Int × Int × Int) : Prop := (st.1 = -1 ∧ st.2.1 = -1 ∧ st.2.2 = 0) ∨ (0 ≤ st.1 ∧ st.1 < 8 ∧ 0 ≤ st.2.1 ∧ st.2.1 < 8 ∧ 0 < st.2.2 ∧ st.2.2 ≤ 999)
theorem bgs_ok {T : TT} {W : WW} {a b : Nat} {st : Int × Int × Int} (ha : a < 8) (hb : b < 8) (h : bgOK st) : bgOK (bgs T W a b st) := by
  have hg := gmn_r T W a b
  unfold bgs
  split
  · split
    · rename_i q
      right
      refine ⟨by show (0 : Int) ≤ a; omega, by show (a : Int) < 8; omega, by show (0 : Int) ≤ b; omega, by show (b : Int) < 8; omega, ?_, hg.2⟩
      show 0 < gmn T W a b
      rcases h with h | h <;> omega
    · exact h
  · exact h
def BC (st : Int × Int × Int) (x : fz_s) : Prop := x.1 172 5 = iI st.2.2 ∧ (0 < st.2.2 → x.1 180 0 = iI st.1 ∧ x.1 180 1 = iI st.2.1)
def pBg (a j : Nat) : Bool := decide (a = 180 ∨ (a = 172 ∧ j = 5))
theorem pBg_f {a j : Nat} (h : ¬ (a = 180 ∨ (a = 172 ∧ j = 5))) : pBg a j = false := decide_eq_false h
theorem pBg_pC {s s' : fz_s} (h : Fr pBg s s') : Fr pC s s' := h.mono fun a j q => by
  have := of_decide_eq_false q
  exact pBg_f (by omega)
theorem c_barI {T : TT} {W : WW} {x0 : fz_s} (h0 : CC T W 35 x0) (hH : FH T W T.1 0 (x0.1 179)) {a : Nat} (ha : a < T.1) {st0 : Int × Int × Int} (hs0 : bgOK st0) {K : Int32 → Int32 → Int32 → fz_s → Prop} {Q : Bool → fz_s → Prop} (hq : ∀ x', Fr pBg x0 x' → BC (bgR T W a st0 T.1) x' → bgOK (bgR T W a st0 T.1) → K (nI (nh T W 0)) (nI (nh T W 1)) (nI (a + 1)) x') : ∀ (n b : Nat) (x : fz_s), Fr pBg x0 x → BC (bgR T W a st0 b) x → bgOK (bgR T W a st0 b) → b ≤ T.1 → T.1 < n + b → lp_X3_findBargain_48 35 K Q n (nI (nh T W 0)) (nI (nh T W 1)) (nI a) (nI b) x
  | 0, b, x, _, _, _, h1, h2 => absurd h2 (by omega)
  | n + 1, b, x, hF, hB, hO, h1, h2 => by
    have hn := h0.1.1
    have h := h0.pC (pBg_pC hF)
    show nd_X3_findBargain_48 35 K (lp_X3_findBargain_48 35 K Q n) Q (nI (nh T W 0)) (nI (nh T W 1)) (nI a) (nI b) x
    unfold nd_X3_findBargain_48
    rw [h.2.2.1.1, nI_1]
    by_cases c : b = T.1
    · subst c
      refine bt (by simp (disch := omega) only [N_lit, N_add, N_mul, N_sub, N_addneg, N_neg1, N_addm, N_le, N_lt, N_eq, N_in, N_cl, N_ne, N_ne', N_ltm, N_mlt, N_lem] <;> omega) ?_
      intro x1 e1
      subst e1
      exact hq x hF hB hO
    have hb : b < T.1 := by omega
    rw [show (0 : Int32) = nI 0 from rfl, nI_1]
    refine bf (by simp (disch := omega) only [N_lit, N_add, N_mul, N_sub, N_addneg, N_neg1, N_addm, N_le, N_lt, N_eq, N_in, N_cl, N_ne, N_ne', N_ltm, N_mlt, N_lem] <;> omega) (c_cell3 ⟨N_in ⟨by omega, by omega⟩, c_cell3 (v := 1) ⟨N_in ⟨by omega, by omega⟩, fun x6 e6 => c_isPair h ha hb ⟨fun q => ?_, fun q => ?_⟩⟩⟩)
    · intro x9 e9
      subst e9
      have en : bgR T W a st0 (b + 1) = bgR T W a st0 b := by
        show bgs T W a b _ = _
        unfold bgs
        rw [if_neg (by rw [q]; decide)]
      exact c_barI h0 hH ha hs0 hq n (b + 1) x hF (by rw [en]; exact hB) (by rw [en]; exact hO) (by omega) (by omega)
    · have g0 : hby T W a b 0 ≤ 999 := cut0_le _ _
      have g1 : hby T W a b 1 ≤ 999 := cut0_le _ _
      have g2 : nh T W 0 ≤ 999 := cut0_le _ _
      have g3 : nh T W 1 ≤ 999 := cut0_le _ _
      have hg := gmn_r T W a b
      have r : ∀ v, v < 2 → x.1 179 (16 * a + 2 * b + v) = nI (hby T W a b v) := fun v hv => (hF.i _ _ (pBg_f (by omega))).trans (hH a b v ha hb hv (by omega) q)
      rw [N_cl (by omega), N_cl (by omega), r 0 (by omega), r 1 (by omega), i_nI, i_nI, i_nI, i_nI, i_sub, i_sub] at e6
      have e7 : x6 = iI (gmn T W a b) := by
        rw [e6]
        unfold gmn
        have ee : (iI ((hby T W a b 1 : Int) - nh T W 1) < iI ((hby T W a b 0 : Int) - nh T W 0)) ↔ (hby T W a b 1 : Int) - nh T W 1 < (hby T W a b 0 : Int) - nh T W 0 := i_lt ⟨⟨by omega, by omega⟩, by omega, by omega⟩
        by_cases cc : (hby T W a b 1 : Int) - nh T W 1 < (hby T W a b 0 : Int) - nh T W 0
        · rw [if_pos (ee.mpr cc), if_pos cc]
        · rw [if_neg (fun q => cc (ee.mp q)), if_neg cc]
      have hl : 0 ≤ (bgR T W a st0 b).2.2 ∧ (bgR T W a st0 b).2.2 ≤ 999 := by rcases hO with o | o <;> omega
      rw [hB.1, e7, i_le ⟨⟨by omega, by omega⟩, by omega, by omega⟩]
      have hO' := bgs_ok (T := T) (W := W) (a := a) (b := b) (by omega) (by omega) hO
      by_cases c5 : gmn T W a b ≤ (bgR T W a st0 b).2.2
      · refine bt c5 ?_
        intro x10 e10
        subst e10
        have en : bgR T W a st0 (b + 1) = bgR T W a st0 b := by
          show bgs T W a b _ = _
          unfold bgs
          rw [if_pos q, if_neg (by omega)]
        exact c_barI h0 hH ha hs0 hq n (b + 1) x hF (by rw [en]; exact hB) (by rw [en]; exact hO) (by omega) (by omega)
      · refine bf c5 ?_
        intro s11 e11
        unfold wp_X3_choose
        intro s12 e12 s13 e13 x14 e14
        subst e14
        have en : bgR T W a st0 (b + 1) = ((a : Int), (b : Int), gmn T W a b) := by
          show bgs T W a b _ = _
          unfold bgs
          rw [if_pos q, if_pos (by omega)]
        refine c_barI h0 hH ha hs0 hq n (b + 1) s13 ?_ ?_ hO' (by omega) (by omega)
        · rw [e13, e12, e11]
          exact ((hF.si (decide_eq_true (by omega))).si (decide_eq_true (by omega))).si (decide_eq_true (by omega))
        · rw [en]
          refine ⟨?_, fun _ => ⟨?_, ?_⟩⟩
          · rw [e13, g_ne (by omega), e12, g_ne (by omega), e11]; exact g_eq
          · rw [e13, e12, i_nI a]
            exact (g_nj (by decide)).trans g_eq
          · rw [e13, i_nI b]
            exact g_eq
theorem c_barO {T : TT} {W : WW} {x0 : fz_s} (h0 : CC T W 35 x0) (hH : FH T W T.1 0 (x0.1 179)) {Q : Bool → fz_s → Prop} (hq : ∀ x', Fr pBg x0 x' → BC (bgA T W T.1) x' → bgOK (bgA T W T.1) → Q (decide (0 < (bgA T W T.1).2.2)) x') : ∀ (n a : Nat) (x : fz_s), Fr pBg x0 x → BC (bgA T W a) x → bgOK (bgA T W a) → a ≤ T.1 → T.1 < n + a → lp_X3_findBargain_33 35 Q n (nI (nh T W 0)) (nI (nh T W 1)) (nI a) x
  | 0, a, x, _, _, _, h1, h2 => absurd h2 (by omega)
  | n + 1, a, x, hF, hB, hO, h1, h2 => by
    have hn := h0.1.1
    have h := h0.pC (pBg_pC hF)
    show nd_X3_findBargain_33 35 (lp_X3_findBargain_33 35 Q n) Q (nI (nh T W 0)) (nI (nh T W 1)) (nI a) x
    unfold nd_X3_findBargain_33
    rw [h.2.2.1.1]
    by_cases c : a = T.1
    · subst c
      have hl : 0 ≤ (bgA T W T.1).2.2 ∧ (bgA T W T.1).2.2 ≤ 999 := by rcases hO with o | o <;> omega
      refine bt (by simp (disch := omega) only [N_lit, N_add, N_mul, N_sub, N_addneg, N_neg1, N_addm, N_le, N_lt, N_eq, N_in, N_cl, N_ne, N_ne', N_ltm, N_mlt, N_lem] <;> omega) ?_
      have e0 : (iI (bgA T W T.1).2.2 ≤ 0) ↔ (bgA T W T.1).2.2 ≤ 0 := i_le (b := 0) ⟨⟨by omega, by omega⟩, by omega, by omega⟩
      rw [hB.1, e0]
      have hz := hq x hF hB hO
      by_cases c0 : (bgA T W T.1).2.2 ≤ 0
      · rw [decide_eq_false (by omega)] at hz
        exact bt c0 hz
      · rw [decide_eq_true (by omega)] at hz
        exact bf c0 hz
    refine bf (by simp (disch := omega) only [N_lit, N_add, N_mul, N_sub, N_addneg, N_neg1, N_addm, N_le, N_lt, N_eq, N_in, N_cl, N_ne, N_ne', N_ltm, N_mlt, N_lem] <;> omega) (c_barI h0 hH (by omega) hO (fun x' f' B' O' => ?_) 2048 0 x hF hB hO (by omega) (by omega))
    exact c_barO h0 hH hq n (a + 1) x' f' B' O' (by omega) (by omega)
theorem LH.cg {T : TT} {W : WW} {s s' : fz_s} (h : LH T W s) (he : ∀ a j, a = 236 ∨ a = 237 → s'.1 a j = s.1 a j) : LH T W s' := ⟨fun p q v hp hq hv hl ho => (he _ _ (by omega)).trans (h.1 p q v hp hq hv hl ho), fun v hv => (he _ _ (by omega)).trans (h.2 v hv)⟩
theorem m_barI {T : TT} {W : WW} {m : fz_s} (h : MM T W m) (hL : LH T W m) {a : Nat} (ha : a < T.1) {st0 : Int × Int × Int} {p0 : Int32} {K : Int32 → Int32 → Int32 → Int32 → Int32 → fz_s → Prop} {Q : Int32 → fz_s → Prop} (hq : bgOK (bgR T W a st0 T.1) → K p0 (iI (bgR T W a st0 T.1).1) (iI (bgR T W a st0 T.1).2.1) (iI (bgR T W a st0 T.1).2.2) (nI (a + 1)) m) : ∀ (n b : Nat), bgOK (bgR T W a st0 b) → b ≤ T.1 → T.1 < n + b → lp_X12_bargain_50 K Q n p0 (iI (bgR T W a st0 b).1) (iI (bgR T W a st0 b).2.1) (iI (bgR T W a st0 b).2.2) (nI a) (nI b) m
  | 0, b, _, h1, h2 => absurd h2 (by omega)
  | n + 1, b, hO, h1, h2 => by
    have hn := h.1.1
    show nd_X12_bargain_50 K (lp_X12_bargain_50 K Q n) Q p0 (iI (bgR T W a st0 b).1) (iI (bgR T W a st0 b).2.1) (iI (bgR T W a st0 b).2.2) (nI a) (nI b) m
    unfold nd_X12_bargain_50 wp_X12_personMany
    rw [h.2.2.1.1, nI_1]
    by_cases c : b = T.1
    · subst c
      refine bt (by simp (disch := omega) only [N_lit, N_add, N_mul, N_sub, N_addneg, N_neg1, N_addm, N_le, N_lt, N_eq, N_in, N_cl, N_ne, N_ne', N_ltm, N_mlt, N_lem] <;> omega) ?_
      intro x3 e3
      subst e3
      exact hq hO
    have hb : b < T.1 := by omega
    have hO' := bgs_ok (T := T) (W := W) (a := a) (b := b) (by omega) (by omega) hO
    have no : ownP T W a b = false → ∀ x6 : Int32, x6 = nI (b + 1) → lp_X12_bargain_50 K Q n p0 (iI (bgR T W a st0 b).1) (iI (bgR T W a st0 b).2.1) (iI (bgR T W a st0 b).2.2) (nI a) x6 m := by
      intro q x6 e6
      subst e6
      have en : bgR T W a st0 (b + 1) = bgR T W a st0 b := by
        show bgs T W a b _ = _
        unfold bgs
        rw [if_neg (by rw [q]; decide)]
      have ih := m_barI (Q := Q) h hL ha hq n (b + 1) hO' (by omega) (by omega)
      rw [en] at ih
      exact ih
    rw [nI_1]
    refine bf (by simp (disch := omega) only [N_lit, N_add, N_mul, N_sub, N_addneg, N_neg1, N_addm, N_le, N_lt, N_eq, N_in, N_cl, N_ne, N_ne', N_ltm, N_mlt, N_lem] <;> omega) (m_ownIn (v := 0) h ha (by omega) ⟨fun q => no (by unfold ownP; rw [q]; rfl), fun q => m_ownIn (v := 1) h hb (by omega) ⟨fun q2 => ?_, fun q2 => no (by unfold ownP; rw [q2, Bool.and_false])⟩⟩)
    have ho : ownP T W a b = true := by unfold ownP; rw [q, q2]; rfl
    have g0 : hby T W a b 0 ≤ 999 := cut0_le _ _
    have g1 : hby T W a b 1 ≤ 999 := cut0_le _ _
    have g2 : nh T W 0 ≤ 999 := cut0_le _ _
    have g3 : nh T W 1 ≤ 999 := cut0_le _ _
    have hg := gmn_r T W a b
    have hl : 0 ≤ (bgR T W a st0 b).2.2 ∧ (bgR T W a st0 b).2.2 ≤ 999 := by rcases hO with o | o <;> omega
    refine m_gainOf (v := 0) hn hL ha hb (by omega) ho (m_gainOf (v := 1) hn hL ha hb (by omega) ho ?_)
    have go : ∀ u : Int, u = gmn T W a b → nd_X12_bargain_118 K (lp_X12_bargain_50 K Q n) Q p0 (iI (bgR T W a st0 b).1) (iI (bgR T W a st0 b).2.1) (iI (bgR T W a st0 b).2.2) (nI a) (nI b) (iI u) m := by
      intro u hu
      unfold nd_X12_bargain_118
      rw [hu, i_lt ⟨⟨by omega, by omega⟩, by omega, by omega⟩, nI_1]
      by_cases c5 : (bgR T W a st0 b).2.2 < gmn T W a b
      · refine bt c5 ?_
        intro x1 e1
        subst e1
        have en : bgR T W a st0 (b + 1) = ((a : Int), (b : Int), gmn T W a b) := by
          show bgs T W a b _ = _
          unfold bgs
          rw [if_pos ho, if_pos c5]
        have ih := m_barI (Q := Q) h hL ha hq n (b + 1) hO' (by omega) (by omega)
        rw [en] at ih
        rw [i_nI a, i_nI b]
        rw [i_nI a] at ih
        exact ih
      · refine bf c5 ?_
        intro x2 e2
        subst e2
        have en : bgR T W a st0 (b + 1) = bgR T W a st0 b := by
          show bgs T W a b _ = _
          unfold bgs
          rw [if_pos ho, if_neg c5]
        have ih := m_barI (Q := Q) h hL ha hq n (b + 1) hO' (by omega) (by omega)
        rw [en] at ih
        exact ih
    rw [i_le ⟨⟨by omega, by omega⟩, by omega, by omega⟩]
    by_cases cc : (hby T W a b 1 : Int) - nh T W 1 ≤ (hby T W a b 0 : Int) - nh T W 0
    · refine bt cc (go _ ?_)
      unfold gmn
      split <;> omega
    · refine bf cc (go _ ?_)
      unfold gmn
      rw [if_neg (by omega)]
theorem m_barO {T : TT} {W : WW} {m : fz_s} (h : MM T W m) (hL : LH T W m) {p0 : Int32} {Q : Int32 → fz_s → Prop} (hq : bgOK (bgA T W T.1) → ((¬ iI (bgA T W T.1).1 = (-1) → ((¬ p0 = 0 → ((¬ p0 = 1 → Q (iI (bgA T W T.1).2.2) m) ∧ (p0 = 1 → Q (iI (bgA T W T.1).2.1) m))) ∧ (p0 = 0 → Q (iI (bgA T W T.1).1) m))) ∧ (iI (bgA T W T.1).1 = (-1) → Q (-1) m))) : ∀ (n a : Nat), bgOK (bgA T W a) → a ≤ T.1 → T.1 < n + a → lp_X12_bargain_38 Q n p0 (iI (bgA T W a).1) (iI (bgA T W a).2.1) (iI (bgA T W a).2.2) (nI a) m
  | 0, a, _, h1, h2 => absurd h2 (by omega)
  | n + 1, a, hO, h1, h2 => by
    have hn := h.1.1
    show nd_X12_bargain_38 (lp_X12_bargain_38 Q n) Q p0 (iI (bgA T W a).1) (iI (bgA T W a).2.1) (iI (bgA T W a).2.2) (nI a) m
    unfold nd_X12_bargain_38 wp_X12_personMany
    rw [h.2.2.1.1]
    by_cases c : a = T.1
    · subst c
      exact bt (by simp (disch := omega) only [N_lit, N_add, N_mul, N_sub, N_addneg, N_neg1, N_addm, N_le, N_lt, N_eq, N_in, N_cl, N_ne, N_ne', N_ltm, N_mlt, N_lem] <;> omega) (hq hO)
    exact bf (by simp (disch := omega) only [N_lit, N_add, N_mul, N_sub, N_addneg, N_neg1, N_addm, N_le, N_lt, N_eq, N_in, N_cl, N_ne, N_ne', N_ltm, N_mlt, N_lem] <;> omega) (m_barI (st0 := bgA T W a) h hL (by omega) (fun O' => m_barO h hL hq n (a + 1) O' (by omega) (by omega)) 2048 0 hO (by omega) (by omega))
theorem EQ_bargain_ok : EQ_bargain INV := by
  intro x m p0 h
  obtain ⟨t, T, W, kf, kn, ⟨tp, tn, h1⟩, h2, ⟨pn, h3⟩, ⟨sd, h4⟩, ⟨sn, nm, nl, h5⟩, h6, h7, ⟨us, ac, o, nw, h8⟩, ⟨rs, rn, h9⟩, h10⟩ := id h
  obtain ⟨z, rfl, hz⟩ := i_of p0
  have hn := h6.1.1.1
  have hyr := h6.2.2.1
  have m0 : m.1 232 0 = nI W.2.2.2.2.2 := h6.2.1.2.2.2.2.2.2.2.2
  have l0 : lR 0 := by unfold lR; omega
  have l2 : lR 2 := by unfold lR; omega
  have e1 : (iI z < 0) ↔ z < 0 := i_lt (b := 0) ⟨hz, by omega, by omega⟩
  have e2 : ((2 : Int32) < iI z) ↔ 2 < z := i_lt (a := 2) (b := z) ⟨⟨by omega, by omega⟩, hz⟩
  have no : (ahd t W 1 1 1 = false ∨ ¬ (0 ≤ z ∧ z ≤ 2)) → wp_X12_bargain (iI z) m (fun r' m' => (-1 : Int32) = r' ∧ INV x m') := by
    intro hor
    unfold wp_X12_bargain
    rw [i_64 hz]
    refine m_isAhead (lo := 1) (hi := 1) (z := 1) h5.2.1 m0 hyr (by omega) (by omega) (by omega) ⟨fun _ => ⟨rfl, h⟩, fun q => m_isIn (b := 0) (c := 2) (lR_i hz) l0 l2 ⟨fun q2 => ?_, fun _ => ⟨rfl, h⟩⟩⟩
    rcases hor with e | e
    · rw [q] at e; cases e
    · exact absurd (of_decide_eq_true q2) e
  unfold wp_X11_bargain
  rw [e1, e2]
  by_cases c1 : z < 0
  · exact bt c1 (no (Or.inr (by omega)))
  refine bf c1 ?_
  by_cases c2 : 2 < z
  · exact bt c2 (no (Or.inr (by omega)))
  refine bf c2 (c_noTreaty h5.1 ⟨fun q => no (Or.inl (by rw [Bool.not_eq_true'] at q; unfold ahd; rw [q]; rfl)), fun q => ?_⟩)
  rw [Bool.not_eq_false'] at q
  refine c_beyond (z := 1) h6.1.2.2.2.1.2.2.2.2.2 hyr (by omega) ⟨fun q2 => no (Or.inl (by unfold ahd; have := of_decide_eq_true q2; rw [decide_eq_false (by omega), Bool.and_false])), fun q2 => ?_⟩
  have qb := of_decide_eq_false q2
  have ba : bgOK (bgA T W 0) := Or.inl ⟨rfl, rfl, rfl⟩
  unfold wp_X3_findBargain
  refine c_fill h6.1 (fun x1 f1 H1 => c_nextHarvest (v := 0) (by omega) (h6.1.pC (pFl_pC f1)) (fun x2 f2 => c_nextHarvest (v := 1) (by omega) (h6.1.pC ((pFl_pC f1).tr (pE_pC f2))) (fun x3 f3 => ?_)))
  intro s7 e7
  have f7 : Fr pC x s7 := by rw [e7]; exact ((pFl_pC f1).tr ((pE_pC f2).tr (pE_pC f3))).si (pC_t (by omega))
  have H7 : FH T W T.1 0 (s7.1 179) := fun p q v hp hq hv hl ho => by
    rw [e7, g_ne (by omega), f3.i _ _ (pE_f (by omega)), f2.i _ _ (pE_f (by omega))]
    exact H1 p q v hp hq hv hl ho
  refine c_barO (h6.1.pC f7) H7 (fun x8 f8 B8 O8 => ?_) 2048 0 s7 Fr.rf ⟨by rw [e7]; exact g_eq, fun q => absurd q (show ¬ ((0 : Int) < 0) by omega)⟩ ba (by omega) (by omega)
  have hI : ∀ m', Fdd m m' → INV x8 m' := fun m' hm => h.fd (f7.tr (pBg_pC f8)) hm
  have yes : ∀ r : Int32, (∀ m', Fdd m m' → bgOK (bgA T W T.1) → ((¬ iI (bgA T W T.1).1 = (-1) → ((¬ iI z = 0 → ((¬ iI z = 1 → (r = iI (bgA T W T.1).2.2 ∧ INV x8 m')) ∧ (iI z = 1 → (r = iI (bgA T W T.1).2.1 ∧ INV x8 m')))) ∧ (iI z = 0 → (r = iI (bgA T W T.1).1 ∧ INV x8 m')))) ∧ (iI (bgA T W T.1).1 = (-1) → (r = -1 ∧ INV x8 m')))) → wp_X12_bargain (iI z) m (fun r' m' => r = r' ∧ INV x8 m') := by
    intro r hr
    unfold wp_X12_bargain
    rw [i_64 hz]
    refine m_isAhead (lo := 1) (hi := 1) (z := 1) h5.2.1 m0 hyr (by omega) (by omega) (by omega) ?_
    rw [show ahd t W 1 1 1 = true by unfold ahd; rw [q, decide_eq_true (by omega)]; rfl]
    refine ⟨fun q => (by cases q), fun _ => m_isIn (b := 0) (c := 2) (lR_i hz) l0 l2 ⟨fun _ => ?_, fun q => absurd (of_decide_eq_false q) (by omega)⟩⟩
    refine m_lays (by omega) h6.2.1 h6.2.2.2 (fun m' hm hl => ?_)
    exact m_barO (p0 := iI z) (h6.2.1.cg (fun a j q => hm.1 a j (pD_f (by omega)))) hl (fun O => hr m' hm O) 2048 0 ba (by omega) (by omega)
  have e0 : (iI (bgA T W T.1).1 = -1) ↔ (bgA T W T.1).1 = -1 := i_eq (b := -1) ⟨by rcases O8 with o | o <;> omega, by omega, by omega⟩
  have z0 : (iI z = 0) ↔ z = 0 := i_eq (b := 0) ⟨hz, by omega, by omega⟩
  have z1 : (iI z = 1) ↔ z = 1 := i_eq (b := 1) ⟨hz, by omega, by omega⟩
  have z2 : (iI z = 2) ↔ z = 2 := i_eq (b := 2) ⟨hz, by omega, by omega⟩
  rw [e0, z0, z1] at yes
  refine ⟨fun q5 => ?_, fun q5 => ?_⟩
  · have q5' := of_decide_eq_true q5
    have hB := B8.2 q5'
    have hne : ¬ (bgA T W T.1).1 = -1 := by rcases O8 with o | o <;> omega
    rw [z2]
    refine ⟨fun c => ⟨i_in ⟨by omega, by omega⟩, ?_⟩, fun c => ?_⟩
    · rw [i_cl hz]
      rcases (show z = 0 ∨ z = 1 by omega) with rfl | rfl
      · exact yes _ (fun m' hm _ => ⟨fun _ => ⟨fun q => absurd rfl q, fun _ => ⟨hB.1, hI m' hm⟩⟩, fun q => absurd q hne⟩)
      · exact yes _ (fun m' hm _ => ⟨fun _ => ⟨fun _ => ⟨fun q => absurd rfl q, fun _ => ⟨hB.2, hI m' hm⟩⟩, fun q => absurd q (by omega)⟩, fun q => absurd q hne⟩)
    · exact yes _ (fun m' hm _ => ⟨fun _ => ⟨fun _ => ⟨fun _ => ⟨B8.1, hI m' hm⟩, fun q => absurd q (by omega)⟩, fun q => absurd q (by omega)⟩, fun q => absurd q hne⟩)
  · have q5' := of_decide_eq_false q5
    have heq : (bgA T W T.1).1 = -1 := by rcases O8 with o | o <;> omega
    exact yes _ (fun m' hm _ => ⟨fun q => absurd heq q, fun _ => ⟨rfl, hI m' hm⟩⟩)

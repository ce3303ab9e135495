/-! PLAIN CALLS -/
theorem i_of (p : Int32) : ∃ z : Int, p = iI z ∧ -2147483648 ≤ z ∧ z < 2147483648 := ⟨p.toInt, i_all p, i_rng p⟩
theorem c_noPerson {n : Nat} {z : Int} {x : fz_s} (h : x.1 6 12 = nI n) (hn : n ≤ 8) (hz : -2147483648 ≤ z ∧ z < 2147483648) {Q : Bool → fz_s → Prop} (hq : Q (!decide (0 ≤ z ∧ z < n)) x) : wp_X11_noPerson (iI z) x Q := by
  unfold wp_X11_noPerson
  rw [h, i_nI]
  have e1 : (iI z < 0) ↔ z < 0 := i_lt (b := 0) ⟨hz, by omega, by omega⟩
  have e2 : (iI z < iI n) ↔ z < n := i_lt ⟨hz, by omega, by omega⟩
  rw [e1, e2]
  by_cases c1 : z < 0
  · rw [decide_eq_false (by omega)] at hq
    exact bt c1 hq
  refine bf c1 ?_
  by_cases c2 : z < n
  · rw [decide_eq_true (by omega)] at hq
    exact bt c2 hq
  · rw [decide_eq_false (by omega)] at hq
    exact bf c2 hq
theorem c_noVillage {t : Bool} {z : Int} {x : fz_s} (h : x.1 6 11 = nI (2 * b01 t)) (hz : -2147483648 ≤ z ∧ z < 2147483648) {Q : Bool → fz_s → Prop} (hq : Q (!(t && decide (0 ≤ z ∧ z < 2))) x) : wp_X11_noVillage (iI z) x Q := by
  unfold wp_X11_noVillage
  rw [h, i_nI]
  have hb := b01_le t
  have e1 : (iI z < 0) ↔ z < 0 := i_lt (b := 0) ⟨hz, by omega, by omega⟩
  have e2 : (iI z < iI (2 * b01 t : Nat)) ↔ z < (2 * b01 t : Nat) := i_lt ⟨hz, by omega, by omega⟩
  rw [e1, e2]
  by_cases c1 : z < 0
  · rw [decide_eq_false (by omega), Bool.and_false] at hq
    exact bt c1 hq
  refine bf c1 ?_
  cases t with
  | false => exact bf (by show ¬ z < ((2 * 0 : Nat) : Int); omega) hq
  | true =>
    show (z < ((2 * 1 : Nat) : Int) → _) ∧ _
    by_cases c2 : z < 2
    · rw [decide_eq_true (by omega)] at hq
      exact bt (by omega) hq
    · rw [decide_eq_false (by omega)] at hq
      exact bf (by omega) hq
theorem c_noTreaty {t : Bool} {x : fz_s} (h : x.1 6 11 = nI (2 * b01 t)) {Q : Bool → fz_s → Prop} (hq : Q (!t) x) : wp_X11_noTreaty x Q := by
  unfold wp_X11_noTreaty
  rw [h]
  cases t with
  | false => exact bf (by show ¬ ((2 : Int32) ≤ nI 0); decide +kernel) hq
  | true => exact bt (by show ((2 : Int32) ≤ nI 2); decide +kernel) hq
theorem m_isIn {a b c : Int} (ha : lR a) (hb : lR b) (hc : lR c) {m : fz_s} {Q : Bool → fz_s → Prop} (hq : Q (decide (b ≤ a ∧ a ≤ c)) m) : wp_X12_isIn (lI a) (lI b) (lI c) m Q := by
  unfold lR at ha hb hc
  unfold wp_X12_isIn
  rw [lg_cmp_lt, lg_cmp_gt, l_lt ⟨ha, hb⟩, l_lt ⟨hc, ha⟩]
  by_cases c1 : a < b
  · rw [decide_eq_false (by omega)] at hq
    exact bt c1 hq
  refine bf c1 ?_
  by_cases c2 : c < a
  · rw [decide_eq_false (by omega)] at hq
    exact bt c2 hq
  · rw [decide_eq_true (by omega)] at hq
    exact bf c2 hq
theorem lR_i {z : Int} (h : -2147483648 ≤ z ∧ z < 2147483648) : lR z := by
  unfold lR
  omega
theorem m_isVillage {t : Bool} {z : Int} {m : fz_s} (h : m.1 196 52 = nI (b01 t)) (hz : lR z) {Q : Bool → fz_s → Prop} (hq : Q (t && decide (0 ≤ z ∧ z < 2)) m) : wp_X12_isVillage (lI z) m Q := by
  unfold wp_X12_isVillage
  rw [h]
  cases t with
  | false => exact bt rfl hq
  | true =>
    refine bf (by show ¬ (nI 1 = 0); decide +kernel) (m_isIn (b := 0) (c := 1) hz (by unfold lR; omega) (by unfold lR; omega) ?_)
    rw [show decide (0 ≤ z ∧ z ≤ 1) = decide (0 ≤ z ∧ z < 2) by rw [decide_eq_decide]; omega]
    rw [Bool.true_and] at hq
    exact ⟨fun e => by rw [e] at hq; exact hq, fun e => by rw [e] at hq; exact hq⟩
theorem m_awayMany_lp {T : TT} {W : WW} {m : fz_s} (h : MM T W m) {Q : Int32 → fz_s → Prop} (hq : Q (nI (cnt W.2.2.2.1 T.1)) m) : ∀ (n k : Nat), k ≤ T.1 → T.1 < n + k → lp_X12_awayMany_4 Q n (nI (cnt W.2.2.2.1 k)) (nI k) m
  | 0, k, h1, h2 => absurd h2 (by omega)
  | n + 1, k, h1, h2 => by
    have hn := h.1.1
    show nd_X12_awayMany_4 (lp_X12_awayMany_4 Q n) Q (nI (cnt W.2.2.2.1 k)) (nI k) m
    unfold nd_X12_awayMany_4 wp_X12_personMany
    rw [h.2.2.1.1]
    by_cases hk : k = T.1
    · subst hk
      exact bt (by simp (disch := omega) only [N_lit, N_add, N_mul, N_sub, N_addneg, N_neg1, N_addm, N_le, N_lt, N_eq, N_in, N_cl, N_ne, N_ne', N_ltm, N_mlt, N_lem] <;> omega) hq
    have hk2 : k < T.1 := by omega
    have ih := m_awayMany_lp h hq n (k + 1) (by omega) (by omega)
    unfold cnt at ih
    have e1 : nI k + 1 = nI (k + 1) := nI_1 k
    rw [e1]
    refine bf (by simp (disch := omega) only [N_lit, N_add, N_mul, N_sub, N_addneg, N_neg1, N_addm, N_le, N_lt, N_eq, N_in, N_cl, N_ne, N_ne', N_ltm, N_mlt, N_lem] <;> omega) (m_isAway h hk2 ⟨fun e => ?_, fun e => ?_⟩)
    · intro x8 e8
      subst e8
      rw [e, if_neg (by decide)] at ih
      exact ih
    · intro x8 e8 x9 e9
      subst e9
      rw [e, if_pos rfl] at ih
      rw [e8, nI_1]
      exact ih
theorem m_passMany_lp {T : TT} {W : WW} {m0 : fz_s} {Q : Int32 → fz_s → Prop} (hq : ∀ m', Fr pM m0 m' → Q (nI (cnt (pass T W) T.1)) m') : ∀ (n k : Nat) (m : fz_s), MM T W m → Fr pM m0 m → k ≤ T.1 → T.1 < n + k → lp_X12_passMany_4 Q n (nI (cnt (pass T W) k)) (nI k) m
  | 0, k, m, _, _, h1, h2 => absurd h2 (by omega)
  | n + 1, k, m, h, hF, h1, h2 => by
    have hn := h.1.1
    show nd_X12_passMany_4 (lp_X12_passMany_4 Q n) Q (nI (cnt (pass T W) k)) (nI k) m
    unfold nd_X12_passMany_4 wp_X12_personMany
    rw [h.2.2.1.1]
    by_cases hk : k = T.1
    · subst hk
      exact bt (by simp (disch := omega) only [N_lit, N_add, N_mul, N_sub, N_addneg, N_neg1, N_addm, N_le, N_lt, N_eq, N_in, N_cl, N_ne, N_ne', N_ltm, N_mlt, N_lem] <;> omega) (hq m hF)
    have hk2 : k < T.1 := by omega
    have e1 : nI k + 1 = nI (k + 1) := nI_1 k
    rw [e1]
    refine bf (by simp (disch := omega) only [N_lit, N_add, N_mul, N_sub, N_addneg, N_neg1, N_addm, N_le, N_lt, N_eq, N_in, N_cl, N_ne, N_ne', N_ltm, N_mlt, N_lem] <;> omega) (m_pass h hk2 (fun m' hF' => ?_))
    have ih := m_passMany_lp hq n (k + 1) m' (h.pM hF') (hF.tr hF') (by omega) (by omega)
    unfold cnt at ih
    refine ⟨fun e => ?_, fun e => ?_⟩
    · intro x8 e8
      subst e8
      rw [e, if_neg (by decide)] at ih
      exact ih
    · intro x8 e8 x9 e9
      subst e9
      rw [e, if_pos rfl] at ih
      rw [e8, nI_1]
      exact ih
theorem EQ_fault_ok : EQ_fault INV := by
  intro x m p0 h
  obtain ⟨t, T, W, kf, kn, ⟨tp, tn, h1⟩, h2, ⟨pn, h3⟩, ⟨sd, h4⟩, ⟨sn, nm, nl, h5⟩, h6, h7, ⟨us, ac, o, nw, h8⟩, ⟨rs, rn, h9⟩, h10⟩ := id h
  unfold wp_X11_fault wp_X12_fault
  exact ⟨fun q => ⟨fun q1 => ⟨fun _ => ⟨fun _ => ⟨rfl, h⟩, fun z => absurd z q1⟩, fun z => absurd z q⟩, fun q1 => ⟨fun _ => ⟨fun z => absurd q1 z, fun _ => ⟨h2.2.1, h⟩⟩, fun z => absurd z q⟩⟩, fun q => ⟨fun z => absurd q z, fun _ => ⟨h2.1, h⟩⟩⟩
theorem EQ_status_ok : EQ_status INV := by
  intro x m p0 h
  obtain ⟨t, T, W, kf, kn, ⟨tp, tn, h1⟩, h2, ⟨pn, h3⟩, ⟨sd, h4⟩, ⟨sn, nm, nl, h5⟩, h6, h7, ⟨us, ac, o, nw, h8⟩, ⟨rs, rn, h9⟩, h10⟩ := id h
  obtain ⟨z, rfl, hz⟩ := i_of p0
  unfold wp_X11_status wp_X12_status
  have e1 : (iI z < 0) ↔ z < 0 := i_lt (b := 0) ⟨hz, by omega, by omega⟩
  have e2 : (iI z < 6) ↔ z < 6 := i_lt (b := 6) ⟨hz, by omega, by omega⟩
  rw [e1, e2, i_64 hz]
  have key : ∀ (r : Int32), (decide (0 ≤ z ∧ z ≤ 5) = false → r = -1) → (decide (0 ≤ z ∧ z ≤ 5) = true → r = m.1 198 z.toNat) → wp_X12_isIn (lI z) 0 5 m (fun r1 s2 => ((r1 = false → (r = -1 ∧ INV x s2)) ∧ (r1 = true → vp_in (iI z) 6 ∧ (r = s2.1 198 (iI z).toNatClampNeg ∧ INV x s2)))) := by
    intro r k1 k2
    refine m_isIn (b := 0) (c := 5) (lR_i hz) (by unfold lR; omega) (by unfold lR; omega) ⟨fun q => ⟨k1 q, h⟩, fun q => ?_⟩
    have q' := of_decide_eq_true q
    refine ⟨i_in ⟨by omega, by omega⟩, ?_, h⟩
    rw [i_cl hz]
    exact k2 q
  by_cases c1 : z < 0
  · exact bt c1 (key _ (fun _ => rfl) (fun q => by have := of_decide_eq_true q; omega))
  refine bf c1 ?_
  by_cases c2 : z < 6
  · refine bt c2 ⟨i_in ⟨by omega, by omega⟩, key _ (fun q => by have := of_decide_eq_false q; omega) (fun _ => ?_)⟩
    rw [i_cl hz]
    exact h2.2.2 _ (by omega)
  · exact bf c2 (key _ (fun _ => rfl) (fun q => by have := of_decide_eq_true q; omega))
theorem EQ_octet_ok : EQ_octet INV := by
  intro x m p0 h
  obtain ⟨t, T, W, kf, kn, ⟨tp, tn, h1⟩, h2, ⟨pn, h3⟩, ⟨sd, h4⟩, ⟨sn, nm, nl, h5⟩, h6, h7, ⟨us, ac, o, nw, h8⟩, ⟨rs, rn, h9⟩, h10⟩ := id h
  obtain ⟨z, rfl, hz⟩ := i_of p0
  obtain ⟨a1, a2, a3, a4⟩ := h3
  unfold wp_X11_octet wp_X12_octet
  have e1 : (iI z < 0) ↔ z < 0 := i_lt (b := 0) ⟨hz, by omega, by omega⟩
  have e2 : (iI z < iI pn) ↔ z < pn := i_lt ⟨hz, by omega, by omega⟩
  have e3 : (iI pn ≤ iI z) ↔ pn ≤ z := i_le ⟨⟨by omega, by omega⟩, hz⟩
  rw [a2, a3, i_nI, e1, e2, e3, i_cl hz]
  by_cases c1 : z < 0
  · exact bt c1 (bt c1 ⟨rfl, h⟩)
  refine bf c1 ?_
  by_cases c2 : z < pn
  · exact bt c2 ⟨i_in ⟨by omega, by omega⟩, bf c1 (bf (by omega) ⟨i_in ⟨by omega, by omega⟩, a4 _ (by omega), h⟩)⟩
  · exact bf c2 (bf c1 (bt (by omega) ⟨rfl, h⟩))
theorem c_refuse {k : Nat} (hk : k < 6) {x : fz_s} {Q : Int32 → fz_s → Prop} (hq : Q (-1) (si x 195 k (x.1 195 k + 1))) : wp_X11_refuse (nI k) x Q := by
  unfold wp_X11_refuse
  rw [N_cl (by omega)]
  exact ⟨N_in ⟨by omega, by omega⟩, N_in ⟨by omega, by omega⟩, fun s1 e1 => by rw [e1]; exact hq⟩
theorem CW.cg {T : TT} {W : WW} {w : Nat} {x x' : fz_s} (h : CW T W w x) (h2 : ∀ a j, (a = w ∧ j = 5) ∨ (w + 1 ≤ a ∧ a ≤ w + 5) → x'.1 a j = x.1 a j) : CW T W w x' := by
  obtain ⟨a1, a2, a3, a4, a5, a6⟩ := h
  exact ⟨fun p hp => (h2 _ p (by omega)).trans (a1 p hp), fun p hp hz => (h2 _ p (by omega)).trans (a2 p hp hz), fun p hp => (h2 _ p (by omega)).trans (a3 p hp), fun p hp => (h2 _ p (by omega)).trans (a4 p hp), fun p hp => (h2 _ p (by omega)).trans (a5 p hp), (h2 _ _ (by omega)).trans a6⟩
theorem CC.cg {T : TT} {W : WW} {w : Nat} {x x' : fz_s} (h : CC T W w x) (h2 : ∀ a j, (a = 6 ∧ j = 12) ∨ a = 10 ∨ (12 ≤ a ∧ a ≤ 16) ∨ (a = w ∧ j = 5) ∨ (w + 1 ≤ a ∧ a ≤ w + 5) → x'.1 a j = x.1 a j) : CC T W w x' := ⟨h.1, h.2.1, h.2.2.1.cong (h2 _ _ (by omega)) (fun a ha j => h2 a j (by omega)), h.2.2.2.1.cg (fun a j q => h2 a j (by omega)), h.2.2.2.2⟩
theorem MM.cg {T : TT} {W : WW} {m m' : fz_s} (h : MM T W m) (h2 : ∀ a j, (a = 196 ∧ j = 40) ∨ (a = 227 ∧ 24 ≤ j) ∨ (a = 229 ∧ 5 ≤ j) ∨ (a = 230 ∧ 5 ≤ j) ∨ (a = 231 ∧ 1600 ≤ j) ∨ (a = 232 ∧ j < 29) → m'.1 a j = m.1 a j) : MM T W m' := by
  obtain ⟨g1, g2, ⟨a1, a2, a3, a4, a5⟩, g4⟩ := h
  refine ⟨g1, g2, ⟨(h2 _ _ (by omega)).trans a1, fun p hp => (h2 _ _ (by omega)).trans (a2 p hp), fun p hp => (h2 _ _ (by omega)).trans (a3 p hp), fun p hp => (h2 _ _ (by omega)).trans (a4 p hp), fun r hr => ?_⟩, g4.cong g1.1 (fun j hj => h2 _ _ (by omega))⟩
  rcases a5 r hr with ⟨z, e⟩ | ⟨l, a, b1, b2, b3, b4, b5⟩
  · exact Or.inl ⟨(h2 _ _ (by omega)).trans z, e⟩
  · exact Or.inr ⟨l, a, (h2 _ _ (by omega)).trans b1, (h2 _ _ (by omega)).trans b2, b3, b4.cong (fun k _ _ => h2 _ _ (by omega)), b5⟩
theorem I1.cg {tp : Nat → Nat} {tn : Nat} {x m x' m' : fz_s} (h : I1 tp tn x m) (hx : ∀ a j, a = 3 ∨ (a = 2 ∧ j = 1) → x'.1 a j = x.1 a j) (hm : ∀ a j, a = 197 ∨ (a = 196 ∧ j = 1) → m'.1 a j = m.1 a j) : I1 tp tn x' m' := by
  obtain ⟨a1, a2, a3, a4, a5, a6⟩ := h
  exact ⟨a1, a2, (hx _ _ (by omega)).trans a3, (hm _ _ (by omega)).trans a4, fun j hj => (hx _ _ (by omega)).trans (a5 j hj), fun j hj => (hm _ _ (by omega)).trans (a6 j hj)⟩
theorem I2.cg {x m x' m' : fz_s} (h : I2 x m) (hx : ∀ a j, a = 195 ∨ (a = 2 ∧ (j = 18 ∨ j = 19)) → x'.1 a j = x.1 a j) (hm : ∀ a j, a = 198 ∨ (a = 196 ∧ (j = 7 ∨ j = 8)) → m'.1 a j = m.1 a j) : I2 x' m' := by
  refine ⟨?_, ?_, fun j hj => ?_⟩
  · rw [hx _ _ (by omega), hm _ _ (by omega)]; exact h.1
  · rw [hx _ _ (by omega), hm _ _ (by omega)]; exact h.2.1
  · rw [hx _ _ (by omega), hm _ _ (by omega)]; exact h.2.2 j hj
theorem I3.cg {pn : Nat} {x m x' m' : fz_s} (h : I3 pn x m) (hx : ∀ a j, a = 194 ∨ (a = 2 ∧ j = 15) → x'.1 a j = x.1 a j) (hm : ∀ a j, a = 272 ∨ (a = 196 ∧ j = 111) → m'.1 a j = m.1 a j) : I3 pn x' m' := by
  refine ⟨h.1, (hx _ _ (by omega)).trans h.2.1, (hm _ _ (by omega)).trans h.2.2.1, fun j hj => ?_⟩
  rw [hx _ _ (by omega), hm _ _ (by omega)]
  exact h.2.2.2 j hj
theorem I4.cg {sd : Nat} {x m x' m' : fz_s} (h : I4 sd x m) (hx : ∀ a j, a = 2 ∧ j = 17 → x'.1 a j = x.1 a j) (hm : ∀ a j, a = 196 ∧ j = 74 → m'.2.1 a j = m.2.1 a j) : I4 sd x' m' := ⟨h.1, (hx _ _ (by omega)).trans h.2.1, (hm _ _ (by omega)).trans h.2.2⟩
theorem I5.cg {t : Bool} {T : TT} {sn : Nat} {nm : Nat → Nat → Nat} {nl : Nat → Nat} {x m x' m' : fz_s} (h : I5 t T sn nm nl x m) (hx : ∀ a j, a = 7 ∨ (a = 6 ∧ (j = 11 ∨ j = 14)) → x'.1 a j = x.1 a j) (hm : ∀ a j, a = 196 ∧ (j = 46 ∨ j = 52) → m'.1 a j = m.1 a j) (hl : ∀ a j, a = 225 ∧ 10 ≤ j → m'.2.1 a j = m.2.1 a j) : I5 t T sn nm nl x' m' := by
  refine ⟨(hx _ _ (by omega)).trans h.1, (hm _ _ (by omega)).trans h.2.1, h.2.2.1, h.2.2.2.1, (hx _ _ (by omega)).trans h.2.2.2.2.1, (hm _ _ (by omega)).trans h.2.2.2.2.2.1, fun ht i hi => ?_⟩
  obtain ⟨b1, b2, b3, b4, b5⟩ := h.2.2.2.2.2.2 ht i hi
  exact ⟨b1, b2, b3, fun k hk => (hx _ _ (by omega)).trans (b4 k hk), (hl _ _ (by omega)).trans b5⟩
theorem I6.cg {T : TT} {W : WW} {x m x' m' : fz_s} (h : I6 T W x m) (hx : ∀ a j, (a = 6 ∧ j = 12) ∨ a = 10 ∨ (12 ≤ a ∧ a ≤ 16) ∨ (a = 35 ∧ j = 5) ∨ (36 ≤ a ∧ a ≤ 40) → x'.1 a j = x.1 a j) (hm : ∀ a j, (a = 196 ∧ (j = 40 ∨ j = 58)) ∨ (a = 227 ∧ 24 ≤ j) ∨ (a = 229 ∧ 5 ≤ j) ∨ (a = 230 ∧ 5 ≤ j) ∨ (a = 231 ∧ 1600 ≤ j) ∨ (a = 232 ∧ j < 29) → m'.1 a j = m.1 a j) : I6 T W x' m' := ⟨h.1.cg (fun a j q => hx a j (by omega)), h.2.1.cg (fun a j q => hm a j (by omega)), h.2.2.1, (hm _ _ (by omega)).trans h.2.2.2⟩
theorem I7.cg {W : WW} {kf : Nat → Nat × Int × Int} {kn : Nat} {x m x' m' : fz_s} (h : I7 W kf kn x m) (hx : ∀ a j, (a = 35 ∧ j = 6) ∨ (49 ≤ a ∧ a ≤ 51) → x'.1 a j = x.1 a j) (hm : ∀ a j, a = 232 ∧ 29 ≤ j → m'.1 a j = m.1 a j) : I7 W kf kn x' m' := by
  refine ⟨(hx _ _ (by omega)).trans h.1, h.2.1, fun k hk => ?_, h.2.2.2.cong (fun j hj => hm _ _ (by omega))⟩
  obtain ⟨b1, b2, b3⟩ := h.2.2.1 k hk
  exact ⟨(hx _ _ (by omega)).trans b1, (hx _ _ (by omega)).trans b2, (hx _ _ (by omega)).trans b3⟩
theorem I8.cg {T : TT} {kf : Nat → Nat × Int × Int} {kn : Nat} {us : Nat → WW × Nat} {ac o nw : Nat} {x m x' m' : fz_s} (hn : T.1 ≤ 8) (h : I8 T kf kn us ac o nw x m) (hx : ∀ a j, (a = 47 ∧ (j = 4 ∨ j = 5)) ∨ (52 ≤ a ∧ a ≤ 171) → x'.1 a j = x.1 a j) (hm : ∀ a j, a = 243 ∨ (a = 196 ∧ (j = 72 ∨ j = 73)) → m'.1 a j = m.1 a j) : I8 T kf kn us ac o nw x' m' := ⟨h.1, h.2.1.cong (hx _ _ (by omega)) (hx _ _ (by omega)) (fun a j _ _ => hx _ _ (by omega)), h.2.2.cong hn (hm _ _ (by omega)) (hm _ _ (by omega)) (fun j => hm _ _ (by omega))⟩
theorem I9.cg {rs : Nat → Nat × Nat × Nat} {rn : Nat} {x m x' m' : fz_s} (h : I9 rs rn x m) (hx : ∀ a j, a = 191 ∨ (a = 184 ∧ j = 5) → x'.1 a j = x.1 a j) (hm : ∀ a j, a = 240 ∨ (a = 196 ∧ j = 66) → m'.1 a j = m.1 a j) : I9 rs rn x' m' := by
  refine ⟨h.1, (hx _ _ (by omega)).trans h.2.1, (hm _ _ (by omega)).trans h.2.2.1, fun k hk => ?_⟩
  obtain ⟨b1, b2, b3, b4, b5, b6, b7, b8, b9, b10⟩ := h.2.2.2 k hk
  exact ⟨b1, b2, b3, (hx _ _ (by omega)).trans b4, (hx _ _ (by omega)).trans b5, (hx _ _ (by omega)).trans b6, (hx _ _ (by omega)).trans b7, (hm _ _ (by omega)).trans b8, (hm _ _ (by omega)).trans b9, (hm _ _ (by omega)).trans b10⟩
theorem I10.cg {m m' : fz_s} (h : I10 m) (hm : ∀ a j, (199 ≤ a ∧ a ≤ 224) ∨ (244 ≤ a ∧ a ≤ 268) → m'.1 a j = m.1 a j) : I10 m' := fun a j q1 q2 q3 => (hm _ _ (by have := wds_ne q3 q1 q2; omega)).trans (h a j q1 q2 q3)

theorem INV.refuse {x m : fz_s} (h : INV x m) (k : Nat) : INV (si x 195 k (x.1 195 k + 1)) (si m 198 k (m.1 198 k + 1)) := by
  obtain ⟨t, T, W, kf, kn, ⟨tp, tn, h1⟩, h2, ⟨pn, h3⟩, ⟨sd, h4⟩, ⟨sn, nm, nl, h5⟩, h6, h7, ⟨us, ac, o, nw, h8⟩, ⟨rs, rn, h9⟩, h10⟩ := id h
  have ex : ∀ a j, a ≠ 195 → (si x 195 k (x.1 195 k + 1)).1 a j = x.1 a j := fun a j ha => g_ne ha
  have em : ∀ a j, a ≠ 198 → (si m 198 k (m.1 198 k + 1)).1 a j = m.1 a j := fun a j ha => g_ne ha
  have el : ∀ a j, a ≠ 198 → (si m 198 k (m.1 198 k + 1)).2.1 a j = m.2.1 a j := fun a j ha => rfl
  refine ⟨t, T, W, kf, kn, ⟨tp, tn, h1.cg (fun a j q => ex a j (by omega)) (fun a j q => em a j (by omega))⟩, ?_, ⟨pn, h3.cg (fun a j q => ex a j (by omega)) (fun a j q => em a j (by omega))⟩, ⟨sd, h4.cg (fun a j q => ex a j (by omega)) (fun a j q => el a j (by omega))⟩, ⟨sn, nm, nl, h5.cg (fun a j q => ex a j (by omega)) (fun a j q => em a j (by omega)) (fun a j q => el a j (by omega))⟩, h6.cg (fun a j q => ex a j (by omega)) (fun a j q => em a j (by omega)), h7.cg (fun a j q => ex a j (by omega)) (fun a j q => em a j (by omega)), ⟨us, ac, o, nw, h8.cg h6.1.1.1 (fun a j q => ex a j (by omega)) (fun a j q => em a j (by omega))⟩, ⟨rs, rn, h9.cg (fun a j q => ex a j (by omega)) (fun a j q => em a j (by omega))⟩, h10.cg (fun a j q => em a j (by omega))⟩
  refine ⟨?_, ?_, fun j hj => ?_⟩
  · rw [ex _ _ (by omega), em _ _ (by omega)]; exact h2.1
  · rw [ex _ _ (by omega), em _ _ (by omega)]; exact h2.2.1
  · rw [g_si, g_si]
    by_cases c : j = k
    · subst c
      rw [if_pos ⟨rfl, rfl⟩, if_pos ⟨rfl, rfl⟩, h2.2.2 j hj]
    · rw [if_neg (fun q => c q.2), if_neg (fun q => c q.2)]
      exact h2.2.2 j hj
def pT1 (a j : Nat) : Bool := decide (a = 3 ∨ (a = 2 ∧ j = 1))
def pT2 (a j : Nat) : Bool := decide (a = 197 ∨ (a = 196 ∧ j = 1))
theorem INV.tape {x m x' m' : fz_s} (h : INV x m) {tp' : Nat → Nat} {tn' : Nat} (h1' : I1 tp' tn' x' m') (hx : Fr pT1 x x') (hm : Fr pT2 m m') : INV x' m' := by
  obtain ⟨t, T, W, kf, kn, ⟨tp, tn, h1⟩, h2, ⟨pn, h3⟩, ⟨sd, h4⟩, ⟨sn, nm, nl, h5⟩, h6, h7, ⟨us, ac, o, nw, h8⟩, ⟨rs, rn, h9⟩, h10⟩ := id h
  have ex : ∀ a j, ¬ (a = 3 ∨ (a = 2 ∧ j = 1)) → x'.1 a j = x.1 a j := fun a j ha => hx.i a j (decide_eq_false ha)
  have em : ∀ a j, ¬ (a = 197 ∨ (a = 196 ∧ j = 1)) → m'.1 a j = m.1 a j := fun a j ha => hm.i a j (decide_eq_false ha)
  have el : ∀ a j, ¬ (a = 197 ∨ (a = 196 ∧ j = 1)) → m'.2.1 a j = m.2.1 a j := fun a j ha => hm.l a j (decide_eq_false ha)
  exact ⟨t, T, W, kf, kn, ⟨_, _, h1'⟩, h2.cg (fun a j q => ex a j (by omega)) (fun a j q => em a j (by omega)), ⟨pn, h3.cg (fun a j q => ex a j (by omega)) (fun a j q => em a j (by omega))⟩, ⟨sd, h4.cg (fun a j q => ex a j (by omega)) (fun a j q => el a j (by omega))⟩, ⟨sn, nm, nl, h5.cg (fun a j q => ex a j (by omega)) (fun a j q => em a j (by omega)) (fun a j q => el a j (by omega))⟩, h6.cg (fun a j q => ex a j (by omega)) (fun a j q => em a j (by omega)), h7.cg (fun a j q => ex a j (by omega)) (fun a j q => em a j (by omega)), ⟨us, ac, o, nw, h8.cg h6.1.1.1 (fun a j q => ex a j (by omega)) (fun a j q => em a j (by omega))⟩, ⟨rs, rn, h9.cg (fun a j q => ex a j (by omega)) (fun a j q => em a j (by omega))⟩, h10.cg (fun a j q => em a j (by omega))⟩
theorem INV.taped {x m : fz_s} (h : INV x m) {n : Nat} (hn : n ≤ 1600) : INV (si x 2 1 (nI n)) (si m 196 1 (nI n)) := by
  obtain ⟨t, T, W, kf, kn, ⟨tp, tn, h1⟩, h2, ⟨pn, h3⟩, ⟨sd, h4⟩, ⟨sn, nm, nl, h5⟩, h6, h7, ⟨us, ac, o, nw, h8⟩, ⟨rs, rn, h9⟩, h10⟩ := id h
  refine h.tape (tp' := tp) (tn' := n) ⟨hn, h1.2.1, g_eq, g_eq, fun j hj => ?_, fun j hj => ?_⟩ (Fr.rf.si (decide_eq_true (by omega))) (Fr.rf.si (decide_eq_true (by omega)))
  · rw [g_ne (by omega)]; exact h1.2.2.2.2.1 j hj
  · rw [g_ne (by omega)]; exact h1.2.2.2.2.2 j hj
theorem EQ_end_ok : EQ_end INV := by
  intro x m p0 h
  obtain ⟨t, T, W, kf, kn, ⟨tp, tn, h1⟩, h2, ⟨pn, h3⟩, ⟨sd, h4⟩, ⟨sn, nm, nl, h5⟩, h6, h7, ⟨us, ac, o, nw, h8⟩, ⟨rs, rn, h9⟩, h10⟩ := id h
  obtain ⟨z, rfl, hz⟩ := i_of p0
  obtain ⟨a1, a2, a3, a4, a5, a6⟩ := h1
  unfold wp_X11_end wp_X12_end
  have e1 : (iI z < 0) ↔ z < 0 := i_lt (b := 0) ⟨hz, by omega, by omega⟩
  have e3 : (iI z ≤ iI tn) ↔ z ≤ tn := i_le ⟨hz, by omega, by omega⟩
  rw [a3, a4, i_nI, e1, e3]
  by_cases c1 : z < 0
  · refine bt c1 (c_refuse (k := 0) (by omega) (bt c1 (fun s1 es => ?_)))
    subst es
    exact ⟨rfl, h.refuse 0⟩
  refine bf c1 ?_
  by_cases c2 : z ≤ tn
  · refine bt c2 (fun s1 es => bf c1 (bt c2 (fun s2 es2 => ⟨rfl, ?_⟩)))
    subst es
    subst es2
    rw [show iI z = nI z.toNat by rw [i_nI, show ((z.toNat : Nat) : Int) = z by omega]]
    exact h.taped (by omega)
  · refine bf c2 (c_refuse (k := 0) (by omega) (bf c1 (bf c2 (fun s1 es => ?_))))
    subst es
    exact ⟨rfl, h.refuse 0⟩
theorem EQ_seed_ok : EQ_seed INV := by
  intro x m p0 h
  obtain ⟨t, T, W, kf, kn, ⟨tp, tn, h1⟩, h2, ⟨pn, h3⟩, ⟨sd, h4⟩, ⟨sn, nm, nl, h5⟩, h6, h7, ⟨us, ac, o, nw, h8⟩, ⟨rs, rn, h9⟩, h10⟩ := id h
  obtain ⟨z, rfl, hz⟩ := i_of p0
  unfold wp_X11_seed wp_X12_seed
  have e1 : (0 ≤ iI z) ↔ 0 ≤ z := i_le (a := 0) (b := z) ⟨⟨by omega, by omega⟩, hz⟩
  rw [e1]
  by_cases c1 : 0 ≤ z
  · refine bt c1 (fun s1 es => bt c1 (fun s2 es2 => ⟨rfl, ?_⟩))
    have ex : ∀ a j, ¬ (a = 2 ∧ j = 17) → s1.1 a j = x.1 a j := fun a j ha => by rw [es, g_si, if_neg ha]
    have em : ∀ a j, 0 ≤ a → s2.1 a j = m.1 a j := fun a j _ => by rw [es2]; rfl
    have el : ∀ a j, ¬ (a = 196 ∧ j = 74) → s2.2.1 a j = m.2.1 a j := fun a j ha => by rw [es2, g_sl, if_neg ha]
    refine ⟨t, T, W, kf, kn, ⟨tp, tn, h1.cg (fun a j q => ex a j (by omega)) (fun a j q => em a j (by omega))⟩, h2.cg (fun a j q => ex a j (by omega)) (fun a j q => em a j (by omega)), ⟨pn, h3.cg (fun a j q => ex a j (by omega)) (fun a j q => em a j (by omega))⟩, ⟨z.toNat, by omega, ?_, ?_⟩, ⟨sn, nm, nl, h5.cg (fun a j q => ex a j (by omega)) (fun a j q => em a j (by omega)) (fun a j q => el a j (by omega))⟩, h6.cg (fun a j q => ex a j (by omega)) (fun a j q => em a j (by omega)), h7.cg (fun a j q => ex a j (by omega)) (fun a j q => em a j (by omega)), ⟨us, ac, o, nw, h8.cg h6.1.1.1 (fun a j q => ex a j (by omega)) (fun a j q => em a j (by omega))⟩, ⟨rs, rn, h9.cg (fun a j q => ex a j (by omega)) (fun a j q => em a j (by omega))⟩, h10.cg (fun a j q => em a j (by omega))⟩
    · rw [es, g_eq, i_nI, show ((z.toNat : Nat) : Int) = z by omega]
    · rw [es2, gl_eq, i_64 hz, show ((z.toNat : Nat) : Int) = z by omega]
  · refine bf c1 (c_refuse (k := 5) (by omega) (bf c1 (fun s1 es => ?_)))
    subst es
    exact ⟨rfl, h.refuse 5⟩
theorem told_kc {kn : Nat} (hk : kn ≤ 999) : (if nI kn < 40 then nI kn else 40) = nI (kc kn) := by
  have e : (nI kn < 40) ↔ kn < 40 := N_lt (b := 40) ⟨by omega, by omega⟩
  unfold kc
  by_cases c : kn < 40
  · rw [if_pos (e.mpr c), if_pos c]
  · rw [if_neg (fun q => c (e.mp q)), if_neg c]; rfl
theorem EQ_has_ok : EQ_has INV := by
  intro x m p0 h
  obtain ⟨t, T, W, kf, kn, ⟨tp, tn, h1⟩, h2, ⟨pn, h3⟩, ⟨sd, h4⟩, ⟨sn, nm, nl, h5⟩, h6, h7, ⟨us, ac, o, nw, h8⟩, ⟨rs, rn, h9⟩, h10⟩ := id h
  unfold wp_X11_has wp_X12_has
  refine ⟨fun e => ?_, fun e => ?_, fun e => ?_, fun e => ?_, fun e => ?_, fun e => ?_, fun e => ?_, fun e => ?_, fun hne => ?_⟩
  · subst e
    refine ⟨fun _ => ?_, fun q => absurd q (by decide), fun q => absurd q (by decide), fun q => absurd q (by decide), fun q => absurd q (by decide), fun q => absurd q (by decide), fun q => absurd q (by decide), fun q => absurd q (by decide), fun q => absurd rfl q.1⟩
    rw [h5.1, h5.2.1]
    cases t with
    | false => exact bt rfl ⟨rfl, h⟩
    | true => exact bf (by show ¬ (nI 1 = 0); decide +kernel) ⟨rfl, h⟩
  · subst e
    refine ⟨fun q => absurd q (by decide), fun _ => ?_, fun q => absurd q (by decide), fun q => absurd q (by decide), fun q => absurd q (by decide), fun q => absurd q (by decide), fun q => absurd q (by decide), fun q => absurd q (by decide), fun q => absurd rfl q.2.1⟩
    unfold wp_X12_personMany
    exact ⟨h6.1.2.2.1.1.trans h6.2.1.2.2.1.1.symm, h⟩
  · subst e
    refine ⟨fun q => absurd q (by decide), fun q => absurd q (by decide), fun _ => ?_, fun q => absurd q (by decide), fun q => absurd q (by decide), fun q => absurd q (by decide), fun q => absurd q (by decide), fun q => absurd q (by decide), fun q => absurd rfl q.2.2.1⟩
    exact ⟨h6.1.2.2.2.1.2.2.2.2.2.trans h6.2.1.2.2.2.2.2.2.2.2.symm, h⟩
  · subst e
    refine c_away h6.1 ⟨fun q => absurd q (by decide), fun q => absurd q (by decide), fun q => absurd q (by decide), fun _ => ?_, fun q => absurd q (by decide), fun q => absurd q (by decide), fun q => absurd q (by decide), fun q => absurd q (by decide), fun q => absurd rfl q.2.2.2.1⟩
    exact m_awayMany_lp h6.2.1 ⟨rfl, h⟩ 2048 0 (by omega) (by have := h6.1.1.1; omega)
  · subst e
    refine c_passed h6.1 (fun x' hF => ⟨fun q => absurd q (by decide), fun q => absurd q (by decide), fun q => absurd q (by decide), fun q => absurd q (by decide), fun _ => ?_, fun q => absurd q (by decide), fun q => absurd q (by decide), fun q => absurd q (by decide), fun q => absurd rfl q.2.2.2.2.1⟩)
    exact m_passMany_lp (m0 := m) (fun m' hF' => ⟨rfl, h.fr (pE_pC hF) (pM_pD hF')⟩) 2048 0 m h6.2.1 Fr.rf (by omega) (by have := h6.1.1.1; omega)
  · subst e
    unfold wp_X4_toldCount
    refine ⟨fun q => absurd q (by decide), fun q => absurd q (by decide), fun q => absurd q (by decide), fun q => absurd q (by decide), fun q => absurd q (by decide), fun _ => ?_, fun q => absurd q (by decide), fun q => absurd q (by decide), fun q => absurd rfl q.2.2.2.2.2.1⟩
    have hk := h7.2.1
    have hy := h6.2.2.1
    rw [h7.1, told_kc (by omega)]
    exact ⟨h7.2.2.2.1.symm, h⟩
  · subst e
    refine ⟨fun q => absurd q (by decide), fun q => absurd q (by decide), fun q => absurd q (by decide), fun q => absurd q (by decide), fun q => absurd q (by decide), fun q => absurd q (by decide), fun _ => ?_, fun q => absurd q (by decide), fun q => absurd rfl q.2.2.2.2.2.2.1⟩
    exact ⟨h9.2.1.trans h9.2.2.1.symm, h⟩
  · subst e
    refine ⟨fun q => absurd q (by decide), fun q => absurd q (by decide), fun q => absurd q (by decide), fun q => absurd q (by decide), fun q => absurd q (by decide), fun q => absurd q (by decide), fun q => absurd q (by decide), fun _ => ?_, fun q => absurd rfl q.2.2.2.2.2.2.2⟩
    exact ⟨h8.2.1.2.2.1.trans h8.2.2.2.1.symm, h⟩
  · refine ⟨fun q => absurd q hne.1, fun q => absurd q hne.2.1, fun q => absurd q hne.2.2.1, fun q => absurd q hne.2.2.2.1, fun q => absurd q hne.2.2.2.2.1, fun q => absurd q hne.2.2.2.2.2.1, fun q => absurd q hne.2.2.2.2.2.2.1, fun q => absurd q hne.2.2.2.2.2.2.2, fun _ => ?_⟩
    exact ⟨rfl, h⟩
theorem not_dec {p : Prop} [Decidable p] : (!decide p) = true ↔ ¬ p := by
  rw [Bool.not_eq_true', decide_eq_false_iff_not]
theorem EQ_person_ok : EQ_person INV := by
  intro x m p0 p1 h
  obtain ⟨t, T, W, kf, kn, ⟨tp, tn, h1⟩, h2, ⟨pn, h3⟩, ⟨sd, h4⟩, ⟨sn, nm, nl, h5⟩, h6, h7, ⟨us, ac, o, nw, h8⟩, ⟨rs, rn, h9⟩, h10⟩ := id h
  obtain ⟨z, rfl, hz⟩ := i_of p0
  have hn := h6.1.1.1
  obtain ⟨hT, hW, cT, cW, hw⟩ := id h6.1
  obtain ⟨-, -, mT, mW⟩ := id h6.2.1
  unfold wp_X11_person
  refine c_noPerson cT.1 hn hz ⟨fun q => ?_, fun q => ?_⟩
  · have q' : 0 ≤ z ∧ z < T.1 := Decidable.byContradiction fun z => by rw [decide_eq_false z] at q; cases q
    obtain ⟨p, rfl⟩ : ∃ p : Nat, z = p := ⟨z.toNat, by omega⟩
    have hp : p < T.1 := by omega
    have hi : vp_in (nI p) 8 := N_in ⟨by omega, by omega⟩
    have key : ∀ {Q : Int32 → fz_s → Prop}, (((p1 = 0 → wp_X12_homeOf (nI p) m (fun r3 s4 => Q r3 s4)) ∧ (p1 = 1 → wp_X12_livesIn (nI p) m (fun r5 s6 => Q r5 s6)) ∧ (p1 = 2 → wp_X12_witsOf (nI p) m (fun r7 s8 => Q r7 s8)) ∧ (p1 = 3 → vp_in ((22 + (3 * (nI p))) + p1) 48 ∧ Q (m.1 227 ((22 + (3 * (nI p))) + p1).toNatClampNeg) m) ∧ (p1 = 4 → vp_in ((22 + (3 * (nI p))) + p1) 48 ∧ Q (m.1 227 ((22 + (3 * (nI p))) + p1).toNatClampNeg) m) ∧ (p1 = 5 → wp_X12_awayOf (nI p) m (fun r9 s10 => Q r9 s10)) ∧ (p1 = 6 → wp_X12_doesPass (nI p) m (fun r11 s12 => ((r11 = false → Q 0 s12) ∧ (r11 = true → Q 1 s12)))) ∧ (¬ p1 = 0 ∧ ¬ p1 = 1 ∧ ¬ p1 = 2 ∧ ¬ p1 = 3 ∧ ¬ p1 = 4 ∧ ¬ p1 = 5 ∧ ¬ p1 = 6 → Q (-1) m))) → wp_X12_person (nI p) p1 m Q := by
      intro Q hq
      unfold wp_X12_person
      rw [i_nI p] at hq ⊢
      refine m_isPerson mT.1 hn hz ⟨fun _ => hq, fun q => absurd q' (of_decide_eq_false q)⟩
    rw [← i_nI p, N_cl (by omega)]
    refine ⟨fun e => ⟨hi, ?_⟩, fun e => ⟨hi, ?_⟩, fun e => ⟨hi, ?_⟩, fun e => ⟨hi, ?_⟩, fun e => ⟨hi, ?_⟩, fun e => ⟨hi, ?_⟩, fun e => ?_, fun hne => ?_⟩
    · subst e
      refine key ⟨fun _ => ?_, fun q => absurd q (by decide), fun q => absurd q (by decide), fun q => absurd q (by decide), fun q => absurd q (by decide), fun q => absurd q (by decide), fun q => absurd q (by decide), fun q => absurd rfl q.1⟩
      exact m_home h6.2.1 hp ⟨cT.2.1 p hp, h⟩
    · subst e
      refine key ⟨fun q => absurd q (by decide), fun _ => ?_, fun q => absurd q (by decide), fun q => absurd q (by decide), fun q => absurd q (by decide), fun q => absurd q (by decide), fun q => absurd q (by decide), fun q => absurd rfl q.2.1⟩
      exact m_lives h6.2.1 hp ⟨cW.2.2.2.1 p hp, h⟩
    · subst e
      refine key ⟨fun q => absurd q (by decide), fun q => absurd q (by decide), fun _ => ?_, fun q => absurd q (by decide), fun q => absurd q (by decide), fun q => absurd q (by decide), fun q => absurd q (by decide), fun q => absurd rfl q.2.2.1⟩
      exact m_wits h6.2.1 hp ⟨cW.2.2.1 p hp, h⟩
    · subst e
      refine key ⟨fun q => absurd q (by decide), fun q => absurd q (by decide), fun q => absurd q (by decide), fun _ => ?_, fun q => absurd q (by decide), fun q => absurd q (by decide), fun q => absurd q (by decide), fun q => absurd rfl q.2.2.2.1⟩
      simp (disch := omega) only [show (22 : Int32) + 3 * nI p + 3 = nI (25 + 3 * p) by rw [show (3 : Int32) * nI p = nI (3 * p) from N_mul 3 p, show (22 : Int32) + nI (3 * p) = nI (22 + 3 * p) from N_add 22 _, show nI (22 + 3 * p) + 3 = nI (22 + 3 * p + 3) from N_add _ 3, show 22 + 3 * p + 3 = 25 + 3 * p by omega], N_in, N_cl, true_and]
      exact ⟨(cT.2.2.1 p hp).trans (mT.2.2.1 p hp).symm, h⟩
    · subst e
      refine key ⟨fun q => absurd q (by decide), fun q => absurd q (by decide), fun q => absurd q (by decide), fun q => absurd q (by decide), fun _ => ?_, fun q => absurd q (by decide), fun q => absurd q (by decide), fun q => absurd rfl q.2.2.2.2.1⟩
      simp (disch := omega) only [show (22 : Int32) + 3 * nI p + 4 = nI (26 + 3 * p) by rw [show (3 : Int32) * nI p = nI (3 * p) from N_mul 3 p, show (22 : Int32) + nI (3 * p) = nI (22 + 3 * p) from N_add 22 _, show nI (22 + 3 * p) + 4 = nI (22 + 3 * p + 4) from N_add _ 4, show 22 + 3 * p + 4 = 26 + 3 * p by omega], N_in, N_cl, true_and]
      exact ⟨(cT.2.2.2.1 p hp).trans (mT.2.2.2.1 p hp).symm, h⟩
    · subst e
      refine key ⟨fun q => absurd q (by decide), fun q => absurd q (by decide), fun q => absurd q (by decide), fun q => absurd q (by decide), fun q => absurd q (by decide), fun _ => ?_, fun q => absurd q (by decide), fun q => absurd rfl q.2.2.2.2.2.1⟩
      exact m_awayOf h6.2.1 hp ⟨cW.2.2.2.2.1 p hp, h⟩
    · subst e
      rw [i_nI p]
      refine c_wouldPass h6.1 ⟨by omega, by omega⟩ (fun x' hF => c_bit ?_)
      rw [← i_nI p, passI_n hp]
      refine key ⟨fun q => absurd q (by decide), fun q => absurd q (by decide), fun q => absurd q (by decide), fun q => absurd q (by decide), fun q => absurd q (by decide), fun q => absurd q (by decide), fun _ => ?_, fun q => absurd rfl q.2.2.2.2.2.2⟩
      refine m_pass h6.2.1 hp (fun m' hF' => ⟨fun e => ?_, fun e => ?_⟩)
      · rw [e]; exact ⟨rfl, h.fr (pE_pC hF) (pM_pD hF')⟩
      · rw [e]; exact ⟨rfl, h.fr (pE_pC hF) (pM_pD hF')⟩
    · refine key ⟨fun q => absurd q hne.1, fun q => absurd q hne.2.1, fun q => absurd q hne.2.2.1, fun q => absurd q hne.2.2.2.1, fun q => absurd q hne.2.2.2.2.1, fun q => absurd q hne.2.2.2.2.2.1, fun q => absurd q hne.2.2.2.2.2.2, fun _ => ?_⟩
      exact ⟨rfl, h⟩
  · have q' := not_dec.mp q
    unfold wp_X12_person
    exact m_isPerson mT.1 hn hz ⟨fun q => absurd (of_decide_eq_true q) q', fun _ => ⟨rfl, h⟩⟩
theorem nv_f {t : Bool} {z : Int} (q : (!(t && decide (0 ≤ z ∧ z < 2))) = false) : t = true ∧ 0 ≤ z ∧ z < 2 := by
  rw [Bool.not_eq_false', Bool.and_eq_true] at q
  exact ⟨q.1, of_decide_eq_true q.2⟩
theorem nv_t {t : Bool} {z : Int} (q : (!(t && decide (0 ≤ z ∧ z < 2))) = true) : (t && decide (0 ≤ z ∧ z < 2)) = false := by
  rw [Bool.not_eq_true'] at q
  exact q
theorem EQ_does_ok : EQ_does INV := by
  intro x m p0 p1 h
  obtain ⟨t, T, W, kf, kn, ⟨tp, tn, h1⟩, h2, ⟨pn, h3⟩, ⟨sd, h4⟩, ⟨sn, nm, nl, h5⟩, h6, h7, ⟨us, ac, o, nw, h8⟩, ⟨rs, rn, h9⟩, h10⟩ := id h
  obtain ⟨z, rfl, hz⟩ := i_of p0
  obtain ⟨y, rfl, hy⟩ := i_of p1
  have hn := h6.1.1.1
  obtain ⟨hT, hW, cT, cW, hw⟩ := id h6.1
  unfold wp_X11_does wp_X12_does
  rw [i_64 hy]
  refine c_noPerson cT.1 hn hz ⟨fun q => ?_, fun q => ?_⟩
  · have q' := not_dec.mp q
    exact m_isPerson h6.2.1.2.2.1.1 hn hz ⟨fun _ => ⟨rfl, h⟩, fun q => absurd (of_decide_eq_true q) q'⟩
  have q' : 0 ≤ z ∧ z < T.1 := Decidable.byContradiction fun z => by rw [decide_eq_false z] at q; cases q
  refine c_noVillage h5.1 hy ⟨fun q2 => ?_, fun q2 => ?_⟩
  · have q3 := nv_f q2
    obtain ⟨p, rfl⟩ : ∃ p : Nat, z = p := ⟨z.toNat, by omega⟩
    obtain ⟨v, rfl⟩ : ∃ v : Nat, y = v := ⟨y.toNat, by omega⟩
    rw [← i_nI p, ← i_nI v, show (2 : Int32) = nI 2 from rfl]
    refine c_ruled hT hW cT cW hw (by omega) (by omega) (by omega) (by omega) (fun x' hF => ?_)
    have hb := rv_bd (r := 2) hT hW (by omega) (show p < T.1 by omega) (show v < 2 by omega)
    unfold bd at hb
    rw [i_64 ⟨by omega, by omega⟩, i_nI p]
    refine m_isPerson h6.2.1.2.2.1.1 hn hz ⟨fun q => absurd q' (of_decide_eq_false q), fun _ => ?_⟩
    refine m_isVillage h5.2.1 (lR_i hy) ?_
    rw [q3.1, decide_eq_true q3.2, ← i_nI p]
    refine ⟨fun q => (by cases q), fun _ => ?_⟩
    exact m_does h6.2.1 (by omega) (by omega) (fun m' hF' => ⟨rfl, h.fr (pE_pC hF) (pM_pD hF')⟩)
  · refine m_isPerson h6.2.1.2.2.1.1 hn hz ⟨fun q => absurd q' (of_decide_eq_false q), fun _ => ?_⟩
    refine m_isVillage h5.2.1 (lR_i hy) ?_
    rw [nv_t q2]
    exact ⟨fun _ => ⟨rfl, h⟩, fun q => (by cases q)⟩
theorem EQ_village_ok : EQ_village INV := by
  intro x m p0 p1 h
  obtain ⟨t, T, W, kf, kn, ⟨tp, tn, h1⟩, h2, ⟨pn, h3⟩, ⟨sd, h4⟩, ⟨sn, nm, nl, h5⟩, h6, h7, ⟨us, ac, o, nw, h8⟩, ⟨rs, rn, h9⟩, h10⟩ := id h
  obtain ⟨z, rfl, hz⟩ := i_of p0
  have hn := h6.1.1.1
  obtain ⟨hT, hW, cT, cW, hw⟩ := id h6.1
  obtain ⟨-, -, mT, mW⟩ := id h6.2.1
  unfold wp_X11_village
  refine c_noVillage h5.1 hz ⟨fun q => ?_, fun q => ?_⟩
  · have q3 := nv_f q
    have hne := h5.2.2.1.2 q3.1
    obtain ⟨v, rfl⟩ : ∃ v : Nat, z = v := ⟨z.toNat, by omega⟩
    have hv : v < 2 := by omega
    have hi : vp_in (nI v) 2 := N_in ⟨by omega, by omega⟩
    have key : ∀ {Q : Int32 → fz_s → Prop}, (∀ m', Fr pM m m' → MM T W m' → ((p1 = 0 → vp_in ((1 + (2 * nI v)) + p1) 150 ∧ Q (m'.1 232 ((1 + (2 * nI v)) + p1).toNatClampNeg) m') ∧ (p1 = 1 → vp_in ((1 + (2 * nI v)) + p1) 150 ∧ Q (m'.1 232 ((1 + (2 * nI v)) + p1).toNatClampNeg) m') ∧ (p1 = 2 → wp_X12_liversOf (nI v) m' (fun r5 s6 => Q r5 s6)) ∧ (p1 = 3 → wp_X12_liversOf (nI v) m' (fun r7 s8 => wp_X12_guestsOf (nI v) s8 (fun r9 s10 => Q (r7 - r9) s10))) ∧ (p1 = 4 → Q (iI (snt T W v)) m') ∧ (p1 = 5 → ((iI (snt T W v) = (-1) → Q 0 m') ∧ (¬ iI (snt T W v) = (-1) → wp_X12_doesPass (iI (snt T W v)) m' (fun r11 s12 => ((r11 = false → Q 0 s12) ∧ (r11 = true → Q 1 s12)))))) ∧ (¬ p1 = 0 ∧ ¬ p1 = 1 ∧ ¬ p1 = 2 ∧ ¬ p1 = 3 ∧ ¬ p1 = 4 ∧ ¬ p1 = 5 → Q (-1) m'))) → wp_X12_village (nI v) p1 m Q := by
      intro Q hq
      unfold wp_X12_village
      rw [N_64 (by omega)]
      refine m_isVillage h5.2.1 (lR_i hz) ?_
      rw [q3.1, decide_eq_true q3.2]
      refine ⟨fun _ => ?_, fun q => (by cases q)⟩
      exact m_sent h6.2.1 hv (fun m' hF' => hq m' hF' (h6.2.1.pM hF'))
    rw [← i_nI v, N_cl (by omega)]
    refine ⟨fun e => ⟨hi, ?_⟩, fun e => ⟨hi, ?_⟩, fun e => ?_, fun e => ?_, fun e => ?_, fun e => ?_, fun hne => ?_⟩
    · subst e
      refine key (fun m' hF' hM' => ⟨fun _ => ?_, fun q => absurd q (by decide), fun q => absurd q (by decide), fun q => absurd q (by decide), fun q => absurd q (by decide), fun q => absurd q (by decide), fun q => absurd rfl q.1⟩)
      simp (disch := omega) only [show (1 : Int32) + 2 * nI v + 0 = nI (1 + 2 * v) by rw [show (2 : Int32) * nI v = nI (2 * v) from N_mul 2 v, show (1 : Int32) + nI (2 * v) = nI (1 + 2 * v) from N_add 1 _]; exact N_add _ 0, N_in, N_cl, true_and]
      exact ⟨(cW.1 v hv).trans (hM'.2.2.2.1 v hv).symm, h.fr Fr.rf (pM_pD hF')⟩
    · subst e
      refine key (fun m' hF' hM' => ⟨fun q => absurd q (by decide), fun _ => ?_, fun q => absurd q (by decide), fun q => absurd q (by decide), fun q => absurd q (by decide), fun q => absurd q (by decide), fun q => absurd rfl q.2.1⟩)
      simp (disch := omega) only [show (1 : Int32) + 2 * nI v + 1 = nI (2 + 2 * v) by rw [show (2 : Int32) * nI v = nI (2 * v) from N_mul 2 v, show (1 : Int32) + nI (2 * v) = nI (1 + 2 * v) from N_add 1 _, nI_1, show 1 + 2 * v + 1 = 2 + 2 * v by omega], N_in, N_cl, true_and]
      exact ⟨(cW.2.1 v hv hne).trans (hM'.2.2.2.2.1 v hv).symm, h.fr Fr.rf (pM_pD hF')⟩
    · subst e
      refine c_living hv h6.1 (key (fun m' hF' hM' => ⟨fun q => absurd q (by decide), fun q => absurd q (by decide), fun _ => ?_, fun q => absurd q (by decide), fun q => absurd q (by decide), fun q => absurd q (by decide), fun q => absurd rfl q.2.2.1⟩))
      exact m_livers hv hM' ⟨rfl, h.fr Fr.rf (pM_pD hF')⟩
    · subst e
      refine c_own hv h6.1 (key (fun m' hF' hM' => ⟨fun q => absurd q (by decide), fun q => absurd q (by decide), fun q => absurd q (by decide), fun _ => ?_, fun q => absurd q (by decide), fun q => absurd q (by decide), fun q => absurd rfl q.2.2.2.1⟩))
      have hg := gst_eq T W v
      refine m_livers hv hM' (m_guests hv hM' ⟨?_, h.fr Fr.rf (pM_pD hF')⟩)
      rw [N_sub (by omega), hg, Nat.add_sub_cancel]
    · subst e
      refine c_toSend h6.1 hv (fun x' hF => key (fun m' hF' hM' => ⟨fun q => absurd q (by decide), fun q => absurd q (by decide), fun q => absurd q (by decide), fun q => absurd q (by decide), fun _ => ?_, fun q => absurd q (by decide), fun q => absurd rfl q.2.2.2.2.1⟩))
      exact ⟨rfl, h.fr (pE_pC hF) (pM_pD hF')⟩
    · subst e
      have r0 := snt_r T W v
      refine c_toSend h6.1 hv (fun x' hF => c_wouldPass (h6.1.fr hF) ⟨by omega, by omega⟩ (fun x2 hF2 => c_bit (key (fun m' hF' hM' => ⟨fun q => absurd q (by decide), fun q => absurd q (by decide), fun q => absurd q (by decide), fun q => absurd q (by decide), fun q => absurd q (by decide), fun _ => ?_, fun q => absurd rfl q.2.2.2.2.2⟩))))
      have e0 : (iI (snt T W v) = -1) ↔ snt T W v = -1 := i_eq (b := -1) ⟨⟨by omega, by omega⟩, by omega, by omega⟩
      rw [e0]
      by_cases c : snt T W v = -1
      · refine bt c ⟨?_, h.fr ((pE_pC hF).tr (pE_pC hF2)) (pM_pD hF')⟩
        rw [show passI T W (snt T W v) = false by unfold passI; rw [decide_eq_false (by omega)]; rfl]
        rfl
      · refine bf c ?_
        obtain ⟨a, ha⟩ : ∃ a : Nat, snt T W v = a := ⟨(snt T W v).toNat, by omega⟩
        have ha' : a < T.1 := by omega
        rw [ha, ← i_nI a, passI_n ha']
        refine m_pass hM' ha' (fun m2 hF2' => ⟨fun e => ?_, fun e => ?_⟩)
        · rw [e]; exact ⟨rfl, h.fr ((pE_pC hF).tr (pE_pC hF2)) ((pM_pD hF').tr (pM_pD hF2'))⟩
        · rw [e]; exact ⟨rfl, h.fr ((pE_pC hF).tr (pE_pC hF2)) ((pM_pD hF').tr (pM_pD hF2'))⟩
    · refine key (fun m' hF' hM' => ⟨fun q => absurd q hne.1, fun q => absurd q hne.2.1, fun q => absurd q hne.2.2.1, fun q => absurd q hne.2.2.2.1, fun q => absurd q hne.2.2.2.2.1, fun q => absurd q hne.2.2.2.2.2, fun _ => ?_⟩)
      exact ⟨rfl, h.fr Fr.rf (pM_pD hF')⟩
  · unfold wp_X12_village
    rw [i_64 hz]
    refine m_isVillage h5.2.1 (lR_i hz) ?_
    rw [nv_t q]
    exact ⟨fun q => (by cases q), fun _ => ⟨rfl, h⟩⟩
theorem EQ_kept_ok : EQ_kept INV := by
  intro x m p0 p1 h
  obtain ⟨t, T, W, kf, kn, ⟨tp, tn, h1⟩, h2, ⟨pn, h3⟩, ⟨sd, h4⟩, ⟨sn, nm, nl, h5⟩, h6, h7, ⟨us, ac, o, nw, h8⟩, ⟨rs, rn, h9⟩, h10⟩ := id h
  obtain ⟨z, rfl, hz⟩ := i_of p0
  obtain ⟨y, rfl, hy⟩ := i_of p1
  have hk := h7.2.1
  have hyr := h6.2.2.1
  have hc := kc_le kn
  unfold wp_X11_kept wp_X4_toldOf wp_X4_toldCount wp_X12_kept
  dsimp only
  rw [h7.1, told_kc (by omega), show m.1 232 (29 : Int32).toNatClampNeg = nI (kc kn) from h7.2.2.2.1, show (nI (kc kn) - 1).toInt64 = lI ((kc kn : Int) - 1) by rw [i_nI, show iI (kc kn : Int) - 1 = iI ((kc kn : Int) - 1) from i_sub _ 1, i_64 ⟨by omega, by omega⟩], i_64 hz, i_64 hy]
  have e1 : (iI z < 0) ↔ z < 0 := i_lt (b := 0) ⟨hz, by omega, by omega⟩
  have e2 : (iI z < iI (kc kn)) ↔ z < kc kn := i_lt ⟨hz, by omega, by omega⟩
  rw [i_nI (kc kn), e1, e2]
  have lz : lR 0 := by unfold lR; omega
  have l2 : lR 2 := by unfold lR; omega
  have lk : lR ((kc kn : Int) - 1) := by unfold lR; omega
  by_cases c1 : z < 0
  · exact bt c1 (m_isIn (b := 0) (lR_i hz) lz lk ⟨fun _ => ⟨rfl, h⟩, fun q => by have := of_decide_eq_true q; omega⟩)
  refine bf c1 ?_
  by_cases c2 : z < kc kn
  · refine bt c2 ?_
    obtain ⟨k, rfl⟩ : ∃ k : Nat, z = k := ⟨z.toNat, by omega⟩
    have hk2 := h7.2.2.2.2 k (by omega)
    have hk3 := h7.2.2.1 (kn - kc kn + k) (by omega)
    intro x3 e3
    rw [show nI kn - iI (kc kn : Int) + iI (k : Int) = nI (kn - kc kn + k) by rw [← i_nI, ← i_nI, N_sub (by omega), N_add]] at e3
    subst e3
    have hi : vp_in (nI (kn - kc kn + k)) 1000 := N_in ⟨by omega, by omega⟩
    rw [N_cl (by omega)]
    have key : ∀ r : Int32, (decide (0 ≤ y ∧ y ≤ 2) = false → r = -1 ∧ INV x m) → (decide (0 ≤ y ∧ y ≤ 2) = true → vp_in ((30 + (3 * iI (k : Int))) + iI y) 150 ∧ r = m.1 232 ((30 + (3 * iI (k : Int))) + iI y).toNatClampNeg ∧ INV x m) → wp_X12_isIn (lI (k : Int)) 0 (lI ((kc kn : Int) - 1)) m (fun r1 s2 => ((r1 = false → r = -1 ∧ INV x s2) ∧ (r1 = true → wp_X12_isIn (lI y) 0 2 s2 (fun r3 s4 => ((r3 = false → r = -1 ∧ INV x s4) ∧ (r3 = true → vp_in ((30 + (3 * iI (k : Int))) + iI y) 150 ∧ r = s4.1 232 ((30 + (3 * iI (k : Int))) + iI y).toNatClampNeg ∧ INV x s4)))))) := by
      intro r a b
      exact m_isIn (b := 0) (lR_i hz) lz lk ⟨fun q => absurd (of_decide_eq_false q) (by omega), fun _ => m_isIn (b := 0) (c := 2) (lR_i hy) lz l2 ⟨a, b⟩⟩
    have ek : ∀ j : Nat, (30 : Int32) + 3 * iI (k : Int) + iI (j : Int) = nI (30 + 3 * k + j) := fun j => by
      rw [← i_nI, ← i_nI, show (3 : Int32) * nI k = nI (3 * k) from N_mul 3 k, show (30 : Int32) + nI (3 * k) = nI (30 + 3 * k) from N_add 30 _, N_add]
    refine ⟨fun e => ⟨hi, ?_⟩, fun e => ⟨hi, ?_⟩, fun e => ⟨hi, ?_⟩, fun hne => ?_⟩
    · have ey : y = 0 := (i_eq (b := 0) ⟨hy, by omega, by omega⟩).mp e
      subst ey
      refine key _ (fun q => absurd (of_decide_eq_false q) (by omega)) (fun _ => ?_)
      rw [show (30 : Int32) + 3 * iI (k : Int) + iI 0 = nI (30 + 3 * k) from ek 0, N_cl (by omega)]
      exact ⟨N_in ⟨by omega, by omega⟩, hk3.1.trans hk2.1.symm, h⟩
    · have ey : y = 1 := (i_eq (b := 1) ⟨hy, by omega, by omega⟩).mp e
      subst ey
      refine key _ (fun q => absurd (of_decide_eq_false q) (by omega)) (fun _ => ?_)
      rw [show (30 : Int32) + 3 * iI (k : Int) + iI 1 = nI (30 + 3 * k + 1) from ek 1, show 30 + 3 * k + 1 = 31 + 3 * k by omega, N_cl (by omega)]
      exact ⟨N_in ⟨by omega, by omega⟩, hk3.2.1.trans hk2.2.1.symm, h⟩
    · have ey : y = 2 := (i_eq (b := 2) ⟨hy, by omega, by omega⟩).mp e
      subst ey
      refine key _ (fun q => absurd (of_decide_eq_false q) (by omega)) (fun _ => ?_)
      rw [show (30 : Int32) + 3 * iI (k : Int) + iI 2 = nI (30 + 3 * k + 2) from ek 2, show 30 + 3 * k + 2 = 32 + 3 * k by omega, N_cl (by omega)]
      exact ⟨N_in ⟨by omega, by omega⟩, hk3.2.2.trans hk2.2.2.symm, h⟩
    · refine key _ (fun q => ⟨rfl, h⟩) (fun q => ?_)
      have q' := of_decide_eq_true q
      rcases (show y = 0 ∨ y = 1 ∨ y = 2 by omega) with rfl | rfl | rfl
      · exact absurd rfl hne.1
      · exact absurd rfl hne.2.1
      · exact absurd rfl hne.2.2
  · exact bf c2 (m_isIn (b := 0) (lR_i hz) lz lk ⟨fun _ => ⟨rfl, h⟩, fun q => by have := of_decide_eq_true q; omega⟩)

def CC (T : TT) (W : WW) (w : Nat) (x : fz_s) : Prop := TV T ∧ WV T W ∧ CT T x ∧ CW T W w x ∧ 35 ≤ w
theorem CC.fr {T : TT} {W : WW} {w : Nat} {x x' : fz_s} (h : CC T W w x) (hF : Fr pE x x') : CC T W w x' := by
  obtain ⟨h1, h2, h3, h4, h5⟩ := h
  exact ⟨h1, h2, h3.cong (hF.i 6 12 (pE_f (by omega))) (fun a ha j => hF.i a j (pE_f (by omega))), h4.cong (fun a j ha _ => hF.i a j (pE_f (by omega))), h5⟩
def own (T : TT) (W : WW) (v p : Nat) : Bool := decide (T.2.1 p = v) && !W.2.2.2.1 p
def pass (T : TT) (W : WW) (p : Nat) : Bool := decide (rv T W 1 p (lv T W p) ≠ 0)
def passI (T : TT) (W : WW) (z : Int) : Bool := decide (0 ≤ z ∧ z < T.1) && pass T W z.toNat
def sentS (T : TT) (W : WW) (v : Nat) : Nat → Int × Int
  | 0 => (-1, 0)
  | k + 1 => if own T W v k = true then (if (sentS T W v k).1 = -1 ∨ (sentS T W v k).2 < rv T W 0 k v then ((k : Int), rv T W 0 k v) else sentS T W v k) else sentS T W v k
def snt (T : TT) (W : WW) (v : Nat) : Int := (sentS T W v T.1).1
theorem own_lv {T : TT} {W : WW} {v p : Nat} (hT : TV T) (hp : p < T.1) : own T W v p = true ↔ T.2.1 p = v ∧ lv T W p = v := by
  have h1 := hT.2.1 p hp
  unfold own lv
  rw [Bool.and_eq_true, decide_eq_true_eq, Bool.not_eq_true']
  cases W.2.2.2.1 p with
  | false => simp
  | true =>
    simp
    omega
theorem c_canSend {T : TT} {W : WW} {w p v : Nat} {x : fz_s} (h : CC T W w x) (hp : p < T.1) (hv : v < 2) {Q : Bool → fz_s → Prop} (hq : Q (own T W v p) x) : wp_X0_canSend w (nI p) (nI v) x Q := by
  obtain ⟨hT, hW, cT, cW, hw⟩ := h
  have hn := hT.1
  have h1 := hT.2.1 p hp
  have h2 := lv_le (W := W) hT hp
  have ho := own_lv (W := W) (v := v) hT hp
  unfold wp_X0_canSend
  rw [N_cl (by omega), cT.2.1 p hp, cW.2.2.2.1 p hp, N_eq ⟨by omega, by omega⟩, N_eq ⟨by omega, by omega⟩]
  refine ⟨N_in ⟨by omega, by omega⟩, fun q => ?_, fun q => ⟨N_in ⟨by omega, by omega⟩, fun q2 => ?_, fun q2 => ?_⟩⟩
  · have : own T W v p = false := Bool.eq_false_iff.mpr (fun z => q (ho.mp z).1)
    rw [← this]; exact hq
  · have : own T W v p = false := Bool.eq_false_iff.mpr (fun z => q2 (ho.mp z).2)
    rw [← this]; exact hq
  · have : own T W v p = true := ho.mpr ⟨q, q2⟩
    rw [← this]; exact hq
theorem rv_bd {T : TT} {W : WW} {r p v : Nat} (hT : TV T) (hW : WV T W) (hr : r < 5) (hp : p < T.1) (hv : v < 2) : bd (rv T W r p v) := (rv_dn hT hr (fun k _ => env_bd hT hW hp hv k)).1
theorem rv_01 {T : TT} {W : WW} {r p v : Nat} (hT : TV T) (hW : WV T W) (hr : r = 1 ∨ r = 4) (hp : p < T.1) (hv : v < 2) : rv T W r p v = 0 ∨ rv T W r p v = 1 := (rv_dn hT (by omega) (fun k _ => env_bd hT hW hp hv k)).2 (decide_eq_true hr)
theorem c_wouldPass {T : TT} {W : WW} {w : Nat} {z : Int} {x : fz_s} (h : CC T W w x) (hz : -1 ≤ z ∧ z < 8) {Q : Bool → fz_s → Prop} (hq : ∀ x', Fr pE x x' → Q (passI T W z) x') : wp_X0_wouldPass w (iI z) x Q := by
  obtain ⟨hT, hW, cT, cW, hw⟩ := id h
  have hn := hT.1
  unfold wp_X0_wouldPass
  rw [cT.1]
  by_cases c1 : z < 0
  · refine bt (by simp (disch := omega) only [i_lit, i_nI, i_add, i_sub, i_mul, i_neg, i_le, i_lt, i_eq, i_in, i_cl] <;> omega) ?_
    have : passI T W z = false := by unfold passI; rw [decide_eq_false (by omega)]; rfl
    rw [← this]; exact hq x Fr.rf
  refine bf (by simp (disch := omega) only [i_lit, i_nI, i_add, i_sub, i_mul, i_neg, i_le, i_lt, i_eq, i_in, i_cl] <;> omega) ?_
  by_cases c2 : (T.1 : Int) ≤ z
  · refine bt (by simp (disch := omega) only [i_lit, i_nI, i_add, i_sub, i_mul, i_neg, i_le, i_lt, i_eq, i_in, i_cl] <;> omega) ?_
    have : passI T W z = false := by unfold passI; rw [decide_eq_false (by omega)]; rfl
    rw [← this]; exact hq x Fr.rf
  refine bf (by simp (disch := omega) only [i_lit, i_nI, i_add, i_sub, i_mul, i_neg, i_le, i_lt, i_eq, i_in, i_cl] <;> omega) ?_
  obtain ⟨p, rfl⟩ : ∃ p : Nat, z = p := ⟨z.toNat, by omega⟩
  have hp : p < T.1 := by omega
  have h2 := lv_le (W := W) hT hp
  rw [← i_nI]
  refine ⟨N_in ⟨by omega, by omega⟩, ?_⟩
  rw [N_cl (by omega), cW.2.2.2.1 p hp, show (1 : Int32) = nI 1 from rfl]
  refine c_ruled hT hW cT cW hw (by omega) (by omega) hp (by omega) (fun x' hF => ?_)
  have hb := rv_bd (r := 1) hT hW (by omega) hp (show lv T W p < 2 by omega)
  unfold bd at hb
  have e0 : (iI (rv T W 1 p (lv T W p)) = 0) ↔ rv T W 1 p (lv T W p) = 0 := i_eq (b := 0) ⟨⟨by omega, by omega⟩, by omega, by omega⟩
  have hP : passI T W p = decide (rv T W 1 p (lv T W p) ≠ 0) := by
    unfold passI pass
    rw [decide_eq_true (by omega), Bool.true_and, Int.toNat_natCast]
  by_cases c3 : rv T W 1 p (lv T W p) = 0
  · refine bt (e0.mpr c3) ?_
    rw [← show passI T W p = false by rw [hP]; exact decide_eq_false (fun q => q c3)]
    exact hq x' hF
  · refine bf (fun q => c3 (e0.mp q)) ?_
    rw [← show passI T W p = true by rw [hP]; exact decide_eq_true c3]
    exact hq x' hF
theorem passI_n {T : TT} {W : WW} {p : Nat} (hp : p < T.1) : passI T W p = pass T W p := by
  unfold passI
  rw [decide_eq_true (by omega), Bool.true_and, Int.toNat_natCast]
theorem sentS_r (T : TT) (W : WW) (v : Nat) : ∀ k, -1 ≤ (sentS T W v k).1 ∧ (sentS T W v k).1 < k ∧ ((sentS T W v k).1 ≠ -1 → own T W v (sentS T W v k).1.toNat = true)
  | 0 => ⟨by show (-1 : Int) ≤ -1; omega, by show (-1 : Int) < 0; omega, fun h => absurd rfl h⟩
  | k + 1 => by
    have ih := sentS_r T W v k
    unfold sentS
    split
    · split
      · rename_i ho _
        refine ⟨by show (-1 : Int) ≤ k; omega, by show (k : Int) < (k + 1 : Nat); omega, fun _ => ?_⟩
        show own T W v (k : Int).toNat = true
        rw [Int.toNat_natCast]
        exact ho
      · exact ⟨ih.1, by omega, ih.2.2⟩
    · exact ⟨ih.1, by omega, ih.2.2⟩
theorem sentS_bd {T : TT} {W : WW} {v : Nat} (hT : TV T) (hW : WV T W) (hv : v < 2) : ∀ k, k ≤ T.1 → bd (sentS T W v k).2
  | 0, _ => by show bd 0; unfold bd; omega
  | k + 1, h => by
    have ih := sentS_bd hT hW hv k (by omega)
    unfold sentS
    split
    · split
      · exact rv_bd hT hW (by omega) (by omega) hv
      · exact ih
    · exact ih
theorem c_toSend_lp {T : TT} {W : WW} {w v : Nat} (hv : v < 2) {x0 : fz_s} {Q : Int32 → fz_s → Prop} (hq : ∀ x', Fr pE x0 x' → Q (iI (snt T W v)) x') : ∀ (n k : Nat) (x : fz_s), CC T W w x → Fr pE x0 x → k ≤ T.1 → T.1 < n + k → lp_X0_toSend_8 w Q n (nI v) (iI (sentS T W v k).1) (iI (sentS T W v k).2) (nI k) x
  | 0, k, x, _, _, h1, h2 => absurd h2 (by omega)
  | n + 1, k, x, h, hF, h1, h2 => by
    obtain ⟨hT, hW, cT, cW, hw⟩ := id h
    have hn := hT.1
    have r1 := sentS_r T W v k
    have r2 := sentS_bd hT hW hv k h1
    unfold bd at r2
    show nd_X0_toSend_8 w (lp_X0_toSend_8 w Q n) Q (nI v) (iI (sentS T W v k).1) (iI (sentS T W v k).2) (nI k) x
    unfold nd_X0_toSend_8
    rw [cT.1]
    by_cases hk : k = T.1
    · subst hk
      exact bt (by simp (disch := omega) only [N_lit, N_add, N_mul, N_sub, N_addneg, N_neg1, N_addm, N_le, N_lt, N_eq, N_in, N_cl, N_ne, N_ne', N_ltm, N_mlt, N_lem] <;> omega) (hq x hF)
    refine bf (by simp (disch := omega) only [N_lit, N_add, N_mul, N_sub, N_addneg, N_neg1, N_addm, N_le, N_lt, N_eq, N_in, N_cl, N_ne, N_ne', N_ltm, N_mlt, N_lem] <;> omega) (c_canSend h (by omega) hv ?_)
    have e1 : nI k + 1 = nI (k + 1) := nI_1 k
    rw [e1]
    refine ⟨fun q => ?_, fun q => ?_⟩
    · intro x3 e3
      subst e3
      have : sentS T W v (k + 1) = sentS T W v k := by
        conv => lhs; unfold sentS
        rw [if_neg (by rw [q]; decide)]
      rw [← this]
      exact c_toSend_lp hv hq n (k + 1) x h hF (by omega) (by omega)
    · rw [show (0 : Int32) = nI 0 from rfl]
      refine c_ruled hT hW cT cW hw (by omega) (by omega) (by omega) hv (fun x' hF' => ?_)
      have r3 := rv_bd (r := 0) hT hW (by omega) (show k < T.1 by omega) hv
      unfold bd at r3
      have e2 : (iI (sentS T W v k).1 = -1) ↔ (sentS T W v k).1 = -1 := i_eq (b := -1) ⟨⟨by omega, by omega⟩, by omega, by omega⟩
      have e4 : (iI (rv T W 0 k v) ≤ iI (sentS T W v k).2) ↔ rv T W 0 k v ≤ (sentS T W v k).2 := i_le ⟨⟨by omega, by omega⟩, by omega, by omega⟩
      have new : ((sentS T W v k).1 = -1 ∨ (sentS T W v k).2 < rv T W 0 k v) → ∀ x6 : Int32, x6 = nI (k + 1) → lp_X0_toSend_8 w Q n (nI v) (nI k) (iI (rv T W 0 k v)) x6 x' := by
        intro hc x6 e6
        subst e6
        have : sentS T W v (k + 1) = ((k : Int), rv T W 0 k v) := by
          conv => lhs; unfold sentS
          rw [if_pos q, if_pos hc]
        have z := c_toSend_lp hv hq n (k + 1) x' (h.fr hF') (hF.tr hF') (by omega) (by omega)
        rw [this] at z
        rw [i_nI k]
        exact z
      refine ⟨fun q1 => new (Or.inl (e2.mp q1)), fun q1 => ⟨fun q2 => ?_, fun q2 => new (Or.inr (Int.not_le.mp (fun z => q2 (e4.mpr z))))⟩⟩
      intro x7 e7
      subst e7
      have : sentS T W v (k + 1) = sentS T W v k := by
        conv => lhs; unfold sentS
        rw [if_pos q, if_neg]
        rintro (z | z)
        · exact q1 (e2.mpr z)
        · have := e4.mp q2; omega
      rw [← this]
      exact c_toSend_lp hv hq n (k + 1) x' (h.fr hF') (hF.tr hF') (by omega) (by omega)
theorem c_toSend {T : TT} {W : WW} {w v : Nat} {x : fz_s} (h : CC T W w x) (hv : v < 2) {Q : Int32 → fz_s → Prop} (hq : ∀ x', Fr pE x x' → Q (iI (snt T W v)) x') : wp_X0_toSend w (nI v) x Q := by
  have hn := h.1.1
  exact c_toSend_lp hv hq 2048 0 x h Fr.rf (by omega) (by omega)

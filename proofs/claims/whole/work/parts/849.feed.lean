/-! FEED, LETTER -/
def byN (y : Int32) : Nat := y.toBitVec.toNat % 256
theorem byN_lt (y : Int32) : byN y < 256 := by
  unfold byN
  omega
theorem and_by (y : Int32) : y &&& 255 = nI (byN y) := by
  refine Int32.toBitVec_inj.mp ?_
  show y.toBitVec &&& (255#32) = BitVec.ofNat 32 (byN y)
  refine BitVec.eq_of_toNat_eq ?_
  have h2 : y.toBitVec.toNat &&& 255 = y.toBitVec.toNat % 256 := Nat.and_two_pow_sub_one_eq_mod y.toBitVec.toNat 8
  have h3 := byN_lt y
  have h4 : (BitVec.ofNat 32 (byN y)).toNat = byN y % 2 ^ 32 := BitVec.toNat_ofNat _ _
  have h5 : (255#32 : BitVec 32).toNat = 255 := rfl
  rw [BitVec.toNat_and, h5, h4, h2, Nat.mod_eq_of_lt (show byN y < 2 ^ 32 from Nat.lt_trans h3 (by decide))]
  rfl
theorem low8 : ∀ i, i < 32 → 8 ≤ i → (255#32 : BitVec 32).getLsbD i = false := by decide +kernel
theorem sh_bv (x : BitVec 32) (s : Nat) (hs : s ≤ 24) : (x.sshiftRight s) &&& 255#32 = (x >>> s) &&& 255#32 := by
  refine BitVec.eq_of_getLsbD_eq (fun i hi => ?_)
  rw [BitVec.getLsbD_and, BitVec.getLsbD_and, BitVec.getLsbD_sshiftRight, BitVec.getLsbD_ushiftRight]
  by_cases c : i < 8
  · rw [if_pos (by omega), decide_eq_false (by omega)]
    rfl
  · rw [low8 i hi (by omega), Bool.and_false, Bool.and_false]
def shf (x : Int32) (i : Nat) : Int32 := x >>> (nI (24 - 8 * i) &&& 31)
theorem c_sh (x : Int32) : ∀ i, i < 4 → ((x.toUInt32 >>> ((nI (24 - 8 * i)).toUInt32 &&& Int32.toUInt32 31)).toInt32) &&& 255 = shf x i &&& 255
  | 0, _ => Int32.toBitVec_inj.mp (sh_bv x.toBitVec 24 (by omega)).symm
  | 1, _ => Int32.toBitVec_inj.mp (sh_bv x.toBitVec 16 (by omega)).symm
  | 2, _ => Int32.toBitVec_inj.mp (sh_bv x.toBitVec 8 (by omega)).symm
  | 3, _ => Int32.toBitVec_inj.mp (sh_bv x.toBitVec 0 (by omega)).symm
  | k + 4, h => absurd h (by omega)
def fdF (tp : Nat → Nat) (tn : Nat) (g : Nat → Nat) : Nat → (Nat → Nat)
  | 0 => tp
  | k + 1 => upf (fdF tp tn g k) (tn + k) (g k)
theorem fdF_lt {tp : Nat → Nat} {tn : Nat} {g : Nat → Nat} (h : ∀ j, tp j < 256) (hg : ∀ j, g j < 256) : ∀ k j, fdF tp tn g k j < 256
  | 0, j => h j
  | k + 1, j => by
    unfold fdF upf
    split
    · exact hg k
    · exact fdF_lt h hg k j
def FDc (f : Nat → Nat) (n : Nat) (x : fz_s) : Prop := x.1 2 1 = nI n ∧ ∀ j, j < 1600 → x.1 3 j = nI (f j)
def FDm (f : Nat → Nat) (n : Nat) (x : fz_s) : Prop := x.1 196 1 = nI n ∧ ∀ j, j < 1600 → x.1 197 j = nI (f j)
theorem c_tape_lp {tp : Nat → Nat} {tn k0 : Nat} {g : Nat → Nat} {v : Int32} (hg : ∀ i, i < 4 → g (k0 + i) = byN (shf v i)) (hk : tn + k0 + 4 ≤ 1600) {x0 : fz_s} {Q : fz_s → Prop} (hq : ∀ x', FDc (fdF tp tn g (k0 + 4)) (tn + (k0 + 4)) x' → Fr pT1 x0 x' → Q x') : ∀ (d n i : Nat) (x : fz_s), i + d = 4 → d < n → FDc (fdF tp tn g (k0 + i)) (tn + (k0 + i)) x → Fr pT1 x0 x → lp_X11_tapeNumber_3 Q n v (iI (24 - 8 * (i : Int))) x
  | d, 0, i, x, _, h2, _, _ => absurd h2 (by omega)
  | 0, n + 1, i, x, hi, _, h, hF => by
    have hi4 : i = 4 := by omega
    subst hi4
    show nd_X11_tapeNumber_3 (lp_X11_tapeNumber_3 Q n) Q v (iI (24 - 8 * ((4 : Nat) : Int))) x
    unfold nd_X11_tapeNumber_3
    exact bt (by decide +kernel) (hq x h hF)
  | d + 1, n + 1, i, x, hi, h2, h, hF => by
    show nd_X11_tapeNumber_3 (lp_X11_tapeNumber_3 Q n) Q v (iI (24 - 8 * (i : Int))) x
    unfold nd_X11_tapeNumber_3
    have e1 : (iI (24 - 8 * (i : Int)) < 0) ↔ 24 - 8 * (i : Int) < 0 := i_lt (b := 0) ⟨⟨by omega, by omega⟩, by omega, by omega⟩
    refine bf (fun q => by have := e1.mp q; omega) ?_
    rw [h.1]
    refine bf (by simp (disch := omega) only [N_lit, N_add, N_mul, N_sub, N_addneg, N_neg1, N_addm, N_le, N_lt, N_eq, N_in, N_cl, N_ne, N_ne', N_ltm, N_mlt, N_lem] <;> omega) ⟨N_in ⟨by omega, by omega⟩, fun s1 es1 s2 es2 x3 e3 => ?_⟩
    rw [show iI (24 - 8 * (i : Int)) = nI (24 - 8 * i) by rw [i_nI, show ((24 - 8 * i : Nat) : Int) = 24 - 8 * (i : Int) by omega], N_cl (by omega), c_sh v i (by omega), and_by, ← hg i (by omega)] at es1
    have r1 : s1.1 2 1 = nI (tn + (k0 + i)) := by rw [es1, g_ne (by omega)]; exact h.1
    rw [r1, nI_1] at es2
    rw [e3, show iI (24 - 8 * (i : Int)) + -8 = iI (24 - 8 * ((i + 1 : Nat) : Int)) by rw [show (-8 : Int32) = iI (-8) by decide +kernel, i_add, show 24 - 8 * (i : Int) + -8 = 24 - 8 * ((i + 1 : Nat) : Int) by omega]]
    refine c_tape_lp hg hk hq d n (i + 1) s2 (by omega) (by omega) ⟨?_, fun j hj => ?_⟩ ?_
    · rw [es2, g_eq]; rfl
    · rw [es2, g_ne (by omega), es1]
      show _ = nI (upf (fdF tp tn g (k0 + i)) (tn + (k0 + i)) (g (k0 + i)) j)
      by_cases c : j = tn + (k0 + i)
      · subst c; rw [upf_eq, g_eq]
      · rw [upf_ne c, g_nj c, h.2 j hj]
    · rw [es2, es1]
      exact (hF.si (decide_eq_true (by omega))).si (decide_eq_true (by omega))
theorem c_tape {tp : Nat → Nat} {tn k0 : Nat} {g : Nat → Nat} {v : Int32} (hg : ∀ i, i < 4 → g (k0 + i) = byN (shf v i)) (hk : tn + k0 + 4 ≤ 1600) {x0 x : fz_s} (h : FDc (fdF tp tn g k0) (tn + k0) x) (hF : Fr pT1 x0 x) {Q : fz_s → Prop} (hq : ∀ x', FDc (fdF tp tn g (k0 + 4)) (tn + (k0 + 4)) x' → Fr pT1 x0 x' → Q x') : wp_X11_tapeNumber v x Q := c_tape_lp hg hk hq 4 2048 0 x (by omega) (by omega) h hF
def by20 (a b c d e : Int32) (k : Nat) : Int32 := if k < 4 then a else if k < 8 then b else if k < 12 then c else if k < 16 then d else e
theorem m_feed_lp {tp : Nat → Nat} {tn : Nat} {a b c d e : Int32} (hk : tn + 20 ≤ 1600) {m0 : fz_s} {Q : Int32 → fz_s → Prop} (hq : ∀ m', FDm (fdF tp tn (fun k => byN (shf (by20 a b c d e k) (k % 4))) 20) (tn + 20) m' → Fr pT2 m0 m' → Q (nI (tn + 20)) m') : ∀ (n k : Nat) (x : fz_s), k ≤ 20 → 20 < n + k → FDm (fdF tp tn (fun k => byN (shf (by20 a b c d e k) (k % 4))) k) (tn + k) x → Fr pT2 m0 x → lp_X12_feed_28 Q n a b c d e (nI k) x
  | 0, k, x, _, h2, _, _ => absurd h2 (by omega)
  | n + 1, k, x, h1, h2, h, hF => by
    show nd_X12_feed_28 (lp_X12_feed_28 Q n) Q a b c d e (nI k) x
    unfold nd_X12_feed_28
    by_cases ck : k = 20
    · subst ck
      refine bt (by simp (disch := omega) only [N_lit, N_add, N_mul, N_sub, N_addneg, N_neg1, N_addm, N_le, N_lt, N_eq, N_in, N_cl, N_ne, N_ne', N_ltm, N_mlt, N_lem] <;> omega) ?_
      rw [h.1]
      exact hq x h hF
    refine bf (by simp (disch := omega) only [N_lit, N_add, N_mul, N_sub, N_addneg, N_neg1, N_addm, N_le, N_lt, N_eq, N_in, N_cl, N_ne, N_ne', N_ltm, N_mlt, N_lem] <;> omega) ?_
    have go : ∀ u : Int32, u = by20 a b c d e k → nd_X12_feed_81 (lp_X12_feed_28 Q n) Q a b c d e (nI k) u x := by
      intro u hu
      unfold nd_X12_feed_81
      rw [h.1, N_cl (by omega), show nI k - nI k / 4 * 4 = nI (k % 4) from N_mod (b := 4) ⟨by omega, by omega⟩, show (3 : Int32) - nI (k % 4) = nI (3 - k % 4) from N_sub (a := 3) (by omega), show (8 : Int32) * nI (3 - k % 4) = nI (8 * (3 - k % 4)) from N_mul 8 _, show 8 * (3 - k % 4) = 24 - 8 * (k % 4) by omega, and_by, hu]
      refine ⟨N_in ⟨by omega, by omega⟩, fun s1 es1 s2 es2 x3 e3 => ?_⟩
      have r1 : s1.1 196 1 = nI (tn + k) := by rw [es1, g_ne (by omega)]; exact h.1
      rw [r1, nI_1] at es2
      rw [e3, nI_1]
      refine m_feed_lp hk hq n (k + 1) s2 (by omega) (by omega) ⟨?_, fun j hj => ?_⟩ ?_
      · rw [es2, g_eq]; rfl
      · rw [es2, g_ne (by omega), es1]
        show _ = nI (upf (fdF tp tn (fun k => byN (shf (by20 a b c d e k) (k % 4))) k) (tn + k) (byN (shf (by20 a b c d e k) (k % 4))) j)
        by_cases cj : j = tn + k
        · subst cj; rw [upf_eq, g_eq]; rfl
        · rw [upf_ne cj, g_nj cj, h.2 j hj]
      · rw [es2, es1]
        exact (hF.si (decide_eq_true (by omega))).si (decide_eq_true (by omega))
    unfold by20 at go
    by_cases c4 : k < 4
    · exact bf (by simp (disch := omega) only [N_lit, N_add, N_mul, N_sub, N_addneg, N_neg1, N_addm, N_le, N_lt, N_eq, N_in, N_cl, N_ne, N_ne', N_ltm, N_mlt, N_lem] <;> omega) (go a (by rw [if_pos c4]))
    refine bt (by simp (disch := omega) only [N_lit, N_add, N_mul, N_sub, N_addneg, N_neg1, N_addm, N_le, N_lt, N_eq, N_in, N_cl, N_ne, N_ne', N_ltm, N_mlt, N_lem] <;> omega) ?_
    by_cases c8 : k < 8
    · exact bf (by simp (disch := omega) only [N_lit, N_add, N_mul, N_sub, N_addneg, N_neg1, N_addm, N_le, N_lt, N_eq, N_in, N_cl, N_ne, N_ne', N_ltm, N_mlt, N_lem] <;> omega) (go b (by rw [if_neg c4, if_pos c8]))
    refine bt (by simp (disch := omega) only [N_lit, N_add, N_mul, N_sub, N_addneg, N_neg1, N_addm, N_le, N_lt, N_eq, N_in, N_cl, N_ne, N_ne', N_ltm, N_mlt, N_lem] <;> omega) ?_
    by_cases c12 : k < 12
    · exact bf (by simp (disch := omega) only [N_lit, N_add, N_mul, N_sub, N_addneg, N_neg1, N_addm, N_le, N_lt, N_eq, N_in, N_cl, N_ne, N_ne', N_ltm, N_mlt, N_lem] <;> omega) (go c (by rw [if_neg c4, if_neg c8, if_pos c12]))
    refine bt (by simp (disch := omega) only [N_lit, N_add, N_mul, N_sub, N_addneg, N_neg1, N_addm, N_le, N_lt, N_eq, N_in, N_cl, N_ne, N_ne', N_ltm, N_mlt, N_lem] <;> omega) ?_
    by_cases c16 : k < 16
    · exact bf (by simp (disch := omega) only [N_lit, N_add, N_mul, N_sub, N_addneg, N_neg1, N_addm, N_le, N_lt, N_eq, N_in, N_cl, N_ne, N_ne', N_ltm, N_mlt, N_lem] <;> omega) (go d (by rw [if_neg c4, if_neg c8, if_neg c12, if_pos c16]))
    · exact bt (by simp (disch := omega) only [N_lit, N_add, N_mul, N_sub, N_addneg, N_neg1, N_addm, N_le, N_lt, N_eq, N_in, N_cl, N_ne, N_ne', N_ltm, N_mlt, N_lem] <;> omega) (go e (by rw [if_neg c4, if_neg c8, if_neg c12, if_neg c16]))
theorem EQ_feed_ok : EQ_feed INV := by
  intro x m a b c d e h
  obtain ⟨t, T, W, kf, kn, ⟨tp, tn, h1⟩, h2, ⟨pn, h3⟩, ⟨sd, h4⟩, ⟨sn, nm, nl, h5⟩, h6, h7, ⟨us, ac, o, nw, h8⟩, ⟨rs, rn, h9⟩, h10⟩ := id h
  have ht := h1.1
  unfold wp_X11_feed wp_X12_feed
  rw [h1.2.2.1, h1.2.2.2.1, show nI tn + 20 = nI (tn + 20) from N_add tn 20]
  by_cases c0 : tn + 20 ≤ 1600
  · refine bt (by simp (disch := omega) only [N_lit, N_add, N_mul, N_sub, N_addneg, N_neg1, N_addm, N_le, N_lt, N_eq, N_in, N_cl, N_ne, N_ne', N_ltm, N_mlt, N_lem] <;> omega) ?_
    have hg : ∀ (j : Nat) (v : Int32), (∀ i, i < 4 → by20 a b c d e (4 * j + i) = v) → ∀ i, i < 4 → (fun k => byN (shf (by20 a b c d e k) (k % 4))) (4 * j + i) = byN (shf v i) := fun j v hv i hi => by
      show byN (shf (by20 a b c d e (4 * j + i)) ((4 * j + i) % 4)) = _
      rw [hv i hi, show (4 * j + i) % 4 = i by omega]
    have v0 : ∀ i, i < 4 → by20 a b c d e (4 * 0 + i) = a := fun i hi => by unfold by20; rw [if_pos (by omega)]
    have v1 : ∀ i, i < 4 → by20 a b c d e (4 * 1 + i) = b := fun i hi => by unfold by20; rw [if_neg (by omega), if_pos (by omega)]
    have v2 : ∀ i, i < 4 → by20 a b c d e (4 * 2 + i) = c := fun i hi => by unfold by20; rw [if_neg (by omega), if_neg (by omega), if_pos (by omega)]
    have v3 : ∀ i, i < 4 → by20 a b c d e (4 * 3 + i) = d := fun i hi => by unfold by20; rw [if_neg (by omega), if_neg (by omega), if_neg (by omega), if_pos (by omega)]
    have v4 : ∀ i, i < 4 → by20 a b c d e (4 * 4 + i) = e := fun i hi => by unfold by20; rw [if_neg (by omega), if_neg (by omega), if_neg (by omega), if_neg (by omega)]
    refine c_tape (tp := tp) (tn := tn) (k0 := 0) (g := fun k => byN (shf (by20 a b c d e k) (k % 4))) (hg 0 a v0) (by omega) (x0 := x) ⟨h1.2.2.1, h1.2.2.2.2.1⟩ Fr.rf (fun x1 d1 f1 => ?_)
    refine c_tape (tp := tp) (tn := tn) (k0 := 4) (g := fun k => byN (shf (by20 a b c d e k) (k % 4))) (hg 1 b v1) (by omega) d1 f1 (fun x2 d2 f2 => ?_)
    refine c_tape (tp := tp) (tn := tn) (k0 := 8) (g := fun k => byN (shf (by20 a b c d e k) (k % 4))) (hg 2 c v2) (by omega) d2 f2 (fun x3 d3 f3 => ?_)
    refine c_tape (tp := tp) (tn := tn) (k0 := 12) (g := fun k => byN (shf (by20 a b c d e k) (k % 4))) (hg 3 d v3) (by omega) d3 f3 (fun x4 d4 f4 => ?_)
    refine c_tape (tp := tp) (tn := tn) (k0 := 16) (g := fun k => byN (shf (by20 a b c d e k) (k % 4))) (hg 4 e v4) (by omega) d4 f4 (fun x5 d5 f5 => ?_)
    refine bt (by simp (disch := omega) only [N_lit, N_add, N_mul, N_sub, N_addneg, N_neg1, N_addm, N_le, N_lt, N_eq, N_in, N_cl, N_ne, N_ne', N_ltm, N_mlt, N_lem] <;> omega) ?_
    refine m_feed_lp (tp := tp) (tn := tn) c0 (m0 := m) (fun m1 g1 f6 => ⟨d5.1, ?_⟩) 2048 0 m (by omega) (by omega) ⟨h1.2.2.2.1, h1.2.2.2.2.2⟩ Fr.rf
    exact h.tape (tp' := fdF tp tn (fun k => byN (shf (by20 a b c d e k) (k % 4))) 20) (tn' := tn + 20) ⟨c0, fdF_lt h1.2.1 (fun j => byN_lt _) 20, d5.1, g1.1, d5.2, g1.2⟩ f5 f6
  · refine bf (by simp (disch := omega) only [N_lit, N_add, N_mul, N_sub, N_addneg, N_neg1, N_addm, N_le, N_lt, N_eq, N_in, N_cl, N_ne, N_ne', N_ltm, N_mlt, N_lem] <;> omega) (c_refuse (k := 0) (by omega) (bf (by simp (disch := omega) only [N_lit, N_add, N_mul, N_sub, N_addneg, N_neg1, N_addm, N_le, N_lt, N_eq, N_in, N_cl, N_ne, N_ne', N_ltm, N_mlt, N_lem] <;> omega) (fun s1 es => ?_)))
    subst es
    exact ⟨rfl, h.refuse 0⟩
/-! letters -/
theorem enc_lt {f : Nat → Nat} : ∀ {n : Nat}, (∀ k, k < n → f k ≤ 26) → enc f n < 27 ^ n
  | 0, _ => by show 0 < 27 ^ 0; decide
  | n + 1, h => by
    have ih := enc_lt (f := f) (n := n) (fun k hk => h k (by omega))
    have h1 := h n (by omega)
    rw [Nat.pow_succ]
    show 27 * enc f n + f n < 27 ^ n * 27
    omega
theorem enc_b {f : Nat → Nat} {n : Nat} (h : ∀ k, k < n → f k ≤ 26) (hn : n ≤ 6) : enc f n < 387420489 := Nat.lt_of_lt_of_le (enc_lt h) (Nat.pow_le_pow_right (n := 27) (by omega) hn)
theorem l_d27 {a : Nat} (h : a < 9223372036854775808) : lI (a : Int) / 27 = lI ((a / 27 : Nat) : Int) := by
  rw [show (27 : Int64) = lI ((27 : Nat) : Int) from l_lit 27, l_div ⟨⟨by omega, by omega⟩, ⟨by omega, by omega⟩, by omega⟩, i_tdiv (by omega)]
  congr 1
theorem m_let109 {f : Nat → Nat} {L k : Nat} (hL : L ≤ 6) (hf : ∀ k, k < L → 1 ≤ f k ∧ f k ≤ 26) (hk : k < L) {m : fz_s} {Q : Int32 → fz_s → Prop} (hq : Q (nI (f k)) m) : ∀ (n j : Nat), k ≤ j → j < L → j < n + k → lp_X12_letter_109 Q n (nI k) (lI (enc f (j + 1))) (nI j) m
  | 0, j, h1, h2, h3 => absurd h3 (by omega)
  | n + 1, j, h1, h2, h3 => by
    show nd_X12_letter_109 (lp_X12_letter_109 Q n) Q (nI k) (lI (enc f (j + 1))) (nI j) m
    unfold nd_X12_letter_109
    have hb := enc_b (f := f) (n := j + 1) (fun i hi => (hf i (by omega)).2) (by omega)
    have hj := hf j h2
    have es : enc f (j + 1) = 27 * enc f j + f j := rfl
    by_cases c : j = k
    · subst c
      refine bt (by simp (disch := omega) only [N_lit, N_add, N_mul, N_sub, N_addneg, N_neg1, N_addm, N_le, N_lt, N_eq, N_in, N_cl, N_ne, N_ne', N_ltm, N_mlt, N_lem] <;> omega) ?_
      rw [show lI ((enc f (j + 1) : Nat) : Int) - lI ((enc f (j + 1) : Nat) : Int) / 27 * 27 = lI ((enc f (j + 1) % 27 : Nat) : Int) from by
        have := l_mod (a := enc f (j + 1)) (b := 27) ⟨by omega, by omega⟩
        rw [show lI ((27 : Nat) : Int) = (27 : Int64) from (l_lit 27).symm] at this
        exact this, l_32, ← i_nI, show enc f (j + 1) % 27 = f j by omega]
      exact hq
    · refine bf (by simp (disch := omega) only [N_lit, N_add, N_mul, N_sub, N_addneg, N_neg1, N_addm, N_le, N_lt, N_eq, N_in, N_cl, N_ne, N_ne', N_ltm, N_mlt, N_lem] <;> omega) ?_
      intro x1 e1 x2 e2
      rw [l_d27 (by omega), show enc f (j + 1) / 27 = enc f j by omega] at e1
      rw [e1, e2, show nI j + -1 = nI (j - 1) from N_addneg (b := 1) (by omega)]
      have ih := m_let109 hL hf hk hq n (j - 1) (by omega) (by omega) (by omega)
      rw [show j - 1 + 1 = j by omega] at ih
      exact ih
theorem m_let74 {f : Nat → Nat} {L k : Nat} (hL : L ≤ 6) (hf : ∀ k, k < L → 1 ≤ f k ∧ f k ≤ 26) (hk : k < 6) {m : fz_s} {Q : Int32 → fz_s → Prop} (hq : Q (nI (if k < L then f k else 0)) m) : ∀ (d n c : Nat), c + d = L → d < n → lp_X12_letter_74 Q n (nI k) (lI (enc f L)) (nI c) (lI (enc f d)) m
  | d, 0, c, h1, h2 => absurd h2 (by omega)
  | 0, n + 1, c, h1, h2 => by
    show nd_X12_letter_74 (lp_X12_letter_74 Q n) Q (nI k) (lI (enc f L)) (nI c) (lI (enc f 0)) m
    unfold nd_X12_letter_74
    have hc : c = L := h1
    subst hc
    rw [lg_cmp_le]
    refine bt (by show lI 0 ≤ 0; decide +kernel) ?_
    by_cases c2 : k < c
    · refine bt (by simp (disch := omega) only [N_lit, N_add, N_mul, N_sub, N_addneg, N_neg1, N_addm, N_le, N_lt, N_eq, N_in, N_cl, N_ne, N_ne', N_ltm, N_mlt, N_lem] <;> omega) ?_
      intro x1 e1
      rw [show nI c - 1 = nI (c - 1) from N_sub (b := 1) (by omega)] at e1
      rw [if_pos c2] at hq
      subst e1
      have := m_let109 hL hf c2 hq 2048 (c - 1) (by omega) (by omega) (by omega)
      rw [show c - 1 + 1 = c by omega] at this
      exact this
    · rw [if_neg c2] at hq
      exact bf (by simp (disch := omega) only [N_lit, N_add, N_mul, N_sub, N_addneg, N_neg1, N_addm, N_le, N_lt, N_eq, N_in, N_cl, N_ne, N_ne', N_ltm, N_mlt, N_lem] <;> omega) hq
  | d + 1, n + 1, c, h1, h2 => by
    show nd_X12_letter_74 (lp_X12_letter_74 Q n) Q (nI k) (lI (enc f L)) (nI c) (lI (enc f (d + 1))) m
    unfold nd_X12_letter_74
    have hb := enc_b (f := f) (n := d + 1) (fun i hi => (hf i (by omega)).2) (by omega)
    have hd := hf d (by omega)
    have es : enc f (d + 1) = 27 * enc f d + f d := rfl
    have e0 : (lI ((enc f (d + 1) : Nat) : Int) ≤ 0) ↔ ((enc f (d + 1) : Nat) : Int) ≤ 0 := l_le (b := 0) ⟨⟨by omega, by omega⟩, by omega, by omega⟩
    rw [lg_cmp_le, e0]
    refine bf (by omega) ?_
    intro x2 e2 x3 e3
    rw [l_d27 (by omega), show enc f (d + 1) / 27 = enc f d by omega] at e3
    rw [e2, e3, nI_1]
    exact m_let74 hL hf hk hq d n (c + 1) (by omega) (by omega)
theorem c_letterOf {i k : Nat} (hi : i < 10) (hk : k < 6) {x : fz_s} {Q : Int32 → fz_s → Prop} (hq : Q (x.1 7 (6 * i + k)) x) : wp_X9_letterOf_6 (nI i) (nI k) x Q := by
  unfold wp_X9_letterOf_6
  intro x1 e1
  rw [show nI i * 6 = nI (i * 6) from N_mul i 6, N_add, show i * 6 + k = 6 * i + k by omega] at e1
  subst e1
  rw [N_cl (by omega)]
  exact bf (by simp (disch := omega) only [N_lit, N_add, N_mul, N_sub, N_addneg, N_neg1, N_addm, N_le, N_lt, N_eq, N_in, N_cl, N_ne, N_ne', N_ltm, N_mlt, N_lem] <;> omega) (bt (by simp (disch := omega) only [N_lit, N_add, N_mul, N_sub, N_addneg, N_neg1, N_addm, N_le, N_lt, N_eq, N_in, N_cl, N_ne, N_ne', N_ltm, N_mlt, N_lem] <;> omega) ⟨N_in ⟨by omega, by omega⟩, hq⟩)
theorem EQ_letter_ok : EQ_letter INV := by
  intro x m p0 p1 p2 h
  obtain ⟨t, T, W, kf, kn, ⟨tp, tn, h1⟩, h2, ⟨pn, h3⟩, ⟨sd, h4⟩, ⟨sn, nm, nl, h5⟩, h6, h7, ⟨us, ac, o, nw, h8⟩, ⟨rs, rn, h9⟩, h10⟩ := id h
  obtain ⟨z, rfl, hz⟩ := i_of p1
  obtain ⟨y, rfl, hy⟩ := i_of p2
  have hn := h6.1.1.1
  have cT := h6.1.2.2.1
  have mT := h6.2.1.2.2.1
  have l0 : lR 0 := by unfold lR; omega
  have l5 : lR 5 := by unfold lR; omega
  have e1 : (iI y < 0) ↔ y < 0 := i_lt (b := 0) ⟨hy, by omega, by omega⟩
  have e2 : (iI y < 6) ↔ y < 6 := i_lt (b := 6) ⟨hy, by omega, by omega⟩
  -- the model at last
  have m31f : ∀ (u0 : Bool) (x' : fz_s), INV x' m → (u0 = false ∨ ¬ (0 ≤ y ∧ y ≤ 5)) → nd_X12_letter_31 (fun r' m' => (-1 : Int32) = r' ∧ INV x' m') p0 (iI z) (iI y) u0 m := by
    intro u0 x' hx' hor
    unfold nd_X12_letter_31
    rw [i_64 hy]
    refine ⟨fun _ => ⟨rfl, hx'⟩, fun q => m_isIn (b := 0) (c := 5) (lR_i hy) l0 l5 ⟨fun q2 => ?_, fun _ => ⟨rfl, hx'⟩⟩⟩
    rcases hor with e | e
    · rw [e] at q; cases q
    · exact absurd (of_decide_eq_true q2) e
  have m31t : ∀ (i k : Nat), t = true → i < 2 + T.1 → y = k → k < 6 → ((10 : Int32) + 2 * p0) + iI z = nI (10 + i) → nd_X12_letter_31 (fun r' m' => x.1 7 (6 * i + k) = r' ∧ INV x m') p0 (iI z) (iI y) true m := by
    intro i k ht hi hyk hk hidx
    obtain ⟨b1, b2, b3, b4, b5⟩ := h5.2.2.2.2.2.2 ht i hi
    unfold nd_X12_letter_31
    rw [i_64 hy]
    refine ⟨fun q => (by cases q), fun _ => m_isIn (b := 0) (c := 5) (lR_i hy) l0 l5 ⟨fun _ => ?_, fun q => absurd (of_decide_eq_false q) (by omega)⟩⟩
    rw [hidx, N_cl (by omega)]
    refine ⟨N_in ⟨by omega, by omega⟩, fun x3 e3 => ?_⟩
    rw [b5] at e3
    subst e3
    rw [hyk, ← i_nI]
    exact m_let74 b2 b3 hk ⟨b4 k hk, h⟩ (nl i) 2048 0 (by omega) (by omega)
  have modno : ∀ x', INV x' m → ((p0 = 0 → (t && decide (0 ≤ z ∧ z < 2)) = false ∨ ¬ (0 ≤ y ∧ y ≤ 5)) ∧ (p0 = 1 → decide (0 ≤ z ∧ z < T.1) = false ∨ ¬ (0 ≤ y ∧ y ≤ 5))) → wp_X12_letter p0 (iI z) (iI y) m (fun r' m' => (-1 : Int32) = r' ∧ INV x' m') := by
    intro x' hx' ha
    unfold wp_X12_letter
    rw [i_64 hz]
    refine ⟨fun q => ⟨fun q1 => m31f false x' hx' (Or.inl rfl), fun q1 => m_isPerson mT.1 hn hz ⟨fun q2 => m31f false x' hx' (Or.inl rfl), fun q2 => m31f true x' hx' ?_⟩⟩, fun q => m_isVillage h5.2.1 (lR_i hz) (m31f _ x' hx' (ha.1 q))⟩
    rcases ha.2 q1 with e | e
    · rw [q2] at e; cases e
    · exact Or.inr e
  unfold wp_X11_letter
  rw [e1, e2]
  by_cases c1 : y < 0
  · exact bt c1 (modno x h ⟨fun _ => Or.inr (by omega), fun _ => Or.inr (by omega)⟩)
  refine bf c1 ?_
  by_cases c2 : y < 6
  · refine bt c2 ?_
    obtain ⟨k, hk⟩ : ∃ k : Nat, y = k := ⟨y.toNat, by omega⟩
    have hk6 : k < 6 := by omega
    refine ⟨fun q0 => ?_, fun q0 => ?_⟩
    · unfold nd_X11_letter_34
      refine ⟨fun q1 => modno x h ⟨fun q => absurd q q0, fun q => absurd q q1⟩, fun q1 => ?_⟩
      refine c_noPerson cT.1 hn hz ⟨fun q => modno x h ⟨fun q => absurd q q0, fun _ => Or.inl (by rw [Bool.not_eq_true'] at q; exact q)⟩, fun q => ?_⟩
      have q' : 0 ≤ z ∧ z < T.1 := Decidable.byContradiction fun z => by rw [decide_eq_false z] at q; cases q
      have ht : t = true := Decidable.byContradiction fun e => by
        have := h5.2.2.1.1 ((Bool.not_eq_true _).mp e)
        omega
      obtain ⟨p, rfl⟩ : ∃ p : Nat, z = p := ⟨z.toNat, by omega⟩
      subst hk
      rw [← i_nI k, show (2 : Int32) + iI (p : Int) = nI (2 + p) by rw [← i_nI]; exact N_add 2 p]
      refine c_letterOf (by omega) hk6 ?_
      have key := m31t (2 + p) k ht (by omega) rfl hk6 (by rw [q1, ← i_nI, show (10 : Int32) + 2 * 1 = nI 12 from rfl, N_add, show 12 + p = 10 + (2 + p) by omega])
      unfold wp_X12_letter
      rw [i_nI k]
      refine ⟨fun _ => ⟨fun q => absurd q1 q, fun _ => m_isPerson mT.1 hn hz ⟨fun q2 => absurd q' (of_decide_eq_false q2), fun _ => key⟩⟩, fun q => absurd q q0⟩
    · refine c_noVillage h5.1 hz ⟨fun q => ?_, fun q => ?_⟩
      · unfold nd_X11_letter_34
        refine ⟨fun q1 => modno x h ⟨fun _ => Or.inl (nv_t q), fun q => absurd q q1⟩, fun q1 => ?_⟩
        rw [q0] at q1
        exact absurd q1 (by decide)
      · have q3 := nv_f q
        obtain ⟨v, rfl⟩ : ∃ v : Nat, z = v := ⟨z.toNat, by omega⟩
        subst hk
        rw [← i_nI k, ← i_nI v]
        refine c_letterOf (by omega) hk6 ?_
        have key := m31t v k q3.1 (by omega) rfl hk6 (by rw [q0, ← i_nI, show (10 : Int32) + 2 * 0 = nI 10 from rfl, N_add])
        unfold wp_X12_letter
        rw [i_nI k, i_nI v, i_64 hz]
        refine ⟨fun q => absurd q0 q, fun _ => m_isVillage h5.2.1 (lR_i hz) ?_⟩
        rw [q3.1, decide_eq_true q3.2]
        exact key
  · exact bf c2 (modno x h ⟨fun _ => Or.inr (by omega), fun _ => Or.inr (by omega)⟩)

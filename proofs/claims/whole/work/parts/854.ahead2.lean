/-! WITS, TELLS: what both sides look at -/
def hsW (T : TT) (W : WW) (p w a v : Nat) : Nat := (itW T (stW W p w) a).1 v
def Hk (T : TT) (W : WW) (p w k : Nat) : Nat := hsW T W p w (k / 2) (k % 2)
def asK (T : TT) (W : WW) (p : Nat) (rs : Nat → Nat × Nat × Nat) (w y : Nat) : Nat → Bool
  | 0 => true
  | k + 1 => asK T W p rs w y k && (!decide ((rs k).1 = y) || (decide (W.2.2.2.2.2 + y ≤ 999) && decide (hsW T W p w y (rs k).2.1 = (rs k).2.2)))
def fuS (T : TT) (W : WW) (p : Nat) (rs : Nat → Nat × Nat × Nat) (rn w : Nat) : Nat → Bool
  | 0 => true
  | y + 1 => fuS T W p rs rn w y && asK T W p rs w y rn
def fit (T : TT) (W : WW) (p : Nat) (rs : Nat → Nat × Nat × Nat) (rn w : Nat) : Bool := fuS T W p rs rn w 31
def fcK (T : TT) (W : WW) (p : Nat) (rs : Nat → Nat × Nat × Nat) (w : Nat) : Nat → Bool
  | 0 => true
  | k + 1 => fcK T W p rs w k && decide (hsW T W p w (rs k).1 (rs k).2.1 = (rs k).2.2)
def fmx (rs : Nat → Nat × Nat × Nat) : Nat → Nat
  | 0 => 0
  | k + 1 => if fmx rs k < (rs k).1 then (rs k).1 else fmx rs k
def farY (W : WW) : Nat := if 999 - W.2.2.2.2.2 < 30 then 999 - W.2.2.2.2.2 else 30
theorem asK_t {T : TT} {W : WW} {p : Nat} {rs : Nat → Nat × Nat × Nat} {w y : Nat} : ∀ n, asK T W p rs w y n = true ↔ ∀ k, k < n → (rs k).1 = y → W.2.2.2.2.2 + y ≤ 999 ∧ hsW T W p w y (rs k).2.1 = (rs k).2.2
  | 0 => ⟨fun _ k hk => absurd hk (Nat.not_lt_zero _), fun _ => rfl⟩
  | n + 1 => by
    unfold asK
    rw [Bool.and_eq_true, asK_t n, Bool.or_eq_true, Bool.not_eq_true', decide_eq_false_iff_not, Bool.and_eq_true, decide_eq_true_eq, decide_eq_true_eq]
    constructor
    · intro h k hk e
      by_cases c : k = n
      · subst c
        rcases h.2 with z | z
        · exact absurd e z
        · exact z
      · exact h.1 k (by omega) e
    · intro h
      refine ⟨fun k hk e => h k (by omega) e, ?_⟩
      by_cases c : (rs n).1 = y
      · exact Or.inr (h n (by omega) c)
      · exact Or.inl c
theorem fuS_t {T : TT} {W : WW} {p : Nat} {rs : Nat → Nat × Nat × Nat} {rn w : Nat} : ∀ n, fuS T W p rs rn w n = true ↔ ∀ y, y < n → asK T W p rs w y rn = true
  | 0 => ⟨fun _ k hk => absurd hk (Nat.not_lt_zero _), fun _ => rfl⟩
  | n + 1 => by
    unfold fuS
    rw [Bool.and_eq_true, fuS_t n]
    constructor
    · intro h y hy
      by_cases c : y = n
      · subst c; exact h.2
      · exact h.1 y (by omega)
    · intro h
      exact ⟨fun y hy => h y (by omega), h n (by omega)⟩
theorem fcK_t {T : TT} {W : WW} {p : Nat} {rs : Nat → Nat × Nat × Nat} {w : Nat} : ∀ n, fcK T W p rs w n = true ↔ ∀ k, k < n → hsW T W p w (rs k).1 (rs k).2.1 = (rs k).2.2
  | 0 => ⟨fun _ k hk => absurd hk (Nat.not_lt_zero _), fun _ => rfl⟩
  | n + 1 => by
    unfold fcK
    rw [Bool.and_eq_true, fcK_t n, decide_eq_true_eq]
    constructor
    · intro h k hk
      by_cases c : k = n
      · subst c; exact h.2
      · exact h.1 k (by omega)
    · intro h
      exact ⟨fun k hk => h k (by omega), h n (by omega)⟩
theorem fmx_le {rs : Nat → Nat × Nat × Nat} {b : Nat} : ∀ n, fmx rs n ≤ b ↔ ∀ k, k < n → (rs k).1 ≤ b
  | 0 => ⟨fun _ k hk => absurd hk (Nat.not_lt_zero _), fun _ => Nat.zero_le _⟩
  | n + 1 => by
    have ih := fmx_le (rs := rs) (b := b) n
    unfold fmx
    constructor
    · intro h k hk
      by_cases c : k = n
      · subst c
        split at h <;> omega
      · refine ih.mp ?_ k (by omega)
        split at h <;> omega
    · intro h
      have h1 := ih.mpr (fun k hk => h k (by omega))
      have h2 := h n (by omega)
      split <;> omega
theorem fmx_k {rs : Nat → Nat × Nat × Nat} {n k : Nat} (hk : k < n) : (rs k).1 ≤ fmx rs n := (fmx_le n).mp (Nat.le_refl _) k hk
theorem fit_eq {T : TT} {W : WW} {p : Nat} {rs : Nat → Nat × Nat × Nat} {rn w : Nat} (hy : W.2.2.2.2.2 ≤ 999) (hr : ∀ k, k < rn → (rs k).1 ≤ 30) : fit T W p rs rn w = (decide (fmx rs rn ≤ farY W) && fcK T W p rs w rn) := by
  rw [Bool.eq_iff_iff]
  unfold fit
  rw [fuS_t, Bool.and_eq_true, decide_eq_true_eq, fcK_t, fmx_le]
  constructor
  · intro h
    refine ⟨fun k hk => ?_, fun k hk => ?_⟩
    · have h1 := hr k hk
      have := ((asK_t rn).mp (h (rs k).1 (by omega)) k hk rfl).1
      unfold farY
      split <;> omega
    · have h1 := hr k hk
      exact ((asK_t rn).mp (h (rs k).1 (by omega)) k hk rfl).2
  · intro h y hy'
    rw [asK_t]
    intro k hk e
    have h1 := h.1 k hk
    refine ⟨?_, by rw [← e]; exact h.2 k hk⟩
    unfold farY at h1
    split at h1 <;> omega
/-! bits -/
def bts (f : Nat → Bool) : Nat → Int32
  | 0 => 0
  | w + 1 => if f w = true then bts f w ||| (1 <<< (nI w &&& 31)) else bts f w
theorem or_0 (x : Int32) : x ||| 0 = x := Int32.toBitVec_inj.mp BitVec.or_zero
theorem sh_0 : ∀ w, w < 10 → (0 : Int32) <<< (nI w &&& 31) = 0 := by decide +kernel
theorem bts_c (f : Nat → Bool) {w : Nat} (hw : w < 10) : bts f w ||| (nI (if f w = true then 1 else 0) <<< (nI w &&& 31)) = bts f (w + 1) := by
  show _ = if f w = true then bts f w ||| (1 <<< (nI w &&& 31)) else bts f w
  by_cases c : f w = true
  · rw [if_pos c, if_pos c]
    rfl
  · rw [if_neg c, if_neg c, show nI 0 <<< (nI w &&& 31) = 0 from sh_0 w hw, or_0]
def bt10 (b0 b1 b2 b3 b4 b5 b6 b7 b8 b9 : Bool) (w : Nat) : Bool := if w = 0 then b0 else if w = 1 then b1 else if w = 2 then b2 else if w = 3 then b3 else if w = 4 then b4 else if w = 5 then b5 else if w = 6 then b6 else if w = 7 then b7 else if w = 8 then b8 else b9
theorem bts_10 : ∀ b0 b1 b2 b3 b4 b5 b6 b7 b8 b9 : Bool, ∀ w, w < 10 → (((bts (bt10 b0 b1 b2 b3 b4 b5 b6 b7 b8 b9) 10 >>> (nI w &&& 31)) &&& 1 = 0) ↔ bt10 b0 b1 b2 b3 b4 b5 b6 b7 b8 b9 w = false) ∧ ((bts (bt10 b0 b1 b2 b3 b4 b5 b6 b7 b8 b9) 10 = 0) ↔ ∀ v, v < 10 → bt10 b0 b1 b2 b3 b4 b5 b6 b7 b8 b9 v = false) := by decide +kernel
theorem bts_cong {f g : Nat → Bool} : ∀ n, (∀ w, w < n → f w = g w) → bts f n = bts g n
  | 0, _ => rfl
  | n + 1, h => by
    unfold bts
    rw [h n (by omega), bts_cong n (fun w hw => h w (by omega))]
theorem bt10_eq (f : Nat → Bool) (w : Nat) (hw : w < 10) : f w = bt10 (f 0) (f 1) (f 2) (f 3) (f 4) (f 5) (f 6) (f 7) (f 8) (f 9) w := by
  rcases (show w = 0 ∨ w = 1 ∨ w = 2 ∨ w = 3 ∨ w = 4 ∨ w = 5 ∨ w = 6 ∨ w = 7 ∨ w = 8 ∨ w = 9 by omega) with rfl | rfl | rfl | rfl | rfl | rfl | rfl | rfl | rfl | rfl <;> rfl
theorem bts_t (f : Nat → Bool) {w : Nat} (hw : w < 10) : ((bts f 10 >>> (nI w &&& 31)) &&& 1 = 0) ↔ f w = false := by
  rw [bts_cong 10 (bt10_eq f), bt10_eq f w hw]
  exact (bts_10 _ _ _ _ _ _ _ _ _ _ w hw).1
theorem bts_z (f : Nat → Bool) : (bts f 10 = 0) ↔ ∀ v, v < 10 → f v = false := by
  rw [bts_cong 10 (bt10_eq f), (bts_10 _ _ _ _ _ _ _ _ _ _ 0 (by omega)).2]
  exact ⟨fun h v hv => (bt10_eq f v hv).trans (h v hv), fun h v hv => (bt10_eq f v hv).symm.trans (h v hv)⟩
theorem cnt_z (f : Nat → Bool) : ∀ n, cnt f n = 0 ↔ ∀ v, v < n → f v = false
  | 0 => ⟨fun _ k hk => absurd hk (Nat.not_lt_zero _), fun _ => rfl⟩
  | n + 1 => by
    rw [cnt_s]
    have ih := cnt_z f n
    constructor
    · intro h v hv
      by_cases c : v = n
      · subst c
        cases e : f v with
        | false => rfl
        | true => rw [e, if_pos rfl] at h; omega
      · refine ih.mp ?_ v (by omega)
        omega
    · intro h
      rw [ih.mpr (fun v hv => h v (by omega)), h n (by omega), if_neg (by decide)]
/-! the class looks ahead -/
def pSi (a j : Nat) : Bool := decide (a = 32 ∨ a = 33 ∨ a = 34 ∨ (185 ≤ a ∧ a ≤ 190) ∨ a = 192)
theorem pSi_f {a j : Nat} (h : ¬ (a = 32 ∨ a = 33 ∨ a = 34 ∨ (185 ≤ a ∧ a ≤ 190) ∨ a = 192)) : pSi a j = false := decide_eq_false h
theorem pSi_t {a j : Nat} (h : a = 32 ∨ a = 33 ∨ a = 34 ∨ (185 ≤ a ∧ a ≤ 190) ∨ a = 192) : pSi a j = true := decide_eq_true h
theorem pSi_pC {s s' : fz_s} (h : Fr pSi s s') : Fr pC s s' := h.mono fun a j q => by
  have := of_decide_eq_false q
  exact pSi_f (by omega)
/-- laid: all wits below w, and of w the years below a -/
def SW (T : TT) (W : WW) (p N w a : Nat) (f : Nat → Int32) : Prop := ∀ u k, u < 10 → k < 2 * (N + 1) → (u < w ∨ (u = w ∧ k < 2 * a)) → f (62 * u + k) = nI (Hk T W p u k)
theorem SW.nx {T : TT} {W : WW} {p N w : Nat} {f : Nat → Int32} (h : SW T W p N w (N + 1) f) : SW T W p N (w + 1) 0 f := fun u k hu hk hl => h u k hu hk (by omega)
theorem SW.ad {T : TT} {W : WW} {p N w a : Nat} {f g : Nat → Int32} (hN : N ≤ 30) (ha : a ≤ N) (h : SW T W p N w a f) (h0 : g (62 * w + 2 * a) = nI (hsW T W p w a 0)) (h1 : g (62 * w + 2 * a + 1) = nI (hsW T W p w a 1)) (hg : ∀ j, j ≠ 62 * w + 2 * a → j ≠ 62 * w + 2 * a + 1 → g j = f j) : SW T W p N w (a + 1) g := fun u k hu hk hl => by
  by_cases c : u = w ∧ k = 2 * a
  · rw [c.1, c.2]
    unfold Hk
    rw [show 2 * a / 2 = a by omega, show 2 * a % 2 = 0 by omega]
    exact h0
  · by_cases c2 : u = w ∧ k = 2 * a + 1
    · rw [c2.1, c2.2]
      unfold Hk
      rw [show (2 * a + 1) / 2 = a by omega, show (2 * a + 1) % 2 = 1 by omega]
      exact h1
    · rw [hg _ (by omega) (by omega)]
      exact h u k hu hk (by omega)
theorem c_cell6 {w a v : Nat} {x : fz_s} {Q : Int32 → fz_s → Prop} (hq : Q (nI (62 * w + 2 * a + v)) x) : wp_X6_cell (nI w) (nI a) (nI v) x Q := by
  unfold wp_X6_cell
  rw [show nI w * 31 = nI (w * 31) from N_mul w 31, N_add, show nI (w * 31 + a) * 2 = nI ((w * 31 + a) * 2) from N_mul _ 2, N_add, show (w * 31 + a) * 2 + v = 62 * w + 2 * a + v by omega]
  exact hq
theorem c_foreI {T : TT} {W : WW} {p N w : Nat} (hN : N ≤ 30) (hw : w < 10) (hp : p < T.1) (hyr : W.2.2.2.2.2 + N ≤ 999) {x0 : fz_s} (h0 : CC T W 35 x0) {K : Int32 → Int32 → Int32 → fz_s → Prop} {Q : fz_s → Prop} (hq : ∀ x', Fr pSi x0 x' → SW T W p N (w + 1) 0 (x'.1 192) → K (nI p) (nI N) (nI (w + 1)) x') : ∀ (n a : Nat) (x : fz_s), Fr pSi x0 x → (a ≤ N → CC T (itW T (stW W p w) a) 185 x) → SW T W p N w a (x.1 192) → a ≤ N + 1 → N + 1 < n + a → lp_X6_foresee_42 35 K Q n (nI p) (nI N) (nI w) (nI a) x
  | 0, a, x, _, _, _, h1, h2 => absurd h2 (by omega)
  | n + 1, a, x, hF, hC, hS, h1, h2 => by
    have hn := h0.1.1
    show nd_X6_foresee_42 35 K (lp_X6_foresee_42 35 K Q n) Q (nI p) (nI N) (nI w) (nI a) x
    unfold nd_X6_foresee_42
    by_cases c : a = N + 1
    · subst c
      refine bt (by simp (disch := omega) only [N_lit, N_add, N_mul, N_sub, N_addneg, N_neg1, N_addm, N_le, N_lt, N_eq, N_in, N_cl, N_ne, N_ne', N_ltm, N_mlt, N_lem] <;> omega) ?_
      intro x1 e1
      rw [e1, nI_1]
      exact hq x hF hS.nx
    have hC' := hC (by omega)
    refine bf (by simp (disch := omega) only [N_lit, N_add, N_mul, N_sub, N_addneg, N_neg1, N_addm, N_le, N_lt, N_eq, N_in, N_cl, N_ne, N_ne', N_ltm, N_mlt, N_lem] <;> omega) (c_cell6 (v := 0) ⟨N_in ⟨by omega, by omega⟩, fun s4 e4 => ?_⟩)
    rw [N_cl (by omega), show x.1 186 (0 : Int32).toNatClampNeg = nI (hsW T W p w a 0) from hC'.2.2.2.1.1 0 (by omega)] at e4
    have ex4 : ∀ b j, b ≠ 192 → s4.1 b j = x.1 b j := fun b j hb => by rw [e4, g_ne hb]
    refine c_cell6 (v := 1) ⟨N_in ⟨by omega, by omega⟩, fun s7 e7 => ?_⟩
    rw [N_cl (by omega), show s4.1 186 (1 : Int32).toNatClampNeg = nI (hsW T W p w a 1) from (ex4 _ _ (by omega)).trans (hC'.2.2.2.1.1 1 (by omega))] at e7
    have f7 : Fr pSi x0 s7 := by rw [e7, e4]; exact (hF.si (pSi_t (by omega))).si (pSi_t (by omega))
    have c7 : CC T (itW T (stW W p w) a) 185 s7 := hC'.cg (fun b j q => by rw [e7, g_ne (by omega), ex4 _ _ (by omega)])
    have S7 : SW T W p N w (a + 1) (s7.1 192) := by
      refine hS.ad hN (by omega) ?_ ?_ (fun j j1 j2 => ?_)
      · rw [e7, g_nj (by omega), e4]; exact g_eq
      · rw [e7]; exact g_eq
      · rw [e7, g_nj (by omega), e4, g_nj (by omega)]
    by_cases c8 : N ≤ a
    · refine bt (by simp (disch := omega) only [N_lit, N_add, N_mul, N_sub, N_addneg, N_neg1, N_addm, N_le, N_lt, N_eq, N_in, N_cl, N_ne, N_ne', N_ltm, N_mlt, N_lem] <;> omega) ?_
      intro x8 e8
      rw [e8, nI_1]
      exact c_foreI hN hw hp hyr h0 hq n (a + 1) s7 f7 (fun z => by omega) S7 (by omega) (by omega)
    · refine bf (by simp (disch := omega) only [N_lit, N_add, N_mul, N_sub, N_addneg, N_neg1, N_addm, N_le, N_lt, N_eq, N_in, N_cl, N_ne, N_ne', N_ltm, N_mlt, N_lem] <;> omega) (c_ordinary c7 (by rw [it_yr]; show W.2.2.2.2.2 + a < 999; omega) (fun s9 c9 f9 _ _ => ?_))
      intro x11 e11
      rw [e11, nI_1]
      refine c_foreI hN hw hp hyr h0 hq n (a + 1) s9 (f7.tr (f9.mono fun b j q => ?_)) (fun _ => c9) ?_ (by omega) (by omega)
      · have := of_decide_eq_false q
        exact pY_f (by omega)
      · intro u k hu hk hl
        rw [f9.i _ _ (pY_f (by omega))]
        exact S7 u k hu hk hl
theorem c_foreO {T : TT} {W : WW} {p N : Nat} (hN : N ≤ 30) (hp : p < T.1) (hyr : W.2.2.2.2.2 + N ≤ 999) {x0 : fz_s} (h0 : CC T W 35 x0) {Q : fz_s → Prop} (hq : ∀ x', Fr pSi x0 x' → SW T W p N 10 0 (x'.1 192) → Q x') : ∀ (n w : Nat) (x : fz_s), Fr pSi x0 x → SW T W p N w 0 (x.1 192) → w ≤ 10 → 10 < n + w → lp_X6_foresee_13 35 Q n (nI p) (nI N) (nI w) x
  | 0, w, x, _, _, h1, h2 => absurd h2 (by omega)
  | n + 1, w, x, hF, hS, h1, h2 => by
    have hn := h0.1.1
    show nd_X6_foresee_13 35 (lp_X6_foresee_13 35 Q n) Q (nI p) (nI N) (nI w) x
    unfold nd_X6_foresee_13
    by_cases c : w = 10
    · subst c
      exact bt (by simp (disch := omega) only [N_lit, N_add, N_mul, N_sub, N_addneg, N_neg1, N_addm, N_le, N_lt, N_eq, N_in, N_cl, N_ne, N_ne', N_ltm, N_mlt, N_lem] <;> omega) (hq x hF hS)
    have h35 := h0.pC (pSi_pC hF)
    refine bf (by simp (disch := omega) only [N_lit, N_add, N_mul, N_sub, N_addneg, N_neg1, N_addm, N_le, N_lt, N_eq, N_in, N_cl, N_ne, N_ne', N_ltm, N_mlt, N_lem] <;> omega) (c_takeW (w := 185) h35 (by omega) (by omega) (fun x1 f1 c1 _ => ⟨N_in ⟨by omega, by omega⟩, fun s3 e3 => ?_⟩))
    rw [N_cl (by omega)] at e3
    have g1 : Fr pSi x x1 := f1.mono fun b j q => by
      have := of_decide_eq_false q
      exact pT_f (by omega)
    refine c_foreI hN (by omega) hp hyr h0 (fun x' f' S' => c_foreO hN hp hyr h0 hq n (w + 1) x' f' S' (by omega) (by omega)) 2048 0 s3 (by rw [e3]; exact (hF.tr g1).si (pSi_t (by omega))) (fun _ => by rw [e3]; exact c1.w (by omega)) ?_ (by omega) (by omega)
    intro u k hu hk hl
    rw [e3, g_ne (by omega), f1.i _ _ (pT_f (by omega))]
    exact hS u k hu hk hl
theorem c_farY {W : WW} {x : fz_s} (h : x.1 35 5 = nI W.2.2.2.2.2) (hy : W.2.2.2.2.2 ≤ 999) {Q : Int32 → fz_s → Prop} (hq : Q (nI (farY W)) x) : wp_X6_farthestYear 35 x Q := by
  unfold wp_X6_farthestYear
  rw [h, show (999 : Int32) - nI W.2.2.2.2.2 = nI (999 - W.2.2.2.2.2) from N_sub (a := 999) hy]
  have e : (nI (999 - W.2.2.2.2.2) < 30) ↔ 999 - W.2.2.2.2.2 < 30 := N_lt (b := 30) ⟨by omega, by omega⟩
  unfold farY at hq
  by_cases c : 999 - W.2.2.2.2.2 < 30
  · rw [if_pos (e.mpr c)]
    rw [if_pos c] at hq
    exact hq
  · rw [if_neg (fun q => c (e.mp q))]
    rw [if_neg c] at hq
    exact hq
theorem farY_le (W : WW) : farY W ≤ 30 := by
  unfold farY
  split <;> omega
theorem farY_y {W : WW} (h : W.2.2.2.2.2 ≤ 999) : W.2.2.2.2.2 + farY W ≤ 999 := by
  unfold farY
  split <;> omega
def mnN (a b : Nat) : Nat := if a < b then a else b
theorem c_foresee {T : TT} {W : WW} {p A : Nat} {x : fz_s} (h : CC T W 35 x) (hp : p < T.1) (hy : W.2.2.2.2.2 ≤ 999) (hA : A ≤ 30) {Q : fz_s → Prop} (hq : ∀ x', Fr pSi x x' → SW T W p (mnN (farY W) A) 10 0 (x'.1 192) → Q x') : wp_X6_foresee 35 (nI p) (nI A) x Q := by
  have f1 := farY_le W
  have f2 := farY_y hy
  unfold wp_X6_foresee
  refine c_farY h.2.2.2.1.2.2.2.2.2 hy ?_
  intro x3 e3
  have e4 : x3 = nI (mnN (farY W) A) := by
    rw [e3]
    unfold mnN
    have e : (nI (farY W) < nI A) ↔ farY W < A := N_lt ⟨by omega, by omega⟩
    by_cases c : farY W < A
    · rw [if_pos (e.mpr c), if_pos c]
    · rw [if_neg (fun q => c (e.mp q)), if_neg c]
  rw [e4]
  have g1 : mnN (farY W) A ≤ farY W := by unfold mnN; split <;> omega
  exact c_foreO (by omega) hp (by omega) h hq 2048 0 x Fr.rf (fun u k hu hk hl => by omega) (by omega) (by omega)
theorem c_farS_lp {rs : Nat → Nat × Nat × Nat} {rn : Nat} {x : fz_s} (hr : rn ≤ 16) (h5 : x.1 184 5 = nI rn) (hR : ∀ k, k < rn → (rs k).1 ≤ 30 ∧ x.1 191 (4 * k) = nI (rs k).1) {Q : Int32 → fz_s → Prop} (hq : Q (nI (fmx rs rn)) x) : ∀ (n k : Nat), k ≤ rn → rn < n + k → lp_X6_farthestSeen_4 Q n (nI (fmx rs k)) (nI k) x
  | 0, k, h1, h2 => absurd h2 (by omega)
  | n + 1, k, h1, h2 => by
    show nd_X6_farthestSeen_4 (lp_X6_farthestSeen_4 Q n) Q (nI (fmx rs k)) (nI k) x
    unfold nd_X6_farthestSeen_4
    rw [h5]
    by_cases c : k = rn
    · subst c
      exact bt (by simp (disch := omega) only [N_lit, N_add, N_mul, N_sub, N_addneg, N_neg1, N_addm, N_le, N_lt, N_eq, N_in, N_cl, N_ne, N_ne', N_ltm, N_mlt, N_lem] <;> omega) hq
    have hk := hR k (by omega)
    have hm : fmx rs k ≤ 30 := (fmx_le k).mpr (fun j hj => (hR j (by omega)).1)
    refine bf (by simp (disch := omega) only [N_lit, N_add, N_mul, N_sub, N_addneg, N_neg1, N_addm, N_le, N_lt, N_eq, N_in, N_cl, N_ne, N_ne', N_ltm, N_mlt, N_lem] <;> omega) ?_
    rw [show nI k * 4 = nI (4 * k) by rw [show nI k * 4 = nI (k * 4) from N_mul k 4, Nat.mul_comm], N_cl (by omega), hk.2, nI_1]
    refine ⟨N_in ⟨by omega, by omega⟩, fun x1 e1 x2 e2 => ?_⟩
    have e : (nI (fmx rs k) < nI (rs k).1) ↔ fmx rs k < (rs k).1 := N_lt ⟨by omega, by omega⟩
    have e3 : x1 = nI (fmx rs (k + 1)) := by
      rw [e1]
      show _ = nI (if fmx rs k < (rs k).1 then (rs k).1 else fmx rs k)
      by_cases c : fmx rs k < (rs k).1
      · rw [if_pos (e.mpr c), if_pos c]
      · rw [if_neg (fun q => c (e.mp q)), if_neg c]
    rw [e3, e2]
    exact c_farS_lp hr h5 hR hq n (k + 1) (by omega) (by omega)
theorem c_fits_lp {T : TT} {W : WW} {p N w : Nat} {rs : Nat → Nat × Nat × Nat} {rn : Nat} {x : fz_s} (hN : N ≤ 30) (hw : w < 10) (hS : SW T W p N 10 0 (x.1 192)) (hr : rn ≤ 16) (h5 : x.1 184 5 = nI rn) (hR : ∀ k, k < rn → (rs k).1 ≤ N ∧ (rs k).2.1 ≤ 1 ∧ (rs k).2.2 ≤ 999 ∧ x.1 191 (4 * k) = nI (rs k).1 ∧ x.1 191 (4 * k + 1) = nI (rs k).2.1 ∧ x.1 191 (4 * k + 2) = nI ((rs k).2.2 / 256) ∧ x.1 191 (4 * k + 3) = nI ((rs k).2.2 % 256)) (hH : ∀ a v, v < 2 → hsW T W p w a v ≤ 999) {Q : Bool → fz_s → Prop} (hq : Q (fcK T W p rs w rn) x) : ∀ (n k : Nat), fcK T W p rs w k = true → k ≤ rn → rn < n + k → lp_X6_fits_2 Q n (nI w) (nI k) x
  | 0, k, _, h1, h2 => absurd h2 (by omega)
  | n + 1, k, ho, h1, h2 => by
    show nd_X6_fits_2 (lp_X6_fits_2 Q n) Q (nI w) (nI k) x
    unfold nd_X6_fits_2
    rw [h5]
    by_cases c : k = rn
    · subst c
      rw [ho] at hq
      exact bt (by simp (disch := omega) only [N_lit, N_add, N_mul, N_sub, N_addneg, N_neg1, N_addm, N_le, N_lt, N_eq, N_in, N_cl, N_ne, N_ne', N_ltm, N_mlt, N_lem] <;> omega) hq
    obtain ⟨a1, a2, a3, a4, a5, a6, a7⟩ := hR k (by omega)
    refine bf (by simp (disch := omega) only [N_lit, N_add, N_mul, N_sub, N_addneg, N_neg1, N_addm, N_le, N_lt, N_eq, N_in, N_cl, N_ne, N_ne', N_ltm, N_mlt, N_lem] <;> omega) ?_
    intro x1 e1
    rw [show nI k * 4 = nI (4 * k) by rw [show nI k * 4 = nI (k * 4) from N_mul k 4, Nat.mul_comm]] at e1
    subst e1
    rw [nI_1, N_cl (by omega), N_cl (by omega), a4, a5, nI_1]
    refine ⟨N_in ⟨by omega, by omega⟩, N_in ⟨by omega, by omega⟩, c_cell6 ⟨N_in ⟨by omega, by omega⟩, ?_⟩⟩
    have hh := hH (rs k).1 (rs k).2.1 (by omega)
    have r1 : x.1 192 (62 * w + 2 * (rs k).1 + (rs k).2.1) = nI (hsW T W p w (rs k).1 (rs k).2.1) := by
      have := hS w (2 * (rs k).1 + (rs k).2.1) (by omega) (by omega) (by omega)
      unfold Hk at this
      rw [show (2 * (rs k).1 + (rs k).2.1) / 2 = (rs k).1 by omega, show (2 * (rs k).1 + (rs k).2.1) % 2 = (rs k).2.1 by omega, ← Nat.add_assoc] at this
      exact this
    have key : wp_X11_pairAt 191 64 (nI (4 * k) + 2) x (fun r4 s5 => ((nI (hsW T W p w (rs k).1 (rs k).2.1) = r4 → ∀ x6 : Int32, x6 = nI (k + 1) → lp_X6_fits_2 Q n (nI w) x6 s5) ∧ (¬ nI (hsW T W p w (rs k).1 (rs k).2.1) = r4 → Q false s5))) := by
      unfold wp_X11_pairAt
      rw [show nI (4 * k) + 2 = nI (4 * k + 2) from N_add _ 2, nI_1, N_cl (by omega), N_cl (by omega), a6, show 4 * k + 2 + 1 = 4 * k + 3 by omega, a7, show nI ((rs k).2.2 / 256) * 256 = nI ((rs k).2.2 / 256 * 256) from N_mul _ 256, N_add, show (rs k).2.2 / 256 * 256 + (rs k).2.2 % 256 = (rs k).2.2 by omega]
      refine bf (by simp (disch := omega) only [N_lit, N_add, N_mul, N_sub, N_addneg, N_neg1, N_addm, N_le, N_lt, N_eq, N_in, N_cl, N_ne, N_ne', N_ltm, N_mlt, N_lem] <;> omega) (bt (by simp (disch := omega) only [N_lit, N_add, N_mul, N_sub, N_addneg, N_neg1, N_addm, N_le, N_lt, N_eq, N_in, N_cl, N_ne, N_ne', N_ltm, N_mlt, N_lem] <;> omega) ⟨N_in ⟨by omega, by omega⟩, N_in ⟨by omega, by omega⟩, ?_⟩)
      dsimp only
      rw [N_eq ⟨by omega, by omega⟩]
      have hs : fcK T W p rs w (k + 1) = decide (hsW T W p w (rs k).1 (rs k).2.1 = (rs k).2.2) := by
        show (fcK T W p rs w k && _) = _
        rw [ho, Bool.true_and]
      refine ⟨fun e x6 e6 => ?_, fun e => ?_⟩
      · subst e6
        exact c_fits_lp hN hw hS hr h5 hR hH hq n (k + 1) (by rw [hs]; exact decide_eq_true e) (by omega) (by omega)
      · have : fcK T W p rs w rn = false := Bool.eq_false_iff.mpr fun z => e ((fcK_t rn).mp z k (by omega))
        rw [this] at hq
        exact hq
    rw [N_cl (by omega), r1]
    exact key

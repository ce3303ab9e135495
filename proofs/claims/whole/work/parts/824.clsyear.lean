/-! THE CLASS'S YEAR -/
def pY (w a j : Nat) : Bool := decide (a = 32 ∨ a = 33 ∨ a = 34 ∨ (w + 1 ≤ a ∧ a ≤ w + 5) ∨ (a = w ∧ j = 5))
theorem pY_f {w a j : Nat} (h : ¬ (a = 32 ∨ a = 33 ∨ a = 34 ∨ (w + 1 ≤ a ∧ a ≤ w + 5) ∨ (a = w ∧ j = 5))) : pY w a j = false := decide_eq_false h
theorem pE_pY {w : Nat} {s s' : fz_s} (h : Fr pE s s') : Fr (pY w) s s' := h.mono fun a j q => by
  have := of_decide_eq_false q
  exact pE_f (by omega)
def pX (w a _j : Nat) : Bool := decide (w + 1 ≤ a ∧ a ≤ w + 5)
theorem pX_f {w a j : Nat} (h : ¬ (w + 1 ≤ a ∧ a ≤ w + 5)) : pX w a j = false := decide_eq_false h
theorem pX_pY {w : Nat} {s s' : fz_s} (h : Fr (pX w) s s') : Fr (pY w) s s' := h.mono fun a j q => by
  have := of_decide_eq_false q
  exact pX_f (by omega)
theorem c_bit {b : Bool} {s : fz_s} {Q : Int32 → fz_s → Prop} (hq : Q (nI (if b = true then 1 else 0)) s) : wp_X11_bit b s Q := by
  unfold wp_X11_bit
  cases b with
  | false => exact ⟨fun _ => hq, fun h => (by cases h)⟩
  | true => exact ⟨fun h => (by cases h), fun _ => hq⟩
theorem CT.w {T : TT} {x : fz_s} (h : CT T x) {a j : Nat} {v : Int32} (ha : 32 ≤ a) : CT T (si x a j v) := h.cong (g_ne (by omega)) (fun b hb k => g_ne (by omega))
theorem CC.h {T : TT} {W : WW} {w : Nat} {x : fz_s} (h : CC T W w x) {v n : Nat} (hn : n ≤ 999) : CC T (stH W v n) w (si x (w + 1 + 0) v (nI n)) := by
  obtain ⟨h1, h2, h3, ⟨a1, a2, a3, a4, a5, a6⟩, h5⟩ := h
  refine ⟨h1, h2.h hn, h3.w (by omega), ⟨fun q hq => ?_, fun q hq => ?_, fun q hq => ?_, fun q hq => ?_, fun q hq => ?_, ?_⟩, h5⟩
  · show _ = nI (upf W.1 v n q)
    by_cases c : q = v
    · subst c; rw [upf_eq, g_eq]
    · rw [upf_ne c, g_nj c, a1 q hq]
  · rw [g_ne (by omega)]; exact a2 q hq
  · rw [g_ne (by omega)]; exact a3 q hq
  · rw [g_ne (by omega)]; exact a4 q hq
  · rw [g_ne (by omega)]; exact a5 q hq
  · rw [g_ne (by omega)]; exact a6
theorem CC.qz {T : TT} {W : WW} {w : Nat} {x : fz_s} (h : CC T W w x) {v n : Nat} (hn : n ≤ 99) {z : Int32} (hz : T.2.1 9 ≠ 5 → z = nI n) : CC T (stQ W v n) w (si x (w + 1 + 1) v z) := by
  obtain ⟨h1, h2, h3, ⟨a1, a2, a3, a4, a5, a6⟩, h5⟩ := h
  refine ⟨h1, h2.q hn, h3.w (by omega), ⟨fun q hq => ?_, fun q hq => ?_, fun q hq => ?_, fun q hq => ?_, fun q hq => ?_, ?_⟩, h5⟩
  · rw [g_ne (by omega)]; exact a1 q hq
  · intro hy
    show _ = nI (upf W.2.1 v n q)
    by_cases c : q = v
    · subst c; rw [upf_eq, g_eq, hz hy]
    · rw [upf_ne c, g_nj c, a2 q hq hy]
  · rw [g_ne (by omega)]; exact a3 q hq
  · rw [g_ne (by omega)]; exact a4 q hq
  · rw [g_ne (by omega)]; exact a5 q hq
  · rw [g_ne (by omega)]; exact a6
theorem CC.q {T : TT} {W : WW} {w : Nat} {x : fz_s} (h : CC T W w x) {v n : Nat} (hn : n ≤ 99) : CC T (stQ W v n) w (si x (w + 1 + 1) v (nI n)) := h.qz hn (fun _ => rfl)
theorem CC.w {T : TT} {W : WW} {w : Nat} {x : fz_s} (h : CC T W w x) {v n : Nat} (hn : n ≤ 9) : CC T (stW W v n) w (si x (w + 1 + 2) v (nI n)) := by
  obtain ⟨h1, h2, h3, ⟨a1, a2, a3, a4, a5, a6⟩, h5⟩ := h
  refine ⟨h1, h2.w hn, h3.w (by omega), ⟨fun q hq => ?_, fun q hq => ?_, fun q hq => ?_, fun q hq => ?_, fun q hq => ?_, ?_⟩, h5⟩
  · rw [g_ne (by omega)]; exact a1 q hq
  · rw [g_ne (by omega)]; exact a2 q hq
  · show _ = nI (upf W.2.2.1 v n q)
    by_cases c : q = v
    · subst c; rw [upf_eq, g_eq]
    · rw [upf_ne c, g_nj c, a3 q hq]
  · rw [g_ne (by omega)]; exact a4 q hq
  · rw [g_ne (by omega)]; exact a5 q hq
  · rw [g_ne (by omega)]; exact a6
theorem CC.o {T : TT} {W : WW} {w : Nat} {x : fz_s} (h : CC T W w x) {v n : Nat} (hn : n ≤ 99) : CC T (stO W v n) w (si x (w + 1 + 4) v (nI n)) := by
  obtain ⟨h1, h2, h3, ⟨a1, a2, a3, a4, a5, a6⟩, h5⟩ := h
  refine ⟨h1, h2.o hn, h3.w (by omega), ⟨fun q hq => ?_, fun q hq => ?_, fun q hq => ?_, fun q hq => ?_, fun q hq => ?_, ?_⟩, h5⟩
  · rw [g_ne (by omega)]; exact a1 q hq
  · rw [g_ne (by omega)]; exact a2 q hq
  · rw [g_ne (by omega)]; exact a3 q hq
  · rw [g_ne (by omega)]; exact a4 q hq
  · show _ = nI (upf W.2.2.2.2.1 v n q)
    by_cases c : q = v
    · subst c; rw [upf_eq, g_eq]
    · rw [upf_ne c, g_nj c, a5 q hq]
  · rw [g_ne (by omega)]; exact a6
theorem CC.y {T : TT} {W : WW} {w : Nat} {x : fz_s} (h : CC T W w x) {n : Nat} (hn : n ≤ 2000) : CC T (stY W n) w (si x w 5 (nI n)) := by
  obtain ⟨h1, h2, h3, ⟨a1, a2, a3, a4, a5, a6⟩, h5⟩ := h
  refine ⟨h1, h2.y hn, h3.w (by omega), ⟨fun q hq => ?_, fun q hq => ?_, fun q hq => ?_, fun q hq => ?_, fun q hq => ?_, ?_⟩, h5⟩
  · rw [g_ne (by omega)]; exact a1 q hq
  · rw [g_ne (by omega)]; exact a2 q hq
  · rw [g_ne (by omega)]; exact a3 q hq
  · rw [g_ne (by omega)]; exact a4 q hq
  · rw [g_ne (by omega)]; exact a5 q hq
  · exact g_eq
theorem CC.c {T : TT} {W : WW} {w : Nat} {x : fz_s} (h : CC T W w x) {p : Nat} (hp : p < T.1) : CC T (crs W p) w (si (si x (w + 1 + 3) p (nI (1 - lv T W p))) (w + 1 + 4) p (nI 0)) := by
  obtain ⟨h1, h2, h3, ⟨a1, a2, a3, a4, a5, a6⟩, h5⟩ := h
  refine ⟨h1, h2.c, (h3.w (by omega)).w (by omega), ⟨fun q hq => ?_, fun q hq => ?_, fun q hq => ?_, fun q hq => ?_, fun q hq => ?_, ?_⟩, h5⟩
  · rw [g_ne (by omega), g_ne (by omega)]; exact a1 q hq
  · rw [g_ne (by omega), g_ne (by omega)]; exact a2 q hq
  · rw [g_ne (by omega), g_ne (by omega)]; exact a3 q hq
  · rw [g_ne (by omega), lv_crs (h1.2.1 p hp)]
    by_cases c : q = p
    · subst c; rw [if_pos rfl, g_eq]
    · rw [if_neg c, g_nj c, a4 q hq]
  · show _ = nI (upf W.2.2.2.2.1 p 0 q)
    by_cases c : q = p
    · subst c; rw [upf_eq, g_eq]
    · rw [upf_ne c, g_nj c, g_ne (by omega), a5 q hq]
  · rw [g_ne (by omega), g_ne (by omega)]; exact a6
theorem CC.sent {T : TT} {W : WW} {w : Nat} {x : fz_s} (h : CC T W w x) {j : Nat} {v : Int32} : CC T W w (si x 34 j v) := by
  obtain ⟨h1, h2, h3, h4, h5⟩ := h
  exact ⟨h1, h2, h3.w (by omega), h4.cong (fun a j ha _ => g_ne (by omega)), h5⟩
theorem c_cross {T : TT} {W : WW} {w p : Nat} {x : fz_s} (h : CC T W w x) (hp : p < T.1) {Q : fz_s → Prop} (hq : ∀ x', CC T (crs W p) w x' → Fr (pX w) x x' → Q x') : wp_X10_cross w (nI p) x Q := by
  have hn := h.1.1
  have hl := lv_le (W := W) h.1 hp
  unfold wp_X10_cross
  have hi : vp_in (nI p) 8 := N_in ⟨by omega, by omega⟩
  refine ⟨hi, hi, fun s1 e1 => ⟨hi, fun s2 e2 => ?_⟩⟩
  rw [N_cl (by omega), h.2.2.2.1.2.2.2.1 p hp, show (1 : Int32) - nI (lv T W p) = nI (1 - lv T W p) from N_sub (a := 1) hl] at e1
  rw [N_cl (by omega), e1] at e2
  subst e2
  exact hq _ (h.c hp) ((Fr.rf.si (decide_eq_true (by omega))).si (decide_eq_true (by omega)))
theorem c_living_lp {T : TT} {W : WW} {w v : Nat} (hv : v < 2) {x : fz_s} (h : CC T W w x) {Q : Int32 → fz_s → Prop} (hq : Q (nI (cnt (fun p => decide (lv T W p = v)) T.1)) x) : ∀ (n k : Nat), k ≤ T.1 → T.1 < n + k → lp_X0_countLiving_5 w Q n (nI v) (nI (cnt (fun p => decide (lv T W p = v)) k)) (nI k) x
  | 0, k, h1, h2 => absurd h2 (by omega)
  | n + 1, k, h1, h2 => by
    have hn := h.1.1
    show nd_X0_countLiving_5 w (lp_X0_countLiving_5 w Q n) Q (nI v) (nI (cnt (fun p => decide (lv T W p = v)) k)) (nI k) x
    unfold nd_X0_countLiving_5
    rw [h.2.2.1.1]
    by_cases hk : k = T.1
    · subst hk
      exact bt (by simp (disch := omega) only [N_lit, N_add, N_mul, N_sub, N_addneg, N_neg1, N_addm, N_le, N_lt, N_eq, N_in, N_cl, N_ne, N_ne', N_ltm, N_mlt, N_lem] <;> omega) hq
    have hk2 : k < T.1 := by omega
    have hl := lv_le (W := W) h.1 hk2
    have ih := c_living_lp hv h hq n (k + 1) (by omega) (by omega)
    refine bf (by simp (disch := omega) only [N_lit, N_add, N_mul, N_sub, N_addneg, N_neg1, N_addm, N_le, N_lt, N_eq, N_in, N_cl, N_ne, N_ne', N_ltm, N_mlt, N_lem] <;> omega) ⟨N_in ⟨by omega, by omega⟩, ?_⟩
    rw [N_cl (by omega), h.2.2.2.1.2.2.2.1 k hk2, N_eq ⟨by omega, by omega⟩]
    have e1 : nI k + 1 = nI (k + 1) := nI_1 k
    refine ⟨fun q => ?_, fun q => ?_⟩
    · refine c_bit ?_
      intro x3 e3 x4 e4
      rw [e3, e4, e1, N_add]
      unfold cnt at ih
      rw [if_neg (fun z => q (of_decide_eq_true z))] at ih
      exact ih
    · refine c_bit ?_
      intro x3 e3 x4 e4
      rw [e3, e4, e1, N_add]
      unfold cnt at ih
      rw [if_pos (decide_eq_true q)] at ih
      exact ih
theorem c_living {T : TT} {W : WW} {w v : Nat} (hv : v < 2) {x : fz_s} (h : CC T W w x) {Q : Int32 → fz_s → Prop} (hq : Q (nI (cnt (fun p => decide (lv T W p = v)) T.1)) x) : wp_X0_countLiving w (nI v) x Q := c_living_lp hv h hq 2048 0 (by omega) (by have := h.1.1; omega)
theorem c_own_lp {T : TT} {W : WW} {w v : Nat} (hv : v < 2) {x : fz_s} (h : CC T W w x) {Q : Int32 → fz_s → Prop} (hq : Q (nI (cnt (own T W v) T.1)) x) : ∀ (n k : Nat), k ≤ T.1 → T.1 < n + k → lp_X0_countOwn_5 w Q n (nI v) (nI (cnt (own T W v) k)) (nI k) x
  | 0, k, h1, h2 => absurd h2 (by omega)
  | n + 1, k, h1, h2 => by
    have hn := h.1.1
    show nd_X0_countOwn_5 w (lp_X0_countOwn_5 w Q n) Q (nI v) (nI (cnt (own T W v) k)) (nI k) x
    unfold nd_X0_countOwn_5
    rw [h.2.2.1.1]
    by_cases hk : k = T.1
    · subst hk
      exact bt (by simp (disch := omega) only [N_lit, N_add, N_mul, N_sub, N_addneg, N_neg1, N_addm, N_le, N_lt, N_eq, N_in, N_cl, N_ne, N_ne', N_ltm, N_mlt, N_lem] <;> omega) hq
    have hk2 : k < T.1 := by omega
    have ih := c_own_lp hv h hq n (k + 1) (by omega) (by omega)
    refine bf (by simp (disch := omega) only [N_lit, N_add, N_mul, N_sub, N_addneg, N_neg1, N_addm, N_le, N_lt, N_eq, N_in, N_cl, N_ne, N_ne', N_ltm, N_mlt, N_lem] <;> omega) (c_canSend h hk2 hv (c_bit ?_))
    intro x3 e3 x4 e4
    rw [e3, e4, show nI k + 1 = nI (k + 1) from nI_1 k, N_add]
    exact ih
theorem c_own {T : TT} {W : WW} {w v : Nat} (hv : v < 2) {x : fz_s} (h : CC T W w x) {Q : Int32 → fz_s → Prop} (hq : Q (nI (cnt (own T W v) T.1)) x) : wp_X0_countOwn w (nI v) x Q := c_own_lp hv h hq 2048 0 (by omega) (by have := h.1.1; omega)
theorem c_away_lp {T : TT} {W : WW} {w : Nat} {x : fz_s} (h : CC T W w x) {Q : Int32 → fz_s → Prop} (hq : Q (nI (cnt W.2.2.2.1 T.1)) x) : ∀ (n k : Nat), k ≤ T.1 → T.1 < n + k → lp_X0_countAway_4 w Q n (nI (cnt W.2.2.2.1 k)) (nI k) x
  | 0, k, h1, h2 => absurd h2 (by omega)
  | n + 1, k, h1, h2 => by
    have hn := h.1.1
    show nd_X0_countAway_4 w (lp_X0_countAway_4 w Q n) Q (nI (cnt W.2.2.2.1 k)) (nI k) x
    unfold nd_X0_countAway_4
    rw [h.2.2.1.1]
    by_cases hk : k = T.1
    · subst hk
      exact bt (by simp (disch := omega) only [N_lit, N_add, N_mul, N_sub, N_addneg, N_neg1, N_addm, N_le, N_lt, N_eq, N_in, N_cl, N_ne, N_ne', N_ltm, N_mlt, N_lem] <;> omega) hq
    have hk2 : k < T.1 := by omega
    have hl := lv_le (W := W) h.1 hk2
    have hm := h.1.2.1 k hk2
    have ih := c_away_lp h hq n (k + 1) (by omega) (by omega)
    have e1 : nI k + 1 = nI (k + 1) := nI_1 k
    refine bf (by simp (disch := omega) only [N_lit, N_add, N_mul, N_sub, N_addneg, N_neg1, N_addm, N_le, N_lt, N_eq, N_in, N_cl, N_ne, N_ne', N_ltm, N_mlt, N_lem] <;> omega) ⟨N_in ⟨by omega, by omega⟩, N_in ⟨by omega, by omega⟩, ?_⟩
    rw [N_cl (by omega), h.2.2.2.1.2.2.2.1 k hk2, h.2.2.1.2.1 k hk2, N_eq ⟨by omega, by omega⟩]
    unfold cnt at ih
    refine ⟨fun q => ?_, fun q => ?_⟩
    · refine c_bit ?_
      intro x3 e3 x4 e4
      rw [e3, e4, e1, N_add]
      rw [if_neg (fun z => by unfold lv at q; rw [if_pos z] at q; omega)] at ih
      exact ih
    · refine c_bit ?_
      intro x3 e3 x4 e4
      rw [e3, e4, e1, N_add]
      rw [if_pos (Decidable.byContradiction fun z => by unfold lv at q; rw [if_neg z] at q; omega)] at ih
      exact ih
theorem c_away {T : TT} {W : WW} {w : Nat} {x : fz_s} (h : CC T W w x) {Q : Int32 → fz_s → Prop} (hq : Q (nI (cnt W.2.2.2.1 T.1)) x) : wp_X0_countAway w x Q := c_away_lp h hq 2048 0 (by omega) (by have := h.1.1; omega)
theorem c_passed_lp {T : TT} {W : WW} {w : Nat} {x0 : fz_s} {Q : Int32 → fz_s → Prop} (hq : ∀ x', Fr pE x0 x' → Q (nI (cnt (pass T W) T.1)) x') : ∀ (n k : Nat) (x : fz_s), CC T W w x → Fr pE x0 x → k ≤ T.1 → T.1 < n + k → lp_X0_countPassed_4 w Q n (nI (cnt (pass T W) k)) (nI k) x
  | 0, k, x, _, _, h1, h2 => absurd h2 (by omega)
  | n + 1, k, x, h, hF, h1, h2 => by
    have hn := h.1.1
    show nd_X0_countPassed_4 w (lp_X0_countPassed_4 w Q n) Q (nI (cnt (pass T W) k)) (nI k) x
    unfold nd_X0_countPassed_4
    rw [h.2.2.1.1]
    by_cases hk : k = T.1
    · subst hk
      exact bt (by simp (disch := omega) only [N_lit, N_add, N_mul, N_sub, N_addneg, N_neg1, N_addm, N_le, N_lt, N_eq, N_in, N_cl, N_ne, N_ne', N_ltm, N_mlt, N_lem] <;> omega) (hq x hF)
    have hk2 : k < T.1 := by omega
    refine bf (by simp (disch := omega) only [N_lit, N_add, N_mul, N_sub, N_addneg, N_neg1, N_addm, N_le, N_lt, N_eq, N_in, N_cl, N_ne, N_ne', N_ltm, N_mlt, N_lem] <;> omega) ?_
    rw [i_nI k]
    refine c_wouldPass h ⟨by omega, by omega⟩ (fun x' hF' => c_bit ?_)
    have ih := c_passed_lp hq n (k + 1) x' (h.fr hF') (hF.tr hF') (by omega) (by omega)
    intro x3 e3 x4 e4
    rw [e3, e4, ← i_nI k, show nI k + 1 = nI (k + 1) from nI_1 k, N_add, passI_n hk2]
    exact ih
theorem c_passed {T : TT} {W : WW} {w : Nat} {x : fz_s} (h : CC T W w x) {Q : Int32 → fz_s → Prop} (hq : ∀ x', Fr pE x x' → Q (nI (cnt (pass T W) T.1)) x') : wp_X0_countPassed w x Q := c_passed_lp hq 2048 0 x h Fr.rf (by omega) (by have := h.1.1; omega)
theorem c_cut {hi : Nat} {z : Int} {y : Int32} (hy : y = nI hi) (hh : hi < 1000) (hz : -100000000 ≤ z ∧ z ≤ 100000000) : (if 0 < (if iI z < y then iI z else y) then (if iI z < y then iI z else y) else 0) = nI (cut0 hi z) := by
  subst hy
  rw [i_nI hi]
  have e1 : (iI z < iI hi) ↔ z < hi := i_lt ⟨⟨by omega, by omega⟩, by omega, by omega⟩
  have e2 : ((0 : Int32) < iI z) ↔ 0 < z := i_lt (a := 0) ⟨⟨by omega, by omega⟩, by omega, by omega⟩
  have e3 : ((0 : Int32) < iI hi) ↔ 0 < (hi : Int) := i_lt (a := 0) ⟨⟨by omega, by omega⟩, by omega, by omega⟩
  unfold cut0
  by_cases c1 : z < hi
  · rw [if_pos (e1.mpr c1)]
    by_cases c2 : 0 < z
    · rw [if_pos (e2.mpr c2), if_neg (by omega), if_neg (by omega), i_nI, show ((z.toNat : Nat) : Int) = z by omega]
    · rw [if_neg (fun q => c2 (e2.mp q))]
      by_cases c3 : z < 0
      · rw [if_pos c3]; rfl
      · rw [if_neg c3, if_neg (by omega), show z = 0 by omega]; rfl
  · rw [if_neg (fun q => c1 (e1.mp q))]
    by_cases c2 : 0 < (hi : Int)
    · rw [if_pos (e3.mpr c2), if_neg (by omega), i_nI]
      split
      · rfl
      · rw [show ((z.toNat : Nat) : Int) = hi by omega]
    · rw [if_neg (fun q => c2 (e3.mp q)), if_neg (by omega)]
      have : hi = 0 := by omega
      subst this
      split
      · rfl
      · rw [show z = 0 by omega]; rfl
theorem c_nextHarvest_lp {T : TT} {W : WW} {w v : Nat} (hv : v < 2) {x0 : fz_s} {Q : Int32 → fz_s → Prop} (hq : ∀ x', Fr pE x0 x' → Q (nI (nh T W v)) x') : ∀ (n k : Nat) (x : fz_s), CC T W w x → Fr pE x0 x → k ≤ T.1 → T.1 < n + k → lp_X0_nextHarvest_10 w Q n (nI v) (iI ((W.1 v : Int) + hsm T W v k)) (nI k) x
  | 0, k, x, _, _, h1, h2 => absurd h2 (by omega)
  | n + 1, k, x, h, hF, h1, h2 => by
    obtain ⟨hT, hW, cT, cW, hw⟩ := id h
    have hn := hT.1
    have hb := hsm_bd hT hW hv k h1
    have hh := hW.1 v hv
    show nd_X0_nextHarvest_10 w (lp_X0_nextHarvest_10 w Q n) Q (nI v) (iI ((W.1 v : Int) + hsm T W v k)) (nI k) x
    unfold nd_X0_nextHarvest_10
    rw [cT.1]
    by_cases hk : k = T.1
    · subst hk
      refine bt (by simp (disch := omega) only [N_lit, N_add, N_mul, N_sub, N_addneg, N_neg1, N_addm, N_le, N_lt, N_eq, N_in, N_cl, N_ne, N_ne', N_ltm, N_mlt, N_lem] <;> omega) ?_
      rw [c_cut (hi := 999) (y := 999) (z := (W.1 v : Int) + hsm T W v T.1) rfl (by omega) ⟨by omega, by omega⟩]
      exact hq x hF
    have hk2 : k < T.1 := by omega
    have hl := lv_le (W := W) hT hk2
    have e1 : nI k + 1 = nI (k + 1) := nI_1 k
    refine bf (by simp (disch := omega) only [N_lit, N_add, N_mul, N_sub, N_addneg, N_neg1, N_addm, N_le, N_lt, N_eq, N_in, N_cl, N_ne, N_ne', N_ltm, N_mlt, N_lem] <;> omega) ⟨N_in ⟨by omega, by omega⟩, ?_⟩
    rw [N_cl (by omega), cW.2.2.2.1 k hk2, N_eq ⟨by omega, by omega⟩]
    refine ⟨fun q => ?_, fun q => ?_⟩
    · intro x1 e
      rw [e, e1]
      have ih := c_nextHarvest_lp hv hq n (k + 1) x h hF (by omega) (by omega)
      unfold hsm at ih
      rw [if_neg q, Int.add_zero] at ih
      exact ih
    · rw [show (2 : Int32) = nI 2 from rfl]
      refine c_ruled hT hW cT cW hw (by omega) (by omega) hk2 hv (fun x' hF' => ?_)
      intro x4 e4 x5 e5
      rw [e4, e5, e1, i_add]
      have ih := c_nextHarvest_lp hv hq n (k + 1) x' (h.fr hF') (hF.tr hF') (by omega) (by omega)
      unfold hsm at ih
      rw [if_pos q, ← Int.add_assoc] at ih
      exact ih
theorem c_nextHarvest {T : TT} {W : WW} {w v : Nat} (hv : v < 2) {x : fz_s} (h : CC T W w x) {Q : Int32 → fz_s → Prop} (hq : ∀ x', Fr pE x x' → Q (nI (nh T W v)) x') : wp_X0_nextHarvest w (nI v) x Q := by
  unfold wp_X0_nextHarvest
  refine ⟨N_in ⟨by omega, by omega⟩, fun x1 e => ?_⟩
  rw [N_cl (by omega), h.2.2.2.1.1 v hv, i_nI] at e
  rw [e, ← Int.add_zero (W.1 v : Int)]
  exact c_nextHarvest_lp hv hq 2048 0 x h Fr.rf (by omega) (by have := h.1.1; omega)
theorem c_nextQuarrel {T : TT} {W : WW} {w v : Nat} (hv : v < 2) {x : fz_s} (h : CC T W w x) {Q : Int32 → fz_s → Prop} (hq : ∀ z x', Fr pE x x' → (T.2.1 9 ≠ 5 → z = nI (nq T W v)) → Q z x') : wp_X0_nextQuarrel w (nI v) x Q := by
  obtain ⟨hT, hW, cT, cW, hw⟩ := id h
  have hn := hT.1
  have hcl := cT.2.2.2.2 3 (by omega)
  unfold wp_X0_nextQuarrel
  refine ⟨N_in ⟨by omega, by omega⟩, fun s1 e1 => ⟨N_in ⟨by omega, by omega⟩, fun s2 e2 s3 e3 => ?_⟩⟩
  have hF3 : Fr pE x s3 := by
    rw [e3, e2, e1]
    exact (((Fr.rf.si (decide_eq_true (by omega))).si (decide_eq_true (by omega))).si (decide_eq_true (by omega)))
  have h3 := h.fr hF3
  refine c_living hv h3 (c_own hv h3 ?_)
  intro s8 e8
  have hg := gst_eq T W v
  rw [show nI (cnt (fun p => decide (lv T W p = v)) T.1) - nI (cnt (own T W v) T.1) = nI (gst T W v) by rw [N_sub (by omega), hg, Nat.add_sub_cancel_left]] at e8
  have hF8 : Fr pE x s8 := by
    rw [e8]
    exact hF3.si (decide_eq_true (by omega))
  rcases hcl with ⟨y1, y2, y3, y4⟩ | ⟨hne, l, a, b1, b2, b3, b4, b5⟩
  · have r1 : s8.1 15 3 = nI 0 := (hF8.i 15 3 (pE_f (by omega))).trans y3
    have r2 : s8.1 16 3 = nI 0 := (hF8.i 16 3 (pE_f (by omega))).trans y4
    show wp_X7_value 14 1632 (s8.1 15 3) (s8.1 16 3) s8 _
    rw [r1, r2]
    unfold wp_X7_value
    intro x1 f1 x2 f2
    have f1' : x1 = nI 0 := by rw [f1]; decide +kernel
    have f2' : x2 = nI 0 := by rw [f2]; decide +kernel
    rw [f1', f2']
    show nd_X7_value_18 14 1632 (lp_X7_value_18 14 1632 _ 2047) _ 0 (nI 0) (nI 0) s8
    unfold nd_X7_value_18
    refine bt (by decide +kernel) (bt (by decide +kernel) ?_)
    exact hq _ s8 hF8 (fun z => absurd y2 z)
  have r1 : s8.1 15 3 = nI a := (hF8.i 15 3 (pE_f (by omega))).trans b1
  have r2 : s8.1 16 3 = nI (a + l.length) := (hF8.i 16 3 (pE_f (by omega))).trans b2
  show wp_X7_value 14 1632 (s8.1 15 3) (s8.1 16 3) s8 _
  rw [r1, r2]
  have hb := env_bd3 (p := 0) hT hW hv
  have hr := (rv_dn (p := 0) hT (by omega) hb).1
  unfold bd at hr
  refine c_value (σ := env T W 0 v) (sc := scR 3) (v := rv T W 3 0 v) (by omega) ⟨b3, by omega⟩ (b4.cong (fun k _ _ => hF8.i 14 k (pE_f (by omega)))) hb (scR_12 3) (scR_14 3) (fun k hk hs => ?_) (b5 _ hb).1 (fun s' hF => ?_)
  · have hk2 : k ≤ 2 ∨ k = 7 := by
      unfold scR at hs
      rw [if_pos rfl] at hs
      exact of_decide_eq_true hs
    rcases (show k = 0 ∨ k = 1 ∨ k = 2 ∨ k = 7 by omega) with rfl | rfl | rfl | rfl
    · rw [env_0]
      simp (disch := omega) only [e8, e3, e2, e1, g_ne, g_nj, g_eq, N_lit, N_cl, cW.1 v hv]
      exact i_nI _
    · rw [env_1]
      simp (disch := omega) only [e8, e3, e2, e1, g_ne, g_nj, g_eq, N_lit, N_cl, cW.2.1 v hv hne]
      exact i_nI _
    · rw [env_2]
      simp (disch := omega) only [e8, e3, e2, e1, g_ne, g_nj, g_eq, N_lit, N_cl, cW.2.2.2.2.2]
      exact i_nI _
    · rw [env_7]
      simp (disch := omega) only [e8, g_eq, N_lit, N_cl]
      exact i_nI _
  · rw [c_cut (hi := 99) (y := 99) (z := rv T W 3 0 v) rfl (by omega) ⟨by omega, by omega⟩]
    exact hq _ s' (hF8.tr (p33_pE hF)) (fun _ => rfl)
theorem c_summer {T : TT} {W : WW} {w : Nat} {x : fz_s} (h : CC T W w x) {Q : fz_s → Prop} (hq : ∀ x', CC T (sumW T W) w x' → Fr (pY w) x x' → (∀ j, x'.1 34 j = x.1 34 j) → Q x') : wp_X0_summer w x Q := by
  have hw := h.2.2.2.2
  unfold wp_X0_summer
  refine c_nextHarvest (v := 0) (by omega) h (fun x1 hF1 => ?_)
  refine c_nextHarvest (v := 1) (by omega) (h.fr hF1) (fun x2 hF2 => ?_)
  intro s5 e5 s6 e6
  have hF := hF1.tr hF2
  have h6 : CC T (harW T W) w s6 := by
    rw [e6, e5]
    exact ((h.fr hF).h (cut0_le _ _)).h (cut0_le _ _)
  have hF6 : Fr (pY w) x s6 := by
    rw [e6, e5]
    exact ((pE_pY hF).si (decide_eq_true (by omega))).si (decide_eq_true (by omega))
  have hs6 : ∀ j, s6.1 34 j = x.1 34 j := fun j => by
    rw [e6, e5, g_ne (by omega), g_ne (by omega)]
    exact hF.i 34 j (pE_f (by omega))
  clear e5 e6
  show nd_X0_summer_31 w (lp_X0_summer_31 w Q 2047) Q (nI 0) s6
  unfold nd_X0_summer_31
  refine bf (by simp (disch := omega) only [N_lit, N_add, N_mul, N_sub, N_addneg, N_neg1, N_addm, N_le, N_lt, N_eq, N_in, N_cl, N_ne, N_ne', N_ltm, N_mlt, N_lem] <;> omega) (c_nextQuarrel (v := 0) (by omega) h6 (fun z7 x7 hF7 hz7 => ⟨N_in ⟨by omega, by omega⟩, fun s8 e8 y1 ey1 => ?_⟩))
  rw [N_cl (by omega)] at e8
  have h8 : CC T (stQ (harW T W) 0 (nq T (harW T W) 0)) w s8 := by
    rw [e8]
    exact (h6.fr hF7).qz (cut0_le _ _) hz7
  have hF8 : Fr (pY w) s6 s8 := by
    rw [e8]
    exact (pE_pY hF7).si (decide_eq_true (by omega))
  have hs8 : ∀ j, s8.1 34 j = s6.1 34 j := fun j => by
    rw [e8, g_ne (by omega)]
    exact hF7.i 34 j (pE_f (by omega))
  rw [ey1]
  show nd_X0_summer_31 w (lp_X0_summer_31 w Q 2046) Q (nI 1) s8
  unfold nd_X0_summer_31
  refine bf (by simp (disch := omega) only [N_lit, N_add, N_mul, N_sub, N_addneg, N_neg1, N_addm, N_le, N_lt, N_eq, N_in, N_cl, N_ne, N_ne', N_ltm, N_mlt, N_lem] <;> omega) (c_nextQuarrel (v := 1) (by omega) h8 (fun z9 x9 hF9 hz9 => ⟨N_in ⟨by omega, by omega⟩, fun s10 e10 y2 ey2 => ?_⟩))
  rw [N_cl (by omega)] at e10
  rw [nq_cg (W := harW T W) (W' := stQ (harW T W) 0 (nq T (harW T W) 0)) (v := 1) h6.1 h6.2.1 (by omega) rfl (show upf (harW T W).2.1 0 (nq T (harW T W) 0) 1 = (harW T W).2.1 1 from upf_ne (by omega)) rfl] at hz9
  have h10 : CC T (sumW T W) w s10 := by
    rw [e10]
    exact (h8.fr hF9).qz (cut0_le _ _) hz9
  have hF10 : Fr (pY w) s8 s10 := by
    rw [e10]
    exact (pE_pY hF9).si (decide_eq_true (by omega))
  have hs10 : ∀ j, s10.1 34 j = s8.1 34 j := fun j => by
    rw [e10, g_ne (by omega)]
    exact hF9.i 34 j (pE_f (by omega))
  rw [ey2]
  show nd_X0_summer_31 w (lp_X0_summer_31 w Q 2045) Q (nI 2) s10
  unfold nd_X0_summer_31
  exact bt (by simp (disch := omega) only [N_lit, N_add, N_mul, N_sub, N_addneg, N_neg1, N_addm, N_le, N_lt, N_eq, N_in, N_cl, N_ne, N_ne', N_ltm, N_mlt, N_lem] <;> omega) (hq s10 h10 ((hF6.tr hF8).tr hF10) (fun j => (hs10 j).trans ((hs8 j).trans (hs6 j))))
theorem lv_ne {T : TT} {W : WW} {p : Nat} (h : T.2.1 p ≤ 1) : lv T W p = T.2.1 p ↔ W.2.2.2.1 p = false := by
  unfold lv
  cases W.2.2.2.1 p with
  | false => exact ⟨fun _ => rfl, fun _ => rfl⟩
  | true => exact ⟨fun q => by rw [if_pos rfl] at q; omega, fun q => by cases q⟩
theorem c_autumn_lp {T : TT} {W : WW} {w : Nat} {x0 : fz_s} {Q : fz_s → Prop} (hq : ∀ x', CC T (autW T W) w x' → Fr (pY w) x0 x' → (∀ j, x'.1 34 j = x0.1 34 j) → Q x') : ∀ (n k : Nat) (x : fz_s), CC T (autS T W k) w x → Fr (pY w) x0 x → (∀ j, x.1 34 j = x0.1 34 j) → k ≤ T.1 → T.1 < n + k → lp_X0_autumn_2 w Q n (nI k) x
  | 0, k, x, _, _, _, h1, h2 => absurd h2 (by omega)
  | n + 1, k, x, h, hF, h34, h1, h2 => by
    obtain ⟨hT, hW, cT, cW, hw⟩ := id h
    have hn := hT.1
    show nd_X0_autumn_2 w (lp_X0_autumn_2 w Q n) Q (nI k) x
    unfold nd_X0_autumn_2
    rw [cT.1]
    by_cases hk : k = T.1
    · subst hk
      exact bt (by simp (disch := omega) only [N_lit, N_add, N_mul, N_sub, N_addneg, N_neg1, N_addm, N_le, N_lt, N_eq, N_in, N_cl, N_ne, N_ne', N_ltm, N_mlt, N_lem] <;> omega) (hq x h hF h34)
    have hk2 : k < T.1 := by omega
    have hl := lv_le (W := autS T W k) hT hk2
    have hm := hT.2.1 k hk2
    have e1 : nI k + 1 = nI (k + 1) := nI_1 k
    have hi : vp_in (nI k) 8 := N_in ⟨by omega, by omega⟩
    have ih := c_autumn_lp hq n (k + 1)
    refine bf (by simp (disch := omega) only [N_lit, N_add, N_mul, N_sub, N_addneg, N_neg1, N_addm, N_le, N_lt, N_eq, N_in, N_cl, N_ne, N_ne', N_ltm, N_mlt, N_lem] <;> omega) ⟨hi, hi, ?_⟩
    rw [N_cl (by omega), cW.2.2.2.1 k hk2, cT.2.1 k hk2, N_eq ⟨by omega, by omega⟩, lv_ne hm]
    refine ⟨fun q => ⟨hi, ?_⟩, fun q => ?_⟩
    · have q' : (autS T W k).2.2.2.1 k = true := (Bool.not_eq_false _).mp q
      rw [show (4 : Int32) = nI 4 from rfl]
      refine c_ruled hT hW cT cW hw (by omega) (by omega) hk2 (by omega) (fun x' hF' => ?_)
      have hb := rv_bd (r := 4) hT hW (by omega) hk2 (show lv T (autS T W k) k < 2 by omega)
      unfold bd at hb
      have e0 : (iI (rv T (autS T W k) 4 k (lv T (autS T W k) k)) = 0) ↔ rv T (autS T W k) 4 k (lv T (autS T W k) k) = 0 := i_eq (b := 0) ⟨⟨by omega, by omega⟩, by omega, by omega⟩
      have h' := h.fr hF'
      refine ⟨fun z => ?_, fun z => ⟨hi, hi, ?_⟩⟩
      · refine c_cross h' hk2 (fun x2 h2' hF2 => ?_)
        intro x5 e5
        rw [e5, e1]
        refine ih x2 ?_ (hF.tr ((pE_pY hF').tr (pX_pY hF2))) (fun j => ?_) (by omega) (by omega)
        · rw [autS_s, if_pos q', if_pos (e0.mp z)]
          exact h2'
        · rw [hF2.i 34 j (pX_f (by omega)), hF'.i 34 j (pE_f (by omega))]
          exact h34 j
      · intro s6 e6 x7 e7
        have ho := h'.2.1.2.2.2.1 k hk2
        rw [h'.2.2.2.1.2.2.2.2.1 k hk2, show nI ((autS T W k).2.2.2.2.1 k) + 1 = nI ((autS T W k).2.2.2.2.1 k + 1) from nI_1 _, show (if nI ((autS T W k).2.2.2.2.1 k + 1) < 99 then nI ((autS T W k).2.2.2.2.1 k + 1) else 99) = nI (if (autS T W k).2.2.2.2.1 k < 99 then (autS T W k).2.2.2.2.1 k + 1 else 99) by
          have e9 : (nI ((autS T W k).2.2.2.2.1 k + 1) < 99) ↔ (autS T W k).2.2.2.2.1 k + 1 < 99 := N_lt (b := 99) ⟨by omega, by omega⟩
          by_cases c : (autS T W k).2.2.2.2.1 k + 1 < 99
          · rw [if_pos (e9.mpr c), if_pos (by omega)]
          · rw [if_neg (fun q => c (e9.mp q))]
            by_cases c2 : (autS T W k).2.2.2.2.1 k < 99
            · rw [if_pos c2, show (autS T W k).2.2.2.2.1 k + 1 = 99 by omega]; rfl
            · rw [if_neg c2]; rfl] at e6
        rw [e7, e1, e6]
        refine ih _ ?_ ((hF.tr (pE_pY hF')).si (decide_eq_true (by omega))) (fun j => ?_) (by omega) (by omega)
        · rw [autS_s, if_pos q', if_neg (fun y => z (e0.mpr y))]
          refine h'.o (n := if (autS T W k).2.2.2.2.1 k < 99 then (autS T W k).2.2.2.2.1 k + 1 else 99) ?_
          split <;> omega
        · rw [g_ne (by omega), hF'.i 34 j (pE_f (by omega))]
          exact h34 j
    · intro x8 e8
      rw [e8, e1]
      refine ih x ?_ hF h34 (by omega) (by omega)
      rw [autS_s, if_neg (by rw [q]; decide)]
      exact h
theorem c_autumn {T : TT} {W : WW} {w : Nat} {x : fz_s} (h : CC T W w x) {Q : fz_s → Prop} (hq : ∀ x', CC T (autW T W) w x' → Fr (pY w) x x' → (∀ j, x'.1 34 j = x.1 34 j) → Q x') : wp_X0_autumn w x Q := c_autumn_lp hq 2048 0 x h Fr.rf (fun _ => rfl) (by omega) (by have := h.1.1; omega)
theorem c_turn {T : TT} {W : WW} {w : Nat} {x : fz_s} (h : CC T W w x) (hy : W.2.2.2.2.2 < 999) {Q : fz_s → Prop} (hq : ∀ x', CC T (tuW W) w x' → Fr (pY w) x x' → (∀ j, x'.1 34 j = x.1 34 j) → Q x') : wp_X0_turn w x Q := by
  have hw := h.2.2.2.2
  unfold wp_X0_turn
  intro s1 e1
  have e9 : (nI (W.2.2.2.2.2 + 1) < 999) ↔ W.2.2.2.2.2 + 1 < 999 := N_lt (b := 999) ⟨by omega, by omega⟩
  rw [h.2.2.2.1.2.2.2.2.2, show nI W.2.2.2.2.2 + 1 = nI (W.2.2.2.2.2 + 1) from nI_1 _, show (if nI (W.2.2.2.2.2 + 1) < 999 then nI (W.2.2.2.2.2 + 1) else 999) = nI (W.2.2.2.2.2 + 1) by
    by_cases c : W.2.2.2.2.2 + 1 < 999
    · rw [if_pos (e9.mpr c)]
    · rw [if_neg (fun q => c (e9.mp q)), show W.2.2.2.2.2 + 1 = 999 by omega]; rfl] at e1
  subst e1
  exact hq _ (h.y (by omega)) (Fr.rf.si (decide_eq_true (by omega))) (fun j => g_ne (by omega))
theorem c_nobody {T : TT} {W : WW} {w : Nat} {x : fz_s} (h : CC T W w x) {Q : fz_s → Prop} (hq : ∀ x', CC T W w x' → Fr (pY w) x x' → x'.1 34 0 = iI (-1) → x'.1 34 1 = iI (-1) → Q x') : wp_X0_sendNobody x Q := by
  unfold wp_X0_sendNobody
  intro s1 e1 s2 e2
  subst e1
  subst e2
  exact hq _ h.sent.sent ((Fr.rf.si (decide_eq_true (by omega))).si (decide_eq_true (by omega))) ((g_nj (by decide)).trans g_eq) g_eq
theorem snt_r (T : TT) (W : WW) (v : Nat) : -1 ≤ snt T W v ∧ snt T W v < T.1 ∧ (snt T W v ≠ -1 → own T W v (snt T W v).toNat = true) := sentS_r T W v T.1
theorem passI_f {T : TT} {W : WW} {z : Int} (h : passI T W z = true) : 0 ≤ z ∧ z < T.1 := by
  unfold passI at h
  rw [Bool.and_eq_true] at h
  exact of_decide_eq_true h.1
theorem c_spring {T : TT} {W : WW} {w : Nat} {x : fz_s} (h : CC T W w x) {Q : fz_s → Prop} (hq : ∀ x', CC T (goW W (prs T W).1 (prs T W).2) w x' → Fr (pY w) x x' → x'.1 34 0 = iI (prs T W).1 → x'.1 34 1 = iI (prs T W).2 → Q x') : wp_X0_spring w x Q := by
  have hn := h.1.1
  have hw := h.2.2.2.2
  have r0 := snt_r T W 0
  have r1 := snt_r T W 1
  unfold wp_X0_spring
  refine c_toSend (v := 0) h (by omega) (fun x1 hF1 => ?_)
  refine c_toSend (v := 1) (h.fr hF1) (by omega) (fun x2 hF2 => ?_)
  have hF2' := hF1.tr hF2
  have no : prO T W = false → ∀ x', Fr pE x x' → nd_X0_spring_32 w Q x' := by
    intro ho x' hF'
    refine c_nobody (h.fr hF') (fun x'' h'' hF'' a b => ?_)
    have ep : prs T W = (-1, -1) := by unfold prs; rw [if_neg (by rw [ho]; decide)]
    rw [ep] at hq
    refine hq x'' ?_ ((pE_pY hF').tr hF'') a b
    unfold goW
    rw [if_pos rfl]
    exact h''
  refine c_wouldPass (h.fr hF2') ⟨by omega, by omega⟩ (fun x3 hF3 => ⟨fun q => ?_, fun q => ?_⟩)
  · exact no (by unfold prO; rw [q]; rfl) x3 (hF2'.tr hF3)
  have hF3' := hF2'.tr hF3
  refine c_wouldPass (h.fr hF3') ⟨by omega, by omega⟩ (fun x4 hF4 => ⟨fun q2 => ?_, fun q2 => ?_⟩)
  · intro s9 e9 s10 e10
    have hF4' := hF3'.tr hF4
    have p0 := passI_f q
    have p1 := passI_f q2
    have ep : prs T W = (snt T W 0, snt T W 1) := by
      unfold prs prO
      rw [q, q2]
      rfl
    have h10 : CC T W w s10 := by
      rw [e10, e9]
      exact (h.fr hF4').sent.sent
    have hF10 : Fr (pY w) x s10 := by
      rw [e10, e9]
      exact ((pE_pY hF4').si (decide_eq_true (by omega))).si (decide_eq_true (by omega))
    have z0 : s10.1 34 0 = iI (snt T W 0) := by
      rw [e10, e9]
      exact (g_nj (by decide)).trans g_eq
    have z1 : s10.1 34 1 = iI (snt T W 1) := by
      rw [e10]
      exact g_eq
    rw [show iI (snt T W 0) = nI (snt T W 0).toNat by rw [i_nI, show (((snt T W 0).toNat : Nat) : Int) = snt T W 0 by omega], show iI (snt T W 1) = nI (snt T W 1).toNat by rw [i_nI, show (((snt T W 1).toNat : Nat) : Int) = snt T W 1 by omega]]
    refine c_cross h10 (by omega) (fun x11 h11 hF11 => c_cross h11 (by omega) (fun x12 h12 hF12 => ?_))
    rw [ep] at hq
    refine hq x12 ?_ (hF10.tr ((pX_pY hF11).tr (pX_pY hF12))) ?_ ?_
    · unfold goW
      rw [if_neg (show ¬ (snt T W 0 = -1) by omega)]
      exact h12
    · rw [hF12.i 34 0 (pX_f (by omega)), hF11.i 34 0 (pX_f (by omega))]; exact z0
    · rw [hF12.i 34 1 (pX_f (by omega)), hF11.i 34 1 (pX_f (by omega))]; exact z1
  · exact no (by unfold prO; rw [q2, Bool.and_false]) x4 (hF3'.tr hF4)
theorem c_ordinary {T : TT} {W : WW} {w : Nat} {x : fz_s} (h : CC T W w x) (hy : W.2.2.2.2.2 < 999) {Q : fz_s → Prop} (hq : ∀ x', CC T (yrW T W) w x' → Fr (pY w) x x' → x'.1 34 0 = iI (prs T W).1 → x'.1 34 1 = iI (prs T W).2 → Q x') : wp_X0_ordinaryYear w x Q := by
  unfold wp_X0_ordinaryYear
  refine c_spring h (fun x1 h1 f1 a1 b1 => c_summer h1 (fun x2 h2 f2 a2 => c_autumn h2 (fun x3 h3 f3 a3 => c_turn h3 ?_ (fun x4 h4 f4 a4 => ?_))))
  · show (autS T _ _).2.2.2.2.2 < 999
    rw [au_yr]
    show (goW W (prs T W).1 (prs T W).2).2.2.2.2.2 < 999
    rw [go_yr]
    exact hy
  · refine hq x4 ?_ (((f1.tr f2).tr f3).tr f4) ?_ ?_
    · unfold yrW yeW
      rw [if_neg (by decide)]
      exact h4
    · rw [a4, a3, a2]; exact a1
    · rw [a4, a3, a2]; exact b1
theorem c_quiet {T : TT} {W : WW} {w : Nat} {x : fz_s} (h : CC T W w x) (hy : W.2.2.2.2.2 < 999) {Q : fz_s → Prop} (hq : ∀ x', CC T (yeW T W (-1) (-1) false) w x' → Fr (pY w) x x' → Q x') : wp_X0_quietYear w x Q := by
  unfold wp_X0_quietYear
  refine c_nobody h (fun x1 h1 f1 a1 b1 => c_summer h1 (fun x2 h2 f2 a2 => c_autumn h2 (fun x3 h3 f3 a3 => c_turn h3 ?_ (fun x4 h4 f4 a4 => ?_))))
  · show (autS T _ _).2.2.2.2.2 < 999
    rw [au_yr]
    exact hy
  · refine hq x4 ?_ (((f1.tr f2).tr f3).tr f4)
    unfold yeW goW
    rw [if_neg (by decide), if_pos rfl]
    exact h4
theorem c_snowy {T : TT} {W : WW} {w : Nat} {x : fz_s} (h : CC T W w x) (hy : W.2.2.2.2.2 < 999) {Q : fz_s → Prop} (hq : ∀ x', CC T (yeW T W (-1) (-1) true) w x' → Fr (pY w) x x' → x'.1 34 0 = iI (-1) → x'.1 34 1 = iI (-1) → Q x') : wp_X0_snowyYear w x Q := by
  unfold wp_X0_snowyYear
  refine c_nobody h (fun x1 h1 f1 a1 b1 => c_summer h1 (fun x2 h2 f2 a2 => c_turn h2 hy (fun x4 h4 f4 a4 => ?_)))
  refine hq x4 ?_ ((f1.tr f2).tr f4) ?_ ?_
  · unfold yeW goW
    rw [if_pos rfl, if_pos rfl]
    exact h4
  · rw [a4, a2]; exact a1
  · rw [a4, a2]; exact b1

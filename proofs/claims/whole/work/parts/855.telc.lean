/-! WITS, TELLS: the class -/
theorem hsW_le {T : TT} {W : WW} (hW : WV T W) {p w v : Nat} (hv : v < 2) : ∀ a, hsW T W p w a v ≤ 999
  | 0 => hW.1 v hv
  | a + 1 => by
    show (yeW T _ _ _ false).1 v ≤ 999
    rw [ye_h hv]
    exact cut0_le _ _
theorem Hk_le {T : TT} {W : WW} (hW : WV T W) {p w k : Nat} : Hk T W p w k ≤ 999 := hsW_le hW (by omega) _
def RWc (rs : Nat → Nat × Nat × Nat) (rn : Nat) (x : fz_s) : Prop := rn ≤ 16 ∧ x.1 184 5 = nI rn ∧ ∀ k, k < rn → (rs k).1 ≤ 30 ∧ (rs k).2.1 ≤ 1 ∧ (rs k).2.2 ≤ 999 ∧ x.1 191 (4 * k) = nI (rs k).1 ∧ x.1 191 (4 * k + 1) = nI (rs k).2.1 ∧ x.1 191 (4 * k + 2) = nI ((rs k).2.2 / 256) ∧ x.1 191 (4 * k + 3) = nI ((rs k).2.2 % 256)
theorem RWc.si {rs : Nat → Nat × Nat × Nat} {rn : Nat} {x x' : fz_s} (h : RWc rs rn x) (hF : Fr pSi x x') : RWc rs rn x' := by
  refine ⟨h.1, (hF.i _ _ (pSi_f (by omega))).trans h.2.1, fun k hk => ?_⟩
  obtain ⟨a1, a2, a3, a4, a5, a6, a7⟩ := h.2.2 k hk
  exact ⟨a1, a2, a3, (hF.i _ _ (pSi_f (by omega))).trans a4, (hF.i _ _ (pSi_f (by omega))).trans a5, (hF.i _ _ (pSi_f (by omega))).trans a6, (hF.i _ _ (pSi_f (by omega))).trans a7⟩
theorem c_farS {rs : Nat → Nat × Nat × Nat} {rn : Nat} {x : fz_s} (h : RWc rs rn x) {Q : Int32 → fz_s → Prop} (hq : Q (nI (fmx rs rn)) x) : wp_X6_farthestSeen x Q := c_farS_lp h.1 h.2.1 (fun k hk => ⟨(h.2.2 k hk).1, (h.2.2 k hk).2.2.2.1⟩) hq 2048 0 (by omega) (by have := h.1; omega)
theorem c_pos_lp {T : TT} {W : WW} {p N : Nat} {rs : Nat → Nat × Nat × Nat} {rn : Nat} {x : fz_s} {F : Nat → Bool} (hW : WV T W) (hF : ∀ w, w < 10 → F w = fcK T W p rs w rn) (hN : N ≤ 30) (hS : SW T W p N 10 0 (x.1 192)) (hR : RWc rs rn x) (hRN : ∀ k, k < rn → (rs k).1 ≤ N) {Q : Int32 → fz_s → Prop} (hq : Q (bts F 10) x) : ∀ (n w : Nat), w ≤ 10 → 10 < n + w → lp_X6_possible_17 35 Q n (bts F w) (nI w) x
  | 0, w, h1, h2 => absurd h2 (by omega)
  | n + 1, w, h1, h2 => by
    show nd_X6_possible_17 35 (lp_X6_possible_17 35 Q n) Q (bts F w) (nI w) x
    unfold nd_X6_possible_17
    by_cases c : w = 10
    · subst c
      exact bt (by simp (disch := omega) only [N_lit, N_add, N_mul, N_sub, N_addneg, N_neg1, N_addm, N_le, N_lt, N_eq, N_in, N_cl, N_ne, N_ne', N_ltm, N_mlt, N_lem] <;> omega) hq
    refine bf (by simp (disch := omega) only [N_lit, N_add, N_mul, N_sub, N_addneg, N_neg1, N_addm, N_le, N_lt, N_eq, N_in, N_cl, N_ne, N_ne', N_ltm, N_mlt, N_lem] <;> omega) ?_
    unfold wp_X6_fits
    refine c_fits_lp hN (show w < 10 by omega) hS hR.1 hR.2.1 (fun k hk => ⟨hRN k hk, (hR.2.2 k hk).2⟩) (fun a v hv => hsW_le hW hv a) (c_bit ?_) 2048 0 rfl (by omega) (by have := hR.1; omega)
    intro x5 e5 x6 e6
    rw [← hF w (by omega), bts_c F (by omega)] at e5
    rw [e5, e6, nI_1]
    exact c_pos_lp hW hF hN hS hR hRN hq n (w + 1) (by omega) (by omega)
theorem c_possible {T : TT} {W : WW} {p N : Nat} {rs : Nat → Nat × Nat × Nat} {rn : Nat} {x : fz_s} (hW : WV T W) (hy : W.2.2.2.2.2 ≤ 999) (h35 : x.1 35 5 = nI W.2.2.2.2.2) (hN : N ≤ 30) (hS : SW T W p N 10 0 (x.1 192)) (hR : RWc rs rn x) (hfN : fmx rs rn ≤ farY W → fmx rs rn ≤ N) {Q : Int32 → fz_s → Prop} (hq : Q (bts (fit T W p rs rn) 10) x) : wp_X6_possible 35 x Q := by
  have hm : fmx rs rn ≤ 30 := (fmx_le rn).mpr (fun j hj => (hR.2.2 j hj).1)
  have hf := farY_le W
  unfold wp_X6_possible
  refine c_farS hR (c_farY h35 hy ?_)
  rw [N_le ⟨by omega, by omega⟩]
  by_cases c : fmx rs rn ≤ farY W
  · refine bt c (c_pos_lp hW (fun w hw => ?_) hN hS hR (fun k hk => Nat.le_trans (fmx_k hk) (hfN c)) hq 2048 0 (by omega) (by omega))
    rw [fit_eq hy (fun k hk => (hR.2.2 k hk).1), decide_eq_true c, Bool.true_and]
  · refine bf c ?_
    have : bts (fit T W p rs rn) 10 = 0 := (bts_z _).mpr (fun v hv => by rw [fit_eq hy (fun k hk => (hR.2.2 k hk).1), decide_eq_false c, Bool.false_and])
    rw [this] at hq
    exact hq
def ctA (T : TT) (W : WW) (p : Nat) (F : Nat → Bool) (k w : Nat) : Nat := cnt (fun b => F b && decide (Hk T W p b k = Hk T W p w k)) 10
def mxA (T : TT) (W : WW) (p : Nat) (F : Nat → Bool) (k : Nat) : Nat → Nat
  | 0 => 0
  | w + 1 => if F w = true then (if mxA T W p F k w < ctA T W p F k w then ctA T W p F k w else mxA T W p F k w) else mxA T W p F k w
theorem ctA_le (T : TT) (W : WW) (p : Nat) (F : Nat → Bool) (k w : Nat) : ctA T W p F k w ≤ 10 := cnt_le _ _
theorem mxA_le (T : TT) (W : WW) (p : Nat) (F : Nat → Bool) (k : Nat) : ∀ w, mxA T W p F k w ≤ 10
  | 0 => Nat.zero_le _
  | w + 1 => by
    have h1 := mxA_le T W p F k w
    have h2 := ctA_le T W p F k w
    unfold mxA
    split
    · split <;> omega
    · exact h1
def tlK (T : TT) (W : WW) (p : Nat) (F : Nat → Bool) : Nat → Nat × Nat
  | 0 => (0, 11)
  | j + 1 => if mxA T W p F (2 + j) 10 < (tlK T W p F j).2 then (2 + j, mxA T W p F (2 + j) 10) else tlK T W p F j
theorem tlK_r (T : TT) (W : WW) (p : Nat) (F : Nat → Bool) : ∀ j, (tlK T W p F j).2 ≤ 11 ∧ (tlK T W p F j).1 ≤ 2 + j ∧ (0 < j → (tlK T W p F j).2 ≤ 10 ∧ 2 ≤ (tlK T W p F j).1)
  | 0 => ⟨Nat.le_refl _, Nat.zero_le _, fun h => absurd h (Nat.lt_irrefl _)⟩
  | j + 1 => by
    have ih := tlK_r T W p F j
    have hm := mxA_le T W p F (2 + j) 10
    unfold tlK
    split
    · exact ⟨by show mxA T W p F (2 + j) 10 ≤ 11; omega, by show 2 + j ≤ 2 + (j + 1); omega, fun _ => ⟨hm, by show 2 ≤ 2 + j; omega⟩⟩
    · rename_i q
      refine ⟨ih.1, by omega, fun _ => ?_⟩
      by_cases c : 0 < j
      · exact ih.2.2 c
      · have : j = 0 := by omega
        subst this
        exact absurd (show mxA T W p F (2 + 0) 10 < 11 by omega) q
theorem c_alike_lp {T : TT} {W : WW} {p N a v w : Nat} {F : Nat → Bool} {x : fz_s} (hW : WV T W) (hN : N ≤ 30) (ha : a ≤ N) (hv : v < 2) (hS : SW T W p N 10 0 (x.1 192)) {Q : Int32 → fz_s → Prop} (hq : Q (nI (ctA T W p F (2 * a + v) w)) x) : ∀ (n b : Nat), b ≤ 10 → 10 < n + b → lp_X6_countAlike_6 Q n (bts F 10) (nI a) (nI v) (nI (Hk T W p w (2 * a + v))) (nI (cnt (fun b => F b && decide (Hk T W p b (2 * a + v) = Hk T W p w (2 * a + v))) b)) (nI b) x
  | 0, b, h1, h2 => absurd h2 (by omega)
  | n + 1, b, h1, h2 => by
    show nd_X6_countAlike_6 (lp_X6_countAlike_6 Q n) Q (bts F 10) (nI a) (nI v) (nI (Hk T W p w (2 * a + v))) (nI (cnt (fun b => F b && decide (Hk T W p b (2 * a + v) = Hk T W p w (2 * a + v))) b)) (nI b) x
    unfold nd_X6_countAlike_6
    by_cases c : b = 10
    · subst c
      exact bt (by simp (disch := omega) only [N_lit, N_add, N_mul, N_sub, N_addneg, N_neg1, N_addm, N_le, N_lt, N_eq, N_in, N_cl, N_ne, N_ne', N_ltm, N_mlt, N_lem] <;> omega) hq
    have ih := c_alike_lp (w := w) (F := F) hW hN ha hv hS hq n (b + 1) (by omega) (by omega)
    rw [cnt_s] at ih
    refine bf (by simp (disch := omega) only [N_lit, N_add, N_mul, N_sub, N_addneg, N_neg1, N_addm, N_le, N_lt, N_eq, N_in, N_cl, N_ne, N_ne', N_ltm, N_mlt, N_lem] <;> omega) ?_
    rw [bts_t F (by omega), nI_1]
    refine ⟨fun e x1 e1 => ?_, fun e => c_cell6 ⟨N_in ⟨by omega, by omega⟩, ?_⟩⟩
    · subst e1
      rw [e, Bool.false_and, if_neg (by decide)] at ih
      exact ih
    · have e' : F b = true := (Bool.not_eq_false _).mp e
      have hk1 := Hk_le hW (p := p) (w := b) (k := 2 * a + v)
      have hk2 := Hk_le hW (p := p) (w := w) (k := 2 * a + v)
      have r := hS b (2 * a + v) (by omega) (by omega) (by omega)
      rw [← Nat.add_assoc] at r
      rw [N_cl (by omega), r, N_eq ⟨by omega, by omega⟩]
      rw [e', Bool.true_and] at ih
      refine ⟨fun q x4 e4 => ?_, fun q x5 e5 x6 e6 => ?_⟩
      · subst e4
        rw [decide_eq_false q, if_neg (by decide)] at ih
        exact ih
      · subst e6
        rw [decide_eq_true q, if_pos rfl] at ih
        rw [e5, nI_1]
        exact ih
theorem c_most_lp {T : TT} {W : WW} {p N a v : Nat} {F : Nat → Bool} {x : fz_s} (hW : WV T W) (hN : N ≤ 30) (ha : a ≤ N) (hv : v < 2) (hS : SW T W p N 10 0 (x.1 192)) {Q : Int32 → fz_s → Prop} (hq : Q (nI (mxA T W p F (2 * a + v) 10)) x) : ∀ (n w : Nat), w ≤ 10 → 10 < n + w → lp_X6_mostLeft_6 Q n (bts F 10) (nI a) (nI v) (nI (mxA T W p F (2 * a + v) w)) (nI w) x
  | 0, w, h1, h2 => absurd h2 (by omega)
  | n + 1, w, h1, h2 => by
    show nd_X6_mostLeft_6 (lp_X6_mostLeft_6 Q n) Q (bts F 10) (nI a) (nI v) (nI (mxA T W p F (2 * a + v) w)) (nI w) x
    unfold nd_X6_mostLeft_6
    by_cases c : w = 10
    · subst c
      exact bt (by simp (disch := omega) only [N_lit, N_add, N_mul, N_sub, N_addneg, N_neg1, N_addm, N_le, N_lt, N_eq, N_in, N_cl, N_ne, N_ne', N_ltm, N_mlt, N_lem] <;> omega) hq
    have ih := c_most_lp (F := F) hW hN ha hv hS hq n (w + 1) (by omega) (by omega)
    have es : mxA T W p F (2 * a + v) (w + 1) = if F w = true then (if mxA T W p F (2 * a + v) w < ctA T W p F (2 * a + v) w then ctA T W p F (2 * a + v) w else mxA T W p F (2 * a + v) w) else mxA T W p F (2 * a + v) w := rfl
    rw [es] at ih
    refine bf (by simp (disch := omega) only [N_lit, N_add, N_mul, N_sub, N_addneg, N_neg1, N_addm, N_le, N_lt, N_eq, N_in, N_cl, N_ne, N_ne', N_ltm, N_mlt, N_lem] <;> omega) ?_
    rw [bts_t F (by omega), nI_1]
    refine ⟨fun e x1 e1 => ?_, fun e => c_cell6 ⟨N_in ⟨by omega, by omega⟩, ?_⟩⟩
    · subst e1
      rw [if_neg (by rw [e]; decide)] at ih
      exact ih
    · have e' : F w = true := (Bool.not_eq_false _).mp e
      have r := hS w (2 * a + v) (by omega) (by omega) (by omega)
      rw [← Nat.add_assoc] at r
      rw [N_cl (by omega), r]
      unfold wp_X6_countAlike
      refine c_alike_lp (w := w) (F := F) hW hN ha hv hS ?_ 2048 0 (by omega) (by omega)
      intro x6 e6 x7 e7
      have h1 := mxA_le T W p F (2 * a + v) w
      have h2 := ctA_le T W p F (2 * a + v) w
      have el : (nI (mxA T W p F (2 * a + v) w) < nI (ctA T W p F (2 * a + v) w)) ↔ mxA T W p F (2 * a + v) w < ctA T W p F (2 * a + v) w := N_lt ⟨by omega, by omega⟩
      rw [if_pos e'] at ih
      have e8 : x6 = nI (if mxA T W p F (2 * a + v) w < ctA T W p F (2 * a + v) w then ctA T W p F (2 * a + v) w else mxA T W p F (2 * a + v) w) := by
        rw [e6]
        by_cases cc : mxA T W p F (2 * a + v) w < ctA T W p F (2 * a + v) w
        · rw [if_pos (el.mpr cc), if_pos cc]
        · rw [if_neg (fun q => cc (el.mp q)), if_neg cc]
      rw [e8, e7]
      exact ih
def TLc (T : TT) (W : WW) (p : Nat) (F : Nat → Bool) (j : Nat) (x : fz_s) : Prop := x.1 193 2 = nI (tlK T W p F j).2 ∧ (0 < j → x.1 193 0 = nI ((tlK T W p F j).1 / 2) ∧ x.1 193 1 = nI ((tlK T W p F j).1 % 2))
def p193 (a _j : Nat) : Bool := decide (a = 193)
theorem p193_f {a j : Nat} (h : a ≠ 193) : p193 a j = false := decide_eq_false h
theorem p193_pC {s s' : fz_s} (h : Fr p193 s s') : Fr pC s s' := h.mono fun a j q => by
  have := of_decide_eq_false q
  exact p193_f (by omega)
theorem c_tellI {T : TT} {W : WW} {p N a : Nat} {F : Nat → Bool} {x0 : fz_s} (hW : WV T W) (hN : N ≤ 30) (ha : 1 ≤ a ∧ a ≤ N) (hS : SW T W p N 10 0 (x0.1 192)) {K : Int32 → Int32 → Int32 → fz_s → Prop} {Q : Bool → fz_s → Prop} (hq : ∀ x', Fr p193 x0 x' → TLc T W p F (2 * a) x' → K (bts F 10) (nI N) (nI (a + 1)) x') : ∀ (n v : Nat) (x : fz_s), Fr p193 x0 x → TLc T W p F (2 * (a - 1) + v) x → v ≤ 2 → 2 < n + v → lp_X6_findTelling_42 35 K Q n (bts F 10) (nI N) (nI a) (nI v) x
  | 0, v, x, _, _, h1, h2 => absurd h2 (by omega)
  | n + 1, v, x, hF, hT, h1, h2 => by
    show nd_X6_findTelling_42 35 K (lp_X6_findTelling_42 35 K Q n) Q (bts F 10) (nI N) (nI a) (nI v) x
    unfold nd_X6_findTelling_42
    by_cases c : v = 2
    · subst c
      refine bt (by simp (disch := omega) only [N_lit, N_add, N_mul, N_sub, N_addneg, N_neg1, N_addm, N_le, N_lt, N_eq, N_in, N_cl, N_ne, N_ne', N_ltm, N_mlt, N_lem] <;> omega) ?_
      intro x1 e1
      rw [e1, nI_1]
      rw [show 2 * (a - 1) + 2 = 2 * a by omega] at hT
      exact hq x hF hT
    have hm := mxA_le T W p F (2 * a + v) 10
    have hr := tlK_r T W p F (2 * (a - 1) + v)
    have es : tlK T W p F (2 * (a - 1) + (v + 1)) = if mxA T W p F (2 * a + v) 10 < (tlK T W p F (2 * (a - 1) + v)).2 then (2 * a + v, mxA T W p F (2 * a + v) 10) else tlK T W p F (2 * (a - 1) + v) := by
      rw [show 2 * (a - 1) + (v + 1) = (2 * (a - 1) + v) + 1 by omega]
      show (if mxA T W p F (2 + (2 * (a - 1) + v)) 10 < _ then _ else _) = _
      rw [show 2 + (2 * (a - 1) + v) = 2 * a + v by omega]
    refine bf (by simp (disch := omega) only [N_lit, N_add, N_mul, N_sub, N_addneg, N_neg1, N_addm, N_le, N_lt, N_eq, N_in, N_cl, N_ne, N_ne', N_ltm, N_mlt, N_lem] <;> omega) ?_
    unfold wp_X6_mostLeft
    refine c_most_lp (F := F) hW hN ha.2 (by omega) (fun u k hu hk hl => (hF.i _ _ (p193_f (by omega))).trans (hS u k hu hk hl)) ?_ 2048 0 (by omega) (by omega)
    rw [show x.1 193 (2 : Int32).toNatClampNeg = nI (tlK T W p F (2 * (a - 1) + v)).2 from hT.1, N_le ⟨by omega, by omega⟩, nI_1]
    by_cases cc : (tlK T W p F (2 * (a - 1) + v)).2 ≤ mxA T W p F (2 * a + v) 10
    · refine bt cc ?_
      intro x4 e4
      subst e4
      rw [if_neg (by omega)] at es
      refine c_tellI hW hN ha hS hq n (v + 1) x hF ⟨by rw [es]; exact hT.1, fun _ => ?_⟩ (by omega) (by omega)
      rw [es]
      refine hT.2 ?_
      by_cases c0 : 0 < 2 * (a - 1) + v
      · exact c0
      · have : 2 * (a - 1) + v = 0 := by omega
        rw [this] at cc
        have : (tlK T W p F 0).2 = 11 := rfl
        omega
    · refine bf cc ?_
      intro s5 e5 s6 e6 s7 e7 x8 e8
      subst e8
      rw [if_pos (by omega)] at es
      refine c_tellI hW hN ha hS hq n (v + 1) s7 (by rw [e7, e6, e5]; exact ((hF.si (decide_eq_true rfl)).si (decide_eq_true rfl)).si (decide_eq_true rfl)) ?_ (by omega) (by omega)
      unfold TLc
      rw [es]
      refine ⟨by rw [e7]; exact g_eq, fun _ => ⟨?_, ?_⟩⟩
      · show s7.1 193 0 = nI ((2 * a + v) / 2)
        rw [e7, e6, e5, show (2 * a + v) / 2 = a by omega]
        exact (g_nj (by decide)).trans ((g_nj (by decide)).trans g_eq)
      · show s7.1 193 1 = nI ((2 * a + v) % 2)
        rw [e7, e6, show (2 * a + v) % 2 = v by omega]
        exact (g_nj (by decide)).trans g_eq
theorem c_tellO {T : TT} {W : WW} {p N : Nat} {F : Nat → Bool} {x0 : fz_s} (hW : WV T W) (hN : N ≤ 30) (hS : SW T W p N 10 0 (x0.1 192)) {Q : Bool → fz_s → Prop} (hq : ∀ x', Fr p193 x0 x' → TLc T W p F (2 * N) x' → Q true x') : ∀ (n a : Nat) (x : fz_s), Fr p193 x0 x → TLc T W p F (2 * (a - 1)) x → 1 ≤ a → a ≤ N + 1 → N + 1 < n + a → lp_X6_findTelling_33 35 Q n (bts F 10) (nI N) (nI a) x
  | 0, a, x, _, _, _, h1, h2 => absurd h2 (by omega)
  | n + 1, a, x, hF, hT, h0, h1, h2 => by
    show nd_X6_findTelling_33 35 (lp_X6_findTelling_33 35 Q n) Q (bts F 10) (nI N) (nI a) x
    unfold nd_X6_findTelling_33
    by_cases c : a = N + 1
    · subst c
      refine bt (by simp (disch := omega) only [N_lit, N_add, N_mul, N_sub, N_addneg, N_neg1, N_addm, N_le, N_lt, N_eq, N_in, N_cl, N_ne, N_ne', N_ltm, N_mlt, N_lem] <;> omega) (hq x hF ?_)
      rw [show N + 1 - 1 = N by omega] at hT
      exact hT
    exact bf (by simp (disch := omega) only [N_lit, N_add, N_mul, N_sub, N_addneg, N_neg1, N_addm, N_le, N_lt, N_eq, N_in, N_cl, N_ne, N_ne', N_ltm, N_mlt, N_lem] <;> omega) (c_tellI hW hN ⟨h0, by omega⟩ hS (fun x' f' T' => c_tellO hW hN hS hq n (a + 1) x' f' (by rw [Nat.add_sub_cancel]; exact T') (by omega) (by omega) (by omega)) 2048 0 x hF hT (by omega) (by omega))

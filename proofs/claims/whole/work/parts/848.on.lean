/-! ON -/
def OKv (tp : Nat → Nat) (v : Nat) : Prop := 256 * tp (2 + 3 * v) + tp (3 + 3 * v) ≤ 999 ∧ tp (4 + 3 * v) ≤ 99
def OKp (tp : Nat → Nat) (p : Nat) : Prop := tp (8 + 3 * p) ≤ 9 ∧ tp (9 + 3 * p) ≤ 1 ∧ tp (10 + 3 * p) ≤ (if tp (9 + 3 * p) = 0 then 0 else 99)
def OKI (tp : Nat → Nat) (tn n : Nat) : Prop := tn = 9 + 3 * n ∧ ck tp (8 + 3 * n) = tp (8 + 3 * n) ∧ 256 * tp 0 + tp 1 ≤ 999 ∧ (∀ v, v < 2 → OKv tp v) ∧ ∀ p, p < n → OKp tp p
theorem c_pairAt {tp : Nat → Nat} {k : Nat} {x : fz_s} (hb : ∀ j, tp j < 256) (h : ∀ j, j < 1600 → x.1 3 j = nI (tp j)) (hk : k + 1 < 1600) {Q : Int32 → fz_s → Prop} (hq : Q (nI (256 * tp k + tp (k + 1))) x) : wp_X11_pairAt 3 1600 (nI k) x Q := by
  have b1 := hb k
  have b2 := hb (k + 1)
  unfold wp_X11_pairAt
  rw [nI_1, N_cl (by omega), N_cl (by omega), h k (by omega), h (k + 1) hk, show nI (tp k) * 256 = nI (tp k * 256) from N_mul _ 256, N_add, Nat.mul_comm]
  exact bf (by simp (disch := omega) only [N_lit, N_add, N_mul, N_sub, N_addneg, N_neg1, N_addm, N_le, N_lt, N_eq, N_in, N_cl, N_ne, N_ne', N_ltm, N_mlt, N_lem] <;> omega) (bt (by simp (disch := omega) only [N_lit, N_add, N_mul, N_sub, N_addneg, N_neg1, N_addm, N_le, N_lt, N_eq, N_in, N_cl, N_ne, N_ne', N_ltm, N_mlt, N_lem] <;> omega) ⟨N_in ⟨by omega, by omega⟩, N_in ⟨by omega, by omega⟩, hq⟩)
theorem m_twoAt {tp : Nat → Nat} {k : Nat} {m : fz_s} (hb : ∀ j, tp j < 256) (h : ∀ j, j < 1600 → m.1 197 j = nI (tp j)) (hk : k + 1 < 1600) {Q : Int32 → fz_s → Prop} (hq : Q (nI (256 * tp k + tp (k + 1))) m) : wp_X12_twoAt (nI k) m Q := by
  unfold wp_X12_twoAt
  rw [nI_1, N_cl (by omega), N_cl (by omega), h k (by omega), h (k + 1) hk, show (256 : Int32) * nI (tp k) = nI (256 * tp k) from N_mul 256 _, N_add]
  exact ⟨N_in ⟨by omega, by omega⟩, N_in ⟨by omega, by omega⟩, hq⟩
theorem c_imgP {tp : Nat → Nat} {n : Nat} {x : fz_s} (hn : n ≤ 8) (hb : ∀ j, tp j < 256) (h : ∀ j, j < 1600 → x.1 3 j = nI (tp j)) (h11 : x.1 6 11 = nI 2) (h12 : x.1 6 12 = nI n) {Q : Bool → fz_s → Prop} (ht : (∀ p, p < n → OKp tp p) → Q true x) (hf : ¬ (∀ p, p < n → OKp tp p) → Q false x) : ∀ (f k : Nat), (∀ p, p < k → OKp tp p) → k ≤ n → n < f + k → lp_X11_isImage_120 Q f (nI k) x
  | 0, k, _, h1, h2 => absurd h2 (by omega)
  | f + 1, k, ho, h1, h2 => by
    show nd_X11_isImage_120 (lp_X11_isImage_120 Q f) Q (nI k) x
    unfold nd_X11_isImage_120
    rw [h11, h12]
    by_cases c : k = n
    · subst c
      exact bt (by simp (disch := omega) only [N_lit, N_add, N_mul, N_sub, N_addneg, N_neg1, N_addm, N_le, N_lt, N_eq, N_in, N_cl, N_ne, N_ne', N_ltm, N_mlt, N_lem] <;> omega) (ht ho)
    refine bf (by simp (disch := omega) only [N_lit, N_add, N_mul, N_sub, N_addneg, N_neg1, N_addm, N_le, N_lt, N_eq, N_in, N_cl, N_ne, N_ne', N_ltm, N_mlt, N_lem] <;> omega) ?_
    intro x1 e1
    have b0 := hb (8 + 3 * k)
    have b1 := hb (9 + 3 * k)
    have b2 := hb (10 + 3 * k)
    have no : ¬ OKp tp k → Q false x := fun q => hf (fun z => q (z k (by omega)))
    rw [show (2 : Int32) + 3 * nI 2 + 3 * nI k = nI (8 + 3 * k) by rw [show (2 : Int32) + 3 * nI 2 = nI 8 from rfl, show (3 : Int32) * nI k = nI (3 * k) from N_mul 3 k, N_add]] at e1
    subst e1
    have go : ∀ u : Nat, u = (if tp (9 + 3 * k) = 0 then 0 else 99) → nd_X11_isImage_166 (lp_X11_isImage_120 Q f) Q (nI k) (nI (8 + 3 * k)) (nI u) x := by
      intro u hu
      have hu9 : u ≤ 99 := by rw [hu]; split <;> omega
      unfold nd_X11_isImage_166
      rw [nI_1, nI_1, show nI (8 + 3 * k) + 2 = nI (8 + 3 * k + 2) from N_add _ 2, N_cl (by omega), N_cl (by omega), N_cl (by omega), show 8 + 3 * k + 1 = 9 + 3 * k by omega, show 8 + 3 * k + 2 = 10 + 3 * k by omega, h _ (by omega), h _ (by omega), h _ (by omega)]
      refine ⟨N_in ⟨by omega, by omega⟩, ?_⟩
      by_cases c1 : 9 < tp (8 + 3 * k)
      · exact bt (by simp (disch := omega) only [N_lit, N_add, N_mul, N_sub, N_addneg, N_neg1, N_addm, N_le, N_lt, N_eq, N_in, N_cl, N_ne, N_ne', N_ltm, N_mlt, N_lem] <;> omega) (no (fun z => by have := z.1; omega))
      refine bf (by simp (disch := omega) only [N_lit, N_add, N_mul, N_sub, N_addneg, N_neg1, N_addm, N_le, N_lt, N_eq, N_in, N_cl, N_ne, N_ne', N_ltm, N_mlt, N_lem] <;> omega) ⟨N_in ⟨by omega, by omega⟩, ?_⟩
      by_cases c2 : 1 < tp (9 + 3 * k)
      · exact bt (by simp (disch := omega) only [N_lit, N_add, N_mul, N_sub, N_addneg, N_neg1, N_addm, N_le, N_lt, N_eq, N_in, N_cl, N_ne, N_ne', N_ltm, N_mlt, N_lem] <;> omega) (no (fun z => by have := z.2.1; omega))
      refine bf (by simp (disch := omega) only [N_lit, N_add, N_mul, N_sub, N_addneg, N_neg1, N_addm, N_le, N_lt, N_eq, N_in, N_cl, N_ne, N_ne', N_ltm, N_mlt, N_lem] <;> omega) ⟨N_in ⟨by omega, by omega⟩, ?_⟩
      rw [N_le ⟨by omega, by omega⟩]
      by_cases c3 : tp (10 + 3 * k) ≤ u
      · refine bt c3 ?_
        intro y ey
        subst ey
        refine c_imgP hn hb h h11 h12 ht hf f (k + 1) (fun p hp => ?_) (by omega) (by omega)
        by_cases c4 : p = k
        · subst c4
          exact ⟨by omega, by omega, by rw [← hu]; exact c3⟩
        · exact ho p (by omega)
      · exact bf c3 (no (fun z => by have := z.2.2; rw [← hu] at this; omega))
    rw [nI_1, N_cl (by omega), show 8 + 3 * k + 1 = 9 + 3 * k by omega, h _ (by omega)]
    have e0 : (nI (tp (9 + 3 * k)) = 0) ↔ tp (9 + 3 * k) = 0 := N_eq (b := 0) ⟨by omega, by omega⟩
    rw [e0]
    exact ⟨N_in ⟨by omega, by omega⟩, fun q => go 99 (by rw [if_neg q]), fun q => go 0 (by rw [if_pos q])⟩
theorem c_imgV {tp : Nat → Nat} {n : Nat} {x : fz_s} (hb : ∀ j, tp j < 256) (h : ∀ j, j < 1600 → x.1 3 j = nI (tp j)) (h11 : x.1 6 11 = nI 2) {Q : Bool → fz_s → Prop} (ht : (∀ v, v < 2 → OKv tp v) → lp_X11_isImage_120 Q 2048 0 x) (hf : ¬ (∀ v, v < 2 → OKv tp v) → Q false x) : ∀ (f k : Nat), (∀ v, v < k → OKv tp v) → k ≤ 2 → 2 < f + k → lp_X11_isImage_66 Q f (nI k) x
  | 0, k, _, h1, h2 => absurd h2 (by omega)
  | f + 1, k, ho, h1, h2 => by
    show nd_X11_isImage_66 (lp_X11_isImage_66 Q f) Q (nI k) x
    unfold nd_X11_isImage_66
    rw [h11]
    by_cases c : k = 2
    · subst c
      exact bt (by simp (disch := omega) only [N_lit, N_add, N_mul, N_sub, N_addneg, N_neg1, N_addm, N_le, N_lt, N_eq, N_in, N_cl, N_ne, N_ne', N_ltm, N_mlt, N_lem] <;> omega) (ht ho)
    refine bf (by simp (disch := omega) only [N_lit, N_add, N_mul, N_sub, N_addneg, N_neg1, N_addm, N_le, N_lt, N_eq, N_in, N_cl, N_ne, N_ne', N_ltm, N_mlt, N_lem] <;> omega) ?_
    have b0 := hb (2 + 3 * k)
    have b1 := hb (3 + 3 * k)
    have b2 := hb (4 + 3 * k)
    have no : ¬ OKv tp k → Q false x := fun q => hf (fun z => q (z k (by omega)))
    rw [show (2 : Int32) + 3 * nI k = nI (2 + 3 * k) by rw [show (3 : Int32) * nI k = nI (3 * k) from N_mul 3 k]; exact N_add 2 _, show (4 : Int32) + 3 * nI k = nI (4 + 3 * k) by rw [show (3 : Int32) * nI k = nI (3 * k) from N_mul 3 k]; exact N_add 4 _]
    refine c_pairAt hb h (by omega) ?_
    rw [show 2 + 3 * k + 1 = 3 + 3 * k by omega, N_cl (by omega), h _ (by omega)]
    by_cases c1 : 999 < 256 * tp (2 + 3 * k) + tp (3 + 3 * k)
    · exact bt (by simp (disch := omega) only [N_lit, N_add, N_mul, N_sub, N_addneg, N_neg1, N_addm, N_le, N_lt, N_eq, N_in, N_cl, N_ne, N_ne', N_ltm, N_mlt, N_lem] <;> omega) (no (fun z => by have := z.1; omega))
    refine bf (by simp (disch := omega) only [N_lit, N_add, N_mul, N_sub, N_addneg, N_neg1, N_addm, N_le, N_lt, N_eq, N_in, N_cl, N_ne, N_ne', N_ltm, N_mlt, N_lem] <;> omega) ⟨N_in ⟨by omega, by omega⟩, ?_⟩
    by_cases c2 : tp (4 + 3 * k) ≤ 99
    · refine bt (by simp (disch := omega) only [N_lit, N_add, N_mul, N_sub, N_addneg, N_neg1, N_addm, N_le, N_lt, N_eq, N_in, N_cl, N_ne, N_ne', N_ltm, N_mlt, N_lem] <;> omega) ?_
      intro y ey
      rw [ey, nI_1]
      refine c_imgV (n := n) hb h h11 ht hf f (k + 1) (fun p hp => ?_) (by omega) (by omega)
      by_cases c4 : p = k
      · subst c4
        exact ⟨by omega, c2⟩
      · exact ho p (by omega)
    · exact bf (by simp (disch := omega) only [N_lit, N_add, N_mul, N_sub, N_addneg, N_neg1, N_addm, N_le, N_lt, N_eq, N_in, N_cl, N_ne, N_ne', N_ltm, N_mlt, N_lem] <;> omega) (no (fun z => by have := z.2; omega))
theorem c_isImage {tp : Nat → Nat} {n tn : Nat} {x : fz_s} (hn : n ≤ 8) (htn : tn ≤ 1600) (hb : ∀ j, tp j < 256) (h : ∀ j, j < 1600 → x.1 3 j = nI (tp j)) (h11 : x.1 6 11 = nI 2) (h12 : x.1 6 12 = nI n) {Q : Bool → fz_s → Prop} (ht : OKI tp tn n → Q true x) (hf : ¬ OKI tp tn n → Q false x) : wp_X11_isImage (nI tn) x Q := by
  unfold wp_X11_isImage
  rw [h11, h12]
  intro x1 e1
  rw [show (3 : Int32) + 3 * nI 2 + 3 * nI n = nI (9 + 3 * n) by rw [show (3 : Int32) + 3 * nI 2 = nI 9 from rfl, show (3 : Int32) * nI n = nI (3 * n) from N_mul 3 n, N_add]] at e1
  subst e1
  rw [N_eq ⟨by omega, by omega⟩]
  by_cases c : tn = 9 + 3 * n
  · refine nf c ?_
    rw [show nI (9 + 3 * n) - 1 = nI (8 + 3 * n) by rw [show nI (9 + 3 * n) - 1 = nI (9 + 3 * n - 1) from N_sub (b := 1) (by omega), show 9 + 3 * n - 1 = 8 + 3 * n by omega], N_cl (by omega)]
    refine c_check_lp (f := tp) (N := 8 + 3 * n) ⟨by omega, by omega⟩ (fun k hk => ⟨hb k, h k (by omega)⟩) ⟨N_in ⟨by omega, by omega⟩, ?_⟩ 2048 0 (by omega) (by omega)
    have b8 := hb (8 + 3 * n)
    have bc := ck_lt tp (8 + 3 * n)
    rw [h _ (by omega), N_eq ⟨by omega, by omega⟩]
    by_cases c2 : ck tp (8 + 3 * n) = tp (8 + 3 * n)
    · refine nf c2 (c_pairAt (k := 0) hb h (by omega) ?_)
      have b0 := hb 0
      have b1 := hb (0 + 1)
      rw [show (999 : Int32) = nI 999 from rfl, N_le ⟨by omega, by omega⟩]
      by_cases c3 : 256 * tp 0 + tp (0 + 1) ≤ 999
      · refine bt c3 (c_imgV (n := n) hb h h11 (fun hv => ?_) (fun hv => hf (fun z => hv z.2.2.2.1)) 2048 0 (fun v hv => absurd hv (Nat.not_lt_zero _)) (by omega) (by omega))
        exact c_imgP hn hb h h11 h12 (fun hp => ht ⟨c, c2, c3, hv, hp⟩) (fun hp => hf (fun z => hp z.2.2.2.2)) 2048 0 (fun v hv => absurd hv (Nat.not_lt_zero _)) (by omega) (by omega)
      · exact bf c3 (hf (fun z => c3 z.2.2.1))
    · exact nt c2 (hf (fun z => c2 z.2.1))
  · exact nt c (hf (fun z => c z.1))
theorem m_imgP {tp : Nat → Nat} {n : Nat} {m : fz_s} (hn : n ≤ 8) (hb : ∀ j, tp j < 256) (h : ∀ j, j < 1600 → m.1 197 j = nI (tp j)) {Q : Bool → fz_s → Prop} (ht : (∀ p, p < n → OKp tp p) → Q true m) (hf : ¬ (∀ p, p < n → OKp tp p) → Q false m) : ∀ (f k : Nat), (∀ p, p < k → OKp tp p) → k ≤ n → n < f + k → lp_X12_isImage_97 Q f (nI (9 + 3 * n)) (nI (8 + 3 * k)) m
  | 0, k, _, h1, h2 => absurd h2 (by omega)
  | f + 1, k, ho, h1, h2 => by
    show nd_X12_isImage_97 (lp_X12_isImage_97 Q f) Q (nI (9 + 3 * n)) (nI (8 + 3 * k)) m
    unfold nd_X12_isImage_97
    rw [show nI (9 + 3 * n) - 1 = nI (8 + 3 * n) by rw [show nI (9 + 3 * n) - 1 = nI (9 + 3 * n - 1) from N_sub (b := 1) (by omega), show 9 + 3 * n - 1 = 8 + 3 * n by omega]]
    by_cases c : k = n
    · subst c
      exact bt (by simp (disch := omega) only [N_lit, N_add, N_mul, N_sub, N_addneg, N_neg1, N_addm, N_le, N_lt, N_eq, N_in, N_cl, N_ne, N_ne', N_ltm, N_mlt, N_lem] <;> omega) (ht ho)
    refine bf (by simp (disch := omega) only [N_lit, N_add, N_mul, N_sub, N_addneg, N_neg1, N_addm, N_le, N_lt, N_eq, N_in, N_cl, N_ne, N_ne', N_ltm, N_mlt, N_lem] <;> omega) ?_
    have b0 := hb (8 + 3 * k)
    have b1 := hb (9 + 3 * k)
    have b2 := hb (10 + 3 * k)
    have no : ¬ OKp tp k → Q false m := fun q => hf (fun z => q (z k (by omega)))
    rw [nI_1, show nI (8 + 3 * k) + 2 = nI (8 + 3 * k + 2) from N_add _ 2, N_cl (by omega), N_cl (by omega), N_cl (by omega), show 8 + 3 * k + 1 = 9 + 3 * k by omega, show 8 + 3 * k + 2 = 10 + 3 * k by omega, h _ (by omega), h _ (by omega), h _ (by omega)]
    refine ⟨N_in ⟨by omega, by omega⟩, ?_⟩
    by_cases c1 : 9 < tp (8 + 3 * k)
    · exact bt (by simp (disch := omega) only [N_lit, N_add, N_mul, N_sub, N_addneg, N_neg1, N_addm, N_le, N_lt, N_eq, N_in, N_cl, N_ne, N_ne', N_ltm, N_mlt, N_lem] <;> omega) (no (fun z => by have := z.1; omega))
    refine bf (by simp (disch := omega) only [N_lit, N_add, N_mul, N_sub, N_addneg, N_neg1, N_addm, N_le, N_lt, N_eq, N_in, N_cl, N_ne, N_ne', N_ltm, N_mlt, N_lem] <;> omega) ⟨N_in ⟨by omega, by omega⟩, ?_⟩
    by_cases c2 : 1 < tp (9 + 3 * k)
    · exact bt (by simp (disch := omega) only [N_lit, N_add, N_mul, N_sub, N_addneg, N_neg1, N_addm, N_le, N_lt, N_eq, N_in, N_cl, N_ne, N_ne', N_ltm, N_mlt, N_lem] <;> omega) (no (fun z => by have := z.2.1; omega))
    refine bf (by simp (disch := omega) only [N_lit, N_add, N_mul, N_sub, N_addneg, N_neg1, N_addm, N_le, N_lt, N_eq, N_in, N_cl, N_ne, N_ne', N_ltm, N_mlt, N_lem] <;> omega) ⟨N_in ⟨by omega, by omega⟩, N_in ⟨by omega, by omega⟩, ?_⟩
    have go : ∀ u : Nat, u = (if tp (9 + 3 * k) = 0 then 0 else 99) → nd_X12_isImage_153 (lp_X12_isImage_97 Q f) Q (nI (9 + 3 * n)) (nI (8 + 3 * k)) (nI u) (nI (tp (10 + 3 * k))) m := by
      intro u hu
      have hu9 : u ≤ 99 := by rw [hu]; split <;> omega
      unfold nd_X12_isImage_153
      rw [N_le ⟨by omega, by omega⟩]
      by_cases c3 : tp (10 + 3 * k) ≤ u
      · refine bt c3 ?_
        intro y ey
        rw [ey, show nI (8 + 3 * k) + 3 = nI (8 + 3 * (k + 1)) by rw [show nI (8 + 3 * k) + 3 = nI (8 + 3 * k + 3) from N_add _ 3, show 8 + 3 * k + 3 = 8 + 3 * (k + 1) by omega]]
        refine m_imgP hn hb h ht hf f (k + 1) (fun p hp => ?_) (by omega) (by omega)
        by_cases c4 : p = k
        · subst c4
          exact ⟨by omega, by omega, by rw [← hu]; exact c3⟩
        · exact ho p (by omega)
      · exact bf c3 (no (fun z => by have := z.2.2; rw [← hu] at this; omega))
    have e0 : (nI (tp (9 + 3 * k)) = 1) ↔ tp (9 + 3 * k) = 1 := N_eq (b := 1) ⟨by omega, by omega⟩
    rw [e0]
    exact ⟨fun q => go 0 (by rw [if_pos (by omega)]), fun q => go 99 (by rw [if_neg (by omega)])⟩
theorem m_imgV {tp : Nat → Nat} {n : Nat} {m : fz_s} (hb : ∀ j, tp j < 256) (h : ∀ j, j < 1600 → m.1 197 j = nI (tp j)) {Q : Bool → fz_s → Prop} (ht : (∀ v, v < 2 → OKv tp v) → lp_X12_isImage_97 Q 2048 (nI (9 + 3 * n)) 8 m) (hf : ¬ (∀ v, v < 2 → OKv tp v) → Q false m) : ∀ (f k : Nat), (∀ v, v < k → OKv tp v) → k ≤ 2 → 2 < f + k → lp_X12_isImage_56 Q f (nI (9 + 3 * n)) (nI (2 + 3 * k)) m
  | 0, k, _, h1, h2 => absurd h2 (by omega)
  | f + 1, k, ho, h1, h2 => by
    show nd_X12_isImage_56 (lp_X12_isImage_56 Q f) Q (nI (9 + 3 * n)) (nI (2 + 3 * k)) m
    unfold nd_X12_isImage_56
    by_cases c : k = 2
    · subst c
      exact bt (by simp (disch := omega) only [N_lit, N_add, N_mul, N_sub, N_addneg, N_neg1, N_addm, N_le, N_lt, N_eq, N_in, N_cl, N_ne, N_ne', N_ltm, N_mlt, N_lem] <;> omega) (ht ho)
    refine bf (by simp (disch := omega) only [N_lit, N_add, N_mul, N_sub, N_addneg, N_neg1, N_addm, N_le, N_lt, N_eq, N_in, N_cl, N_ne, N_ne', N_ltm, N_mlt, N_lem] <;> omega) ?_
    have b0 := hb (2 + 3 * k)
    have b1 := hb (3 + 3 * k)
    have b2 := hb (4 + 3 * k)
    have no : ¬ OKv tp k → Q false m := fun q => hf (fun z => q (z k (by omega)))
    refine m_twoAt hb h (by omega) ?_
    rw [show 2 + 3 * k + 1 = 3 + 3 * k by omega, show nI (2 + 3 * k) + 2 = nI (4 + 3 * k) by rw [show nI (2 + 3 * k) + 2 = nI (2 + 3 * k + 2) from N_add _ 2, show 2 + 3 * k + 2 = 4 + 3 * k by omega], N_cl (by omega), h _ (by omega)]
    by_cases c1 : 999 < 256 * tp (2 + 3 * k) + tp (3 + 3 * k)
    · exact bt (by simp (disch := omega) only [N_lit, N_add, N_mul, N_sub, N_addneg, N_neg1, N_addm, N_le, N_lt, N_eq, N_in, N_cl, N_ne, N_ne', N_ltm, N_mlt, N_lem] <;> omega) (no (fun z => by have := z.1; omega))
    refine bf (by simp (disch := omega) only [N_lit, N_add, N_mul, N_sub, N_addneg, N_neg1, N_addm, N_le, N_lt, N_eq, N_in, N_cl, N_ne, N_ne', N_ltm, N_mlt, N_lem] <;> omega) ⟨N_in ⟨by omega, by omega⟩, ?_⟩
    by_cases c2 : tp (4 + 3 * k) ≤ 99
    · refine bt (by simp (disch := omega) only [N_lit, N_add, N_mul, N_sub, N_addneg, N_neg1, N_addm, N_le, N_lt, N_eq, N_in, N_cl, N_ne, N_ne', N_ltm, N_mlt, N_lem] <;> omega) ?_
      intro y ey
      rw [ey, show nI (2 + 3 * k) + 3 = nI (2 + 3 * (k + 1)) by rw [show nI (2 + 3 * k) + 3 = nI (2 + 3 * k + 3) from N_add _ 3, show 2 + 3 * k + 3 = 2 + 3 * (k + 1) by omega]]
      refine m_imgV hb h ht hf f (k + 1) (fun p hp => ?_) (by omega) (by omega)
      by_cases c4 : p = k
      · subst c4
        exact ⟨by omega, c2⟩
      · exact ho p (by omega)
    · exact bf (by simp (disch := omega) only [N_lit, N_add, N_mul, N_sub, N_addneg, N_neg1, N_addm, N_le, N_lt, N_eq, N_in, N_cl, N_ne, N_ne', N_ltm, N_mlt, N_lem] <;> omega) (no (fun z => by have := z.2; omega))
theorem m_isImage {t : Bool} {tp : Nat → Nat} {n tn : Nat} {m : fz_s} (hn : n ≤ 8) (htn : tn ≤ 1600) (hb : ∀ j, tp j < 256) (h : ∀ j, j < 1600 → m.1 197 j = nI (tp j)) (h52 : m.1 196 52 = nI (b01 t)) (h40 : m.1 196 40 = nI n) {Q : Bool → fz_s → Prop} (ht : t = true → OKI tp tn n → Q true m) (hf : ¬ (t = true ∧ OKI tp tn n) → Q false m) : wp_X12_isImage (nI tn) m Q := by
  unfold wp_X12_isImage wp_X12_personMany
  dsimp only
  rw [h52, h40]
  cases t with
  | false => exact bt rfl (hf (fun z => by cases z.1))
  | true =>
    refine bf (by show ¬ (nI 1 = 0); decide +kernel) ?_
    rw [show (9 : Int32) + 3 * nI n = nI (9 + 3 * n) by rw [show (3 : Int32) * nI n = nI (3 * n) from N_mul 3 n]; exact N_add 9 _, N_eq ⟨by omega, by omega⟩]
    by_cases c : tn = 9 + 3 * n
    · refine nf c ?_
      rw [c, show nI (9 + 3 * n) - 1 = nI (8 + 3 * n) by rw [show nI (9 + 3 * n) - 1 = nI (9 + 3 * n - 1) from N_sub (b := 1) (by omega), show 9 + 3 * n - 1 = 8 + 3 * n by omega], N_cl (by omega)]
      refine ⟨N_in ⟨by omega, by omega⟩, m_check_lp (f := tp) (N := 8 + 3 * n) ⟨by omega, by omega⟩ (fun k hk => ⟨hb k, h k (by omega)⟩) ?_ 2048 0 (by omega) (by omega)⟩
      have b8 := hb (8 + 3 * n)
      have bc := ck_lt tp (8 + 3 * n)
      rw [h _ (by omega), N_eq ⟨by omega, by omega⟩]
      by_cases c2 : tp (8 + 3 * n) = ck tp (8 + 3 * n)
      · refine nf c2 (m_twoAt (k := 0) hb h (by omega) ?_)
        have b0 := hb 0
        have b1 := hb (0 + 1)
        rw [show (999 : Int32) = nI 999 from rfl, N_le ⟨by omega, by omega⟩]
        by_cases c3 : 256 * tp 0 + tp (0 + 1) ≤ 999
        · refine bt c3 (m_imgV (n := n) hb h (fun hv => ?_) (fun hv => hf (fun z => hv z.2.2.2.2.1)) 2048 0 (fun v hv => absurd hv (Nat.not_lt_zero _)) (by omega) (by omega))
          exact m_imgP hn hb h (fun hp => ht rfl ⟨c, c2.symm, c3, hv, hp⟩) (fun hp => hf (fun z => hp z.2.2.2.2.2)) 2048 0 (fun v hv => absurd hv (Nat.not_lt_zero _)) (by omega) (by omega)
        · exact bf c3 (hf (fun z => c3 z.2.2.2.1))
      · exact nt c2 (hf (fun z => c2 z.2.2.1.symm))
    · exact nt c (hf (fun z => c z.2.1))
/-! the world that a picture tells -/
def stA (W : WW) (p : Nat) (b : Bool) : WW := (W.1, W.2.1, W.2.2.1, upf W.2.2.2.1 p b, W.2.2.2.2)
theorem lv_stA {T : TT} {W : WW} {p q : Nat} {b : Bool} : lv T (stA W p b) q = if q = p then (if b = true then 1 - T.2.1 q else T.2.1 q) else lv T W q := by
  by_cases h : q = p
  · subst h
    rw [if_pos rfl]
    unfold lv stA
    dsimp only
    simp only [upf_eq]
  · rw [if_neg h]
    unfold lv stA
    dsimp only
    simp only [upf_ne h]
theorem CC.a {T : TT} {W : WW} {w : Nat} {x : fz_s} (h : CC T W w x) {p n : Nat} {b : Bool} (hn : n = if b = true then 1 - T.2.1 p else T.2.1 p) : CC T (stA W p b) w (si x (w + 1 + 3) p (nI n)) := by
  obtain ⟨h1, h2, h3, ⟨a1, a2, a3, a4, a5, a6⟩, h5⟩ := h
  refine ⟨h1, h2, h3.w (by omega), ⟨fun q hq => ?_, fun q hq => ?_, fun q hq => ?_, fun q hq => ?_, fun q hq => ?_, ?_⟩, h5⟩
  · rw [g_ne (by omega)]; exact a1 q hq
  · rw [g_ne (by omega)]; exact a2 q hq
  · rw [g_ne (by omega)]; exact a3 q hq
  · rw [lv_stA]
    by_cases c : q = p
    · subst c; rw [if_pos rfl, g_eq, hn]
    · rw [if_neg c, g_nj c, a4 q hq]
  · rw [g_ne (by omega)]; exact a5 q hq
  · rw [g_ne (by omega)]; exact a6
theorem MM.a {T : TT} {W : WW} {m : fz_s} (h : MM T W m) {p : Nat} {b : Bool} : MM T (stA W p b) (si m 232 (6 + 3 * p) (nI (b01 b))) := by
  obtain ⟨a1, a2, a3, a4, a5, a6⟩ := h.2.2.2
  refine h.set h.2.1 ⟨fun q hq => ?_, fun q hq => ?_, fun q hq => ?_, fun q hq => ?_, fun q hq => ?_, ?_⟩
  · rw [g_nj (by omega)]; exact a1 q hq
  · rw [g_nj (by omega)]; exact a2 q hq
  · rw [g_nj (by omega)]; exact a3 q hq
  · show _ = nI (b01 (upf W.2.2.2.1 p b q))
    by_cases c : q = p
    · subst c; rw [upf_eq, g_eq]
    · rw [upf_ne c, g_nj (by omega), a4 q hq]
  · rw [g_nj (by omega)]; exact a5 q hq
  · rw [g_nj (by omega)]; exact a6
def dvP (tp : Nat → Nat) (W : WW) : Nat → WW
  | 0 => W
  | k + 1 => stO (stA (stW (dvP tp W k) k (tp (8 + 3 * k))) k (decide (tp (9 + 3 * k) ≠ 0))) k (tp (10 + 3 * k))
def dvV (tp : Nat → Nat) (W : WW) : Nat → WW
  | 0 => W
  | k + 1 => stQ (stH (dvV tp W k) k (256 * tp (2 + 3 * k) + tp (3 + 3 * k))) k (tp (4 + 3 * k))
def dvW (tp : Nat → Nat) (T : TT) (W : WW) : WW := dvP tp (dvV tp (stY W (256 * tp 0 + tp 1)) 2) T.1
theorem dvV_y (tp : Nat → Nat) (W : WW) : ∀ k, (dvV tp W k).2.2.2.2.2 = W.2.2.2.2.2
  | 0 => rfl
  | k + 1 => dvV_y tp W k
theorem dvP_y (tp : Nat → Nat) (W : WW) : ∀ k, (dvP tp W k).2.2.2.2.2 = W.2.2.2.2.2
  | 0 => rfl
  | k + 1 => dvP_y tp W k
def pOc (a j : Nat) : Bool := decide ((35 ≤ a ∧ a ≤ 40) ∨ (a = 47 ∧ (j = 4 ∨ j = 5)))
def pOm (a j : Nat) : Bool := decide (a = 232 ∨ (a = 196 ∧ j = 72))
theorem pOc_f {a j : Nat} (h : ¬ ((35 ≤ a ∧ a ≤ 40) ∨ (a = 47 ∧ (j = 4 ∨ j = 5)))) : pOc a j = false := decide_eq_false h
theorem pOm_f {a j : Nat} (h : ¬ (a = 232 ∨ (a = 196 ∧ j = 72))) : pOm a j = false := decide_eq_false h
theorem pOc_t {a j : Nat} (h : (35 ≤ a ∧ a ≤ 40) ∨ (a = 47 ∧ (j = 4 ∨ j = 5))) : pOc a j = true := decide_eq_true h
theorem pOm_t {a j : Nat} (h : a = 232 ∨ (a = 196 ∧ j = 72)) : pOm a j = true := decide_eq_true h
theorem c_devP {T : TT} {W : WW} {tp : Nat → Nat} {x0 : fz_s} (hb : ∀ j, tp j < 256) (h0 : ∀ j, j < 1600 → x0.1 3 j = nI (tp j)) (h11 : x0.1 6 11 = nI 2) (ho : ∀ p, p < T.1 → OKp tp p) {Q : fz_s → Prop} (hq : ∀ x', CC T (dvP tp W T.1) 35 x' → Fr pOc x0 x' → x'.1 35 6 = nI 0 → Q x') : ∀ (n k : Nat) (x : fz_s), CC T (dvP tp W k) 35 x → Fr pOc x0 x → x.1 35 6 = nI 0 → k ≤ T.1 → T.1 < n + k → lp_X10_develop_6_60 35 3 1600 Q n (nI k) x
  | 0, k, x, _, _, _, h1, h2 => absurd h2 (by omega)
  | n + 1, k, x, h, hF, h6, h1, h2 => by
    have hn := h.1.1
    show nd_X10_develop_6_60 35 3 1600 (lp_X10_develop_6_60 35 3 1600 Q n) Q (nI k) x
    unfold nd_X10_develop_6_60
    rw [h.2.2.1.1, show x.1 6 11 = nI 2 from (hF.i _ _ (pOc_f (by omega))).trans h11]
    by_cases c : k = T.1
    · subst c
      exact bt (by simp (disch := omega) only [N_lit, N_add, N_mul, N_sub, N_addneg, N_neg1, N_addm, N_le, N_lt, N_eq, N_in, N_cl, N_ne, N_ne', N_ltm, N_mlt, N_lem] <;> omega) (hq x h hF h6)
    refine bf (by simp (disch := omega) only [N_lit, N_add, N_mul, N_sub, N_addneg, N_neg1, N_addm, N_le, N_lt, N_eq, N_in, N_cl, N_ne, N_ne', N_ltm, N_mlt, N_lem] <;> omega) ?_
    have hk2 : k < T.1 := by omega
    have ok := ho k hk2
    intro x1 e1
    rw [show (2 : Int32) + 3 * nI 2 + 3 * nI k = nI (8 + 3 * k) by rw [show (2 : Int32) + 3 * nI 2 = nI 8 from rfl, show (3 : Int32) * nI k = nI (3 * k) from N_mul 3 k, N_add]] at e1
    subst e1
    have hi : vp_in (nI k) 8 := N_in ⟨by omega, by omega⟩
    have tpx : ∀ {y : fz_s}, Fr pOc x0 y → ∀ j, j < 1600 → y.1 3 j = nI (tp j) := fun hy j hj => (hy.i _ _ (pOc_f (by omega))).trans (h0 j hj)
    rw [N_cl (by omega), N_cl (by omega), tpx hF _ (by omega), nI_1, N_cl (by omega), show 8 + 3 * k + 1 = 9 + 3 * k by omega]
    refine ⟨N_in ⟨by omega, by omega⟩, hi, fun s2 e2 => ⟨N_in ⟨by omega, by omega⟩, ?_⟩⟩
    have c2 : CC T (stW (dvP tp W k) k (tp (8 + 3 * k))) 35 s2 := by rw [e2]; exact h.w ok.1
    have f2 : Fr pOc x0 s2 := by rw [e2]; exact hF.si (pOc_t (by omega))
    have k2 : s2.1 35 6 = nI 0 := by rw [e2, g_ne (by omega)]; exact h6
    have hm := h.1.2.1 k hk2
    have go : ∀ v : Nat, v = (if decide (tp (9 + 3 * k) ≠ 0) = true then 1 - T.2.1 k else T.2.1 k) → nd_X10_develop_6_123 35 3 1600 (lp_X10_develop_6_60 35 3 1600 Q n) Q (nI k) (nI (8 + 3 * k)) (nI v) (nI k) s2 := by
      intro v hv
      unfold nd_X10_develop_6_123
      rw [N_cl (by omega), show nI (8 + 3 * k) + 2 = nI (10 + 3 * k) by rw [show nI (8 + 3 * k) + 2 = nI (8 + 3 * k + 2) from N_add _ 2, show 8 + 3 * k + 2 = 10 + 3 * k by omega], N_cl (by omega)]
      refine ⟨hi, fun s3 e3 => ⟨N_in ⟨by omega, by omega⟩, hi, fun s4 e4 => ?_⟩⟩
      have f3 : Fr pOc x0 s3 := by rw [e3]; exact f2.si (pOc_t (by omega))
      rw [tpx f3 _ (by omega)] at e4
      intro y ey
      rw [ey, nI_1]
      refine c_devP hb h0 h11 ho hq n (k + 1) s4 ?_ ?_ ?_ (by omega) (by omega)
      · rw [e4, e3]
        exact (c2.a hv).o (by have := ok.2.2; split at this <;> omega)
      · rw [e4]; exact f3.si (pOc_t (by omega))
      · rw [e4, g_ne (by omega), e3, g_ne (by omega)]; exact k2
    rw [tpx f2 _ (by omega), show s2.1 10 k = nI (T.2.1 k) from c2.2.2.1.2.1 k hk2]
    have b1 := hb (9 + 3 * k)
    have e0 : (nI (tp (9 + 3 * k)) = 0) ↔ tp (9 + 3 * k) = 0 := N_eq (b := 0) ⟨by omega, by omega⟩
    rw [e0, show (1 : Int32) - nI (T.2.1 k) = nI (1 - T.2.1 k) from N_sub (a := 1) hm]
    exact ⟨fun q => ⟨hi, go _ (by rw [if_pos (decide_eq_true q)])⟩, fun q => ⟨hi, go _ (by rw [if_neg (fun z => (of_decide_eq_true z) q)])⟩⟩
theorem c_devV {T : TT} {W : WW} {tp : Nat → Nat} {x0 : fz_s} (hb : ∀ j, tp j < 256) (h0 : ∀ j, j < 1600 → x0.1 3 j = nI (tp j)) (h11 : x0.1 6 11 = nI 2) (ho : ∀ v, v < 2 → OKv tp v) {Q : fz_s → Prop} (hq : ∀ x', CC T (dvV tp W 2) 35 x' → Fr pOc x0 x' → x'.1 35 6 = nI 0 → lp_X10_develop_6_60 35 3 1600 Q 2048 0 x') : ∀ (n k : Nat) (x : fz_s), CC T (dvV tp W k) 35 x → Fr pOc x0 x → x.1 35 6 = nI 0 → k ≤ 2 → 2 < n + k → lp_X10_develop_6_16 35 3 1600 Q n (nI k) x
  | 0, k, x, _, _, _, h1, h2 => absurd h2 (by omega)
  | n + 1, k, x, h, hF, h6, h1, h2 => by
    show nd_X10_develop_6_16 35 3 1600 (lp_X10_develop_6_16 35 3 1600 Q n) Q (nI k) x
    unfold nd_X10_develop_6_16
    rw [show x.1 6 11 = nI 2 from (hF.i _ _ (pOc_f (by omega))).trans h11]
    by_cases c : k = 2
    · subst c
      exact bt (by simp (disch := omega) only [N_lit, N_add, N_mul, N_sub, N_addneg, N_neg1, N_addm, N_le, N_lt, N_eq, N_in, N_cl, N_ne, N_ne', N_ltm, N_mlt, N_lem] <;> omega) (hq x h hF h6)
    refine bf (by simp (disch := omega) only [N_lit, N_add, N_mul, N_sub, N_addneg, N_neg1, N_addm, N_le, N_lt, N_eq, N_in, N_cl, N_ne, N_ne', N_ltm, N_mlt, N_lem] <;> omega) ?_
    have ok := ho k (by omega)
    have tpx : ∀ {y : fz_s}, Fr pOc x0 y → ∀ j, j < 1600 → y.1 3 j = nI (tp j) := fun hy j hj => (hy.i _ _ (pOc_f (by omega))).trans (h0 j hj)
    have hi : vp_in (nI k) 2 := N_in ⟨by omega, by omega⟩
    rw [show (2 : Int32) + 3 * nI k = nI (2 + 3 * k) by rw [show (3 : Int32) * nI k = nI (3 * k) from N_mul 3 k]; exact N_add 2 _, show (4 : Int32) + 3 * nI k = nI (4 + 3 * k) by rw [show (3 : Int32) * nI k = nI (3 * k) from N_mul 3 k]; exact N_add 4 _]
    refine c_pairAt hb (tpx hF) (by omega) ⟨hi, fun s3 e3 => ⟨N_in ⟨by omega, by omega⟩, hi, fun s4 e4 => ?_⟩⟩
    rw [N_cl (by omega), show 2 + 3 * k + 1 = 3 + 3 * k by omega] at e3
    have f3 : Fr pOc x0 s3 := by rw [e3]; exact hF.si (pOc_t (by omega))
    rw [N_cl (by omega), N_cl (by omega), tpx f3 _ (by omega)] at e4
    intro y ey
    rw [ey, nI_1]
    refine c_devV hb h0 h11 ho hq n (k + 1) s4 ?_ ?_ ?_ (by omega) (by omega)
    · rw [e4, e3]
      exact (h.h ok.1).q ok.2
    · rw [e4]; exact f3.si (pOc_t (by omega))
    · rw [e4, g_ne (by omega), e3, g_ne (by omega)]; exact h6
theorem c_develop {T : TT} {W : WW} {tp : Nat → Nat} {tn : Nat} {x : fz_s} (hb : ∀ j, tp j < 256) (h0 : ∀ j, j < 1600 → x.1 3 j = nI (tp j)) (h11 : x.1 6 11 = nI 2) (h : CC T W 35 x) (ho : OKI tp tn T.1) {Q : fz_s → Prop} (hq : ∀ x', CC T (dvW tp T W) 35 x' → Fr pOc x x' → x'.1 35 6 = nI 0 → Q x') : wp_X10_develop_6 35 3 1600 x Q := by
  have hn := h.1.1
  unfold wp_X10_develop_6
  refine c_pairAt (k := 0) hb h0 (by omega) ?_
  intro s3 e3 s4 e4
  have y9 : 256 * tp 0 + tp (0 + 1) ≤ 999 := ho.2.2.1
  refine c_devV (T := T) (W := stY W (256 * tp 0 + tp 1)) hb h0 h11 ho.2.2.2.1 (fun x1 c1 f1 k1 => ?_) 2048 0 s4 ?_ ?_ ?_ (by omega) (by omega)
  · exact c_devP hb h0 h11 ho.2.2.2.2 hq 2048 0 x1 c1 f1 k1 (by omega) (by omega)
  · rw [e4, e3]
    exact (h.y (n := 256 * tp 0 + tp (0 + 1)) (by omega)).cg (fun a j q => by rw [g_si, if_neg (by omega)])
  · rw [e4, e3]
    exact (Fr.rf.si (pOc_t (by omega))).si (pOc_t (by omega))
  · rw [e4]; exact g_eq
theorem m_devP {T : TT} {W : WW} {tp : Nat → Nat} {m0 : fz_s} (hb : ∀ j, tp j < 256) (h0 : ∀ j, j < 1600 → m0.1 197 j = nI (tp j)) (ho : ∀ p, p < T.1 → OKp tp p) {Q : Bool → fz_s → Prop} (hq : ∀ m', MM T (dvP tp W T.1) m' → Fr pOm m0 m' → m'.1 232 29 = nI 0 → m'.1 196 72 = nI 0 → Q true m') : ∀ (d n k : Nat) (x : fz_s), MM T (dvP tp W k) x → Fr pOm m0 x → k + d = T.1 → 3 * d < n → lp_X12_on_95 Q n (nI (3 * k)) x
  | _, 0, k, x, _, _, h1, h2 => absurd h2 (by omega)
  | 0, n + 1, k, x, h, hF, h1, h2 => by
    have hn := h.1.1
    have hk : k = T.1 := h1
    subst hk
    show nd_X12_on_95 (lp_X12_on_95 Q n) Q (nI (3 * T.1)) x
    unfold nd_X12_on_95 wp_X12_personMany
    dsimp only
    rw [h.2.2.1.1, show (3 : Int32) * nI T.1 = nI (3 * T.1) from N_mul 3 _]
    refine bt (by simp (disch := omega) only [N_lit, N_add, N_mul, N_sub, N_addneg, N_neg1, N_addm, N_le, N_lt, N_eq, N_in, N_cl, N_ne, N_ne', N_ltm, N_mlt, N_lem] <;> omega) ?_
    intro s3 e3 s4 e4
    refine hq s4 ?_ ?_ ?_ ?_
    · rw [e4, e3]
      exact h.cg (fun a j q => by rw [g_si, if_neg (by omega), g_si, if_neg (by show ¬ (a = 232 ∧ j = 29); omega)])
    · rw [e4, e3]
      exact (hF.si (pOm_t (by omega))).si (pOm_t (by omega))
    · rw [e4, g_ne (by omega), e3]; exact g_eq
    · rw [e4]; exact g_eq
  | d + 1, n + 1, k, x, h, hF, h1, h2 => by
    have hn := h.1.1
    have hk2 : k < T.1 := by omega
    have ok := ho k hk2
    have b1 := hb (9 + 3 * k)
    have tpx : ∀ {y : fz_s}, Fr pOm m0 y → ∀ j, j < 1600 → y.1 197 j = nI (tp j) := fun hy j hj => (hy.i _ _ (pOm_f (by omega))).trans (h0 j hj)
    obtain ⟨n, rfl⟩ : ∃ n', n = n' + 2 := ⟨n - 2, by omega⟩
    show nd_X12_on_95 (lp_X12_on_95 Q (n + 2)) Q (nI (3 * k)) x
    unfold nd_X12_on_95 wp_X12_personMany
    dsimp only
    rw [h.2.2.1.1, show (3 : Int32) * nI T.1 = nI (3 * T.1) from N_mul 3 _, show (8 : Int32) + nI (3 * k) = nI (8 + 3 * k) from N_add 8 _, show (5 : Int32) + nI (3 * k) = nI (5 + 3 * k) from N_add 5 _, N_cl (by omega), N_cl (by omega), tpx hF _ (by omega)]
    refine bf (by simp (disch := omega) only [N_lit, N_add, N_mul, N_sub, N_addneg, N_neg1, N_addm, N_le, N_lt, N_eq, N_in, N_cl, N_ne, N_ne', N_ltm, N_mlt, N_lem] <;> omega) ⟨N_in ⟨by omega, by omega⟩, N_in ⟨by omega, by omega⟩, fun s1 e1 y1 ey1 => ?_⟩
    have c1 : MM T (stW (dvP tp W k) k (tp (8 + 3 * k))) s1 := by rw [e1]; exact h.w ok.1
    have f1 : Fr pOm m0 s1 := by rw [e1]; exact hF.si (pOm_t (by omega))
    rw [ey1, nI_1]
    show nd_X12_on_95 (lp_X12_on_95 Q (n + 1)) Q (nI (3 * k + 1)) s1
    unfold nd_X12_on_95 wp_X12_personMany
    dsimp only
    rw [c1.2.2.1.1, show (3 : Int32) * nI T.1 = nI (3 * T.1) from N_mul 3 _, show (8 : Int32) + nI (3 * k + 1) = nI (9 + 3 * k) by rw [show (8 : Int32) + nI (3 * k + 1) = nI (8 + (3 * k + 1)) from N_add 8 _, show 8 + (3 * k + 1) = 9 + 3 * k by omega], show (5 : Int32) + nI (3 * k + 1) = nI (6 + 3 * k) by rw [show (5 : Int32) + nI (3 * k + 1) = nI (5 + (3 * k + 1)) from N_add 5 _, show 5 + (3 * k + 1) = 6 + 3 * k by omega], N_cl (by omega), N_cl (by omega), tpx f1 _ (by omega)]
    refine bf (by simp (disch := omega) only [N_lit, N_add, N_mul, N_sub, N_addneg, N_neg1, N_addm, N_le, N_lt, N_eq, N_in, N_cl, N_ne, N_ne', N_ltm, N_mlt, N_lem] <;> omega) ⟨N_in ⟨by omega, by omega⟩, N_in ⟨by omega, by omega⟩, fun s2 e2 y2 ey2 => ?_⟩
    have c2 : MM T (stA (stW (dvP tp W k) k (tp (8 + 3 * k))) k (decide (tp (9 + 3 * k) ≠ 0))) s2 := by
      have eb : tp (9 + 3 * k) = b01 (decide (tp (9 + 3 * k) ≠ 0)) := by
        have := ok.2.1
        unfold b01
        by_cases z : tp (9 + 3 * k) = 0
        · rw [if_neg (fun y => (of_decide_eq_true y) z)]; exact z
        · rw [if_pos (decide_eq_true z)]; omega
      rw [e2, show nI (tp (9 + 3 * k)) = nI (b01 (decide (tp (9 + 3 * k) ≠ 0))) from congrArg nI eb]
      exact c1.a
    have f2 : Fr pOm m0 s2 := by rw [e2]; exact f1.si (pOm_t (by omega))
    rw [ey2, nI_1]
    show nd_X12_on_95 (lp_X12_on_95 Q n) Q (nI (3 * k + 1 + 1)) s2
    unfold nd_X12_on_95 wp_X12_personMany
    dsimp only
    rw [c2.2.2.1.1, show (3 : Int32) * nI T.1 = nI (3 * T.1) from N_mul 3 _, show (8 : Int32) + nI (3 * k + 1 + 1) = nI (10 + 3 * k) by rw [show (8 : Int32) + nI (3 * k + 1 + 1) = nI (8 + (3 * k + 1 + 1)) from N_add 8 _, show 8 + (3 * k + 1 + 1) = 10 + 3 * k by omega], show (5 : Int32) + nI (3 * k + 1 + 1) = nI (7 + 3 * k) by rw [show (5 : Int32) + nI (3 * k + 1 + 1) = nI (5 + (3 * k + 1 + 1)) from N_add 5 _, show 5 + (3 * k + 1 + 1) = 7 + 3 * k by omega], N_cl (by omega), N_cl (by omega), tpx f2 _ (by omega)]
    refine bf (by simp (disch := omega) only [N_lit, N_add, N_mul, N_sub, N_addneg, N_neg1, N_addm, N_le, N_lt, N_eq, N_in, N_cl, N_ne, N_ne', N_ltm, N_mlt, N_lem] <;> omega) ⟨N_in ⟨by omega, by omega⟩, N_in ⟨by omega, by omega⟩, fun s3 e3 y3 ey3 => ?_⟩
    rw [ey3, nI_1, show 3 * k + 1 + 1 + 1 = 3 * (k + 1) by omega]
    refine m_devP hb h0 ho hq d n (k + 1) s3 ?_ ?_ (by omega) (by omega)
    · rw [e3]
      exact c2.o (by have := ok.2.2; split at this <;> omega)
    · rw [e3]; exact f2.si (pOm_t (by omega))
theorem m_devV {T : TT} {W : WW} {tp : Nat → Nat} {m0 : fz_s} (hb : ∀ j, tp j < 256) (h0 : ∀ j, j < 1600 → m0.1 197 j = nI (tp j)) (ho : ∀ v, v < 2 → OKv tp v) {Q : Bool → fz_s → Prop} (hq : ∀ m', MM T (dvV tp W 2) m' → Fr pOm m0 m' → lp_X12_on_95 Q 2048 0 m') : ∀ (n k : Nat) (x : fz_s), MM T (dvV tp W k) x → Fr pOm m0 x → k ≤ 2 → 2 < n + k → lp_X12_on_43 Q n (nI k) x
  | 0, k, x, _, _, h1, h2 => absurd h2 (by omega)
  | n + 1, k, x, h, hF, h1, h2 => by
    show nd_X12_on_43 (lp_X12_on_43 Q n) Q (nI k) x
    unfold nd_X12_on_43
    by_cases c : k = 2
    · subst c
      exact bt (by simp (disch := omega) only [N_lit, N_add, N_mul, N_sub, N_addneg, N_neg1, N_addm, N_le, N_lt, N_eq, N_in, N_cl, N_ne, N_ne', N_ltm, N_mlt, N_lem] <;> omega) (hq x h hF)
    refine bf (by simp (disch := omega) only [N_lit, N_add, N_mul, N_sub, N_addneg, N_neg1, N_addm, N_le, N_lt, N_eq, N_in, N_cl, N_ne, N_ne', N_ltm, N_mlt, N_lem] <;> omega) ?_
    have ok := ho k (by omega)
    have tpx : ∀ {y : fz_s}, Fr pOm m0 y → ∀ j, j < 1600 → y.1 197 j = nI (tp j) := fun hy j hj => (hy.i _ _ (pOm_f (by omega))).trans (h0 j hj)
    rw [show (2 : Int32) + 3 * nI k = nI (2 + 3 * k) by rw [show (3 : Int32) * nI k = nI (3 * k) from N_mul 3 k]; exact N_add 2 _, show (4 : Int32) + 3 * nI k = nI (4 + 3 * k) by rw [show (3 : Int32) * nI k = nI (3 * k) from N_mul 3 k]; exact N_add 4 _, show (1 : Int32) + 2 * nI k = nI (1 + 2 * k) by rw [show (2 : Int32) * nI k = nI (2 * k) from N_mul 2 k]; exact N_add 1 _, show (2 : Int32) + 2 * nI k = nI (2 + 2 * k) by rw [show (2 : Int32) * nI k = nI (2 * k) from N_mul 2 k]; exact N_add 2 _]
    refine m_twoAt hb (tpx hF) (by omega) ⟨N_in ⟨by omega, by omega⟩, fun s3 e3 => ⟨N_in ⟨by omega, by omega⟩, N_in ⟨by omega, by omega⟩, fun s4 e4 => ?_⟩⟩
    rw [N_cl (by omega), show 2 + 3 * k + 1 = 3 + 3 * k by omega] at e3
    have f3 : Fr pOm m0 s3 := by rw [e3]; exact hF.si (pOm_t (by omega))
    rw [N_cl (by omega), N_cl (by omega), tpx f3 _ (by omega)] at e4
    intro y ey
    rw [ey, nI_1]
    refine m_devV hb h0 ho hq n (k + 1) s4 ?_ ?_ (by omega) (by omega)
    · rw [e4, e3]
      exact (h.h ok.1 (by omega)).q ok.2 (by omega)
    · rw [e4]; exact f3.si (pOm_t (by omega))
theorem EQ_on_ok : EQ_on INV := by
  intro x m h
  obtain ⟨t, T, W, kf, kn, ⟨tp, tn, h1⟩, h2, ⟨pn, h3⟩, ⟨sd, h4⟩, ⟨sn, nm, nl, h5⟩, h6, h7, ⟨us, ac, o, nw, h8⟩, ⟨rs, rn, h9⟩, h10⟩ := id h
  have hn := h6.1.1.1
  unfold wp_X11_on wp_X12_on
  intro x1 e1 s2 e2
  have hI := h.taped (n := 0) (by omega)
  have e2' : s2 = si x 2 1 (nI 0) := e2
  rw [h1.2.2.1] at e1
  subst e1
  rw [← e2'] at hI
  have ex : ∀ a j, ¬ (a = 2 ∧ j = 1) → s2.1 a j = x.1 a j := fun a j q => by rw [e2, g_si, if_neg q]
  have tc : ∀ j, j < 1600 → s2.1 3 j = nI (tp j) := fun j hj => (ex _ _ (by omega)).trans (h1.2.2.2.2.1 j hj)
  have hmod : ∀ {Q : Bool → fz_s → Prop} (y1 : Int32), y1 = m.1 196 1 → ∀ s : fz_s, s = si m 196 1 0 → (t = true → OKI tp tn T.1 → wp_X12_twoAt 0 s (fun r5 s6 => ∀ s7 : fz_s, s7 = si s6 232 (0 : Int32).toNatClampNeg r5 → lp_X12_on_43 Q 2048 0 s7)) → (¬ (t = true ∧ OKI tp tn T.1) → Q false (si s 198 5 (s.1 198 5 + 1))) → wp_X12_isImage y1 s (fun r3 s4 => ((r3 = true → wp_X12_twoAt 0 s4 (fun r5 s6 => ∀ s7 : fz_s, s7 = si s6 232 (0 : Int32).toNatClampNeg r5 → lp_X12_on_43 Q 2048 0 s7)) ∧ (r3 = false → ∀ s8 : fz_s, s8 = si s4 198 (5 : Int32).toNatClampNeg ((s4.1 198 (5 : Int32).toNatClampNeg) + 1) → Q false s8))) := by
    intro Q y1 ey s es a b
    rw [h1.2.2.2.1] at ey
    subst ey
    have em : ∀ a j, ¬ (a = 196 ∧ j = 1) → s.1 a j = m.1 a j := fun a j q => by rw [es, g_si, if_neg q]
    exact m_isImage (t := t) hn h1.1 h1.2.1 (fun j hj => (em _ _ (by omega)).trans (h1.2.2.2.2.2 j hj)) ((em _ _ (by omega)).trans h5.2.1) ((em _ _ (by omega)).trans h6.2.1.2.2.1.1) (fun ht ho => ⟨fun _ => a ht ho, fun q => (by cases q)⟩) (fun hno => ⟨fun q => (by cases q), fun _ s8 e8 => by subst e8; exact b hno⟩)
  have no : ¬ (t = true ∧ OKI tp tn T.1) → ∀ (y1 : Int32), y1 = m.1 196 1 → ∀ s : fz_s, s = si m 196 1 0 → wp_X12_isImage y1 s (fun r3 s4 => ((r3 = true → wp_X12_twoAt 0 s4 (fun r5 s6 => ∀ s7 : fz_s, s7 = si s6 232 (0 : Int32).toNatClampNeg r5 → lp_X12_on_43 (fun r' m' => false = r' ∧ INV (si s2 195 5 (s2.1 195 5 + 1)) m') 2048 0 s7)) ∧ (r3 = false → ∀ s8 : fz_s, s8 = si s4 198 (5 : Int32).toNatClampNeg ((s4.1 198 (5 : Int32).toNatClampNeg) + 1) → (false = false ∧ INV (si s2 195 5 (s2.1 195 5 + 1)) s8)))) := by
    intro hno y1 ey s es
    refine hmod (Q := fun r' m' => false = r' ∧ INV (si s2 195 5 (s2.1 195 5 + 1)) m') y1 ey s es (fun a b => absurd ⟨a, b⟩ hno) (fun _ => ⟨rfl, ?_⟩)
    have es' : s = si m 196 1 (nI 0) := es
    rw [← es'] at hI
    exact hI.refuse 5
  refine c_noTreaty ((ex _ _ (by omega)).trans h5.1) ⟨fun q => ?_, fun q => ?_⟩
  · rw [Bool.not_eq_true'] at q
    exact c_refuse (k := 5) (by omega) (no (fun z => by rw [q] at z; cases z.1))
  rw [Bool.not_eq_false'] at q
  subst q
  refine c_isImage hn h1.1 h1.2.1 tc ((ex _ _ (by omega)).trans h5.1) ((ex _ _ (by omega)).trans h6.1.2.2.1.1) (fun ho => ⟨fun _ => ?_, fun q => (by cases q)⟩) (fun hno => ⟨fun q => (by cases q), fun _ => c_refuse (k := 5) (by omega) (no (fun z => hno z.2))⟩)
  have c2 : CC T W 35 s2 := h6.1.cg (fun a j q => ex a j (by omega))
  refine c_develop h1.2.1 tc ((ex _ _ (by omega)).trans h5.1) c2 ho (fun x3 c3 f3 k3 => ?_)
  unfold wp_X4_forget
  intro s4 e4 s5 e5 y1 ey s es
  refine hmod (Q := fun r' m' => true = r' ∧ INV s5 m') y1 ey s es (fun _ _ => ?_) (fun hno => absurd ⟨rfl, ho⟩ hno)
  have em : ∀ a j, ¬ (a = 196 ∧ j = 1) → s.1 a j = m.1 a j := fun a j q => by rw [es, g_si, if_neg q]
  have el : ∀ a j, s.2.1 a j = m.2.1 a j := fun a j => by rw [es]; rfl
  have tm : ∀ j, j < 1600 → s.1 197 j = nI (tp j) := fun j hj => (em _ _ (by omega)).trans (h1.2.2.2.2.2 j hj)
  have m2 : MM T W s := h6.2.1.cg (fun a j q => em a j (by omega))
  have y9 : 256 * tp 0 + tp (0 + 1) ≤ 999 := ho.2.2.1
  refine m_twoAt (k := 0) h1.2.1 tm (by omega) (fun s7 e7 => ?_)
  refine m_devV (T := T) (W := stY W (256 * tp 0 + tp 1)) (m0 := s) h1.2.1 tm ho.2.2.2.1 (fun z1 d1 g1 => ?_) 2048 0 s7 ?_ ?_ (by omega) (by omega)
  · refine m_devP (T := T) (m0 := s) h1.2.1 tm ho.2.2.2.2 (fun z2 d2 g2 k29 k72 => ⟨rfl, ?_⟩) T.1 2048 0 z1 d1 g1 (by omega) (by omega)
    have ex5 : ∀ a j, ¬ ((35 ≤ a ∧ a ≤ 40) ∨ (a = 47 ∧ (j = 4 ∨ j = 5)) ∨ (a = 2 ∧ j = 1)) → s5.1 a j = x.1 a j := fun a j hne => by
      rw [e5, g_si, if_neg (by omega), e4, g_si, if_neg (by omega), f3.i _ _ (pOc_f (by omega)), ex _ _ (by omega)]
    have em5 : ∀ a j, ¬ (a = 232 ∨ (a = 196 ∧ (j = 72 ∨ j = 1))) → z2.1 a j = m.1 a j := fun a j hne => by
      rw [g2.i _ _ (pOm_f (by omega)), em _ _ (by omega)]
    have el5 : ∀ a j, ¬ (a = 232 ∨ (a = 196 ∧ j = 72)) → z2.2.1 a j = m.2.1 a j := fun a j hne => by
      rw [g2.l _ _ (pOm_f hne), el]
    have s47 : ∀ a j, a ≠ 47 → s5.1 a j = x3.1 a j := fun a j hne => by rw [e5, g_ne hne, e4, g_ne hne]
    have c5 : CC T (dvW tp T W) 35 s5 := c3.cg (fun a j q => s47 a j (by omega))
    have yy : (dvW tp T W).2.2.2.2.2 = 256 * tp 0 + tp 1 := by
      unfold dvW
      rw [dvP_y, dvV_y]
      rfl
    have c5' : (dvW tp T W).2.2.2.2.2 ≤ 999 := by rw [yy]; exact y9
    refine ⟨true, T, dvW tp T W, kf, 0, ⟨tp, 0, by omega, h1.2.1, ?_, ?_, fun j hj => ?_, fun j hj => ?_⟩, h2.cg (fun a j q => ex5 a j (by omega)) (fun a j q => em5 a j (by omega)), ⟨pn, h3.cg (fun a j q => ex5 a j (by omega)) (fun a j q => em5 a j (by omega))⟩, ⟨sd, h4.cg (fun a j q => ex5 a j (by omega)) (fun a j q => el5 a j (by omega))⟩, ⟨sn, nm, nl, h5.cg (fun a j q => ex5 a j (by omega)) (fun a j q => em5 a j (by omega)) (fun a j q => el5 a j (by omega))⟩, ⟨c5, d2, c5', ?_⟩, ⟨(s47 _ _ (by omega)).trans k3, Nat.zero_le _, fun k hk => absurd hk (Nat.not_lt_zero _), k29, fun k hk => absurd hk (Nat.not_lt_zero _)⟩, ⟨us, 0, 0, nw, ⟨Nat.zero_le _, fun i j _ hj => absurd hj (Nat.not_lt_zero _), fun i hi => absurd hi (Nat.not_lt_zero _)⟩, ⟨by omega, ?_, ?_, fun i hi => absurd hi (Nat.not_lt_zero _)⟩, ⟨h8.2.2.1, k72, ?_, fun i hi => absurd hi (Nat.not_lt_zero _)⟩⟩, ⟨rs, rn, h9.cg (fun a j q => ex5 a j (by omega)) (fun a j q => em5 a j (by omega))⟩, h10.cg (fun a j q => em5 a j (by omega))⟩
    · rw [s47 _ _ (by omega), f3.i _ _ (pOc_f (by omega)), e2]; exact g_eq
    · rw [g2.i _ _ (pOm_f (by omega)), es]; exact g_eq
    · rw [ex5 _ _ (by omega)]; exact h1.2.2.2.2.1 j hj
    · rw [em5 _ _ (by omega)]; exact h1.2.2.2.2.2 j hj
    · rw [em5 _ _ (by omega)]; exact h6.2.2.2
    · rw [e5]; exact g_eq
    · rw [e5, g_nj (by omega), e4]; exact g_eq
    · rw [em5 _ _ (by omega)]; exact h8.2.2.2.2.1
  · rw [e7]
    exact m2.y (n := 256 * tp 0 + tp (0 + 1)) (by omega)
  · rw [e7]
    exact Fr.rf.si (pOm_t (by omega))

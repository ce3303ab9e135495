/-! SEE -/
def OKr (tp : Nat → Nat) (k : Nat) : Prop := tp (4 * k) ≤ 30 ∧ tp (4 * k + 1) ≤ 1 ∧ 256 * tp (4 * k + 2) + tp (4 * k + 3) ≤ 999
def OKS (tp : Nat → Nat) (tn : Nat) : Prop := 4 ≤ tn ∧ tn ≤ 64 ∧ tn % 4 = 0 ∧ ∀ k, k < tn / 4 → OKr tp k
theorem c_look_lp {tp : Nat → Nat} {N : Nat} (hN : N ≤ 16) {x : fz_s} (hb : ∀ j, tp j < 256) (h : ∀ j, j < 1600 → x.1 3 j = nI (tp j)) {Q : Bool → fz_s → Prop} (ht : (∀ k, k < N → OKr tp k) → Q true (si (sa x 191 (va_cpy (x.1 3) (x.1 191) 0 0 (4 * N))) 184 5 (nI N))) (hf : ¬ (∀ k, k < N → OKr tp k) → Q false x) : ∀ (n k : Nat), (∀ j, j < k → OKr tp j) → k ≤ N → N < n + k → lp_X6_look_24 3 1600 Q n (nI (4 * N)) (nI (4 * k)) x
  | 0, k, _, h1, h2 => absurd h2 (by omega)
  | n + 1, k, ho, h1, h2 => by
    show nd_X6_look_24 3 1600 (lp_X6_look_24 3 1600 Q n) Q (nI (4 * N)) (nI (4 * k)) x
    unfold nd_X6_look_24
    by_cases c : k = N
    · subst c
      refine bt (by simp (disch := omega) only [N_lit, N_add, N_mul, N_sub, N_addneg, N_neg1, N_addm, N_le, N_lt, N_eq, N_in, N_cl, N_ne, N_ne', N_ltm, N_mlt, N_lem] <;> omega) ⟨?_, ?_, ?_, fun s4 e4 s5 e5 => ?_⟩
      · (simp (disch := omega) only [N_lit, N_add, N_mul, N_sub, N_addneg, N_neg1, N_addm, N_le, N_lt, N_eq, N_in, N_cl, N_ne, N_ne', N_ltm, N_mlt, N_lem] <;> omega)
      · rw [N_cl (by omega)]
        show 0 + 4 * k ≤ 1600
        omega
      · rw [N_cl (by omega)]
        show 0 + 4 * k ≤ 64
        omega
      · rw [N_cl (by omega)] at e4
        rw [show nI (4 * k) / 4 = nI (4 * k / 4) from N_div (b := 4) ⟨by omega, by omega⟩, show 4 * k / 4 = k by omega] at e5
        rw [e5, e4]
        exact ht ho
    have no : ¬ OKr tp k → Q false x := fun q => hf (fun z => q (z k (by omega)))
    have b0 := hb (4 * k)
    have b1 := hb (4 * k + 1)
    have b2 := hb (4 * k + 2)
    have b3 := hb (4 * k + 3)
    refine bf (by simp (disch := omega) only [N_lit, N_add, N_mul, N_sub, N_addneg, N_neg1, N_addm, N_le, N_lt, N_eq, N_in, N_cl, N_ne, N_ne', N_ltm, N_mlt, N_lem] <;> omega) ?_
    rw [N_cl (by omega), nI_1, N_cl (by omega), h _ (by omega), h _ (by omega), show nI (4 * k) + 2 = nI (4 * k + 2) from N_add _ 2]
    refine ⟨N_in ⟨by omega, by omega⟩, ?_⟩
    by_cases c1 : 30 < tp (4 * k)
    · exact bt (by simp (disch := omega) only [N_lit, N_add, N_mul, N_sub, N_addneg, N_neg1, N_addm, N_le, N_lt, N_eq, N_in, N_cl, N_ne, N_ne', N_ltm, N_mlt, N_lem] <;> omega) (no (fun z => by have := z.1; omega))
    refine bf (by simp (disch := omega) only [N_lit, N_add, N_mul, N_sub, N_addneg, N_neg1, N_addm, N_le, N_lt, N_eq, N_in, N_cl, N_ne, N_ne', N_ltm, N_mlt, N_lem] <;> omega) ⟨N_in ⟨by omega, by omega⟩, ?_⟩
    by_cases c2 : 2 ≤ tp (4 * k + 1)
    · exact bt (by simp (disch := omega) only [N_lit, N_add, N_mul, N_sub, N_addneg, N_neg1, N_addm, N_le, N_lt, N_eq, N_in, N_cl, N_ne, N_ne', N_ltm, N_mlt, N_lem] <;> omega) (no (fun z => by have := z.2.1; omega))
    refine bf (by simp (disch := omega) only [N_lit, N_add, N_mul, N_sub, N_addneg, N_neg1, N_addm, N_le, N_lt, N_eq, N_in, N_cl, N_ne, N_ne', N_ltm, N_mlt, N_lem] <;> omega) (c_pairAt hb h (by omega) ?_)
    rw [show 4 * k + 2 + 1 = 4 * k + 3 by omega]
    by_cases c3 : 256 * tp (4 * k + 2) + tp (4 * k + 3) ≤ 999
    · refine bt (by simp (disch := omega) only [N_lit, N_add, N_mul, N_sub, N_addneg, N_neg1, N_addm, N_le, N_lt, N_eq, N_in, N_cl, N_ne, N_ne', N_ltm, N_mlt, N_lem] <;> omega) ?_
      intro x8 e8
      rw [e8, show nI (4 * k) + 4 = nI (4 * (k + 1)) by rw [show nI (4 * k) + 4 = nI (4 * k + 4) from N_add _ 4, show 4 * k + 4 = 4 * (k + 1) by omega]]
      refine c_look_lp hN hb h ht hf n (k + 1) (fun j hj => ?_) (by omega) (by omega)
      by_cases c4 : j = k
      · subst c4
        exact ⟨by omega, by omega, c3⟩
      · exact ho j (by omega)
    · exact bf (by simp (disch := omega) only [N_lit, N_add, N_mul, N_sub, N_addneg, N_neg1, N_addm, N_le, N_lt, N_eq, N_in, N_cl, N_ne, N_ne', N_ltm, N_mlt, N_lem] <;> omega) (no (fun z => by have := z.2.2; omega))
theorem c_look {tp : Nat → Nat} {tn : Nat} (htn : tn ≤ 1600) {x : fz_s} (hb : ∀ j, tp j < 256) (h : ∀ j, j < 1600 → x.1 3 j = nI (tp j)) {Q : Bool → fz_s → Prop} (ht : OKS tp tn → Q true (si (sa x 191 (va_cpy (x.1 3) (x.1 191) 0 0 tn)) 184 5 (nI (tn / 4)))) (hf : ¬ OKS tp tn → Q false x) : wp_X6_look 3 1600 (nI tn) x Q := by
  unfold wp_X6_look
  by_cases c1 : tn < 4
  · exact bt (by simp (disch := omega) only [N_lit, N_add, N_mul, N_sub, N_addneg, N_neg1, N_addm, N_le, N_lt, N_eq, N_in, N_cl, N_ne, N_ne', N_ltm, N_mlt, N_lem] <;> omega) (hf (fun z => by have := z.1; omega))
  refine bf (by simp (disch := omega) only [N_lit, N_add, N_mul, N_sub, N_addneg, N_neg1, N_addm, N_le, N_lt, N_eq, N_in, N_cl, N_ne, N_ne', N_ltm, N_mlt, N_lem] <;> omega) ?_
  by_cases c2 : 64 < tn
  · exact bt (by simp (disch := omega) only [N_lit, N_add, N_mul, N_sub, N_addneg, N_neg1, N_addm, N_le, N_lt, N_eq, N_in, N_cl, N_ne, N_ne', N_ltm, N_mlt, N_lem] <;> omega) (hf (fun z => by have := z.2.1; omega))
  refine bf (by simp (disch := omega) only [N_lit, N_add, N_mul, N_sub, N_addneg, N_neg1, N_addm, N_le, N_lt, N_eq, N_in, N_cl, N_ne, N_ne', N_ltm, N_mlt, N_lem] <;> omega) ?_
  rw [show nI tn - nI tn / 4 * 4 = nI (tn % 4) from N_mod (b := 4) ⟨by omega, by omega⟩]
  by_cases c3 : tn % 4 = 0
  · refine bt (by rw [c3]; rfl) ?_
    obtain ⟨N, rfl⟩ : ∃ N, tn = 4 * N := ⟨tn / 4, by omega⟩
    rw [show 4 * N / 4 = N by omega] at ht
    exact c_look_lp (N := N) (by omega) hb h (fun z => ht ⟨by omega, by omega, c3, fun k hk => z k (by omega)⟩) (fun z => hf (fun y => z (fun k hk => y.2.2.2 k (by omega)))) 2048 0 (fun j hj => absurd hj (Nat.not_lt_zero _)) (by omega) (by omega)
  · exact bf (by simp (disch := omega) only [N_lit, N_add, N_mul, N_sub, N_addneg, N_neg1, N_addm, N_le, N_lt, N_eq, N_in, N_cl, N_ne, N_ne', N_ltm, N_mlt, N_lem] <;> omega) (hf (fun z => c3 z.2.2.1))
theorem m_see100f {n : Int32} {m : fz_s} {Q : Int32 → fz_s → Prop} (hf : Q (-1) (si m 198 1 (m.1 198 1 + 1))) : nd_X12_see_100 Q n false m := by
  unfold nd_X12_see_100
  exact ⟨fun q => (by cases q), fun _ => m_refuses (k := 1) (by omega) hf⟩
theorem m_see43f {N k : Nat} {m : fz_s} (hN : N ≤ 1600 ∧ k ≤ 2000) {Q : Int32 → fz_s → Prop} (hf : Q (-1) (si m 198 1 (m.1 198 1 + 1))) (n : Nat) : lp_X12_see_43 Q (n + 1) (nI N) false (nI k) m := by
  show nd_X12_see_43 (lp_X12_see_43 Q n) Q (nI N) false (nI k) m
  unfold nd_X12_see_43
  exact ⟨fun _ => m_see100f hf, fun _ => ⟨fun _ => m_see100f hf, fun q => (by cases q)⟩⟩
theorem m_see_lp {tp : Nat → Nat} {N : Nat} (hN : N ≤ 16) {m : fz_s} (hb : ∀ j, tp j < 256) (h : ∀ j, j < 1600 → m.1 197 j = nI (tp j)) {Q : Int32 → fz_s → Prop} (ht : (∀ k, k < N → OKr tp k) → nd_X12_see_100 Q (nI (4 * N)) true m) (hf : ¬ (∀ k, k < N → OKr tp k) → Q (-1) (si m 198 1 (m.1 198 1 + 1))) : ∀ (n k : Nat), (∀ j, j < k → OKr tp j) → k ≤ N → N + 1 < n + k → lp_X12_see_43 Q n (nI (4 * N)) true (nI (4 * k)) m
  | 0, k, _, h1, h2 => absurd h2 (by omega)
  | n + 1, k, ho, h1, h2 => by
    show nd_X12_see_43 (lp_X12_see_43 Q n) Q (nI (4 * N)) true (nI (4 * k)) m
    unfold nd_X12_see_43
    by_cases c : k = N
    · subst c
      exact bt (by simp (disch := omega) only [N_lit, N_add, N_mul, N_sub, N_addneg, N_neg1, N_addm, N_le, N_lt, N_eq, N_in, N_cl, N_ne, N_ne', N_ltm, N_mlt, N_lem] <;> omega) (ht ho)
    obtain ⟨n, rfl⟩ : ∃ n', n = n' + 1 := ⟨n - 1, by omega⟩
    have no : ¬ OKr tp k → ∀ x1 : Int32, x1 = nI (4 * k) + 4 → lp_X12_see_43 Q (n + 1) (nI (4 * N)) false x1 m := fun q x1 e1 => by
      rw [e1, show nI (4 * k) + 4 = nI (4 * k + 4) from N_add _ 4]
      exact m_see43f ⟨by omega, by omega⟩ (hf (fun z => q (z k (by omega)))) n
    have b0 := hb (4 * k)
    have b1 := hb (4 * k + 1)
    have b2 := hb (4 * k + 2)
    have b3 := hb (4 * k + 3)
    refine bf (by simp (disch := omega) only [N_lit, N_add, N_mul, N_sub, N_addneg, N_neg1, N_addm, N_le, N_lt, N_eq, N_in, N_cl, N_ne, N_ne', N_ltm, N_mlt, N_lem] <;> omega) ⟨fun q => (by cases q), fun _ => ?_⟩
    rw [N_cl (by omega), nI_1, N_cl (by omega), h _ (by omega), h _ (by omega), show nI (4 * k) + 2 = nI (4 * k + 2) from N_add _ 2]
    refine ⟨N_in ⟨by omega, by omega⟩, ?_⟩
    by_cases c1 : 30 < tp (4 * k)
    · exact bt (by simp (disch := omega) only [N_lit, N_add, N_mul, N_sub, N_addneg, N_neg1, N_addm, N_le, N_lt, N_eq, N_in, N_cl, N_ne, N_ne', N_ltm, N_mlt, N_lem] <;> omega) (no (fun z => by have := z.1; omega))
    refine bf (by simp (disch := omega) only [N_lit, N_add, N_mul, N_sub, N_addneg, N_neg1, N_addm, N_le, N_lt, N_eq, N_in, N_cl, N_ne, N_ne', N_ltm, N_mlt, N_lem] <;> omega) ⟨N_in ⟨by omega, by omega⟩, ?_⟩
    by_cases c2 : 1 < tp (4 * k + 1)
    · exact bt (by simp (disch := omega) only [N_lit, N_add, N_mul, N_sub, N_addneg, N_neg1, N_addm, N_le, N_lt, N_eq, N_in, N_cl, N_ne, N_ne', N_ltm, N_mlt, N_lem] <;> omega) (no (fun z => by have := z.2.1; omega))
    refine bf (by simp (disch := omega) only [N_lit, N_add, N_mul, N_sub, N_addneg, N_neg1, N_addm, N_le, N_lt, N_eq, N_in, N_cl, N_ne, N_ne', N_ltm, N_mlt, N_lem] <;> omega) (m_twoAt hb h (by omega) ?_)
    rw [show 4 * k + 2 + 1 = 4 * k + 3 by omega]
    by_cases c3 : 999 < 256 * tp (4 * k + 2) + tp (4 * k + 3)
    · exact bt (by simp (disch := omega) only [N_lit, N_add, N_mul, N_sub, N_addneg, N_neg1, N_addm, N_le, N_lt, N_eq, N_in, N_cl, N_ne, N_ne', N_ltm, N_mlt, N_lem] <;> omega) (no (fun z => by have := z.2.2; omega))
    · refine bf (by simp (disch := omega) only [N_lit, N_add, N_mul, N_sub, N_addneg, N_neg1, N_addm, N_le, N_lt, N_eq, N_in, N_cl, N_ne, N_ne', N_ltm, N_mlt, N_lem] <;> omega) ?_
      intro x6 e6
      rw [e6, show nI (4 * k) + 4 = nI (4 * (k + 1)) by rw [show nI (4 * k) + 4 = nI (4 * k + 4) from N_add _ 4, show 4 * k + 4 = 4 * (k + 1) by omega]]
      refine m_see_lp hN hb h ht hf (n + 1) (k + 1) (fun j hj => ?_) (by omega) (by omega)
      by_cases c4 : j = k
      · subst c4
        exact ⟨by omega, by omega, by omega⟩
      · exact ho j (by omega)
def rsT (tp : Nat → Nat) (k : Nat) : Nat × Nat × Nat := (tp (4 * k), tp (4 * k + 1), 256 * tp (4 * k + 2) + tp (4 * k + 3))
def pSm (a j : Nat) : Bool := decide (a = 240 ∨ (a = 196 ∧ j = 66))
theorem m_rows_lp {tp : Nat → Nat} {N : Nat} (hN : N ≤ 16) {m0 : fz_s} (hb : ∀ j, tp j < 256) (h0 : ∀ j, j < 1600 → m0.1 197 j = nI (tp j)) {Q : Int32 → fz_s → Prop} (hq : ∀ m', Fr pSm m0 m' → m'.1 196 66 = nI N → (∀ k, k < N → m'.1 240 (3 * k) = nI (rsT tp k).1 ∧ m'.1 240 (3 * k + 1) = nI (rsT tp k).2.1 ∧ m'.1 240 (3 * k + 2) = nI (rsT tp k).2.2) → Q (nI N) m') : ∀ (n k : Nat) (m : fz_s), Fr pSm m0 m → m.1 196 66 = nI N → (∀ j, j < k → m.1 240 (3 * j) = nI (rsT tp j).1 ∧ m.1 240 (3 * j + 1) = nI (rsT tp j).2.1 ∧ m.1 240 (3 * j + 2) = nI (rsT tp j).2.2) → k ≤ N → N < n + k → lp_X12_see_119 Q n (nI k) m
  | 0, k, m, _, _, _, h1, h2 => absurd h2 (by omega)
  | n + 1, k, m, hF, h66, hl, h1, h2 => by
    show nd_X12_see_119 (lp_X12_see_119 Q n) Q (nI k) m
    unfold nd_X12_see_119
    rw [h66]
    by_cases c : k = N
    · subst c
      exact bt (by simp (disch := omega) only [N_lit, N_add, N_mul, N_sub, N_addneg, N_neg1, N_addm, N_le, N_lt, N_eq, N_in, N_cl, N_ne, N_ne', N_ltm, N_mlt, N_lem] <;> omega) (hq m hF h66 hl)
    have tpx : ∀ {y : fz_s}, Fr pSm m0 y → ∀ j, j < 1600 → y.1 197 j = nI (tp j) := fun hy j hj => (hy.i _ _ (decide_eq_false (by omega))).trans (h0 j hj)
    rw [show (4 : Int32) * nI k = nI (4 * k) from N_mul 4 k, show (3 : Int32) * nI k = nI (3 * k) from N_mul 3 k, N_cl (by omega), N_cl (by omega), nI_1, nI_1, nI_1, N_cl (by omega), N_cl (by omega), show nI (4 * k) + 2 = nI (4 * k + 2) from N_add _ 2, show nI (3 * k) + 2 = nI (3 * k + 2) from N_add _ 2, N_cl (by omega), tpx hF _ (by omega)]
    refine bf (by simp (disch := omega) only [N_lit, N_add, N_mul, N_sub, N_addneg, N_neg1, N_addm, N_le, N_lt, N_eq, N_in, N_cl, N_ne, N_ne', N_ltm, N_mlt, N_lem] <;> omega) ⟨N_in ⟨by omega, by omega⟩, N_in ⟨by omega, by omega⟩, fun s1 e1 => ?_⟩
    have f1 : Fr pSm m0 s1 := by rw [e1]; exact hF.si (decide_eq_true (by omega))
    rw [tpx f1 _ (by omega)]
    refine ⟨N_in ⟨by omega, by omega⟩, N_in ⟨by omega, by omega⟩, fun s2 e2 => ?_⟩
    have f2 : Fr pSm m0 s2 := by rw [e2]; exact f1.si (decide_eq_true (by omega))
    refine m_twoAt hb (tpx f2) (by omega) ⟨N_in ⟨by omega, by omega⟩, fun s5 e5 x6 e6 => ?_⟩
    rw [e6]
    refine m_rows_lp hN hb h0 hq n (k + 1) s5 (by rw [e5]; exact f2.si (decide_eq_true (by omega))) ?_ (fun j hj => ?_) (by omega) (by omega)
    · rw [e5, g_ne (by omega), e2, g_ne (by omega), e1, g_ne (by omega)]; exact h66
    · by_cases c4 : j = k
      · subst c4
        refine ⟨?_, ?_, ?_⟩
        · rw [e5, g_nj (by omega), e2, g_nj (by omega), e1, g_eq]; rfl
        · rw [e5, g_nj (by omega), e2, g_eq]; rfl
        · rw [e5, g_eq]; rfl
      · have := hl j (by omega)
        refine ⟨?_, ?_, ?_⟩
        · rw [e5, g_nj (by omega), e2, g_nj (by omega), e1, g_nj (by omega)]; exact this.1
        · rw [e5, g_nj (by omega), e2, g_nj (by omega), e1, g_nj (by omega)]; exact this.2.1
        · rw [e5, g_nj (by omega), e2, g_nj (by omega), e1, g_nj (by omega)]; exact this.2.2
theorem EQ_see_ok : EQ_see INV := by
  intro x m h
  obtain ⟨t, T, W, kf, kn, ⟨tp, tn, h1⟩, h2, ⟨pn, h3⟩, ⟨sd, h4⟩, ⟨sn, nm, nl, h5⟩, h6, h7, ⟨us, ac, o, nw, h8⟩, ⟨rs, rn, h9⟩, h10⟩ := id h
  unfold wp_X11_see wp_X12_see
  intro x1 e1 s2 e2
  have hI := h.taped (n := 0) (by omega)
  have e2' : s2 = si x 2 1 (nI 0) := e2
  rw [h1.2.2.1] at e1
  subst e1
  rw [← e2'] at hI
  have htn := h1.1
  have ex : ∀ a j, ¬ (a = 2 ∧ j = 1) → s2.1 a j = x.1 a j := fun a j q => by rw [e2, g_si, if_neg q]
  have tc : ∀ j, j < 1600 → s2.1 3 j = nI (tp j) := fun j hj => (ex _ _ (by omega)).trans (h1.2.2.2.2.1 j hj)
  -- the model
  have mod : ∀ {Q : Int32 → fz_s → Prop} (y1 : Int32), y1 = m.1 196 1 → ∀ s : fz_s, s = si m 196 1 0 → (t = true → OKS tp tn → nd_X12_see_100 Q (nI tn) true s) → (¬ (t = true ∧ OKS tp tn) → Q (-1) (si s 198 1 (s.1 198 1 + 1))) → (((s.1 196 52) = 0 → lp_X12_see_43 Q 2048 y1 false 0 s) ∧ (¬ (s.1 196 52) = 0 → ((y1 ≤ 0 → lp_X12_see_43 Q 2048 y1 false 0 s) ∧ (¬ y1 ≤ 0 → ((¬ (y1 - y1 / 4 * 4) = 0 → lp_X12_see_43 Q 2048 y1 false 0 s) ∧ ((y1 - y1 / 4 * 4) = 0 → ((16 < (y1 / 4) → lp_X12_see_43 Q 2048 y1 false 0 s) ∧ (¬ 16 < (y1 / 4) → lp_X12_see_43 Q 2048 y1 true 0 s)))))))) := by
    intro Q y1 ey s es a b
    rw [h1.2.2.2.1] at ey
    subst ey
    have em : ∀ a j, ¬ (a = 196 ∧ j = 1) → s.1 a j = m.1 a j := fun a j q => by rw [es, g_si, if_neg q]
    have no : ¬ (t = true ∧ OKS tp tn) → lp_X12_see_43 Q 2048 (nI tn) false 0 s := fun q => m_see43f (k := 0) ⟨by omega, by omega⟩ (b q) 2047
    rw [show s.1 196 52 = nI (b01 t) from (em _ _ (by omega)).trans h5.2.1]
    cases t with
    | false => exact bt rfl (no (fun z => by cases z.1))
    | true =>
      refine bf (by show ¬ (nI 1 = 0); decide +kernel) ?_
      by_cases c1 : tn = 0
      · exact bt (by rw [c1]; decide +kernel) (no (fun z => by have := z.2.1; omega))
      refine bf (by simp (disch := omega) only [N_lit, N_add, N_mul, N_sub, N_addneg, N_neg1, N_addm, N_le, N_lt, N_eq, N_in, N_cl, N_ne, N_ne', N_ltm, N_mlt, N_lem] <;> omega) ?_
      rw [show nI tn - nI tn / 4 * 4 = nI (tn % 4) from N_mod (b := 4) ⟨by omega, by omega⟩, show nI tn / 4 = nI (tn / 4) from N_div (b := 4) ⟨by omega, by omega⟩]
      by_cases c2 : tn % 4 = 0
      · refine nf (by rw [c2]; rfl) ?_
        by_cases c3 : 16 < tn / 4
        · exact bt (by simp (disch := omega) only [N_lit, N_add, N_mul, N_sub, N_addneg, N_neg1, N_addm, N_le, N_lt, N_eq, N_in, N_cl, N_ne, N_ne', N_ltm, N_mlt, N_lem] <;> omega) (no (fun z => by have := z.2.2.1; omega))
        · refine bf (by simp (disch := omega) only [N_lit, N_add, N_mul, N_sub, N_addneg, N_neg1, N_addm, N_le, N_lt, N_eq, N_in, N_cl, N_ne, N_ne', N_ltm, N_mlt, N_lem] <;> omega) ?_
          obtain ⟨N, hN⟩ : ∃ N, tn = 4 * N := ⟨tn / 4, by omega⟩
          rw [hN] at a b ⊢
          have eN : 4 * N / 4 = N := by omega
          exact m_see_lp (N := N) (by omega) h1.2.1 (fun j hj => (em _ _ (by omega)).trans (h1.2.2.2.2.2 j hj)) (fun z => a rfl ⟨by omega, by omega, by omega, fun k hk => z k (by omega)⟩) (fun z => b (fun y => z (fun k hk => y.2.2.2.2 k (by omega)))) 2048 0 (fun j hj => absurd hj (Nat.not_lt_zero _)) (by omega) (by omega)
      · exact nt (by simp (disch := omega) only [N_lit, N_add, N_mul, N_sub, N_addneg, N_neg1, N_addm, N_le, N_lt, N_eq, N_in, N_cl, N_ne, N_ne', N_ltm, N_mlt, N_lem] <;> omega) (no (fun z => c2 z.2.2.2.1))
  have no : ¬ (t = true ∧ OKS tp tn) → ∀ (y1 : Int32), y1 = m.1 196 1 → ∀ s : fz_s, s = si m 196 1 0 → (-1 : Int32) = -1 ∧ INV (si s2 195 1 (s2.1 195 1 + 1)) (si s 198 1 (s.1 198 1 + 1)) := by
    intro hno y1 ey s es
    have es' : s = si m 196 1 (nI 0) := es
    rw [← es'] at hI
    exact ⟨rfl, hI.refuse 1⟩
  refine c_noTreaty ((ex _ _ (by omega)).trans h5.1) ⟨fun q => ?_, fun q => ?_⟩
  · rw [Bool.not_eq_true'] at q
    have hno : ¬ (t = true ∧ OKS tp tn) := fun z => by rw [q] at z; cases z.1
    exact c_refuse (k := 1) (by omega) (fun y1 ey s es => mod (Q := fun r' m' => (-1 : Int32) = r' ∧ INV (si s2 195 1 (s2.1 195 1 + 1)) m') y1 ey s es (fun a b => absurd ⟨a, b⟩ hno) (fun _ => no hno y1 ey s es))
  rw [Bool.not_eq_false'] at q
  refine c_look h1.1 h1.2.1 tc (fun ho => ⟨fun _ => ?_, fun q => (by cases q)⟩) (fun hno => ⟨fun q => (by cases q), fun _ => ?_⟩)
  · have hN4 : 4 * (tn / 4) = tn := by have := ho.2.2.1; omega
    have o2 := ho.2.1
    generalize hx5 : si (sa s2 191 (va_cpy (s2.1 3) (s2.1 191) 0 0 tn)) 184 5 (nI (tn / 4)) = s5
    have r5 : s5.1 184 5 = nI (tn / 4) := by rw [← hx5]; exact g_eq
    rw [r5]
    intro y1 ey s es
    refine mod (Q := fun r' m' => nI (tn / 4) = r' ∧ INV s5 m') y1 ey s es (fun _ _ => ?_) (fun hno => absurd ⟨q, ho⟩ hno)
    have em : ∀ a j, ¬ (a = 196 ∧ j = 1) → s.1 a j = m.1 a j := fun a j q => by rw [es, g_si, if_neg q]
    have el : ∀ a j, s.2.1 a j = m.2.1 a j := fun a j => by rw [es]; rfl
    have tm : ∀ j, j < 1600 → s.1 197 j = nI (tp j) := fun j hj => (em _ _ (by omega)).trans (h1.2.2.2.2.2 j hj)
    unfold nd_X12_see_100
    refine ⟨fun _ => ?_, fun q => (by cases q)⟩
    intro z1 f1
    rw [show nI tn / 4 = nI (tn / 4) from N_div (b := 4) ⟨by omega, by omega⟩] at f1
    refine m_rows_lp (N := tn / 4) (by omega) (m0 := s) h1.2.1 tm (fun m' g' h66 hl => ⟨rfl, ?_⟩) 2048 0 z1 (by rw [f1]; exact Fr.rf.si (decide_eq_true (by omega))) (by rw [f1]; exact g_eq) (fun j hj => absurd hj (Nat.not_lt_zero _)) (by omega) (by omega)
    have ex5 : ∀ a j, ¬ (a = 191 ∨ (a = 184 ∧ j = 5) ∨ (a = 2 ∧ j = 1)) → s5.1 a j = x.1 a j := fun a j hne => by
      rw [← hx5, g_si, if_neg (by omega), ga_ne (by omega), ex _ _ (by omega)]
    have em5 : ∀ a j, ¬ (a = 240 ∨ (a = 196 ∧ (j = 66 ∨ j = 1))) → m'.1 a j = m.1 a j := fun a j hne => by
      rw [g'.i _ _ (decide_eq_false (by omega)), em _ _ (by omega)]
    have el5 : ∀ a j, ¬ (a = 240 ∨ (a = 196 ∧ j = 66)) → m'.2.1 a j = m.2.1 a j := fun a j hne => by
      rw [g'.l _ _ (decide_eq_false hne), el]
    have r191 : ∀ j, j < tn → s5.1 191 j = nI (tp j) := fun j hj => by
      rw [← hx5, g_ne (by omega), ga_eq, va_in hj]
      exact tc j (by omega)
    refine ⟨t, T, W, kf, kn, ⟨tp, 0, by omega, h1.2.1, ?_, ?_, fun j hj => ?_, fun j hj => ?_⟩, h2.cg (fun a j q => ex5 a j (by omega)) (fun a j q => em5 a j (by omega)), ⟨pn, h3.cg (fun a j q => ex5 a j (by omega)) (fun a j q => em5 a j (by omega))⟩, ⟨sd, h4.cg (fun a j q => ex5 a j (by omega)) (fun a j q => el5 a j (by omega))⟩, ⟨sn, nm, nl, h5.cg (fun a j q => ex5 a j (by omega)) (fun a j q => em5 a j (by omega)) (fun a j q => el5 a j (by omega))⟩, h6.cg (fun a j q => ex5 a j (by omega)) (fun a j q => em5 a j (by omega)), h7.cg (fun a j q => ex5 a j (by omega)) (fun a j q => em5 a j (by omega)), ⟨us, ac, o, nw, h8.cg h6.1.1.1 (fun a j q => ex5 a j (by omega)) (fun a j q => em5 a j (by omega))⟩, ⟨rsT tp, tn / 4, by omega, r5, h66, fun k hk => ?_⟩, h10.cg (fun a j q => em5 a j (by omega))⟩
    · rw [← hx5, g_ne (by omega), ga_ne (by omega), e2]; exact g_eq
    · rw [g'.i _ _ (decide_eq_false (by omega)), es]; exact g_eq
    · rw [ex5 _ _ (by omega)]; exact h1.2.2.2.2.1 j hj
    · rw [em5 _ _ (by omega)]; exact h1.2.2.2.2.2 j hj
    · have ok := ho.2.2.2 k hk
      have b3 := h1.2.1 (4 * k + 3)
      have hz := hl k hk
      have e6 : (rsT tp k).2.2 / 256 = tp (4 * k + 2) := by show (256 * tp (4 * k + 2) + tp (4 * k + 3)) / 256 = _; omega
      have e7 : (rsT tp k).2.2 % 256 = tp (4 * k + 3) := by show (256 * tp (4 * k + 2) + tp (4 * k + 3)) % 256 = _; omega
      rw [e6, e7]
      exact ⟨ok.1, ok.2.1, ok.2.2, r191 _ (by omega), r191 _ (by omega), r191 _ (by omega), r191 _ (by omega), hz.1, hz.2.1, hz.2.2⟩
  · have hno' : ¬ (t = true ∧ OKS tp tn) := fun z => hno z.2
    exact c_refuse (k := 1) (by omega) (fun y1 ey s es => mod (Q := fun r' m' => (-1 : Int32) = r' ∧ INV (si s2 195 1 (s2.1 195 1 + 1)) m') y1 ey s es (fun a b => absurd ⟨a, b⟩ hno') (fun _ => no hno' y1 ey s es))

/-! THE TREATY STANDS: the model -/
theorem st_93 {N : Nat} {m0 : fz_s} (hN : N = 24) {Q : fz_s → Prop} (hq : ∀ m' : fz_s, (∀ a j, ¬ (a = 227 ∧ 24 ≤ j ∧ j < 24 + N) → m'.1 a j = m0.1 a j) → m'.2.1 = m0.2.1 → (∀ k, k < N → m'.1 227 (24 + k) = m0.1 227 k) → lp_X12_stands_122 Q 2048 0 m') : ∀ (n k : Nat) (m : fz_s), k ≤ N → N < n + k → (∀ a j, ¬ (a = 227 ∧ 24 ≤ j ∧ j < 24 + k) → m.1 a j = m0.1 a j) → m.2.1 = m0.2.1 → (∀ i, i < k → m.1 227 (24 + i) = m0.1 227 i) → lp_X12_stands_93 Q n (nI k) m
  | 0, k, m, h1, h2, _, _, _ => absurd h2 (by omega)
  | n + 1, k, m, h1, h2, h3, h4, h5 => by
    show nd_X12_stands_93 (lp_X12_stands_93 Q n) Q (nI k) m
    unfold nd_X12_stands_93
    have hN0 := hN
    by_cases c : N ≤ k
    · have : k = N := by omega
      subst this
      exact bt (by rw [hN]; rfl) (hq m h3 h4 h5)
    refine bf (fun z => c (by have := (N_le (a := 24) (b := k) ⟨by omega, by omega⟩).mp z; omega)) ?_
    rw [show (24 : Int32) + nI k = nI (24 + k) from N_add 24 k]
    refine ⟨N_in ⟨by omega, by omega⟩, N_in ⟨by omega, by omega⟩, fun s1 e1 x2 e2 => ?_⟩
    rw [N_cl (by omega)] at e1
    rw [e2, nI_1]
    refine st_93 hN hq n (k + 1) s1 (by omega) (by omega) (fun a j g => ?_) (by rw [e1]; exact h4) (fun i hi => ?_)
    · rw [e1, g_si, if_neg (by omega)]; exact h3 a j (by omega)
    · rw [e1]
      by_cases ci : i = k
      · subst ci
        rw [g_eq]
        rw [N_cl (by omega)]; exact h3 _ _ (by omega)
      · rw [g_nj (by omega)]; exact h5 i (by omega)
theorem st_122 {N : Nat} {m0 : fz_s} (hN : N ≤ 1600 ∧ m0.1 196 50 = nI N) {Q : fz_s → Prop} (hq : ∀ m' : fz_s, (∀ a j, ¬ (a = 231 ∧ 1600 ≤ j ∧ j < 1600 + N) → m'.1 a j = m0.1 a j) → m'.2.1 = m0.2.1 → (∀ k, k < N → m'.1 231 (1600 + k) = m0.1 231 k) → lp_X12_stands_154 Q 2048 0 m') : ∀ (n k : Nat) (m : fz_s), k ≤ N → N < n + k → (∀ a j, ¬ (a = 231 ∧ 1600 ≤ j ∧ j < 1600 + k) → m.1 a j = m0.1 a j) → m.2.1 = m0.2.1 → (∀ i, i < k → m.1 231 (1600 + i) = m0.1 231 i) → lp_X12_stands_122 Q n (nI k) m
  | 0, k, m, h1, h2, _, _, _ => absurd h2 (by omega)
  | n + 1, k, m, h1, h2, h3, h4, h5 => by
    show nd_X12_stands_122 (lp_X12_stands_122 Q n) Q (nI k) m
    unfold nd_X12_stands_122
    rw [h3 196 50 (by omega), hN.2]
    by_cases c : N ≤ k
    · have : k = N := by omega
      subst this
      exact bt (by simp (disch := omega) only [N_lit, N_add, N_mul, N_sub, N_addneg, N_neg1, N_addm, N_le, N_lt, N_eq, N_in, N_cl, N_ne, N_ne', N_ltm, N_mlt, N_lem] <;> omega) (hq m h3 h4 h5)
    refine bf (by simp (disch := omega) only [N_lit, N_add, N_mul, N_sub, N_addneg, N_neg1, N_addm, N_le, N_lt, N_eq, N_in, N_cl, N_ne, N_ne', N_ltm, N_mlt, N_lem] <;> omega) ?_
    rw [show (1600 : Int32) + nI k = nI (1600 + k) from N_add 1600 k]
    refine ⟨N_in ⟨by omega, by omega⟩, N_in ⟨by omega, by omega⟩, fun s1 e1 x2 e2 => ?_⟩
    rw [N_cl (by omega)] at e1
    rw [e2, nI_1]
    refine st_122 hN hq n (k + 1) s1 (by omega) (by omega) (fun a j g => ?_) (by rw [e1]; exact h4) (fun i hi => ?_)
    · rw [e1, g_si, if_neg (by omega)]; exact h3 a j (by omega)
    · rw [e1]
      by_cases ci : i = k
      · subst ci
        rw [g_eq]
        rw [N_cl (by omega)]; exact h3 _ _ (by omega)
      · rw [g_nj (by omega)]; exact h5 i (by omega)
theorem st_154 {N : Nat} {m0 : fz_s} (hN : N = 150) {Q : fz_s → Prop} (hq : ∀ m' : fz_s, (∀ a j, ¬ (a = 232 ∧ 0 ≤ j ∧ j < 0 + N) → m'.1 a j = m0.1 a j) → m'.2.1 = m0.2.1 → (∀ k, k < N → m'.1 232 (0 + k) = nI 0) → lp_X12_stands_176 Q 2048 0 m') : ∀ (n k : Nat) (m : fz_s), k ≤ N → N < n + k → (∀ a j, ¬ (a = 232 ∧ 0 ≤ j ∧ j < 0 + k) → m.1 a j = m0.1 a j) → m.2.1 = m0.2.1 → (∀ i, i < k → m.1 232 (0 + i) = nI 0) → lp_X12_stands_154 Q n (nI k) m
  | 0, k, m, h1, h2, _, _, _ => absurd h2 (by omega)
  | n + 1, k, m, h1, h2, h3, h4, h5 => by
    show nd_X12_stands_154 (lp_X12_stands_154 Q n) Q (nI k) m
    unfold nd_X12_stands_154
    have hN0 := hN
    by_cases c : N ≤ k
    · have : k = N := by omega
      subst this
      exact bt (by rw [hN]; rfl) (hq m h3 h4 h5)
    refine bf (fun z => c (by have := (N_le (a := 150) (b := k) ⟨by omega, by omega⟩).mp z; omega)) ?_
    have hz : k < 150 := by omega
    refine ⟨N_in ⟨by omega, by omega⟩, fun s1 e1 x2 e2 => ?_⟩
    rw [N_cl (by omega)] at e1
    rw [e2, nI_1]
    refine st_154 hN hq n (k + 1) s1 (by omega) (by omega) (fun a j g => ?_) (by rw [e1]; exact h4) (fun i hi => ?_)
    · rw [e1, g_si, if_neg (by omega)]; exact h3 a j (by omega)
    · rw [e1]
      by_cases ci : i = k
      · subst ci
        rw [Nat.zero_add, g_eq]
        rfl
      · rw [g_nj (by omega)]; exact h5 i (by omega)
theorem st_176 {N : Nat} {m0 : fz_s} (hN : N = 4) {Q : fz_s → Prop} (hq : ∀ m' : fz_s, (∀ a j, ¬ (a = 232 ∧ 1 ≤ j ∧ j < 1 + N) → m'.1 a j = m0.1 a j) → m'.2.1 = m0.2.1 → (∀ k, k < N → m'.1 232 (1 + k) = m0.1 226 k) → lp_X12_stands_203 Q 2048 0 m') : ∀ (n k : Nat) (m : fz_s), k ≤ N → N < n + k → (∀ a j, ¬ (a = 232 ∧ 1 ≤ j ∧ j < 1 + k) → m.1 a j = m0.1 a j) → m.2.1 = m0.2.1 → (∀ i, i < k → m.1 232 (1 + i) = m0.1 226 i) → lp_X12_stands_176 Q n (nI k) m
  | 0, k, m, h1, h2, _, _, _ => absurd h2 (by omega)
  | n + 1, k, m, h1, h2, h3, h4, h5 => by
    show nd_X12_stands_176 (lp_X12_stands_176 Q n) Q (nI k) m
    unfold nd_X12_stands_176
    have hN0 := hN
    by_cases c : N ≤ k
    · have : k = N := by omega
      subst this
      exact bt (by rw [hN]; rfl) (hq m h3 h4 h5)
    refine bf (fun z => c (by have := (N_le (a := 4) (b := k) ⟨by omega, by omega⟩).mp z; omega)) ?_
    rw [show (1 : Int32) + nI k = nI (1 + k) from N_add 1 k]
    refine ⟨N_in ⟨by omega, by omega⟩, N_in ⟨by omega, by omega⟩, fun s1 e1 x2 e2 => ?_⟩
    rw [N_cl (by omega)] at e1
    rw [e2, nI_1]
    refine st_176 hN hq n (k + 1) s1 (by omega) (by omega) (fun a j g => ?_) (by rw [e1]; exact h4) (fun i hi => ?_)
    · rw [e1, g_si, if_neg (by omega)]; exact h3 a j (by omega)
    · rw [e1]
      by_cases ci : i = k
      · subst ci
        rw [g_eq]
        rw [N_cl (by omega)]; exact h3 _ _ (by omega)
      · rw [g_nj (by omega)]; exact h5 i (by omega)
theorem st_203 {N : Nat} {m0 : fz_s} (hN : N ≤ 8 ∧ m0.1 196 40 = nI N) {Q : fz_s → Prop} (hq : ∀ m' : fz_s, (∀ a j, ¬ (a = 232 ∧ ∃ p, p < N ∧ j = 5 + 3 * p) → m'.1 a j = m0.1 a j) → m'.2.1 = m0.2.1 → (∀ p, p < N → m'.1 232 (5 + 3 * p) = m0.1 228 p) → ∀ s1 : fz_s, s1 = si m' 196 72 0 → ∀ s2 : fz_s, s2 = si s1 196 66 0 → Q s2) : ∀ (n k : Nat) (m : fz_s), k ≤ N → N < n + k → (∀ a j, ¬ (a = 232 ∧ ∃ p, p < k ∧ j = 5 + 3 * p) → m.1 a j = m0.1 a j) → m.2.1 = m0.2.1 → (∀ p, p < k → m.1 232 (5 + 3 * p) = m0.1 228 p) → lp_X12_stands_203 Q n (nI k) m
  | 0, k, m, h1, h2, _, _, _ => absurd h2 (by omega)
  | n + 1, k, m, h1, h2, h3, h4, h5 => by
    show nd_X12_stands_203 (lp_X12_stands_203 Q n) Q (nI k) m
    unfold nd_X12_stands_203
    rw [h3 196 40 (fun z => by omega), hN.2]
    by_cases c : N ≤ k
    · have : k = N := by omega
      subst this
      exact bt (by simp (disch := omega) only [N_lit, N_add, N_mul, N_sub, N_addneg, N_neg1, N_addm, N_le, N_lt, N_eq, N_in, N_cl, N_ne, N_ne', N_ltm, N_mlt, N_lem] <;> omega) (hq m h3 h4 h5)
    refine bf (by simp (disch := omega) only [N_lit, N_add, N_mul, N_sub, N_addneg, N_neg1, N_addm, N_le, N_lt, N_eq, N_in, N_cl, N_ne, N_ne', N_ltm, N_mlt, N_lem] <;> omega) ?_
    rw [show (3 : Int32) * nI k = nI (3 * k) from N_mul 3 k, show (5 : Int32) + nI (3 * k) = nI (5 + 3 * k) from N_add 5 _]
    refine ⟨N_in ⟨by omega, by omega⟩, N_in ⟨by omega, by omega⟩, fun s1 e1 x2 e2 => ?_⟩
    rw [N_cl (by omega), N_cl (by omega)] at e1
    rw [e2, nI_1]
    refine st_203 hN hq n (k + 1) s1 (by omega) (by omega) (fun a j g => ?_) (by rw [e1]; exact h4) (fun p hp => ?_)
    · rw [e1, g_si, if_neg (fun z => g ⟨z.1, k, by omega, z.2⟩)]
      exact h3 a j (fun z => by obtain ⟨z1, p, z2, z3⟩ := z; exact g ⟨z1, p, by omega, z3⟩)
    · rw [e1]
      by_cases ci : p = k
      · subst ci
        rw [g_eq]; exact h3 _ _ (fun z => by omega)
      · rw [g_nj (by omega)]; exact h5 p (by omega)
theorem st_64 {m0 : fz_s} {Q : fz_s → Prop} (hq : ∀ m' : fz_s, m'.1 = m0.1 → (∀ a j, ¬ (a = 225 ∧ 10 ≤ j ∧ j < 20) → m'.2.1 a j = m0.2.1 a j) → (∀ k, k < 10 → m'.2.1 225 (10 + k) = m0.2.1 225 k) → lp_X12_stands_93 Q 2048 0 m') : ∀ (n k : Nat) (m : fz_s), k ≤ 10 → 10 < n + k → m.1 = m0.1 → (∀ a j, ¬ (a = 225 ∧ 10 ≤ j ∧ j < 10 + k) → m.2.1 a j = m0.2.1 a j) → (∀ i, i < k → m.2.1 225 (10 + i) = m0.2.1 225 i) → lp_X12_stands_64 Q n (nI k) m
  | 0, k, m, h1, h2, _, _, _ => absurd h2 (by omega)
  | n + 1, k, m, h1, h2, h3, h4, h5 => by
    show nd_X12_stands_64 (lp_X12_stands_64 Q n) Q (nI k) m
    unfold nd_X12_stands_64
    by_cases c : 10 ≤ k
    · have hk : k = 10 := by omega
      subst hk
      exact bt (by decide +kernel) (hq m h3 h4 h5)
    refine bf (by simp (disch := omega) only [N_lit, N_add, N_mul, N_sub, N_addneg, N_neg1, N_addm, N_le, N_lt, N_eq, N_in, N_cl, N_ne, N_ne', N_ltm, N_mlt, N_lem] <;> omega) ?_
    rw [show (10 : Int32) + nI k = nI (10 + k) from N_add 10 k]
    refine ⟨N_in ⟨by omega, by omega⟩, N_in ⟨by omega, by omega⟩, fun s1 e1 x2 e2 => ?_⟩
    rw [N_cl (by omega), N_cl (by omega)] at e1
    rw [e2, nI_1]
    refine st_64 hq n (k + 1) s1 (by omega) (by omega) (by rw [e1]; exact h3) (fun a j g => ?_) (fun i hi => ?_)
    · rw [e1, g_sl, if_neg (by omega)]; exact h4 a j (by omega)
    · rw [e1]
      by_cases ci : i = k
      · subst ci
        rw [gl_eq]; exact h4 _ _ (by omega)
      · rw [gl_nj (by omega)]; exact h5 i (by omega)
theorem st_23 {m0 : fz_s} {Q : fz_s → Prop} (hq : ∀ m' : fz_s, (∀ a j, ¬ ((a = 229 ∨ a = 230) ∧ 5 ≤ j ∧ j < 10) → m'.1 a j = m0.1 a j) → m'.2.1 = m0.2.1 → (∀ k, k < 5 → m'.1 229 (5 + k) = m0.1 229 k ∧ m'.1 230 (5 + k) = m0.1 230 k) → lp_X12_stands_64 Q 2048 0 m') : ∀ (n k : Nat) (m : fz_s), k ≤ 5 → 5 < n + k → (∀ a j, ¬ ((a = 229 ∨ a = 230) ∧ 5 ≤ j ∧ j < 5 + k) → m.1 a j = m0.1 a j) → m.2.1 = m0.2.1 → (∀ i, i < k → m.1 229 (5 + i) = m0.1 229 i ∧ m.1 230 (5 + i) = m0.1 230 i) → lp_X12_stands_23 Q n (nI k) m
  | 0, k, m, h1, h2, _, _, _ => absurd h2 (by omega)
  | n + 1, k, m, h1, h2, h3, h4, h5 => by
    show nd_X12_stands_23 (lp_X12_stands_23 Q n) Q (nI k) m
    unfold nd_X12_stands_23
    by_cases c : 5 ≤ k
    · have hk : k = 5 := by omega
      subst hk
      exact bt (by decide +kernel) (hq m h3 h4 h5)
    refine bf (by simp (disch := omega) only [N_lit, N_add, N_mul, N_sub, N_addneg, N_neg1, N_addm, N_le, N_lt, N_eq, N_in, N_cl, N_ne, N_ne', N_ltm, N_mlt, N_lem] <;> omega) ?_
    rw [show (5 : Int32) + nI k = nI (5 + k) from N_add 5 k]
    refine ⟨N_in ⟨by omega, by omega⟩, N_in ⟨by omega, by omega⟩, fun s1 e1 => ⟨N_in ⟨by omega, by omega⟩, N_in ⟨by omega, by omega⟩, fun s2 e2 x3 e3 => ?_⟩⟩
    rw [N_cl (by omega), N_cl (by omega)] at e1 e2
    rw [e3, nI_1]
    refine st_23 hq n (k + 1) s2 (by omega) (by omega) (fun a j g => ?_) (by rw [e2, e1]; exact h4) (fun i hi => ?_)
    · rw [e2, g_si, if_neg (by omega), e1, g_si, if_neg (by omega)]; exact h3 a j (by omega)
    · by_cases ci : i = k
      · subst ci
        refine ⟨?_, ?_⟩
        · rw [e2, g_ne (by omega), e1, g_eq]; exact h3 _ _ (by omega)
        · rw [e2, g_eq, e1, g_ne (by omega)]; exact h3 _ _ (by omega)
      · refine ⟨?_, ?_⟩
        · rw [e2, g_ne (by omega), e1, g_nj (by omega)]; exact (h5 i (by omega)).1
        · rw [e2, g_nj (by omega), e1, g_ne (by omega)]; exact (h5 i (by omega)).2
/-- all that the model does when a treaty stands -/
theorem m_stands {np sn cz : Nat} {m : fz_s} (hnp : np ≤ 8) (hcz : cz ≤ 1600) (h39 : m.1 196 39 = nI np) (h45 : m.1 196 45 = nI sn) (h50 : m.1 196 50 = nI cz) {Q : fz_s → Prop} (hq : ∀ m' : fz_s, (∀ a j, ¬ (a = 196 ∧ (j = 40 ∨ j = 46 ∨ j = 52 ∨ j = 66 ∨ j = 72)) → ¬ ((a = 229 ∨ a = 230) ∧ 5 ≤ j ∧ j < 10) → ¬ (a = 227 ∧ 24 ≤ j) → ¬ (a = 231 ∧ 1600 ≤ j) → ¬ (a = 232 ∧ j < 150) → m'.1 a j = m.1 a j) → (∀ a j, ¬ (a = 225 ∧ 10 ≤ j ∧ j < 20) → m'.2.1 a j = m.2.1 a j) → m'.1 196 52 = nI 1 → m'.1 196 40 = nI np → m'.1 196 46 = nI sn → m'.1 196 66 = nI 0 → m'.1 196 72 = nI 0 → (∀ k, k < 5 → m'.1 229 (5 + k) = m.1 229 k ∧ m'.1 230 (5 + k) = m.1 230 k) → (∀ k, k < 10 → m'.2.1 225 (10 + k) = m.2.1 225 k) → (∀ k, k < 24 → m'.1 227 (24 + k) = m.1 227 k) → (∀ k, k < cz → m'.1 231 (1600 + k) = m.1 231 k) → m'.1 232 0 = nI 0 → (∀ k, k < 4 → m'.1 232 (1 + k) = m.1 226 k) → (∀ p, p < np → m'.1 232 (5 + 3 * p) = m.1 228 p) → (∀ j, 5 ≤ j → j < 150 → (∀ p, p < np → j ≠ 5 + 3 * p) → m'.1 232 j = nI 0) → m'.1 232 29 = nI 0 → Q m') : wp_X12_stands m Q := by
  unfold wp_X12_stands
  intro s1 e1 s2 e2 s3 e3
  have r1 : s1.1 196 39 = nI np := by rw [e1, g_nj (by omega)]; exact h39
  rw [r1] at e2
  have r2 : s2.1 196 45 = nI sn := by rw [e2, g_nj (by omega), e1, g_nj (by omega)]; exact h45
  rw [r2] at e3
  have i3 : ∀ a j, ¬ (a = 196 ∧ (j = 40 ∨ j = 46 ∨ j = 52)) → s3.1 a j = m.1 a j := fun a j g => by
    rw [e3, g_si, if_neg (by omega), e2, g_si, if_neg (by omega), e1, g_si, if_neg (by omega)]
  have l3 : s3.2.1 = m.2.1 := by rw [e3, e2, e1]; rfl
  have k52 : s3.1 196 52 = nI 1 := by rw [e3, g_nj (by omega), e2, g_nj (by omega), e1, g_eq]; rfl
  have k40 : s3.1 196 40 = nI np := by rw [e3, g_nj (by omega), e2, g_eq]
  have k46 : s3.1 196 46 = nI sn := by rw [e3, g_eq]
  refine st_23 (m0 := s3) (fun m4 a1 a2 a3 => ?_) 2048 0 s3 (by omega) (by omega) (fun _ _ _ => rfl) rfl (fun i hi => absurd hi (Nat.not_lt_zero _))
  refine st_64 (m0 := m4) (fun m5 b1 b2 b3 => ?_) 2048 0 m4 (by omega) (by omega) rfl (fun _ _ _ => rfl) (fun i hi => absurd hi (Nat.not_lt_zero _))
  refine st_93 (N := 24) (m0 := m5) rfl (fun m6 c1 c2 c3 => ?_) 2048 0 m5 (by omega) (by omega) (fun _ _ _ => rfl) rfl (fun i hi => absurd hi (Nat.not_lt_zero _))
  have r50 : m6.1 196 50 = nI cz := by rw [c1 _ _ (by omega), b1, a1 _ _ (by omega), i3 _ _ (by omega)]; exact h50
  refine st_122 (N := cz) (m0 := m6) ⟨hcz, r50⟩ (fun m7 d1 d2 d3 => ?_) 2048 0 m6 (by omega) (by omega) (fun _ _ _ => rfl) rfl (fun i hi => absurd hi (Nat.not_lt_zero _))
  refine st_154 (N := 150) (m0 := m7) rfl (fun m8 f1 f2 f3 => ?_) 2048 0 m7 (by omega) (by omega) (fun _ _ _ => rfl) rfl (fun i hi => absurd hi (Nat.not_lt_zero _))
  refine st_176 (N := 4) (m0 := m8) rfl (fun m9 g1 g2 g3 => ?_) 2048 0 m8 (by omega) (by omega) (fun _ _ _ => rfl) rfl (fun i hi => absurd hi (Nat.not_lt_zero _))
  have r40 : m9.1 196 40 = nI np := by rw [g1 _ _ (by omega), f1 _ _ (by omega), d1 _ _ (by omega), c1 _ _ (by omega), b1, a1 _ _ (by omega)]; exact k40
  refine st_203 (N := np) (m0 := m9) ⟨hnp, r40⟩ (fun m10 h1 h2 h3 t1 u1 t2 u2 => ?_) 2048 0 m9 (by omega) (by omega) (fun _ _ _ => rfl) rfl (fun i hi => absurd hi (Nat.not_lt_zero _))
  have back : ∀ a j, ¬ (a = 196 ∧ (j = 66 ∨ j = 72)) → ¬ ((a = 229 ∨ a = 230) ∧ 5 ≤ j ∧ j < 10) → ¬ (a = 227 ∧ 24 ≤ j) → ¬ (a = 231 ∧ 1600 ≤ j) → ¬ (a = 232 ∧ j < 150) → t2.1 a j = s3.1 a j := fun a j z1 z2 z3 z4 z5 => by
    rw [u2, g_si, if_neg (by omega), u1, g_si, if_neg (by omega), h1 _ _ (fun z => by obtain ⟨y1, p, y2, y3⟩ := z; omega), g1 _ _ (by omega), f1 _ _ (by omega), d1 _ _ (by omega), c1 _ _ (by omega), b1, a1 _ _ (by omega)]
  have t10 : ∀ a j, a ≠ 196 → t2.1 a j = m10.1 a j := fun a j z => by rw [u2, g_ne z, u1, g_ne z]
  have z232 : ∀ j, 5 ≤ j → j < 150 → (∀ p, p < np → j ≠ 5 + 3 * p) → t2.1 232 j = nI 0 := fun j z1 z2 z3 => by
    rw [t10 _ _ (by omega), h1 _ _ (fun z => by obtain ⟨y1, p, y2, y3⟩ := z; exact z3 p y2 y3), g1 _ _ (by omega)]
    have := f3 j z2
    rw [Nat.zero_add] at this
    exact this
  refine hq t2 (fun a j z1 z2 z3 z4 z5 => (back a j (by omega) z2 z3 z4 z5).trans (i3 a j (by omega))) (fun a j z => ?_) ?_ ?_ ?_ ?_ ?_ (fun k hk => ⟨?_, ?_⟩) (fun k hk => ?_) (fun k hk => ?_) (fun k hk => ?_) ?_ (fun k hk => ?_) (fun p hp => ?_) z232 (z232 29 (by omega) (by omega) (fun p hp => by omega))
  · rw [u2, u1]
    show m10.2.1 a j = _
    rw [h2, g2, f2, d2, c2, b2 a j z, a2, l3]
  · rw [back _ _ (by omega) (by omega) (by omega) (by omega) (by omega)]; exact k52
  · rw [back _ _ (by omega) (by omega) (by omega) (by omega) (by omega)]; exact k40
  · rw [back _ _ (by omega) (by omega) (by omega) (by omega) (by omega)]; exact k46
  · rw [u2, g_eq]; rfl
  · rw [u2, g_nj (by omega), u1, g_eq]; rfl
  · rw [t10 _ _ (by omega), h1 _ _ (fun z => by omega), g1 _ _ (by omega), f1 _ _ (by omega), d1 _ _ (by omega), c1 _ _ (by omega), b1, (a3 k hk).1]; exact i3 _ _ (by omega)
  · rw [t10 _ _ (by omega), h1 _ _ (fun z => by omega), g1 _ _ (by omega), f1 _ _ (by omega), d1 _ _ (by omega), c1 _ _ (by omega), b1, (a3 k hk).2]; exact i3 _ _ (by omega)
  · rw [u2, u1]
    show m10.2.1 _ _ = _
    rw [h2, g2, f2, d2, c2, b3 k hk, a2, l3]
  · rw [t10 _ _ (by omega), h1 _ _ (fun z => by omega), g1 _ _ (by omega), f1 _ _ (by omega), d1 _ _ (by omega), c3 k hk, b1, a1 _ _ (by omega)]; exact i3 _ _ (by omega)
  · rw [t10 _ _ (by omega), h1 _ _ (fun z => by omega), g1 _ _ (by omega), f1 _ _ (by omega), d3 k hk, c1 _ _ (by omega), b1, a1 _ _ (by omega)]; exact i3 _ _ (by omega)
  · rw [t10 _ _ (by omega), h1 _ _ (fun z => by obtain ⟨y1, p, y2, y3⟩ := z; omega), g1 _ _ (by omega)]
    exact f3 0 (by omega)
  · rw [t10 _ _ (by omega), h1 _ _ (fun z => by obtain ⟨y1, p, y2, y3⟩ := z; omega), g3 k hk, f1 _ _ (by omega), d1 _ _ (by omega), c1 _ _ (by omega), b1, a1 _ _ (by omega)]; exact i3 _ _ (by omega)
  · rw [t10 _ _ (by omega), h3 p hp, g1 _ _ (by omega), f1 _ _ (by omega), d1 _ _ (by omega), c1 _ _ (by omega), b1, a1 _ _ (by omega)]; exact i3 _ _ (by omega)

def p33 (a _j : Nat) : Bool := a == 33
theorem stk_push {s : fz_s} {st : List Int} {v : Int} (h : Stk (s.1 33) st) : Stk ((si s 33 st.length (iI v)).1 33) (v :: st) := by
  refine ⟨?_, h.cong fun k hk => ?_⟩
  · rw [g_si, if_pos ⟨rfl, rfl⟩]
  · rw [g_si, if_neg (fun q => by omega)]
theorem c_slot {k : Nat} (hk : k < 15) {s : fz_s} {Q : Int32 → fz_s → Prop} (hq : Q (s.1 32 k) s) : wp_X7_slotValue (nI k) s Q := by
  unfold wp_X7_slotValue
  refine bf (by simp (disch := omega) only [N_lit, N_add, N_mul, N_sub, N_addneg, N_neg1, N_addm, N_le, N_lt, N_eq, N_in, N_cl, N_ne, N_ne', N_ltm, N_mlt, N_lem] <;> omega) (bt (by simp (disch := omega) only [N_lit, N_add, N_mul, N_sub, N_addneg, N_neg1, N_addm, N_le, N_lt, N_eq, N_in, N_cl, N_ne, N_ne', N_ltm, N_mlt, N_lem] <;> omega) ⟨N_in ⟨by omega, by omega⟩, ?_⟩)
  rw [N_cl (by omega)]
  exact hq
theorem c_not {b : Int} (hb : b = 0 ∨ b = 1) {s : fz_s} {Q : Int32 → fz_s → Prop} (hq : Q (iI (1 - b)) s) : wp_X7_ofOne (nI 20000) (iI b) s Q := by
  unfold wp_X7_ofOne
  refine nf (by rw [N_lit]) ?_
  rcases hb with rfl | rfl
  · exact nf (by rw [i_lit]) hq
  · refine nt ?_ hq
    simp (disch := omega) only [i_lit, i_eq]
    omega
theorem c_of {b : Int} (hb : bd b) {c : Nat} (hc : c = 20001 ∨ c = 20002) {s : fz_s} {x0 x1 : Int} (h0 : s.1 32 (if c = 20001 then 11 else 13) = iI x0) (h1 : s.1 32 (if c = 20001 then 12 else 14) = iI x1) {Q : Int32 → fz_s → Prop} (hq : Q (iI (if b = 0 then x0 else if b = 1 then x1 else 0)) s) : wp_X7_ofOne (nI c) (iI b) s Q := by
  unfold bd at hb
  unfold wp_X7_ofOne
  refine nt (by rcases hc with rfl | rfl <;> (simp (disch := omega) only [N_lit, N_add, N_mul, N_sub, N_addneg, N_neg1, N_addm, N_le, N_lt, N_eq, N_in, N_cl, N_ne, N_ne', N_ltm, N_mlt, N_lem] <;> omega)) ?_
  have e0 : (iI b < 0) ↔ b < 0 := i_lt (b := 0) ⟨⟨by omega, by omega⟩, by omega, by omega⟩
  have e2 : (iI b < 2) ↔ b < 2 := i_lt (b := 2) ⟨⟨by omega, by omega⟩, by omega, by omega⟩
  by_cases c0 : b < 0
  · refine bt (e0.mpr c0) ?_
    rw [if_neg (by omega), if_neg (by omega)] at hq
    exact hq
  refine bf (fun q => c0 (e0.mp q)) ?_
  by_cases c2 : b < 2
  · refine bt (e2.mpr c2) ?_
    have hb2 : b = 0 ∨ b = 1 := by omega
    have e3 : iI b = nI b.toNat := by rcases hb2 with rfl | rfl <;> decide +kernel
    have hbn : b.toNat = 0 ∨ b.toNat = 1 := by omega
    rcases hc with rfl | rfl
    · refine nf (by rw [N_lit]) ?_
      rw [e3]
      rw [if_pos rfl] at h0 h1
      rcases hb2 with rfl | rfl
      · refine ⟨by simp (disch := omega) only [N_lit, N_add, N_mul, N_sub, N_addneg, N_neg1, N_addm, N_le, N_lt, N_eq, N_in, N_cl, N_ne, N_ne', N_ltm, N_mlt, N_lem], ?_⟩
        rw [if_pos rfl, ← h0] at hq
        exact hq
      · refine ⟨by simp (disch := omega) only [N_lit, N_add, N_mul, N_sub, N_addneg, N_neg1, N_addm, N_le, N_lt, N_eq, N_in, N_cl, N_ne, N_ne', N_ltm, N_mlt, N_lem], ?_⟩
        rw [if_neg (by omega), if_pos rfl, ← h1] at hq
        exact hq
    · refine nt (by simp (disch := omega) only [N_lit, N_add, N_mul, N_sub, N_addneg, N_neg1, N_addm, N_le, N_lt, N_eq, N_in, N_cl, N_ne, N_ne', N_ltm, N_mlt, N_lem] <;> omega) ?_
      rw [e3]
      rw [if_neg (by omega)] at h0 h1
      rcases hb2 with rfl | rfl
      · refine ⟨by simp (disch := omega) only [N_lit, N_add, N_mul, N_sub, N_addneg, N_neg1, N_addm, N_le, N_lt, N_eq, N_in, N_cl, N_ne, N_ne', N_ltm, N_mlt, N_lem], ?_⟩
        rw [if_pos rfl, ← h0] at hq
        exact hq
      · refine ⟨by simp (disch := omega) only [N_lit, N_add, N_mul, N_sub, N_addneg, N_neg1, N_addm, N_le, N_lt, N_eq, N_in, N_cl, N_ne, N_ne', N_ltm, N_mlt, N_lem], ?_⟩
        rw [if_neg (by omega), if_pos rfl, ← h1] at hq
        exact hq
  · refine bf (fun q => c2 (e2.mp q)) ?_
    rw [if_neg (by omega), if_neg (by omega)] at hq
    exact hq

theorem stp_len {σ : Nat → Int} {sc : Nat → Bool} {c : Nat} {st st' : List Int} (h : stp σ sc c st = some st') (hl : st.length ≤ 64) : st'.length ≤ 64 := by
  unfold stp at h
  split at h
  · split at h
    · cases h; simp only [List.length_cons]; omega
    · cases h
  split at h
  · split at h
    · cases h; simp only [List.length_cons]; omega
    · cases h
  split at h
  · split at h
    · cases h; simp only [List.length_cons]; omega
    · cases h
  split at h
  · cases h
  simp only [List.length_cons] at hl
  split at h
  · split at h
    · cases h; simp only [List.length_cons]; omega
    · cases h
  split at h
  · split at h
    · cases h; simp only [List.length_cons]; omega
    · cases h
  split at h
  · split at h
    · cases h; simp only [List.length_cons]; omega
    · cases h
  split at h
  · cases h
  simp only [List.length_cons] at hl
  split at h
  · have h := Option.some.inj h
    rw [← h]
    simp only [List.length_cons]
    omega
  · cases h
theorem c_step {a0 n0 : Nat} {K : Int32 → Int32 → Int32 → fz_s → Prop} {Q : Int32 → fz_s → Prop} {σ : Nat → Int} {sc : Nat → Bool} {c : Nat} {st st' : List Int} {s : fz_s} {to i : Nat} (hn : to ≤ n0 ∧ n0 < 2147483648) (hi : i < to) (hc : s.1 a0 i = nI (cC c)) (hS : Stk (s.1 33) st) (hb : ∀ a ∈ st, bd a) (hl : st.length ≤ 64) (hsl : ∀ k, k < 15 → sc k = true → s.1 32 k = iI (σ k)) (h12 : sc 11 = true → sc 12 = true) (h14 : sc 13 = true → sc 14 = true) (h : stp σ sc c st = some st') (k : ∀ s', Fr p33 s s' → Stk (s'.1 33) st' → K (nI st'.length) (nI to) (nI (i + 1)) s') : nd_X7_value_18 a0 n0 K Q (nI st.length) (nI to) (nI i) s := by
  have e1 : nI i + 1 = nI (i + 1) := nI_1 i
  unfold nd_X7_value_18
  refine bf (by simp (disch := omega) only [N_lit, N_add, N_mul, N_sub, N_addneg, N_neg1, N_addm, N_le, N_lt, N_eq, N_in, N_cl, N_ne, N_ne', N_ltm, N_mlt, N_lem] <;> omega) ⟨N_in ⟨by omega, by omega⟩, fun x1 hx1 => ?_⟩
  rw [N_cl (by omega), hc] at hx1
  subst hx1
  have push : ∀ v : Int, st.length < 64 → st' = v :: st → ∀ (x : Int32), x = iI v → vp_in (nI st.length) 64 ∧ ∀ s7 : fz_s, s7 = si s 33 (nI st.length).toNatClampNeg x → ∀ x8 : Int32, x8 = nI st.length + 1 → ∀ x9 : Int32, x9 = nI i + 1 → K x8 (nI to) x9 s7 := by
    intro v h64 hst x hx
    refine ⟨N_in ⟨by omega, by omega⟩, fun s7 e7 x8 e8 x9 e9 => ?_⟩
    subst hst
    rw [e8, e9, e7, hx, e1, nI_1, N_cl (by omega)]
    exact k _ (Fr.rf.si rfl) (stk_push hS)
  unfold stp at h
  split at h
  · rename_i q
    split at h
    · rename_i q2
      rw [show cC c = 1 by unfold cC; rw [if_pos q]]
      refine bf (by simp (disch := omega) only [N_lit, N_add, N_mul, N_sub, N_addneg, N_neg1, N_addm, N_le, N_lt, N_eq, N_in, N_cl, N_ne, N_ne', N_ltm, N_mlt, N_lem] <;> omega) (bf (by simp (disch := omega) only [N_lit, N_add, N_mul, N_sub, N_addneg, N_neg1, N_addm, N_le, N_lt, N_eq, N_in, N_cl, N_ne, N_ne', N_ltm, N_mlt, N_lem] <;> omega) (bf (by simp (disch := omega) only [N_lit, N_add, N_mul, N_sub, N_addneg, N_neg1, N_addm, N_le, N_lt, N_eq, N_in, N_cl, N_ne, N_ne', N_ltm, N_mlt, N_lem] <;> omega) (push 1 q2 (Option.some.inj h).symm _ (by rw [i_nI]; rfl))))
    · cases h
  rename_i q0
  rw [show cC c = c by unfold cC; rw [if_neg q0]]
  split at h
  · split at h
    · rename_i q q2
      refine bf (by simp (disch := omega) only [N_lit, N_add, N_mul, N_sub, N_addneg, N_neg1, N_addm, N_le, N_lt, N_eq, N_in, N_cl, N_ne, N_ne', N_ltm, N_mlt, N_lem] <;> omega) (bf (by simp (disch := omega) only [N_lit, N_add, N_mul, N_sub, N_addneg, N_neg1, N_addm, N_le, N_lt, N_eq, N_in, N_cl, N_ne, N_ne', N_ltm, N_mlt, N_lem] <;> omega) (bf (by simp (disch := omega) only [N_lit, N_add, N_mul, N_sub, N_addneg, N_neg1, N_addm, N_le, N_lt, N_eq, N_in, N_cl, N_ne, N_ne', N_ltm, N_mlt, N_lem] <;> omega) (push c q2 (Option.some.inj h).symm _ (by rw [i_nI]))))
    · cases h
  split at h
  · split at h
    · rename_i q1 q q2
      refine bf (by simp (disch := omega) only [N_lit, N_add, N_mul, N_sub, N_addneg, N_neg1, N_addm, N_le, N_lt, N_eq, N_in, N_cl, N_ne, N_ne', N_ltm, N_mlt, N_lem] <;> omega) (bf (by simp (disch := omega) only [N_lit, N_add, N_mul, N_sub, N_addneg, N_neg1, N_addm, N_le, N_lt, N_eq, N_in, N_cl, N_ne, N_ne', N_ltm, N_mlt, N_lem] <;> omega) (bt (by simp (disch := omega) only [N_lit, N_add, N_mul, N_sub, N_addneg, N_neg1, N_addm, N_le, N_lt, N_eq, N_in, N_cl, N_ne, N_ne', N_ltm, N_mlt, N_lem] <;> omega) ?_))
      rw [show nI c - 10000 = nI (c - 10000) by simp (disch := omega) only [N_lit, N_add, N_mul, N_sub, N_addneg, N_neg1, N_addm, N_le, N_lt, N_eq, N_in, N_cl, N_ne, N_ne', N_ltm, N_mlt, N_lem]]
      refine c_slot (by omega) ?_
      exact push _ q2.1 (Option.some.inj h).symm _ (hsl _ (by omega) q2.2.1)
    · cases h
  rename_i q1 q2
  split at h
  · cases h
  rename_i b t
  have hlt : t.length < 64 := by simp only [List.length_cons] at hl; omega
  have hbb := hb b List.mem_cons_self
  have el : (b :: t).length = t.length + 1 := rfl
  have et : (nI (b :: t).length - 1) = nI t.length := by rw [el]; simp (disch := omega) only [N_lit, N_add, N_mul, N_sub, N_addneg, N_neg1, N_addm, N_le, N_lt, N_eq, N_in, N_cl, N_ne, N_ne', N_ltm, N_mlt, N_lem]; rw [Nat.add_sub_cancel]
  have er : s.1 33 t.length = iI b := hS.1
  have one : ∀ v : Int, st' = v :: t → ∀ (x : Int32), x = iI v → vp_in (nI t.length) 64 ∧ ∀ s3 : fz_s, s3 = si s 33 t.length x → ∀ x4 : Int32, x4 = nI i + 1 → K (nI (b :: t).length) (nI to) x4 s3 := by
    intro v hst x hx
    refine ⟨N_in ⟨by omega, by omega⟩, fun s3 e3 x4 e4 => ?_⟩
    subst hst
    rw [e4, e3, hx, e1]
    exact k _ (Fr.rf.si rfl) (stk_push hS.2)
  split at h
  · rename_i qc
    split at h
    · rename_i qb
      subst qc
      refine bt (by simp (disch := omega) only [N_lit, N_add, N_mul, N_sub, N_addneg, N_neg1, N_addm, N_le, N_lt, N_eq, N_in, N_cl, N_ne, N_ne', N_ltm, N_mlt, N_lem] <;> omega) ?_
      unfold nd_X7_value_82
      refine bf (by simp (disch := omega) only [N_lit, N_add, N_mul, N_sub, N_addneg, N_neg1, N_addm, N_le, N_lt, N_eq, N_in, N_cl, N_ne, N_ne', N_ltm, N_mlt, N_lem] <;> omega) (bf (by simp (disch := omega) only [N_lit, N_add, N_mul, N_sub, N_addneg, N_neg1, N_addm, N_le, N_lt, N_eq, N_in, N_cl, N_ne, N_ne', N_ltm, N_mlt, N_lem] <;> omega) (bf ?_ ?_))
      · rw [el]; (simp (disch := omega) only [N_lit, N_add, N_mul, N_sub, N_addneg, N_neg1, N_addm, N_le, N_lt, N_eq, N_in, N_cl, N_ne, N_ne', N_ltm, N_mlt, N_lem] <;> omega)
      refine ⟨by rw [et]; exact N_in ⟨by omega, by omega⟩, ?_⟩
      rw [et, N_cl (by omega), er]
      refine c_not qb ?_
      exact one _ (Option.some.inj h).symm _ rfl
    · cases h
  split at h
  · rename_i q20 qc
    split at h
    · rename_i qb
      subst qc
      refine bt (by simp (disch := omega) only [N_lit, N_add, N_mul, N_sub, N_addneg, N_neg1, N_addm, N_le, N_lt, N_eq, N_in, N_cl, N_ne, N_ne', N_ltm, N_mlt, N_lem] <;> omega) ?_
      unfold nd_X7_value_82
      refine bf (by simp (disch := omega) only [N_lit, N_add, N_mul, N_sub, N_addneg, N_neg1, N_addm, N_le, N_lt, N_eq, N_in, N_cl, N_ne, N_ne', N_ltm, N_mlt, N_lem] <;> omega) (bf (by simp (disch := omega) only [N_lit, N_add, N_mul, N_sub, N_addneg, N_neg1, N_addm, N_le, N_lt, N_eq, N_in, N_cl, N_ne, N_ne', N_ltm, N_mlt, N_lem] <;> omega) (bf ?_ ?_))
      · rw [el]; (simp (disch := omega) only [N_lit, N_add, N_mul, N_sub, N_addneg, N_neg1, N_addm, N_le, N_lt, N_eq, N_in, N_cl, N_ne, N_ne', N_ltm, N_mlt, N_lem] <;> omega)
      refine ⟨by rw [et]; exact N_in ⟨by omega, by omega⟩, ?_⟩
      rw [et, N_cl (by omega), er]
      refine c_of hbb (Or.inl rfl) (x0 := σ 11) (x1 := σ 12) ?_ ?_ ?_
      · rw [if_pos rfl]; exact hsl 11 (by omega) qb
      · rw [if_pos rfl]; exact hsl 12 (by omega) (h12 qb)
      exact one _ (Option.some.inj h).symm _ rfl
    · cases h
  split at h
  · rename_i q20 q21 qc
    split at h
    · rename_i qb
      subst qc
      refine bt (by simp (disch := omega) only [N_lit, N_add, N_mul, N_sub, N_addneg, N_neg1, N_addm, N_le, N_lt, N_eq, N_in, N_cl, N_ne, N_ne', N_ltm, N_mlt, N_lem] <;> omega) ?_
      unfold nd_X7_value_82
      refine bf (by simp (disch := omega) only [N_lit, N_add, N_mul, N_sub, N_addneg, N_neg1, N_addm, N_le, N_lt, N_eq, N_in, N_cl, N_ne, N_ne', N_ltm, N_mlt, N_lem] <;> omega) (bf (by simp (disch := omega) only [N_lit, N_add, N_mul, N_sub, N_addneg, N_neg1, N_addm, N_le, N_lt, N_eq, N_in, N_cl, N_ne, N_ne', N_ltm, N_mlt, N_lem] <;> omega) (bf ?_ ?_))
      · rw [el]; (simp (disch := omega) only [N_lit, N_add, N_mul, N_sub, N_addneg, N_neg1, N_addm, N_le, N_lt, N_eq, N_in, N_cl, N_ne, N_ne', N_ltm, N_mlt, N_lem] <;> omega)
      refine ⟨by rw [et]; exact N_in ⟨by omega, by omega⟩, ?_⟩
      rw [et, N_cl (by omega), er]
      refine c_of hbb (Or.inr rfl) (x0 := σ 13) (x1 := σ 14) ?_ ?_ ?_
      · rw [if_neg (by omega)]; exact hsl 13 (by omega) qb
      · rw [if_neg (by omega)]; exact hsl 14 (by omega) (h14 qb)
      exact one _ (Option.some.inj h).symm _ rfl
    · cases h
  split at h
  · cases h
  rename_i q20 q21 q22 a t
  split at h
  · rename_i qb
    have hba := hb a (List.mem_cons_of_mem _ List.mem_cons_self)
    refine bt (by simp (disch := omega) only [N_lit, N_add, N_mul, N_sub, N_addneg, N_neg1, N_addm, N_le, N_lt, N_eq, N_in, N_cl, N_ne, N_ne', N_ltm, N_mlt, N_lem] <;> omega) ?_
    unfold nd_X7_value_82
    refine bf (by simp (disch := omega) only [N_lit, N_add, N_mul, N_sub, N_addneg, N_neg1, N_addm, N_le, N_lt, N_eq, N_in, N_cl, N_ne, N_ne', N_ltm, N_mlt, N_lem] <;> omega) (bt (by simp (disch := omega) only [N_lit, N_add, N_mul, N_sub, N_addneg, N_neg1, N_addm, N_le, N_lt, N_eq, N_in, N_cl, N_ne, N_ne', N_ltm, N_mlt, N_lem] <;> omega) ?_)
    unfold nd_X7_value_130
    refine bf (by simp (disch := omega) only [N_lit, N_add, N_mul, N_sub, N_addneg, N_neg1, N_addm, N_le, N_lt, N_eq, N_in, N_cl, N_ne, N_ne', N_ltm, N_mlt, N_lem] <;> omega) (bf ?_ ?_)
    · have : (b :: a :: t).length = t.length + 2 := rfl
      rw [this]; (simp (disch := omega) only [N_lit, N_add, N_mul, N_sub, N_addneg, N_neg1, N_addm, N_le, N_lt, N_eq, N_in, N_cl, N_ne, N_ne', N_ltm, N_mlt, N_lem] <;> omega)
    intro x3 e3
    have ex : x3 = nI (t.length + 1) := by
      rw [e3]
      have : (b :: a :: t).length = t.length + 2 := rfl
      rw [this]
      simp (disch := omega) only [N_lit, N_add, N_mul, N_sub, N_addneg, N_neg1, N_addm, N_le, N_lt, N_eq, N_in, N_cl, N_ne, N_ne', N_ltm, N_mlt, N_lem]
      rw [show t.length + 2 - 1 = t.length + 1 by omega]
    have ey : x3 - 1 = nI t.length := by rw [ex]; simp (disch := omega) only [N_lit, N_add, N_mul, N_sub, N_addneg, N_neg1, N_addm, N_le, N_lt, N_eq, N_in, N_cl, N_ne, N_ne', N_ltm, N_mlt, N_lem]; rw [Nat.add_sub_cancel]
    have ht : t.length < 63 := by simp only [List.length_cons] at hl; omega
    rw [ey, ex, N_cl (by omega), N_cl (by omega)]
    refine ⟨N_in ⟨by omega, by omega⟩, N_in ⟨by omega, by omega⟩, ?_⟩
    have r1 : s.1 33 t.length = iI a := hS.2.1
    have r2 : s.1 33 (t.length + 1) = iI b := hS.1
    rw [r1, r2]
    refine c_ofTwo (by omega) qb.1 hba hbb qb.2 ?_
    refine ⟨N_in ⟨by omega, by omega⟩, fun s6 e6 x7 e7 => ?_⟩
    have hst := (Option.some.inj h).symm
    rw [e6, e7, e1]
    have z := k (si s 33 t.length (iI (op2 (c - 20003) a b))) (Fr.rf.si rfl)
    rw [hst] at z
    exact z (stk_push hS.2.2)
  · cases h
theorem c_vloop {a0 n0 : Nat} {Q : Int32 → fz_s → Prop} {σ : Nat → Int} {sc : Nat → Bool} {to : Nat} (ha : a0 ≠ 33) (hn : to ≤ n0 ∧ n0 < 2147483648) (hσ : ∀ k, sc k = true → bd (σ k)) (h12 : sc 11 = true → sc 12 = true) (h14 : sc 13 = true → sc 14 = true) {v : Int} {tl : List Int} : ∀ (l : List Nat) (i n : Nat) (st : List Int) (s : fz_s), l.length < n → i + l.length = to → Seg (s.1 a0) cC i l → Stk (s.1 33) st → (∀ a ∈ st, bd a) → st.length ≤ 64 → (∀ k, k < 15 → sc k = true → s.1 32 k = iI (σ k)) → evl σ sc l st = some (v :: tl) → (∀ s', Fr p33 s s' → Q (iI v) s') → lp_X7_value_18 a0 n0 Q n (nI st.length) (nI to) (nI i) s
  | _, _, 0, _, _, h, _, _, _, _, _, _, _, _ => absurd h (Nat.not_lt_zero _)
  | [], i, n + 1, st, s, _, hi, _, hS, _, hl, _, he, hq => by
    have hst : st = v :: tl := Option.some.inj he
    subst hst
    show nd_X7_value_18 a0 n0 (lp_X7_value_18 a0 n0 Q n) Q (nI (v :: tl).length) (nI to) (nI i) s
    unfold nd_X7_value_18
    have hi2 : i = to := hi
    have el : (v :: tl).length = tl.length + 1 := rfl
    have hl2 : tl.length < 64 := by rw [el] at hl; omega
    refine bt (by simp (disch := omega) only [N_lit, N_add, N_mul, N_sub, N_addneg, N_neg1, N_addm, N_le, N_lt, N_eq, N_in, N_cl, N_ne, N_ne', N_ltm, N_mlt, N_lem] <;> omega) (bf (by rw [el]; (simp (disch := omega) only [N_lit, N_add, N_mul, N_sub, N_addneg, N_neg1, N_addm, N_le, N_lt, N_eq, N_in, N_cl, N_ne, N_ne', N_ltm, N_mlt, N_lem] <;> omega)) ⟨?_, ?_⟩)
    · rw [el]; simp (disch := omega) only [N_lit, N_add, N_mul, N_sub, N_addneg, N_neg1, N_addm, N_le, N_lt, N_eq, N_in, N_cl, N_ne, N_ne', N_ltm, N_mlt, N_lem]
    · rw [show nI (v :: tl).length - 1 = nI tl.length by rw [el]; simp (disch := omega) only [N_lit, N_add, N_mul, N_sub, N_addneg, N_neg1, N_addm, N_le, N_lt, N_eq, N_in, N_cl, N_ne, N_ne', N_ltm, N_mlt, N_lem]; rw [Nat.add_sub_cancel], N_cl (by omega), show s.1 33 tl.length = iI v from hS.1]
      exact hq s Fr.rf
  | c :: l, i, n + 1, st, s, hln, hi, hg, hS, hb, hl, hsl, he, hq => by
    simp only [List.length_cons] at hln hi
    have he2 : (stp σ sc c st).bind (evl σ sc l) = some (v :: tl) := he
    cases hs : stp σ sc c st with
    | none => rw [hs] at he2; cases he2
    | some st' =>
      rw [hs] at he2
      have he3 : evl σ sc l st' = some (v :: tl) := he2
      show nd_X7_value_18 a0 n0 (lp_X7_value_18 a0 n0 Q n) Q (nI st.length) (nI to) (nI i) s
      refine c_step hn (by omega) hg.1 hS hb hl hsl h12 h14 hs (fun s' hF hS' => ?_)
      have hx : ∀ (a j : Nat), a ≠ 33 → p33 a j = false := fun a j h => by
        show (a == 33) = false
        exact beq_eq_false_iff_ne.mpr h
      refine c_vloop ha hn hσ h12 h14 l (i + 1) n st' s' (by omega) (by omega) ?_ hS' (stp_bd hσ h12 h14 hs hb) (stp_len hs hl) ?_ he3 ?_
      · exact hg.2.cong (fun k _ _ => hF.i a0 k (hx a0 k ha))
      · intro k k1 k2
        rw [hF.i 32 k (hx 32 k (by omega))]
        exact hsl k k1 k2
      · intro s'' hF2
        exact hq s'' (hF.tr hF2)

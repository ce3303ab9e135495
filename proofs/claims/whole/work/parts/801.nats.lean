theorem N_lit (n : Nat) : (OfNat.ofNat n : Int32) = nI (OfNat.ofNat n : Nat) := (i_lit n).trans (i_nI (OfNat.ofNat n : Nat)).symm
theorem N_add (a b : Nat) : nI a + nI b = nI (a + b) := nI_add a b
theorem N_mul (a b : Nat) : nI a * nI b = nI (a * b) := (Int32.ofNat_mul a b).symm
theorem N_sub {a b : Nat} (h : b ≤ a) : nI a - nI b = nI (a - b) := (Int32.ofNat_sub a b h).symm
theorem N_addneg {a b : Nat} (h : b ≤ a) : nI a + - nI b = nI (a - b) := by
  rw [← N_sub h, Int32.sub_eq_add_neg]
theorem N_le {a b : Nat} (h : a < 2147483648 ∧ b < 2147483648) : nI a ≤ nI b ↔ a ≤ b := by
  rw [i_nI, i_nI, i_le ⟨⟨by omega, by omega⟩, by omega, by omega⟩]
  omega
theorem N_lt {a b : Nat} (h : a < 2147483648 ∧ b < 2147483648) : nI a < nI b ↔ a < b := by
  rw [i_nI, i_nI, i_lt ⟨⟨by omega, by omega⟩, by omega, by omega⟩]
  omega
theorem N_eq {a b : Nat} (h : a < 2147483648 ∧ b < 2147483648) : nI a = nI b ↔ a = b := by
  rw [i_nI, i_nI, i_eq ⟨⟨by omega, by omega⟩, by omega, by omega⟩]
  omega
theorem N_in {a n : Nat} (h : a < n ∧ n < 2147483648) : vp_in (nI a) n := by
  rw [i_nI]
  exact n_in h.1 h.2
theorem N_cl {a : Nat} (h : a < 2147483648) : (nI a).toNatClampNeg = a := nI_clamp h
theorem N_neg1 : - nI 1 = iI (-1) := by rw [i_nI, i_neg]; rfl
theorem N_addm {a : Nat} (h : 1 ≤ a) : nI a + iI (-1) = nI (a - 1) := by
  rw [← N_neg1, N_addneg h]
theorem N_ne {a : Nat} (h : a < 2147483648) : (nI a = iI (-1)) ↔ False := by
  rw [i_nI, i_eq ⟨⟨by omega, by omega⟩, by omega, by omega⟩]
  exact ⟨fun h => by omega, False.elim⟩
theorem N_ne' {a : Nat} (h : a < 2147483648) : (iI (-1) = nI a) ↔ False := by
  rw [i_nI, i_eq ⟨⟨by omega, by omega⟩, by omega, by omega⟩]
  exact ⟨fun h => by omega, False.elim⟩
theorem N_ltm {a : Nat} (h : a < 2147483648) : (nI a < iI (-1)) ↔ False := by
  rw [i_nI, i_lt ⟨⟨by omega, by omega⟩, by omega, by omega⟩]
  exact ⟨fun h => by omega, False.elim⟩
theorem N_mlt {a : Nat} (h : a < 2147483648) : (iI (-1) < nI a) ↔ True := by
  rw [i_nI, i_lt ⟨⟨by omega, by omega⟩, by omega, by omega⟩]
  exact iff_true_intro (by omega)
theorem N_lem {a : Nat} (h : a < 2147483648) : (nI a ≤ iI (-1)) ↔ False := by
  rw [i_nI, i_le ⟨⟨by omega, by omega⟩, by omega, by omega⟩]
  exact ⟨fun h => by omega, False.elim⟩
theorem N_div {a b : Nat} (h : a < 2147483648 ∧ b < 2147483648) : nI a / nI b = nI (a / b) := (Int32.ofNat_div h.1 h.2).symm
theorem N_mod {a b : Nat} (h : a < 2147483648 ∧ b < 2147483648) : nI a - nI a / nI b * nI b = nI (a % b) := by
  have h2 : a / b * b ≤ a := Nat.div_mul_le_self a b
  rw [N_div h, N_mul, N_sub h2, Nat.mod_def, Nat.mul_comm]
theorem N_64 {a : Nat} (h : a < 2147483648) : (nI a).toInt64 = lI a := by
  rw [i_nI, i_64 ⟨by omega, by omega⟩]
theorem bi_t : bi true = nI 1 := by decide +kernel
theorem bi_f : bi false = nI 0 := by decide +kernel
theorem t_wits {s : fz_s} {p : Nat} (hp : p < 8) {Q : Int32 → fz_s → Prop} (hq : Q (s.1 232 (5 + 3 * p)) s) : wp_X12_witsOf (nI p) s Q := by
  simp (disch := omega) only [wp_X12_witsOf, N_lit, N_add, N_mul, N_in, N_cl, true_and]
  exact hq

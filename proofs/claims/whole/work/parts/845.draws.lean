/-! draws -/
def lcg (sd : Nat) : Nat := (1103515245 * sd + 12345) % 2147483648
theorem l_nat (n : Nat) : lI (n : Int) = Int64.ofNat n := Int64.ofInt_eq_ofNat
theorem l_and (a b : Nat) : lI (a : Int) &&& lI (b : Int) = lI ((a &&& b : Nat) : Int) := by
  rw [l_nat, l_nat, l_nat]
  exact Int64.toBitVec_inj.mp (BitVec.ofNat_and).symm
theorem n_and (a b : Nat) : nI a &&& nI b = nI (a &&& b) := Int32.toBitVec_inj.mp (BitVec.ofNat_and).symm
theorem lcg_c {sd : Nat} (h : sd < 2147483648) : ((((1103515245 * ((nI sd).toInt64)) + 12345) &&& 2147483647).toInt32) = nI (lcg sd) := by
  rw [N_64 h]
  simp only [l_lit, l_mul, l_add]
  rw [show (OfNat.ofNat 1103515245 * (sd : Int) + OfNat.ofNat 12345 : Int) = ((1103515245 * sd + 12345 : Nat) : Int) by show (1103515245 * (sd : Int) + 12345) = _; omega, show (OfNat.ofNat 2147483647 : Int) = ((2147483647 : Nat) : Int) from rfl, l_and, l_32, ← i_nI, show (1103515245 * sd + 12345) &&& 2147483647 = lcg sd from Nat.and_two_pow_sub_one_eq_mod (1103515245 * sd + 12345) 31]
theorem l_mod {a b : Nat} (h : a < 9223372036854775808 ∧ b < 9223372036854775808) : lI (a : Int) - lI (a : Int) / lI (b : Int) * lI (b : Int) = lI ((a % b : Nat) : Int) := by
  rw [l_div ⟨⟨by omega, by omega⟩, ⟨by omega, by omega⟩, by omega⟩, l_mul, l_sub, i_tdiv (by omega)]
  congr 1
  have := Int.emod_def (a : Int) (b : Int)
  rw [Int.natCast_emod, this, Int.mul_comm]
theorem lcg_m {sd : Nat} (h : sd < 2147483648) : ((1103515245 * lI sd) + 12345) - ((1103515245 * lI sd) + 12345) / 2147483648 * 2147483648 = lI (lcg sd) := by
  simp only [l_lit, l_mul, l_add]
  rw [show (OfNat.ofNat 1103515245 * (sd : Int) + OfNat.ofNat 12345 : Int) = ((1103515245 * sd + 12345 : Nat) : Int) by show (1103515245 * (sd : Int) + 12345) = _; omega, show (OfNat.ofNat 2147483648 : Int) = ((2147483648 : Nat) : Int) from rfl, l_mod ⟨by omega, by omega⟩]
  rfl
theorem lcg_lt (sd : Nat) : lcg sd < 2147483648 := by
  unfold lcg
  omega
theorem c_draw {sd : Nat} (h : sd < 2147483648) {x : fz_s} (hx : x.1 2 17 = nI sd) {Q : Int32 → fz_s → Prop} (hq : Q (nI (lcg sd / 64 % 100)) (si x 2 17 (nI (lcg sd)))) : wp_X11_draw 100 x Q := by
  have hl := lcg_lt sd
  unfold wp_X11_draw
  intro s1 e1
  rw [hx, lcg_c h] at e1
  have r : s1.1 2 17 = nI (lcg sd) := by rw [e1]; exact g_eq
  rw [r, show nI (lcg sd) / 64 = nI (lcg sd / 64) from N_div (b := 64) ⟨by omega, by omega⟩, show nI (lcg sd / 64) - nI (lcg sd / 64) / 100 * 100 = nI (lcg sd / 64 % 100) from N_mod (b := 100) ⟨by omega, by omega⟩, e1]
  exact bf (by decide +kernel) ⟨by decide +kernel, hq⟩
theorem m_draw {sd : Nat} (h : sd < 2147483648) {m : fz_s} (hm : m.2.1 196 74 = lI sd) {Q : Int32 → fz_s → Prop} (hq : Q (nI (lcg sd / 64 % 100)) (sl m 196 74 (lI (lcg sd)))) : wp_X12_drawOf 100 m Q := by
  have hl := lcg_lt sd
  unfold wp_X12_drawOf
  intro s1 e1
  rw [hm, lcg_m h] at e1
  have r : s1.2.1 196 74 = lI (lcg sd) := by rw [e1]; exact gl_eq
  have e64 : lI ((lcg sd : Nat) : Int) / 64 = lI ((lcg sd / 64 : Nat) : Int) := by
    rw [show (64 : Int64) = lI ((64 : Nat) : Int) from l_lit 64, l_div ⟨⟨by omega, by omega⟩, ⟨by omega, by omega⟩, by omega⟩, i_tdiv (by omega)]
    congr 1
  rw [r, e64, show (100 : Int32).toInt64 = lI ((100 : Nat) : Int) by decide +kernel, l_mod ⟨by omega, by omega⟩, l_32, ← i_nI, e1]
  refine ⟨?_, hq⟩
  decide +kernel

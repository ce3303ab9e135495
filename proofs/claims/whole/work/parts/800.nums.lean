/-! NUMBERS -/
def iI (z : Int) : Int32 := Int32.ofInt z
def lI (z : Int) : Int64 := Int64.ofInt z
theorem i_lit (n : Nat) : (OfNat.ofNat n : Int32) = iI (OfNat.ofNat n : Int) := by
  show Int32.ofNat n = Int32.ofInt (n : Int)
  rw [Int32.ofInt_eq_ofNat]
theorem l_lit (n : Nat) : (OfNat.ofNat n : Int64) = lI (OfNat.ofNat n : Int) := by
  show Int64.ofNat n = Int64.ofInt (n : Int)
  rw [Int64.ofInt_eq_ofNat]
theorem i_nI (n : Nat) : nI n = iI (n : Int) := by
  unfold iI nI
  rw [Int32.ofInt_eq_ofNat]
theorem i_add (a b : Int) : iI a + iI b = iI (a + b) := (Int32.ofInt_add a b).symm
theorem i_sub (a b : Int) : iI a - iI b = iI (a - b) := (Int32.ofInt_sub a b).symm
theorem i_mul (a b : Int) : iI a * iI b = iI (a * b) := (Int32.ofInt_mul a b).symm
theorem i_neg (a : Int) : - iI a = iI (- a) := (Int32.ofInt_neg a).symm
theorem l_add (a b : Int) : lI a + lI b = lI (a + b) := (Int64.ofInt_add a b).symm
theorem l_sub (a b : Int) : lI a - lI b = lI (a - b) := (Int64.ofInt_sub a b).symm
theorem l_mul (a b : Int) : lI a * lI b = lI (a * b) := (Int64.ofInt_mul a b).symm
theorem l_neg (a : Int) : - lI a = lI (- a) := (Int64.ofInt_neg a).symm
def iR (a : Int) : Prop := -2147483648 ≤ a ∧ a < 2147483648
def lR (a : Int) : Prop := -9223372036854775808 ≤ a ∧ a < 9223372036854775808
theorem i_toInt {a : Int} (h : -2147483648 ≤ a ∧ a < 2147483648) : (iI a).toInt = a := Int32.toInt_ofInt_of_le h.1 h.2
theorem l_toInt {a : Int} (h : -9223372036854775808 ≤ a ∧ a < 9223372036854775808) : (lI a).toInt = a := Int64.toInt_ofInt_of_le h.1 h.2
theorem i_le {a b : Int} (h : (-2147483648 ≤ a ∧ a < 2147483648) ∧ (-2147483648 ≤ b ∧ b < 2147483648)) : iI a ≤ iI b ↔ a ≤ b := by
  rw [Int32.le_iff_toInt_le, i_toInt h.1, i_toInt h.2]
theorem i_lt {a b : Int} (h : (-2147483648 ≤ a ∧ a < 2147483648) ∧ (-2147483648 ≤ b ∧ b < 2147483648)) : iI a < iI b ↔ a < b := by
  rw [Int32.lt_iff_toInt_lt, i_toInt h.1, i_toInt h.2]
theorem i_eq {a b : Int} (h : (-2147483648 ≤ a ∧ a < 2147483648) ∧ (-2147483648 ≤ b ∧ b < 2147483648)) : iI a = iI b ↔ a = b := by
  rw [← Int32.toInt_inj, i_toInt h.1, i_toInt h.2]
theorem l_le {a b : Int} (h : (-9223372036854775808 ≤ a ∧ a < 9223372036854775808) ∧ (-9223372036854775808 ≤ b ∧ b < 9223372036854775808)) : lI a ≤ lI b ↔ a ≤ b := by
  rw [Int64.le_iff_toInt_le, l_toInt h.1, l_toInt h.2]
theorem l_lt {a b : Int} (h : (-9223372036854775808 ≤ a ∧ a < 9223372036854775808) ∧ (-9223372036854775808 ≤ b ∧ b < 9223372036854775808)) : lI a < lI b ↔ a < b := by
  rw [Int64.lt_iff_toInt_lt, l_toInt h.1, l_toInt h.2]
theorem l_eq {a b : Int} (h : (-9223372036854775808 ≤ a ∧ a < 9223372036854775808) ∧ (-9223372036854775808 ≤ b ∧ b < 9223372036854775808)) : lI a = lI b ↔ a = b := by
  rw [← Int64.toInt_inj, l_toInt h.1, l_toInt h.2]
theorem i_cl {a : Int} (h : -2147483648 ≤ a ∧ a < 2147483648) : (iI a).toNatClampNeg = a.toNat := Int32.toNatClampNeg_ofInt_of_le h.1 h.2
theorem i_in {a : Int} {n : Nat} (h : (0 ≤ a ∧ a < n) ∧ n < 2147483648) : vp_in (iI a) n := by
  show ¬ (iI a < iI 0 ∨ n ≤ (iI a).toNatClampNeg)
  rw [i_cl ⟨by omega, by omega⟩, i_lt ⟨⟨by omega, by omega⟩, by omega, by omega⟩]
  omega
theorem i_64 {a : Int} (h : -2147483648 ≤ a ∧ a < 2147483648) : (iI a).toInt64 = lI a := Int64.toInt_inj.mp (by rw [Int32.toInt_toInt64, i_toInt h, l_toInt ⟨by omega, by omega⟩])
theorem l_32 (a : Int) : (lI a).toInt32 = iI a := by
  unfold lI iI
  exact Int64.toInt32_ofInt ..
theorem i_div {a b : Int} (h : (-2147483648 ≤ a ∧ a < 2147483648) ∧ (-2147483648 ≤ b ∧ b < 2147483648) ∧ a ≠ -2147483648) : iI a / iI b = iI (a.tdiv b) := by
  have hn : iI a ≠ Int32.minValue := fun q => by
    have := congrArg Int32.toInt q
    rw [i_toInt h.1] at this
    exact h.2.2 this
  have e := Int32.toInt_div_of_ne_left (iI a) (iI b) hn
  rw [i_toInt h.1, i_toInt h.2.1] at e
  rw [← Int32.ofInt_toInt (iI a / iI b), e]
  rfl
theorem l_div {a b : Int} (h : (-9223372036854775808 ≤ a ∧ a < 9223372036854775808) ∧ (-9223372036854775808 ≤ b ∧ b < 9223372036854775808) ∧ a ≠ -9223372036854775808) : lI a / lI b = lI (a.tdiv b) := by
  have hn : lI a ≠ Int64.minValue := fun q => by
    have := congrArg Int64.toInt q
    rw [l_toInt h.1] at this
    exact h.2.2 this
  have e := Int64.toInt_div_of_ne_left (lI a) (lI b) hn
  rw [l_toInt h.1, l_toInt h.2.1] at e
  rw [← Int64.ofInt_toInt (lI a / lI b), e]
  rfl
theorem i_tdiv {a b : Int} (h : 0 ≤ a) : a.tdiv b = a / b := Int.tdiv_eq_ediv_of_nonneg h
theorem i_all (x : Int32) : x = iI x.toInt := (Int32.ofInt_toInt x).symm
theorem l_all (x : Int64) : x = lI x.toInt := (Int64.ofInt_toInt x).symm
theorem i_rng (x : Int32) : -2147483648 ≤ x.toInt ∧ x.toInt < 2147483648 := ⟨x.le_toInt, x.toInt_lt⟩
theorem l_rng (x : Int64) : -9223372036854775808 ≤ x.toInt ∧ x.toInt < 9223372036854775808 := ⟨x.le_toInt, x.toInt_lt⟩
theorem n_in {j n : Nat} (h : j < n) (hn : n < 2147483648) : vp_in (iI j) n := i_in ⟨⟨by omega, by omega⟩, hn⟩
theorem n_cl {j : Nat} (h : j < 2147483648) : (iI (j : Int)).toNatClampNeg = j := by
  rw [i_cl ⟨by omega, by omega⟩]
  exact Int.toNat_natCast j
/-! MEMORY -/
theorem g_si (s : fz_s) (a j : Nat) (v : Int32) (b k : Nat) : (si s a j v).1 b k = if b = a ∧ k = j then v else s.1 b k := by
  show (if b = a then upd (s.1 a) j v else s.1 b) k = _
  by_cases hb : b = a
  · subst hb
    rw [if_pos rfl]
    unfold upd
    by_cases hk : k = j
    · rw [if_pos hk, if_pos ⟨rfl, hk⟩]
    · rw [if_neg hk, if_neg (fun q => hk q.2)]
  · rw [if_neg hb, if_neg (fun q => hb q.1)]
theorem g_siL (s : fz_s) (a j : Nat) (v : Int32) : (si s a j v).2.1 = s.2.1 := rfl
theorem g_siC (s : fz_s) (a j : Nat) (v : Int32) : (si s a j v).2.2 = s.2.2 := rfl
theorem g_sa (s : fz_s) (a : Nat) (f : Nat → Int32) (b k : Nat) : (sa s a f).1 b k = if b = a then f k else s.1 b k := by
  show (if b = a then f else s.1 b) k = _
  split <;> rfl
theorem g_saL (s : fz_s) (a : Nat) (f : Nat → Int32) : (sa s a f).2.1 = s.2.1 := rfl
theorem g_sl (s : fz_s) (a j : Nat) (v : Int64) (b k : Nat) : (sl s a j v).2.1 b k = if b = a ∧ k = j then v else s.2.1 b k := by
  show (if b = a then vp_updL (s.2.1 a) j v else s.2.1 b) k = _
  by_cases hb : b = a
  · subst hb
    rw [if_pos rfl]
    unfold vp_updL
    by_cases hk : k = j
    · rw [if_pos hk, if_pos ⟨rfl, hk⟩]
    · rw [if_neg hk, if_neg (fun q => hk q.2)]
  · rw [if_neg hb, if_neg (fun q => hb q.1)]
theorem g_slI (s : fz_s) (a j : Nat) (v : Int64) : (sl s a j v).1 = s.1 := rfl
theorem g_sc (s : fz_s) (c : Option Nat) : (sc s c).1 = s.1 := rfl
theorem g_scL (s : fz_s) (c : Option Nat) : (sc s c).2.1 = s.2.1 := rfl
/-- outside P nothing changed -/
def Fr (P : Nat → Nat → Bool) (s s' : fz_s) : Prop := ∀ a j, P a j = false → s'.1 a j = s.1 a j ∧ s'.2.1 a j = s.2.1 a j
theorem Fr.rf {P : Nat → Nat → Bool} {s : fz_s} : Fr P s s := fun _ _ _ => ⟨rfl, rfl⟩
theorem Fr.i {P : Nat → Nat → Bool} {s s' : fz_s} (h : Fr P s s') (a j : Nat) (hp : P a j = false) : s'.1 a j = s.1 a j := (h a j hp).1
theorem Fr.l {P : Nat → Nat → Bool} {s s' : fz_s} (h : Fr P s s') (a j : Nat) (hp : P a j = false) : s'.2.1 a j = s.2.1 a j := (h a j hp).2
theorem Fr.tr {P : Nat → Nat → Bool} {s s' s'' : fz_s} (h : Fr P s s') (h2 : Fr P s' s'') : Fr P s s'' := fun a j hp => ⟨(h2.i a j hp).trans (h.i a j hp), (h2.l a j hp).trans (h.l a j hp)⟩
theorem Fr.mono {P R : Nat → Nat → Bool} {s s' : fz_s} (h : Fr P s s') (hq : ∀ a j, R a j = false → P a j = false) : Fr R s s' := fun a j hp => h a j (hq a j hp)
theorem Fr.si {P : Nat → Nat → Bool} {s s' : fz_s} {a j : Nat} {v : Int32} (h : Fr P s s') (hp : P a j = true) : Fr P s (si s' a j v) := fun b k hb => by
  rw [g_si, if_neg (fun q => by rw [q.1, q.2, hp] at hb; cases hb)]
  exact h b k hb
theorem Fr.sl {P : Nat → Nat → Bool} {s s' : fz_s} {a j : Nat} {v : Int64} (h : Fr P s s') (hp : P a j = true) : Fr P s (sl s' a j v) := fun b k hb => by
  rw [g_sl, if_neg (fun q => by rw [q.1, q.2, hp] at hb; cases hb)]
  exact h b k hb
theorem Fr.sa {P : Nat → Nat → Bool} {s s' : fz_s} {a : Nat} {f : Nat → Int32} (h : Fr P s s') (hp : ∀ k, P a k = true) : Fr P s (sa s' a f) := fun b k hb => by
  rw [g_sa, if_neg (fun q => by rw [q, hp k] at hb; cases hb)]
  exact h b k hb
theorem Fr.sc {P : Nat → Nat → Bool} {s s' : fz_s} {c : Option Nat} (h : Fr P s s') : Fr P s (sc s' c) := h

/-- the memory behind the constructors -/
def x_0 (L : Nat) (xs : Nat → Int32) : fz_s := ((fz_hF L xs).2.1, (fz_hF L xs).2.2.1, none)
theorem fz_hF_P (L : Nat) (xs : Nat → Int32) (a j : Nat) (ha : a < 273) (hj : j < (fz_ptr.getD a []).length) : (fz_hF L xs).2.2.2 a j = (fz_ptr.getD a []).getD j none := by
  rw [(te_hF L xs).2.1]
  have h1 := List.all_eq_true.mp fz_hF_ptr a (List.mem_range.mpr ha)
  have h2 := List.all_eq_true.mp h1 j (List.mem_range.mpr hj)
  exact of_decide_eq_true h2
theorem fz_ptr_len : ((List.range 271).all fun a => (decide (13 ≤ (fz_cells.getD a (0, 0)).1) && decide ((fz_cells.getD a (0, 0)).1 ≤ 16)) || decide ((fz_ptr.getD (a + 2) []).length = (fz_cells.getD a (0, 0)).2)) = true := by decide +kernel

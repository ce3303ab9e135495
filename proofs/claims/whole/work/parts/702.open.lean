set_option maxRecDepth 100000 in
theorem fz_fl1 : Cond.eq (.static "java/lang/String" "COMPACT_STRINGS" "Z") (.int 1) ∈ flatC (Jvm.Cond.and given_1 narrow_1) := by decide +kernel
set_option maxRecDepth 100000 in
theorem fz_fl2 : Cond.isRef (.static "jdk/internal/util/Preconditions" "SIOOBE_FORMATTER" "Ljava/util/function/BiFunction;") ∈ flatC (Jvm.Cond.and given_1 narrow_1) := by decide +kernel
set_option maxRecDepth 100000 in
theorem fz_fl3 : Cond.exactly (.string "FoolTrade$Tokens" 57) "java/lang/String" ∈ flatC (Jvm.Cond.and given_1 narrow_1) := by decide +kernel
set_option maxRecDepth 100000 in
theorem fz_fl4 : Cond.eq (.field (.string "FoolTrade$Tokens" 57) "java/lang/String" "coder" "B") (.int 0) ∈ flatC (Jvm.Cond.and given_1 narrow_1) := by decide +kernel
set_option maxRecDepth 100000 in
theorem fz_fl5 : Cond.arrayOf (.field (.string "FoolTrade$Tokens" 57) "java/lang/String" "value" "[B") .byte ∈ flatC (Jvm.Cond.and given_1 narrow_1) := by decide +kernel
set_option maxRecDepth 100000 in
theorem fz_fl6 : Cond.eq (.length (.field (.string "FoolTrade$Tokens" 57) "java/lang/String" "value" "[B")) (.int (Int32.ofNat 177)) ∈ flatC (Jvm.Cond.and given_1 narrow_1) := by decide +kernel
def fz_flF (j : Nat) : Cond := Cond.eq (.elem (.field (.string "FoolTrade$Tokens" 57) "java/lang/String" "value" "[B") (.int (Int32.ofNat j))) (.int (fz_bytes.getD j 0))
set_option maxRecDepth 100000 in
theorem fz_fl8 : (flatC (Jvm.Cond.and given_1 narrow_1)).drop 13 = (List.range 177).map fz_flF := rfl
theorem fz_fl7 (j : Nat) (hj : j < 177) : Cond.eq (.elem (.field (.string "FoolTrade$Tokens" 57) "java/lang/String" "value" "[B") (.int (Int32.ofNat j))) (.int (fz_bytes.getD j 0)) ∈ flatC (Jvm.Cond.and given_1 narrow_1) := by
  have h : fz_flF j ∈ (flatC (Jvm.Cond.and given_1 narrow_1)).drop 13 := by
    rw [fz_fl8]
    exact List.mem_map.mpr ⟨j, List.mem_range.mpr hj, rfl⟩
  exact List.mem_of_mem_drop h

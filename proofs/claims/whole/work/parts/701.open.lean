theorem fz_insts {ci N : Nat} {C : String} {T : u_T} (hc : vwCl[ci]? = some (C, T, N)) : Cond.instantiable C N ∈ fz_T := by
  match ci, hc with
  | 0, hc => cases hc; exact is_X0
  | 1, hc => cases hc; exact is_X1
  | 2, hc => cases hc; exact is_X2
  | 3, hc => cases hc; exact is_X3
  | 4, hc => cases hc; exact is_X4
  | 5, hc => cases hc; exact is_X5
  | 6, hc => cases hc; exact is_X6
  | 7, hc => cases hc; exact is_X7
  | 8, hc => cases hc; exact is_X8
  | 9, hc => cases hc; exact is_X9
  | 10, hc => cases hc; exact is_X10
  | 11, hc => cases hc; exact is_X11
  | 12, hc => cases hc; exact is_X12
  | k + 13, hc => simp [vwCl] at hc
theorem fz_wAO : Cond.arrayOver (.object "FoolTrade$World") ∈ lw_tbl := (List.mem_append_right _ (List.mem_append_right _ (List.mem_append_left _ (List.mem_of_getElem? (i := 34) rfl))))
theorem fz_wSR : Cond.stringRef "FoolTrade$Tokens" 57 fz_text ∈ lw_tbl := (List.mem_append_right _ (List.mem_append_right _ (List.mem_append_right _ (List.mem_append_left _ (List.mem_of_getElem? (i := 4) rfl)))))
theorem fz_wL1 : Cond.laysStatic "java/lang/String" "COMPACT_STRINGS" "Z" ∈ lw_tbl := (List.mem_append_right _ (List.mem_append_right _ (List.mem_append_right _ (List.mem_append_left _ (List.mem_of_getElem? (i := 14) rfl)))))
theorem fz_wL2 : Cond.laysStatic "jdk/internal/util/Preconditions" "SIOOBE_FORMATTER" "Ljava/util/function/BiFunction;" ∈ lw_tbl := (List.mem_append_right _ (List.mem_append_right _ (List.mem_append_right _ (List.mem_append_left _ (List.mem_of_getElem? (i := 30) rfl)))))
theorem fz_wI1 : Cond.initialized "java/lang/String" ∈ lw_tbl := (List.mem_append_right _ (List.mem_append_left _ (List.mem_of_getElem? (i := 15) rfl)))
theorem fz_wI2 : Cond.initialized "jdk/internal/util/Preconditions" ∈ lw_tbl := (List.mem_append_right _ (List.mem_append_left _ (List.mem_of_getElem? (i := 17) rfl)))

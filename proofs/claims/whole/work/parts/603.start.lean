set_option maxRecDepth 100000 in
theorem fz_hF_ptr : ((List.range 273).all fun a => (List.range (fz_ptr.getD a []).length).all fun j => decide (te_at te_F a j = (fz_ptr.getD a []).getD j none)) = true := by decide +kernel

theorem fw_math : Cond.initialized "java/lang/Math" ∈ fz_T := fz_in 166 (by decide +kernel) (by decide +kernel)
theorem fw_mmax_s : Cond.static Lib.Math.max.name ∈ fz_T := fz_in 622 (by decide +kernel) (by decide +kernel)
theorem fw_mmax_c : Cond.code Lib.Math.max.name Lib.Math.max.code 2 (some .int) ∈ fz_T := fz_in 623 (by decide +kernel) (by decide +kernel)
theorem fw_mmin_s : Cond.static Lib.Math.min.name ∈ fz_T := fz_in 619 (by decide +kernel) (by decide +kernel)
theorem fw_mmin_c : Cond.code Lib.Math.min.name Lib.Math.min.code 2 (some .int) ∈ fz_T := fz_in 620 (by decide +kernel) (by decide +kernel)
theorem fw_lmax_s : Cond.static Lib.MathLoose.max_long.x ∈ fz_T := fz_in 931 (by decide +kernel) (by decide +kernel)
theorem fw_lmax_c : Cond.code Lib.MathLoose.max_long.x Lib.MathLoose.max_long.code 4 (some .long) ∈ fz_T := fz_in 932 (by decide +kernel) (by decide +kernel)
theorem fw_lmin_s : Cond.static Lib.MathLoose.min_long.x ∈ fz_T := fz_in 928 (by decide +kernel) (by decide +kernel)
theorem fw_lmin_c : Cond.code Lib.MathLoose.min_long.x Lib.MathLoose.min_long.code 4 (some .long) ∈ fz_T := fz_in 929 (by decide +kernel) (by decide +kernel)
section FB
variable {g : fz_G} {l : Launch} {μ : fz_M} {d ra rb pc idx : Nat} {ls st : List Value} {h : fz_H} {Q : Option Value → fz_H → Prop}
theorem fv_mmax {x y : Int32} (hd : decode μ.2.1 pc = .ok (.invokestatic idx, 3)) (hl1 : Cond.methodLink μ.1.cls idx Lib.Math.max.name ∈ fz_T) (hst : (st.map fun v => v.category).sum ≤ 8) (k : fz_V g l μ (d + 1) ra rb (pc + 3) ls (.int (if x < y then y else x) :: st) h Q) : fz_V g l μ (d + 1) ra rb pc ls (.int y :: .int x :: st) h Q := by
  intro p e R s m args below meth c H locs cells slots lc Mc Ms QQ C RM hl hR hE
  have hts := C.2.2.2.2.2.1
  have hst' : ((st.map (fz_tr g)).map fun v => v.category).sum ≤ 8 := by rw [List.map_map]; simpa [Function.comp_def, fz_tr_cat] using hst
  have r2 := RM.2.1
  exact va_mmax C.1 C.2.1 (C.2.2.2.1.trans hl.1.symm) C.2.2.2.2.1 (hts _ hl1) (hts _ fw_mmax_s) (hts _ fw_math) (hts _ fw_mmax_c) (Nat.le_trans (Nat.le_add_left 1 d) RM.1) (by omega) (Nat.le_trans (Nat.le_trans (Nat.le_add_right _ _) RM.2.2.1) RM.2.2.2.2.1) (Nat.le_trans (Nat.le_trans (Nat.le_add_right _ _) RM.2.2.2.1) RM.2.2.2.2.2) hd (k p e R s m args below meth c H locs cells slots lc Mc Ms QQ C RM hl hR hE)
theorem fv_mmin {x y : Int32} (hd : decode μ.2.1 pc = .ok (.invokestatic idx, 3)) (hl1 : Cond.methodLink μ.1.cls idx Lib.Math.min.name ∈ fz_T) (hst : (st.map fun v => v.category).sum ≤ 8) (k : fz_V g l μ (d + 1) ra rb (pc + 3) ls (.int (if y < x then y else x) :: st) h Q) : fz_V g l μ (d + 1) ra rb pc ls (.int y :: .int x :: st) h Q := by
  intro p e R s m args below meth c H locs cells slots lc Mc Ms QQ C RM hl hR hE
  have hts := C.2.2.2.2.2.1
  have hst' : ((st.map (fz_tr g)).map fun v => v.category).sum ≤ 8 := by rw [List.map_map]; simpa [Function.comp_def, fz_tr_cat] using hst
  have r2 := RM.2.1
  exact va_mmin C.1 C.2.1 (C.2.2.2.1.trans hl.1.symm) C.2.2.2.2.1 (hts _ hl1) (hts _ fw_mmin_s) (hts _ fw_math) (hts _ fw_mmin_c) (Nat.le_trans (Nat.le_add_left 1 d) RM.1) (by omega) (Nat.le_trans (Nat.le_trans (Nat.le_add_right _ _) RM.2.2.1) RM.2.2.2.2.1) (Nat.le_trans (Nat.le_trans (Nat.le_add_right _ _) RM.2.2.2.1) RM.2.2.2.2.2) hd (k p e R s m args below meth c H locs cells slots lc Mc Ms QQ C RM hl hR hE)
theorem fv_lmax {x y : Int64} (hd : decode μ.2.1 pc = .ok (.invokestatic idx, 3)) (hl1 : Cond.methodLink μ.1.cls idx Lib.MathLoose.max_long.x ∈ fz_T) (hst : (st.map fun v => v.category).sum ≤ 8) (k : fz_V g l μ (d + 1) ra rb (pc + 3) ls (.long (if y < x then x else y) :: st) h Q) : fz_V g l μ (d + 1) ra rb pc ls (.long y :: .long x :: st) h Q := by
  intro p e R s m args below meth c H locs cells slots lc Mc Ms QQ C RM hl hR hE
  have hts := C.2.2.2.2.2.1
  have hst' : ((st.map (fz_tr g)).map fun v => v.category).sum ≤ 8 := by rw [List.map_map]; simpa [Function.comp_def, fz_tr_cat] using hst
  have r2 := RM.2.1
  exact va_mmax_long C.1 C.2.1 (C.2.2.2.1.trans hl.1.symm) C.2.2.2.2.1 (hts _ hl1) (hts _ fw_lmax_s) (hts _ fw_math) (hts _ fw_lmax_c) (Nat.le_trans (Nat.le_add_left 1 d) RM.1) (by omega) (Nat.le_trans (Nat.le_trans (Nat.le_add_right _ _) RM.2.2.1) RM.2.2.2.2.1) (Nat.le_trans (Nat.le_trans (Nat.le_add_right _ _) RM.2.2.2.1) RM.2.2.2.2.2) hd (k p e R s m args below meth c H locs cells slots lc Mc Ms QQ C RM hl hR hE)
theorem fv_lmin {x y : Int64} (hd : decode μ.2.1 pc = .ok (.invokestatic idx, 3)) (hl1 : Cond.methodLink μ.1.cls idx Lib.MathLoose.min_long.x ∈ fz_T) (hst : (st.map fun v => v.category).sum ≤ 8) (k : fz_V g l μ (d + 1) ra rb (pc + 3) ls (.long (if y < x then y else x) :: st) h Q) : fz_V g l μ (d + 1) ra rb pc ls (.long y :: .long x :: st) h Q := by
  intro p e R s m args below meth c H locs cells slots lc Mc Ms QQ C RM hl hR hE
  have hts := C.2.2.2.2.2.1
  have hst' : ((st.map (fz_tr g)).map fun v => v.category).sum ≤ 8 := by rw [List.map_map]; simpa [Function.comp_def, fz_tr_cat] using hst
  have r2 := RM.2.1
  exact va_mmin_long C.1 C.2.1 (C.2.2.2.1.trans hl.1.symm) C.2.2.2.2.1 (hts _ hl1) (hts _ fw_lmin_s) (hts _ fw_math) (hts _ fw_lmin_c) (Nat.le_trans (Nat.le_add_left 1 d) RM.1) (by omega) (Nat.le_trans (Nat.le_trans (Nat.le_add_right _ _) RM.2.2.1) RM.2.2.2.2.1) (Nat.le_trans (Nat.le_trans (Nat.le_add_right _ _) RM.2.2.2.1) RM.2.2.2.2.2) hd (k p e R s m args below meth c H locs cells slots lc Mc Ms QQ C RM hl hR hE)
end FB
theorem fw_copy_n : Cond.native arraycopyName ∈ fz_T := fz_in 863 (by decide +kernel) (by decide +kernel)
theorem fw_copy_s : Cond.static arraycopyName ∈ fz_T := fz_in 862 (by decide +kernel) (by decide +kernel)
theorem fw_copy_i : Cond.initialized "java/lang/System" ∈ fz_T := fz_in 171 (by decide +kernel) (by decide +kernel)
theorem fz_nn {z : Int32} (hz : ¬ z < 0) : z.toInt = (z.toNatClampNeg : Int) := by
  have h0 : (0 : Int) ≤ z.toInt := by simpa using Int32.le_iff_toInt_le.mp (Int32.not_lt.mp hz)
  show z.toInt = ((z.toInt.toNat : Nat) : Int)
  omega
theorem fv_copy {g : fz_G} {l : Launch} {μ : fz_M} {d ra rb pc idx : Nat} {ls st : List Value} {h : fz_H} {Q : Option Value → fz_H → Prop} {a0 a n0 n1 : Nat} {sp dp n : Int32} (hd : decode μ.2.1 pc = .ok (.invokestatic idx, 3)) (hl1 : Cond.methodLink μ.1.cls idx arraycopyName ∈ fz_T) (ha0 : fz_ar h a0 14 n0) (ha1 : fz_ar h a 14 n1) (h1 : ¬ sp < 0) (h2 : ¬ dp < 0) (h3 : ¬ n < 0) (h4 : sp.toNatClampNeg + n.toNatClampNeg ≤ n0) (h5 : dp.toNatClampNeg + n.toNatClampNeg ≤ n1) (hst : (st.map fun v => v.category).sum ≤ 8)
    (k : fz_V g l μ (d + 1) ra rb (pc + 3) ls st (fz_sA h a (va_cpy (h.2.1 a0) (h.2.1 a) sp.toNatClampNeg dp.toNatClampNeg n.toNatClampNeg)) Q) : fz_V g l μ (d + 1) ra rb pc ls (.int n :: .int dp :: .ref a :: .int sp :: .ref a0 :: st) h Q := by
  intro p e R s m args below meth c H locs cells slots lc Mc Ms QQ C RM hl hR hE
  have hts := C.2.2.2.2.2.1
  have hst' : ((st.map (fz_tr g)).map fun v => v.category).sum ≤ 8 := by rw [List.map_map]; simpa [Function.comp_def, fz_tr_cat] using hst
  have r2 := RM.2.1
  have c0 := hR.cell ha0.1 (fz_lt ha0.2)
  have c1 := hR.cell ha1.1 (fz_lt ha1.2)
  rw [fz_ce14 ha0.2] at c0
  rw [fz_ce14 ha1.2] at c1
  have hz0 : a ≠ 0 := fun q => by have := ha1.1; omega
  intro T hT X
  obtain ⟨-, k0, hk0, cm0, hkk0⟩ := (C.2.2.2.2.2.2.2.2.1.2 1 _ rfl).1 n0 (fun j => .int (h.2.1 a0 j))
  obtain ⟨-, k1, hk1, cm1, hkk1⟩ := (C.2.2.2.2.2.2.2.2.1.2 1 _ rfl).1 n1 (fun j => .int (h.2.1 a j))
  obtain ⟨vm', X', step⟩ := X.arraycopy C.1 C.2.2.2.2.1 (hts _ hl1) (hts _ fw_copy_n) (hts _ fw_copy_s) (hts _ fw_copy_i) (src := fz_ad g a0) (dst := fz_ad g a) (cs := vp_cell (g.2.2.1 1) (n0, .inl (h.2.1 a0))) (cd := vp_cell (g.2.2.1 1) (n1, .inl (h.2.1 a))) (sType := .int) (dType := .int) (srcPos := sp) (destPos := dp) (n := n) (by rw [hT]; exact c0) (by rw [hT]; exact c1)
    (fun _ h => by cases h) (fun _ h => by cases h) (fun h => by cases h) (fun h => by cases h) hk0 hk1 hkk0 hkk1 rfl h1 h2 h3
    (by rw [fz_nn h1, fz_nn h3]; show ¬ _ > ((arrV _ n0 (fun j => .int (h.2.1 a0 j))).slots.size : Int); rw [arrV_size]; omega)
    (by rw [fz_nn h2, fz_nn h3]; show ¬ _ > ((arrV _ n1 (fun j => .int (h.2.1 a j))).slots.size : Int); rw [arrV_size]; omega)
    (fun vm₁ _ i hi => by
      have e : (vp_cell (g.2.2.1 1) (n0, .inl (h.2.1 a0))).slots.getD (sp.toNatClampNeg + i) .null = .int (h.2.1 a0 (sp.toNatClampNeg + i)) := by
        show (arrV _ n0 (fun j => .int (h.2.1 a0 j))).slots.getD _ _ = _
        rw [Array.getD_eq_getD_getElem?, arrV_read _ _ (by omega)]
        rfl
      refine ⟨?_, ?_⟩
      · rw [e]; rfl
      · rw [e]; exact trivial)
    (g := F0 m pc lc (.int n :: .int dp :: .ref (fz_ad g a) :: .int sp :: .ref (fz_ad g a0) :: st.map (fz_tr g))) rfl (hl.1.trans C.2.2.2.1.symm) (rest := st.map (fz_tr g)) rfl (by rw [C.2.1]; exact hd) (Nat.le_trans (Nat.le_add_left 1 d) RM.1) (by show 2 * 0 + _ + (7 + 11) ≤ _; omega)
  have e1 : copied (vp_cell (g.2.2.1 1) (n0, .inl (h.2.1 a0))) (vp_cell (g.2.2.1 1) (n1, .inl (h.2.1 a))) sp dp n = vp_cell (g.2.2.1 1) (n1, .inl (va_cpy (h.2.1 a0) (h.2.1 a) sp.toNatClampNeg dp.toNatClampNeg n.toNatClampNeg)) := va_copied (fun z => .int z) _ _ _ _ h4
  rw [e1] at X' step
  have hlt : fz_ad g a < H.size := (Array.getElem?_eq_some_iff.mp c1).1
  have oq : ∀ q : Nat, q ≠ fz_ad g a → (H.setIfInBounds (fz_ad g a) (vp_cell (g.2.2.1 1) (n1, .inl (va_cpy (h.2.1 a0) (h.2.1 a) sp.toNatClampNeg dp.toNatClampNeg n.toNatClampNeg))))[q]? = H[q]? := fun q hq => by simp [Array.getElem?_setIfInBounds, Ne.symm hq]
  have hheap : ((T.setVm vm').setCell (fz_ad g a) (vp_cell (g.2.2.1 1) (n1, .inl (va_cpy (h.2.1 a0) (h.2.1 a) sp.toNatClampNeg dp.toNatClampNeg n.toNatClampNeg)))).heap = H.setIfInBounds (fz_ad g a) (vp_cell (g.2.2.1 1) (n1, .inl (va_cpy (h.2.1 a0) (h.2.1 a) sp.toNatClampNeg dp.toNatClampNeg n.toNatClampNeg))) := by rw [← hT]; rfl
  have hnew : fz_Rel g (fz_sA h a (va_cpy (h.2.1 a0) (h.2.1 a) sp.toNatClampNeg dp.toNatClampNeg n.toNatClampNeg)) (H.setIfInBounds (fz_ad g a) (vp_cell (g.2.2.1 1) (n1, .inl (va_cpy (h.2.1 a0) (h.2.1 a) sp.toNatClampNeg dp.toNatClampNeg n.toNatClampNeg)))) (locs ++ [⟨fz_ad g a, 0⟩]) := by
    refine hR.upd (h' := fz_sA h a _) ha1.1 (fz_lt ha1.2) rfl (fun b hb => fz_cecong rfl (if_neg hb) rfl rfl) (fun j => congrFun (if_neg (Ne.symm hz0)) j) ?_ (by simp) oq
    rw [fz_ce14 (h := fz_sA h a _) ha1.2]
    show (H.setIfInBounds (fz_ad g a) _)[fz_ad g a]? = some (vp_cell _ _)
    rw [show (fz_sA h a (va_cpy (h.2.1 a0) (h.2.1 a) sp.toNatClampNeg dp.toNatClampNeg n.toNatClampNeg)).2.1 a = va_cpy (h.2.1 a0) (h.2.1 a) sp.toNatClampNeg dp.toNatClampNeg n.toNatClampNeg from if_pos rfl]
    simp [Array.getElem?_setIfInBounds, hlt]
  obtain ⟨t, a1, b1⟩ := k p e R s m args below meth c _ _ cells slots lc Mc Ms QQ C RM hl (hnew.locs (l2 := _) (fun q hq => by
      rcases List.mem_append.mp hq with z | z
      · exact hR.2.2.1.2.2 q z
      · obtain ⟨i, -, hi⟩ := List.mem_map.mp z
        rw [← hi]
        show _ ≤ _
        rw [fz_ad_ge ha1.1]
        exact Nat.le_add_right _ _)) hE _ hheap X'
  exact ⟨t, step t a1, b1⟩
section FSB
variable {g : fz_G} {l : Launch} {μ : fz_M} {d pc idx : Nat} {b : Bool} {ls st : List Value} {s : fz_s} {Q : Option Value → fz_s → Prop}
theorem fs_mmax {x y : Int32} (hd : decode μ.2.1 pc = .ok (.invokestatic idx, 3)) (hl1 : Cond.methodLink μ.1.cls idx Lib.Math.max.name ∈ fz_T) (hst : (st.map fun v => v.category).sum ≤ 8) (k : fs_V g l μ (d + 1) b (pc + 3) ls (.int (if x < y then y else x) :: st) s Q) : fs_V g l μ (d + 1) b pc ls (.int y :: .int x :: st) s Q := fun t => fv_mmax hd hl1 hst (k t)
theorem fs_mmin {x y : Int32} (hd : decode μ.2.1 pc = .ok (.invokestatic idx, 3)) (hl1 : Cond.methodLink μ.1.cls idx Lib.Math.min.name ∈ fz_T) (hst : (st.map fun v => v.category).sum ≤ 8) (k : fs_V g l μ (d + 1) b (pc + 3) ls (.int (if y < x then y else x) :: st) s Q) : fs_V g l μ (d + 1) b pc ls (.int y :: .int x :: st) s Q := fun t => fv_mmin hd hl1 hst (k t)
theorem fs_lmax {x y : Int64} (hd : decode μ.2.1 pc = .ok (.invokestatic idx, 3)) (hl1 : Cond.methodLink μ.1.cls idx Lib.MathLoose.max_long.x ∈ fz_T) (hst : (st.map fun v => v.category).sum ≤ 8) (k : fs_V g l μ (d + 1) b (pc + 3) ls (.long (if y < x then x else y) :: st) s Q) : fs_V g l μ (d + 1) b pc ls (.long y :: .long x :: st) s Q := fun t => fv_lmax hd hl1 hst (k t)
theorem fs_lmin {x y : Int64} (hd : decode μ.2.1 pc = .ok (.invokestatic idx, 3)) (hl1 : Cond.methodLink μ.1.cls idx Lib.MathLoose.min_long.x ∈ fz_T) (hst : (st.map fun v => v.category).sum ≤ 8) (k : fs_V g l μ (d + 1) b (pc + 3) ls (.long (if y < x then y else x) :: st) s Q) : fs_V g l μ (d + 1) b pc ls (.long y :: .long x :: st) s Q := fun t => fv_lmin hd hl1 hst (k t)
theorem fs_copy {a0 a n0 n1 : Nat} {sp dp n : Int32} (hd : decode μ.2.1 pc = .ok (.invokestatic idx, 3)) (hl1 : Cond.methodLink μ.1.cls idx arraycopyName ∈ fz_T) (ha0 : fz_at b a0 14 n0) (ha1 : fz_at b a 14 n1) (h1 : ¬ sp < 0) (h2 : ¬ dp < 0) (h3 : ¬ n < 0) (h4 : sp.toNatClampNeg + n.toNatClampNeg ≤ n0) (h5 : dp.toNatClampNeg + n.toNatClampNeg ≤ n1) (hst : (st.map fun v => v.category).sum ≤ 8)
    (k : fs_V g l μ (d + 1) b (pc + 3) ls st (sa s a (va_cpy (s.1 a0) (s.1 a) sp.toNatClampNeg dp.toNatClampNeg n.toNatClampNeg)) Q) : fs_V g l μ (d + 1) b pc ls (.int n :: .int dp :: .ref a :: .int sp :: .ref a0 :: st) s Q := fun t => fv_copy hd hl1 (fz_har ha0) (fz_har ha1) h1 h2 h3 h4 h5 hst (by rw [fz_hI ha0.1, fz_hI ha1.1, fz_hsA ha1.1]; exact k t)
end FSB

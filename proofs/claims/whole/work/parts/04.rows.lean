/-- a cell is an array of a kind and length -/
def fz_ar (h : fz_H) (a κ n : Nat) : Prop := 2 ≤ a ∧ h.1[a]? = some (κ, n)
section FA
variable {g : fz_G} {l : Launch} {μ : fz_M} {d ra rb pc : Nat} {ls st : List Value} {h : fz_H} {Q : Option Value → fz_H → Prop}
theorem fv_iald {a n : Nat} {i : Int32} (hd : decode μ.2.1 pc = .ok (.iaload, 1)) (ha : fz_ar h a 14 n) (hin : vp_in i n) (k : fz_V g l μ d ra rb (pc + 1) ls (.int (h.2.1 a i.toNatClampNeg) :: st) h Q) : fz_V g l μ d ra rb pc ls (.int i :: .ref a :: st) h Q := by
  intro p e R s m args below meth c H locs cells slots lc Mc Ms QQ C RM hl hR hE
  have he := fz_ws_at (g := g) ha.1 (fz_lt ha.2)
  rw [fz_ce14 ha.2] at he
  exact va_iald (D := fz_D g) C.1 C.2.1 C.2.2.2.2.2.2.2.2.1 hR.1 (a - 2) 1 he rfl hin hd (k p e R s m args below meth c H locs cells slots lc Mc Ms QQ C RM hl hR hE)
theorem fv_cald {a n : Nat} {i : Int32} (hd : decode μ.2.1 pc = .ok (.caload, 1)) (ha : fz_ar h a 13 n) (hin : vp_in i n) (k : fz_V g l μ d ra rb (pc + 1) ls (.int (h.2.1 a i.toNatClampNeg) :: st) h Q) : fz_V g l μ d ra rb pc ls (.int i :: .ref a :: st) h Q := by
  intro p e R s m args below meth c H locs cells slots lc Mc Ms QQ C RM hl hR hE
  have he := fz_ws_at (g := g) ha.1 (fz_lt ha.2)
  rw [fz_ce13 ha.2] at he
  exact va_cald (D := fz_D g) C.1 C.2.1 C.2.2.2.2.2.2.2.2.1 hR.1 (a - 2) 0 he rfl hin hd (k p e R s m args below meth c H locs cells slots lc Mc Ms QQ C RM hl hR hE)
theorem fv_zald {a n : Nat} {i : Int32} (hd : decode μ.2.1 pc = .ok (.baload, 1)) (ha : fz_ar h a 16 n) (hin : vp_in i n) (k : fz_V g l μ d ra rb (pc + 1) ls (.int (h.2.1 a i.toNatClampNeg) :: st) h Q) : fz_V g l μ d ra rb pc ls (.int i :: .ref a :: st) h Q := by
  intro p e R s m args below meth c H locs cells slots lc Mc Ms QQ C RM hl hR hE
  have he := fz_ws_at (g := g) ha.1 (fz_lt ha.2)
  rw [fz_ce16 ha.2] at he
  exact va_zald (D := fz_D g) C.1 C.2.1 C.2.2.2.2.2.2.2.2.1 hR.1 (a - 2) 3 he rfl hin hd (k p e R s m args below meth c H locs cells slots lc Mc Ms QQ C RM hl hR hE)
theorem fv_lald {a n : Nat} {i : Int32} (hd : decode μ.2.1 pc = .ok (.laload, 1)) (ha : fz_ar h a 15 n) (hin : vp_in i n) (k : fz_V g l μ d ra rb (pc + 1) ls (.long (h.2.2.1 a i.toNatClampNeg) :: st) h Q) : fz_V g l μ d ra rb pc ls (.int i :: .ref a :: st) h Q := by
  intro p e R s m args below meth c H locs cells slots lc Mc Ms QQ C RM hl hR hE
  have he := fz_ws_at (g := g) ha.1 (fz_lt ha.2)
  rw [fz_ce15 ha.2] at he
  exact va_lald (D := fz_D g) C.1 C.2.1 C.2.2.2.2.2.2.2.2.1 hR.1 (a - 2) 2 he rfl hin hd (k p e R s m args below meth c H locs cells slots lc Mc Ms QQ C RM hl hR hE)
theorem fv_aald {a n b : Nat} {i : Int32} (hd : decode μ.2.1 pc = .ok (.aaload, 1)) (ha : fz_ar h a 17 n) (hin : vp_in i n) (hp : h.2.2.2 a i.toNatClampNeg = some b) (k : fz_V g l μ d ra rb (pc + 1) ls (.ref b :: st) h Q) : fz_V g l μ d ra rb pc ls (.int i :: .ref a :: st) h Q := by
  intro p e R s m args below meth c H locs cells slots lc Mc Ms QQ C RM hl hR hE
  have he := fz_ws_at (g := g) ha.1 (fz_lt ha.2)
  rw [fz_ce17 ha.2] at he
  refine va_aldq (D := fz_D g) C.1 C.2.1 C.2.2.2.2.2.2.2.2.1 hR.1 (a - 2) 4 he rfl hin hd ?_
  rw [hp]
  exact (k p e R s m args below meth c H locs cells slots lc Mc Ms QQ C RM hl hR hE)
theorem fv_sld {i : Int32} (hd : decode μ.2.1 pc = .ok (.iaload, 1)) (hin : vp_in i g.2.2.2.2.2.1) (k : fz_V g l μ d ra rb (pc + 1) ls (.int (h.2.1 0 i.toNatClampNeg) :: st) h Q) : fz_V g l μ d ra rb pc ls (.int i :: .ref 0 :: st) h Q := by
  intro p e R s m args below meth c H locs cells slots lc Mc Ms QQ C RM hl hR hE
  have hlt : i.toNatClampNeg < g.2.2.2.2.2.1 := Nat.not_le.mp fun q => hin (Or.inr q)
  refine va_sld (A := fz_A g) C.1 C.2.1 C.2.2.2.2.2.2.2.2.2.1 C.2.2.2.2.2.2.2.2.2.2.1 (Nat.not_le.mpr C.2.2.2.2.2.2.2.2.2.2.1) hR.2.2.1 hin hd ?_
  rw [← hR.2.2.2.2.2.2.2 _ hlt]
  exact (k p e R s m args below meth c H locs cells slots lc Mc Ms QQ C RM hl hR hE)
theorem fv_slen (hd : decode μ.2.1 pc = .ok (.arraylength, 1)) (k : fz_V g l μ d ra rb (pc + 1) ls (.int (nI g.2.2.2.2.2.1) :: st) h Q) : fz_V g l μ d ra rb pc ls (.ref 0 :: st) h Q := by
  intro p e R s m args below meth c H locs cells slots lc Mc Ms QQ C RM hl hR hE
  exact va_slen (A := fz_A g) C.1 C.2.1 C.2.2.2.2.2.2.2.2.2.1 C.2.2.2.2.2.2.2.2.2.2.1 (Nat.not_le.mpr C.2.2.2.2.2.2.2.2.2.2.1) hR.2.2.1 hd (k p e R s m args below meth c H locs cells slots lc Mc Ms QQ C RM hl hR hE)
theorem fv_alen {a n : Nat} (hd : decode μ.2.1 pc = .ok (.arraylength, 1)) (ha : fz_ar h a 14 n) (k : fz_V g l μ d ra rb (pc + 1) ls (.int (nI n) :: st) h Q) : fz_V g l μ d ra rb pc ls (.ref a :: st) h Q := by
  intro p e R s m args below meth c H locs cells slots lc Mc Ms QQ C RM hl hR hE
  have he := fz_ws_at (g := g) ha.1 (fz_lt ha.2)
  rw [fz_ce14 ha.2] at he
  exact va_alen (D := fz_D g) C.1 C.2.1 C.2.2.2.2.2.2.2.2.1 hR.1 (a - 2) 1 he rfl rfl hd (k p e R s m args below meth c H locs cells slots lc Mc Ms QQ C RM hl hR hE)
theorem fv_alenC {a n : Nat} (hd : decode μ.2.1 pc = .ok (.arraylength, 1)) (ha : fz_ar h a 13 n) (k : fz_V g l μ d ra rb (pc + 1) ls (.int (nI n) :: st) h Q) : fz_V g l μ d ra rb pc ls (.ref a :: st) h Q := by
  intro p e R s m args below meth c H locs cells slots lc Mc Ms QQ C RM hl hR hE
  have he := fz_ws_at (g := g) ha.1 (fz_lt ha.2)
  rw [fz_ce13 ha.2] at he
  exact va_alen (D := fz_D g) C.1 C.2.1 C.2.2.2.2.2.2.2.2.1 hR.1 (a - 2) 0 he rfl rfl hd (k p e R s m args below meth c H locs cells slots lc Mc Ms QQ C RM hl hR hE)
theorem fv_iast {a n : Nat} {i : Int32} {x : Int32} (hd : decode μ.2.1 pc = .ok (.iastore, 1)) (ha : fz_ar h a 14 n) (hin : vp_in i n) (k : fz_V g l μ d ra rb (pc + 1) ls st (fz_sI h a i.toNatClampNeg x) Q) : fz_V g l μ d ra rb pc ls (.int x :: .int i :: .ref a :: st) h Q := by
  intro p e R s m args below meth c H locs cells slots lc Mc Ms QQ C RM hl hR hE
  have hat := hR.cell ha.1 (fz_lt ha.2)
  rw [fz_ce14 ha.2] at hat
  have h0 : a ≠ 0 := fun q => by have := ha.1; omega
  refine W.iast C.1 C.2.1 hat ((C.2.2.2.2.2.2.2.2.1.2 1 _ rfl).1 n (fun j => .int (h.2.1 a j))) (fun q => by cases q) (by show ¬ (i < 0 ∨ (arrV _ _ _).slots.size ≤ _); rw [arrV_size]; exact hin) rfl rfl hd fun H1 e1 z oq => ?_
  refine (k p e R s m args below meth c H1 _ cells slots lc Mc Ms QQ C RM hl (hR.upd ha.1 (fz_lt ha.2) rfl ?_ ?_ ?_ z oq) hE)
  · exact fun b hb => fz_cecong rfl (if_neg hb) rfl rfl
  · exact fun j => congrFun (if_neg (Ne.symm h0)) j
  · rw [fz_ce14 (h := fz_sI h a i.toNatClampNeg x) ha.2]
    show H1[fz_ad g a]? = some (vp_cell _ _)
    rw [e1, vp_cell_i, vp_cell_i, arrV_store]
    congr 2
    funext q
    show updV _ _ _ q = _
    by_cases hq : q = i.toNatClampNeg
    · subst hq
      simp [updV, upd, vp_updL, fz_sI, fz_sL, vp_nar]
      try rfl
    · simp [updV, upd, vp_updL, fz_sI, fz_sL, hq]
theorem fv_cast {a n : Nat} {i : Int32} {x : Int32} (hd : decode μ.2.1 pc = .ok (.castore, 1)) (ha : fz_ar h a 13 n) (hin : vp_in i n) (k : fz_V g l μ d ra rb (pc + 1) ls st (fz_sI h a i.toNatClampNeg (vp_nar .char x)) Q) : fz_V g l μ d ra rb pc ls (.int x :: .int i :: .ref a :: st) h Q := by
  intro p e R s m args below meth c H locs cells slots lc Mc Ms QQ C RM hl hR hE
  have hat := hR.cell ha.1 (fz_lt ha.2)
  rw [fz_ce13 ha.2] at hat
  have h0 : a ≠ 0 := fun q => by have := ha.1; omega
  refine W.cast C.1 C.2.1 hat ((C.2.2.2.2.2.2.2.2.1.2 0 _ rfl).1 n (fun j => .int (h.2.1 a j))) (fun q => by cases q) (by show ¬ (i < 0 ∨ (arrV _ _ _).slots.size ≤ _); rw [arrV_size]; exact hin) rfl rfl hd fun H1 e1 z oq => ?_
  refine (k p e R s m args below meth c H1 _ cells slots lc Mc Ms QQ C RM hl (hR.upd ha.1 (fz_lt ha.2) rfl ?_ ?_ ?_ z oq) hE)
  · exact fun b hb => fz_cecong rfl (if_neg hb) rfl rfl
  · exact fun j => congrFun (if_neg (Ne.symm h0)) j
  · rw [fz_ce13 (h := fz_sI h a i.toNatClampNeg (vp_nar .char x)) ha.2]
    show H1[fz_ad g a]? = some (vp_cell _ _)
    rw [e1, vp_cell_i, vp_cell_i, arrV_store]
    congr 2
    funext q
    show updV _ _ _ q = _
    by_cases hq : q = i.toNatClampNeg
    · subst hq
      simp [updV, upd, vp_updL, fz_sI, fz_sL, vp_nar]
      try rfl
    · simp [updV, upd, vp_updL, fz_sI, fz_sL, hq]
theorem fv_zast {a n : Nat} {i : Int32} {x : Int32} (hd : decode μ.2.1 pc = .ok (.bastore, 1)) (ha : fz_ar h a 16 n) (hin : vp_in i n) (k : fz_V g l μ d ra rb (pc + 1) ls st (fz_sI h a i.toNatClampNeg (vp_nar .boolean x)) Q) : fz_V g l μ d ra rb pc ls (.int x :: .int i :: .ref a :: st) h Q := by
  intro p e R s m args below meth c H locs cells slots lc Mc Ms QQ C RM hl hR hE
  have hat := hR.cell ha.1 (fz_lt ha.2)
  rw [fz_ce16 ha.2] at hat
  have h0 : a ≠ 0 := fun q => by have := ha.1; omega
  refine W.zast C.1 C.2.1 hat ((C.2.2.2.2.2.2.2.2.1.2 3 _ rfl).1 n (fun j => .int (h.2.1 a j))) (fun q => by cases q) (by show ¬ (i < 0 ∨ (arrV _ _ _).slots.size ≤ _); rw [arrV_size]; exact hin) rfl rfl hd fun H1 e1 z oq => ?_
  refine (k p e R s m args below meth c H1 _ cells slots lc Mc Ms QQ C RM hl (hR.upd ha.1 (fz_lt ha.2) rfl ?_ ?_ ?_ z oq) hE)
  · exact fun b hb => fz_cecong rfl (if_neg hb) rfl rfl
  · exact fun j => congrFun (if_neg (Ne.symm h0)) j
  · rw [fz_ce16 (h := fz_sI h a i.toNatClampNeg (vp_nar .boolean x)) ha.2]
    show H1[fz_ad g a]? = some (vp_cell _ _)
    rw [e1, vp_cell_i, vp_cell_i, arrV_store]
    congr 2
    funext q
    show updV _ _ _ q = _
    by_cases hq : q = i.toNatClampNeg
    · subst hq
      simp [updV, upd, vp_updL, fz_sI, fz_sL, vp_nar]
      try rfl
    · simp [updV, upd, vp_updL, fz_sI, fz_sL, hq]
theorem fv_last {a n : Nat} {i : Int32} {x : Int64} (hd : decode μ.2.1 pc = .ok (.lastore, 1)) (ha : fz_ar h a 15 n) (hin : vp_in i n) (k : fz_V g l μ d ra rb (pc + 1) ls st (fz_sL h a i.toNatClampNeg x) Q) : fz_V g l μ d ra rb pc ls (.long x :: .int i :: .ref a :: st) h Q := by
  intro p e R s m args below meth c H locs cells slots lc Mc Ms QQ C RM hl hR hE
  have hat := hR.cell ha.1 (fz_lt ha.2)
  rw [fz_ce15 ha.2] at hat
  have h0 : a ≠ 0 := fun q => by have := ha.1; omega
  refine W.last C.1 C.2.1 hat ((C.2.2.2.2.2.2.2.2.1.2 2 _ rfl).1 n (fun j => .long (h.2.2.1 a j))) (fun q => by cases q) (by show ¬ (i < 0 ∨ (arrV _ _ _).slots.size ≤ _); rw [arrV_size]; exact hin) rfl rfl hd fun H1 e1 z oq => ?_
  refine (k p e R s m args below meth c H1 _ cells slots lc Mc Ms QQ C RM hl (hR.upd ha.1 (fz_lt ha.2) rfl ?_ ?_ ?_ z oq) hE)
  · exact fun b hb => fz_cecong rfl rfl (if_neg hb) rfl
  · exact fun j => rfl
  · rw [fz_ce15 (h := fz_sL h a i.toNatClampNeg x) ha.2]
    show H1[fz_ad g a]? = some (vp_cell _ _)
    rw [e1, vp_cell_l, vp_cell_l, arrV_store]
    congr 2
    funext q
    show updV _ _ _ q = _
    by_cases hq : q = i.toNatClampNeg
    · subst hq
      simp [updV, upd, vp_updL, fz_sI, fz_sL, vp_nar]
      try rfl
    · simp [updV, upd, vp_updL, fz_sI, fz_sL, hq]
theorem fv_puti {idx ci j a : Nat} {x : Int32} (hd : decode μ.2.1 pc = .ok (.putfield idx, 3)) (hf : ∃ (C : String) (T : u_T) (N : Nat), vwCl[ci]? = some (C, T, N) ∧ j < N ∧ Cond.fieldLink μ.1.cls idx (T j).1 (T j).2.1 (T j).2.2.1 ∈ fz_T ∧ ((T j).2.2.2 = false ∨ ((T j).2.2.2 = true ∧ μ.1.name = "<init>" ∧ (T j).1 = μ.1.cls))) (ho : fz_ob h a ci) (ht : fz_ty ci j = .int ∨ (fz_ty ci j = .boolean ∧ (x = 0 ∨ x = 1))) (k : fz_V g l μ d ra rb (pc + 3) ls st (fz_sI h a j x) Q) : fz_V g l μ d ra rb pc ls (.int x :: .ref a :: st) h Q := by
  have h0 : a ≠ 0 := fun q => by have := ho.1; omega
  have hty : fz_ty ci j = .int ∨ fz_ty ci j = .boolean := ht.elim Or.inl (fun q => Or.inr q.1)
  refine fv_put (h' := fz_sI h a j x) hd hf ho (v := .int x) ?_ ?_ rfl (fun j => congrFun (if_neg (Ne.symm h0)) j) (fun b hb => ⟨if_neg hb, rfl, rfl⟩) ?_ ?_ k
  · rcases ht with q | ⟨q, rfl | rfl⟩ <;> rw [q] <;> rfl
  · rcases ht with q | ⟨q, rfl | rfl⟩ <;> rw [q] <;> rfl
  · rw [fz_vI hty]
    simp [fz_sI, upd, fz_tr]
  · intro i hi
    unfold fz_v
    simp [fz_sI, upd, hi]
theorem fv_putl {idx ci j a : Nat} {x : Int64} (hd : decode μ.2.1 pc = .ok (.putfield idx, 3)) (hf : ∃ (C : String) (T : u_T) (N : Nat), vwCl[ci]? = some (C, T, N) ∧ j < N ∧ Cond.fieldLink μ.1.cls idx (T j).1 (T j).2.1 (T j).2.2.1 ∈ fz_T ∧ ((T j).2.2.2 = false ∨ ((T j).2.2.2 = true ∧ μ.1.name = "<init>" ∧ (T j).1 = μ.1.cls))) (ho : fz_ob h a ci) (ht : fz_ty ci j = .long) (k : fz_V g l μ d ra rb (pc + 3) ls st (fz_sL h a j x) Q) : fz_V g l μ d ra rb pc ls (.long x :: .ref a :: st) h Q := by
  refine fv_put (h' := fz_sL h a j x) hd hf ho (v := .long x) ?_ ?_ rfl (fun j => rfl) (fun b hb => ⟨rfl, if_neg hb, rfl⟩) ?_ ?_ k
  · rw [ht]; rfl
  · rw [ht]; rfl
  · rw [fz_vL ht]
    simp [fz_sL, vp_updL, fz_tr]
  · intro i hi
    unfold fz_v
    simp [fz_sL, vp_updL, hi]
theorem fv_putr {idx ci j a b : Nat} (hd : decode μ.2.1 pc = .ok (.putfield idx, 3)) (hf : ∃ (C : String) (T : u_T) (N : Nat), vwCl[ci]? = some (C, T, N) ∧ j < N ∧ Cond.fieldLink μ.1.cls idx (T j).1 (T j).2.1 (T j).2.2.1 ∈ fz_T ∧ ((T j).2.2.2 = false ∨ ((T j).2.2.2 = true ∧ μ.1.name = "<init>" ∧ (T j).1 = μ.1.cls))) (ho : fz_ob h a ci) (ht : (∃ c, fz_ty ci j = .object c) ∨ ∃ t, fz_ty ci j = .array t) (k : fz_V g l μ d ra rb (pc + 3) ls st (fz_sP h a j (some b)) Q) : fz_V g l μ d ra rb pc ls (.ref b :: .ref a :: st) h Q := by
  refine fv_put (h' := fz_sP h a j (some b)) hd hf ho (v := .ref b) ?_ ?_ rfl (fun j => rfl) (fun b hb => ⟨rfl, rfl, if_neg hb⟩) ?_ ?_ k
  · rcases ht with ⟨c, q⟩ | ⟨c, q⟩ <;> rw [q] <;> rfl
  · rcases ht with ⟨c, q⟩ | ⟨c, q⟩ <;> rw [q] <;> rfl
  · rw [fz_vR ht]
    simp [fz_sP, va_up, fz_tr, va_rf]
  · intro i hi
    unfold fz_v
    simp [fz_sP, va_up, hi]
end FA

/-! NEW CELLS -/
def fz_mk (h : fz_H) (κ n : Nat) : fz_H := (h.1 ++ [(κ, n)], fun b => if b = h.1.length then (fun _ => 0) else h.2.1 b, fun b => if b = h.1.length then (fun _ => 0) else h.2.2.1 b, fun b => if b = h.1.length then (fun _ => none) else h.2.2.2 b)
theorem fz_mk_new {h : fz_H} {κ n : Nat} : (fz_mk h κ n).1[h.1.length]? = some (κ, n) := by unfold fz_mk; simp
theorem fz_mk_old {h : fz_H} {κ n a : Nat} {x : Nat × Nat} (ha : h.1[a]? = some x) : (fz_mk h κ n).1[a]? = some x := by
  show (h.1 ++ [(κ, n)])[a]? = _
  rw [List.getElem?_append_left (fz_lt ha)]
  exact ha
theorem fz_mk_ce {g : fz_G} {h : fz_H} {κ n a : Nat} (ha : a < h.1.length) : fz_ce g (fz_mk h κ n) a = fz_ce g h a := by
  have hne : a ≠ h.1.length := Nat.ne_of_lt ha
  have e1 : (fz_mk h κ n).2.1 a = h.2.1 a := if_neg hne
  have e2 : (fz_mk h κ n).2.2.1 a = h.2.2.1 a := if_neg hne
  have e3 : (fz_mk h κ n).2.2.2 a = h.2.2.2 a := if_neg hne
  have e0 : (fz_mk h κ n).1.getD a (0, 0) = h.1.getD a (0, 0) := by
    show (h.1 ++ [(κ, n)]).getD a (0, 0) = _
    rw [List.getD_eq_getElem?_getD, List.getD_eq_getElem?_getD, List.getElem?_append_left ha]
  have ev : ∀ ci, fz_v g (fz_mk h κ n) ci a = fz_v g h ci a := fun ci => funext (fz_vcong e1 e2 e3)
  unfold fz_ce
  rw [e0, e1, e2, e3]
  simp only [ev]
theorem fz_mk_ws {g : fz_G} {h : fz_H} {κ n : Nat} (h2 : 2 ≤ h.1.length) : fz_ws g (fz_mk h κ n) = fz_ws g h ++ [(g.2.2.2.1.size + (h.1.length - 2), fz_ce g (fz_mk h κ n) h.1.length)] := by
  unfold fz_ws
  rw [show (fz_mk h κ n).1.length - 2 = (h.1.length - 2) + 1 by show (h.1 ++ [(κ, n)]).length - 2 = _; rw [List.length_append, List.length_singleton]; omega, List.range_succ, List.map_append, List.map_singleton, Nat.sub_add_cancel h2]
  congr 1
  refine List.map_congr_left fun k hk => ?_
  rw [fz_mk_ce (by have := List.mem_range.mp hk; omega)]
theorem fz_Rel.mk {g : fz_G} {h : fz_H} {H H1 : Heap} {locs : List Loc} {κ n : Nat} (hR : fz_Rel g h H locs) (z : H1.size = H.size + 1) (o : ∀ q, q < H.size → H1[q]? = H[q]?) (hc : va_at (fz_D g) vwCl (H.size, fz_ce g (fz_mk h κ n) h.1.length) H1) : fz_Rel g (fz_mk h κ n) H1 locs := by
  obtain ⟨hP, hD, hS, hz, h3, h4, h5, h6⟩ := hR
  have hw := fz_mk_ws (g := g) (κ := κ) (n := n) h3
  rw [← hz] at hw
  refine ⟨?_, ?_, ⟨Nat.le_trans hS.1 (by omega), fun q h1 h2 => (o q (Nat.lt_of_lt_of_le h1 hS.1)).trans (hS.2.1 q h1 h2), hS.2.2⟩, ?_, ?_, fz_mk_old h4, fz_mk_old h5, fun j hj => ?_⟩
  · rw [hw]
    refine (hP.kept (fun k x hx => o x.1 ((hP k x hx).lt))).app (fun k x hx => ?_)
    have hk : k < 1 := (List.getElem?_eq_some_iff.mp hx).1
    rw [show k = 0 by omega] at hx
    cases hx
    exact hc
  · rw [hw]
    exact hD.push hP rfl (by show _ ≤ _; omega)
  · show H1.size = _ + ((h.1 ++ [(κ, n)]).length - 2)
    rw [z, hz, List.length_append, List.length_singleton]
    omega
  · show 2 ≤ (h.1 ++ [(κ, n)]).length
    rw [List.length_append]
    omega
  · show (if 0 = h.1.length then (fun _ => (0 : Int32)) else h.2.1 0) j = _
    rw [if_neg (by omega)]
    exact h6 j hj
theorem fz_ob.mk {h : fz_H} {κ n a ci : Nat} (ho : fz_ob h a ci) : fz_ob (fz_mk h κ n) a ci := by
  obtain ⟨h2, C, T, N, hc, hs⟩ := ho
  exact ⟨h2, C, T, N, hc, fz_mk_old hs⟩
theorem fz_ar.mk {h : fz_H} {κ n a k q : Nat} (ho : fz_ar h a k q) : fz_ar (fz_mk h κ n) a k q := ⟨ho.1, fz_mk_old ho.2⟩
def fz_tok (t : FieldType) : Bool := match t with
  | .int | .boolean | .long | .object _ | .array _ => true
  | _ => false
theorem fz_toks {ci N : Nat} {C : String} {T : u_T} (hc : vwCl[ci]? = some (C, T, N)) : ∀ j, j < N → fz_tok (fz_ty ci j) = true := by
  match ci, hc with
  | 0, hc => cases hc; decide +kernel
  | 1, hc => cases hc; decide +kernel
  | 2, hc => cases hc; decide +kernel
  | 3, hc => cases hc; decide +kernel
  | 4, hc => cases hc; decide +kernel
  | 5, hc => cases hc; decide +kernel
  | 6, hc => cases hc; decide +kernel
  | 7, hc => cases hc; decide +kernel
  | 8, hc => cases hc; decide +kernel
  | 9, hc => cases hc; decide +kernel
  | 10, hc => cases hc; decide +kernel
  | 11, hc => cases hc; decide +kernel
  | 12, hc => cases hc; decide +kernel
  | k + 13, hc => simp [vwCl] at hc
section FN
variable {g : fz_G} {l : Launch} {μ : fz_M} {d ra rb pc idx : Nat} {ls st : List Value} {h : fz_H} {Q : Option Value → fz_H → Prop}
theorem fz_adlen {H : Heap} {locs : List Loc} (hR : fz_Rel g h H locs) : fz_ad g h.1.length = H.size := by rw [fz_ad_ge hR.2.2.2.2.1, hR.2.2.2.1]
theorem fv_new {ci N : Nat} {C : String} {T : u_T} (hd : decode μ.2.1 pc = .ok (.new idx, 3)) (hc : vwCl[ci]? = some (C, T, N)) (h1 : Cond.classLink μ.1.cls idx C ∈ fz_T) (h2 : Cond.instantiable C N ∈ fz_T) (h3 : Cond.initialized C ∈ fz_T) (k : fz_V g l μ d ra rb (pc + 3) ls (.ref h.1.length :: st) (fz_mk h ci N) Q) : fz_V g l μ d (ra + 1) (rb + N) pc ls st h Q := by
  intro p e R s m args below meth c H locs cells slots lc Mc Ms QQ CC RM hl hR hE
  have hts := CC.2.2.2.2.2.1
  obtain ⟨q1, q2, q3, q4⟩ := fz_cls hc
  have hKn := CC.2.2.2.2.2.2.2.2.1.1 ci _ hc
  obtain ⟨r1, r2, r3, r4, r5, r6⟩ := RM
  refine W.newcK CC.1 CC.2.1 CC.2.2.2.2.1 (hts _ h1) (hts _ h2) (hts _ h3) rfl hd (by omega) (by omega) hKn.2.1 rfl fun H1 kC hkC e1 z1 o1 => ?_
  have hat : va_at (fz_D g) vwCl (H.size, fz_ce g (fz_mk h ci N) h.1.length) H1 := by
    rw [fz_ceO fz_mk_new q1]
    refine ⟨_, hc, (u_born (fz_ty ci) hts q2 hKn hkC e1 q3).to (fun j hj => ?_)⟩
    show _ = ((List.range N).map (fz_v g (fz_mk h ci N) ci h.1.length)).getD j Value.null
    rw [List.getD_eq_getElem?_getD, List.getElem?_map, List.getElem?_range hj]
    show _ = fz_v g (fz_mk h ci N) ci h.1.length j
    have ht := fz_toks hc j hj
    unfold fz_v
    rw [show (fz_mk h ci N).2.1 h.1.length = (fun _ => 0) from if_pos rfl, show (fz_mk h ci N).2.2.1 h.1.length = (fun _ => 0) from if_pos rfl, show (fz_mk h ci N).2.2.2 h.1.length = (fun _ => none) from if_pos rfl]
    revert ht
    cases fz_ty ci j <;> intro ht <;> first | rfl | (exact absurd ht (by decide))
  have hk := k p e R s m args below meth c H1 locs (cells + 1) (slots + N) lc Mc Ms QQ CC ⟨r1, r2, by omega, by omega, r5, r6⟩ hl (hR.mk z1 o1 hat) hE
  rw [show ((Value.ref h.1.length :: st).map (fz_tr g)) = .ref H.size :: st.map (fz_tr g) by rw [← fz_adlen hR]; rfl] at hk
  exact hk
theorem fw_arrI : Cond.arrayClass .int ∈ fz_T := fz_t1 74 rfl rfl
theorem fv_newaI {n : Int32} {N : Nat} (hd : decode μ.2.1 pc = .ok (.newarray .int, 2)) (h0 : ¬ n < 0) (hN : n.toNatClampNeg = N) (hb : N ≤ 60000) (k : fz_V g l μ d ra rb (pc + 2) ls (.ref h.1.length :: st) (fz_mk h 14 N) Q) : fz_V g l μ d (ra + 1) (rb + N) pc ls (.int n :: st) h Q := by
  intro p e R s m args below meth c H locs cells slots lc Mc Ms QQ CC RM hl hR hE
  have hts := CC.2.2.2.2.2.1
  obtain ⟨r1, r2, r3, r4, r5, r6⟩ := RM
  refine va_newaK (atype := .int) CC.1 CC.2.1 (hts _ fw_arrI) rfl hd rfl h0 hN (by show N * 4 ≤ 536870912; omega) (by omega) (by omega) rfl fun H1 cA e1 z1 o1 hAr hNm => ?_
  have hcA : cA = g.2.2.1 1 := Option.some.inj (hNm.symm.trans (CC.2.2.2.2.2.2.2.2.1.2 1 _ rfl).2)
  subst hcA
  have hat : va_at (fz_D g) vwCl (H.size, fz_ce g (fz_mk h 14 N) h.1.length) H1 := by
    rw [fz_ce14 fz_mk_new]
    show H1[H.size]? = some (vp_cell _ _)
    rw [show (fz_mk h 14 N).2.1 h.1.length = (fun _ => 0) from if_pos rfl, vp_cell_i]
    exact e1
  have hk := k p e R s m args below meth c H1 locs (cells + 1) (slots + N) lc Mc Ms QQ CC ⟨r1, r2, by omega, by omega, r5, r6⟩ hl (hR.mk z1 o1 hat) hE
  rw [show ((Value.ref h.1.length :: st).map (fz_tr g)) = .ref H.size :: st.map (fz_tr g) by rw [← fz_adlen hR]; rfl] at hk
  exact hk
theorem fw_arrC : Cond.arrayClass .char ∈ fz_T := fz_t7 97 rfl rfl
theorem fv_newaC {n : Int32} {N : Nat} (hd : decode μ.2.1 pc = .ok (.newarray .char, 2)) (h0 : ¬ n < 0) (hN : n.toNatClampNeg = N) (hb : N ≤ 60000) (k : fz_V g l μ d ra rb (pc + 2) ls (.ref h.1.length :: st) (fz_mk h 13 N) Q) : fz_V g l μ d (ra + 1) (rb + N) pc ls (.int n :: st) h Q := by
  intro p e R s m args below meth c H locs cells slots lc Mc Ms QQ CC RM hl hR hE
  have hts := CC.2.2.2.2.2.1
  obtain ⟨r1, r2, r3, r4, r5, r6⟩ := RM
  refine va_newaK (atype := .char) CC.1 CC.2.1 (hts _ fw_arrC) rfl hd rfl h0 hN (by show N * 2 ≤ 536870912; omega) (by omega) (by omega) rfl fun H1 cA e1 z1 o1 hAr hNm => ?_
  have hcA : cA = g.2.2.1 0 := Option.some.inj (hNm.symm.trans (CC.2.2.2.2.2.2.2.2.1.2 0 _ rfl).2)
  subst hcA
  have hat : va_at (fz_D g) vwCl (H.size, fz_ce g (fz_mk h 13 N) h.1.length) H1 := by
    rw [fz_ce13 fz_mk_new]
    show H1[H.size]? = some (vp_cell _ _)
    rw [show (fz_mk h 13 N).2.1 h.1.length = (fun _ => 0) from if_pos rfl, vp_cell_i]
    exact e1
  have hk := k p e R s m args below meth c H1 locs (cells + 1) (slots + N) lc Mc Ms QQ CC ⟨r1, r2, by omega, by omega, r5, r6⟩ hl (hR.mk z1 o1 hat) hE
  rw [show ((Value.ref h.1.length :: st).map (fz_tr g)) = .ref H.size :: st.map (fz_tr g) by rw [← fz_adlen hR]; rfl] at hk
  exact hk
theorem fw_arrJ : Cond.arrayClass .long ∈ fz_T := fz_t2 111 rfl rfl
theorem fv_newaJ {n : Int32} {N : Nat} (hd : decode μ.2.1 pc = .ok (.newarray .long, 2)) (h0 : ¬ n < 0) (hN : n.toNatClampNeg = N) (hb : N ≤ 60000) (k : fz_V g l μ d ra rb (pc + 2) ls (.ref h.1.length :: st) (fz_mk h 15 N) Q) : fz_V g l μ d (ra + 1) (rb + N) pc ls (.int n :: st) h Q := by
  intro p e R s m args below meth c H locs cells slots lc Mc Ms QQ CC RM hl hR hE
  have hts := CC.2.2.2.2.2.1
  obtain ⟨r1, r2, r3, r4, r5, r6⟩ := RM
  refine va_newaK (atype := .long) CC.1 CC.2.1 (hts _ fw_arrJ) rfl hd rfl h0 hN (by show N * 8 ≤ 536870912; omega) (by omega) (by omega) rfl fun H1 cA e1 z1 o1 hAr hNm => ?_
  have hcA : cA = g.2.2.1 2 := Option.some.inj (hNm.symm.trans (CC.2.2.2.2.2.2.2.2.1.2 2 _ rfl).2)
  subst hcA
  have hat : va_at (fz_D g) vwCl (H.size, fz_ce g (fz_mk h 15 N) h.1.length) H1 := by
    rw [fz_ce15 fz_mk_new]
    show H1[H.size]? = some (vp_cell _ _)
    rw [show (fz_mk h 15 N).2.2.1 h.1.length = (fun _ => 0) from if_pos rfl, vp_cell_l]
    exact e1
  have hk := k p e R s m args below meth c H1 locs (cells + 1) (slots + N) lc Mc Ms QQ CC ⟨r1, r2, by omega, by omega, r5, r6⟩ hl (hR.mk z1 o1 hat) hE
  rw [show ((Value.ref h.1.length :: st).map (fz_tr g)) = .ref H.size :: st.map (fz_tr g) by rw [← fz_adlen hR]; rfl] at hk
  exact hk
theorem fw_arrZ : Cond.arrayClass .boolean ∈ fz_T := fz_t7 98 rfl rfl
theorem fv_newaZ {n : Int32} {N : Nat} (hd : decode μ.2.1 pc = .ok (.newarray .boolean, 2)) (h0 : ¬ n < 0) (hN : n.toNatClampNeg = N) (hb : N ≤ 60000) (k : fz_V g l μ d ra rb (pc + 2) ls (.ref h.1.length :: st) (fz_mk h 16 N) Q) : fz_V g l μ d (ra + 1) (rb + N) pc ls (.int n :: st) h Q := by
  intro p e R s m args below meth c H locs cells slots lc Mc Ms QQ CC RM hl hR hE
  have hts := CC.2.2.2.2.2.1
  obtain ⟨r1, r2, r3, r4, r5, r6⟩ := RM
  refine va_newaK (atype := .boolean) CC.1 CC.2.1 (hts _ fw_arrZ) rfl hd rfl h0 hN (by show N * 1 ≤ 536870912; omega) (by omega) (by omega) rfl fun H1 cA e1 z1 o1 hAr hNm => ?_
  have hcA : cA = g.2.2.1 3 := Option.some.inj (hNm.symm.trans (CC.2.2.2.2.2.2.2.2.1.2 3 _ rfl).2)
  subst hcA
  have hat : va_at (fz_D g) vwCl (H.size, fz_ce g (fz_mk h 16 N) h.1.length) H1 := by
    rw [fz_ce16 fz_mk_new]
    show H1[H.size]? = some (vp_cell _ _)
    rw [show (fz_mk h 16 N).2.1 h.1.length = (fun _ => 0) from if_pos rfl, vp_cell_i]
    exact e1
  have hk := k p e R s m args below meth c H1 locs (cells + 1) (slots + N) lc Mc Ms QQ CC ⟨r1, r2, by omega, by omega, r5, r6⟩ hl (hR.mk z1 o1 hat) hE
  rw [show ((Value.ref h.1.length :: st).map (fz_tr g)) = .ref H.size :: st.map (fz_tr g) by rw [← fz_adlen hR]; rfl] at hk
  exact hk
theorem fv_anewa {n : Int32} {N : Nat} (hd : decode μ.2.1 pc = .ok (.anewarray idx, 3)) (h1 : Cond.classLink μ.1.cls idx "FoolTrade$World" ∈ fz_T) (h0 : ¬ n < 0) (hN : n.toNatClampNeg = N) (hb : N ≤ 60000) (k : fz_V g l μ d ra rb (pc + 3) ls (.ref h.1.length :: st) (fz_mk h 17 N) Q) : fz_V g l μ d (ra + 1) (rb + N) pc ls (.int n :: st) h Q := by
  intro p e R s m args below meth c H locs cells slots lc Mc Ms QQ CC RM hl hR hE
  have hts := CC.2.2.2.2.2.1
  obtain ⟨r1, r2, r3, r4, r5, r6⟩ := RM
  subst hN
  refine W.anew CC.1 CC.2.1 CC.2.2.2.2.1 (hts _ h1) (va_AO.use CC.2.2.2.2.2.2.2.2.2.2.2.2.2.2) rfl hd rfl h0 (by omega) (by omega) (by omega) fun cA kA comp f1 f2 f3 f4 => ?_
  have hcA : cA = g.2.2.1 4 := by
    obtain ⟨kA', comp', -, -, -, g4⟩ := (CC.2.2.2.2.2.2.2.2.1.2 4 _ rfl).2
    exact Option.some.inj (f1.symm.trans g4)
  subst hcA
  generalize hH1 : H.push ({ cls := g.2.2.1 4, slots := Array.replicate n.toNatClampNeg .null, vm := .none } : Cell) = H1
  have z1 : H1.size = H.size + 1 := by rw [← hH1, Array.size_push]
  have e1 : H1[H.size]? = some (arrV (g.2.2.1 4) n.toNatClampNeg (fun _ => .null)) := by rw [← hH1, Array.getElem?_push_size, ← arrV_new]
  have o1 : ∀ q : Nat, q < H.size → H1[q]? = H[q]? := fun q hq => by rw [← hH1, Array.getElem?_push, if_neg (Nat.ne_of_lt hq)]
  have hat : va_at (fz_D g) vwCl (H.size, fz_ce g (fz_mk h 17 n.toNatClampNeg) h.1.length) H1 := by
    rw [fz_ce17 fz_mk_new]
    show H1[H.size]? = some (vp_cell _ _)
    rw [show (fz_mk h 17 n.toNatClampNeg).2.2.2 h.1.length = (fun _ => none) from if_pos rfl, vp_cell_q]
    exact e1
  have hk := k p e R s m args below meth c H1 locs (cells + 1) (slots + n.toNatClampNeg) lc Mc Ms QQ CC ⟨r1, r2, by omega, by omega, r5, r6⟩ hl (hR.mk z1 o1 hat) hE
  rw [show ((Value.ref h.1.length :: st).map (fz_tr g)) = .ref H.size :: st.map (fz_tr g) by rw [← fz_adlen hR]; rfl] at hk
  exact hk
theorem fv_aast {a n b : Nat} {i : Int32} (hd : decode μ.2.1 pc = .ok (.aastore, 1)) (ha : fz_ar h a 17 n) (hin : vp_in i n) (ho : fz_ob h b 10) (k : fz_V g l μ d ra rb (pc + 1) ls st (fz_sP h a i.toNatClampNeg (some b)) Q) : fz_V g l μ d ra rb pc ls (.ref b :: .int i :: .ref a :: st) h Q := by
  intro p e R s m args below meth c H locs cells slots lc Mc Ms QQ CC RM hl hR hE
  have hat := hR.cell ha.1 (fz_lt ha.2)
  rw [fz_ce17 ha.2] at hat
  obtain ⟨b2, C1, T1, N1, hc1, hsh⟩ := ho
  obtain ⟨q1, -⟩ := fz_cls hc1
  have hbt := hR.cell b2 (fz_lt hsh)
  rw [fz_ceO hsh q1] at hbt
  obtain ⟨r', hr', cellV, g1, g2, g3, -⟩ := hbt
  have hK := CC.2.2.2.2.2.2.2.2.1
  cases hc1
  have hcls := (hK.1 10 _ rfl).2
  obtain ⟨kA, comp, k1, k2, k3, -⟩ := (hK.2 4 _ rfl).2
  have hcomp : comp = (fz_D g).1 10 := Option.some.inj (k3.symm.trans hcls.1)
  subst hcomp
  obtain ⟨kC, hkC, -⟩ := hcls.2
  have hlt : i.toNatClampNeg < n := Nat.not_le.mp fun q => hin (Or.inr q)
  have h0 : ¬ i < 0 := fun q => hin (Or.inl q)
  have hz0 : a ≠ 0 := fun q => by have := ha.1; omega
  refine W.aast CC.1 CC.2.1 hat (fun q h => by cases h) (fun h => by cases h) k1 k2 rfl hkC ⟨h0, by show _ < (arrV _ _ _).slots.size; rw [arrV_size]; exact hlt⟩ g1 (fun q h => by rw [g3] at h; cases h) (by rw [g2]; exact hkC) (by rw [g2]; exact va_assign hcls) rfl rfl hd fun H1 e1 z oq => ?_
  refine k p e R s m args below meth c H1 _ cells slots lc Mc Ms QQ CC RM hl (hR.upd ha.1 (fz_lt ha.2) rfl ?_ ?_ ?_ z oq) hE
  · exact fun b hb => fz_cecong rfl rfl rfl (if_neg hb)
  · exact fun j => rfl
  · rw [fz_ce17 (h := fz_sP h a i.toNatClampNeg (some b)) ha.2]
    show H1[fz_ad g a]? = some (vp_cell _ _)
    rw [e1, vp_cell_q, vp_cell_q, arrV_store]
    congr 2
    funext q
    show updV _ _ _ q = _
    by_cases hq : q = i.toNatClampNeg
    · subst hq
      simp [updV, va_up, fz_sP, va_rf]
    · simp [updV, va_up, fz_sP, hq]
end FN

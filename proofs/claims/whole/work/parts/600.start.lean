/-! FROM THE LAW'S ENTRY TO ITS LOOP -/
def fz_h0 (L : Nat) (xs : Nat → Int32) : fz_H := ([(20, L), (21, 0)], fun a j => if a = 0 then xs j else 0, fun _ _ => 0, fun _ _ => none)
def fz_hF (L : Nat) (xs : Nat → Int32) : fz_H := hc_X12_init_196 (fz_mk (hc_X11_init_2 (hB0 L xs)) 12 112)
abbrev fz_sim (h h' : fz_H) : Prop := fz_sim0 h h'
theorem fz_sim.X10 {h h' : fz_H} {n : Nat} (e : fz_sim h h') : fz_sim (hc_X10_init h n) (hc_X10_init h' n) := by
  unfold hc_X10_init
  repeat (first | exact e | apply fz_sim0.sP | apply fz_sim0.mk)
theorem fz_sim.pw {h h' : fz_H} (e : fz_sim h h') (i : Nat) : fz_sim (hc_pw h i) (hc_pw h' i) := by
  induction i with
  | zero => exact e
  | succ i ih => exact fz_sim0.sP (fz_sim.X10 (fz_sim0.mk ih))
set_option maxRecDepth 100000 in
set_option maxHeartbeats 4000000 in
theorem fz_sim.X8_init_4 {h h' : fz_H} (e : fz_sim h h') : fz_sim (hc_X8_init_4 h) (hc_X8_init_4 h') := by
  unfold hc_X8_init_4
  repeat (first | exact e | apply fz_sim0.sI | apply fz_sim0.sP | apply fz_sim0.mk | apply fz_sim.X10)
set_option maxRecDepth 100000 in
set_option maxHeartbeats 4000000 in
theorem fz_sim.X2_init_5 {h h' : fz_H} (e : fz_sim h h') : fz_sim (hc_X2_init_5 h) (hc_X2_init_5 h') := by
  unfold hc_X2_init_5
  repeat (first | exact e | apply fz_sim0.sI | apply fz_sim0.sP | apply fz_sim0.mk | apply fz_sim.X10 | apply fz_sim.X8_init_4)
set_option maxRecDepth 100000 in
set_option maxHeartbeats 4000000 in
theorem fz_sim.X9_init_6 {h h' : fz_H} (e : fz_sim h h') : fz_sim (hc_X9_init_6 h) (hc_X9_init_6 h') := by
  unfold hc_X9_init_6
  repeat (first | exact e | apply fz_sim0.sI | apply fz_sim0.sP | apply fz_sim0.mk | apply fz_sim.X10 | apply fz_sim.X8_init_4 | apply fz_sim.X2_init_5)
set_option maxRecDepth 100000 in
set_option maxHeartbeats 4000000 in
theorem fz_sim.X9_init_17 {h h' : fz_H} (e : fz_sim h h') : fz_sim (hc_X9_init_17 h) (hc_X9_init_17 h') := by
  unfold hc_X9_init_17
  repeat (first | exact e | apply fz_sim0.sI | apply fz_sim0.sP | apply fz_sim0.mk | apply fz_sim.X10 | apply fz_sim.X8_init_4 | apply fz_sim.X2_init_5 | apply fz_sim.X9_init_6)
set_option maxRecDepth 100000 in
set_option maxHeartbeats 4000000 in
theorem fz_sim.X5_init_28 {h h' : fz_H} (e : fz_sim h h') : fz_sim (hc_X5_init_28 h) (hc_X5_init_28 h') := by
  unfold hc_X5_init_28
  repeat (first | exact e | apply fz_sim0.sI | apply fz_sim0.sP | apply fz_sim0.mk | apply fz_sim.X10 | apply fz_sim.X8_init_4 | apply fz_sim.X2_init_5 | apply fz_sim.X9_init_6 | apply fz_sim.X9_init_17)
set_option maxRecDepth 100000 in
set_option maxHeartbeats 4000000 in
theorem fz_sim.X7_init_31 {h h' : fz_H} (e : fz_sim h h') : fz_sim (hc_X7_init_31 h) (hc_X7_init_31 h') := by
  unfold hc_X7_init_31
  repeat (first | exact e | apply fz_sim0.sI | apply fz_sim0.sP | apply fz_sim0.mk | apply fz_sim.X10 | apply fz_sim.X8_init_4 | apply fz_sim.X2_init_5 | apply fz_sim.X9_init_6 | apply fz_sim.X9_init_17 | apply fz_sim.X5_init_28)
set_option maxRecDepth 100000 in
set_option maxHeartbeats 4000000 in
theorem fz_sim.X0_init_30 {h h' : fz_H} (e : fz_sim h h') : fz_sim (hc_X0_init_30 h) (hc_X0_init_30 h') := by
  unfold hc_X0_init_30
  repeat (first | exact e | apply fz_sim0.sI | apply fz_sim0.sP | apply fz_sim0.mk | apply fz_sim.X10 | apply fz_sim.X8_init_4 | apply fz_sim.X2_init_5 | apply fz_sim.X9_init_6 | apply fz_sim.X9_init_17 | apply fz_sim.X5_init_28 | apply fz_sim.X7_init_31)
set_option maxRecDepth 100000 in
set_option maxHeartbeats 4000000 in
theorem fz_sim.X4_init_47 {h h' : fz_H} (e : fz_sim h h') : fz_sim (hc_X4_init_47 h) (hc_X4_init_47 h') := by
  unfold hc_X4_init_47
  repeat (first | exact e | apply fz_sim0.sI | apply fz_sim0.sP | apply fz_sim0.mk | apply fz_sim.X10 | apply fz_sim.pw | apply fz_sim.X8_init_4 | apply fz_sim.X2_init_5 | apply fz_sim.X9_init_6 | apply fz_sim.X9_init_17 | apply fz_sim.X5_init_28 | apply fz_sim.X7_init_31 | apply fz_sim.X0_init_30 | apply fz_sim.pw)
set_option maxRecDepth 100000 in
set_option maxHeartbeats 4000000 in
theorem fz_sim.X3_init_172 {h h' : fz_H} (e : fz_sim h h') : fz_sim (hc_X3_init_172 h) (hc_X3_init_172 h') := by
  unfold hc_X3_init_172
  repeat (first | exact e | apply fz_sim0.sI | apply fz_sim0.sP | apply fz_sim0.mk | apply fz_sim.X10 | apply fz_sim.X8_init_4 | apply fz_sim.X2_init_5 | apply fz_sim.X9_init_6 | apply fz_sim.X9_init_17 | apply fz_sim.X5_init_28 | apply fz_sim.X7_init_31 | apply fz_sim.X0_init_30 | apply fz_sim.pw | apply fz_sim.X4_init_47)
set_option maxRecDepth 100000 in
set_option maxHeartbeats 4000000 in
theorem fz_sim.X1_init_181 {h h' : fz_H} (e : fz_sim h h') : fz_sim (hc_X1_init_181 h) (hc_X1_init_181 h') := by
  unfold hc_X1_init_181
  repeat (first | exact e | apply fz_sim0.sI | apply fz_sim0.sP | apply fz_sim0.mk | apply fz_sim.X10 | apply fz_sim.X8_init_4 | apply fz_sim.X2_init_5 | apply fz_sim.X9_init_6 | apply fz_sim.X9_init_17 | apply fz_sim.X5_init_28 | apply fz_sim.X7_init_31 | apply fz_sim.X0_init_30 | apply fz_sim.pw | apply fz_sim.X4_init_47 | apply fz_sim.X3_init_172)
set_option maxRecDepth 100000 in
set_option maxHeartbeats 4000000 in
theorem fz_sim.X6_init_184 {h h' : fz_H} (e : fz_sim h h') : fz_sim (hc_X6_init_184 h) (hc_X6_init_184 h') := by
  unfold hc_X6_init_184
  repeat (first | exact e | apply fz_sim0.sI | apply fz_sim0.sP | apply fz_sim0.mk | apply fz_sim.X10 | apply fz_sim.X8_init_4 | apply fz_sim.X2_init_5 | apply fz_sim.X9_init_6 | apply fz_sim.X9_init_17 | apply fz_sim.X5_init_28 | apply fz_sim.X7_init_31 | apply fz_sim.X0_init_30 | apply fz_sim.pw | apply fz_sim.X4_init_47 | apply fz_sim.X3_init_172 | apply fz_sim.X1_init_181)
set_option maxRecDepth 100000 in
set_option maxHeartbeats 4000000 in
theorem fz_sim.X11_init_2 {h h' : fz_H} (e : fz_sim h h') : fz_sim (hc_X11_init_2 h) (hc_X11_init_2 h') := by
  unfold hc_X11_init_2
  repeat (first | exact e | apply fz_sim0.sI | apply fz_sim0.sP | apply fz_sim0.mk | apply fz_sim.X10 | apply fz_sim.X8_init_4 | apply fz_sim.X2_init_5 | apply fz_sim.X9_init_6 | apply fz_sim.X9_init_17 | apply fz_sim.X5_init_28 | apply fz_sim.X7_init_31 | apply fz_sim.X0_init_30 | apply fz_sim.pw | apply fz_sim.X4_init_47 | apply fz_sim.X3_init_172 | apply fz_sim.X1_init_181 | apply fz_sim.X6_init_184)
theorem fz_sim.X12_init_196 {h h' : fz_H} (e : fz_sim h h') : fz_sim (hc_X12_init_196 h) (hc_X12_init_196 h') := by
  unfold hc_X12_init_196
  exact (fz_sim.m77 (fz_sim.m76 (fz_sim.m75 (fz_sim.m74 (fz_sim.m73 (fz_sim.m72 (fz_sim.m71 (fz_sim.m70 (fz_sim.m69 (fz_sim.m68 (fz_sim.m67 (fz_sim.m66 (fz_sim.m65 (fz_sim.m64 (fz_sim.m63 (fz_sim.m62 (fz_sim.m61 (fz_sim.m60 (fz_sim.m59 (fz_sim.m58 (fz_sim.m57 (fz_sim.m56 (fz_sim.m55 (fz_sim.m54 (fz_sim.m53 (fz_sim.m52 (fz_sim.m51 (fz_sim.m50 (fz_sim.m49 (fz_sim.m48 (fz_sim.m47 (fz_sim.m46 (fz_sim.m45 (fz_sim.m44 (fz_sim.m43 (fz_sim.m42 (fz_sim.m41 (fz_sim.m40 (fz_sim.m39 (fz_sim.m38 (fz_sim.m37 (fz_sim.m36 (fz_sim.m35 (fz_sim.m34 (fz_sim.m33 (fz_sim.m32 (fz_sim.m31 (fz_sim.m30 (fz_sim.m29 (fz_sim.m28 (fz_sim.m27 (fz_sim.m26 (fz_sim.m25 (fz_sim.m24 (fz_sim.m23 (fz_sim.m22 (fz_sim.m21 (fz_sim.m20 (fz_sim.m19 (fz_sim.m18 (fz_sim.m17 (fz_sim.m16 (fz_sim.m15 (fz_sim.m14 (fz_sim.m13 (fz_sim.m12 (fz_sim.m11 (fz_sim.m10 (fz_sim.m9 (fz_sim.m8 (fz_sim.m7 (fz_sim.m6 (fz_sim.m5 (fz_sim.m4 (fz_sim.m3 (fz_sim.m2 (fz_sim.m1 (fz_sim.m0 e))))))))))))))))))))))))))))))))))))))))))))))))))))))))))))))))))))))))))))))
theorem fz_hF_sim (L : Nat) (xs : Nat → Int32) : fz_sim (fz_hF L xs) (fz_hF 0 (fun _ => 0)) := by
  unfold fz_hF
  refine fz_sim.X12_init_196 (fz_sim0.mk (fz_sim.X11_init_2 ?_))
  unfold hB0
  exact fz_sim0.mk ⟨rfl, rfl⟩
set_option maxRecDepth 100000 in
theorem fz_hF_ptr : ((List.range 273).all fun a => (List.range (fz_ptr.getD a []).length).all fun j => decide ((fz_hF 0 (fun _ => 0)).2.2.2 a j = (fz_ptr.getD a []).getD j none)) = true := by decide +kernel
theorem fz_ws_ix {g : fz_G} {h : fz_H} {k : Nat} {q : Nat × va_E} (hk : (fz_ws g h)[k]? = some q) : k + 2 < h.1.length ∧ q = (g.2.2.2.1.size + k, fz_ce g h (k + 2)) := by
  unfold fz_ws at hk
  rw [List.getElem?_map] at hk
  cases hr : (List.range (h.1.length - 2))[k]? with
  | none => rw [hr] at hk; cases hk
  | some j =>
    rw [hr] at hk
    obtain ⟨hlt, hj⟩ := List.getElem?_eq_some_iff.mp hr
    rw [List.length_range] at hlt
    rw [List.getElem_range] at hj
    subst hj
    exact ⟨by omega, (Option.some.inj hk).symm⟩
theorem fz_wsD (g : fz_G) (h : fz_H) : va_D (fz_A g) (fz_ws g h) := by
  refine ⟨fun i j p q hi hj e => ?_, fun k q hk => ?_⟩
  · obtain ⟨-, rfl⟩ := fz_ws_ix hi
    obtain ⟨-, rfl⟩ := fz_ws_ix hj
    exact Nat.add_left_cancel e
  · obtain ⟨-, rfl⟩ := fz_ws_ix hk
    exact Nat.le_add_right _ _
theorem fz_arrV {c : ClassId} {N : Nat} {f f' : Nat → Value} (h : ∀ j, j < N → f j = f' j) : arrV c N f = arrV c N f' := by
  unfold arrV
  congr 1
  congr 1
  funext j
  exact h j.val j.isLt
/-- a picture that says the same of the cells -/
theorem fz_Rel.conv {g : fz_G} {h h2 : fz_H} {H : Heap} {locs : List Loc} (hR : fz_Rel g h H locs) (hs : h2.1 = h.1) (hI : ∀ a, 2 ≤ a → h2.2.1 a = h.2.1 a) (hL : ∀ a, 2 ≤ a → h2.2.2.1 a = h.2.2.1 a) (hP : ∀ a κ n j, 2 ≤ a → h.1[a]? = some (κ, n) → ¬ (13 ≤ κ ∧ κ ≤ 16) → j < n → h2.2.2.2 a j = h.2.2.2 a j) (h0 : ∀ j, j < g.2.2.2.2.2.1 → h2.2.1 0 j = g.2.2.2.2.2.2.1 j) : fz_Rel g h2 H locs := by
  obtain ⟨hp, hD, hS, hz, h3, h4, h5, h6⟩ := hR
  refine ⟨fun k q hk => ?_, fz_wsD g h2, hS, by rw [hs]; exact hz, by rw [hs]; exact h3, by rw [hs]; exact h4, by rw [hs]; exact h5, h0⟩
  obtain ⟨hlt, rfl⟩ := fz_ws_ix hk
  rw [hs] at hlt
  have hold := hp (k + 2 - 2) _ (fz_ws_at (g := g) (a := k + 2) (by omega) hlt)
  have had : fz_ad g (k + 2) = g.2.2.2.1.size + k := by rw [fz_ad_ge (by omega)]; rfl
  rw [had] at hold
  obtain ⟨⟨κ, n⟩, hx⟩ : ∃ x, h.1[k + 2]? = some x := ⟨_, List.getElem?_eq_getElem hlt⟩
  have hx2 : h2.1[k + 2]? = some (κ, n) := by rw [hs]; exact hx
  have eI := hI (k + 2) (by omega)
  have eL := hL (k + 2) (by omega)
  by_cases k17 : κ = 17
  · subst k17
    rw [fz_ce17 hx] at hold
    rw [fz_ce17 hx2]
    show H[_]? = some (vp_cell _ _)
    have hold' : H[g.2.2.2.1.size + k]? = some (vp_cell _ _) := hold
    rw [hold', vp_cell_q, vp_cell_q]
    exact congrArg some (fz_arrV fun j hj => by rw [hP _ _ _ j (by omega) hx (by omega) hj])
  · have hce : fz_ce g h2 (k + 2) = fz_ce g h (k + 2) := by
      unfold fz_ce
      rw [fz_gd hx, fz_gd hx2]
      split
      · rw [eI]
      · rw [eI]
      · rw [eL]
      · rw [eI]
      · rename_i q; exact absurd (congrArg Prod.fst q) k17
      · rename_i ci n' g1 g2 g3 g4 g5 q
        cases q
        have hk : ¬ (13 ≤ κ ∧ κ ≤ 16) := by
          rintro ⟨z1, z2⟩
          rcases (show κ = 13 ∨ κ = 14 ∨ κ = 15 ∨ κ = 16 by omega) with rfl | rfl | rfl | rfl
          · exact g1 n rfl
          · exact g2 n rfl
          · exact g3 n rfl
          · exact g4 n rfl
        congr 2
        refine List.map_congr_left fun j hj => ?_
        unfold fz_v
        rw [eI, eL, hP _ _ _ j (by omega) hx hk (List.mem_range.mp hj)]
    rw [hce]
    exact hold
theorem fv_cong {g : fz_G} {l : Launch} {μ : fz_M} {d ra rb pc : Nat} {ls st : List Value} {h h2 : fz_H} {Q : Option Value → fz_H → Prop} (hc : ∀ H locs, fz_Rel g h H locs → fz_Rel g h2 H locs) (k : fz_V g l μ d ra rb pc ls st h2 Q) : fz_V g l μ d ra rb pc ls st h Q := fun p e R s m args below meth c H locs cells slots lc Mc Ms QQ C RM hl hR hE => k p e R s m args below meth c H locs cells slots lc Mc Ms QQ C RM hl (hc H locs hR) hE
/-- the memory behind the constructors -/
def x_0 (L : Nat) (xs : Nat → Int32) : fz_s := ((fz_hF L xs).2.1, (fz_hF L xs).2.2.1, none)
theorem fz_hF_P (L : Nat) (xs : Nat → Int32) (a j : Nat) (ha : a < 273) (hj : j < (fz_ptr.getD a []).length) : (fz_hF L xs).2.2.2 a j = (fz_ptr.getD a []).getD j none := by
  rw [(fz_hF_sim L xs).2]
  have h1 := List.all_eq_true.mp fz_hF_ptr a (List.mem_range.mpr ha)
  have h2 := List.all_eq_true.mp h1 j (List.mem_range.mpr hj)
  exact of_decide_eq_true h2
theorem fz_ptr_len : ((List.range 271).all fun a => (decide (13 ≤ (fz_cells.getD a (0, 0)).1) && decide ((fz_cells.getD a (0, 0)).1 ≤ 16)) || decide ((fz_ptr.getD (a + 2) []).length = (fz_cells.getD a (0, 0)).2)) = true := by decide +kernel
set_option maxRecDepth 100000 in
set_option maxHeartbeats 4000000 in
/-- THE LAW from its entry, by what class and reference keep -/
theorem law_start {INV : fz_s → fz_s → Prop} (hE : EQ_all INV) {g : fz_G} {l : Launch} {d : Nat} (hd : 79 ≤ d) (hL : g.2.2.2.2.2.1 ≤ 3072) (hI : INV (x_0 g.2.2.2.2.2.1 g.2.2.2.2.2.2.1) (x_0 g.2.2.2.2.2.1 g.2.2.2.2.2.2.1)) {Q : Option Value → fz_H → Prop} (hQ : ∀ {h}, Q (some (.int 1)) h) : fz_V g l m_L (d + 1) 271 26046 0 (fz_en [.ref 0] 4) [] (fz_h0 g.2.2.2.2.2.1 g.2.2.2.2.2.2.1) Q := by
  have hs : fz_to g.2.2.2.2.2.1 (fz_h0 g.2.2.2.2.2.1 g.2.2.2.2.2.2.1) 2 := ⟨rfl, by decide⟩
  refine fq_new (ci := 11) (M := 20) hs ca_2 dd_L_0 rfl ck_L_7 is_X11 ic_X11 (fun h1 e1 hs1 => ?_)
  refine fv_dup dd_L_3 rfl ?_
  refine fq_callI (y := m_X11_init) (as := []) (mc := 193) (ms := 11611) (N' := 196) dd_L_4 me_X11_init rfl rfl (Or.inl lk_L_9) in_X11_init rfl (Nat.le_of_ble_eq_true rfl) (Nat.le_of_ble_eq_true rfl) rfl (fun Q' hq => V_cX11_init_2 (by omega) hs1 e1 hq) (fun h2 e2 hs2 => ?_)
  refine fv_astore_n (k0 := 1) (i := 1) dd_L_7 rfl (by decide) ?_
  refine fq_new (ci := 12) (M := 112) hs2 ca_196 dd_L_8 rfl ck_L_10 is_X12 ic_X12 (fun h3 e3 hs3 => ?_)
  refine fv_dup dd_L_11 rfl ?_
  refine fq_callI (y := m_X12_init) (as := []) (mc := 76) (ms := 14303) (N' := 273) dd_L_12 me_X12_init rfl rfl (Or.inl lk_L_12) in_X12_init rfl (Nat.le_of_ble_eq_true rfl) (Nat.le_of_ble_eq_true rfl) rfl (fun Q' hq => V_cX12_init_196 (by omega) hs3 hq) (fun h4 e4 hs4 => ?_)
  refine fv_astore_n (k0 := 2) (i := 2) dd_L_15 rfl (by decide) ?_
  refine fv_iconst (n := 0) (v := 0) dd_L_16 (by decide) ?_
  refine fv_istore_n (k0 := 3) (i := 3) dd_L_17 rfl (by decide) ?_
  have e5 : h4 = fz_hF g.2.2.2.2.2.1 g.2.2.2.2.2.2.1 := by rw [e4, e3, e2, e1]; rfl
  rw [e5] at hs4 ⊢
  have hlen := hs4.len
  refine fv_cong (h2 := fz_hx g (x_0 g.2.2.2.2.2.1 g.2.2.2.2.2.2.1) (x_0 g.2.2.2.2.2.1 g.2.2.2.2.2.2.1)) (fun H locs hR => hR.conv ?_ ?_ ?_ ?_ ?_) ?_
  · rw [hs4.1]
    show (20, _) :: (21, 0) :: fz_cells = (fz_all _).take 273
    rw [List.take_of_length_le (by show fz_cells.length + 1 + 1 ≤ 273; rw [show fz_cells.length = 271 by decide +kernel])]
    rfl
  · intro a ha
    show (if a = 0 then _ else if a < 196 then (fz_hF _ _).2.1 a else (fz_hF _ _).2.1 a) = _
    rw [if_neg (by omega)]
    split <;> rfl
  · intro a ha
    show (if a < 196 then (fz_hF _ _).2.2.1 a else (fz_hF _ _).2.2.1 a) = _
    split <;> rfl
  · intro a κ n j h2 hx hk hj
    have ha : a < 273 := by have := fz_lt hx; rw [hlen] at this; exact this
    have hc : fz_cells[a - 2]? = some (κ, n) := by
      rw [hs4.1, List.getElem?_take, if_pos ha] at hx
      match a, h2, hx with
      | a + 2, _, hx => exact hx
    have h9 := List.all_eq_true.mp fz_ptr_len (a - 2) (List.mem_range.mpr (by omega))
    rw [List.getD_eq_getElem?_getD, hc] at h9
    have h10 : (fz_ptr.getD (a - 2 + 2) []).length = n := by
      rcases Bool.or_eq_true _ _ ▸ h9 with z | z
      · rw [Bool.and_eq_true] at z
        exact absurd ⟨of_decide_eq_true z.1, of_decide_eq_true z.2⟩ hk
      · exact of_decide_eq_true z
    rw [Nat.sub_add_cancel h2] at h10
    rw [fz_hF_P _ _ a j ha (by rw [h10]; exact hj)]
    show (if a = 5 ∧ j = 1 then none else _) = _
    by_cases h5 : a = 5 ∧ j = 1
    · rw [if_pos h5, h5.1, h5.2]
      rfl
    · rw [if_neg h5]
  · intro j hj
    rfl
  · exact law_loop hE hd hL hQ (g.2.2.2.2.2.1 + 7) (by omega) (i := 0) (j := 0) rfl (by omega) hI

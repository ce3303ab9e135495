/-! THE NUMBERS BEHIND THE CONSTRUCTORS -/
def ti_at : List (Nat × Nat × Int32) → Nat → Nat → Int32
  | [], _, _ => 0
  | (b, i, x) :: t, a, j => if b = a ∧ i = j then x else ti_at t a j
def tl_at : List (Nat × Nat × Int64) → Nat → Nat → Int64
  | [], _, _ => 0
  | (b, i, x) :: t, a, j => if b = a ∧ i = j then x else tl_at t a j
def ti_P (xs : Nat → Int32) (h : fz_H) (E : List (Nat × Nat × Int32)) (G : List (Nat × Nat × Int64)) (N : Nat) : Prop := h.1.length = N ∧ 0 < N ∧ (∀ a j, h.2.1 a j = if a = 0 then xs j else ti_at E a j) ∧ (∀ a j, h.2.2.1 a j = tl_at G a j) ∧ (∀ e ∈ E, e.1 < N) ∧ ∀ e ∈ G, e.1 < N
theorem ti_none : ∀ (E : List (Nat × Nat × Int32)) (a j : Nat), (∀ e ∈ E, e.1 ≠ a) → ti_at E a j = 0
  | [], _, _, _ => rfl
  | (b, i, x) :: t, a, j, h => by
    have hb : b ≠ a := h _ List.mem_cons_self
    unfold ti_at
    rw [if_neg (fun q => hb q.1)]
    exact ti_none t a j (fun e he => h e (List.mem_cons_of_mem _ he))
theorem tl_none : ∀ (E : List (Nat × Nat × Int64)) (a j : Nat), (∀ e ∈ E, e.1 ≠ a) → tl_at E a j = 0
  | [], _, _, _ => rfl
  | (b, i, x) :: t, a, j, h => by
    have hb : b ≠ a := h _ List.mem_cons_self
    unfold tl_at
    rw [if_neg (fun q => hb q.1)]
    exact tl_none t a j (fun e he => h e (List.mem_cons_of_mem _ he))
theorem ti_P.mk {xs : Nat → Int32} {h : fz_H} {E : List (Nat × Nat × Int32)} {G : List (Nat × Nat × Int64)} {N κ n : Nat} (e : ti_P xs h E G N) : ti_P xs (fz_mk h κ n) E G (N + 1) := by
  obtain ⟨h1, h0, h2, h3, h4, h5⟩ := e
  refine ⟨?_, Nat.succ_pos _, fun a j => ?_, fun a j => ?_, fun q hq => Nat.lt_succ_of_lt (h4 q hq), fun q hq => Nat.lt_succ_of_lt (h5 q hq)⟩
  · show (h.1 ++ [(κ, n)]).length = _
    rw [List.length_append, h1]
    rfl
  · show (if a = h.1.length then (fun _ => 0) else h.2.1 a) j = _
    rw [h1]
    by_cases ha : a = N
    · rw [if_pos ha, if_neg (by omega), ha, ti_none E N j (fun q hq => Nat.ne_of_lt (h4 q hq))]
    · rw [if_neg ha]
      exact h2 a j
  · show (if a = h.1.length then (fun _ => 0) else h.2.2.1 a) j = _
    rw [h1]
    by_cases ha : a = N
    · rw [if_pos ha, ha, tl_none G N j (fun q hq => Nat.ne_of_lt (h5 q hq))]
    · rw [if_neg ha]
      exact h3 a j
theorem ti_P.sI {xs : Nat → Int32} {h : fz_H} {E : List (Nat × Nat × Int32)} {G : List (Nat × Nat × Int64)} {N a j : Nat} {x : Int32} (e : ti_P xs h E G N) (ha : a < N ∧ a ≠ 0) : ti_P xs (fz_sI h a j x) ((a, j, x) :: E) G N := by
  obtain ⟨h1, h0, h2, h3, h4, h5⟩ := e
  refine ⟨h1, h0, fun b i => ?_, h3, fun q hq => ?_, h5⟩
  · show (if b = a then upd (h.2.1 a) j x else h.2.1 b) i = if b = 0 then xs i else if a = b ∧ j = i then x else ti_at E b i
    by_cases hb : b = a
    · subst hb
      rw [if_pos rfl, if_neg ha.2]
      unfold upd
      by_cases hi : i = j
      · subst hi
        rw [if_pos rfl, if_pos ⟨rfl, rfl⟩]
      · rw [if_neg hi, if_neg (fun q => hi q.2.symm), h2, if_neg ha.2]
    · rw [if_neg hb, h2]
      by_cases b0 : b = 0
      · rw [if_pos b0, if_pos b0]
      · rw [if_neg b0, if_neg b0, if_neg (fun q => hb q.1.symm)]
  · rcases List.mem_cons.mp hq with rfl | hq
    · exact ha.1
    · exact h4 q hq
theorem ti_P.sL {xs : Nat → Int32} {h : fz_H} {E : List (Nat × Nat × Int32)} {G : List (Nat × Nat × Int64)} {N a j : Nat} {x : Int64} (e : ti_P xs h E G N) (ha : a < N) : ti_P xs (fz_sL h a j x) E ((a, j, x) :: G) N := by
  obtain ⟨h1, h0, h2, h3, h4, h5⟩ := e
  refine ⟨h1, h0, h2, fun b i => ?_, h4, fun q hq => ?_⟩
  · show (if b = a then vp_updL (h.2.2.1 a) j x else h.2.2.1 b) i = if a = b ∧ j = i then x else tl_at G b i
    by_cases hb : b = a
    · subst hb
      rw [if_pos rfl]
      unfold vp_updL
      by_cases hi : i = j
      · subst hi
        rw [if_pos rfl, if_pos ⟨rfl, rfl⟩]
      · rw [if_neg hi, if_neg (fun q => hi q.2.symm), h3]
    · rw [if_neg hb, h3, if_neg (fun q => hb q.1.symm)]
  · rcases List.mem_cons.mp hq with rfl | hq
    · exact ha
    · exact h5 q hq
theorem ti_P.sP {xs : Nat → Int32} {h : fz_H} {E : List (Nat × Nat × Int32)} {G : List (Nat × Nat × Int64)} {N a j : Nat} {x : Option Nat} (e : ti_P xs h E G N) : ti_P xs (fz_sP h a j x) E G N := e
theorem ti_P.W {xs : Nat → Int32} {h : fz_H} {E : List (Nat × Nat × Int32)} {G : List (Nat × Nat × Int64)} {n N N' : Nat} (e : ti_P xs h E G N) (hN : N + 5 = N') : ti_P xs (hc_X10_init h n) E G N' := by
  subst hN
  unfold hc_X10_init
  exact (((((((((e.mk.sP).mk).sP).mk).sP).mk).sP).mk).sP)
theorem ti_P.pw {xs : Nat → Int32} {h : fz_H} {E : List (Nat × Nat × Int32)} {G : List (Nat × Nat × Int64)} (e : ti_P xs h E G 52) (i : Nat) : ti_P xs (hc_pw h i) E G (52 + 6 * i) := by
  induction i with
  | zero => exact e
  | succ i ih => exact (ti_P.W (N' := 52 + 6 * (i + 1)) ih.mk (by omega)).sP
set_option maxRecDepth 100000 in
theorem ti_hc_X8_init_4 {xs : Nat → Int32} {h : fz_H} {E : List (Nat × Nat × Int32)} {G : List (Nat × Nat × Int64)} (e : ti_P xs h E G 5) : ti_P xs (hc_X8_init_4 h) E G 5 := by
  unfold hc_X8_init_4
  exact (ti_P.sP e)
set_option maxRecDepth 100000 in
theorem ti_hc_X2_init_5 {xs : Nat → Int32} {h : fz_H} {E : List (Nat × Nat × Int32)} {G : List (Nat × Nat × Int64)} (e : ti_P xs h E G 6) : ti_P xs (hc_X2_init_5 h) E G 6 := by
  unfold hc_X2_init_5
  exact (ti_P.sP e)
set_option maxRecDepth 100000 in
theorem ti_hc_X9_init_6 {xs : Nat → Int32} {h : fz_H} {E : List (Nat × Nat × Int32)} {G : List (Nat × Nat × Int64)} (e : ti_P xs h E G 7) : ti_P xs (hc_X9_init_6 h) E G 17 := by
  unfold hc_X9_init_6
  exact (ti_P.sP (ti_P.mk (ti_P.sP (ti_P.mk (ti_P.sP (ti_P.mk (ti_P.sP (ti_P.mk (ti_P.sP (ti_P.mk (ti_P.sP (ti_P.mk (ti_P.sP (ti_P.mk (ti_P.sP (ti_P.mk (ti_P.sP (ti_P.mk (ti_P.sP (ti_P.mk e))))))))))))))))))))
set_option maxRecDepth 100000 in
theorem ti_hc_X9_init_17 {xs : Nat → Int32} {h : fz_H} {E : List (Nat × Nat × Int32)} {G : List (Nat × Nat × Int64)} (e : ti_P xs h E G 18) : ti_P xs (hc_X9_init_17 h) E G 28 := by
  unfold hc_X9_init_17
  exact (ti_P.sP (ti_P.mk (ti_P.sP (ti_P.mk (ti_P.sP (ti_P.mk (ti_P.sP (ti_P.mk (ti_P.sP (ti_P.mk (ti_P.sP (ti_P.mk (ti_P.sP (ti_P.mk (ti_P.sP (ti_P.mk (ti_P.sP (ti_P.mk (ti_P.sP (ti_P.mk e))))))))))))))))))))
set_option maxRecDepth 100000 in
theorem ti_hc_X5_init_28 {xs : Nat → Int32} {h : fz_H} {E : List (Nat × Nat × Int32)} {G : List (Nat × Nat × Int64)} (e : ti_P xs h E G 29) : ti_P xs (hc_X5_init_28 h) E G 30 := by
  unfold hc_X5_init_28
  exact (ti_P.sP (ti_P.mk e))
set_option maxRecDepth 100000 in
theorem ti_hc_X7_init_31 {xs : Nat → Int32} {h : fz_H} {E : List (Nat × Nat × Int32)} {G : List (Nat × Nat × Int64)} (e : ti_P xs h E G 32) : ti_P xs (hc_X7_init_31 h) E G 34 := by
  unfold hc_X7_init_31
  exact (ti_P.sP (ti_P.mk (ti_P.sP (ti_P.mk e))))
set_option maxRecDepth 100000 in
theorem ti_hc_X0_init_30 {xs : Nat → Int32} {h : fz_H} {E : List (Nat × Nat × Int32)} {G : List (Nat × Nat × Int64)} (e : ti_P xs h E G 34) : ti_P xs (hc_X0_init_30 h) E G 35 := by
  unfold hc_X0_init_30
  exact (ti_P.sP (ti_P.sP (ti_P.sP (ti_P.mk e))))
set_option maxRecDepth 100000 in
theorem ti_hc_X4_init_47 {xs : Nat → Int32} {h : fz_H} {E : List (Nat × Nat × Int32)} {G : List (Nat × Nat × Int64)} (e : ti_P xs h E G 48) : ti_P xs (hc_X4_init_47 h) E G 172 := by
  unfold hc_X4_init_47
  exact (ti_P.pw (ti_P.sP (ti_P.mk (ti_P.sP (ti_P.mk (ti_P.sP (ti_P.mk (ti_P.sP (ti_P.mk e)))))))) 20)
set_option maxRecDepth 100000 in
theorem ti_hc_X3_init_172 {xs : Nat → Int32} {h : fz_H} {E : List (Nat × Nat × Int32)} {G : List (Nat × Nat × Int64)} (e : ti_P xs h E G 173) : ti_P xs (hc_X3_init_172 h) E G 181 := by
  unfold hc_X3_init_172
  exact (ti_P.sP (ti_P.sP (ti_P.sP (ti_P.mk (ti_P.sP (ti_P.mk (ti_P.sP (ti_P.W (ti_P.mk e) rfl))))))))
set_option maxRecDepth 100000 in
theorem ti_hc_X1_init_181 {xs : Nat → Int32} {h : fz_H} {E : List (Nat × Nat × Int32)} {G : List (Nat × Nat × Int64)} (e : ti_P xs h E G 182) : ti_P xs (hc_X1_init_181 h) E G 184 := by
  unfold hc_X1_init_181
  exact (ti_P.sP (ti_P.sP (ti_P.sP (ti_P.mk (ti_P.sP (ti_P.mk e))))))
set_option maxRecDepth 100000 in
theorem ti_hc_X6_init_184 {xs : Nat → Int32} {h : fz_H} {E : List (Nat × Nat × Int32)} {G : List (Nat × Nat × Int64)} (e : ti_P xs h E G 185) : ti_P xs (hc_X6_init_184 h) E G 194 := by
  unfold hc_X6_init_184
  exact (ti_P.sP (ti_P.sP (ti_P.mk (ti_P.sP (ti_P.mk (ti_P.sP (ti_P.mk (ti_P.sP (ti_P.W (ti_P.mk e) rfl)))))))))
set_option maxRecDepth 100000 in
theorem ti_hc_X11_init_2 {xs : Nat → Int32} {h : fz_H} {E : List (Nat × Nat × Int32)} {G : List (Nat × Nat × Int64)} (e : ti_P xs h E G 3) : ti_P xs (hc_X11_init_2 h) ((2, 19, (-1)) :: ((2, 17, 1) :: E)) G 196 := by
  unfold hc_X11_init_2
  exact (ti_P.sI (ti_P.sI (ti_P.sP (ti_P.mk (ti_P.sP (ti_P.mk (ti_P.sP (ti_hc_X6_init_184 (ti_P.mk (ti_P.sP (ti_hc_X1_init_181 (ti_P.mk (ti_P.sP (ti_hc_X3_init_172 (ti_P.mk (ti_P.sP (ti_hc_X4_init_47 (ti_P.mk (ti_P.sP (ti_P.W (ti_P.mk (ti_P.sP (ti_P.W (ti_P.mk (ti_P.sP (ti_hc_X0_init_30 (ti_hc_X7_init_31 (ti_P.mk (ti_P.mk (ti_P.sP (ti_hc_X5_init_28 (ti_P.mk (ti_P.sP (ti_hc_X9_init_17 (ti_P.mk (ti_P.sP (ti_hc_X9_init_6 (ti_P.mk (ti_P.sP (ti_hc_X2_init_5 (ti_P.mk (ti_P.sP (ti_hc_X8_init_4 (ti_P.mk (ti_P.sP (ti_P.mk e))))))))))))))))))))))) rfl))) rfl)))))))))))))))))) (by decide)) (by decide))
set_option maxRecDepth 100000 in
theorem ti_hm_0 {xs : Nat → Int32} {h : fz_H} {E : List (Nat × Nat × Int32)} {G : List (Nat × Nat × Int64)} (e : ti_P xs h E G 197) : ti_P xs (hm_0 h) E G 198 := by
  unfold hm_0
  exact (ti_P.sP (ti_P.mk e))
set_option maxRecDepth 100000 in
theorem ti_hm_1 {xs : Nat → Int32} {h : fz_H} {E : List (Nat × Nat × Int32)} {G : List (Nat × Nat × Int64)} (e : ti_P xs h E G 198) : ti_P xs (hm_1 h) ((196, 8, (-1)) :: E) G 198 := by
  unfold hm_1
  exact (ti_P.sI e (by decide))
set_option maxRecDepth 100000 in
theorem ti_hm_2 {xs : Nat → Int32} {h : fz_H} {E : List (Nat × Nat × Int32)} {G : List (Nat × Nat × Int64)} (e : ti_P xs h E G 198) : ti_P xs (hm_2 h) E G 199 := by
  unfold hm_2
  exact (ti_P.sP (ti_P.mk e))
set_option maxRecDepth 100000 in
theorem ti_hm_3 {xs : Nat → Int32} {h : fz_H} {E : List (Nat × Nat × Int32)} {G : List (Nat × Nat × Int64)} (e : ti_P xs h E G 199) : ti_P xs (hm_3 h) ((199, 6, 116) :: ((199, 5, 115) :: ((199, 4, 101) :: ((199, 3, 118) :: ((199, 2, 114) :: ((199, 1, 97) :: ((199, 0, 104) :: E))))))) G 200 := by
  unfold hm_3
  exact (ti_P.sP (ti_P.sI (ti_P.sI (ti_P.sI (ti_P.sI (ti_P.sI (ti_P.sI (ti_P.sI (ti_P.mk e) (by decide)) (by decide)) (by decide)) (by decide)) (by decide)) (by decide)) (by decide)))
set_option maxRecDepth 100000 in
theorem ti_hm_4 {xs : Nat → Int32} {h : fz_H} {E : List (Nat × Nat × Int32)} {G : List (Nat × Nat × Int64)} (e : ti_P xs h E G 200) : ti_P xs (hm_4 h) ((200, 6, 108) :: ((200, 5, 101) :: ((200, 4, 114) :: ((200, 3, 114) :: ((200, 2, 97) :: ((200, 1, 117) :: ((200, 0, 113) :: E))))))) G 201 := by
  unfold hm_4
  exact (ti_P.sP (ti_P.sI (ti_P.sI (ti_P.sI (ti_P.sI (ti_P.sI (ti_P.sI (ti_P.sI (ti_P.mk e) (by decide)) (by decide)) (by decide)) (by decide)) (by decide)) (by decide)) (by decide)))
set_option maxRecDepth 100000 in
theorem ti_hm_5 {xs : Nat → Int32} {h : fz_H} {E : List (Nat × Nat × Int32)} {G : List (Nat × Nat × Int64)} (e : ti_P xs h E G 201) : ti_P xs (hm_5 h) ((201, 6, 101) :: ((201, 5, 103) :: ((201, 4, 97) :: ((201, 3, 108) :: ((201, 2, 108) :: ((201, 1, 105) :: ((201, 0, 118) :: E))))))) G 202 := by
  unfold hm_5
  exact (ti_P.sP (ti_P.sI (ti_P.sI (ti_P.sI (ti_P.sI (ti_P.sI (ti_P.sI (ti_P.sI (ti_P.mk e) (by decide)) (by decide)) (by decide)) (by decide)) (by decide)) (by decide)) (by decide)))
set_option maxRecDepth 100000 in
theorem ti_hm_6 {xs : Nat → Int32} {h : fz_H} {E : List (Nat × Nat × Int32)} {G : List (Nat × Nat × Int64)} (e : ti_P xs h E G 202) : ti_P xs (hm_6 h) ((202, 5, 110) :: ((202, 4, 111) :: ((202, 3, 115) :: ((202, 2, 114) :: ((202, 1, 101) :: ((202, 0, 112) :: E)))))) G 203 := by
  unfold hm_6
  exact (ti_P.sP (ti_P.sI (ti_P.sI (ti_P.sI (ti_P.sI (ti_P.sI (ti_P.sI (ti_P.mk e) (by decide)) (by decide)) (by decide)) (by decide)) (by decide)) (by decide)))
set_option maxRecDepth 100000 in
theorem ti_hm_7 {xs : Nat → Int32} {h : fz_H} {E : List (Nat × Nat × Int32)} {G : List (Nat × Nat × Int64)} (e : ti_P xs h E G 203) : ti_P xs (hm_7 h) ((203, 1, 102) :: ((203, 0, 111) :: E)) G 204 := by
  unfold hm_7
  exact (ti_P.sP (ti_P.sI (ti_P.sI (ti_P.mk e) (by decide)) (by decide)))
set_option maxRecDepth 100000 in
theorem ti_hm_8 {xs : Nat → Int32} {h : fz_H} {E : List (Nat × Nat × Int32)} {G : List (Nat × Nat × Int64)} (e : ti_P xs h E G 204) : ti_P xs (hm_8 h) ((204, 3, 115) :: ((204, 2, 116) :: ((204, 1, 105) :: ((204, 0, 119) :: E)))) G 205 := by
  unfold hm_8
  exact (ti_P.sP (ti_P.sI (ti_P.sI (ti_P.sI (ti_P.sI (ti_P.mk e) (by decide)) (by decide)) (by decide)) (by decide)))
set_option maxRecDepth 100000 in
theorem ti_hm_9 {xs : Nat → Int32} {h : fz_H} {E : List (Nat × Nat × Int32)} {G : List (Nat × Nat × Int64)} (e : ti_P xs h E G 205) : ti_P xs (hm_9 h) ((205, 3, 104) :: ((205, 2, 116) :: ((205, 1, 97) :: ((205, 0, 111) :: E)))) G 206 := by
  unfold hm_9
  exact (ti_P.sP (ti_P.sI (ti_P.sI (ti_P.sI (ti_P.sI (ti_P.mk e) (by decide)) (by decide)) (by decide)) (by decide)))
set_option maxRecDepth 100000 in
theorem ti_hm_10 {xs : Nat → Int32} {h : fz_H} {E : List (Nat × Nat × Int32)} {G : List (Nat × Nat × Int64)} (e : ti_P xs h E G 206) : ti_P xs (hm_10 h) ((206, 4, 114) :: ((206, 3, 101) :: ((206, 2, 101) :: ((206, 1, 104) :: ((206, 0, 99) :: E))))) G 207 := by
  unfold hm_10
  exact (ti_P.sP (ti_P.sI (ti_P.sI (ti_P.sI (ti_P.sI (ti_P.sI (ti_P.mk e) (by decide)) (by decide)) (by decide)) (by decide)) (by decide)))
set_option maxRecDepth 100000 in
theorem ti_hm_11 {xs : Nat → Int32} {h : fz_H} {E : List (Nat × Nat × Int32)} {G : List (Nat × Nat × Int64)} (e : ti_P xs h E G 207) : ti_P xs (hm_11 h) ((207, 4, 115) :: ((207, 3, 100) :: ((207, 2, 110) :: ((207, 1, 101) :: ((207, 0, 115) :: E))))) G 208 := by
  unfold hm_11
  exact (ti_P.sP (ti_P.sI (ti_P.sI (ti_P.sI (ti_P.sI (ti_P.sI (ti_P.mk e) (by decide)) (by decide)) (by decide)) (by decide)) (by decide)))
set_option maxRecDepth 100000 in
theorem ti_hm_12 {xs : Nat → Int32} {h : fz_H} {E : List (Nat × Nat × Int32)} {G : List (Nat × Nat × Int64)} (e : ti_P xs h E G 208) : ti_P xs (hm_12 h) ((208, 4, 101) :: ((208, 3, 115) :: ((208, 2, 111) :: ((208, 1, 111) :: ((208, 0, 103) :: E))))) G 209 := by
  unfold hm_12
  exact (ti_P.sP (ti_P.sI (ti_P.sI (ti_P.sI (ti_P.sI (ti_P.sI (ti_P.mk e) (by decide)) (by decide)) (by decide)) (by decide)) (by decide)))
set_option maxRecDepth 100000 in
theorem ti_hm_13 {xs : Nat → Int32} {h : fz_H} {E : List (Nat × Nat × Int32)} {G : List (Nat × Nat × Int64)} (e : ti_P xs h E G 209) : ti_P xs (hm_13 h) ((209, 3, 115) :: ((209, 2, 101) :: ((209, 1, 111) :: ((209, 0, 100) :: E)))) G 210 := by
  unfold hm_13
  exact (ti_P.sP (ti_P.sI (ti_P.sI (ti_P.sI (ti_P.sI (ti_P.mk e) (by decide)) (by decide)) (by decide)) (by decide)))
set_option maxRecDepth 100000 in
theorem ti_hm_14 {xs : Nat → Int32} {h : fz_H} {E : List (Nat × Nat × Int32)} {G : List (Nat × Nat × Int64)} (e : ti_P xs h E G 210) : ti_P xs (hm_14 h) ((210, 5, 115) :: ((210, 4, 116) :: ((210, 3, 104) :: ((210, 2, 103) :: ((210, 1, 105) :: ((210, 0, 102) :: E)))))) G 211 := by
  unfold hm_14
  exact (ti_P.sP (ti_P.sI (ti_P.sI (ti_P.sI (ti_P.sI (ti_P.sI (ti_P.sI (ti_P.mk e) (by decide)) (by decide)) (by decide)) (by decide)) (by decide)) (by decide)))
set_option maxRecDepth 100000 in
theorem ti_hm_15 {xs : Nat → Int32} {h : fz_H} {E : List (Nat × Nat × Int32)} {G : List (Nat × Nat × Int64)} (e : ti_P xs h E G 211) : ti_P xs (hm_15 h) ((211, 4, 115) :: ((211, 3, 121) :: ((211, 2, 97) :: ((211, 1, 116) :: ((211, 0, 115) :: E))))) G 212 := by
  unfold hm_15
  exact (ti_P.sP (ti_P.sI (ti_P.sI (ti_P.sI (ti_P.sI (ti_P.sI (ti_P.mk e) (by decide)) (by decide)) (by decide)) (by decide)) (by decide)))
set_option maxRecDepth 100000 in
theorem ti_hm_16 {xs : Nat → Int32} {h : fz_H} {E : List (Nat × Nat × Int32)} {G : List (Nat × Nat × Int64)} (e : ti_P xs h E G 212) : ti_P xs (hm_16 h) ((212, 3, 119) :: ((212, 2, 111) :: ((212, 1, 110) :: ((212, 0, 115) :: E)))) G 213 := by
  unfold hm_16
  exact (ti_P.sP (ti_P.sI (ti_P.sI (ti_P.sI (ti_P.sI (ti_P.mk e) (by decide)) (by decide)) (by decide)) (by decide)))
set_option maxRecDepth 100000 in
theorem ti_hm_17 {xs : Nat → Int32} {h : fz_H} {E : List (Nat × Nat × Int32)} {G : List (Nat × Nat × Int64)} (e : ti_P xs h E G 213) : ti_P xs (hm_17 h) ((213, 3, 114) :: ((213, 2, 97) :: ((213, 1, 101) :: ((213, 0, 121) :: E)))) G 214 := by
  unfold hm_17
  exact (ti_P.sP (ti_P.sI (ti_P.sI (ti_P.sI (ti_P.sI (ti_P.mk e) (by decide)) (by decide)) (by decide)) (by decide)))
set_option maxRecDepth 100000 in
theorem ti_hm_18 {xs : Nat → Int32} {h : fz_H} {E : List (Nat × Nat × Int32)} {G : List (Nat × Nat × Int64)} (e : ti_P xs h E G 214) : ti_P xs (hm_18 h) ((214, 3, 121) :: ((214, 2, 97) :: ((214, 1, 119) :: ((214, 0, 97) :: E)))) G 215 := by
  unfold hm_18
  exact (ti_P.sP (ti_P.sI (ti_P.sI (ti_P.sI (ti_P.sI (ti_P.mk e) (by decide)) (by decide)) (by decide)) (by decide)))
set_option maxRecDepth 100000 in
theorem ti_hm_19 {xs : Nat → Int32} {h : fz_H} {E : List (Nat × Nat × Int32)} {G : List (Nat × Nat × Int64)} (e : ti_P xs h E G 215) : ti_P xs (hm_19 h) ((215, 5, 115) :: ((215, 4, 116) :: ((215, 3, 115) :: ((215, 2, 101) :: ((215, 1, 117) :: ((215, 0, 103) :: E)))))) G 216 := by
  unfold hm_19
  exact (ti_P.sP (ti_P.sI (ti_P.sI (ti_P.sI (ti_P.sI (ti_P.sI (ti_P.sI (ti_P.mk e) (by decide)) (by decide)) (by decide)) (by decide)) (by decide)) (by decide)))
set_option maxRecDepth 100000 in
theorem ti_hm_20 {xs : Nat → Int32} {h : fz_H} {E : List (Nat × Nat × Int32)} {G : List (Nat × Nat × Int64)} (e : ti_P xs h E G 216) : ti_P xs (hm_20 h) ((216, 5, 114) :: ((216, 4, 101) :: ((216, 3, 98) :: ((216, 2, 109) :: ((216, 1, 117) :: ((216, 0, 110) :: E)))))) G 217 := by
  unfold hm_20
  exact (ti_P.sP (ti_P.sI (ti_P.sI (ti_P.sI (ti_P.sI (ti_P.sI (ti_P.sI (ti_P.mk e) (by decide)) (by decide)) (by decide)) (by decide)) (by decide)) (by decide)))
set_option maxRecDepth 100000 in
theorem ti_hm_21 {xs : Nat → Int32} {h : fz_H} {E : List (Nat × Nat × Int32)} {G : List (Nat × Nat × Int64)} (e : ti_P xs h E G 217) : ti_P xs (hm_21 h) ((217, 4, 115) :: ((217, 3, 101) :: ((217, 2, 118) :: ((217, 1, 105) :: ((217, 0, 108) :: E))))) G 218 := by
  unfold hm_21
  exact (ti_P.sP (ti_P.sI (ti_P.sI (ti_P.sI (ti_P.sI (ti_P.sI (ti_P.mk e) (by decide)) (by decide)) (by decide)) (by decide)) (by decide)))
set_option maxRecDepth 100000 in
theorem ti_hm_22 {xs : Nat → Int32} {h : fz_H} {E : List (Nat × Nat × Int32)} {G : List (Nat × Nat × Int64)} (e : ti_P xs h E G 218) : ti_P xs (hm_22 h) ((218, 3, 101) :: ((218, 2, 109) :: ((218, 1, 111) :: ((218, 0, 104) :: E)))) G 219 := by
  unfold hm_22
  exact (ti_P.sP (ti_P.sI (ti_P.sI (ti_P.sI (ti_P.sI (ti_P.mk e) (by decide)) (by decide)) (by decide)) (by decide)))
set_option maxRecDepth 100000 in
theorem ti_hm_23 {xs : Nat → Int32} {h : fz_H} {E : List (Nat × Nat × Int32)} {G : List (Nat × Nat × Int64)} (e : ti_P xs h E G 219) : ti_P xs (hm_23 h) ((219, 1, 114) :: ((219, 0, 111) :: E)) G 220 := by
  unfold hm_23
  exact (ti_P.sP (ti_P.sI (ti_P.sI (ti_P.mk e) (by decide)) (by decide)))
set_option maxRecDepth 100000 in
theorem ti_hm_24 {xs : Nat → Int32} {h : fz_H} {E : List (Nat × Nat × Int32)} {G : List (Nat × Nat × Int64)} (e : ti_P xs h E G 220) : ti_P xs (hm_24 h) ((220, 2, 100) :: ((220, 1, 110) :: ((220, 0, 97) :: E))) G 221 := by
  unfold hm_24
  exact (ti_P.sP (ti_P.sI (ti_P.sI (ti_P.sI (ti_P.mk e) (by decide)) (by decide)) (by decide)))
set_option maxRecDepth 100000 in
theorem ti_hm_25 {xs : Nat → Int32} {h : fz_H} {E : List (Nat × Nat × Int32)} {G : List (Nat × Nat × Int64)} (e : ti_P xs h E G 221) : ti_P xs (hm_25 h) ((221, 2, 116) :: ((221, 1, 111) :: ((221, 0, 110) :: E))) G 222 := by
  unfold hm_25
  exact (ti_P.sP (ti_P.sI (ti_P.sI (ti_P.sI (ti_P.mk e) (by decide)) (by decide)) (by decide)))
set_option maxRecDepth 100000 in
theorem ti_hm_26 {xs : Nat → Int32} {h : fz_H} {E : List (Nat × Nat × Int32)} {G : List (Nat × Nat × Int64)} (e : ti_P xs h E G 222) : ti_P xs (hm_26 h) ((222, 2, 108) :: ((222, 1, 108) :: ((222, 0, 97) :: E))) G 223 := by
  unfold hm_26
  exact (ti_P.sP (ti_P.sI (ti_P.sI (ti_P.sI (ti_P.mk e) (by decide)) (by decide)) (by decide)))
set_option maxRecDepth 100000 in
theorem ti_hm_27 {xs : Nat → Int32} {h : fz_H} {E : List (Nat × Nat × Int32)} {G : List (Nat × Nat × Int64)} (e : ti_P xs h E G 223) : ti_P xs (hm_27 h) ((223, 2, 110) :: ((223, 1, 105) :: ((223, 0, 109) :: E))) G 224 := by
  unfold hm_27
  exact (ti_P.sP (ti_P.sI (ti_P.sI (ti_P.sI (ti_P.mk e) (by decide)) (by decide)) (by decide)))
set_option maxRecDepth 100000 in
theorem ti_hm_28 {xs : Nat → Int32} {h : fz_H} {E : List (Nat × Nat × Int32)} {G : List (Nat × Nat × Int64)} (e : ti_P xs h E G 224) : ti_P xs (hm_28 h) ((224, 2, 120) :: ((224, 1, 97) :: ((224, 0, 109) :: E))) G 225 := by
  unfold hm_28
  exact (ti_P.sP (ti_P.sI (ti_P.sI (ti_P.sI (ti_P.mk e) (by decide)) (by decide)) (by decide)))
set_option maxRecDepth 100000 in
theorem ti_hm_29 {xs : Nat → Int32} {h : fz_H} {E : List (Nat × Nat × Int32)} {G : List (Nat × Nat × Int64)} (e : ti_P xs h E G 225) : ti_P xs (hm_29 h) E G 226 := by
  unfold hm_29
  exact (ti_P.sP (ti_P.mk e))
set_option maxRecDepth 100000 in
theorem ti_hm_30 {xs : Nat → Int32} {h : fz_H} {E : List (Nat × Nat × Int32)} {G : List (Nat × Nat × Int64)} (e : ti_P xs h E G 226) : ti_P xs (hm_30 h) E G 227 := by
  unfold hm_30
  exact (ti_P.sP (ti_P.mk e))
set_option maxRecDepth 100000 in
theorem ti_hm_31 {xs : Nat → Int32} {h : fz_H} {E : List (Nat × Nat × Int32)} {G : List (Nat × Nat × Int64)} (e : ti_P xs h E G 227) : ti_P xs (hm_31 h) E G 228 := by
  unfold hm_31
  exact (ti_P.sP (ti_P.mk e))
set_option maxRecDepth 100000 in
theorem ti_hm_32 {xs : Nat → Int32} {h : fz_H} {E : List (Nat × Nat × Int32)} {G : List (Nat × Nat × Int64)} (e : ti_P xs h E G 228) : ti_P xs (hm_32 h) E G 229 := by
  unfold hm_32
  exact (ti_P.sP (ti_P.mk e))
set_option maxRecDepth 100000 in
theorem ti_hm_33 {xs : Nat → Int32} {h : fz_H} {E : List (Nat × Nat × Int32)} {G : List (Nat × Nat × Int64)} (e : ti_P xs h E G 229) : ti_P xs (hm_33 h) ((229, 9, (-1)) :: ((229, 8, (-1)) :: ((229, 7, (-1)) :: ((229, 6, (-1)) :: ((229, 5, (-1)) :: ((229, 4, (-1)) :: ((229, 3, (-1)) :: ((229, 2, (-1)) :: ((229, 1, (-1)) :: ((229, 0, (-1)) :: E)))))))))) G 230 := by
  unfold hm_33
  exact (ti_P.sP (ti_P.sI (ti_P.sI (ti_P.sI (ti_P.sI (ti_P.sI (ti_P.sI (ti_P.sI (ti_P.sI (ti_P.sI (ti_P.sI (ti_P.mk e) (by decide)) (by decide)) (by decide)) (by decide)) (by decide)) (by decide)) (by decide)) (by decide)) (by decide)) (by decide)))
set_option maxRecDepth 100000 in
theorem ti_hm_34 {xs : Nat → Int32} {h : fz_H} {E : List (Nat × Nat × Int32)} {G : List (Nat × Nat × Int64)} (e : ti_P xs h E G 230) : ti_P xs (hm_34 h) E G 231 := by
  unfold hm_34
  exact (ti_P.sP (ti_P.mk e))
set_option maxRecDepth 100000 in
theorem ti_hm_35 {xs : Nat → Int32} {h : fz_H} {E : List (Nat × Nat × Int32)} {G : List (Nat × Nat × Int64)} (e : ti_P xs h E G 231) : ti_P xs (hm_35 h) E G 232 := by
  unfold hm_35
  exact (ti_P.sP (ti_P.mk e))
set_option maxRecDepth 100000 in
theorem ti_hm_36 {xs : Nat → Int32} {h : fz_H} {E : List (Nat × Nat × Int32)} {G : List (Nat × Nat × Int64)} (e : ti_P xs h E G 232) : ti_P xs (hm_36 h) E G 233 := by
  unfold hm_36
  exact (ti_P.sP (ti_P.mk e))
set_option maxRecDepth 100000 in
theorem ti_hm_37 {xs : Nat → Int32} {h : fz_H} {E : List (Nat × Nat × Int32)} {G : List (Nat × Nat × Int64)} (e : ti_P xs h E G 233) : ti_P xs (hm_37 h) E G 234 := by
  unfold hm_37
  exact (ti_P.sP (ti_P.mk e))
set_option maxRecDepth 100000 in
theorem ti_hm_38 {xs : Nat → Int32} {h : fz_H} {E : List (Nat × Nat × Int32)} {G : List (Nat × Nat × Int64)} (e : ti_P xs h E G 234) : ti_P xs (hm_38 h) E G 235 := by
  unfold hm_38
  exact (ti_P.sP (ti_P.mk e))
set_option maxRecDepth 100000 in
theorem ti_hm_39 {xs : Nat → Int32} {h : fz_H} {E : List (Nat × Nat × Int32)} {G : List (Nat × Nat × Int64)} (e : ti_P xs h E G 235) : ti_P xs (hm_39 h) E G 236 := by
  unfold hm_39
  exact (ti_P.sP (ti_P.mk e))
set_option maxRecDepth 100000 in
theorem ti_hm_40 {xs : Nat → Int32} {h : fz_H} {E : List (Nat × Nat × Int32)} {G : List (Nat × Nat × Int64)} (e : ti_P xs h E G 236) : ti_P xs (hm_40 h) E G 237 := by
  unfold hm_40
  exact (ti_P.sP (ti_P.mk e))
set_option maxRecDepth 100000 in
theorem ti_hm_41 {xs : Nat → Int32} {h : fz_H} {E : List (Nat × Nat × Int32)} {G : List (Nat × Nat × Int64)} (e : ti_P xs h E G 237) : ti_P xs (hm_41 h) E G 238 := by
  unfold hm_41
  exact (ti_P.sP (ti_P.mk e))
set_option maxRecDepth 100000 in
theorem ti_hm_42 {xs : Nat → Int32} {h : fz_H} {E : List (Nat × Nat × Int32)} {G : List (Nat × Nat × Int64)} (e : ti_P xs h E G 238) : ti_P xs (hm_42 h) E G 239 := by
  unfold hm_42
  exact (ti_P.sP (ti_P.mk e))
set_option maxRecDepth 100000 in
theorem ti_hm_43 {xs : Nat → Int32} {h : fz_H} {E : List (Nat × Nat × Int32)} {G : List (Nat × Nat × Int64)} (e : ti_P xs h E G 239) : ti_P xs (hm_43 h) E G 240 := by
  unfold hm_43
  exact (ti_P.sP (ti_P.mk e))
set_option maxRecDepth 100000 in
theorem ti_hm_44 {xs : Nat → Int32} {h : fz_H} {E : List (Nat × Nat × Int32)} {G : List (Nat × Nat × Int64)} (e : ti_P xs h E G 240) : ti_P xs (hm_44 h) E G 241 := by
  unfold hm_44
  exact (ti_P.sP (ti_P.mk e))
set_option maxRecDepth 100000 in
theorem ti_hm_45 {xs : Nat → Int32} {h : fz_H} {E : List (Nat × Nat × Int32)} {G : List (Nat × Nat × Int64)} (e : ti_P xs h E G 241) : ti_P xs (hm_45 h) E G 242 := by
  unfold hm_45
  exact (ti_P.sP (ti_P.mk e))
set_option maxRecDepth 100000 in
theorem ti_hm_46 {xs : Nat → Int32} {h : fz_H} {E : List (Nat × Nat × Int32)} {G : List (Nat × Nat × Int64)} (e : ti_P xs h E G 242) : ti_P xs (hm_46 h) E G 243 := by
  unfold hm_46
  exact (ti_P.sP (ti_P.mk e))
set_option maxRecDepth 100000 in
theorem ti_hm_47 {xs : Nat → Int32} {h : fz_H} {E : List (Nat × Nat × Int32)} {G : List (Nat × Nat × Int64)} (e : ti_P xs h E G 243) : ti_P xs (hm_47 h) E G 244 := by
  unfold hm_47
  exact (ti_P.sP (ti_P.mk e))
set_option maxRecDepth 100000 in
theorem ti_hm_48 {xs : Nat → Int32} {h : fz_H} {E : List (Nat × Nat × Int32)} {G : List (Nat × Nat × Int64)} (e : ti_P xs h E G 244) : ti_P xs (hm_48 h) E ((196, 74, 1) :: G) 244 := by
  unfold hm_48
  exact (ti_P.sL e (by decide))
set_option maxRecDepth 100000 in
theorem ti_hm_49 {xs : Nat → Int32} {h : fz_H} {E : List (Nat × Nat × Int32)} {G : List (Nat × Nat × Int64)} (e : ti_P xs h E G 244) : ti_P xs (hm_49 h) ((244, 4, 116) :: ((244, 3, 115) :: ((244, 2, 114) :: ((244, 1, 105) :: ((244, 0, 102) :: E))))) G 245 := by
  unfold hm_49
  exact (ti_P.sP (ti_P.sI (ti_P.sI (ti_P.sI (ti_P.sI (ti_P.sI (ti_P.mk e) (by decide)) (by decide)) (by decide)) (by decide)) (by decide)))
set_option maxRecDepth 100000 in
theorem ti_hm_50 {xs : Nat → Int32} {h : fz_H} {E : List (Nat × Nat × Int32)} {G : List (Nat × Nat × Int64)} (e : ti_P xs h E G 245) : ti_P xs (hm_50 h) ((245, 3, 116) :: ((245, 2, 115) :: ((245, 1, 97) :: ((245, 0, 108) :: E)))) G 246 := by
  unfold hm_50
  exact (ti_P.sP (ti_P.sI (ti_P.sI (ti_P.sI (ti_P.sI (ti_P.mk e) (by decide)) (by decide)) (by decide)) (by decide)))
set_option maxRecDepth 100000 in
theorem ti_hm_51 {xs : Nat → Int32} {h : fz_H} {E : List (Nat × Nat × Int32)} {G : List (Nat × Nat × Int64)} (e : ti_P xs h E G 246) : ti_P xs (hm_51 h) ((246, 4, 110) :: ((246, 3, 101) :: ((246, 2, 116) :: ((246, 1, 102) :: ((246, 0, 111) :: E))))) G 247 := by
  unfold hm_51
  exact (ti_P.sP (ti_P.sI (ti_P.sI (ti_P.sI (ti_P.sI (ti_P.sI (ti_P.mk e) (by decide)) (by decide)) (by decide)) (by decide)) (by decide)))
set_option maxRecDepth 100000 in
theorem ti_hm_52 {xs : Nat → Int32} {h : fz_H} {E : List (Nat × Nat × Int32)} {G : List (Nat × Nat × Int64)} (e : ti_P xs h E G 247) : ti_P xs (hm_52 h) ((247, 4, 108) :: ((247, 3, 97) :: ((247, 2, 116) :: ((247, 1, 111) :: ((247, 0, 116) :: E))))) G 248 := by
  unfold hm_52
  exact (ti_P.sP (ti_P.sI (ti_P.sI (ti_P.sI (ti_P.sI (ti_P.sI (ti_P.mk e) (by decide)) (by decide)) (by decide)) (by decide)) (by decide)))
set_option maxRecDepth 100000 in
theorem ti_hm_53 {xs : Nat → Int32} {h : fz_H} {E : List (Nat × Nat × Int32)} {G : List (Nat × Nat × Int64)} (e : ti_P xs h E G 248) : ti_P xs (hm_53 h) ((248, 3, 116) :: ((248, 2, 115) :: ((248, 1, 111) :: ((248, 0, 109) :: E)))) G 249 := by
  unfold hm_53
  exact (ti_P.sP (ti_P.sI (ti_P.sI (ti_P.sI (ti_P.sI (ti_P.mk e) (by decide)) (by decide)) (by decide)) (by decide)))
set_option maxRecDepth 100000 in
theorem ti_hm_54 {xs : Nat → Int32} {h : fz_H} {E : List (Nat × Nat × Int32)} {G : List (Nat × Nat × Int64)} (e : ti_P xs h E G 249) : ti_P xs (hm_54 h) ((249, 4, 116) :: ((249, 3, 115) :: ((249, 2, 97) :: ((249, 1, 101) :: ((249, 0, 108) :: E))))) G 250 := by
  unfold hm_54
  exact (ti_P.sP (ti_P.sI (ti_P.sI (ti_P.sI (ti_P.sI (ti_P.sI (ti_P.mk e) (by decide)) (by decide)) (by decide)) (by decide)) (by decide)))
set_option maxRecDepth 100000 in
theorem ti_hm_55 {xs : Nat → Int32} {h : fz_H} {E : List (Nat × Nat × Int32)} {G : List (Nat × Nat × Int64)} (e : ti_P xs h E G 250) : ti_P xs (hm_55 h) ((250, 2, 116) :: ((250, 1, 111) :: ((250, 0, 110) :: E))) G 251 := by
  unfold hm_55
  exact (ti_P.sP (ti_P.sI (ti_P.sI (ti_P.sI (ti_P.mk e) (by decide)) (by decide)) (by decide)))
set_option maxRecDepth 100000 in
theorem ti_hm_56 {xs : Nat → Int32} {h : fz_H} {E : List (Nat × Nat × Int32)} {G : List (Nat × Nat × Int64)} (e : ti_P xs h E G 251) : ti_P xs (hm_56 h) ((251, 2, 100) :: ((251, 1, 110) :: ((251, 0, 97) :: E))) G 252 := by
  unfold hm_56
  exact (ti_P.sP (ti_P.sI (ti_P.sI (ti_P.sI (ti_P.mk e) (by decide)) (by decide)) (by decide)))
set_option maxRecDepth 100000 in
theorem ti_hm_57 {xs : Nat → Int32} {h : fz_H} {E : List (Nat × Nat × Int32)} {G : List (Nat × Nat × Int64)} (e : ti_P xs h E G 252) : ti_P xs (hm_57 h) ((252, 1, 114) :: ((252, 0, 111) :: E)) G 253 := by
  unfold hm_57
  exact (ti_P.sP (ti_P.sI (ti_P.sI (ti_P.mk e) (by decide)) (by decide)))
set_option maxRecDepth 100000 in
theorem ti_hm_58 {xs : Nat → Int32} {h : fz_H} {E : List (Nat × Nat × Int32)} {G : List (Nat × Nat × Int64)} (e : ti_P xs h E G 253) : ti_P xs (hm_58 h) ((253, 2, 108) :: ((253, 1, 108) :: ((253, 0, 97) :: E))) G 254 := by
  unfold hm_58
  exact (ti_P.sP (ti_P.sI (ti_P.sI (ti_P.sI (ti_P.mk e) (by decide)) (by decide)) (by decide)))
set_option maxRecDepth 100000 in
theorem ti_hm_59 {xs : Nat → Int32} {h : fz_H} {E : List (Nat × Nat × Int32)} {G : List (Nat × Nat × Int64)} (e : ti_P xs h E G 254) : ti_P xs (hm_59 h) ((254, 2, 110) :: ((254, 1, 105) :: ((254, 0, 109) :: E))) G 255 := by
  unfold hm_59
  exact (ti_P.sP (ti_P.sI (ti_P.sI (ti_P.sI (ti_P.mk e) (by decide)) (by decide)) (by decide)))
set_option maxRecDepth 100000 in
theorem ti_hm_60 {xs : Nat → Int32} {h : fz_H} {E : List (Nat × Nat × Int32)} {G : List (Nat × Nat × Int64)} (e : ti_P xs h E G 255) : ti_P xs (hm_60 h) ((255, 2, 120) :: ((255, 1, 97) :: ((255, 0, 109) :: E))) G 256 := by
  unfold hm_60
  exact (ti_P.sP (ti_P.sI (ti_P.sI (ti_P.sI (ti_P.mk e) (by decide)) (by decide)) (by decide)))
set_option maxRecDepth 100000 in
theorem ti_hm_61 {xs : Nat → Int32} {h : fz_H} {E : List (Nat × Nat × Int32)} {G : List (Nat × Nat × Int64)} (e : ti_P xs h E G 256) : ti_P xs (hm_61 h) ((256, 6, 116) :: ((256, 5, 115) :: ((256, 4, 101) :: ((256, 3, 118) :: ((256, 2, 114) :: ((256, 1, 97) :: ((256, 0, 104) :: E))))))) G 257 := by
  unfold hm_61
  exact (ti_P.sP (ti_P.sI (ti_P.sI (ti_P.sI (ti_P.sI (ti_P.sI (ti_P.sI (ti_P.sI (ti_P.mk e) (by decide)) (by decide)) (by decide)) (by decide)) (by decide)) (by decide)) (by decide)))
set_option maxRecDepth 100000 in
theorem ti_hm_62 {xs : Nat → Int32} {h : fz_H} {E : List (Nat × Nat × Int32)} {G : List (Nat × Nat × Int64)} (e : ti_P xs h E G 257) : ti_P xs (hm_62 h) ((257, 6, 108) :: ((257, 5, 101) :: ((257, 4, 114) :: ((257, 3, 114) :: ((257, 2, 97) :: ((257, 1, 117) :: ((257, 0, 113) :: E))))))) G 258 := by
  unfold hm_62
  exact (ti_P.sP (ti_P.sI (ti_P.sI (ti_P.sI (ti_P.sI (ti_P.sI (ti_P.sI (ti_P.sI (ti_P.mk e) (by decide)) (by decide)) (by decide)) (by decide)) (by decide)) (by decide)) (by decide)))
set_option maxRecDepth 100000 in
theorem ti_hm_63 {xs : Nat → Int32} {h : fz_H} {E : List (Nat × Nat × Int32)} {G : List (Nat × Nat × Int64)} (e : ti_P xs h E G 258) : ti_P xs (hm_63 h) ((258, 3, 114) :: ((258, 2, 97) :: ((258, 1, 101) :: ((258, 0, 121) :: E)))) G 259 := by
  unfold hm_63
  exact (ti_P.sP (ti_P.sI (ti_P.sI (ti_P.sI (ti_P.sI (ti_P.mk e) (by decide)) (by decide)) (by decide)) (by decide)))
set_option maxRecDepth 100000 in
theorem ti_hm_64 {xs : Nat → Int32} {h : fz_H} {E : List (Nat × Nat × Int32)} {G : List (Nat × Nat × Int64)} (e : ti_P xs h E G 259) : ti_P xs (hm_64 h) ((259, 3, 115) :: ((259, 2, 116) :: ((259, 1, 105) :: ((259, 0, 119) :: E)))) G 260 := by
  unfold hm_64
  exact (ti_P.sP (ti_P.sI (ti_P.sI (ti_P.sI (ti_P.sI (ti_P.mk e) (by decide)) (by decide)) (by decide)) (by decide)))
set_option maxRecDepth 100000 in
theorem ti_hm_65 {xs : Nat → Int32} {h : fz_H} {E : List (Nat × Nat × Int32)} {G : List (Nat × Nat × Int64)} (e : ti_P xs h E G 260) : ti_P xs (hm_65 h) ((260, 3, 104) :: ((260, 2, 116) :: ((260, 1, 97) :: ((260, 0, 111) :: E)))) G 261 := by
  unfold hm_65
  exact (ti_P.sP (ti_P.sI (ti_P.sI (ti_P.sI (ti_P.sI (ti_P.mk e) (by decide)) (by decide)) (by decide)) (by decide)))
set_option maxRecDepth 100000 in
theorem ti_hm_66 {xs : Nat → Int32} {h : fz_H} {E : List (Nat × Nat × Int32)} {G : List (Nat × Nat × Int64)} (e : ti_P xs h E G 261) : ti_P xs (hm_66 h) ((261, 4, 114) :: ((261, 3, 101) :: ((261, 2, 101) :: ((261, 1, 104) :: ((261, 0, 99) :: E))))) G 262 := by
  unfold hm_66
  exact (ti_P.sP (ti_P.sI (ti_P.sI (ti_P.sI (ti_P.sI (ti_P.sI (ti_P.mk e) (by decide)) (by decide)) (by decide)) (by decide)) (by decide)))
set_option maxRecDepth 100000 in
theorem ti_hm_67 {xs : Nat → Int32} {h : fz_H} {E : List (Nat × Nat × Int32)} {G : List (Nat × Nat × Int64)} (e : ti_P xs h E G 262) : ti_P xs (hm_67 h) ((262, 3, 121) :: ((262, 2, 97) :: ((262, 1, 119) :: ((262, 0, 97) :: E)))) G 263 := by
  unfold hm_67
  exact (ti_P.sP (ti_P.sI (ti_P.sI (ti_P.sI (ti_P.sI (ti_P.mk e) (by decide)) (by decide)) (by decide)) (by decide)))
set_option maxRecDepth 100000 in
theorem ti_hm_68 {xs : Nat → Int32} {h : fz_H} {E : List (Nat × Nat × Int32)} {G : List (Nat × Nat × Int64)} (e : ti_P xs h E G 263) : ti_P xs (hm_68 h) ((263, 5, 115) :: ((263, 4, 116) :: ((263, 3, 115) :: ((263, 2, 101) :: ((263, 1, 117) :: ((263, 0, 103) :: E)))))) G 264 := by
  unfold hm_68
  exact (ti_P.sP (ti_P.sI (ti_P.sI (ti_P.sI (ti_P.sI (ti_P.sI (ti_P.sI (ti_P.mk e) (by decide)) (by decide)) (by decide)) (by decide)) (by decide)) (by decide)))
set_option maxRecDepth 100000 in
theorem ti_hm_69 {xs : Nat → Int32} {h : fz_H} {E : List (Nat × Nat × Int32)} {G : List (Nat × Nat × Int64)} (e : ti_P xs h E G 264) : ti_P xs (hm_69 h) ((264, 5, 114) :: ((264, 4, 101) :: ((264, 3, 98) :: ((264, 2, 109) :: ((264, 1, 117) :: ((264, 0, 110) :: E)))))) G 265 := by
  unfold hm_69
  exact (ti_P.sP (ti_P.sI (ti_P.sI (ti_P.sI (ti_P.sI (ti_P.sI (ti_P.sI (ti_P.mk e) (by decide)) (by decide)) (by decide)) (by decide)) (by decide)) (by decide)))
set_option maxRecDepth 100000 in
theorem ti_hm_70 {xs : Nat → Int32} {h : fz_H} {E : List (Nat × Nat × Int32)} {G : List (Nat × Nat × Int64)} (e : ti_P xs h E G 265) : ti_P xs (hm_70 h) ((265, 4, 115) :: ((265, 3, 101) :: ((265, 2, 118) :: ((265, 1, 105) :: ((265, 0, 108) :: E))))) G 266 := by
  unfold hm_70
  exact (ti_P.sP (ti_P.sI (ti_P.sI (ti_P.sI (ti_P.sI (ti_P.sI (ti_P.mk e) (by decide)) (by decide)) (by decide)) (by decide)) (by decide)))
set_option maxRecDepth 100000 in
theorem ti_hm_71 {xs : Nat → Int32} {h : fz_H} {E : List (Nat × Nat × Int32)} {G : List (Nat × Nat × Int64)} (e : ti_P xs h E G 266) : ti_P xs (hm_71 h) ((266, 3, 101) :: ((266, 2, 109) :: ((266, 1, 111) :: ((266, 0, 104) :: E)))) G 267 := by
  unfold hm_71
  exact (ti_P.sP (ti_P.sI (ti_P.sI (ti_P.sI (ti_P.sI (ti_P.mk e) (by decide)) (by decide)) (by decide)) (by decide)))
set_option maxRecDepth 100000 in
theorem ti_hm_72 {xs : Nat → Int32} {h : fz_H} {E : List (Nat × Nat × Int32)} {G : List (Nat × Nat × Int64)} (e : ti_P xs h E G 267) : ti_P xs (hm_72 h) ((267, 6, 116) :: ((267, 5, 115) :: ((267, 4, 101) :: ((267, 3, 118) :: ((267, 2, 114) :: ((267, 1, 97) :: ((267, 0, 104) :: E))))))) G 268 := by
  unfold hm_72
  exact (ti_P.sP (ti_P.sI (ti_P.sI (ti_P.sI (ti_P.sI (ti_P.sI (ti_P.sI (ti_P.sI (ti_P.mk e) (by decide)) (by decide)) (by decide)) (by decide)) (by decide)) (by decide)) (by decide)))
set_option maxRecDepth 100000 in
theorem ti_hm_73 {xs : Nat → Int32} {h : fz_H} {E : List (Nat × Nat × Int32)} {G : List (Nat × Nat × Int64)} (e : ti_P xs h E G 268) : ti_P xs (hm_73 h) ((268, 3, 115) :: ((268, 2, 101) :: ((268, 1, 111) :: ((268, 0, 100) :: E)))) G 269 := by
  unfold hm_73
  exact (ti_P.sP (ti_P.sI (ti_P.sI (ti_P.sI (ti_P.sI (ti_P.mk e) (by decide)) (by decide)) (by decide)) (by decide)))
set_option maxRecDepth 100000 in
theorem ti_hm_74 {xs : Nat → Int32} {h : fz_H} {E : List (Nat × Nat × Int32)} {G : List (Nat × Nat × Int64)} (e : ti_P xs h E G 269) : ti_P xs (hm_74 h) E G 270 := by
  unfold hm_74
  exact (ti_P.sP (ti_P.mk e))
set_option maxRecDepth 100000 in
theorem ti_hm_75 {xs : Nat → Int32} {h : fz_H} {E : List (Nat × Nat × Int32)} {G : List (Nat × Nat × Int64)} (e : ti_P xs h E G 270) : ti_P xs (hm_75 h) E G 271 := by
  unfold hm_75
  exact (ti_P.sP (ti_P.mk e))
set_option maxRecDepth 100000 in
theorem ti_hm_76 {xs : Nat → Int32} {h : fz_H} {E : List (Nat × Nat × Int32)} {G : List (Nat × Nat × Int64)} (e : ti_P xs h E G 271) : ti_P xs (hm_76 h) E G 272 := by
  unfold hm_76
  exact (ti_P.sP (ti_P.mk e))
set_option maxRecDepth 100000 in
theorem ti_hm_77 {xs : Nat → Int32} {h : fz_H} {E : List (Nat × Nat × Int32)} {G : List (Nat × Nat × Int64)} (e : ti_P xs h E G 272) : ti_P xs (hm_77 h) E G 273 := by
  unfold hm_77
  exact (ti_P.sP (ti_P.mk e))
set_option maxRecDepth 100000 in
theorem ti_hc_X12_init_196 {xs : Nat → Int32} {h : fz_H} {E : List (Nat × Nat × Int32)} {G : List (Nat × Nat × Int64)} (e : ti_P xs h E G 197) : ti_P xs (hc_X12_init_196 h) ((268, 3, 115) :: ((268, 2, 101) :: ((268, 1, 111) :: ((268, 0, 100) :: ((267, 6, 116) :: ((267, 5, 115) :: ((267, 4, 101) :: ((267, 3, 118) :: ((267, 2, 114) :: ((267, 1, 97) :: ((267, 0, 104) :: ((266, 3, 101) :: ((266, 2, 109) :: ((266, 1, 111) :: ((266, 0, 104) :: ((265, 4, 115) :: ((265, 3, 101) :: ((265, 2, 118) :: ((265, 1, 105) :: ((265, 0, 108) :: ((264, 5, 114) :: ((264, 4, 101) :: ((264, 3, 98) :: ((264, 2, 109) :: ((264, 1, 117) :: ((264, 0, 110) :: ((263, 5, 115) :: ((263, 4, 116) :: ((263, 3, 115) :: ((263, 2, 101) :: ((263, 1, 117) :: ((263, 0, 103) :: ((262, 3, 121) :: ((262, 2, 97) :: ((262, 1, 119) :: ((262, 0, 97) :: ((261, 4, 114) :: ((261, 3, 101) :: ((261, 2, 101) :: ((261, 1, 104) :: ((261, 0, 99) :: ((260, 3, 104) :: ((260, 2, 116) :: ((260, 1, 97) :: ((260, 0, 111) :: ((259, 3, 115) :: ((259, 2, 116) :: ((259, 1, 105) :: ((259, 0, 119) :: ((258, 3, 114) :: ((258, 2, 97) :: ((258, 1, 101) :: ((258, 0, 121) :: ((257, 6, 108) :: ((257, 5, 101) :: ((257, 4, 114) :: ((257, 3, 114) :: ((257, 2, 97) :: ((257, 1, 117) :: ((257, 0, 113) :: ((256, 6, 116) :: ((256, 5, 115) :: ((256, 4, 101) :: ((256, 3, 118) :: ((256, 2, 114) :: ((256, 1, 97) :: ((256, 0, 104) :: ((255, 2, 120) :: ((255, 1, 97) :: ((255, 0, 109) :: ((254, 2, 110) :: ((254, 1, 105) :: ((254, 0, 109) :: ((253, 2, 108) :: ((253, 1, 108) :: ((253, 0, 97) :: ((252, 1, 114) :: ((252, 0, 111) :: ((251, 2, 100) :: ((251, 1, 110) :: ((251, 0, 97) :: ((250, 2, 116) :: ((250, 1, 111) :: ((250, 0, 110) :: ((249, 4, 116) :: ((249, 3, 115) :: ((249, 2, 97) :: ((249, 1, 101) :: ((249, 0, 108) :: ((248, 3, 116) :: ((248, 2, 115) :: ((248, 1, 111) :: ((248, 0, 109) :: ((247, 4, 108) :: ((247, 3, 97) :: ((247, 2, 116) :: ((247, 1, 111) :: ((247, 0, 116) :: ((246, 4, 110) :: ((246, 3, 101) :: ((246, 2, 116) :: ((246, 1, 102) :: ((246, 0, 111) :: ((245, 3, 116) :: ((245, 2, 115) :: ((245, 1, 97) :: ((245, 0, 108) :: ((244, 4, 116) :: ((244, 3, 115) :: ((244, 2, 114) :: ((244, 1, 105) :: ((244, 0, 102) :: ((229, 9, (-1)) :: ((229, 8, (-1)) :: ((229, 7, (-1)) :: ((229, 6, (-1)) :: ((229, 5, (-1)) :: ((229, 4, (-1)) :: ((229, 3, (-1)) :: ((229, 2, (-1)) :: ((229, 1, (-1)) :: ((229, 0, (-1)) :: ((224, 2, 120) :: ((224, 1, 97) :: ((224, 0, 109) :: ((223, 2, 110) :: ((223, 1, 105) :: ((223, 0, 109) :: ((222, 2, 108) :: ((222, 1, 108) :: ((222, 0, 97) :: ((221, 2, 116) :: ((221, 1, 111) :: ((221, 0, 110) :: ((220, 2, 100) :: ((220, 1, 110) :: ((220, 0, 97) :: ((219, 1, 114) :: ((219, 0, 111) :: ((218, 3, 101) :: ((218, 2, 109) :: ((218, 1, 111) :: ((218, 0, 104) :: ((217, 4, 115) :: ((217, 3, 101) :: ((217, 2, 118) :: ((217, 1, 105) :: ((217, 0, 108) :: ((216, 5, 114) :: ((216, 4, 101) :: ((216, 3, 98) :: ((216, 2, 109) :: ((216, 1, 117) :: ((216, 0, 110) :: ((215, 5, 115) :: ((215, 4, 116) :: ((215, 3, 115) :: ((215, 2, 101) :: ((215, 1, 117) :: ((215, 0, 103) :: ((214, 3, 121) :: ((214, 2, 97) :: ((214, 1, 119) :: ((214, 0, 97) :: ((213, 3, 114) :: ((213, 2, 97) :: ((213, 1, 101) :: ((213, 0, 121) :: ((212, 3, 119) :: ((212, 2, 111) :: ((212, 1, 110) :: ((212, 0, 115) :: ((211, 4, 115) :: ((211, 3, 121) :: ((211, 2, 97) :: ((211, 1, 116) :: ((211, 0, 115) :: ((210, 5, 115) :: ((210, 4, 116) :: ((210, 3, 104) :: ((210, 2, 103) :: ((210, 1, 105) :: ((210, 0, 102) :: ((209, 3, 115) :: ((209, 2, 101) :: ((209, 1, 111) :: ((209, 0, 100) :: ((208, 4, 101) :: ((208, 3, 115) :: ((208, 2, 111) :: ((208, 1, 111) :: ((208, 0, 103) :: ((207, 4, 115) :: ((207, 3, 100) :: ((207, 2, 110) :: ((207, 1, 101) :: ((207, 0, 115) :: ((206, 4, 114) :: ((206, 3, 101) :: ((206, 2, 101) :: ((206, 1, 104) :: ((206, 0, 99) :: ((205, 3, 104) :: ((205, 2, 116) :: ((205, 1, 97) :: ((205, 0, 111) :: ((204, 3, 115) :: ((204, 2, 116) :: ((204, 1, 105) :: ((204, 0, 119) :: ((203, 1, 102) :: ((203, 0, 111) :: ((202, 5, 110) :: ((202, 4, 111) :: ((202, 3, 115) :: ((202, 2, 114) :: ((202, 1, 101) :: ((202, 0, 112) :: ((201, 6, 101) :: ((201, 5, 103) :: ((201, 4, 97) :: ((201, 3, 108) :: ((201, 2, 108) :: ((201, 1, 105) :: ((201, 0, 118) :: ((200, 6, 108) :: ((200, 5, 101) :: ((200, 4, 114) :: ((200, 3, 114) :: ((200, 2, 97) :: ((200, 1, 117) :: ((200, 0, 113) :: ((199, 6, 116) :: ((199, 5, 115) :: ((199, 4, 101) :: ((199, 3, 118) :: ((199, 2, 114) :: ((199, 1, 97) :: ((199, 0, 104) :: ((196, 8, (-1)) :: E)))))))))))))))))))))))))))))))))))))))))))))))))))))))))))))))))))))))))))))))))))))))))))))))))))))))))))))))))))))))))))))))))))))))))))))))))))))))))))))))))))))))))))))))))))))))))))))))))))))))))))))))))))))))))))))))))))))))))))))))) ((196, 74, 1) :: G) 273 := by
  unfold hc_X12_init_196
  exact (ti_hm_77 (ti_hm_76 (ti_hm_75 (ti_hm_74 (ti_hm_73 (ti_hm_72 (ti_hm_71 (ti_hm_70 (ti_hm_69 (ti_hm_68 (ti_hm_67 (ti_hm_66 (ti_hm_65 (ti_hm_64 (ti_hm_63 (ti_hm_62 (ti_hm_61 (ti_hm_60 (ti_hm_59 (ti_hm_58 (ti_hm_57 (ti_hm_56 (ti_hm_55 (ti_hm_54 (ti_hm_53 (ti_hm_52 (ti_hm_51 (ti_hm_50 (ti_hm_49 (ti_hm_48 (ti_hm_47 (ti_hm_46 (ti_hm_45 (ti_hm_44 (ti_hm_43 (ti_hm_42 (ti_hm_41 (ti_hm_40 (ti_hm_39 (ti_hm_38 (ti_hm_37 (ti_hm_36 (ti_hm_35 (ti_hm_34 (ti_hm_33 (ti_hm_32 (ti_hm_31 (ti_hm_30 (ti_hm_29 (ti_hm_28 (ti_hm_27 (ti_hm_26 (ti_hm_25 (ti_hm_24 (ti_hm_23 (ti_hm_22 (ti_hm_21 (ti_hm_20 (ti_hm_19 (ti_hm_18 (ti_hm_17 (ti_hm_16 (ti_hm_15 (ti_hm_14 (ti_hm_13 (ti_hm_12 (ti_hm_11 (ti_hm_10 (ti_hm_9 (ti_hm_8 (ti_hm_7 (ti_hm_6 (ti_hm_5 (ti_hm_4 (ti_hm_3 (ti_hm_2 (ti_hm_1 (ti_hm_0 e))))))))))))))))))))))))))))))))))))))))))))))))))))))))))))))))))))))))))))))
set_option maxRecDepth 100000 in
def ti_F : List (Nat × Nat × Int32) := ((268, 3, 115) :: ((268, 2, 101) :: ((268, 1, 111) :: ((268, 0, 100) :: ((267, 6, 116) :: ((267, 5, 115) :: ((267, 4, 101) :: ((267, 3, 118) :: ((267, 2, 114) :: ((267, 1, 97) :: ((267, 0, 104) :: ((266, 3, 101) :: ((266, 2, 109) :: ((266, 1, 111) :: ((266, 0, 104) :: ((265, 4, 115) :: ((265, 3, 101) :: ((265, 2, 118) :: ((265, 1, 105) :: ((265, 0, 108) :: ((264, 5, 114) :: ((264, 4, 101) :: ((264, 3, 98) :: ((264, 2, 109) :: ((264, 1, 117) :: ((264, 0, 110) :: ((263, 5, 115) :: ((263, 4, 116) :: ((263, 3, 115) :: ((263, 2, 101) :: ((263, 1, 117) :: ((263, 0, 103) :: ((262, 3, 121) :: ((262, 2, 97) :: ((262, 1, 119) :: ((262, 0, 97) :: ((261, 4, 114) :: ((261, 3, 101) :: ((261, 2, 101) :: ((261, 1, 104) :: ((261, 0, 99) :: ((260, 3, 104) :: ((260, 2, 116) :: ((260, 1, 97) :: ((260, 0, 111) :: ((259, 3, 115) :: ((259, 2, 116) :: ((259, 1, 105) :: ((259, 0, 119) :: ((258, 3, 114) :: ((258, 2, 97) :: ((258, 1, 101) :: ((258, 0, 121) :: ((257, 6, 108) :: ((257, 5, 101) :: ((257, 4, 114) :: ((257, 3, 114) :: ((257, 2, 97) :: ((257, 1, 117) :: ((257, 0, 113) :: ((256, 6, 116) :: ((256, 5, 115) :: ((256, 4, 101) :: ((256, 3, 118) :: ((256, 2, 114) :: ((256, 1, 97) :: ((256, 0, 104) :: ((255, 2, 120) :: ((255, 1, 97) :: ((255, 0, 109) :: ((254, 2, 110) :: ((254, 1, 105) :: ((254, 0, 109) :: ((253, 2, 108) :: ((253, 1, 108) :: ((253, 0, 97) :: ((252, 1, 114) :: ((252, 0, 111) :: ((251, 2, 100) :: ((251, 1, 110) :: ((251, 0, 97) :: ((250, 2, 116) :: ((250, 1, 111) :: ((250, 0, 110) :: ((249, 4, 116) :: ((249, 3, 115) :: ((249, 2, 97) :: ((249, 1, 101) :: ((249, 0, 108) :: ((248, 3, 116) :: ((248, 2, 115) :: ((248, 1, 111) :: ((248, 0, 109) :: ((247, 4, 108) :: ((247, 3, 97) :: ((247, 2, 116) :: ((247, 1, 111) :: ((247, 0, 116) :: ((246, 4, 110) :: ((246, 3, 101) :: ((246, 2, 116) :: ((246, 1, 102) :: ((246, 0, 111) :: ((245, 3, 116) :: ((245, 2, 115) :: ((245, 1, 97) :: ((245, 0, 108) :: ((244, 4, 116) :: ((244, 3, 115) :: ((244, 2, 114) :: ((244, 1, 105) :: ((244, 0, 102) :: ((229, 9, (-1)) :: ((229, 8, (-1)) :: ((229, 7, (-1)) :: ((229, 6, (-1)) :: ((229, 5, (-1)) :: ((229, 4, (-1)) :: ((229, 3, (-1)) :: ((229, 2, (-1)) :: ((229, 1, (-1)) :: ((229, 0, (-1)) :: ((224, 2, 120) :: ((224, 1, 97) :: ((224, 0, 109) :: ((223, 2, 110) :: ((223, 1, 105) :: ((223, 0, 109) :: ((222, 2, 108) :: ((222, 1, 108) :: ((222, 0, 97) :: ((221, 2, 116) :: ((221, 1, 111) :: ((221, 0, 110) :: ((220, 2, 100) :: ((220, 1, 110) :: ((220, 0, 97) :: ((219, 1, 114) :: ((219, 0, 111) :: ((218, 3, 101) :: ((218, 2, 109) :: ((218, 1, 111) :: ((218, 0, 104) :: ((217, 4, 115) :: ((217, 3, 101) :: ((217, 2, 118) :: ((217, 1, 105) :: ((217, 0, 108) :: ((216, 5, 114) :: ((216, 4, 101) :: ((216, 3, 98) :: ((216, 2, 109) :: ((216, 1, 117) :: ((216, 0, 110) :: ((215, 5, 115) :: ((215, 4, 116) :: ((215, 3, 115) :: ((215, 2, 101) :: ((215, 1, 117) :: ((215, 0, 103) :: ((214, 3, 121) :: ((214, 2, 97) :: ((214, 1, 119) :: ((214, 0, 97) :: ((213, 3, 114) :: ((213, 2, 97) :: ((213, 1, 101) :: ((213, 0, 121) :: ((212, 3, 119) :: ((212, 2, 111) :: ((212, 1, 110) :: ((212, 0, 115) :: ((211, 4, 115) :: ((211, 3, 121) :: ((211, 2, 97) :: ((211, 1, 116) :: ((211, 0, 115) :: ((210, 5, 115) :: ((210, 4, 116) :: ((210, 3, 104) :: ((210, 2, 103) :: ((210, 1, 105) :: ((210, 0, 102) :: ((209, 3, 115) :: ((209, 2, 101) :: ((209, 1, 111) :: ((209, 0, 100) :: ((208, 4, 101) :: ((208, 3, 115) :: ((208, 2, 111) :: ((208, 1, 111) :: ((208, 0, 103) :: ((207, 4, 115) :: ((207, 3, 100) :: ((207, 2, 110) :: ((207, 1, 101) :: ((207, 0, 115) :: ((206, 4, 114) :: ((206, 3, 101) :: ((206, 2, 101) :: ((206, 1, 104) :: ((206, 0, 99) :: ((205, 3, 104) :: ((205, 2, 116) :: ((205, 1, 97) :: ((205, 0, 111) :: ((204, 3, 115) :: ((204, 2, 116) :: ((204, 1, 105) :: ((204, 0, 119) :: ((203, 1, 102) :: ((203, 0, 111) :: ((202, 5, 110) :: ((202, 4, 111) :: ((202, 3, 115) :: ((202, 2, 114) :: ((202, 1, 101) :: ((202, 0, 112) :: ((201, 6, 101) :: ((201, 5, 103) :: ((201, 4, 97) :: ((201, 3, 108) :: ((201, 2, 108) :: ((201, 1, 105) :: ((201, 0, 118) :: ((200, 6, 108) :: ((200, 5, 101) :: ((200, 4, 114) :: ((200, 3, 114) :: ((200, 2, 97) :: ((200, 1, 117) :: ((200, 0, 113) :: ((199, 6, 116) :: ((199, 5, 115) :: ((199, 4, 101) :: ((199, 3, 118) :: ((199, 2, 114) :: ((199, 1, 97) :: ((199, 0, 104) :: ((196, 8, (-1)) :: ((2, 19, (-1)) :: ((2, 17, 1) :: []))))))))))))))))))))))))))))))))))))))))))))))))))))))))))))))))))))))))))))))))))))))))))))))))))))))))))))))))))))))))))))))))))))))))))))))))))))))))))))))))))))))))))))))))))))))))))))))))))))))))))))))))))))))))))))))))))))))))))))))))))
def tl_F : List (Nat × Nat × Int64) := ((196, 74, 1) :: [])
set_option maxRecDepth 100000 in
theorem ti_hF (L : Nat) (xs : Nat → Int32) : ti_P xs (fz_hF L xs) ti_F tl_F 273 := by
  have e0 : ti_P xs (hB0 L xs) [] [] 3 := ti_P.mk (N := 2) ⟨rfl, by decide, fun _ _ => rfl, fun _ _ => rfl, fun _ h => (by cases h), fun _ h => (by cases h)⟩
  exact ti_hc_X12_init_196 (ti_P.mk (ti_hc_X11_init_2 e0))
theorem x0_g (L : Nat) (xs : Nat → Int32) (a j : Nat) : (x_0 L xs).1 a j = if a = 0 then xs j else ti_at ti_F a j := (ti_hF L xs).2.2.1 a j
theorem x0_0 (L : Nat) (xs : Nat → Int32) (j : Nat) : (x_0 L xs).1 0 j = xs j := (x0_g L xs 0 j).trans (if_pos rfl)
theorem x0_i (L : Nat) (xs : Nat → Int32) {a j : Nat} (ha : a ≠ 0) : (x_0 L xs).1 a j = ti_at ti_F a j := by
  have := (ti_hF L xs).2.2.1 a j
  rw [if_neg ha] at this
  exact this
theorem x0_l (L : Nat) (xs : Nat → Int32) (a j : Nat) : (x_0 L xs).2.1 a j = tl_at tl_F a j := (ti_hF L xs).2.2.2.1 a j
set_option maxRecDepth 100000 in
theorem ti_all : (ti_F.all fun e => decide (e.1 = 2 ∨ e.1 = 196 ∨ (199 ≤ e.1 ∧ e.1 ≤ 224) ∨ e.1 = 229 ∨ (244 ≤ e.1 ∧ e.1 ≤ 268))) = true := by decide +kernel
theorem x0_z (L : Nat) (xs : Nat → Int32) {a j : Nat} (ha : ¬ (a = 0 ∨ a = 2 ∨ a = 196 ∨ (199 ≤ a ∧ a ≤ 224) ∨ a = 229 ∨ (244 ≤ a ∧ a ≤ 268))) : (x_0 L xs).1 a j = 0 := by
  rw [x0_i L xs (by omega)]
  refine ti_none _ _ _ (fun e he => ?_)
  have := of_decide_eq_true (List.all_eq_true.mp ti_all e he)
  omega
set_option maxRecDepth 100000 in
theorem ti_own : ti_at ti_F 2 1 = 0 ∧ ti_at ti_F 196 1 = 0 ∧ ti_at ti_F 2 18 = ti_at ti_F 196 7 ∧ ti_at ti_F 2 19 = ti_at ti_F 196 8 ∧ ti_at ti_F 2 15 = 0 ∧ ti_at ti_F 196 111 = 0 ∧ ti_at ti_F 2 17 = 1 ∧ tl_at tl_F 196 74 = 1 ∧ ti_at ti_F 196 52 = 0 ∧ ti_at ti_F 196 46 = 0 ∧ ti_at ti_F 196 40 = 0 ∧ ti_at ti_F 196 58 = 0 ∧ ti_at ti_F 196 72 = 0 ∧ ti_at ti_F 196 73 = 0 ∧ ti_at ti_F 196 66 = 0 := by decide +kernel
set_option maxRecDepth 100000 in
theorem ti_229 : ((List.range 5).all fun r => decide (ti_at ti_F 229 (5 + r) = iI (-1))) = true := by decide +kernel
set_option maxRecDepth 100000 in
theorem ti_words : ((List.range 70).all fun a => (List.range (wds (199 + a)).length).all fun j => decide (ti_at ti_F (199 + a) j = nI ((wds (199 + a)).getD j 0))) = true := by decide +kernel
theorem INV_start (L : Nat) (xs : Nat → Int32) : INV (x_0 L xs) (x_0 L xs) := by
  obtain ⟨o1, o2, o3, o4, o5, o6, o7, o8, o9, o10, o11, o12, o13, o14, o15⟩ := ti_own
  have z := fun {a j : Nat} => x0_z L xs (a := a) (j := j)
  have i := fun {a j : Nat} => x0_i L xs (a := a) (j := j)
  have hT : TV (0, fun p => if p = 9 then 5 else 0, fun _ => 0, fun _ => 0, dfl) := ⟨Nat.zero_le _, fun p hp => absurd hp (Nat.not_lt_zero _), fun p hp => absurd hp (Nat.not_lt_zero _), fun p hp => absurd hp (Nat.not_lt_zero _), fun r hr => ⟨ydl r, y_dnd r hr⟩⟩
  have hW : WV (0, fun p => if p = 9 then 5 else 0, fun _ => 0, fun _ => 0, dfl) (fun _ => 0, fun _ => 0, fun _ => 0, fun _ => false, fun _ => 0, 0) := ⟨fun _ _ => Nat.zero_le _, fun _ _ => Nat.zero_le _, fun p hp => absurd hp (Nat.not_lt_zero _), fun p hp => absurd hp (Nat.not_lt_zero _), Nat.zero_le _⟩
  refine ⟨false, (0, fun p => if p = 9 then 5 else 0, fun _ => 0, fun _ => 0, dfl), (fun _ => 0, fun _ => 0, fun _ => 0, fun _ => false, fun _ => 0, 0), fun _ => (0, 0, 0), 0, ⟨fun _ => 0, 0, ?_⟩, ?_, ⟨0, ?_⟩, ⟨1, ?_⟩, ⟨0, fun _ _ => 0, fun _ => 0, ?_⟩, ?_, ?_, ⟨fun _ => ((fun _ => 0, fun _ => 0, fun _ => 0, fun _ => false, fun _ => 0, 0), 0), 0, 0, 0, ?_⟩, ⟨fun _ => (0, 0, 0), 0, ?_⟩, ?_⟩
  · exact ⟨Nat.zero_le _, fun _ => by show 0 < 256; omega, (i (by omega)).trans o1, (i (by omega)).trans o2, fun j _ => z (by omega), fun j _ => z (by omega)⟩
  · exact ⟨by rw [i (by omega), i (by omega)]; exact o3, by rw [i (by omega), i (by omega)]; exact o4, fun k _ => by rw [z (by omega), z (by omega)]⟩
  · exact ⟨Nat.zero_le _, (i (by omega)).trans o5, (i (by omega)).trans o6, fun k hk => absurd hk (Nat.not_lt_zero _)⟩
  · exact ⟨by omega, (i (by omega)).trans o7, (x0_l L xs _ _).trans o8⟩
  · exact ⟨z (by omega), (i (by omega)).trans o9, ⟨fun _ => rfl, fun h => by cases h⟩, Nat.zero_le _, z (by omega), (i (by omega)).trans o10, fun h => by cases h⟩
  · refine ⟨⟨hT, hW, ⟨z (by omega), fun p hp => absurd hp (Nat.not_lt_zero _), fun p hp => absurd hp (Nat.not_lt_zero _), fun p hp => absurd hp (Nat.not_lt_zero _), fun r hr => Or.inl ⟨rfl, rfl, z (by omega), z (by omega)⟩⟩, ⟨fun v hv => z (by omega), fun v hv h => absurd rfl h, fun p hp => absurd hp (Nat.not_lt_zero _), fun p hp => absurd hp (Nat.not_lt_zero _), fun p hp => absurd hp (Nat.not_lt_zero _), z (by omega)⟩, Nat.le_refl _⟩, ⟨hT, hW, ⟨(i (by omega)).trans o11, fun p hp => absurd hp (Nat.not_lt_zero _), fun p hp => absurd hp (Nat.not_lt_zero _), fun p hp => absurd hp (Nat.not_lt_zero _), fun r hr => Or.inl ⟨?_, rfl⟩⟩, ⟨fun v hv => z (by omega), fun v hv => z (by omega), fun p hp => absurd hp (Nat.not_lt_zero _), fun p hp => absurd hp (Nat.not_lt_zero _), fun p hp => absurd hp (Nat.not_lt_zero _), z (by omega)⟩⟩, Nat.zero_le _, (i (by omega)).trans o12⟩
    rw [i (by omega)]
    exact of_decide_eq_true (List.all_eq_true.mp ti_229 r (List.mem_range.mpr hr))
  · exact ⟨z (by omega), Nat.le_refl _, fun k hk => absurd hk (Nat.not_lt_zero _), z (by omega), fun k hk => absurd hk (Nat.not_lt_zero _)⟩
  · exact ⟨⟨Nat.zero_le _, fun i j _ hj => absurd hj (Nat.not_lt_zero _), fun i hi => absurd hi (Nat.not_lt_zero _)⟩, ⟨by omega, z (by omega), z (by omega), fun i hi => absurd hi (Nat.not_lt_zero _)⟩, ⟨by omega, (i (by omega)).trans o13, (i (by omega)).trans o14, fun i hi => absurd hi (Nat.not_lt_zero _)⟩⟩
  · exact ⟨Nat.zero_le _, z (by omega), (i (by omega)).trans o15, fun k hk => absurd hk (Nat.not_lt_zero _)⟩
  · intro a j h1 h2 hj
    rw [i (by omega)]
    have e : 199 + (a - 199) = a := by omega
    have g := List.all_eq_true.mp ti_words (a - 199) (List.mem_range.mpr (by omega))
    rw [e] at g
    exact of_decide_eq_true (List.all_eq_true.mp g j (List.mem_range.mpr hj))

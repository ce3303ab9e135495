/-! FROM THE LAW'S ENTRY TO ITS LOOP -/
def fz_h0 (L : Nat) (xs : Nat → Int32) : fz_H := ([(20, L), (21, 0)], fun a j => if a = 0 then xs j else 0, fun _ _ => 0, fun _ _ => none)
def fz_hF (L : Nat) (xs : Nat → Int32) : fz_H := hc_X12_init_196 (fz_mk (hc_X11_init_2 (hB0 L xs)) 12 112)
/-- references as a row of entries, the latest first -/
def te_at : List (Nat × Nat × Option Nat) → Nat → Nat → Option Nat
  | [], _, _ => none
  | (b, i, x) :: t, a, j => if b = a ∧ i = j then x else te_at t a j
def te_P (h : fz_H) (E : List (Nat × Nat × Option Nat)) (N : Nat) : Prop := h.1.length = N ∧ (∀ a j, h.2.2.2 a j = te_at E a j) ∧ ∀ e ∈ E, e.1 < N
theorem te_none : ∀ (E : List (Nat × Nat × Option Nat)) (a j : Nat), (∀ e ∈ E, e.1 < a) → te_at E a j = none
  | [], _, _, _ => rfl
  | (b, i, x) :: t, a, j, h => by
    have hb : b < a := h _ List.mem_cons_self
    unfold te_at
    rw [if_neg (fun q => by omega)]
    exact te_none t a j (fun e he => h e (List.mem_cons_of_mem _ he))
theorem te_P.mk {h : fz_H} {E : List (Nat × Nat × Option Nat)} {N κ n : Nat} (e : te_P h E N) : te_P (fz_mk h κ n) E (N + 1) := by
  obtain ⟨h1, h2, h3⟩ := e
  refine ⟨?_, fun a j => ?_, fun q hq => Nat.lt_succ_of_lt (h3 q hq)⟩
  · show (h.1 ++ [(κ, n)]).length = _
    rw [List.length_append, h1]
    rfl
  · show (if a = h.1.length then (fun _ => none) else h.2.2.2 a) j = _
    rw [h1]
    by_cases ha : a = N
    · rw [if_pos ha, ha, te_none E N j h3]
    · rw [if_neg ha]
      exact h2 a j
theorem te_P.sP {h : fz_H} {E : List (Nat × Nat × Option Nat)} {N a j : Nat} {x : Option Nat} (e : te_P h E N) (ha : a < N) : te_P (fz_sP h a j x) ((a, j, x) :: E) N := by
  obtain ⟨h1, h2, h3⟩ := e
  refine ⟨h1, fun b i => ?_, fun q hq => ?_⟩
  · show (if b = a then va_up (h.2.2.2 a) j x else h.2.2.2 b) i = if a = b ∧ j = i then x else te_at E b i
    by_cases hb : b = a
    · subst hb
      rw [if_pos rfl]
      unfold va_up
      by_cases hi : i = j
      · subst hi
        rw [if_pos rfl, if_pos ⟨rfl, rfl⟩]
      · rw [if_neg hi, if_neg (fun q => hi q.2.symm)]
        exact h2 b i
    · rw [if_neg hb, if_neg (fun q => hb q.1.symm)]
      exact h2 b i
  · rcases List.mem_cons.mp hq with rfl | hq
    · exact ha
    · exact h3 q hq
theorem te_P.sI {h : fz_H} {E : List (Nat × Nat × Option Nat)} {N a j : Nat} {x : Int32} (e : te_P h E N) : te_P (fz_sI h a j x) E N := e
theorem te_P.sL {h : fz_H} {E : List (Nat × Nat × Option Nat)} {N a j : Nat} {x : Int64} (e : te_P h E N) : te_P (fz_sL h a j x) E N := e
def te_W (n : Nat) (E : List (Nat × Nat × Option Nat)) : List (Nat × Nat × Option Nat) := (n, 4, some (n + 1 + 4)) :: (n, 3, some (n + 1 + 3)) :: (n, 2, some (n + 1 + 2)) :: (n, 1, some (n + 1 + 1)) :: (n, 0, some (n + 1 + 0)) :: E
theorem te_P.W {h : fz_H} {E : List (Nat × Nat × Option Nat)} {n N N' : Nat} (e : te_P h E N) (hn : n < N) (hN : N + 5 = N') : te_P (hc_X10_init h n) (te_W n E) N' := by
  subst hN
  unfold hc_X10_init te_W
  exact (((((((((e.mk.sP (by omega)).mk).sP (by omega)).mk).sP (by omega)).mk).sP (by omega)).mk).sP (by omega))
def te_pw (E : List (Nat × Nat × Option Nat)) : Nat → List (Nat × Nat × Option Nat)
  | 0 => E
  | i + 1 => (48, i, some (52 + 6 * i)) :: te_W (52 + 6 * i) (te_pw E i)
theorem te_P.pw {h : fz_H} {E : List (Nat × Nat × Option Nat)} (e : te_P h E 52) (i : Nat) : te_P (hc_pw h i) (te_pw E i) (52 + 6 * i) := by
  induction i with
  | zero => exact e
  | succ i ih => exact (te_P.W (N' := 52 + 6 * (i + 1)) ih.mk (by omega) (by omega)).sP (by omega)
set_option maxRecDepth 100000 in
theorem te_hc_X8_init_4 {h : fz_H} {E : List (Nat × Nat × Option Nat)} (e : te_P h E 5) : te_P (hc_X8_init_4 h) ((4, 0, (some 3)) :: E) 5 := by
  unfold hc_X8_init_4
  exact (te_P.sP e (by decide))
set_option maxRecDepth 100000 in
theorem te_hc_X2_init_5 {h : fz_H} {E : List (Nat × Nat × Option Nat)} (e : te_P h E 6) : te_P (hc_X2_init_5 h) ((5, 0, (some 4)) :: E) 6 := by
  unfold hc_X2_init_5
  exact (te_P.sP e (by decide))
set_option maxRecDepth 100000 in
theorem te_hc_X9_init_6 {h : fz_H} {E : List (Nat × Nat × Option Nat)} (e : te_P h E 7) : te_P (hc_X9_init_6 h) ((6, 9, (some 16)) :: ((6, 8, (some 15)) :: ((6, 7, (some 14)) :: ((6, 6, (some 13)) :: ((6, 5, (some 12)) :: ((6, 4, (some 11)) :: ((6, 3, (some 10)) :: ((6, 2, (some 9)) :: ((6, 1, (some 8)) :: ((6, 0, (some 7)) :: E)))))))))) 17 := by
  unfold hc_X9_init_6
  exact (te_P.sP (te_P.mk (te_P.sP (te_P.mk (te_P.sP (te_P.mk (te_P.sP (te_P.mk (te_P.sP (te_P.mk (te_P.sP (te_P.mk (te_P.sP (te_P.mk (te_P.sP (te_P.mk (te_P.sP (te_P.mk (te_P.sP (te_P.mk e) (by decide))) (by decide))) (by decide))) (by decide))) (by decide))) (by decide))) (by decide))) (by decide))) (by decide))) (by decide))
set_option maxRecDepth 100000 in
theorem te_hc_X9_init_17 {h : fz_H} {E : List (Nat × Nat × Option Nat)} (e : te_P h E 18) : te_P (hc_X9_init_17 h) ((17, 9, (some 27)) :: ((17, 8, (some 26)) :: ((17, 7, (some 25)) :: ((17, 6, (some 24)) :: ((17, 5, (some 23)) :: ((17, 4, (some 22)) :: ((17, 3, (some 21)) :: ((17, 2, (some 20)) :: ((17, 1, (some 19)) :: ((17, 0, (some 18)) :: E)))))))))) 28 := by
  unfold hc_X9_init_17
  exact (te_P.sP (te_P.mk (te_P.sP (te_P.mk (te_P.sP (te_P.mk (te_P.sP (te_P.mk (te_P.sP (te_P.mk (te_P.sP (te_P.mk (te_P.sP (te_P.mk (te_P.sP (te_P.mk (te_P.sP (te_P.mk (te_P.sP (te_P.mk e) (by decide))) (by decide))) (by decide))) (by decide))) (by decide))) (by decide))) (by decide))) (by decide))) (by decide))) (by decide))
set_option maxRecDepth 100000 in
theorem te_hc_X5_init_28 {h : fz_H} {E : List (Nat × Nat × Option Nat)} (e : te_P h E 29) : te_P (hc_X5_init_28 h) ((28, 0, (some 29)) :: E) 30 := by
  unfold hc_X5_init_28
  exact (te_P.sP (te_P.mk e) (by decide))
set_option maxRecDepth 100000 in
theorem te_hc_X7_init_31 {h : fz_H} {E : List (Nat × Nat × Option Nat)} (e : te_P h E 32) : te_P (hc_X7_init_31 h) ((31, 1, (some 33)) :: ((31, 0, (some 32)) :: E)) 34 := by
  unfold hc_X7_init_31
  exact (te_P.sP (te_P.mk (te_P.sP (te_P.mk e) (by decide))) (by decide))
set_option maxRecDepth 100000 in
theorem te_hc_X0_init_30 {h : fz_H} {E : List (Nat × Nat × Option Nat)} (e : te_P h E 34) : te_P (hc_X0_init_30 h) ((30, 1, (some 31)) :: ((30, 0, (some 6)) :: ((30, 2, (some 34)) :: E))) 35 := by
  unfold hc_X0_init_30
  exact (te_P.sP (te_P.sP (te_P.sP (te_P.mk e) (by decide)) (by decide)) (by decide))
set_option maxRecDepth 100000 in
theorem te_hc_X4_init_47 {h : fz_H} {E : List (Nat × Nat × Option Nat)} (e : te_P h E 48) : te_P (hc_X4_init_47 h) (te_pw ((47, 3, (some 51)) :: ((47, 2, (some 50)) :: ((47, 1, (some 49)) :: ((47, 0, (some 48)) :: E)))) 20) 172 := by
  unfold hc_X4_init_47
  exact (te_P.pw (te_P.sP (te_P.mk (te_P.sP (te_P.mk (te_P.sP (te_P.mk (te_P.sP (te_P.mk e) (by decide))) (by decide))) (by decide))) (by decide)) 20)
set_option maxRecDepth 100000 in
theorem te_hc_X3_init_172 {h : fz_H} {E : List (Nat × Nat × Option Nat)} (e : te_P h E 173) : te_P (hc_X3_init_172 h) ((172, 1, (some 30)) :: ((172, 0, (some 6)) :: ((172, 4, (some 180)) :: ((172, 3, (some 179)) :: ((172, 2, (some 173)) :: (te_W 173 E)))))) 181 := by
  unfold hc_X3_init_172
  exact (te_P.sP (te_P.sP (te_P.sP (te_P.mk (te_P.sP (te_P.mk (te_P.sP (te_P.W (te_P.mk e) (by decide) rfl) (by decide))) (by decide))) (by decide)) (by decide)) (by decide))
set_option maxRecDepth 100000 in
theorem te_hc_X1_init_181 {h : fz_H} {E : List (Nat × Nat × Option Nat)} (e : te_P h E 182) : te_P (hc_X1_init_181 h) ((181, 1, (some 30)) :: ((181, 0, (some 6)) :: ((181, 3, (some 183)) :: ((181, 2, (some 182)) :: E)))) 184 := by
  unfold hc_X1_init_181
  exact (te_P.sP (te_P.sP (te_P.sP (te_P.mk (te_P.sP (te_P.mk e) (by decide))) (by decide)) (by decide)) (by decide))
set_option maxRecDepth 100000 in
theorem te_hc_X6_init_184 {h : fz_H} {E : List (Nat × Nat × Option Nat)} (e : te_P h E 185) : te_P (hc_X6_init_184 h) ((184, 0, (some 30)) :: ((184, 4, (some 193)) :: ((184, 3, (some 192)) :: ((184, 2, (some 191)) :: ((184, 1, (some 185)) :: (te_W 185 E)))))) 194 := by
  unfold hc_X6_init_184
  exact (te_P.sP (te_P.sP (te_P.mk (te_P.sP (te_P.mk (te_P.sP (te_P.mk (te_P.sP (te_P.W (te_P.mk e) (by decide) rfl) (by decide))) (by decide))) (by decide))) (by decide)) (by decide))
set_option maxRecDepth 100000 in
theorem te_hc_X11_init_2 {h : fz_H} {E : List (Nat × Nat × Option Nat)} (e : te_P h E 3) : te_P (hc_X11_init_2 h) ((2, 16, (some 195)) :: ((2, 14, (some 194)) :: ((2, 13, (some 184)) :: ((184, 0, (some 30)) :: ((184, 4, (some 193)) :: ((184, 3, (some 192)) :: ((184, 2, (some 191)) :: ((184, 1, (some 185)) :: (te_W 185 ((2, 12, (some 181)) :: ((181, 1, (some 30)) :: ((181, 0, (some 6)) :: ((181, 3, (some 183)) :: ((181, 2, (some 182)) :: ((2, 11, (some 172)) :: ((172, 1, (some 30)) :: ((172, 0, (some 6)) :: ((172, 4, (some 180)) :: ((172, 3, (some 179)) :: ((172, 2, (some 173)) :: (te_W 173 ((2, 10, (some 47)) :: (te_pw ((47, 3, (some 51)) :: ((47, 2, (some 50)) :: ((47, 1, (some 49)) :: ((47, 0, (some 48)) :: ((2, 9, (some 41)) :: (te_W 41 ((2, 8, (some 35)) :: (te_W 35 ((2, 7, (some 30)) :: ((30, 1, (some 31)) :: ((30, 0, (some 6)) :: ((30, 2, (some 34)) :: ((31, 1, (some 33)) :: ((31, 0, (some 32)) :: ((2, 6, (some 28)) :: ((28, 0, (some 29)) :: ((2, 5, (some 17)) :: ((17, 9, (some 27)) :: ((17, 8, (some 26)) :: ((17, 7, (some 25)) :: ((17, 6, (some 24)) :: ((17, 5, (some 23)) :: ((17, 4, (some 22)) :: ((17, 3, (some 21)) :: ((17, 2, (some 20)) :: ((17, 1, (some 19)) :: ((17, 0, (some 18)) :: ((2, 4, (some 6)) :: ((6, 9, (some 16)) :: ((6, 8, (some 15)) :: ((6, 7, (some 14)) :: ((6, 6, (some 13)) :: ((6, 5, (some 12)) :: ((6, 4, (some 11)) :: ((6, 3, (some 10)) :: ((6, 2, (some 9)) :: ((6, 1, (some 8)) :: ((6, 0, (some 7)) :: ((2, 3, (some 5)) :: ((5, 0, (some 4)) :: ((2, 2, (some 4)) :: ((4, 0, (some 3)) :: ((2, 0, (some 3)) :: E))))))))))))))))))))))))))))))))))))))))))) 20))))))))))))))))))))))) 196 := by
  unfold hc_X11_init_2
  exact (te_P.sI (te_P.sI (te_P.sP (te_P.mk (te_P.sP (te_P.mk (te_P.sP (te_hc_X6_init_184 (te_P.mk (te_P.sP (te_hc_X1_init_181 (te_P.mk (te_P.sP (te_hc_X3_init_172 (te_P.mk (te_P.sP (te_hc_X4_init_47 (te_P.mk (te_P.sP (te_P.W (te_P.mk (te_P.sP (te_P.W (te_P.mk (te_P.sP (te_hc_X0_init_30 (te_hc_X7_init_31 (te_P.mk (te_P.mk (te_P.sP (te_hc_X5_init_28 (te_P.mk (te_P.sP (te_hc_X9_init_17 (te_P.mk (te_P.sP (te_hc_X9_init_6 (te_P.mk (te_P.sP (te_hc_X2_init_5 (te_P.mk (te_P.sP (te_hc_X8_init_4 (te_P.mk (te_P.sP (te_P.mk e) (by decide)))) (by decide)))) (by decide)))) (by decide)))) (by decide)))) (by decide)))))) (by decide))) (by decide) rfl) (by decide))) (by decide) rfl) (by decide)))) (by decide)))) (by decide)))) (by decide)))) (by decide))) (by decide))) (by decide))))
set_option maxRecDepth 100000 in
theorem te_hm_0 {h : fz_H} {E : List (Nat × Nat × Option Nat)} (e : te_P h E 197) : te_P (hm_0 h) ((196, 0, (some 197)) :: E) 198 := by
  unfold hm_0
  exact (te_P.sP (te_P.mk e) (by decide))
set_option maxRecDepth 100000 in
theorem te_hm_1 {h : fz_H} {E : List (Nat × Nat × Option Nat)} (e : te_P h E 198) : te_P (hm_1 h) E 198 := by
  unfold hm_1
  exact (te_P.sI e)
set_option maxRecDepth 100000 in
theorem te_hm_2 {h : fz_H} {E : List (Nat × Nat × Option Nat)} (e : te_P h E 198) : te_P (hm_2 h) ((196, 9, (some 198)) :: E) 199 := by
  unfold hm_2
  exact (te_P.sP (te_P.mk e) (by decide))
set_option maxRecDepth 100000 in
theorem te_hm_3 {h : fz_H} {E : List (Nat × Nat × Option Nat)} (e : te_P h E 199) : te_P (hm_3 h) ((196, 11, (some 199)) :: E) 200 := by
  unfold hm_3
  exact (te_P.sP (te_P.sI (te_P.sI (te_P.sI (te_P.sI (te_P.sI (te_P.sI (te_P.sI (te_P.mk e)))))))) (by decide))
set_option maxRecDepth 100000 in
theorem te_hm_4 {h : fz_H} {E : List (Nat × Nat × Option Nat)} (e : te_P h E 200) : te_P (hm_4 h) ((196, 12, (some 200)) :: E) 201 := by
  unfold hm_4
  exact (te_P.sP (te_P.sI (te_P.sI (te_P.sI (te_P.sI (te_P.sI (te_P.sI (te_P.sI (te_P.mk e)))))))) (by decide))
set_option maxRecDepth 100000 in
theorem te_hm_5 {h : fz_H} {E : List (Nat × Nat × Option Nat)} (e : te_P h E 201) : te_P (hm_5 h) ((196, 13, (some 201)) :: E) 202 := by
  unfold hm_5
  exact (te_P.sP (te_P.sI (te_P.sI (te_P.sI (te_P.sI (te_P.sI (te_P.sI (te_P.sI (te_P.mk e)))))))) (by decide))
set_option maxRecDepth 100000 in
theorem te_hm_6 {h : fz_H} {E : List (Nat × Nat × Option Nat)} (e : te_P h E 202) : te_P (hm_6 h) ((196, 14, (some 202)) :: E) 203 := by
  unfold hm_6
  exact (te_P.sP (te_P.sI (te_P.sI (te_P.sI (te_P.sI (te_P.sI (te_P.sI (te_P.mk e))))))) (by decide))
set_option maxRecDepth 100000 in
theorem te_hm_7 {h : fz_H} {E : List (Nat × Nat × Option Nat)} (e : te_P h E 203) : te_P (hm_7 h) ((196, 15, (some 203)) :: E) 204 := by
  unfold hm_7
  exact (te_P.sP (te_P.sI (te_P.sI (te_P.mk e))) (by decide))
set_option maxRecDepth 100000 in
theorem te_hm_8 {h : fz_H} {E : List (Nat × Nat × Option Nat)} (e : te_P h E 204) : te_P (hm_8 h) ((196, 16, (some 204)) :: E) 205 := by
  unfold hm_8
  exact (te_P.sP (te_P.sI (te_P.sI (te_P.sI (te_P.sI (te_P.mk e))))) (by decide))
set_option maxRecDepth 100000 in
theorem te_hm_9 {h : fz_H} {E : List (Nat × Nat × Option Nat)} (e : te_P h E 205) : te_P (hm_9 h) ((196, 17, (some 205)) :: E) 206 := by
  unfold hm_9
  exact (te_P.sP (te_P.sI (te_P.sI (te_P.sI (te_P.sI (te_P.mk e))))) (by decide))
set_option maxRecDepth 100000 in
theorem te_hm_10 {h : fz_H} {E : List (Nat × Nat × Option Nat)} (e : te_P h E 206) : te_P (hm_10 h) ((196, 18, (some 206)) :: E) 207 := by
  unfold hm_10
  exact (te_P.sP (te_P.sI (te_P.sI (te_P.sI (te_P.sI (te_P.sI (te_P.mk e)))))) (by decide))
set_option maxRecDepth 100000 in
theorem te_hm_11 {h : fz_H} {E : List (Nat × Nat × Option Nat)} (e : te_P h E 207) : te_P (hm_11 h) ((196, 19, (some 207)) :: E) 208 := by
  unfold hm_11
  exact (te_P.sP (te_P.sI (te_P.sI (te_P.sI (te_P.sI (te_P.sI (te_P.mk e)))))) (by decide))
set_option maxRecDepth 100000 in
theorem te_hm_12 {h : fz_H} {E : List (Nat × Nat × Option Nat)} (e : te_P h E 208) : te_P (hm_12 h) ((196, 20, (some 208)) :: E) 209 := by
  unfold hm_12
  exact (te_P.sP (te_P.sI (te_P.sI (te_P.sI (te_P.sI (te_P.sI (te_P.mk e)))))) (by decide))
set_option maxRecDepth 100000 in
theorem te_hm_13 {h : fz_H} {E : List (Nat × Nat × Option Nat)} (e : te_P h E 209) : te_P (hm_13 h) ((196, 21, (some 209)) :: E) 210 := by
  unfold hm_13
  exact (te_P.sP (te_P.sI (te_P.sI (te_P.sI (te_P.sI (te_P.mk e))))) (by decide))
set_option maxRecDepth 100000 in
theorem te_hm_14 {h : fz_H} {E : List (Nat × Nat × Option Nat)} (e : te_P h E 210) : te_P (hm_14 h) ((196, 22, (some 210)) :: E) 211 := by
  unfold hm_14
  exact (te_P.sP (te_P.sI (te_P.sI (te_P.sI (te_P.sI (te_P.sI (te_P.sI (te_P.mk e))))))) (by decide))
set_option maxRecDepth 100000 in
theorem te_hm_15 {h : fz_H} {E : List (Nat × Nat × Option Nat)} (e : te_P h E 211) : te_P (hm_15 h) ((196, 23, (some 211)) :: E) 212 := by
  unfold hm_15
  exact (te_P.sP (te_P.sI (te_P.sI (te_P.sI (te_P.sI (te_P.sI (te_P.mk e)))))) (by decide))
set_option maxRecDepth 100000 in
theorem te_hm_16 {h : fz_H} {E : List (Nat × Nat × Option Nat)} (e : te_P h E 212) : te_P (hm_16 h) ((196, 24, (some 212)) :: E) 213 := by
  unfold hm_16
  exact (te_P.sP (te_P.sI (te_P.sI (te_P.sI (te_P.sI (te_P.mk e))))) (by decide))
set_option maxRecDepth 100000 in
theorem te_hm_17 {h : fz_H} {E : List (Nat × Nat × Option Nat)} (e : te_P h E 213) : te_P (hm_17 h) ((196, 25, (some 213)) :: E) 214 := by
  unfold hm_17
  exact (te_P.sP (te_P.sI (te_P.sI (te_P.sI (te_P.sI (te_P.mk e))))) (by decide))
set_option maxRecDepth 100000 in
theorem te_hm_18 {h : fz_H} {E : List (Nat × Nat × Option Nat)} (e : te_P h E 214) : te_P (hm_18 h) ((196, 26, (some 214)) :: E) 215 := by
  unfold hm_18
  exact (te_P.sP (te_P.sI (te_P.sI (te_P.sI (te_P.sI (te_P.mk e))))) (by decide))
set_option maxRecDepth 100000 in
theorem te_hm_19 {h : fz_H} {E : List (Nat × Nat × Option Nat)} (e : te_P h E 215) : te_P (hm_19 h) ((196, 27, (some 215)) :: E) 216 := by
  unfold hm_19
  exact (te_P.sP (te_P.sI (te_P.sI (te_P.sI (te_P.sI (te_P.sI (te_P.sI (te_P.mk e))))))) (by decide))
set_option maxRecDepth 100000 in
theorem te_hm_20 {h : fz_H} {E : List (Nat × Nat × Option Nat)} (e : te_P h E 216) : te_P (hm_20 h) ((196, 28, (some 216)) :: E) 217 := by
  unfold hm_20
  exact (te_P.sP (te_P.sI (te_P.sI (te_P.sI (te_P.sI (te_P.sI (te_P.sI (te_P.mk e))))))) (by decide))
set_option maxRecDepth 100000 in
theorem te_hm_21 {h : fz_H} {E : List (Nat × Nat × Option Nat)} (e : te_P h E 217) : te_P (hm_21 h) ((196, 29, (some 217)) :: E) 218 := by
  unfold hm_21
  exact (te_P.sP (te_P.sI (te_P.sI (te_P.sI (te_P.sI (te_P.sI (te_P.mk e)))))) (by decide))
set_option maxRecDepth 100000 in
theorem te_hm_22 {h : fz_H} {E : List (Nat × Nat × Option Nat)} (e : te_P h E 218) : te_P (hm_22 h) ((196, 30, (some 218)) :: E) 219 := by
  unfold hm_22
  exact (te_P.sP (te_P.sI (te_P.sI (te_P.sI (te_P.sI (te_P.mk e))))) (by decide))
set_option maxRecDepth 100000 in
theorem te_hm_23 {h : fz_H} {E : List (Nat × Nat × Option Nat)} (e : te_P h E 219) : te_P (hm_23 h) ((196, 31, (some 219)) :: E) 220 := by
  unfold hm_23
  exact (te_P.sP (te_P.sI (te_P.sI (te_P.mk e))) (by decide))
set_option maxRecDepth 100000 in
theorem te_hm_24 {h : fz_H} {E : List (Nat × Nat × Option Nat)} (e : te_P h E 220) : te_P (hm_24 h) ((196, 32, (some 220)) :: E) 221 := by
  unfold hm_24
  exact (te_P.sP (te_P.sI (te_P.sI (te_P.sI (te_P.mk e)))) (by decide))
set_option maxRecDepth 100000 in
theorem te_hm_25 {h : fz_H} {E : List (Nat × Nat × Option Nat)} (e : te_P h E 221) : te_P (hm_25 h) ((196, 33, (some 221)) :: E) 222 := by
  unfold hm_25
  exact (te_P.sP (te_P.sI (te_P.sI (te_P.sI (te_P.mk e)))) (by decide))
set_option maxRecDepth 100000 in
theorem te_hm_26 {h : fz_H} {E : List (Nat × Nat × Option Nat)} (e : te_P h E 222) : te_P (hm_26 h) ((196, 34, (some 222)) :: E) 223 := by
  unfold hm_26
  exact (te_P.sP (te_P.sI (te_P.sI (te_P.sI (te_P.mk e)))) (by decide))
set_option maxRecDepth 100000 in
theorem te_hm_27 {h : fz_H} {E : List (Nat × Nat × Option Nat)} (e : te_P h E 223) : te_P (hm_27 h) ((196, 35, (some 223)) :: E) 224 := by
  unfold hm_27
  exact (te_P.sP (te_P.sI (te_P.sI (te_P.sI (te_P.mk e)))) (by decide))
set_option maxRecDepth 100000 in
theorem te_hm_28 {h : fz_H} {E : List (Nat × Nat × Option Nat)} (e : te_P h E 224) : te_P (hm_28 h) ((196, 36, (some 224)) :: E) 225 := by
  unfold hm_28
  exact (te_P.sP (te_P.sI (te_P.sI (te_P.sI (te_P.mk e)))) (by decide))
set_option maxRecDepth 100000 in
theorem te_hm_29 {h : fz_H} {E : List (Nat × Nat × Option Nat)} (e : te_P h E 225) : te_P (hm_29 h) ((196, 41, (some 225)) :: E) 226 := by
  unfold hm_29
  exact (te_P.sP (te_P.mk e) (by decide))
set_option maxRecDepth 100000 in
theorem te_hm_30 {h : fz_H} {E : List (Nat × Nat × Option Nat)} (e : te_P h E 226) : te_P (hm_30 h) ((196, 42, (some 226)) :: E) 227 := by
  unfold hm_30
  exact (te_P.sP (te_P.mk e) (by decide))
set_option maxRecDepth 100000 in
theorem te_hm_31 {h : fz_H} {E : List (Nat × Nat × Option Nat)} (e : te_P h E 227) : te_P (hm_31 h) ((196, 43, (some 227)) :: E) 228 := by
  unfold hm_31
  exact (te_P.sP (te_P.mk e) (by decide))
set_option maxRecDepth 100000 in
theorem te_hm_32 {h : fz_H} {E : List (Nat × Nat × Option Nat)} (e : te_P h E 228) : te_P (hm_32 h) ((196, 44, (some 228)) :: E) 229 := by
  unfold hm_32
  exact (te_P.sP (te_P.mk e) (by decide))
set_option maxRecDepth 100000 in
theorem te_hm_33 {h : fz_H} {E : List (Nat × Nat × Option Nat)} (e : te_P h E 229) : te_P (hm_33 h) ((196, 47, (some 229)) :: E) 230 := by
  unfold hm_33
  exact (te_P.sP (te_P.sI (te_P.sI (te_P.sI (te_P.sI (te_P.sI (te_P.sI (te_P.sI (te_P.sI (te_P.sI (te_P.sI (te_P.mk e))))))))))) (by decide))
set_option maxRecDepth 100000 in
theorem te_hm_34 {h : fz_H} {E : List (Nat × Nat × Option Nat)} (e : te_P h E 230) : te_P (hm_34 h) ((196, 48, (some 230)) :: E) 231 := by
  unfold hm_34
  exact (te_P.sP (te_P.mk e) (by decide))
set_option maxRecDepth 100000 in
theorem te_hm_35 {h : fz_H} {E : List (Nat × Nat × Option Nat)} (e : te_P h E 231) : te_P (hm_35 h) ((196, 49, (some 231)) :: E) 232 := by
  unfold hm_35
  exact (te_P.sP (te_P.mk e) (by decide))
set_option maxRecDepth 100000 in
theorem te_hm_36 {h : fz_H} {E : List (Nat × Nat × Option Nat)} (e : te_P h E 232) : te_P (hm_36 h) ((196, 54, (some 232)) :: E) 233 := by
  unfold hm_36
  exact (te_P.sP (te_P.mk e) (by decide))
set_option maxRecDepth 100000 in
theorem te_hm_37 {h : fz_H} {E : List (Nat × Nat × Option Nat)} (e : te_P h E 233) : te_P (hm_37 h) ((196, 55, (some 233)) :: E) 234 := by
  unfold hm_37
  exact (te_P.sP (te_P.mk e) (by decide))
set_option maxRecDepth 100000 in
theorem te_hm_38 {h : fz_H} {E : List (Nat × Nat × Option Nat)} (e : te_P h E 234) : te_P (hm_38 h) ((196, 57, (some 234)) :: E) 235 := by
  unfold hm_38
  exact (te_P.sP (te_P.mk e) (by decide))
set_option maxRecDepth 100000 in
theorem te_hm_39 {h : fz_H} {E : List (Nat × Nat × Option Nat)} (e : te_P h E 235) : te_P (hm_39 h) ((196, 60, (some 235)) :: E) 236 := by
  unfold hm_39
  exact (te_P.sP (te_P.mk e) (by decide))
set_option maxRecDepth 100000 in
theorem te_hm_40 {h : fz_H} {E : List (Nat × Nat × Option Nat)} (e : te_P h E 236) : te_P (hm_40 h) ((196, 61, (some 236)) :: E) 237 := by
  unfold hm_40
  exact (te_P.sP (te_P.mk e) (by decide))
set_option maxRecDepth 100000 in
theorem te_hm_41 {h : fz_H} {E : List (Nat × Nat × Option Nat)} (e : te_P h E 237) : te_P (hm_41 h) ((196, 62, (some 237)) :: E) 238 := by
  unfold hm_41
  exact (te_P.sP (te_P.mk e) (by decide))
set_option maxRecDepth 100000 in
theorem te_hm_42 {h : fz_H} {E : List (Nat × Nat × Option Nat)} (e : te_P h E 238) : te_P (hm_42 h) ((196, 63, (some 238)) :: E) 239 := by
  unfold hm_42
  exact (te_P.sP (te_P.mk e) (by decide))
set_option maxRecDepth 100000 in
theorem te_hm_43 {h : fz_H} {E : List (Nat × Nat × Option Nat)} (e : te_P h E 239) : te_P (hm_43 h) ((196, 65, (some 239)) :: E) 240 := by
  unfold hm_43
  exact (te_P.sP (te_P.mk e) (by decide))
set_option maxRecDepth 100000 in
theorem te_hm_44 {h : fz_H} {E : List (Nat × Nat × Option Nat)} (e : te_P h E 240) : te_P (hm_44 h) ((196, 67, (some 240)) :: E) 241 := by
  unfold hm_44
  exact (te_P.sP (te_P.mk e) (by decide))
set_option maxRecDepth 100000 in
theorem te_hm_45 {h : fz_H} {E : List (Nat × Nat × Option Nat)} (e : te_P h E 241) : te_P (hm_45 h) ((196, 68, (some 241)) :: E) 242 := by
  unfold hm_45
  exact (te_P.sP (te_P.mk e) (by decide))
set_option maxRecDepth 100000 in
theorem te_hm_46 {h : fz_H} {E : List (Nat × Nat × Option Nat)} (e : te_P h E 242) : te_P (hm_46 h) ((196, 69, (some 242)) :: E) 243 := by
  unfold hm_46
  exact (te_P.sP (te_P.mk e) (by decide))
set_option maxRecDepth 100000 in
theorem te_hm_47 {h : fz_H} {E : List (Nat × Nat × Option Nat)} (e : te_P h E 243) : te_P (hm_47 h) ((196, 71, (some 243)) :: E) 244 := by
  unfold hm_47
  exact (te_P.sP (te_P.mk e) (by decide))
set_option maxRecDepth 100000 in
theorem te_hm_48 {h : fz_H} {E : List (Nat × Nat × Option Nat)} (e : te_P h E 244) : te_P (hm_48 h) E 244 := by
  unfold hm_48
  exact (te_P.sL e)
set_option maxRecDepth 100000 in
theorem te_hm_49 {h : fz_H} {E : List (Nat × Nat × Option Nat)} (e : te_P h E 244) : te_P (hm_49 h) ((196, 75, (some 244)) :: E) 245 := by
  unfold hm_49
  exact (te_P.sP (te_P.sI (te_P.sI (te_P.sI (te_P.sI (te_P.sI (te_P.mk e)))))) (by decide))
set_option maxRecDepth 100000 in
theorem te_hm_50 {h : fz_H} {E : List (Nat × Nat × Option Nat)} (e : te_P h E 245) : te_P (hm_50 h) ((196, 76, (some 245)) :: E) 246 := by
  unfold hm_50
  exact (te_P.sP (te_P.sI (te_P.sI (te_P.sI (te_P.sI (te_P.mk e))))) (by decide))
set_option maxRecDepth 100000 in
theorem te_hm_51 {h : fz_H} {E : List (Nat × Nat × Option Nat)} (e : te_P h E 246) : te_P (hm_51 h) ((196, 77, (some 246)) :: E) 247 := by
  unfold hm_51
  exact (te_P.sP (te_P.sI (te_P.sI (te_P.sI (te_P.sI (te_P.sI (te_P.mk e)))))) (by decide))
set_option maxRecDepth 100000 in
theorem te_hm_52 {h : fz_H} {E : List (Nat × Nat × Option Nat)} (e : te_P h E 247) : te_P (hm_52 h) ((196, 78, (some 247)) :: E) 248 := by
  unfold hm_52
  exact (te_P.sP (te_P.sI (te_P.sI (te_P.sI (te_P.sI (te_P.sI (te_P.mk e)))))) (by decide))
set_option maxRecDepth 100000 in
theorem te_hm_53 {h : fz_H} {E : List (Nat × Nat × Option Nat)} (e : te_P h E 248) : te_P (hm_53 h) ((196, 79, (some 248)) :: E) 249 := by
  unfold hm_53
  exact (te_P.sP (te_P.sI (te_P.sI (te_P.sI (te_P.sI (te_P.mk e))))) (by decide))
set_option maxRecDepth 100000 in
theorem te_hm_54 {h : fz_H} {E : List (Nat × Nat × Option Nat)} (e : te_P h E 249) : te_P (hm_54 h) ((196, 80, (some 249)) :: E) 250 := by
  unfold hm_54
  exact (te_P.sP (te_P.sI (te_P.sI (te_P.sI (te_P.sI (te_P.sI (te_P.mk e)))))) (by decide))
set_option maxRecDepth 100000 in
theorem te_hm_55 {h : fz_H} {E : List (Nat × Nat × Option Nat)} (e : te_P h E 250) : te_P (hm_55 h) ((196, 81, (some 250)) :: E) 251 := by
  unfold hm_55
  exact (te_P.sP (te_P.sI (te_P.sI (te_P.sI (te_P.mk e)))) (by decide))
set_option maxRecDepth 100000 in
theorem te_hm_56 {h : fz_H} {E : List (Nat × Nat × Option Nat)} (e : te_P h E 251) : te_P (hm_56 h) ((196, 82, (some 251)) :: E) 252 := by
  unfold hm_56
  exact (te_P.sP (te_P.sI (te_P.sI (te_P.sI (te_P.mk e)))) (by decide))
set_option maxRecDepth 100000 in
theorem te_hm_57 {h : fz_H} {E : List (Nat × Nat × Option Nat)} (e : te_P h E 252) : te_P (hm_57 h) ((196, 83, (some 252)) :: E) 253 := by
  unfold hm_57
  exact (te_P.sP (te_P.sI (te_P.sI (te_P.mk e))) (by decide))
set_option maxRecDepth 100000 in
theorem te_hm_58 {h : fz_H} {E : List (Nat × Nat × Option Nat)} (e : te_P h E 253) : te_P (hm_58 h) ((196, 84, (some 253)) :: E) 254 := by
  unfold hm_58
  exact (te_P.sP (te_P.sI (te_P.sI (te_P.sI (te_P.mk e)))) (by decide))
set_option maxRecDepth 100000 in
theorem te_hm_59 {h : fz_H} {E : List (Nat × Nat × Option Nat)} (e : te_P h E 254) : te_P (hm_59 h) ((196, 85, (some 254)) :: E) 255 := by
  unfold hm_59
  exact (te_P.sP (te_P.sI (te_P.sI (te_P.sI (te_P.mk e)))) (by decide))
set_option maxRecDepth 100000 in
theorem te_hm_60 {h : fz_H} {E : List (Nat × Nat × Option Nat)} (e : te_P h E 255) : te_P (hm_60 h) ((196, 86, (some 255)) :: E) 256 := by
  unfold hm_60
  exact (te_P.sP (te_P.sI (te_P.sI (te_P.sI (te_P.mk e)))) (by decide))
set_option maxRecDepth 100000 in
theorem te_hm_61 {h : fz_H} {E : List (Nat × Nat × Option Nat)} (e : te_P h E 256) : te_P (hm_61 h) ((196, 87, (some 256)) :: E) 257 := by
  unfold hm_61
  exact (te_P.sP (te_P.sI (te_P.sI (te_P.sI (te_P.sI (te_P.sI (te_P.sI (te_P.sI (te_P.mk e)))))))) (by decide))
set_option maxRecDepth 100000 in
theorem te_hm_62 {h : fz_H} {E : List (Nat × Nat × Option Nat)} (e : te_P h E 257) : te_P (hm_62 h) ((196, 88, (some 257)) :: E) 258 := by
  unfold hm_62
  exact (te_P.sP (te_P.sI (te_P.sI (te_P.sI (te_P.sI (te_P.sI (te_P.sI (te_P.sI (te_P.mk e)))))))) (by decide))
set_option maxRecDepth 100000 in
theorem te_hm_63 {h : fz_H} {E : List (Nat × Nat × Option Nat)} (e : te_P h E 258) : te_P (hm_63 h) ((196, 89, (some 258)) :: E) 259 := by
  unfold hm_63
  exact (te_P.sP (te_P.sI (te_P.sI (te_P.sI (te_P.sI (te_P.mk e))))) (by decide))
set_option maxRecDepth 100000 in
theorem te_hm_64 {h : fz_H} {E : List (Nat × Nat × Option Nat)} (e : te_P h E 259) : te_P (hm_64 h) ((196, 90, (some 259)) :: E) 260 := by
  unfold hm_64
  exact (te_P.sP (te_P.sI (te_P.sI (te_P.sI (te_P.sI (te_P.mk e))))) (by decide))
set_option maxRecDepth 100000 in
theorem te_hm_65 {h : fz_H} {E : List (Nat × Nat × Option Nat)} (e : te_P h E 260) : te_P (hm_65 h) ((196, 91, (some 260)) :: E) 261 := by
  unfold hm_65
  exact (te_P.sP (te_P.sI (te_P.sI (te_P.sI (te_P.sI (te_P.mk e))))) (by decide))
set_option maxRecDepth 100000 in
theorem te_hm_66 {h : fz_H} {E : List (Nat × Nat × Option Nat)} (e : te_P h E 261) : te_P (hm_66 h) ((196, 92, (some 261)) :: E) 262 := by
  unfold hm_66
  exact (te_P.sP (te_P.sI (te_P.sI (te_P.sI (te_P.sI (te_P.sI (te_P.mk e)))))) (by decide))
set_option maxRecDepth 100000 in
theorem te_hm_67 {h : fz_H} {E : List (Nat × Nat × Option Nat)} (e : te_P h E 262) : te_P (hm_67 h) ((196, 93, (some 262)) :: E) 263 := by
  unfold hm_67
  exact (te_P.sP (te_P.sI (te_P.sI (te_P.sI (te_P.sI (te_P.mk e))))) (by decide))
set_option maxRecDepth 100000 in
theorem te_hm_68 {h : fz_H} {E : List (Nat × Nat × Option Nat)} (e : te_P h E 263) : te_P (hm_68 h) ((196, 94, (some 263)) :: E) 264 := by
  unfold hm_68
  exact (te_P.sP (te_P.sI (te_P.sI (te_P.sI (te_P.sI (te_P.sI (te_P.sI (te_P.mk e))))))) (by decide))
set_option maxRecDepth 100000 in
theorem te_hm_69 {h : fz_H} {E : List (Nat × Nat × Option Nat)} (e : te_P h E 264) : te_P (hm_69 h) ((196, 95, (some 264)) :: E) 265 := by
  unfold hm_69
  exact (te_P.sP (te_P.sI (te_P.sI (te_P.sI (te_P.sI (te_P.sI (te_P.sI (te_P.mk e))))))) (by decide))
set_option maxRecDepth 100000 in
theorem te_hm_70 {h : fz_H} {E : List (Nat × Nat × Option Nat)} (e : te_P h E 265) : te_P (hm_70 h) ((196, 96, (some 265)) :: E) 266 := by
  unfold hm_70
  exact (te_P.sP (te_P.sI (te_P.sI (te_P.sI (te_P.sI (te_P.sI (te_P.mk e)))))) (by decide))
set_option maxRecDepth 100000 in
theorem te_hm_71 {h : fz_H} {E : List (Nat × Nat × Option Nat)} (e : te_P h E 266) : te_P (hm_71 h) ((196, 97, (some 266)) :: E) 267 := by
  unfold hm_71
  exact (te_P.sP (te_P.sI (te_P.sI (te_P.sI (te_P.sI (te_P.mk e))))) (by decide))
set_option maxRecDepth 100000 in
theorem te_hm_72 {h : fz_H} {E : List (Nat × Nat × Option Nat)} (e : te_P h E 267) : te_P (hm_72 h) ((196, 98, (some 267)) :: E) 268 := by
  unfold hm_72
  exact (te_P.sP (te_P.sI (te_P.sI (te_P.sI (te_P.sI (te_P.sI (te_P.sI (te_P.sI (te_P.mk e)))))))) (by decide))
set_option maxRecDepth 100000 in
theorem te_hm_73 {h : fz_H} {E : List (Nat × Nat × Option Nat)} (e : te_P h E 268) : te_P (hm_73 h) ((196, 99, (some 268)) :: E) 269 := by
  unfold hm_73
  exact (te_P.sP (te_P.sI (te_P.sI (te_P.sI (te_P.sI (te_P.mk e))))) (by decide))
set_option maxRecDepth 100000 in
theorem te_hm_74 {h : fz_H} {E : List (Nat × Nat × Option Nat)} (e : te_P h E 269) : te_P (hm_74 h) ((196, 100, (some 269)) :: E) 270 := by
  unfold hm_74
  exact (te_P.sP (te_P.mk e) (by decide))
set_option maxRecDepth 100000 in
theorem te_hm_75 {h : fz_H} {E : List (Nat × Nat × Option Nat)} (e : te_P h E 270) : te_P (hm_75 h) ((196, 102, (some 270)) :: E) 271 := by
  unfold hm_75
  exact (te_P.sP (te_P.mk e) (by decide))
set_option maxRecDepth 100000 in
theorem te_hm_76 {h : fz_H} {E : List (Nat × Nat × Option Nat)} (e : te_P h E 271) : te_P (hm_76 h) ((196, 106, (some 271)) :: E) 272 := by
  unfold hm_76
  exact (te_P.sP (te_P.mk e) (by decide))
set_option maxRecDepth 100000 in
theorem te_hm_77 {h : fz_H} {E : List (Nat × Nat × Option Nat)} (e : te_P h E 272) : te_P (hm_77 h) ((196, 110, (some 272)) :: E) 273 := by
  unfold hm_77
  exact (te_P.sP (te_P.mk e) (by decide))
set_option maxRecDepth 100000 in
theorem te_hc_X12_init_196 {h : fz_H} {E : List (Nat × Nat × Option Nat)} (e : te_P h E 197) : te_P (hc_X12_init_196 h) ((196, 110, (some 272)) :: ((196, 106, (some 271)) :: ((196, 102, (some 270)) :: ((196, 100, (some 269)) :: ((196, 99, (some 268)) :: ((196, 98, (some 267)) :: ((196, 97, (some 266)) :: ((196, 96, (some 265)) :: ((196, 95, (some 264)) :: ((196, 94, (some 263)) :: ((196, 93, (some 262)) :: ((196, 92, (some 261)) :: ((196, 91, (some 260)) :: ((196, 90, (some 259)) :: ((196, 89, (some 258)) :: ((196, 88, (some 257)) :: ((196, 87, (some 256)) :: ((196, 86, (some 255)) :: ((196, 85, (some 254)) :: ((196, 84, (some 253)) :: ((196, 83, (some 252)) :: ((196, 82, (some 251)) :: ((196, 81, (some 250)) :: ((196, 80, (some 249)) :: ((196, 79, (some 248)) :: ((196, 78, (some 247)) :: ((196, 77, (some 246)) :: ((196, 76, (some 245)) :: ((196, 75, (some 244)) :: ((196, 71, (some 243)) :: ((196, 69, (some 242)) :: ((196, 68, (some 241)) :: ((196, 67, (some 240)) :: ((196, 65, (some 239)) :: ((196, 63, (some 238)) :: ((196, 62, (some 237)) :: ((196, 61, (some 236)) :: ((196, 60, (some 235)) :: ((196, 57, (some 234)) :: ((196, 55, (some 233)) :: ((196, 54, (some 232)) :: ((196, 49, (some 231)) :: ((196, 48, (some 230)) :: ((196, 47, (some 229)) :: ((196, 44, (some 228)) :: ((196, 43, (some 227)) :: ((196, 42, (some 226)) :: ((196, 41, (some 225)) :: ((196, 36, (some 224)) :: ((196, 35, (some 223)) :: ((196, 34, (some 222)) :: ((196, 33, (some 221)) :: ((196, 32, (some 220)) :: ((196, 31, (some 219)) :: ((196, 30, (some 218)) :: ((196, 29, (some 217)) :: ((196, 28, (some 216)) :: ((196, 27, (some 215)) :: ((196, 26, (some 214)) :: ((196, 25, (some 213)) :: ((196, 24, (some 212)) :: ((196, 23, (some 211)) :: ((196, 22, (some 210)) :: ((196, 21, (some 209)) :: ((196, 20, (some 208)) :: ((196, 19, (some 207)) :: ((196, 18, (some 206)) :: ((196, 17, (some 205)) :: ((196, 16, (some 204)) :: ((196, 15, (some 203)) :: ((196, 14, (some 202)) :: ((196, 13, (some 201)) :: ((196, 12, (some 200)) :: ((196, 11, (some 199)) :: ((196, 9, (some 198)) :: ((196, 0, (some 197)) :: E)))))))))))))))))))))))))))))))))))))))))))))))))))))))))))))))))))))))))))) 273 := by
  unfold hc_X12_init_196
  exact (te_hm_77 (te_hm_76 (te_hm_75 (te_hm_74 (te_hm_73 (te_hm_72 (te_hm_71 (te_hm_70 (te_hm_69 (te_hm_68 (te_hm_67 (te_hm_66 (te_hm_65 (te_hm_64 (te_hm_63 (te_hm_62 (te_hm_61 (te_hm_60 (te_hm_59 (te_hm_58 (te_hm_57 (te_hm_56 (te_hm_55 (te_hm_54 (te_hm_53 (te_hm_52 (te_hm_51 (te_hm_50 (te_hm_49 (te_hm_48 (te_hm_47 (te_hm_46 (te_hm_45 (te_hm_44 (te_hm_43 (te_hm_42 (te_hm_41 (te_hm_40 (te_hm_39 (te_hm_38 (te_hm_37 (te_hm_36 (te_hm_35 (te_hm_34 (te_hm_33 (te_hm_32 (te_hm_31 (te_hm_30 (te_hm_29 (te_hm_28 (te_hm_27 (te_hm_26 (te_hm_25 (te_hm_24 (te_hm_23 (te_hm_22 (te_hm_21 (te_hm_20 (te_hm_19 (te_hm_18 (te_hm_17 (te_hm_16 (te_hm_15 (te_hm_14 (te_hm_13 (te_hm_12 (te_hm_11 (te_hm_10 (te_hm_9 (te_hm_8 (te_hm_7 (te_hm_6 (te_hm_5 (te_hm_4 (te_hm_3 (te_hm_2 (te_hm_1 (te_hm_0 e))))))))))))))))))))))))))))))))))))))))))))))))))))))))))))))))))))))))))))))

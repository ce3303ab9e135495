/-! THE MODEL'S SUMS: codes and what waits -/
def ySt (f : Nat → Int32) : List Nat → Prop
  | [] => True
  | a :: t => f t.length = nI a ∧ ySt f t
theorem ySt.cong {f f' : Nat → Int32} : ∀ {st : List Nat}, (∀ k, k < st.length → f' k = f k) → ySt f st → ySt f' st
  | [], _, _ => trivial
  | _ :: t, h, hs => ⟨(h t.length (Nat.lt_succ_self _)).trans hs.1, ySt.cong (st := t) (fun k hk => h k (Nat.lt_succ_of_lt hk)) hs.2⟩
theorem Seg.snoc {f : Nat → Int32} {g : Nat → Nat} : ∀ {l : List Nat} {i c : Nat}, Seg f g i l → f (i + l.length) = nI (g c) → Seg f g i (l ++ [c])
  | [], i, c, _, h => ⟨h, trivial⟩
  | a :: l, i, c, hs, h => ⟨hs.1, Seg.snoc hs.2 (by rw [show i + 1 + l.length = i + (a :: l).length by simp only [List.length_cons]; omega]; exact h)⟩
def yQS (w : List Nat) (o : Nat) (L : List Nat) (bs tk : Nat) (m : fz_s) : Prop := m.1 196 53 = nI tk ∧ m.1 196 101 = nI L.length ∧ m.1 196 103 = nI w.length ∧ m.1 196 104 = nI o ∧ m.1 196 105 = nI bs ∧ ySt (m.1 270) w ∧ Seg (m.1 269) cM 0 L ∧ ∀ v, v ∈ w → v < 100
def pQs (a j : Nat) : Bool := decide (a = 269 ∨ a = 270 ∨ (a = 196 ∧ (j = 101 ∨ j = 103 ∨ j = 104 ∨ j = 105)))
theorem pQs_f {a j : Nat} (h : ¬ (a = 269 ∨ a = 270 ∨ (a = 196 ∧ (j = 101 ∨ j = 103 ∨ j = 104 ∨ j = 105)))) : pQs a j = false := decide_eq_false h
theorem pQs_t {a j : Nat} (h : a = 269 ∨ a = 270 ∨ (a = 196 ∧ (j = 101 ∨ j = 103 ∨ j = 104 ∨ j = 105))) : pQs a j = true := decide_eq_true h
def pQ (a j : Nat) : Bool := decide (a = 269 ∨ a = 270 ∨ (a = 196 ∧ (j = 2 ∨ j = 4 ∨ j = 5 ∨ j = 6 ∨ j = 10 ∨ j = 37 ∨ j = 101 ∨ j = 103 ∨ j = 104 ∨ j = 105)))
theorem pQ_f {a j : Nat} (h : ¬ (a = 269 ∨ a = 270 ∨ (a = 196 ∧ (j = 2 ∨ j = 4 ∨ j = 5 ∨ j = 6 ∨ j = 10 ∨ j = 37 ∨ j = 101 ∨ j = 103 ∨ j = 104 ∨ j = 105)))) : pQ a j = false := decide_eq_false h
theorem y_KQ {s s' : fz_s} (h : Fr pKt s s') : Fr pQ s s' := h.mono fun a j q => by
  have := of_decide_eq_false q
  exact pKt_f (by omega)
theorem y_SQ {s s' : fz_s} (h : Fr pQs s s') : Fr pQ s s' := h.mono fun a j q => by
  have := of_decide_eq_false q
  exact pQs_f (by omega)
theorem yQS.k {w : List Nat} {o : Nat} {L : List Nat} {bs tk : Nat} {m m' : fz_s} (h : yQS w o L bs tk m) (hF : Fr pKt m m') : yQS w o L bs tk m' := by
  obtain ⟨a1, a2, a3, a4, a5, a6, a7, a8⟩ := h
  exact ⟨(hF.i _ _ (pKt_f (by omega))).trans a1, (hF.i _ _ (pKt_f (by omega))).trans a2, (hF.i _ _ (pKt_f (by omega))).trans a3, (hF.i _ _ (pKt_f (by omega))).trans a4, (hF.i _ _ (pKt_f (by omega))).trans a5, a6.cong (fun k _ => hF.i _ _ (pKt_f (by omega))), a7.cong (fun k _ _ => hF.i _ _ (pKt_f (by omega))), a8⟩
theorem yPM.q {tp : Nat → Nat} {tn b : Nat} {so : Bool} {t : yTok} {a : Nat} {m m' : fz_s} (h : yPM tp tn b so t a m) (hF : Fr pQs m m') : yPM tp tn b so t a m' := h.k (hF.i _ _ (pQs_f (by omega))) (fun a j _ _ => hF.i _ _ (pQs_f (by omega))) (hF.i _ _ (pQs_f (by omega))) (hF.i _ _ (pQs_f (by omega))) (hF.i _ _ (pQs_f (by omega))) (hF.i _ _ (pQs_f (by omega)))
theorem yAd.q {tp : Nat → Nat} {tn e : Nat} {so : Bool} {m m' : fz_s} (h : yAd tp tn e so m) (hF : Fr pQs m m') : yAd tp tn e so m' := fun t' ht' => (h t' ht').q hF
theorem yFM.q {kd pl : Nat} {m m' : fz_s} (h : yFM kd pl m) (hF : Fr pQs m m') : yFM kd pl m' := ⟨h.1, h.2.1, (hF.i _ _ (pQs_f (by omega))).trans h.2.2.1, (hF.i _ _ (pQs_f (by omega))).trans h.2.2.2⟩
theorem y_qCode {w : List Nat} {o : Nat} {L : List Nat} {bs tk : Nat} {m : fz_s} (h : yQS w o L bs tk m) (hl : L.length < 1700) (c : Nat) {Q : fz_s → Prop} (hq : ∀ m', yQS w o (L ++ [c]) bs tk m' → Fr pQs m m' → Q m') : wp_X12_qCode (nI (cM c)) m Q := by
  obtain ⟨a1, a2, a3, a4, a5, a6, a7, a8⟩ := h
  unfold wp_X12_qCode
  rw [a2]
  refine ⟨N_in ⟨by omega, by omega⟩, fun s1 e1 s2 e2 => ?_⟩
  rw [N_cl (by omega)] at e1
  have r : s1.1 196 101 = nI L.length := by rw [e1, g_ne (by omega)]; exact a2
  rw [r, nI_1] at e2
  refine hq s2 ⟨?_, ?_, ?_, ?_, ?_, ?_, ?_, a8⟩ ?_
  · rw [e2, g_nj (by omega), e1, g_ne (by omega)]; exact a1
  · rw [e2, g_eq, List.length_append]; rfl
  · rw [e2, g_nj (by omega), e1, g_ne (by omega)]; exact a3
  · rw [e2, g_nj (by omega), e1, g_ne (by omega)]; exact a4
  · rw [e2, g_nj (by omega), e1, g_ne (by omega)]; exact a5
  · exact a6.cong (fun k _ => by rw [e2, g_ne (by omega), e1, g_ne (by omega)])
  · refine Seg.snoc (a7.cong (fun k _ hk => ?_)) ?_
    · rw [e2, g_ne (by omega), e1, g_nj (by omega)]
    · rw [e2, g_ne (by omega), e1, Nat.zero_add, g_eq]
  · rw [e2, e1]; exact (Fr.rf.si (pQs_t (by omega))).si (pQs_t (by omega))
theorem y_qCodeAny {n : Nat} {m : fz_s} (h : m.1 196 101 = nI n) (hl : n < 1700) (v : Int32) {Q : fz_s → Prop} (hq : ∀ m', Fr pQs m m' → Q m') : wp_X12_qCode v m Q := by
  unfold wp_X12_qCode
  rw [h]
  refine ⟨N_in ⟨by omega, by omega⟩, fun s1 e1 s2 e2 => hq s2 ?_⟩
  rw [e2, e1]; exact (Fr.rf.si (pQs_t (by omega))).si (pQs_t (by omega))
theorem y_push {w : List Nat} {o o' : Nat} {L : List Nat} {bs tk : Nat} {m s1 s2 s3 : fz_s} (h : yQS w o L bs tk m) (hl : w.length < 1700) {v : Nat} (hv : v < 100) (e1 : s1 = si m 196 104 (nI o')) (e2 : s2 = si s1 270 w.length (nI v)) (e3 : s3 = si s2 196 103 (nI (w.length + 1))) : yQS (v :: w) o' L bs tk s3 ∧ Fr pQs m s3 := by
  obtain ⟨a1, a2, a3, a4, a5, a6, a7, a8⟩ := h
  refine ⟨⟨?_, ?_, ?_, ?_, ?_, ⟨?_, ?_⟩, ?_, ?_⟩, ?_⟩
  · rw [e3, g_nj (by omega), e2, g_ne (by omega), e1, g_nj (by omega)]; exact a1
  · rw [e3, g_nj (by omega), e2, g_ne (by omega), e1, g_nj (by omega)]; exact a2
  · rw [e3, g_eq]; rfl
  · rw [e3, g_nj (by omega), e2, g_ne (by omega), e1, g_eq]
  · rw [e3, g_nj (by omega), e2, g_ne (by omega), e1, g_nj (by omega)]; exact a5
  · rw [e3, g_ne (by omega), e2, g_eq]
  · exact a6.cong (fun k hk => by rw [e3, g_ne (by omega), e2, g_nj (by omega), e1, g_ne (by omega)])
  · exact a7.cong (fun k _ _ => by rw [e3, g_ne (by omega), e2, g_ne (by omega), e1, g_ne (by omega)])
  · intro u hu
    rcases List.mem_cons.mp hu with rfl | hu
    · exact hv
    · exact a8 u hu
  · rw [e3, e2, e1]; exact ((Fr.rf.si (pQs_t (by omega))).si (pQs_t (by omega))).si (pQs_t (by omega))
theorem si_same {s : fz_s} {a j : Nat} {v : Int32} (h : s.1 a j = v) : Fr (fun _ _ => false) s (si s a j v) := fun b k _ => by
  rw [g_si]
  refine ⟨?_, rfl⟩
  split
  · rename_i c
    rw [c.1, c.2, h]
  · rfl
theorem y_qOpens {w : List Nat} {o : Nat} {L : List Nat} {bs tk : Nat} {m : fz_s} (h : yQS w o L bs tk m) (hb : m.1 196 5 = 0) (hl : w.length < 1700) (ho : o ≤ 6) {v pl : Nat} (hv : v < 100) (hp : pl < 2000) {Q : fz_s → Prop} (hT : o < 6 → ∀ m', yQS (v :: w) (o + 1) L bs tk m' → Fr pQs m m' → Q m') (hN : ¬ o < 6 → ∀ m', yFM 4 pl m' → Fr pKt m m' → Q m') : wp_X12_qOpens (nI v) (nI pl) m Q := by
  obtain ⟨a1, a2, a3, a4, a5, a6, a7, a8⟩ := id h
  unfold wp_X12_qOpens
  refine bt hb ?_
  rw [a4]
  by_cases c : o < 6
  · refine nt (by simp (disch := omega) only [N_lit, N_add, N_mul, N_sub, N_addneg, N_neg1, N_addm, N_le, N_lt, N_eq, N_in, N_cl, N_ne, N_ne', N_ltm, N_mlt, N_lem] <;> omega) (fun s1 e1 => ?_)
    rw [nI_1] at e1
    have r : s1.1 196 103 = nI w.length := by rw [e1, g_nj (by omega)]; exact a3
    rw [r]
    refine ⟨N_in ⟨by omega, by omega⟩, fun s2 e2 s3 e3 => ?_⟩
    rw [N_cl (by omega)] at e2
    have r2 : s2.1 196 103 = nI w.length := by rw [e2, g_ne (by omega)]; exact r
    rw [r2, nI_1] at e3
    obtain ⟨z1, z2⟩ := y_push h hl hv e1 e2 e3
    exact hT c s3 z1 z2
  · refine nf (by simp (disch := omega) only [N_lit, N_add, N_mul, N_sub, N_addneg, N_neg1, N_addm, N_le, N_lt, N_eq, N_in, N_cl, N_ne, N_ne', N_ltm, N_mlt, N_lem] <;> omega) ?_
    exact y_mfail hb (kd := 4) ⟨by omega, by omega⟩ hp (hN c)
theorem y_pop {v : Nat} {w : List Nat} {o o' : Nat} {L : List Nat} {bs tk : Nat} {m s1 s2 : fz_s} (h : yQS (v :: w) o L bs tk m) (e1 : s1 = si m 196 104 (nI o')) (e2 : s2 = si s1 196 103 (nI w.length)) : yQS w o' L bs tk s2 ∧ Fr pQs m s2 ∧ s2.1 270 w.length = nI v := by
  obtain ⟨a1, a2, a3, a4, a5, a6, a7, a8⟩ := h
  refine ⟨⟨?_, ?_, ?_, ?_, ?_, ?_, ?_, fun u hu => a8 u (List.mem_cons_of_mem _ hu)⟩, ?_, ?_⟩
  · rw [e2, g_nj (by omega), e1, g_nj (by omega)]; exact a1
  · rw [e2, g_nj (by omega), e1, g_nj (by omega)]; exact a2
  · rw [e2, g_eq]
  · rw [e2, g_nj (by omega), e1, g_eq]
  · rw [e2, g_nj (by omega), e1, g_nj (by omega)]; exact a5
  · exact a6.2.cong (fun k hk => by rw [e2, g_ne (by omega), e1, g_ne (by omega)])
  · exact a7.cong (fun k _ _ => by rw [e2, g_ne (by omega), e1, g_ne (by omega)])
  · rw [e2, e1]; exact (Fr.rf.si (pQs_t (by omega))).si (pQs_t (by omega))
  · rw [e2, g_ne (by omega), e1, g_ne (by omega)]; exact a6.1
theorem y_qDropsO {v c : Nat} {w : List Nat} {o o' : Nat} {L : List Nat} {bs tk : Nat} {m s0 : fz_s} (h : yQS (v :: w) o L bs tk m) (e0 : s0 = si m 196 104 (nI o')) (hc : v = cM c) (hl : L.length + w.length < 1700) {Q : fz_s → Prop} (hq : ∀ m', yQS w o' (L ++ [c]) bs tk m' → Fr pQs m m' → Q m') : wp_X12_qDrops s0 Q := by
  have a3 := h.2.2.1
  have el : (v :: w).length = w.length + 1 := rfl
  have r0 : s0.1 196 103 = nI (w.length + 1) := by rw [e0, g_nj (by omega)]; exact a3
  unfold wp_X12_qDrops
  rw [r0, show nI (w.length + 1) - 1 = nI w.length from N_sub (b := 1) (by omega)]
  intro s1 e1
  obtain ⟨z1, z2, z3⟩ := y_pop h e0 e1
  rw [z1.2.2.1]
  refine ⟨N_in ⟨by omega, by omega⟩, ?_⟩
  rw [N_cl (by omega), z3, hc]
  exact y_qCode z1 (by omega) c (fun m' h1 h2 => hq m' h1 (z2.tr h2))
theorem y_siT {P : Nat → Nat → Bool} {s s' : fz_s} (h : Fr (fun _ _ => false) s s') : Fr P s s' := h.mono fun _ _ _ => rfl
theorem y_qDrops {v c : Nat} {w : List Nat} {o : Nat} {L : List Nat} {bs tk : Nat} {m : fz_s} (h : yQS (v :: w) o L bs tk m) (hc : v = cM c) (hl : L.length + w.length < 1700) {Q : fz_s → Prop} (hq : ∀ m', yQS w o (L ++ [c]) bs tk m' → Fr pQs m m' → Q m') : wp_X12_qDrops m Q := by
  have a3 := h.2.2.1
  have el : (v :: w).length = w.length + 1 := rfl
  unfold wp_X12_qDrops
  rw [a3, el, show nI (w.length + 1) - 1 = nI w.length from N_sub (b := 1) (by omega)]
  intro s1 e1
  obtain ⟨a1, a2, a3, a4, a5, a6, a7, a8⟩ := h
  have z1 : yQS w o L bs tk s1 := ⟨by rw [e1, g_nj (by omega)]; exact a1, by rw [e1, g_nj (by omega)]; exact a2, by rw [e1, g_eq], by rw [e1, g_nj (by omega)]; exact a4, by rw [e1, g_nj (by omega)]; exact a5, a6.2.cong (fun k hk => by rw [e1, g_ne (by omega)]), a7.cong (fun k _ _ => by rw [e1, g_ne (by omega)]), fun u hu => a8 u (List.mem_cons_of_mem _ hu)⟩
  have z2 : Fr pQs m s1 := by rw [e1]; exact Fr.rf.si (pQs_t (by omega))
  have z3 : s1.1 270 w.length = nI v := by rw [e1, g_ne (by omega)]; exact a6.1
  rw [z1.2.2.1]
  refine ⟨N_in ⟨by omega, by omega⟩, ?_⟩
  rw [N_cl (by omega), z3, hc]
  exact y_qCode z1 (by omega) c (fun m' h1 h2 => hq m' h1 (z2.tr h2))
theorem y_qIsOn {w : List Nat} {o : Nat} {L : List Nat} {bs tk : Nat} {m : fz_s} (h : yQS w o L bs tk m) (hl : w.length < 1700) (v : Nat) (hv : v < 100) {Q : Bool → fz_s → Prop} (hT : (∃ w', w = v :: w') → Q true m) (hN : ¬ (∃ w', w = v :: w') → Q false m) : wp_X12_qIsOn (nI v) m Q := by
  obtain ⟨a1, a2, a3, a4, a5, a6, a7, a8⟩ := h
  unfold wp_X12_qIsOn
  rw [a3]
  cases w with
  | nil => exact bt (by decide +kernel) (hN (fun z => by obtain ⟨_, z⟩ := z; cases z))
  | cons u w =>
    have el : (u :: w).length = w.length + 1 := rfl
    have hu := a8 u List.mem_cons_self
    rw [el, show nI (w.length + 1) - 1 = nI w.length from N_sub (b := 1) (by omega)]
    refine bf (by simp (disch := omega) only [N_lit, N_add, N_mul, N_sub, N_addneg, N_neg1, N_addm, N_le, N_lt, N_eq, N_in, N_cl, N_ne, N_ne', N_ltm, N_mlt, N_lem] <;> omega) ⟨N_in ⟨by omega, by omega⟩, ?_⟩
    rw [N_cl (by omega), a6.1]
    by_cases c : u = v
    · exact nf (by rw [c]) (hT ⟨w, by rw [c]⟩)
    · refine nt (fun z => c ((N_eq ⟨by omega, by omega⟩).mp z)) (hN (fun z => ?_))
      obtain ⟨_, z⟩ := z
      cases z
      exact c rfl
theorem cM_op {v : Nat} (h : 1 ≤ v ∧ v ≤ 11) : v = cM (v + 20002) := by
  unfold cM
  rw [if_neg (by omega), if_neg (by omega), if_neg (by omega), if_neg (by omega), if_neg (by omega), if_neg (by omega)]
  omega
/-- what waits, as codes, in the order in which it is told -/
def ycs (p : List Nat) : List Nat := p.map (fun v => v + 20002)
/-- the bracket that is open last, above the base -/
def yBk (bs : Nat) (w : List Nat) (r : Int32) : Prop := (w.length = bs ∧ r = -1) ∨ (bs < w.length ∧ ∃ v w', w = v :: w' ∧ 20 ≤ v ∧ v ≤ 24 ∧ r = nI v)
theorem y_bklp {bs : Nat} {m : fz_s} {w : List Nat} {r : Int32} (hl : w.length < 1690) (hbk : yBk bs w r) {Q : Int32 → fz_s → Prop} (hq : Q r m) : ∀ (p : List Nat) (n : Nat), p.length + 1 < n → p.length < 10 → (∀ v, v ∈ p → v < 20) → m.1 196 105 = nI bs → ySt (m.1 270) (p ++ w) → (∀ v, v ∈ p ++ w → v < 100) → lp_X12_qBracket_7 Q n (iI (((p ++ w).length : Int) - 1)) m
  | p, 0, h1, _, _, _, _, _ => absurd h1 (by omega)
  | [], n + 1, h1, h1', h2, h3, h4, h5 => by
    show nd_X12_qBracket_7 (lp_X12_qBracket_7 Q n) Q (iI (((w.length : Nat) : Int) - 1)) m
    unfold nd_X12_qBracket_7
    rw [h3, i_nI]
    rcases hbk with ⟨z1, z2⟩ | ⟨z1, v, w', z2, z3, z4, z5⟩
    · refine bt (by simp (disch := omega) only [i_lit, i_nI, i_add, i_sub, i_mul, i_neg, i_le, i_lt, i_eq, i_in, i_cl] <;> omega) ?_
      unfold nd_X12_qBracket_33
      rw [h3, i_nI]
      refine bt (by simp (disch := omega) only [i_lit, i_nI, i_add, i_sub, i_mul, i_neg, i_le, i_lt, i_eq, i_in, i_cl] <;> omega) ?_
      rw [← z2]; exact hq
    · subst z2
      have el : (v :: w').length = w'.length + 1 := rfl
      have e1 : iI (((v :: w').length : Int) - 1) = nI w'.length := by
        rw [i_nI, el]
        congr 1
        omega
      have h4' : ySt (m.1 270) (v :: w') := h4
      refine bf (by simp (disch := omega) only [i_lit, i_nI, i_add, i_sub, i_mul, i_neg, i_le, i_lt, i_eq, i_in, i_cl] <;> omega) ?_
      rw [e1]
      refine ⟨N_in ⟨by omega, by omega⟩, ?_⟩
      rw [N_cl (by omega), h4'.1]
      unfold wp_X12_qIsBracket
      refine bf (by simp (disch := omega) only [N_lit, N_add, N_mul, N_sub, N_addneg, N_neg1, N_addm, N_le, N_lt, N_eq, N_in, N_cl, N_ne, N_ne', N_ltm, N_mlt, N_lem] <;> omega) (bf (by simp (disch := omega) only [N_lit, N_add, N_mul, N_sub, N_addneg, N_neg1, N_addm, N_le, N_lt, N_eq, N_in, N_cl, N_ne, N_ne', N_ltm, N_mlt, N_lem] <;> omega) (b1 ?_))
      unfold nd_X12_qBracket_33
      rw [h3]
      refine bf (by simp (disch := omega) only [N_lit, N_add, N_mul, N_sub, N_addneg, N_neg1, N_addm, N_le, N_lt, N_eq, N_in, N_cl, N_ne, N_ne', N_ltm, N_mlt, N_lem] <;> omega) ⟨N_in ⟨by omega, by omega⟩, ?_⟩
      rw [N_cl (by omega), h4'.1, ← z5]
      exact hq
  | v :: p, n + 1, h1, h1', h2, h3, h4, h5 => by
    have hv := h2 v List.mem_cons_self
    have el : (v :: p ++ w).length = (p ++ w).length + 1 := rfl
    have el2 : (p ++ w).length = p.length + w.length := List.length_append
    have el3 : (v :: p).length = p.length + 1 := rfl
    have e1 : iI (((v :: p ++ w).length : Int) - 1) = nI (p ++ w).length := by
      rw [i_nI, el]
      congr 1
      omega
    have hbs : bs ≤ w.length := by
      rcases hbk with ⟨z1, z2⟩ | ⟨z1, z2⟩ <;> omega
    have h4' : ySt (m.1 270) (v :: (p ++ w)) := h4
    rw [e1]
    show nd_X12_qBracket_7 (lp_X12_qBracket_7 Q n) Q (nI (p ++ w).length) m
    unfold nd_X12_qBracket_7
    rw [h3]
    refine bf (by simp (disch := omega) only [N_lit, N_add, N_mul, N_sub, N_addneg, N_neg1, N_addm, N_le, N_lt, N_eq, N_in, N_cl, N_ne, N_ne', N_ltm, N_mlt, N_lem] <;> omega) ⟨N_in ⟨by omega, by omega⟩, ?_⟩
    rw [N_cl (by omega), h4'.1]
    unfold wp_X12_qIsBracket
    refine bt (by simp (disch := omega) only [N_lit, N_add, N_mul, N_sub, N_addneg, N_neg1, N_addm, N_le, N_lt, N_eq, N_in, N_cl, N_ne, N_ne', N_ltm, N_mlt, N_lem] <;> omega) (b4 (fun x3 e3 => ?_))
    have e4 : nI (p ++ w).length + -1 = iI (((p ++ w).length : Int) - 1) := by
      rw [i_nI, show (-1 : Int32) = iI (-1) by decide +kernel, i_add]
      rfl
    rw [e3, e4]
    exact y_bklp hl hbk hq p n (by omega) (by omega) (fun u hu => h2 u (List.mem_cons_of_mem _ hu)) h3 h4'.2 (fun u hu => h5 u (List.mem_cons_of_mem _ hu))
theorem y_qBracket {p w : List Nat} {o : Nat} {L : List Nat} {bs tk : Nat} {m : fz_s} (h : yQS (p ++ w) o L bs tk m) (hl : (p ++ w).length < 1690 ∧ p.length < 10) (hp : ∀ v, v ∈ p → v < 20) {r : Int32} (hbk : yBk bs w r) {Q : Int32 → fz_s → Prop} (hq : Q r m) : wp_X12_qBracket m Q := by
  obtain ⟨a1, a2, a3, a4, a5, a6, a7, a8⟩ := h
  have el2 : (p ++ w).length = p.length + w.length := List.length_append
  unfold wp_X12_qBracket
  intro x1 e1
  have e2 : x1 = iI (((p ++ w).length : Int) - 1) := by
    rw [e1, a3, i_nI]
    show iI _ - iI 1 = _
    rw [i_sub]
  rw [e2]
  exact y_bklp (by omega) hbk hq p 2048 (by omega) hl.2 hp a5 a6 a8

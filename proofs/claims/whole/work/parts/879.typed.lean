/-! CODES THAT TELL A VALUE -/
def yEv (sc : Nat → Bool) (ty : Bool) (d : Nat) (l : List Nat) : Prop := ∃ f : (Nat → Int) → Int, ∀ σ : Nat → Int, (∀ k, sc k = true → bd (σ k)) → bd (f σ) ∧ (ty = true → f σ = 0 ∨ f σ = 1) ∧ ∀ st : List Int, st.length + d ≤ 64 → evl σ sc l st = some (f σ :: st)
theorem yEv.mono {sc : Nat → Bool} {ty : Bool} {d d' : Nat} {l : List Nat} (h : yEv sc ty d l) (hd : d ≤ d') : yEv sc ty d' l := by
  obtain ⟨f, hf⟩ := h
  exact ⟨f, fun σ hσ => ⟨(hf σ hσ).1, (hf σ hσ).2.1, fun st hst => (hf σ hσ).2.2 st (by omega)⟩⟩
theorem yEv.dn {sc : Nat → Bool} {ty : Bool} {d : Nat} {l : List Nat} (h : yEv sc ty d l) (hd : d ≤ 64) : ∃ f, Dn sc ty l f := by
  obtain ⟨f, hf⟩ := h
  exact ⟨f, fun σ hσ => ⟨(hf σ hσ).2.2 [] (by show 0 + d ≤ 64; omega), (hf σ hσ).1, (hf σ hσ).2.1⟩⟩
theorem y_ev1 {σ : Nat → Int} {sc : Nat → Bool} {c : Nat} {st st' : List Int} (h : stp σ sc c st = some st') : evl σ sc [c] st = some st' := by
  show (stp σ sc c st).bind (evl σ sc []) = some st'
  rw [h]
  rfl
theorem yEv.num {sc : Nat → Bool} {c : Nat} (h : c ≤ 9999) : yEv sc false 1 [c] := by
  refine ⟨fun _ => (c : Int), fun σ _ => ⟨(by show bd (c : Int); unfold bd; omega), fun z => (by cases z), fun st hst => y_ev1 ?_⟩⟩
  unfold stp
  rw [if_neg (by omega), if_pos (by omega), if_pos (by omega)]
theorem yEv.slot {sc : Nat → Bool} {k : Nat} (hk : k < 11) (hs : sc k = true) : yEv sc false 1 [10000 + k] := by
  refine ⟨fun σ => σ k, fun σ hσ => ⟨hσ k hs, fun z => (by cases z), fun st hst => y_ev1 ?_⟩⟩
  unfold stp
  rw [if_neg (by omega), if_neg (by omega), if_pos (by omega), show 10000 + k - 10000 = k by omega, if_pos ⟨by omega, hs, hk⟩]
theorem yEv.all {sc : Nat → Bool} : yEv sc true 1 [30000] := by
  refine ⟨fun _ => 1, fun σ _ => ⟨(by show bd 1; unfold bd; omega), fun _ => Or.inr rfl, fun st hst => y_ev1 ?_⟩⟩
  unfold stp
  rw [if_pos rfl, if_pos (by omega)]
theorem yEv.op {sc : Nat → Bool} {t1 t2 : Bool} {d1 d2 D c : Nat} {l1 l2 : List Nat} (h1 : yEv sc t1 d1 l1) (h2 : yEv sc t2 d2 l2) (hc : 20003 ≤ c ∧ c ≤ 20013) (ht : 20012 ≤ c → t1 = true ∧ t2 = true) (hd : d1 ≤ D ∧ d2 + 1 ≤ D) : yEv sc (decide (20009 ≤ c)) D (l1 ++ l2 ++ [c]) := by
  obtain ⟨f, hf⟩ := h1
  obtain ⟨g, hg⟩ := h2
  refine ⟨fun σ => op2 (c - 20003) (f σ) (g σ), fun σ hσ => ?_⟩
  obtain ⟨f1, f2, f3⟩ := hf σ hσ
  obtain ⟨g1, g2, g3⟩ := hg σ hσ
  have hb : 9 ≤ c - 20003 → (f σ = 0 ∨ f σ = 1) ∧ (g σ = 0 ∨ g σ = 1) := fun z => ⟨f2 (ht (by omega)).1, g2 (ht (by omega)).2⟩
  refine ⟨op2_bd f1 g1 hb, fun z => ?_, fun st hst => ?_⟩
  · have z := of_decide_eq_true z
    show op2 (c - 20003) (f σ) (g σ) = 0 ∨ op2 (c - 20003) (f σ) (g σ) = 1
    unfold op2
    rw [if_neg (by omega), if_neg (by omega), if_neg (by omega), if_neg (by omega), if_neg (by omega), if_neg (by omega)]
    split
    · split
      · exact Or.inr rfl
      · exact Or.inl rfl
    split
    · split
      · exact Or.inr rfl
      · exact Or.inl rfl
    split
    · split
      · exact Or.inr rfl
      · exact Or.inl rfl
    split
    · rename_i q
      obtain ⟨z1, z2⟩ := hb (by omega)
      rcases z1 with z1 | z1 <;> rcases z2 with z2 | z2 <;> rw [z1, z2]
      · exact Or.inl rfl
      · exact Or.inl rfl
      · exact Or.inl rfl
      · exact Or.inr rfl
    · split
      · exact Or.inr rfl
      · exact Or.inl rfl
  · rw [evl_app, evl_app, f3 st (by omega)]
    show ((evl σ sc l2 (f σ :: st)).bind (evl σ sc [c])) = _
    rw [g3 (f σ :: st) (by rw [List.length_cons]; omega)]
    show evl σ sc [c] (g σ :: f σ :: st) = _
    refine y_ev1 ?_
    unfold stp
    rw [if_neg (by omega), if_neg (by omega), if_neg (by omega)]
    show (if c = 20000 then _ else if c = 20001 then _ else if c = 20002 then _ else if c ≤ 20013 ∧ (20012 ≤ c → (f σ = 0 ∨ f σ = 1) ∧ (g σ = 0 ∨ g σ = 1)) then some (op2 (c - 20003) (f σ) (g σ) :: st) else none) = _
    rw [if_neg (by omega), if_neg (by omega), if_neg (by omega), if_pos ⟨hc.2, fun z => hb (by omega)⟩]
theorem yEv.not {sc : Nat → Bool} {d : Nat} {l : List Nat} (h : yEv sc true d l) : yEv sc true d (l ++ [20000]) := by
  obtain ⟨f, hf⟩ := h
  refine ⟨fun σ => 1 - f σ, fun σ hσ => ?_⟩
  obtain ⟨f1, f2, f3⟩ := hf σ hσ
  have z := f2 rfl
  refine ⟨(by show bd (1 - f σ); unfold bd; omega), fun _ => (by show 1 - f σ = 0 ∨ 1 - f σ = 1; omega), fun st hst => ?_⟩
  rw [evl_app, f3 st (by omega)]
  show evl σ sc [20000] (f σ :: st) = _
  refine y_ev1 ?_
  show (if f σ = 0 ∨ f σ = 1 then some ((1 - f σ) :: st) else none) = _
  rw [if_pos z]
theorem yEv.of1 {sc : Nat → Bool} {d : Nat} {l : List Nat} (h : yEv sc false d l) (h11 : sc 11 = true) (h12 : sc 12 = true) : yEv sc false d (l ++ [20001]) := by
  obtain ⟨f, hf⟩ := h
  refine ⟨fun σ => if f σ = 0 then σ 11 else if f σ = 1 then σ 12 else 0, fun σ hσ => ?_⟩
  obtain ⟨f1, f2, f3⟩ := hf σ hσ
  refine ⟨?_, fun z => (by cases z), fun st hst => ?_⟩
  · show bd (if f σ = 0 then σ 11 else if f σ = 1 then σ 12 else 0)
    split
    · exact hσ 11 h11
    · split
      · exact hσ 12 h12
      · unfold bd; omega
  · rw [evl_app, f3 st (by omega)]
    show evl σ sc [20001] (f σ :: st) = _
    refine y_ev1 ?_
    show (if sc 11 = true then some ((if f σ = 0 then σ 11 else if f σ = 1 then σ 12 else 0) :: st) else none) = _
    rw [if_pos h11]
theorem yEv.of2 {sc : Nat → Bool} {d : Nat} {l : List Nat} (h : yEv sc false d l) (h11 : sc 13 = true) (h12 : sc 14 = true) : yEv sc false d (l ++ [20002]) := by
  obtain ⟨f, hf⟩ := h
  refine ⟨fun σ => if f σ = 0 then σ 13 else if f σ = 1 then σ 14 else 0, fun σ hσ => ?_⟩
  obtain ⟨f1, f2, f3⟩ := hf σ hσ
  refine ⟨?_, fun z => (by cases z), fun st hst => ?_⟩
  · show bd (if f σ = 0 then σ 13 else if f σ = 1 then σ 14 else 0)
    split
    · exact hσ 13 h11
    · split
      · exact hσ 14 h12
      · unfold bd; omega
  · rw [evl_app, f3 st (by omega)]
    show evl σ sc [20002] (f σ :: st) = _
    refine y_ev1 ?_
    show (if sc 13 = true then some ((if f σ = 0 then σ 13 else if f σ = 1 then σ 14 else 0) :: st) else none) = _
    rw [if_pos h11]
def ysc (tk : Nat) : Nat → Bool := if tk = 0 then scR 0 else if tk = 1 then scR 3 else scQ
theorem y_sc_al {tk k : Nat} (htk : tk ≤ 2) (hk : k ≤ 10) (h : yal tk k) : ysc tk k = true := by
  unfold yal at h
  unfold ysc
  split
  · unfold scR
    rw [if_neg (by omega)]
    exact decide_eq_true (by omega)
  · split
    · unfold scR
      rw [if_pos rfl]
      exact decide_eq_true (by omega)
    · unfold scQ
      exact decide_eq_true (by omega)
/-! THE CLASS'S CODES -/
def yscp (tk : Nat) : Nat := if tk = 0 then 127 else if tk = 1 then 135 else 1916
def yGS (cd f tk : Nat) (L : List Nat) (x : fz_s) : Prop := x.2.2 = some cd ∧ (cd = 25 ∨ cd = 29) ∧ x.1 5 2 = nI (yscp tk) ∧ x.1 5 3 = nI (if tk = 2 then 1 else 0) ∧ x.1 5 4 = nI (f + L.length) ∧ Seg (x.1 cd) cC f L
def pGr (cd f a j : Nat) : Bool := decide (a = 4 ∨ (a = 5 ∧ j = 4) ∨ (a = cd ∧ f ≤ j))
theorem pGr_f {cd f a j : Nat} (h : ¬ (a = 4 ∨ (a = 5 ∧ j = 4) ∨ (a = cd ∧ f ≤ j))) : pGr cd f a j = false := decide_eq_false h
theorem pGr_t {cd f a j : Nat} (h : a = 4 ∨ (a = 5 ∧ j = 4) ∨ (a = cd ∧ f ≤ j)) : pGr cd f a j = true := decide_eq_true h
theorem y_4G {cd f : Nat} {s s' : fz_s} (h : yFC p4 s s') : yFC (pGr cd f) s s' := h.mono fun a j q => by
  have := of_decide_eq_false q
  exact p4_f (by omega)
theorem y_nG {cd f : Nat} {s s' : fz_s} (h : yFC p4n s s') : yFC (pGr cd f) s s' := y_4G (y_n4 h)
theorem yGS.x {cd f tk : Nat} {L : List Nat} {x x' : fz_s} (h : yGS cd f tk L x) (hF : yFC p4 x x') : yGS cd f tk L x' := by
  obtain ⟨a1, a2, a3, a4, a5, a6⟩ := h
  exact ⟨hF.2.trans a1, a2, (hF.1.i _ _ (p4_f (by omega))).trans a3, (hF.1.i _ _ (p4_f (by omega))).trans a4, (hF.1.i _ _ (p4_f (by omega))).trans a5, a6.cong (fun k _ _ => hF.1.i _ _ (p4_f (by omega)))⟩
theorem y_done {tp : Nat → Nat} {tn b : Nat} {so : Bool} {t : yTok} {cd f tk : Nat} {L : List Nat} {x : fz_s} (hX : yPX tp tn b so t x) (hG : yGS cd f tk L x) (hl : f + L.length < 1632) (c : Nat) {Q : Bool → fz_s → Prop} (hq : ∀ x', yPX tp tn b so t x' → yGS cd f tk (L ++ [c]) x' → yFC (pGr cd f) x x' → Q true x') : wp_X2_done (nI (cC c)) x Q := by
  obtain ⟨a1, a2, a3, a4, a5, a6⟩ := hG
  have hat : fz_at true cd 14 1632 := by
    rcases a2 with rfl | rfl
    · exact ca_25
    · exact ca_29
  unfold wp_X2_done wp_X2_put
  rw [a5]
  refine ⟨cd, a1, hat, bf (by simp (disch := omega) only [N_lit, N_add, N_mul, N_sub, N_addneg, N_neg1, N_addm, N_le, N_lt, N_eq, N_in, N_cl, N_ne, N_ne', N_ltm, N_mlt, N_lem] <;> omega) ⟨cd, a1, hat, bf (by simp (disch := omega) only [N_lit, N_add, N_mul, N_sub, N_addneg, N_neg1, N_addm, N_le, N_lt, N_eq, N_in, N_cl, N_ne, N_ne', N_ltm, N_mlt, N_lem] <;> omega) ⟨cd, a1, hat, N_in ⟨by omega, by omega⟩, fun s4 e4 s5 e5 => ?_⟩⟩⟩
  rw [N_cl (by omega)] at e4
  have r4 : s4.1 5 4 = nI (f + L.length) := by rw [e4, g_ne (by omega)]; exact a5
  rw [r4, nI_1] at e5
  have hcd : cd ≠ 3 ∧ cd ≠ 4 ∧ cd ≠ 5 := by omega
  refine hq s5 ?_ ⟨?_, a2, ?_, ?_, ?_, ?_⟩ ?_
  · exact hX.fr (fun j _ => by rw [e5, g_ne (by omega), e4, g_ne (by omega)]) (fun j _ => by rw [e5, g_ne (by omega), e4, g_ne (by omega)])
  · rw [e5, e4]; exact a1
  · rw [e5, g_nj (by omega), e4, g_ne (by omega)]; exact a3
  · rw [e5, g_nj (by omega), e4, g_ne (by omega)]; exact a4
  · rw [e5, g_eq, List.length_append]; rfl
  · refine Seg.snoc (a6.cong (fun k _ hk => ?_)) ?_
    · rw [e5, g_ne (by omega), e4, g_nj (by omega)]
    · rw [e5, g_ne (by omega), e4, g_eq]
  · rw [e5, e4]; exact (yFC.rf.si (pGr_t (Or.inr (Or.inr ⟨rfl, by omega⟩)))).si (pGr_t (Or.inr (Or.inl ⟨rfl, rfl⟩)))
theorem cC_id {c : Nat} (h : c ≠ 30000) : cC c = c := if_neg h
theorem y_opens {tp : Nat → Nat} {tn b : Nat} {so : Bool} {t : yTok} {x : fz_s} (hX : yPX tp tn b so t x) {o : Nat} (ho : o ≤ 6) {Q : Bool → fz_s → Prop} (hT : o < 6 → ∀ t' x', yPX tp tn t.2.1 (ySo t) t' x' → yFC p4n x x' → Q true x') (hN : ¬ o < 6 → ∀ x', yFX 4 t.1 x' → yFC p4 x x' → Q false x') : wp_X2_opens (nI o) x Q := by
  unfold wp_X2_opens
  by_cases c : o < 6
  · exact bt (by simp (disch := omega) only [N_lit, N_add, N_mul, N_sub, N_addneg, N_neg1, N_addm, N_le, N_lt, N_eq, N_in, N_cl, N_ne, N_ne', N_ltm, N_mlt, N_lem] <;> omega) (y_next hX (fun t' x' h1 h2 => hT c t' x' h1 h2))
  · refine bf (by simp (disch := omega) only [N_lit, N_add, N_mul, N_sub, N_addneg, N_neg1, N_addm, N_le, N_lt, N_eq, N_in, N_cl, N_ne, N_ne', N_ltm, N_mlt, N_lem] <;> omega) ?_
    rw [hX.2.2.2.2.1]
    exact y_fail (kd := 4) ⟨by omega, by omega⟩ (by have := hX.1.1; have := hX.2.1.2.1; omega) (hN c)
theorem y_bits : ∀ tk, tk < 3 → ∀ k, k < 11 → ((((nI (yscp tk)) >>> ((nI k) &&& 31)) &&& 1) = 0 ↔ ¬ ((tk = 0 ∧ k < 7) ∨ (tk = 1 ∧ (k < 3 ∨ k = 7)) ∨ (tk = 2 ∧ 1 < k ∧ k ≠ 7))) := by decide +kernel
theorem y_slot {tp : Nat → Nat} {tn b : Nat} {so : Bool} {t : yTok} {cd f tk : Nat} {L : List Nat} {x : fz_s} (hX : yPX tp tn b so t x) (hG : yGS cd f tk L x) (hl : f + L.length < 1632) (htk : tk ≤ 2) {Q : Bool → fz_s → Prop} (hT : ∀ k : Nat, k ≤ 10 → yWo t k → yal tk k → ∀ t' x', yPX tp tn t.2.1 true t' x' → yGS cd f tk (L ++ [10000 + k]) x' → yFC (pGr cd f) x x' → Q true x') (hN : ¬ (t.2.2.1 = 1 ∧ (0 ≤ t.2.2.2 ∧ t.2.2.2 ≤ 10) ∧ yal tk t.2.2.2) → ∀ x', yFX 1 t.1 x' → yFC p4 x x' → Q false x') : wp_X2_slot x Q := by
  obtain ⟨a1, a2, a3, a4, a5, a6, a7, a8⟩ := id hX
  have hk4 : t.2.2.1 ≤ 4 := by
    rcases a2.2.2.2.2 with z | z | z | z | z <;> omega
  have no : ¬ (t.2.2.1 = 1 ∧ (0 ≤ t.2.2.2 ∧ t.2.2.2 ≤ 10) ∧ yal tk t.2.2.2) → nd_X2_slot_44 Q x := fun z => y_failHere hX (hN z)
  unfold wp_X2_slot
  rw [a4]
  by_cases c1 : t.2.2.1 = 1
  · have hw := (a2.wn c1).lo
    refine nf (by simp (disch := omega) only [N_lit, N_add, N_mul, N_sub, N_addneg, N_neg1, N_addm, N_le, N_lt, N_eq, N_in, N_cl, N_ne, N_ne', N_ltm, N_mlt, N_lem] <;> omega) ?_
    rw [a6 c1]
    unfold nd_X2_slot_22
    have e0 : (iI t.2.2.2 < 0) ↔ t.2.2.2 < 0 := i_lt (b := 0) ⟨⟨by omega, by omega⟩, by omega, by omega⟩
    have e1 : (10 < iI t.2.2.2) ↔ 10 < t.2.2.2 := i_lt (a := 10) ⟨⟨by omega, by omega⟩, by omega, by omega⟩
    by_cases c2 : t.2.2.2 < 0
    · exact bt (e0.mpr c2) (no (fun z => by omega))
    refine bf (fun z => c2 (e0.mp z)) ?_
    by_cases c3 : 10 < t.2.2.2
    · exact bt (e1.mpr c3) (no (fun z => by omega))
    refine bf (fun z => c3 (e1.mp z)) ?_
    obtain ⟨j, hj⟩ : ∃ j : Nat, t.2.2.2 = (j : Int) := ⟨t.2.2.2.toNat, by omega⟩
    have hb := y_bits tk (by omega) j (by omega)
    rw [hj, ← i_nI, hG.2.2.1]
    by_cases c4 : yal tk (j : Int)
    · have c4' : (tk = 0 ∧ j < 7) ∨ (tk = 1 ∧ (j < 3 ∨ j = 7)) ∨ (tk = 2 ∧ 1 < j ∧ j ≠ 7) := by
        unfold yal at c4
        omega
      refine nt (fun z => (hb.mp z) c4') ?_
      refine y_next hX (fun t' x1 h1 F1 => ?_)
      have e : ySo t = true := decide_eq_true (Or.inl c1)
      rw [e] at h1
      have e2 : (10000 : Int32) + nI j = nI (cC (10000 + j)) := by
        rw [cC_id (by omega)]
        exact N_add 10000 j
      rw [e2]
      exact y_done h1 (hG.x (y_n4 F1)) hl _ (fun x2 h2 g2 F2 => hT j (by omega) ⟨c1, hj⟩ c4 t' x2 h2 g2 ((y_nG F1).tr F2))
    · have c4' : ¬ ((tk = 0 ∧ j < 7) ∨ (tk = 1 ∧ (j < 3 ∨ j = 7)) ∨ (tk = 2 ∧ 1 < j ∧ j ≠ 7)) := by
        unfold yal at c4
        omega
      exact nf (hb.mpr c4') (no (fun z => c4 (by rw [← hj]; exact z.2.2)))
  · refine nt (by simp (disch := omega) only [N_lit, N_add, N_mul, N_sub, N_addneg, N_neg1, N_addm, N_le, N_lt, N_eq, N_in, N_cl, N_ne, N_ne', N_ltm, N_mlt, N_lem] <;> omega) ?_
    unfold nd_X2_slot_22
    exact bt (by decide +kernel) (no (fun z => c1 z.1))

/-! CLASS AND MODEL READ TESTS ALIKE -/
def yTw (w : List Nat) : Prop := ∀ v, v ∈ w → v = 10 ∨ v = 11 ∨ v = 12 ∨ v = 25
def yNb (w : List Nat) : Prop := ¬ ∃ v w', w = v :: w' ∧ (v = 10 ∨ v = 12)
def yNe (w : List Nat) : Prop := ¬ ∃ v w', w = v :: w' ∧ (v = 10 ∨ v = 11 ∨ v = 12)
def yOKf (tp : Nat → Nat) (tn tk o b : Nat) (so : Bool) (t : yTok) (b' : Nat) (so' : Bool) (t' : yTok) (l : List Nat) : Prop := ∀ (Q : fz_s → Prop) (w L : List Nat) (bs a f1 : Nat) (m : fz_s), yPM tp tn b so t a m → yQS w o L bs tk m → L.length + w.length ≤ b → tn + 3 ≤ f1 + b → yTw w → (∀ (f1' f4 : Nat) (C : fz_s → Prop) (m' : fz_s), tn + 3 ≤ f1' + b' → w.length + 2 ≤ f4 → (∀ m'' : fz_s, m''.1 196 5 = 0 → (∀ f3, tn + 3 ≤ f3 + b' → yGT Q f1' f3 m'') → C m'') → (∃ a', yPM tp tn b' so' t' a' m') → yQS w o (L ++ l) bs tk m' → Fr pQ m m' → lp_X12_qDropsNots_0 C f4 m') → lp_X12_qTest_2 Q f1 true m
def yNOf (tp : Nat → Nat) (tn tk o b : Nat) (so : Bool) (t : yTok) (kd pl : Nat) : Prop := ∀ (Q : fz_s → Prop) (w L : List Nat) (bs a f1 : Nat) (m : fz_s), yPM tp tn b so t a m → yQS w o L bs tk m → L.length + w.length ≤ b → tn + 3 ≤ f1 + b → yTw w → (∀ m', yFM kd pl m' → Fr pQ m m' → Q m') → lp_X12_qTest_2 Q f1 true m
def yOKb (tp : Nat → Nat) (tn tk o b : Nat) (so : Bool) (t : yTok) (b' : Nat) (so' : Bool) (t' : yTok) (l : List Nat) : Prop := ∀ (Q : fz_s → Prop) (w L : List Nat) (bs a f1 : Nat) (m : fz_s), yPM tp tn b so t a m → yQS w o L bs tk m → L.length + w.length ≤ b → tn + 3 ≤ f1 + b → yTw w → yNb w → (∀ (f1' f3 : Nat) (m' : fz_s) (p Lm : List Nat), tn + 3 ≤ f1' + b' → tn + 3 ≤ f3 + b' → ((∀ v, v ∈ p → v = 10) ∧ p.length ≤ 1) → Lm ++ ycs p = L ++ l → (∃ a', yPM tp tn b' so' t' a' m') → yQS (p ++ w) o Lm bs tk m' → Fr pQ m m' → yGT Q f1' f3 m') → lp_X12_qTest_2 Q f1 true m
def yNOb (tp : Nat → Nat) (tn tk o b : Nat) (so : Bool) (t : yTok) (kd pl : Nat) : Prop := ∀ (Q : fz_s → Prop) (w L : List Nat) (bs a f1 : Nat) (m : fz_s), yPM tp tn b so t a m → yQS w o L bs tk m → L.length + w.length ≤ b → tn + 3 ≤ f1 + b → yTw w → yNb w → (∀ m', yFM kd pl m' → Fr pQ m m' → Q m') → lp_X12_qTest_2 Q f1 true m
def yOKe (tp : Nat → Nat) (tn tk o b : Nat) (so : Bool) (t : yTok) (b' : Nat) (so' : Bool) (t' : yTok) (l : List Nat) : Prop := ∀ (Q : fz_s → Prop) (w L : List Nat) (bs a f1 : Nat) (m : fz_s), yPM tp tn b so t a m → yQS w o L bs tk m → L.length + w.length ≤ b → tn + 3 ≤ f1 + b → yTw w → yNe w → (∀ (f1' f3 : Nat) (m' : fz_s) (p Lm : List Nat), tn + 3 ≤ f1' + b' → tn + 3 ≤ f3 + b' → ((∀ v, v ∈ p → v = 10 ∨ v = 11) ∧ p.length ≤ 2) → Lm ++ ycs p = L ++ l → (∃ a', yPM tp tn b' so' t' a' m') → yQS (p ++ w) o Lm bs tk m' → Fr pQ m m' → yGT Q f1' f3 m') → lp_X12_qTest_2 Q f1 true m
def yNOe (tp : Nat → Nat) (tn tk o b : Nat) (so : Bool) (t : yTok) (kd pl : Nat) : Prop := ∀ (Q : fz_s → Prop) (w L : List Nat) (bs a f1 : Nat) (m : fz_s), yPM tp tn b so t a m → yQS w o L bs tk m → L.length + w.length ≤ b → tn + 3 ≤ f1 + b → yTw w → yNe w → (∀ m', yFM kd pl m' → Fr pQ m m' → Q m') → lp_X12_qTest_2 Q f1 true m
theorem yTw.n14 {w : List Nat} (h : yTw w) : yN14 w := fun z => by
  obtain ⟨v, w', z1, z2⟩ := z
  have := h v (by rw [z1]; exact List.mem_cons_self)
  omega
theorem yTw.c {v : Nat} {w : List Nat} (h : yTw w) (hv : v = 10 ∨ v = 11 ∨ v = 12 ∨ v = 25) : yTw (v :: w) := fun u hu => by
  rcases List.mem_cons.mp hu with rfl | hu
  · exact hv
  · exact h u hu
theorem y_qs_b {w : List Nat} {o : Nat} {L : List Nat} {bs bs' tk : Nat} {m s2 : fz_s} (h : yQS w o L bs tk m) (e2 : s2 = si m 196 105 (nI bs')) : yQS w o L bs' tk s2 ∧ Fr pQs m s2 := by
  obtain ⟨a1, a2, a3, a4, a5, a6, a7, a8⟩ := h
  refine ⟨⟨?_, ?_, ?_, ?_, ?_, ?_, ?_, a8⟩, ?_⟩
  · rw [e2, g_nj (by omega)]; exact a1
  · rw [e2, g_nj (by omega)]; exact a2
  · rw [e2, g_nj (by omega)]; exact a3
  · rw [e2, g_nj (by omega)]; exact a4
  · rw [e2, g_eq]
  · exact a6.cong (fun k hk => by rw [e2, g_ne (by omega)])
  · exact a7.cong (fun k _ _ => by rw [e2, g_ne (by omega)])
  · rw [e2]; exact Fr.rf.si (pQs_t (by omega))
theorem y_qSumsOK {tp : Nat → Nat} {tn tk o : Nat} {b : Nat} {so : Bool} {t : yTok} {b' : Nat} {so' : Bool} {t' : yTok} {l : List Nat} (hO : yOKs tp tn tk o b so t b' so' t' l) (hnp : yNop tp t') (hT' : yTS tp tn b' so' t') (hb : b < b' ∧ l.length + b ≤ b') {w L : List Nat} {bs a : Nat} {m : fz_s} (hP : yPM tp tn b so t a m) (hS : yQS w o L bs tk m) (hl : L.length + w.length ≤ b) (hw : yN14 w) {Q : fz_s → Prop} (hq : ∀ m', yPM tp tn b' so' t' t'.1 m' → yQS w o (L ++ l) bs tk m' → Fr pQ m m' → Q m') : wp_X12_qSums m Q := by
  have hn0 := hP.1.1
  have hb1 := hT'.1
  have hb2 := hT'.2.1
  unfold wp_X12_qSums
  intro x1 e1 s2 e2
  rw [hS.2.2.2.2.1] at e1
  rw [hS.2.2.1] at e2
  obtain ⟨S2, F2⟩ := y_qs_b hS e2
  have P2 := hP.q F2
  rw [e1]
  refine y_sumsA P2.2.2.2.2.2.1 (by omega) (hO Q (nI bs) w L w.length a 2047 2048 s2 P2 S2 (Nat.le_refl _) hl (by omega) (by omega) ⟨-1, Or.inl ⟨rfl, rfl⟩⟩ hw (fun f1' f3 m1 p Lm hf1 hf3 hp hLm hP1 hS1 hF1 => ?_))
  obtain ⟨a1, hP1⟩ := hP1
  have hlen := y_len hLm
  refine y_B_end hP1 hS1 (by rw [List.length_append]; omega) ⟨hp.1, by have := hp.2; omega⟩ rfl hnp ⟨by omega, by omega⟩ (fun m3 hP3 hS3 hF3 => hq m3 hP3 ?_ ((y_SQ F2).tr (hF1.tr hF3)))
  rw [hLm] at hS3
  exact hS3
theorem y_qSumsNO {tp : Nat → Nat} {tn tk o : Nat} {b : Nat} {so : Bool} {t : yTok} {kd pl : Nat} (hN : yNOs tp tn tk o b so t kd pl) {w L : List Nat} {bs a : Nat} {m : fz_s} (hP : yPM tp tn b so t a m) (hS : yQS w o L bs tk m) (hl : L.length + w.length ≤ b) (hw : yN14 w) {Q : fz_s → Prop} (hq : ∀ m', yFQ kd pl m' → Fr pQ m m' → Q m') : wp_X12_qSums m Q := by
  have hn0 := hP.1.1
  have hb1 := hP.2.1.1
  have hb2 := hP.2.1.2.1
  unfold wp_X12_qSums
  intro x1 e1 s2 e2
  rw [hS.2.2.1] at e2
  obtain ⟨S2, F2⟩ := y_qs_b hS e2
  have P2 := hP.q F2
  exact y_sumsA P2.2.2.2.2.2.1 (by omega) (hN Q x1 w L w.length a 2047 2048 s2 P2 S2 (Nat.le_refl _) hl (by omega) (by omega) ⟨-1, Or.inl ⟨rfl, rfl⟩⟩ hw (fun m1 q1 F1 _ => hq m1 q1 ((y_SQ F2).tr F1)))
theorem y_nb1 {w : List Nat} (h : yNb w) : ¬ ∃ w', w = 10 :: w' := fun z => by
  obtain ⟨w', z⟩ := z
  exact h ⟨10, w', z, Or.inl rfl⟩
theorem y_nb2 {w : List Nat} (h : yNb w) : ¬ ∃ w', w = 12 :: w' := fun z => by
  obtain ⟨w', z⟩ := z
  exact h ⟨12, w', z, Or.inr rfl⟩
theorem y_ne1 {w : List Nat} (h : yNe w) : ¬ ∃ v w', w = v :: w' ∧ (v = 10 ∨ v = 11) := fun z => by
  obtain ⟨v, w', z1, z2⟩ := z
  exact h ⟨v, w', z1, by omega⟩
theorem y_ne2 {w : List Nat} (h : yNe w) : yNb w := fun z => by
  obtain ⟨v, w', z1, z2⟩ := z
  exact h ⟨v, w', z1, by omega⟩
theorem y_nbc {v : Nat} {w : List Nat} (h : v ≠ 10 ∧ v ≠ 12) : yNb (v :: w) := fun z => by
  obtain ⟨u, w', z1, z2⟩ := z
  cases z1
  omega
theorem y_nec {v : Nat} {w : List Nat} (h : v ≠ 10 ∧ v ≠ 11 ∧ v ≠ 12) : yNe (v :: w) := fun z => by
  obtain ⟨u, w', z1, z2⟩ := z
  cases z1
  omega
theorem y_bothF {R : Nat → Int32 → fz_s → (Bool → fz_s → Prop) → Prop} {Qc : Bool → fz_s → Prop} {n : Nat} (hn : 1 ≤ n) {v1 v3 : Int32} {s : fz_s} (hq : Qc false s) : lp_X2_both_8 R Qc n v1 false v3 s := by
  obtain ⟨k, rfl⟩ : ∃ k, n = k + 1 := ⟨n - 1, by omega⟩
  show nd_X2_both_8 R (lp_X2_both_8 R Qc k) Qc v1 false v3 s
  unfold nd_X2_both_8
  exact ⟨fun _ => hq, fun _ => b3 hq⟩
theorem y_bothlp {R : Nat → Int32 → fz_s → (Bool → fz_s → Prop) → Prop} {tp : Nat → Nat} {tn tk o : Nat} {cd f d : Nat} (hpart : ySp (R 2) tp tn tk cd f o true d (yOKf tp tn tk o) (yNOf tp tn tk o)) {b : Nat} {so : Bool} {t : yTok} {L : List Nat} {x0 : fz_s} (hfb : f + L.length ≤ b) {Qc : Bool → fz_s → Prop} (hok : ∀ b' so' t' l x', yPX tp tn b' so' t' x' → yGS cd f tk (L ++ l) x' → yFC (pGr cd f) x0 x' → b < b' → l.length + b ≤ b' → yEv (ysc tk) true (d + 1) l → (yOKb tp tn tk o b so t b' so' t' l ∧ ¬ yWo t' 21) → Qc true x') (hno : ∀ kd pl x', yFX kd pl x' → yFC (pGr cd f) x0 x' → yNOb tp tn tk o b so t kd pl → Qc false x') : ∀ (n i bb : Nat) (so1 : Bool) (t1 : yTok) (l : List Nat) (x : fz_s), i ≤ bb → b < bb → l.length + b ≤ bb → tn + 1 < n + bb → yPX tp tn bb so1 t1 x → yGS cd f tk (L ++ l) x → yFC (pGr cd f) x0 x → yEv (ysc tk) true (d + 1) l → (yOKb tp tn tk o b so t bb so1 t1 l) → lp_X2_both_8 R Qc n (nI o) true (nI i) x
  | 0, i, bb, so1, t1, l, x, h1, h2, h3, h4, hX, _, _, _, _ => absurd h4 (by have := hX.2.1.1; have := hX.2.1.2.1; omega)
  | n + 1, i, bb, so1, t1, l, x, h1, h2, h3, h4, hX, hG, hF, hE, hO => by
    have hn0 := hX.1.1
    have ht1 := hX.2.1.1
    have ht2 := hX.2.1.2.1
    have hk0 := hX.2.1.k0
    show nd_X2_both_8 R (lp_X2_both_8 R Qc n) Qc (nI o) true (nI i) x
    unfold nd_X2_both_8
    have fin : ¬ yWo t1 21 → Qc true x := fun z1 => hok bb so1 t1 l x hX hG hF h2 h3 hE ⟨hO, z1⟩
    by_cases ci : 1600 ≤ i
    · refine bt (by simp (disch := omega) only [N_lit, N_add, N_mul, N_sub, N_addneg, N_neg1, N_addm, N_le, N_lt, N_eq, N_in, N_cl, N_ne, N_ne', N_ltm, N_mlt, N_lem] <;> omega) (fin (fun z => ?_))
      have := z.1
      omega
    refine bf (by simp (disch := omega) only [N_lit, N_add, N_mul, N_sub, N_addneg, N_neg1, N_addm, N_le, N_lt, N_eq, N_in, N_cl, N_ne, N_ne', N_ltm, N_mlt, N_lem] <;> omega) (b2 ?_)
    refine y_isWord hX 21 (by omega) (fun hs => b2 ?_) (fun z => b3 (fin z))
    have he := hs.lt hX.2.1 hX.1.2.1
    have ht3 := hX.2.1.2.2.1
    have lL : (L ++ l).length = L.length + l.length := List.length_append
    refine y_next hX (fun t2 x2 hX2 F2 => ?_)
    rw [he.2] at hX2
    refine hpart t1.2.1 true t2 (L ++ l) x2 hX2 (hG.x (y_n4 F2)) (by omega) _ (fun bc so3 t3 l3 x3 hX3 hG3 F3 hb3 hl3 hE3 hO3 => b2 ?_) (fun kd pl x3 hX3 F3 hN3 => b3 (fun x5 _ => y_bothF (by omega) (hno kd pl x3 hX3 (hF.tr ((y_nG F2).tr F3)) ?_)))
    · have hb3n := hX3.2.1.1
      have hb3m := hX3.2.1.2.1
      have lL3 : (L ++ l ++ l3).length = L.length + l.length + l3.length := by rw [List.length_append, List.length_append]
      refine y_done hX3 hG3 (by omega) 20012 (fun x4 hX4 hG4 F4 => b2 (fun x9 e9 => ?_))
      rw [e9, nI_1]
      have eL : L ++ l ++ l3 ++ [20012] = L ++ (l ++ l3 ++ [20012]) := by rw [List.append_assoc, List.append_assoc, List.append_assoc]
      rw [eL] at hG4
      refine y_bothlp hpart hfb hok hno n (i + 1) bc so3 t3 (l ++ l3 ++ [20012]) x4 (by omega) (by omega) ?_ (by omega) hX4 hG4 (hF.tr (((y_nG F2).tr F3).tr F4)) ?_ ?_
      · rw [List.length_append, List.length_append]
        show l.length + l3.length + 1 + b ≤ bc
        omega
      · exact yEv.op (c := 20012) (D := d + 1) hE hE3 (by omega) (fun z => ⟨rfl, rfl⟩) ⟨Nat.le_refl _, Nat.le_refl _⟩
      · intro Q w LL bs a f1 m hP hS hl hf1 hTw hNb hB
        refine hO Q w LL bs a f1 m hP hS hl hf1 hTw hNb (fun f1' f3' m1 p Lm hf1' hf3' hp hLm hPm hSm hFm => ?_)
        obtain ⟨a1, hPm⟩ := hPm
        have hlen := y_len hLm
        have lpw : (p ++ w).length = p.length + w.length := List.length_append
        have lcs : (Lm ++ ycs p).length = LL.length + l.length := by rw [hLm, List.length_append]
        refine y_G_and hPm hSm (by omega) ⟨hp.1, by omega⟩ (y_nb1 hNb) hs hX2.2.1 (by omega) (fun m2 hP2 hS2 hF2 => ?_)
        exact hO3 Q (10 :: w) (Lm ++ ycs p) bs _ f1' m2 hP2 hS2 (by rw [List.length_cons]; omega) (by omega) (hTw.c (by omega)) (fun f1'' f4 C m3 hf1'' hf4 hC hP3 hS3 hF3 => by
          obtain ⟨a3, hP3'⟩ := id hP3
          have hb0 := hP3'.2.2.2.2.2.1
          refine y_N_exit hS3 hb0 (by rw [List.length_cons]; omega) (fun z => by obtain ⟨_, z⟩ := z; cases z) (by omega) (hC m3 hb0 (fun f3 hf3 => ?_))
          refine hB f1'' f3 m3 [10] (Lm ++ ycs p ++ l3) hf1'' hf3 ⟨fun v hv => ?_, by show 0 + 1 ≤ 1; omega⟩ ?_ hP3 hS3 ((hFm.tr hF2).tr hF3)
          · rw [List.mem_singleton] at hv
            exact hv
          · rw [hLm]
            show LL ++ l ++ l3 ++ [20012] = LL ++ (l ++ l3 ++ [20012])
            rw [List.append_assoc, List.append_assoc, List.append_assoc])
    · intro Q w LL bs a f1 m hP hS hl hf1 hTw hNb hQ
      refine hO Q w LL bs a f1 m hP hS hl hf1 hTw hNb (fun f1' f3' m1 p Lm hf1' hf3' hp hLm hPm hSm hFm => ?_)
      obtain ⟨a1, hPm⟩ := hPm
      have hlen := y_len hLm
      have lpw : (p ++ w).length = p.length + w.length := List.length_append
      have lcs : (Lm ++ ycs p).length = LL.length + l.length := by rw [hLm, List.length_append]
      refine y_G_and hPm hSm (by omega) ⟨hp.1, by omega⟩ (y_nb1 hNb) hs hX2.2.1 (by omega) (fun m2 hP2 hS2 hF2 => ?_)
      exact hN3 Q (10 :: w) (Lm ++ ycs p) bs _ f1' m2 hP2 hS2 (by rw [List.length_cons]; omega) (by omega) (hTw.c (by omega)) (fun m3 q3 F3 => hQ m3 q3 ((hFm.tr hF2).tr F3))
theorem y_both {R : Nat → Int32 → fz_s → (Bool → fz_s → Prop) → Prop} {tp : Nat → Nat} {tn tk o : Nat} {cd f d : Nat} (hpart : ySp (R 2) tp tn tk cd f o true d (yOKf tp tn tk o) (yNOf tp tn tk o)) : ySp (wp_X2_both R) tp tn tk cd f o true (d + 1) (fun b so t b' so' t' l => yOKb tp tn tk o b so t b' so' t' l ∧ ¬ yWo t' 21) (yNOb tp tn tk o) := by
  intro b so t L x hX hG hfb Qc hok hno
  have hn0 := hX.1.1
  have hb1 := hX.2.1.1
  have hb2 := hX.2.1.2.1
  unfold wp_X2_both
  refine hpart b so t L x hX hG hfb _ (fun bb so1 t1 l1 x1 hX1 hG1 F1 hb hl1 hE1 hO1 => ?_) (fun kd pl x1 hX1 F1 hN1 => y_bothF (by omega) (hno kd pl x1 hX1 F1 ?_))
  · have hb1n := hX1.2.1.1
    have hb1m := hX1.2.1.2.1
    refine y_bothlp hpart hfb hok hno 2048 0 bb so1 t1 l1 x1 (by omega) hb hl1 (by omega) hX1 hG1 F1 (hE1.mono (by omega)) ?_
    intro Q w LL bs a f1 m hP hS hl hf1 hTw hNb hB
    refine hO1 Q w LL bs a f1 m hP hS hl hf1 hTw (fun f1' f4 C m1 hf1' hf4 hC hP1 hS1 hF1 => ?_)
    obtain ⟨a1, hP1'⟩ := id hP1
    have hb0 := hP1'.2.2.2.2.2.1
    refine y_N_exit hS1 hb0 (by omega) (y_nb2 hNb) (by omega) (hC m1 hb0 (fun f3 hf3 => ?_))
    exact hB f1' f3 m1 [] (LL ++ l1) hf1' hf3 ⟨fun v hv => (by cases hv), (by show 0 ≤ 1; omega)⟩ (List.append_nil _) hP1 hS1 hF1
  · intro Q w LL bs a f1 m hP hS hl hf1 hTw hNb hQ
    exact hN1 Q w LL bs a f1 m hP hS hl hf1 hTw hQ
theorem y_eitherF {R : Nat → Int32 → fz_s → (Bool → fz_s → Prop) → Prop} {Qc : Bool → fz_s → Prop} {n : Nat} (hn : 1 ≤ n) {v1 v3 : Int32} {s : fz_s} (hq : Qc false s) : lp_X2_readTest_8 R Qc n v1 false v3 s := by
  obtain ⟨k, rfl⟩ : ∃ k, n = k + 1 := ⟨n - 1, by omega⟩
  show nd_X2_readTest_8 R (lp_X2_readTest_8 R Qc k) Qc v1 false v3 s
  unfold nd_X2_readTest_8
  exact ⟨fun _ => hq, fun _ => b3 hq⟩
theorem y_eitherlp {R : Nat → Int32 → fz_s → (Bool → fz_s → Prop) → Prop} {tp : Nat → Nat} {tn tk o : Nat} {cd f d : Nat} (hpart : ySp (R 1) tp tn tk cd f o true d (fun b so t b' so' t' l => yOKb tp tn tk o b so t b' so' t' l ∧ ¬ yWo t' 21) (yNOb tp tn tk o)) {b : Nat} {so : Bool} {t : yTok} {L : List Nat} {x0 : fz_s} (hfb : f + L.length ≤ b) {Qc : Bool → fz_s → Prop} (hok : ∀ b' so' t' l x', yPX tp tn b' so' t' x' → yGS cd f tk (L ++ l) x' → yFC (pGr cd f) x0 x' → b < b' → l.length + b ≤ b' → yEv (ysc tk) true (d + 1) l → (yOKe tp tn tk o b so t b' so' t' l ∧ ¬ yWo t' 20 ∧ ¬ yWo t' 21) → Qc true x') (hno : ∀ kd pl x', yFX kd pl x' → yFC (pGr cd f) x0 x' → yNOe tp tn tk o b so t kd pl → Qc false x') : ∀ (n i bb : Nat) (so1 : Bool) (t1 : yTok) (l : List Nat) (x : fz_s), i ≤ bb → b < bb → l.length + b ≤ bb → tn + 1 < n + bb → yPX tp tn bb so1 t1 x → yGS cd f tk (L ++ l) x → yFC (pGr cd f) x0 x → yEv (ysc tk) true (d + 1) l → (yOKe tp tn tk o b so t bb so1 t1 l ∧ ¬ yWo t1 21) → lp_X2_readTest_8 R Qc n (nI o) true (nI i) x
  | 0, i, bb, so1, t1, l, x, h1, h2, h3, h4, hX, _, _, _, _ => absurd h4 (by have := hX.2.1.1; have := hX.2.1.2.1; omega)
  | n + 1, i, bb, so1, t1, l, x, h1, h2, h3, h4, hX, hG, hF, hE, hO => by
    have hn0 := hX.1.1
    have ht1 := hX.2.1.1
    have ht2 := hX.2.1.2.1
    have hk0 := hX.2.1.k0
    show nd_X2_readTest_8 R (lp_X2_readTest_8 R Qc n) Qc (nI o) true (nI i) x
    unfold nd_X2_readTest_8
    have fin : ¬ yWo t1 20 → Qc true x := fun z1 => hok bb so1 t1 l x hX hG hF h2 h3 hE ⟨hO.1, z1, hO.2⟩
    by_cases ci : 1600 ≤ i
    · refine bt (by simp (disch := omega) only [N_lit, N_add, N_mul, N_sub, N_addneg, N_neg1, N_addm, N_le, N_lt, N_eq, N_in, N_cl, N_ne, N_ne', N_ltm, N_mlt, N_lem] <;> omega) (fin (fun z => ?_))
      have := z.1
      omega
    refine bf (by simp (disch := omega) only [N_lit, N_add, N_mul, N_sub, N_addneg, N_neg1, N_addm, N_le, N_lt, N_eq, N_in, N_cl, N_ne, N_ne', N_ltm, N_mlt, N_lem] <;> omega) (b2 ?_)
    refine y_isWord hX 20 (by omega) (fun hs => b2 ?_) (fun z => b3 (fin z))
    have he := hs.lt hX.2.1 hX.1.2.1
    have ht3 := hX.2.1.2.2.1
    have lL : (L ++ l).length = L.length + l.length := List.length_append
    refine y_next hX (fun t2 x2 hX2 F2 => ?_)
    rw [he.2] at hX2
    refine hpart t1.2.1 true t2 (L ++ l) x2 hX2 (hG.x (y_n4 F2)) (by omega) _ (fun bc so3 t3 l3 x3 hX3 hG3 F3 hb3 hl3 hE3 hO3 => b2 ?_) (fun kd pl x3 hX3 F3 hN3 => b3 (fun x5 _ => y_eitherF (by omega) (hno kd pl x3 hX3 (hF.tr ((y_nG F2).tr F3)) ?_)))
    · have hb3n := hX3.2.1.1
      have hb3m := hX3.2.1.2.1
      have lL3 : (L ++ l ++ l3).length = L.length + l.length + l3.length := by rw [List.length_append, List.length_append]
      refine y_done hX3 hG3 (by omega) 20013 (fun x4 hX4 hG4 F4 => b2 (fun x9 e9 => ?_))
      rw [e9, nI_1]
      have eL : L ++ l ++ l3 ++ [20013] = L ++ (l ++ l3 ++ [20013]) := by rw [List.append_assoc, List.append_assoc, List.append_assoc]
      rw [eL] at hG4
      refine y_eitherlp hpart hfb hok hno n (i + 1) bc so3 t3 (l ++ l3 ++ [20013]) x4 (by omega) (by omega) ?_ (by omega) hX4 hG4 (hF.tr (((y_nG F2).tr F3).tr F4)) ?_ ⟨?_, hO3.2⟩
      · rw [List.length_append, List.length_append]
        show l.length + l3.length + 1 + b ≤ bc
        omega
      · exact yEv.op (c := 20013) (D := d + 1) hE hE3 (by omega) (fun z => ⟨rfl, rfl⟩) ⟨Nat.le_refl _, Nat.le_refl _⟩
      · intro Q w LL bs a f1 m hP hS hl hf1 hTw hNe hB
        refine hO.1 Q w LL bs a f1 m hP hS hl hf1 hTw hNe (fun f1' f3' m1 p Lm hf1' hf3' hp hLm hPm hSm hFm => ?_)
        obtain ⟨a1, hPm⟩ := hPm
        have hlen := y_len hLm
        have lpw : (p ++ w).length = p.length + w.length := List.length_append
        have lcs : (Lm ++ ycs p).length = LL.length + l.length := by rw [hLm, List.length_append]
        refine y_G_or hPm hSm (by omega) ⟨hp.1, by omega⟩ (y_ne1 hNe) hs hX2.2.1 (by omega) (fun m2 hP2 hS2 hF2 => ?_)
        exact hO3.1 Q (11 :: w) (Lm ++ ycs p) bs _ f1' m2 hP2 hS2 (by rw [List.length_cons]; omega) (by omega) (hTw.c (by omega)) (y_nbc (by omega)) (fun f1'' f3 m3 p3 Lm3 hf1'' hf3 hp3 hLm3 hP3 hS3 hF3 => by
          refine hB f1'' f3 m3 (p3 ++ [11]) Lm3 hf1'' hf3 ⟨fun v hv => ?_, ?_⟩ ?_ hP3 (y_qs_w hS3 ?_) ((hFm.tr hF2).tr hF3)
          · rcases List.mem_append.mp hv with hv | hv
            · exact Or.inl (hp3.1 v hv)
            · rw [List.mem_singleton] at hv
              exact Or.inr hv
          · rw [List.length_append]
            show p3.length + 1 ≤ 2
            have := hp3.2
            omega
          · have e1 : ycs (p3 ++ [11]) = ycs p3 ++ [20013] := by
              unfold ycs
              rw [List.map_append]
              rfl
            rw [e1, ← List.append_assoc, hLm3, hLm]
            rw [List.append_assoc, List.append_assoc, List.append_assoc]
          · rw [List.append_assoc]
            rfl)
    · intro Q w LL bs a f1 m hP hS hl hf1 hTw hNe hQ
      refine hO.1 Q w LL bs a f1 m hP hS hl hf1 hTw hNe (fun f1' f3' m1 p Lm hf1' hf3' hp hLm hPm hSm hFm => ?_)
      obtain ⟨a1, hPm⟩ := hPm
      have hlen := y_len hLm
      have lpw : (p ++ w).length = p.length + w.length := List.length_append
      have lcs : (Lm ++ ycs p).length = LL.length + l.length := by rw [hLm, List.length_append]
      refine y_G_or hPm hSm (by omega) ⟨hp.1, by omega⟩ (y_ne1 hNe) hs hX2.2.1 (by omega) (fun m2 hP2 hS2 hF2 => ?_)
      exact hN3 Q (11 :: w) (Lm ++ ycs p) bs _ f1' m2 hP2 hS2 (by rw [List.length_cons]; omega) (by omega) (hTw.c (by omega)) (y_nbc (by omega)) (fun m3 q3 F3 => hQ m3 q3 ((hFm.tr hF2).tr F3))
theorem y_either {R : Nat → Int32 → fz_s → (Bool → fz_s → Prop) → Prop} {tp : Nat → Nat} {tn tk o : Nat} {cd f d : Nat} (hpart : ySp (R 1) tp tn tk cd f o true d (fun b so t b' so' t' l => yOKb tp tn tk o b so t b' so' t' l ∧ ¬ yWo t' 21) (yNOb tp tn tk o)) : ySp (wp_X2_readTest R) tp tn tk cd f o true (d + 1) (fun b so t b' so' t' l => yOKe tp tn tk o b so t b' so' t' l ∧ ¬ yWo t' 20 ∧ ¬ yWo t' 21) (yNOe tp tn tk o) := by
  intro b so t L x hX hG hfb Qc hok hno
  have hn0 := hX.1.1
  have hb1 := hX.2.1.1
  have hb2 := hX.2.1.2.1
  unfold wp_X2_readTest
  refine hpart b so t L x hX hG hfb _ (fun bb so1 t1 l1 x1 hX1 hG1 F1 hb hl1 hE1 hO1 => ?_) (fun kd pl x1 hX1 F1 hN1 => y_eitherF (by omega) (hno kd pl x1 hX1 F1 ?_))
  · have hb1n := hX1.2.1.1
    have hb1m := hX1.2.1.2.1
    refine y_eitherlp hpart hfb hok hno 2048 0 bb so1 t1 l1 x1 (by omega) hb hl1 (by omega) hX1 hG1 F1 (hE1.mono (by omega)) ⟨?_, hO1.2⟩
    intro Q w LL bs a f1 m hP hS hl hf1 hTw hNe hB
    refine hO1.1 Q w LL bs a f1 m hP hS hl hf1 hTw (y_ne2 hNe) (fun f1' f3 m1 p Lm hf1' hf3 hp hLm hP1 hS1 hF1 => ?_)
    exact hB f1' f3 m1 p Lm hf1' hf3 ⟨fun v hv => Or.inl (hp.1 v hv), by have := hp.2; omega⟩ hLm hP1 hS1 hF1
  · intro Q w LL bs a f1 m hP hS hl hf1 hTw hNe hQ
    exact hN1 Q w LL bs a f1 m hP hS hl hf1 hTw (y_ne2 hNe) hQ

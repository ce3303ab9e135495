/-! WHAT A STATEMENT ASKS, token by token -/
def sW (tp : Nat → Nat) (tn : Nat) (t : yTok) (i : Nat) (K : yTok → Prop) (F : Nat → Nat → Prop) : Prop := (yWo t i ∧ ∃ t', yTS tp tn t.2.1 true t' ∧ K t') ∨ (¬ yWo t i ∧ F 1 t.1)
def sN (tp : Nat → Nat) (tn : Nat) (t : yTok) (most : Nat) (K : yTok → Prop) (F : Nat → Nat → Prop) : Prop := (yNu tp t most ∧ ∃ t', yTS tp tn t.2.1 true t' ∧ K t') ∨ (¬ yNu tp t most ∧ F (yNk t) (yNp t))
def sS (tp : Nat → Nat) (tn : Nat) (t : yTok) (c : Nat) (K : yTok → Prop) (F : Nat → Nat → Prop) : Prop := (ySg tp t c ∧ ∃ t', yTS tp tn t.2.1 false t' ∧ K t') ∨ (¬ ySg tp t c ∧ F 1 t.1)
def sNw (tp : Nat → Nat) (tn : Nat) (D : yD) (t : yTok) (K : yTok → Prop) (F : Nat → Nat → Prop) : Prop := (yNm t ∧ ¬ yMat tp D t ∧ ∃ t', yTS tp tn t.2.1 true t' ∧ K t') ∨ (¬ yNm t ∧ F 1 (yNq t)) ∨ (yNm t ∧ yMat tp D t ∧ F 3 t.1)
def sOf (tp : Nat → Nat) (tn : Nat) (D : yD) (t : yTok) (K : Nat → yTok → Prop) (F : Nat → Nat → Prop) : Prop := (yNm t ∧ ∃ h, h < 2 ∧ yMa tp D t h ∧ (∀ j, j < h → ¬ yMa tp D t j) ∧ ∃ t', yTS tp tn t.2.1 true t' ∧ K h t') ∨ (¬ yNm t ∧ F 1 (yNq t)) ∨ (yNm t ∧ (∀ j, j < 2 → ¬ yMa tp D t j) ∧ F 3 t.1)
theorem m_W {tp : Nat → Nat} {tn b : Nat} {so : Bool} {t : yTok} {a a0 n0 : Nat} {m : fz_s} {i : Nat} {K : yTok → Prop} {F : Nat → Nat → Prop} (h : sW tp tn t i K F) (hP : yPM tp tn b so t a m) (hw : 199 ≤ a0 ∧ a0 ≤ 268 ∧ i < 32 ∧ n0 = (wds a0).length ∧ wds a0 = yWL.getD i []) {Q : fz_s → Prop} (hT : ∀ t' m', K t' → yPM tp tn t.2.1 true t' t.2.1 m' → Fr pKt m m' → Q m') (hN : ∀ kd pl m', F kd pl → yFM kd pl m' → Fr pKt m m' → Q m') : wp_X12_asks a0 n0 m Q := by
  rcases h with ⟨h1, t', h2, h3⟩ | ⟨h1, h2⟩
  · exact y_asks hP i hw (fun _ m' hA hF => hT t' m' h3 (hA t' h2) hF) (fun z => absurd h1 z)
  · exact y_asks hP i hw (fun z => absurd z h1) (fun _ m' q hF => hN _ _ m' h2 q hF)
theorem m_N {tp : Nat → Nat} {tn b : Nat} {so : Bool} {t : yTok} {a most : Nat} {m : fz_s} {K : yTok → Prop} {F : Nat → Nat → Prop} (h : sN tp tn t most K F) (hP : yPM tp tn b so t a m) (hm : most < 100000) {Q : Int32 → fz_s → Prop} (hT : ∀ t' m', K t' → yNu tp t most → yPM tp tn t.2.1 true t' t.2.1 m' → Fr pKt m m' → Q (nI (yval tp t.1 (t.2.1 - t.1))) m') (hN : ∀ kd pl v m', F kd pl → yFM kd pl m' → Fr pKt m m' → Q v m') : wp_X12_number 0 (nI most) m Q := by
  rcases h with ⟨h1, t', h2, h3⟩ | ⟨h1, h2⟩
  · exact y_number hP hm (fun _ m' hA hF => hT t' m' h3 h1 (hA t' h2) hF) (fun z => absurd h1 z)
  · exact y_number hP hm (fun z => absurd z h1) (fun _ v m' _ q hF => hN _ _ _ m' h2 q hF)
theorem m_S {tp : Nat → Nat} {tn b : Nat} {so : Bool} {t : yTok} {a c : Nat} {m : fz_s} {K : yTok → Prop} {F : Nat → Nat → Prop} (h : sS tp tn t c K F) (hP : yPM tp tn b so t a m) (hc : c < 256 ∧ ¬ yin 97 122 10 c ∧ ¬ yin 48 57 32 c) {Q : fz_s → Prop} (hT : ∀ t' m', K t' → yPM tp tn t.2.1 false t' t.2.1 m' → Fr pKt m m' → Q m') (hN : ∀ kd pl m', F kd pl → yFM kd pl m' → Fr pKt m m' → Q m') : wp_X12_asksSign (nI c) m Q := by
  rcases h with ⟨h1, t', h2, h3⟩ | ⟨h1, h2⟩
  · exact y_asksSign hP c hc (fun _ m' hA hF => hT t' m' h3 (hA t' h2) hF) (fun z => absurd h1 z)
  · exact y_asksSign hP c hc (fun z => absurd z h1) (fun _ m' q hF => hN _ _ m' h2 q hF)
theorem y_nnB2 {D : yD} {m : fz_s} (hV : yDV D) (hb : ¬ m.1 196 5 = 0) (hd : m.1 196 39 = nI D.np) {v : Int64} {Q : Int64 → fz_s → Prop} (hq : Q v m) : ∀ (n k : Nat), k ≤ D.np → D.np < n + k → lp_X12_newName_50 Q n v (nI k) m
  | 0, k, h1, h2 => absurd h2 (by omega)
  | n + 1, k, h1, h2 => by
    have hnp := hV.2.1
    show nd_X12_newName_50 (lp_X12_newName_50 Q n) Q v (nI k) m
    unfold nd_X12_newName_50
    rw [hd]
    by_cases c : D.np ≤ k
    · exact bt (by simp (disch := omega) only [N_lit, N_add, N_mul, N_sub, N_addneg, N_neg1, N_addm, N_le, N_lt, N_eq, N_in, N_cl, N_ne, N_ne', N_ltm, N_mlt, N_lem] <;> omega) hq
    refine bf (by simp (disch := omega) only [N_lit, N_add, N_mul, N_sub, N_addneg, N_neg1, N_addm, N_le, N_lt, N_eq, N_in, N_cl, N_ne, N_ne', N_ltm, N_mlt, N_lem] <;> omega) (nt hb (fun x1 e1 => ?_))
    rw [e1, nI_1]
    exact y_nnB2 hV hb hd hq n (k + 1) (by omega) (by omega)
theorem y_nnB1 {D : yD} {m : fz_s} (hV : yDV D) (hb : ¬ m.1 196 5 = 0) (hd8 : m.1 196 38 = nI D.nv) (hd : m.1 196 39 = nI D.np) {v : Int64} {Q : Int64 → fz_s → Prop} (hq : Q v m) : ∀ (n k : Nat), k ≤ D.nv → D.nv < n + k → lp_X12_newName_7 Q n v (nI k) m
  | 0, k, h1, h2 => absurd h2 (by omega)
  | n + 1, k, h1, h2 => by
    have hnv := hV.1
    show nd_X12_newName_7 (lp_X12_newName_7 Q n) Q v (nI k) m
    unfold nd_X12_newName_7
    rw [hd8]
    by_cases c : D.nv ≤ k
    · exact bt (by simp (disch := omega) only [N_lit, N_add, N_mul, N_sub, N_addneg, N_neg1, N_addm, N_le, N_lt, N_eq, N_in, N_cl, N_ne, N_ne', N_ltm, N_mlt, N_lem] <;> omega) (y_nnB2 hV hb hd hq 2048 0 (by omega) (by have := hV.2.1; omega))
    refine bf (by simp (disch := omega) only [N_lit, N_add, N_mul, N_sub, N_addneg, N_neg1, N_addm, N_le, N_lt, N_eq, N_in, N_cl, N_ne, N_ne', N_ltm, N_mlt, N_lem] <;> omega) (nt hb (fun x1 e1 => ?_))
    rw [e1, nI_1]
    exact y_nnB1 hV hb hd8 hd hq n (k + 1) (by omega) (by omega)
theorem y_newNameBad {D : yD} {m : fz_s} (hV : yDV D) (hD : yDM D m) (hb : ¬ m.1 196 5 = 0) {Q : Int64 → fz_s → Prop} (hq : Q 0 m) : wp_X12_newName m Q := y_nameBad hb (y_nnB1 hV hb hD.1 hD.2.1 hq 2048 0 (by omega) (by have := hV.1; omega))
theorem y_encl {f : Nat → Nat} {n : Nat} (h : n ≤ 6) (hf : ∀ k, k < n → 1 ≤ f k ∧ f k ≤ 26) : lR (enc f n : Int) := by
  have := y_enc6 h (fun k hk => (hf k hk).2)
  exact ⟨by omega, by omega⟩
theorem y_lcmp {tp : Nat → Nat} {tn b : Nat} {so : Bool} {t : yTok} {D : yD} {m : fz_s} (hT : yTS tp tn b so t) (hB : ∀ j, tp j < 256) (hV : yDV D) (hD : yDM D m) (hm : yNm t) {i : Nat} (hi : yNd D i) : (lg_cmp (m.2.1 225 i) (lI (enc (yltr tp t.1) (t.2.1 - t.1))) = 0) ↔ yMa tp D t i := by
  have hlt := (hT.lt hB hm.1).1
  have hm3 := hm.2.2
  have l1 := y_encl (hV.2.2.1 i hi).1.2 (hV.2.2.1 i hi).2
  have l2 := y_encl (f := yltr tp t.1) (n := t.2.1 - t.1) (by omega) (fun k hk => y_ltr1 hT hB hm.1 (by omega))
  rw [lg_cmp_eq, hD.2.2.2.2.1 i hi, l_eq ⟨l1, l2⟩, ← y_ma_enc hT hB hV hm hi]
  omega
theorem y_nn2 {tp : Nat → Nat} {tn b : Nat} {so : Bool} {t : yTok} {D : yD} {m : fz_s} (hT : yTS tp tn b so t) (hB : ∀ j, tp j < 256) (hV : yDV D) (hD : yDM D m) (hm : yNm t) (hb : m.1 196 5 = 0) (h37 : m.1 196 37 = nI t.1) (ht : t.1 < 2000) (hv : ∀ j, j < D.nv → ¬ yMa tp D t j) {Q : Int64 → fz_s → Prop} (hq : ¬ yMat tp D t → Q (lI (enc (yltr tp t.1) (t.2.1 - t.1))) m) (hN : yMat tp D t → ∀ v m', yFM 3 t.1 m' → Fr pKt m m' → Q v m') : ∀ (n k : Nat), k ≤ D.np → D.np < n + k → (∀ j, j < k → ¬ yMa tp D t (2 + j)) → lp_X12_newName_50 Q n (lI (enc (yltr tp t.1) (t.2.1 - t.1))) (nI k) m
  | 0, k, h1, h2, _ => absurd h2 (by omega)
  | n + 1, k, h1, h2, h3 => by
    have hnp := hV.2.1
    show nd_X12_newName_50 (lp_X12_newName_50 Q n) Q _ (nI k) m
    unfold nd_X12_newName_50
    rw [hD.2.1]
    by_cases c : D.np ≤ k
    · refine bt (by simp (disch := omega) only [N_lit, N_add, N_mul, N_sub, N_addneg, N_neg1, N_addm, N_le, N_lt, N_eq, N_in, N_cl, N_ne, N_ne', N_ltm, N_mlt, N_lem] <;> omega) (hq (fun z => ?_))
      obtain ⟨i, z1, z2⟩ := z
      rcases z1 with y | y
      · exact hv i y z2
      · have := h3 (i - 2) (by omega)
        rw [show 2 + (i - 2) = i by omega] at this
        exact this z2
    refine bf (by simp (disch := omega) only [N_lit, N_add, N_mul, N_sub, N_addneg, N_neg1, N_addm, N_le, N_lt, N_eq, N_in, N_cl, N_ne, N_ne', N_ltm, N_mlt, N_lem] <;> omega) (nf hb ?_)
    rw [show (2 : Int32) + nI k = nI (2 + k) from N_add 2 k, N_cl (by omega), nI_1]
    have hi : yNd D (2 + k) := Or.inr ⟨by omega, by omega⟩
    have hc := y_lcmp hT hB hV hD hm hi
    refine ⟨N_in ⟨by omega, by omega⟩, ?_⟩
    by_cases c2 : yMa tp D t (2 + k)
    · refine nf (hc.mpr c2) ?_
      rw [h37]
      refine y_mfail hb (kd := 3) ⟨by omega, by omega⟩ ht (fun m' q' F' x5 e5 => ?_)
      rw [e5]
      exact y_nnB2 hV q'.bad ((F'.i _ _ (pKt_f (by omega))).trans hD.2.1) (hN ⟨_, hi, c2⟩ _ m' q' F') n (k + 1) (by omega) (by omega)
    · refine nt (fun z => c2 (hc.mp z)) (fun x2 e2 => ?_)
      rw [e2]
      refine y_nn2 hT hB hV hD hm hb h37 ht hv hq hN n (k + 1) (by omega) (by omega) (fun j hj => ?_)
      by_cases cj : j = k
      · rw [cj]; exact c2
      · exact h3 j (by omega)
theorem y_nn1 {tp : Nat → Nat} {tn b : Nat} {so : Bool} {t : yTok} {D : yD} {m : fz_s} (hT : yTS tp tn b so t) (hB : ∀ j, tp j < 256) (hV : yDV D) (hD : yDM D m) (hm : yNm t) (hb : m.1 196 5 = 0) (h37 : m.1 196 37 = nI t.1) (ht : t.1 < 2000) {Q : Int64 → fz_s → Prop} (hq : ¬ yMat tp D t → Q (lI (enc (yltr tp t.1) (t.2.1 - t.1))) m) (hN : yMat tp D t → ∀ v m', yFM 3 t.1 m' → Fr pKt m m' → Q v m') : ∀ (n k : Nat), k ≤ D.nv → D.nv < n + k → (∀ j, j < k → ¬ yMa tp D t j) → lp_X12_newName_7 Q n (lI (enc (yltr tp t.1) (t.2.1 - t.1))) (nI k) m
  | 0, k, h1, h2, _ => absurd h2 (by omega)
  | n + 1, k, h1, h2, h3 => by
    have hnv := hV.1
    show nd_X12_newName_7 (lp_X12_newName_7 Q n) Q _ (nI k) m
    unfold nd_X12_newName_7
    rw [hD.1]
    by_cases c : D.nv ≤ k
    · exact bt (by simp (disch := omega) only [N_lit, N_add, N_mul, N_sub, N_addneg, N_neg1, N_addm, N_le, N_lt, N_eq, N_in, N_cl, N_ne, N_ne', N_ltm, N_mlt, N_lem] <;> omega) (y_nn2 hT hB hV hD hm hb h37 ht (fun j hj => h3 j (by omega)) hq hN 2048 0 (by omega) (by have := hV.2.1; omega) (fun j hj => absurd hj (Nat.not_lt_zero _)))
    refine bf (by simp (disch := omega) only [N_lit, N_add, N_mul, N_sub, N_addneg, N_neg1, N_addm, N_le, N_lt, N_eq, N_in, N_cl, N_ne, N_ne', N_ltm, N_mlt, N_lem] <;> omega) (nf hb ?_)
    rw [N_cl (by omega), nI_1]
    have hi : yNd D k := Or.inl (by omega)
    have hc := y_lcmp hT hB hV hD hm hi
    refine ⟨N_in ⟨by omega, by omega⟩, ?_⟩
    by_cases c2 : yMa tp D t k
    · refine nf (hc.mpr c2) ?_
      rw [h37]
      refine y_mfail hb (kd := 3) ⟨by omega, by omega⟩ ht (fun m' q' F' x5 e5 => ?_)
      rw [e5]
      exact y_nnB1 hV q'.bad ((F'.i _ _ (pKt_f (by omega))).trans hD.1) ((F'.i _ _ (pKt_f (by omega))).trans hD.2.1) (hN ⟨_, hi, c2⟩ _ m' q' F') n (k + 1) (by omega) (by omega)
    · refine nt (fun z => c2 (hc.mp z)) (fun x2 e2 => ?_)
      rw [e2]
      refine y_nn1 hT hB hV hD hm hb h37 ht hq hN n (k + 1) (by omega) (by omega) (fun j hj => ?_)
      by_cases cj : j = k
      · rw [cj]; exact c2
      · exact h3 j (by omega)
theorem m_Nw {tp : Nat → Nat} {tn b : Nat} {so : Bool} {t : yTok} {a : Nat} {D : yD} {m : fz_s} {K : yTok → Prop} {F : Nat → Nat → Prop} (h : sNw tp tn D t K F) (hP : yPM tp tn b so t a m) (hV : yDV D) (hD : yDM D m) {Q : Int64 → fz_s → Prop} (hT : ∀ t' m', K t' → yNm t → ¬ yMat tp D t → yPM tp tn t.2.1 true t' t.2.1 m' → Fr pKt m m' → Q (lI (enc (yltr tp t.1) (t.2.1 - t.1))) m') (hN : ∀ kd pl v m', F kd pl → yFM kd pl m' → Fr pKt m m' → Q v m') : wp_X12_newName m Q := by
  have hn0 := hP.1.1
  have hB := hP.1.2.1
  have ht := hP.2.1.2.1
  unfold wp_X12_newName
  refine y_name hP (fun hm m1 hA h37 hb0 F1 => ?_) (fun hm m1 q1 F1 => ?_)
  · rcases h with ⟨h1, h2, t', h3, h4⟩ | ⟨h1, h2⟩ | ⟨h1, h2, h3⟩
    · have P1 := hA t' h3
      exact y_nn1 hP.2.1 hB hV (hD.k F1) hm P1.2.2.2.2.2.1 h37 (by omega) (fun _ => hT t' m1 h4 hm h2 P1 F1) (fun z => absurd z h2) 2048 0 (by omega) (by have := hV.1; omega) (fun j hj => absurd hj (Nat.not_lt_zero _))
    · exact absurd hm h1
    · exact y_nn1 hP.2.1 hB hV (hD.k F1) hm hb0 h37 (by omega) (fun z => absurd h2 z) (fun _ v m' q' F' => hN _ _ v m' h3 q' (F1.tr F')) 2048 0 (by omega) (by have := hV.1; omega) (fun j hj => absurd hj (Nat.not_lt_zero _))
  · rcases h with ⟨h1, h2, t', h3, h4⟩ | ⟨h1, h2⟩ | ⟨h1, h2, h3⟩
    · exact absurd h1 hm
    · exact y_nnB1 hV q1.bad ((F1.i _ _ (pKt_f (by omega))).trans hD.1) ((F1.i _ _ (pKt_f (by omega))).trans hD.2.1) (hN _ _ _ m1 h2 q1 F1) 2048 0 (by omega) (by have := hV.1; omega)
    · exact absurd h1 hm

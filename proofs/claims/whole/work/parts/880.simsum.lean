/-! CLASS AND MODEL READ SUMS ALIKE -/
theorem yb1 {A B : Prop} (a : A) : (true = true → A) ∧ (true = false → B) := b1 a
def yTp (bs : Nat) (w : List Nat) : Prop := w.length ≤ bs ∨ ∃ v w', w = v :: w' ∧ v < 60
def yN34 (w : List Nat) : Prop := ¬ ∃ v w', w = v :: w' ∧ (v = 3 ∨ v = 4)
def yN14 (w : List Nat) : Prop := ¬ ∃ v w', w = v :: w' ∧ (1 ≤ v ∧ v ≤ 4)
def yOKp (tp : Nat → Nat) (tn tk o b : Nat) (so : Bool) (t : yTok) (b' : Nat) (so' : Bool) (t' : yTok) (l : List Nat) : Prop := ∀ (Q : fz_s → Prop) (v1 : Int32) (w L : List Nat) (bs a f1 f2 : Nat) (m : fz_s), yPM tp tn b so t a m → yQS w o L bs tk m → bs ≤ w.length → L.length + w.length ≤ b → tn + 3 ≤ f1 + b → tn + 3 ≤ f2 + b → (∀ (f1' f4 : Nat) (C : fz_s → Prop) (m' : fz_s), tn + 3 ≤ f1' + b' → w.length + 2 ≤ f4 → (∀ m'' : fz_s, m''.1 196 5 = 0 → (∀ f3, tn + 3 ≤ f3 + b' → yBS Q f1' v1 f3 m'') → C m'') → (∃ a', yPM tp tn b' so' t' a' m') → yQS w o (L ++ l) bs tk m' → Fr pQ m m' → lp_X12_qEndsPart_0 C f4 m') → yAS Q f1 v1 f2 m
def yNOp (tp : Nat → Nat) (tn tk o b : Nat) (so : Bool) (t : yTok) (kd pl : Nat) : Prop := ∀ (Q : fz_s → Prop) (v1 : Int32) (w L : List Nat) (bs a f1 f2 : Nat) (m : fz_s), yPM tp tn b so t a m → yQS w o L bs tk m → bs ≤ w.length → L.length + w.length ≤ b → tn + 3 ≤ f1 + b → tn + 3 ≤ f2 + b → (∀ m', yFQ kd pl m' → Fr pQ m m' → m'.1 196 105 = v1 → Q m') → yAS Q f1 v1 f2 m
def yOKm (tp : Nat → Nat) (tn tk o b : Nat) (so : Bool) (t : yTok) (b' : Nat) (so' : Bool) (t' : yTok) (l : List Nat) : Prop := ∀ (Q : fz_s → Prop) (v1 : Int32) (w L : List Nat) (bs a f1 f2 : Nat) (m : fz_s), yPM tp tn b so t a m → yQS w o L bs tk m → bs ≤ w.length → L.length + w.length ≤ b → tn + 3 ≤ f1 + b → tn + 3 ≤ f2 + b → yTp bs w → yN34 w → (∀ (f1' f3 : Nat) (m' : fz_s) (p Lm : List Nat), tn + 3 ≤ f1' + b' → tn + 3 ≤ f3 + b' → ((∀ v, v ∈ p → v = 3 ∨ v = 4) ∧ p.length ≤ 1) → Lm ++ ycs p = L ++ l → (∃ a', yPM tp tn b' so' t' a' m') → yQS (p ++ w) o Lm bs tk m' → Fr pQ m m' → yBS Q f1' v1 f3 m') → yAS Q f1 v1 f2 m
def yNOm (tp : Nat → Nat) (tn tk o b : Nat) (so : Bool) (t : yTok) (kd pl : Nat) : Prop := ∀ (Q : fz_s → Prop) (v1 : Int32) (w L : List Nat) (bs a f1 f2 : Nat) (m : fz_s), yPM tp tn b so t a m → yQS w o L bs tk m → bs ≤ w.length → L.length + w.length ≤ b → tn + 3 ≤ f1 + b → tn + 3 ≤ f2 + b → yTp bs w → yN34 w → (∀ m', yFQ kd pl m' → Fr pQ m m' → m'.1 196 105 = v1 → Q m') → yAS Q f1 v1 f2 m
def yOKs (tp : Nat → Nat) (tn tk o b : Nat) (so : Bool) (t : yTok) (b' : Nat) (so' : Bool) (t' : yTok) (l : List Nat) : Prop := ∀ (Q : fz_s → Prop) (v1 : Int32) (w L : List Nat) (bs a f1 f2 : Nat) (m : fz_s), yPM tp tn b so t a m → yQS w o L bs tk m → bs ≤ w.length → L.length + w.length ≤ b → tn + 3 ≤ f1 + b → tn + 3 ≤ f2 + b → (∃ r, yBk bs w r) → yN14 w → (∀ (f1' f3 : Nat) (m' : fz_s) (p Lm : List Nat), tn + 3 ≤ f1' + b' → tn + 3 ≤ f3 + b' → ((∀ v, v ∈ p → 1 ≤ v ∧ v ≤ 4) ∧ p.length ≤ 2) → Lm ++ ycs p = L ++ l → (∃ a', yPM tp tn b' so' t' a' m') → yQS (p ++ w) o Lm bs tk m' → Fr pQ m m' → yBS Q f1' v1 f3 m') → yAS Q f1 v1 f2 m
def yNOs (tp : Nat → Nat) (tn tk o b : Nat) (so : Bool) (t : yTok) (kd pl : Nat) : Prop := ∀ (Q : fz_s → Prop) (v1 : Int32) (w L : List Nat) (bs a f1 f2 : Nat) (m : fz_s), yPM tp tn b so t a m → yQS w o L bs tk m → bs ≤ w.length → L.length + w.length ≤ b → tn + 3 ≤ f1 + b → tn + 3 ≤ f2 + b → (∃ r, yBk bs w r) → yN14 w → (∀ m', yFQ kd pl m' → Fr pQ m m' → m'.1 196 105 = v1 → Q m') → yAS Q f1 v1 f2 m
/-- what a member of the grammar does: the text read, the codes written; and what the model does there -/
def ySp (R : Int32 → fz_s → (Bool → fz_s → Prop) → Prop) (tp : Nat → Nat) (tn tk cd f o : Nat) (ty : Bool) (d : Nat) (OK : Nat → Bool → yTok → Nat → Bool → yTok → List Nat → Prop) (NO : Nat → Bool → yTok → Nat → Nat → Prop) : Prop := ∀ (b : Nat) (so : Bool) (t : yTok) (L : List Nat) (x : fz_s), yPX tp tn b so t x → yGS cd f tk L x → f + L.length ≤ b → ∀ (Qc : Bool → fz_s → Prop), (∀ b' so' t' l x', yPX tp tn b' so' t' x' → yGS cd f tk (L ++ l) x' → yFC (pGr cd f) x x' → b < b' → l.length + b ≤ b' → yEv (ysc tk) ty d l → OK b so t b' so' t' l → Qc true x') → (∀ kd pl x', yFX kd pl x' → yFC (pGr cd f) x x' → NO b so t kd pl → Qc false x') → R (nI o) x Qc
theorem y_len {L l Lm p : List Nat} (h : Lm ++ ycs p = L ++ l) : Lm.length + p.length = L.length + l.length := by
  have e := congrArg List.length h
  rw [List.length_append, List.length_append] at e
  unfold ycs at e
  rw [List.length_map] at e
  exact e
theorem y_tp0 {bs : Nat} {w : List Nat} {r : Int32} (h : yBk bs w r) : yTp bs w := by
  rcases h with ⟨z1, z2⟩ | ⟨z1, v, w', z2, z3, z4, z5⟩
  · exact Or.inl (by omega)
  · exact Or.inr ⟨v, w', z2, by omega⟩
theorem y_n34 {w : List Nat} (h : yN14 w) : yN34 w := fun z => by
  obtain ⟨v, w', z1, z2⟩ := z
  exact h ⟨v, w', z1, by omega⟩
theorem y_n34c {v : Nat} {w : List Nat} (h : v ≠ 3 ∧ v ≠ 4) : yN34 (v :: w) := fun z => by
  obtain ⟨u, w', z1, z2⟩ := z
  cases z1
  omega
theorem y_n14c {v : Nat} {w : List Nat} (h : ¬ (1 ≤ v ∧ v ≤ 4)) : yN14 (v :: w) := fun z => by
  obtain ⟨u, w', z1, z2⟩ := z
  cases z1
  omega
theorem y_productF {R : Nat → Int32 → fz_s → (Bool → fz_s → Prop) → Prop} {Qc : Bool → fz_s → Prop} {n : Nat} (hn : 1 ≤ n) {v1 v3 : Int32} {s : fz_s} (hq : Qc false s) : lp_X2_product_8 R Qc n v1 false v3 s := by
  obtain ⟨k, rfl⟩ : ∃ k, n = k + 1 := ⟨n - 1, by omega⟩
  show nd_X2_product_8 R (lp_X2_product_8 R Qc k) Qc v1 false v3 s
  unfold nd_X2_product_8
  exact ⟨fun _ => hq, fun _ => b3 hq⟩
theorem y_productlp {R : Nat → Int32 → fz_s → (Bool → fz_s → Prop) → Prop} {tp : Nat → Nat} {tn tk o : Nat} {cd f d : Nat} (hpart : ySp (R 5) tp tn tk cd f o false d (yOKp tp tn tk o) (yNOp tp tn tk o)) {b : Nat} {so : Bool} {t : yTok} {L : List Nat} {x0 : fz_s} (hfb : f + L.length ≤ b) {Qc : Bool → fz_s → Prop} (hok : ∀ b' so' t' l x', yPX tp tn b' so' t' x' → yGS cd f tk (L ++ l) x' → yFC (pGr cd f) x0 x' → b < b' → l.length + b ≤ b' → yEv (ysc tk) false (d + 1) l → (yOKm tp tn tk o b so t b' so' t' l ∧ ¬ ySg tp t' 42 ∧ ¬ ySg tp t' 47) → Qc true x') (hno : ∀ kd pl x', yFX kd pl x' → yFC (pGr cd f) x0 x' → yNOm tp tn tk o b so t kd pl → Qc false x') : ∀ (n i b1 : Nat) (so1 : Bool) (t1 : yTok) (l : List Nat) (x : fz_s), i ≤ b1 → b < b1 → l.length + b ≤ b1 → tn + 1 < n + b1 → yPX tp tn b1 so1 t1 x → yGS cd f tk (L ++ l) x → yFC (pGr cd f) x0 x → yEv (ysc tk) false (d + 1) l → (yOKm tp tn tk o b so t b1 so1 t1 l) → lp_X2_product_8 R Qc n (nI o) true (nI i) x
  | 0, i, b1, so1, t1, l, x, h1, h2, h3, h4, hX, _, _, _, _ => absurd h4 (by have := hX.2.1.1; have := hX.2.1.2.1; omega)
  | n + 1, i, b1, so1, t1, l, x, h1, h2, h3, h4, hX, hG, hF, hE, hO => by
    have hn0 := hX.1.1
    have ht1 := hX.2.1.1
    have ht2 := hX.2.1.2.1
    have hk0 := hX.2.1.k0
    show nd_X2_product_8 R (lp_X2_product_8 R Qc n) Qc (nI o) true (nI i) x
    unfold nd_X2_product_8
    have fin : ¬ ySg tp t1 42 → ¬ ySg tp t1 47 → Qc true x := fun z1 z2 => hok b1 so1 t1 l x hX hG hF h2 h3 hE ⟨hO, z1, z2⟩
    by_cases ci : 1600 ≤ i
    · refine bt (by simp (disch := omega) only [N_lit, N_add, N_mul, N_sub, N_addneg, N_neg1, N_addm, N_le, N_lt, N_eq, N_in, N_cl, N_ne, N_ne', N_ltm, N_mlt, N_lem] <;> omega) (fin (fun z => ?_) (fun z => ?_))
      · have := z.1
        omega
      · have := z.1
        omega
    refine bf (by simp (disch := omega) only [N_lit, N_add, N_mul, N_sub, N_addneg, N_neg1, N_addm, N_le, N_lt, N_eq, N_in, N_cl, N_ne, N_ne', N_ltm, N_mlt, N_lem] <;> omega) (b2 ?_)
    have go : ∀ op : Nat, (ySg tp t1 42 ∧ op = 3) ∨ (ySg tp t1 47 ∧ op = 4) → nd_X2_product_64 R (lp_X2_product_8 R Qc n) Qc (nI o) (nI i) (nI (op + 20002)) x := by
      intro op hs
      have hk3 : t1.2.2.1 = 3 := hs.elim (fun z => z.1.1) (fun z => z.1.1)
      have hop : op = 3 ∨ op = 4 := hs.elim (fun z => Or.inl z.2) (fun z => Or.inr z.2)
      have he : t1.2.1 = t1.1 + 1 := by
        rcases hX.2.1.2.2.2.2 with z | z | z | z | z <;> omega
      have ht3 := hX.2.1.2.2.1
      have eso : ySo t1 = false := decide_eq_false (fun z => by omega)
      have lL : (L ++ l).length = L.length + l.length := List.length_append
      unfold nd_X2_product_64
      refine y_next hX (fun t2 x2 hX2 F2 => ?_)
      rw [eso] at hX2
      refine hpart t1.2.1 false t2 (L ++ l) x2 hX2 (hG.x (y_n4 F2)) (by omega) _ (fun b3 so3 t3 l3 x3 hX3 hG3 F3 hb3 hl3 hE3 hO3 => b2 ?_) (fun kd pl x3 hX3 F3 hN3 => b3 (fun x5 _ => y_productF (by omega) (hno kd pl x3 hX3 (hF.tr ((y_nG F2).tr F3)) ?_)))
      · have hb3n := hX3.2.1.1
        have hb3m := hX3.2.1.2.1
        have ec : nI (op + 20002) = nI (cC (op + 20002)) := by rw [cC_id (by omega)]
        rw [ec]
        have lL3 : (L ++ l ++ l3).length = L.length + l.length + l3.length := by rw [List.length_append, List.length_append]
        refine y_done hX3 hG3 (by omega) _ (fun x4 hX4 hG4 F4 => b2 (fun x9 e9 => ?_))
        rw [e9, nI_1]
        have eL : L ++ l ++ l3 ++ [op + 20002] = L ++ (l ++ l3 ++ [op + 20002]) := by rw [List.append_assoc, List.append_assoc, List.append_assoc]
        rw [eL] at hG4
        refine y_productlp hpart hfb hok hno n (i + 1) b3 so3 t3 (l ++ l3 ++ [op + 20002]) x4 (by omega) (by omega) ?_ (by omega) hX4 hG4 (hF.tr (((y_nG F2).tr F3).tr F4)) ?_ ?_
        · rw [List.length_append, List.length_append]
          show l.length + l3.length + 1 + b ≤ b3
          omega
        · have := yEv.op (c := op + 20002) (D := d + 1) hE hE3 (by omega) (fun z => by omega) ⟨Nat.le_refl _, Nat.le_refl _⟩
          rw [decide_eq_false (by omega)] at this
          exact this
        · intro Q v1 w LL bs a f1 f2 m hP hS hbs hl hf1 hf2 hTp hN34 hB
          refine hO Q v1 w LL bs a f1 f2 m hP hS hbs hl hf1 hf2 hTp hN34 (fun f1' f3' m1 p Lm hf1' hf3' hp hLm hPm hSm hFm => ?_)
          obtain ⟨a1, hPm⟩ := hPm
          have hlen := y_len hLm
          have lpw : (p ++ w).length = p.length + w.length := List.length_append
          have lcs : (Lm ++ ycs p).length = LL.length + l.length := by rw [hLm, List.length_append]
          refine y_B_mul hPm hSm (by omega) ⟨hp.1, by omega⟩ hN34 (op := op) hs hX2.2.1 ⟨by omega, by omega⟩ (fun m2 hP2 hS2 hF2 => ?_)
          exact hO3 Q v1 (op :: w) (Lm ++ ycs p) bs _ (f1' - 1) 2048 m2 hP2 hS2 (by rw [List.length_cons]; omega) (by rw [List.length_cons]; omega) (by omega) (by omega) (fun f1'' f4 C m3 hf1'' hf4 hC hP3 hS3 hF3 => by
            obtain ⟨a3, hP3'⟩ := id hP3
            have hb0 := hP3'.2.2.2.2.2.1
            refine y_E_exit hS3 hb0 ⟨by rw [List.length_cons]; omega, by omega⟩ (Or.inr ⟨op, w, rfl, by omega⟩) (by omega) (hC m3 hb0 (fun f3 hf3 => ?_))
            refine hB f1'' f3 m3 [op] (Lm ++ ycs p ++ l3) hf1'' hf3 ⟨fun v hv => ?_, by show 0 + 1 ≤ 1; omega⟩ ?_ hP3 hS3 ((hFm.tr hF2).tr hF3)
            · rw [List.mem_singleton] at hv
              omega
            · rw [hLm]
              show LL ++ l ++ l3 ++ [op + 20002] = LL ++ (l ++ l3 ++ [op + 20002])
              rw [List.append_assoc, List.append_assoc, List.append_assoc])
      · intro Q v1 w LL bs a f1 f2 m hP hS hbs hl hf1 hf2 hTp hN34 hQ
        refine hO Q v1 w LL bs a f1 f2 m hP hS hbs hl hf1 hf2 hTp hN34 (fun f1' f3' m1 p Lm hf1' hf3' hp hLm hPm hSm hFm => ?_)
        obtain ⟨a1, hPm⟩ := hPm
        have hlen := y_len hLm
        have lpw : (p ++ w).length = p.length + w.length := List.length_append
        have lcs : (Lm ++ ycs p).length = LL.length + l.length := by rw [hLm, List.length_append]
        refine y_B_mul hPm hSm (by omega) ⟨hp.1, by omega⟩ hN34 (op := op) hs hX2.2.1 ⟨by omega, by omega⟩ (fun m2 hP2 hS2 hF2 => ?_)
        exact hN3 Q v1 (op :: w) (Lm ++ ycs p) bs _ (f1' - 1) 2048 m2 hP2 hS2 (by rw [List.length_cons]; omega) (by rw [List.length_cons]; omega) (by omega) (by omega) (fun m3 q3 F3 h3 => hQ m3 q3 ((hFm.tr hF2).tr F3) h3)
    have g43 : ySg tp t1 42 ∨ ySg tp t1 47 → nd_X2_product_43 R (lp_X2_product_8 R Qc n) Qc (nI o) (nI i) x := by
      intro hs
      unfold nd_X2_product_43
      refine y_isSign hX 42 (by omega) (fun z => b2 (go 3 (Or.inl ⟨z, rfl⟩))) (fun z => b3 (go 4 (Or.inr ⟨?_, rfl⟩)))
      rcases hs with y | y
      · exact absurd y z
      · exact y
    refine y_isSign hX 42 (by omega) (fun z => yb1 (g43 (Or.inl z))) (fun z => b4 ?_)
    exact y_isSign hX 47 (by omega) (fun z2 => b2 (g43 (Or.inr z2))) (fun z2 => b3 (fin z z2))
theorem y_product {R : Nat → Int32 → fz_s → (Bool → fz_s → Prop) → Prop} {tp : Nat → Nat} {tn tk o : Nat} {cd f d : Nat} (hpart : ySp (R 5) tp tn tk cd f o false d (yOKp tp tn tk o) (yNOp tp tn tk o)) : ySp (wp_X2_product R) tp tn tk cd f o false (d + 1) (fun b so t b' so' t' l => yOKm tp tn tk o b so t b' so' t' l ∧ ¬ ySg tp t' 42 ∧ ¬ ySg tp t' 47) (yNOm tp tn tk o) := by
  intro b so t L x hX hG hfb Qc hok hno
  have hn0 := hX.1.1
  have hb1 := hX.2.1.1
  have hb2 := hX.2.1.2.1
  unfold wp_X2_product
  refine hpart b so t L x hX hG hfb _ (fun b1 so1 t1 l1 x1 hX1 hG1 F1 hb hl1 hE1 hO1 => ?_) (fun kd pl x1 hX1 F1 hN1 => y_productF (by omega) (hno kd pl x1 hX1 F1 ?_))
  · have hb1n := hX1.2.1.1
    have hb1m := hX1.2.1.2.1
    refine y_productlp hpart hfb hok hno 2048 0 b1 so1 t1 l1 x1 (by omega) hb hl1 (by omega) hX1 hG1 F1 (hE1.mono (by omega)) ?_
    intro Q v1 w LL bs a f1 f2 m hP hS hbs hl hf1 hf2 hTp hN34 hB
    refine hO1 Q v1 w LL bs a f1 f2 m hP hS hbs hl hf1 hf2 (fun f1' f4 C m1 hf1' hf4 hC hP1 hS1 hF1 => ?_)
    obtain ⟨a1, hP1'⟩ := id hP1
    have hb0 := hP1'.2.2.2.2.2.1
    refine y_E_exit hS1 hb0 ⟨by omega, by omega⟩ hTp (by omega) (hC m1 hb0 (fun f3 hf3 => ?_))
    exact hB f1' f3 m1 [] (LL ++ l1) hf1' hf3 ⟨fun v hv => (by cases hv), (by show 0 ≤ 1; omega)⟩ (List.append_nil _) hP1 hS1 hF1
  · intro Q v1 w LL bs a f1 f2 m hP hS hbs hl hf1 hf2 hTp hN34 hQ
    exact hN1 Q v1 w LL bs a f1 f2 m hP hS hbs hl hf1 hf2 hQ
theorem y_sumF {R : Nat → Int32 → fz_s → (Bool → fz_s → Prop) → Prop} {Qc : Bool → fz_s → Prop} {n : Nat} (hn : 1 ≤ n) {v1 v3 : Int32} {s : fz_s} (hq : Qc false s) : lp_X2_readSum_8 R Qc n v1 false v3 s := by
  obtain ⟨k, rfl⟩ : ∃ k, n = k + 1 := ⟨n - 1, by omega⟩
  show nd_X2_readSum_8 R (lp_X2_readSum_8 R Qc k) Qc v1 false v3 s
  unfold nd_X2_readSum_8
  exact ⟨fun _ => hq, fun _ => b3 hq⟩
theorem y_sumlp {R : Nat → Int32 → fz_s → (Bool → fz_s → Prop) → Prop} {tp : Nat → Nat} {tn tk o : Nat} {cd f d : Nat} (hpart : ySp (R 4) tp tn tk cd f o false d (fun b so t b' so' t' l => yOKm tp tn tk o b so t b' so' t' l ∧ ¬ ySg tp t' 42 ∧ ¬ ySg tp t' 47) (yNOm tp tn tk o)) {b : Nat} {so : Bool} {t : yTok} {L : List Nat} {x0 : fz_s} (hfb : f + L.length ≤ b) {Qc : Bool → fz_s → Prop} (hok : ∀ b' so' t' l x', yPX tp tn b' so' t' x' → yGS cd f tk (L ++ l) x' → yFC (pGr cd f) x0 x' → b < b' → l.length + b ≤ b' → yEv (ysc tk) false (d + 1) l → (yOKs tp tn tk o b so t b' so' t' l ∧ yNop tp t') → Qc true x') (hno : ∀ kd pl x', yFX kd pl x' → yFC (pGr cd f) x0 x' → yNOs tp tn tk o b so t kd pl → Qc false x') : ∀ (n i b1 : Nat) (so1 : Bool) (t1 : yTok) (l : List Nat) (x : fz_s), i ≤ b1 → b < b1 → l.length + b ≤ b1 → tn + 1 < n + b1 → yPX tp tn b1 so1 t1 x → yGS cd f tk (L ++ l) x → yFC (pGr cd f) x0 x → yEv (ysc tk) false (d + 1) l → (yOKs tp tn tk o b so t b1 so1 t1 l ∧ ¬ ySg tp t1 42 ∧ ¬ ySg tp t1 47) → lp_X2_readSum_8 R Qc n (nI o) true (nI i) x
  | 0, i, b1, so1, t1, l, x, h1, h2, h3, h4, hX, _, _, _, _ => absurd h4 (by have := hX.2.1.1; have := hX.2.1.2.1; omega)
  | n + 1, i, b1, so1, t1, l, x, h1, h2, h3, h4, hX, hG, hF, hE, hO => by
    have hn0 := hX.1.1
    have ht1 := hX.2.1.1
    have ht2 := hX.2.1.2.1
    have hk0 := hX.2.1.k0
    show nd_X2_readSum_8 R (lp_X2_readSum_8 R Qc n) Qc (nI o) true (nI i) x
    unfold nd_X2_readSum_8
    have fin : ¬ ySg tp t1 43 → ¬ ySg tp t1 45 → Qc true x := fun z1 z2 => hok b1 so1 t1 l x hX hG hF h2 h3 hE ⟨hO.1, hO.2.1, hO.2.2, z1, z2⟩
    by_cases ci : 1600 ≤ i
    · refine bt (by simp (disch := omega) only [N_lit, N_add, N_mul, N_sub, N_addneg, N_neg1, N_addm, N_le, N_lt, N_eq, N_in, N_cl, N_ne, N_ne', N_ltm, N_mlt, N_lem] <;> omega) (fin (fun z => ?_) (fun z => ?_))
      · have := z.1
        omega
      · have := z.1
        omega
    refine bf (by simp (disch := omega) only [N_lit, N_add, N_mul, N_sub, N_addneg, N_neg1, N_addm, N_le, N_lt, N_eq, N_in, N_cl, N_ne, N_ne', N_ltm, N_mlt, N_lem] <;> omega) (b2 ?_)
    have go : ∀ op : Nat, (ySg tp t1 43 ∧ op = 1) ∨ (ySg tp t1 45 ∧ op = 2) → nd_X2_readSum_64 R (lp_X2_readSum_8 R Qc n) Qc (nI o) (nI i) (nI (op + 20002)) x := by
      intro op hs
      have hk3 : t1.2.2.1 = 3 := hs.elim (fun z => z.1.1) (fun z => z.1.1)
      have hop : op = 1 ∨ op = 2 := hs.elim (fun z => Or.inl z.2) (fun z => Or.inr z.2)
      have he : t1.2.1 = t1.1 + 1 := by
        rcases hX.2.1.2.2.2.2 with z | z | z | z | z <;> omega
      have ht3 := hX.2.1.2.2.1
      have eso : ySo t1 = false := decide_eq_false (fun z => by omega)
      have lL : (L ++ l).length = L.length + l.length := List.length_append
      unfold nd_X2_readSum_64
      refine y_next hX (fun t2 x2 hX2 F2 => ?_)
      rw [eso] at hX2
      refine hpart t1.2.1 false t2 (L ++ l) x2 hX2 (hG.x (y_n4 F2)) (by omega) _ (fun b3 so3 t3 l3 x3 hX3 hG3 F3 hb3 hl3 hE3 hO3 => b2 ?_) (fun kd pl x3 hX3 F3 hN3 => b3 (fun x5 _ => y_sumF (by omega) (hno kd pl x3 hX3 (hF.tr ((y_nG F2).tr F3)) ?_)))
      · have hb3n := hX3.2.1.1
        have hb3m := hX3.2.1.2.1
        have ec : nI (op + 20002) = nI (cC (op + 20002)) := by rw [cC_id (by omega)]
        rw [ec]
        have lL3 : (L ++ l ++ l3).length = L.length + l.length + l3.length := by rw [List.length_append, List.length_append]
        refine y_done hX3 hG3 (by omega) _ (fun x4 hX4 hG4 F4 => b2 (fun x9 e9 => ?_))
        rw [e9, nI_1]
        have eL : L ++ l ++ l3 ++ [op + 20002] = L ++ (l ++ l3 ++ [op + 20002]) := by rw [List.append_assoc, List.append_assoc, List.append_assoc]
        rw [eL] at hG4
        refine y_sumlp hpart hfb hok hno n (i + 1) b3 so3 t3 (l ++ l3 ++ [op + 20002]) x4 (by omega) (by omega) ?_ (by omega) hX4 hG4 (hF.tr (((y_nG F2).tr F3).tr F4)) ?_ ⟨?_, hO3.2⟩
        · rw [List.length_append, List.length_append]
          show l.length + l3.length + 1 + b ≤ b3
          omega
        · have := yEv.op (c := op + 20002) (D := d + 1) hE hE3 (by omega) (fun z => by omega) ⟨Nat.le_refl _, Nat.le_refl _⟩
          rw [decide_eq_false (by omega)] at this
          exact this
        · intro Q v1 w LL bs a f1 f2 m hP hS hbs hl hf1 hf2 hBk hN14 hB
          refine hO.1 Q v1 w LL bs a f1 f2 m hP hS hbs hl hf1 hf2 hBk hN14 (fun f1' f3' m1 p Lm hf1' hf3' hp hLm hPm hSm hFm => ?_)
          obtain ⟨a1, hPm⟩ := hPm
          have hlen := y_len hLm
          have lpw : (p ++ w).length = p.length + w.length := List.length_append
          have lcs : (Lm ++ ycs p).length = LL.length + l.length := by rw [hLm, List.length_append]
          refine y_B_add hPm hSm (by omega) ⟨hp.1, by omega⟩ hN14 (op := op) hs hX2.2.1 ⟨by omega, by omega⟩ (fun m2 hP2 hS2 hF2 => ?_)
          exact hO3.1 Q v1 (op :: w) (Lm ++ ycs p) bs _ (f1' - 1) 2048 m2 hP2 hS2 (by rw [List.length_cons]; omega) (by rw [List.length_cons]; omega) (by omega) (by omega) (Or.inr ⟨op, w, rfl, by omega⟩) (y_n34c (by omega)) (fun f1'' f3 m3 p3 Lm3 hf1'' hf3 hp3 hLm3 hP3 hS3 hF3 => by
            refine hB f1'' f3 m3 (p3 ++ [op]) Lm3 hf1'' hf3 ⟨fun v hv => ?_, ?_⟩ ?_ hP3 (y_qs_w hS3 ?_) ((hFm.tr hF2).tr hF3)
            · rcases List.mem_append.mp hv with hv | hv
              · have := hp3.1 v hv
                omega
              · rw [List.mem_singleton] at hv
                omega
            · rw [List.length_append]
              show p3.length + 1 ≤ 2
              have := hp3.2
              omega
            · have e1 : ycs (p3 ++ [op]) = ycs p3 ++ [op + 20002] := by
                unfold ycs
                rw [List.map_append]
                rfl
              rw [e1, ← List.append_assoc, hLm3, hLm]
              rw [List.append_assoc, List.append_assoc, List.append_assoc]
            · rw [List.append_assoc]
              rfl)
      · intro Q v1 w LL bs a f1 f2 m hP hS hbs hl hf1 hf2 hBk hN14 hQ
        refine hO.1 Q v1 w LL bs a f1 f2 m hP hS hbs hl hf1 hf2 hBk hN14 (fun f1' f3' m1 p Lm hf1' hf3' hp hLm hPm hSm hFm => ?_)
        obtain ⟨a1, hPm⟩ := hPm
        have hlen := y_len hLm
        have lpw : (p ++ w).length = p.length + w.length := List.length_append
        have lcs : (Lm ++ ycs p).length = LL.length + l.length := by rw [hLm, List.length_append]
        refine y_B_add hPm hSm (by omega) ⟨hp.1, by omega⟩ hN14 (op := op) hs hX2.2.1 ⟨by omega, by omega⟩ (fun m2 hP2 hS2 hF2 => ?_)
        exact hN3 Q v1 (op :: w) (Lm ++ ycs p) bs _ (f1' - 1) 2048 m2 hP2 hS2 (by rw [List.length_cons]; omega) (by rw [List.length_cons]; omega) (by omega) (by omega) (Or.inr ⟨op, w, rfl, by omega⟩) (y_n34c (by omega)) (fun m3 q3 F3 h3 => hQ m3 q3 ((hFm.tr hF2).tr F3) h3)
    have g43 : ySg tp t1 43 ∨ ySg tp t1 45 → nd_X2_readSum_43 R (lp_X2_readSum_8 R Qc n) Qc (nI o) (nI i) x := by
      intro hs
      unfold nd_X2_readSum_43
      refine y_isSign hX 43 (by omega) (fun z => b2 (go 1 (Or.inl ⟨z, rfl⟩))) (fun z => b3 (go 2 (Or.inr ⟨?_, rfl⟩)))
      rcases hs with y | y
      · exact absurd y z
      · exact y
    refine y_isSign hX 43 (by omega) (fun z => yb1 (g43 (Or.inl z))) (fun z => b4 ?_)
    exact y_isSign hX 45 (by omega) (fun z2 => b2 (g43 (Or.inr z2))) (fun z2 => b3 (fin z z2))
theorem y_sum {R : Nat → Int32 → fz_s → (Bool → fz_s → Prop) → Prop} {tp : Nat → Nat} {tn tk o : Nat} {cd f d : Nat} (hpart : ySp (R 4) tp tn tk cd f o false d (fun b so t b' so' t' l => yOKm tp tn tk o b so t b' so' t' l ∧ ¬ ySg tp t' 42 ∧ ¬ ySg tp t' 47) (yNOm tp tn tk o)) : ySp (wp_X2_readSum R) tp tn tk cd f o false (d + 1) (fun b so t b' so' t' l => yOKs tp tn tk o b so t b' so' t' l ∧ yNop tp t') (yNOs tp tn tk o) := by
  intro b so t L x hX hG hfb Qc hok hno
  have hn0 := hX.1.1
  have hb1 := hX.2.1.1
  have hb2 := hX.2.1.2.1
  unfold wp_X2_readSum
  refine hpart b so t L x hX hG hfb _ (fun b1 so1 t1 l1 x1 hX1 hG1 F1 hb hl1 hE1 hO1 => ?_) (fun kd pl x1 hX1 F1 hN1 => y_sumF (by omega) (hno kd pl x1 hX1 F1 ?_))
  · have hb1n := hX1.2.1.1
    have hb1m := hX1.2.1.2.1
    refine y_sumlp hpart hfb hok hno 2048 0 b1 so1 t1 l1 x1 (by omega) hb hl1 (by omega) hX1 hG1 F1 (hE1.mono (by omega)) ⟨?_, hO1.2⟩
    intro Q v1 w LL bs a f1 f2 m hP hS hbs hl hf1 hf2 hBk hN14 hB
    obtain ⟨r, hBk'⟩ := hBk
    refine hO1.1 Q v1 w LL bs a f1 f2 m hP hS hbs hl hf1 hf2 (y_tp0 hBk') (y_n34 hN14) (fun f1' f3 m1 p Lm hf1' hf3 hp hLm hP1 hS1 hF1 => ?_)
    refine hB f1' f3 m1 p Lm hf1' hf3 ⟨fun v hv => ?_, by have := hp.2; omega⟩ hLm hP1 hS1 hF1
    have := hp.1 v hv
    omega
  · intro Q v1 w LL bs a f1 f2 m hP hS hbs hl hf1 hf2 hBk hN14 hQ
    obtain ⟨r, hBk'⟩ := hBk
    exact hN1 Q v1 w LL bs a f1 f2 m hP hS hbs hl hf1 hf2 (y_tp0 hBk') (y_n34 hN14) hQ

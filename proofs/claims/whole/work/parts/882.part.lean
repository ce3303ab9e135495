/-! CLASS AND MODEL READ PARTS ALIKE: the class's walk -/
theorem ySg.lt {tp : Nat → Nat} {tn b : Nat} {so : Bool} {t : yTok} {c : Nat} (h : yTS tp tn b so t) (hs : ySg tp t c) : t.2.1 = t.1 + 1 ∧ ySo t = false := by
  have := hs.1
  refine ⟨?_, decide_eq_false (fun z => by omega)⟩
  rcases h.2.2.2.2 with z | z | z | z | z <;> omega
theorem yWo.lt {tp : Nat → Nat} {tn b : Nat} {so : Bool} {t : yTok} {i : Nat} (h : yTS tp tn b so t) (hB : ∀ j, tp j < 256) (hs : yWo t i) : t.1 < t.2.1 ∧ ySo t = true := ⟨(h.lt hB hs.1).1, decide_eq_true (Or.inl hs.1)⟩
theorem y_part {R R2 : Nat → Int32 → fz_s → (Bool → fz_s → Prop) → Prop} (h6 : R 6 = wp_X2_ofTwo R2) {tp : Nat → Nat} {tn tk o cd f d d1 dp : Nat} (htk : tk ≤ 2) (ho : o ≤ 6)
    (hsum : o < 6 → ySp (R 3) tp tn tk cd f (o + 1) false d1 (fun b so t b' so' t' l => yOKs tp tn tk (o + 1) b so t b' so' t' l ∧ yNop tp t') (yNOs tp tn tk (o + 1)))
    (hsum2 : o < 6 → ySp (R2 3) tp tn tk cd f (o + 1) false d1 (fun b so t b' so' t' l => yOKs tp tn tk (o + 1) b so t b' so' t' l ∧ yNop tp t') (yNOs tp tn tk (o + 1)))
    (hprt : o < 6 → ySp (R 5) tp tn tk cd f (o + 1) false dp (yOKp tp tn tk (o + 1)) (yNOp tp tn tk (o + 1)))
    (hd : 1 ≤ d ∧ (o < 6 → d1 + 1 ≤ d ∧ dp ≤ d)) : ySp (wp_X2_part R) tp tn tk cd f o false d (yOKp tp tn tk o) (yNOp tp tn tk o) := by
  intro b so t L x hX hG hfb Qc hok hno
  obtain ⟨a1, a2, a3, a4, a5, a6, a7, a8⟩ := id hX
  have hn0 := a1.1
  have hB := a1.2.1
  have hb1 := a2.1
  have hb2 := a2.2.1
  have hb3 := a2.2.2.1
  have hk4 : t.2.2.1 ≤ 4 := by
    rcases a2.2.2.2.2 with z | z | z | z | z <;> omega
  unfold wp_X2_part
  rw [a4]
  by_cases ck : t.2.2.1 = 2
  · refine nf (by simp (disch := omega) only [N_lit, N_add, N_mul, N_sub, N_addneg, N_neg1, N_addm, N_le, N_lt, N_eq, N_in, N_cl, N_ne, N_ne', N_ltm, N_mlt, N_lem] <;> omega) ?_
    have hlt := (a2.dg hB ck).1
    refine y_takeNumber hX (most := 9999) (by omega) (fun hu t' x1 hX1 F1 h6' => b2 ?_) (fun hu x1 hX1 F1 => b3 (hno _ _ x1 hX1 (y_4G F1) ?_))
    · have hv : yval tp t.1 (t.2.1 - t.1) ≤ 9999 := hu.2.2
      rw [h6', ← cC_id (c := yval tp t.1 (t.2.1 - t.1)) (by omega)]
      refine y_done hX1 (hG.x F1) (by omega) _ (fun x2 hX2 hG2 F2 => b2 ?_)
      exact hok _ _ t' [yval tp t.1 (t.2.1 - t.1)] x2 hX2 hG2 ((y_4G F1).tr F2) (by omega) (by show 0 + 1 + b ≤ t.2.1; omega) ((yEv.num hv).mono hd.1) (y_okNum htk hu hX1.2.1)
    · exact y_noLeaf htk (fun z => by have := z.1; omega) (fun z => by have := z.1; omega) (fun z => by have := z.1; omega) (fun z => by rcases z.2 with y | y <;> (have := y.1; omega)) (fun z => by have := z.1; omega) hu
  refine nt (by simp (disch := omega) only [N_lit, N_add, N_mul, N_sub, N_addneg, N_neg1, N_addm, N_le, N_lt, N_eq, N_in, N_cl, N_ne, N_ne', N_ltm, N_mlt, N_lem] <;> omega) ?_
  have nu : ¬ yNu tp t 9999 := fun z => ck z.1
  have eNk : yNk t = 1 := if_neg (fun z => ck z.1)
  have eNp : yNp t = t.1 := if_neg (fun z => ck z.1)
  refine y_isSign hX 40 (by omega) (fun hs => b2 ?_) (fun n40 => b3 ?_)
  · have he := hs.lt a2
    refine y_opens hX ho (fun ho6 t1 x1 hX1 F1 => b2 ?_) (fun ho6 x1 hX1 F1 => b3 (hno _ _ x1 hX1 (y_4G F1) (y_noOpen4 htk ⟨ho, ho6⟩ hs)))
    rw [he.2] at hX1
    rw [nI_1]
    refine hsum ho6 t.2.1 false t1 L x1 hX1 (hG.x (y_n4 F1)) (by omega) _ (fun b2' so2 t2 l2 x2 hX2 hG2 F2 hbb hll hE2 hO2 => b2 ?_) (fun kd pl x2 hX2 F2 hN2 => b3 (hno kd pl x2 hX2 ((y_nG F1).tr F2) (y_noOpen1 htk ho6 hs (by omega) hX1.2.1 hN2)))
    refine y_takeSign hX2 41 (by omega) (fun hs2 t3 x3 hX3 F3 => b2 ?_) (fun hs2 x3 hX3 F3 => b3 (hno _ _ x3 hX3 (((y_nG F1).tr F2).tr (y_4G F3)) (y_noOpen2 htk ho6 hs (by omega) hX1.2.1 ⟨hbb, hll⟩ hO2.1 hX2.2.1 hO2.2 hs2)))
    have he2 := hs2.lt hX2.2.1
    have g1 := hX2.2.1.1
    exact hok t2.2.1 false t3 l2 x3 hX3 (hG2.x (y_n4 F3)) (((y_nG F1).tr F2).tr (y_nG F3)) (by omega) (by omega) (hE2.mono (by have := hd.2 ho6; omega)) (y_okOpen htk ho6 hs (by omega) hX1.2.1 ⟨hbb, hll⟩ hO2.1 hX2.2.1 hs2 hX3.2.1)
  have mm : ∀ v : Nat, (yWo t 24 ∧ v = 21) ∨ (yWo t 25 ∧ v = 22) → nd_X2_part_137 R Qc (nI o) (nI (v + 19986)) x := by
    intro v hs
    have hw : t.1 < t.2.1 ∧ ySo t = true := hs.elim (fun z => z.1.lt a2 hB) (fun z => z.1.lt a2 hB)
    unfold nd_X2_part_137
    refine y_next hX (fun t1 x1 hX1 F1 => ?_)
    rw [hw.2] at hX1
    rw [h6]
    unfold wp_X2_ofTwo
    have g1 := hX1.2.1.1
    have g2 := hX1.2.1.2.1
    refine y_isSign hX1 40 (by omega) (fun hs1 => b1 ?_) (fun hs1 => b4 (y_failHere hX1 (fun x2 hX2 F2 => b3 (hno _ _ x2 hX2 ((y_nG F1).tr (y_4G F2)) (y_noMM1 htk hs hw.1 hX1.2.1 ho hs1)))))
    have he1 := hs1.lt hX1.2.1
    refine y_opens hX1 ho (fun ho6 t2 x2 hX2 F2 => b2 ?_) (fun ho6 x2 hX2 F2 => b3 (b3 (hno _ _ x2 hX2 ((y_nG F1).tr (y_4G F2)) (y_noMM0 htk hs hw.1 hX1.2.1 ⟨ho, ho6⟩ hs1))))
    rw [he1.2] at hX2
    rw [nI_1]
    refine hsum2 ho6 t1.2.1 false t2 L x2 hX2 (hG.x (y_n4 (F1.tr F2))) (by omega) _ (fun b3' so3 t3 l3 x3 hX3 hG3 F3 hbb hll hE3 hO3 => b2 ?_) (fun kd pl x3 hX3 F3 hN3 => b3 (b3 (hno kd pl x3 hX3 ((y_nG (F1.tr F2)).tr F3) (y_noMM2 htk hs hw.1 hX1.2.1 ho6 hs1 (by omega) hX2.2.1 hN3))))
    have g3 := hX3.2.1.1
    have g4 := hX3.2.1.2.1
    refine y_takeSign hX3 44 (by omega) (fun hs3 t4 x4 hX4 F4 => b2 ?_) (fun hs3 x4 hX4 F4 => b3 (b3 (hno _ _ x4 hX4 (((y_nG (F1.tr F2)).tr F3).tr (y_4G F4)) (y_noMM3 htk hs hw.1 hX1.2.1 ho6 hs1 (by omega) hX2.2.1 ⟨hbb, hll⟩ hO3.1 hX3.2.1 hO3.2 hs3))))
    have he3 := hs3.lt hX3.2.1
    have lL3 : (L ++ l3).length = L.length + l3.length := List.length_append
    refine hsum2 ho6 t3.2.1 false t4 (L ++ l3) x4 hX4 (hG3.x (y_n4 F4)) (by omega) _ (fun b5 so5 t5 l5 x5 hX5 hG5 F5 hbb5 hll5 hE5 hO5 => b2 ?_) (fun kd pl x5 hX5 F5 hN5 => b3 (b3 (hno kd pl x5 hX5 ((((y_nG (F1.tr F2)).tr F3).tr (y_nG F4)).tr F5) (y_noMM4 htk hs hw.1 hX1.2.1 ho6 hs1 (by omega) hX2.2.1 ⟨hbb, hll⟩ hO3.1 hX3.2.1 hs3 hX4.2.1 hN5))))
    have g5 := hX5.2.1.1
    have g6 := hX5.2.1.2.1
    refine y_takeSign hX5 41 (by omega) (fun hs5 t6 x6 hX6 F6 => b2 (b2 ?_)) (fun hs5 x6 hX6 F6 => b3 (b3 (hno _ _ x6 hX6 (((((y_nG (F1.tr F2)).tr F3).tr (y_nG F4)).tr F5).tr (y_4G F6)) (y_noMM5 htk hs hw.1 hX1.2.1 ho6 hs1 (by omega) hX2.2.1 ⟨hbb, hll⟩ hO3.1 hX3.2.1 hs3 hX4.2.1 ⟨hbb5, hll5⟩ hO5.1 hX5.2.1 hO5.2 hs5))))
    have he5 := hs5.lt hX5.2.1
    have lL5 : (L ++ l3 ++ l5).length = L.length + l3.length + l5.length := by rw [List.length_append, List.length_append]
    rw [← cC_id (c := v + 19986) (by omega)]
    refine y_done hX6 (hG5.x (y_n4 F6)) (by omega) _ (fun x7 hX7 hG7 F7 => b2 ?_)
    have eL : L ++ l3 ++ l5 ++ [v + 19986] = L ++ (l3 ++ l5 ++ [v + 19986]) := by rw [List.append_assoc, List.append_assoc, List.append_assoc]
    rw [eL] at hG7
    have hd' := hd.2 ho6
    refine hok t5.2.1 false t6 (l3 ++ l5 ++ [v + 19986]) x7 hX7 hG7 ((((((y_nG (F1.tr F2)).tr F3).tr (y_nG F4)).tr F5).tr (y_nG F6)).tr F7) (by omega) ?_ ?_ (y_okMM htk hs hw.1 hX1.2.1 ho6 hs1 (by omega) hX2.2.1 ⟨hbb, hll⟩ hO3.1 hX3.2.1 hs3 hX4.2.1 ⟨hbb5, hll5⟩ hO5.1 hX5.2.1 hs5 hX6.2.1 ?_)
    · rw [List.length_append, List.length_append]
      show l3.length + l5.length + 1 + b ≤ t5.2.1
      omega
    · have := yEv.op (c := v + 19986) (D := d) hE3 hE5 (by omega) (fun z => by omega) ⟨by omega, by omega⟩
      rw [decide_eq_false (by omega)] at this
      exact this
    · unfold ycl
      rcases hs with z | z
      · rw [z.2]; rfl
      · rw [z.2]; rfl
  have g116 : yWo t 24 ∨ yWo t 25 → nd_X2_part_116 R Qc (nI o) x := by
    intro hs
    unfold nd_X2_part_116
    refine y_isWord hX 24 (by omega) (fun z => b2 (mm 21 (Or.inl ⟨z, rfl⟩))) (fun z => b3 (mm 22 (Or.inr ⟨?_, rfl⟩)))
    rcases hs with y | y
    · exact absurd y z
    · exact y
  refine y_isWord hX 24 (by omega) (fun z => b1 (g116 (Or.inl z))) (fun n24 => b4 ?_)
  refine y_isWord hX 25 (by omega) (fun z => b2 (g116 (Or.inr z))) (fun n25 => b3 ?_)
  have lf : ¬ (tk = 2 ∧ (yWo t 0 ∨ yWo t 13)) → nd_X2_part_250 R Qc x := by
    intro nof
    unfold nd_X2_part_250
    refine y_slot hX hG (by omega) htk (fun k hk hw ha t1 x1 hX1 hG1 F1 => ?_) (fun ns x1 hX1 F1 => hno _ _ x1 hX1 (y_4G F1) ?_)
    · have hlt := (a2.lt hB hw.1).1
      exact hok _ _ t1 [10000 + k] x1 hX1 hG1 F1 (by omega) (by show 0 + 1 + b ≤ t.2.1; omega) ((yEv.slot (by omega) (y_sc_al htk hk ha)).mono hd.1) (y_okSlot htk hk hw ha hX1.2.1)
    · have := y_noLeaf (o := o) (b := b) (so := so) (tn := tn) htk n40 n24 n25 nof ns nu
      rw [eNk, eNp] at this
      exact this
  rw [hG.2.2.2.1]
  by_cases c2 : tk = 2
  · rw [if_pos c2]
    refine bf (by decide +kernel) ?_
    have q13 : ysc tk 11 = true ∧ ysc tk 12 = true ∧ ysc tk 13 = true ∧ ysc tk 14 = true := by
      rw [c2]
      decide +kernel
    have ofp : ∀ v : Nat, (yWo t 0 ∧ v = 60) ∨ (yWo t 13 ∧ v = 61) → nd_X2_part_217 R Qc (nI o) (nI (v + 19941)) x := by
      intro v hs
      have hw : t.1 < t.2.1 ∧ ySo t = true := hs.elim (fun z => z.1.lt a2 hB) (fun z => z.1.lt a2 hB)
      have hcM : v = cM (v + 19941) := by
        rcases hs with z | z
        · rw [z.2]; rfl
        · rw [z.2]; rfl
      unfold nd_X2_part_217
      refine y_opens hX ho (fun ho6 t1 x1 hX1 F1 => b2 ?_) (fun ho6 x1 hX1 F1 => b3 (hno _ _ x1 hX1 (y_4G F1) (y_noOf4 c2 ⟨ho, ho6⟩ hs)))
      rw [hw.2] at hX1
      rw [nI_1]
      refine hprt ho6 t.2.1 true t1 L x1 hX1 (hG.x (y_n4 F1)) (by omega) _ (fun b2' so2 t2 l2 x2 hX2 hG2 F2 hbb hll hE2 hO2 => b2 ?_) (fun kd pl x2 hX2 F2 hN2 => b3 (hno kd pl x2 hX2 ((y_nG F1).tr F2) (y_noOf1 c2 ho6 hs hw.1 hX1.2.1 hN2)))
      have g1 := hX2.2.1.1
      have g2 := hX2.2.1.2.1
      have lL2 : (L ++ l2).length = L.length + l2.length := List.length_append
      rw [← cC_id (c := v + 19941) (by omega)]
      refine y_done hX2 hG2 (by omega) _ (fun x3 hX3 hG3 F3 => b2 ?_)
      rw [List.append_assoc] at hG3
      refine hok b2' so2 t2 (l2 ++ [v + 19941]) x3 hX3 hG3 (((y_nG F1).tr F2).tr F3) (by omega) ?_ ?_ (y_okOf c2 ho6 hs hcM hw.1 hX1.2.1 ⟨hbb, hll⟩ hO2 (by omega))
      · rw [List.length_append]
        show l2.length + 1 + b ≤ b2'
        omega
      · have hd' := hd.2 ho6
        rcases hs with z | z
        · rw [z.2]
          exact (hE2.mono hd'.2).of1 q13.1 q13.2.1
        · rw [z.2]
          exact (hE2.mono hd'.2).of2 q13.2.2.1 q13.2.2.2
    have g197 : yWo t 0 ∨ yWo t 13 → nd_X2_part_197 R Qc (nI o) x := by
      intro hs
      unfold nd_X2_part_197
      refine y_isWord hX 0 (by omega) (fun z => b2 (ofp 60 (Or.inl ⟨z, rfl⟩))) (fun z => b3 (ofp 61 (Or.inr ⟨?_, rfl⟩)))
      rcases hs with y | y
      · exact absurd y z
      · exact y
    refine y_isWord hX 0 (by omega) (fun z => b1 (g197 (Or.inl z))) (fun n0 => b4 ?_)
    refine y_isWord hX 13 (by omega) (fun z => b2 (g197 (Or.inr z))) (fun n13 => b3 (lf (fun z => ?_)))
    rcases z.2 with y | y
    · exact n0 y
    · exact n13 y
  · rw [if_neg c2]
    exact bt (by decide +kernel) (lf (fun z => c2 z.1))
/-! all members of the sums -/
def ySum (R : Int32 → fz_s → (Bool → fz_s → Prop) → Prop) (tp : Nat → Nat) (tn tk cd f o : Nat) : Prop := ySp R tp tn tk cd f o false (3 * (6 - o) + 3) (fun b so t b' so' t' l => yOKs tp tn tk o b so t b' so' t' l ∧ yNop tp t') (yNOs tp tn tk o)
def yPrt (R : Int32 → fz_s → (Bool → fz_s → Prop) → Prop) (tp : Nat → Nat) (tn tk cd f o : Nat) : Prop := ySp R tp tn tk cd f o false (3 * (6 - o) + 1) (yOKp tp tn tk o) (yNOp tp tn tk o)
def yPrd (R : Int32 → fz_s → (Bool → fz_s → Prop) → Prop) (tp : Nat → Nat) (tn tk cd f o : Nat) : Prop := ySp R tp tn tk cd f o false (3 * (6 - o) + 2) (fun b so t b' so' t' l => yOKm tp tn tk o b so t b' so' t' l ∧ ¬ ySg tp t' 42 ∧ ¬ ySg tp t' 47) (yNOm tp tn tk o)
theorem y_GS {tp : Nat → Nat} {tn tk cd f : Nat} (htk : tk ≤ 2) : ∀ (N n : Nat), n ≤ N → ∀ o, o ≤ 6 → (5 * (6 - o) + 2 ≤ n → yPrt (wp_G n 5) tp tn tk cd f o) ∧ (5 * (6 - o) + 3 ≤ n → yPrd (wp_G n 4) tp tn tk cd f o) ∧ (5 * (6 - o) + 4 ≤ n → ySum (wp_G n 3) tp tn tk cd f o)
  | 0, n, hn, o, ho => ⟨fun h => absurd h (by omega), fun h => absurd h (by omega), fun h => absurd h (by omega)⟩
  | N + 1, n, hn, o, ho => by
    have ih := y_GS (tp := tp) (tn := tn) (tk := tk) (cd := cd) (f := f) htk N
    refine ⟨fun h => ?_, fun h => ?_, fun h => ?_⟩
    · obtain ⟨k, rfl⟩ : ∃ k, n = k + 2 := ⟨n - 2, by omega⟩
      show ySp (wp_X2_part (wp_G (k + 1))) tp tn tk cd f o false (3 * (6 - o) + 1) (yOKp tp tn tk o) (yNOp tp tn tk o)
      exact y_part (R2 := wp_G k) (d1 := 3 * (6 - (o + 1)) + 3) (dp := 3 * (6 - (o + 1)) + 1) rfl htk ho (fun h6 => (ih (k + 1) (by omega) (o + 1) (by omega)).2.2 (by omega)) (fun h6 => (ih k (by omega) (o + 1) (by omega)).2.2 (by omega)) (fun h6 => (ih (k + 1) (by omega) (o + 1) (by omega)).1 (by omega)) ⟨by omega, fun h6 => ⟨by omega, by omega⟩⟩
    · obtain ⟨k, rfl⟩ : ∃ k, n = k + 1 := ⟨n - 1, by omega⟩
      show ySp (wp_X2_product (wp_G k)) tp tn tk cd f o false (3 * (6 - o) + 2) _ (yNOm tp tn tk o)
      exact y_product ((ih k (by omega) o ho).1 (by omega))
    · obtain ⟨k, rfl⟩ : ∃ k, n = k + 1 := ⟨n - 1, by omega⟩
      show ySp (wp_X2_readSum (wp_G k)) tp tn tk cd f o false (3 * (6 - o) + 3) _ (yNOs tp tn tk o)
      exact y_sum ((ih k (by omega) o ho).2.1 (by omega))

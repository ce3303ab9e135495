/-! CLASS AND MODEL READ PARTS ALIKE -/
theorem y_cp {Q : fz_s → Prop} {f1 : Nat} {v1 : Int32} {tn b' : Nat} (hb : tn + 3 ≤ 2048 + b') : ∀ m'' : fz_s, m''.1 196 5 = 0 → (∀ f3, tn + 3 ≤ f3 + b' → yBS Q f1 v1 f3 m'') → yCP Q f1 v1 m'' := fun m'' h0 hB => nf h0 (hB 2048 hb)
theorem y_okNum {tp : Nat → Nat} {tn tk o : Nat} {b : Nat} {so : Bool} {t : yTok} {t' : yTok} (htk : tk ≤ 2) (hu : yNu tp t 9999) (ht' : yTS tp tn t.2.1 true t') : yOKp tp tn tk o b so t t.2.1 true t' [yval tp t.1 (t.2.1 - t.1)] := by
  intro Q v1 w LL bs a f1 f2 m hP hS hbs hl hf1 hf2 hE
  have hn0 := hP.1.1
  have hb1 := hP.2.1.1
  have hb2 := hP.2.1.2.1
  have hb3 := hP.2.1.2.2.1
  obtain ⟨n, rfl⟩ : ∃ n, f2 = n + 1 := ⟨f2 - 1, by omega⟩
  have hk := hu.1
  have hlt := (hP.2.1.dg hP.1.2.1 hk).1
  refine y_A_leaf hP hS htk (by omega) (fun z => by have := z.1; omega) (fun z => by have := z.1; omega) (fun z => by have := z.1; omega) (fun z => by rcases z.2 with y | y <;> (have := y.1; omega)) (by omega) (fun k _ z => by have := z.1; omega) (fun _ m' hA hS' hF => ?_) (fun _ z => absurd hu z)
  exact hE f1 2048 _ m' (by omega) (by omega) (y_cp (by omega)) ⟨_, hA t' ht'⟩ hS' hF
theorem y_okSlot {tp : Nat → Nat} {tn tk o : Nat} {b : Nat} {so : Bool} {t : yTok} {t' : yTok} {k : Nat} (htk : tk ≤ 2) (hk : k ≤ 10) (hw : yWo t k) (ha : yal tk k) (ht' : yTS tp tn t.2.1 true t') : yOKp tp tn tk o b so t t.2.1 true t' [10000 + k] := by
  intro Q v1 w LL bs a f1 f2 m hP hS hbs hl hf1 hf2 hE
  have hn0 := hP.1.1
  have hb1 := hP.2.1.1
  have hb2 := hP.2.1.2.1
  have hb3 := hP.2.1.2.2.1
  obtain ⟨n, rfl⟩ : ∃ n, f2 = n + 1 := ⟨f2 - 1, by omega⟩
  have hk1 := hw.1
  have hlt := (hP.2.1.lt hP.1.2.1 hk1).1
  refine y_A_leaf hP hS htk (by omega) hw.nsg (hw.ne (by omega)) (hw.ne (by omega)) (fun z => ?_) (by omega) (fun k' _ z _ m' hA hS' hF => ?_) (fun z => by have := z.1; omega) (fun z => absurd ⟨hw.1, ⟨by rw [hw.2]; omega, by rw [hw.2]; omega⟩, by rw [hw.2]; exact ha⟩ z)
  · unfold yal at ha
    rcases z.2 with y | y
    · have := hw.2
      have := y.2
      omega
    · exact (hw.ne (by omega)) y
  · have : k' = k := by
      have := z.2
      have := hw.2
      omega
    subst this
    exact hE f1 2048 _ m' (by omega) (by omega) (y_cp (by omega)) ⟨_, hA t' ht'⟩ hS' hF
theorem y_noLeaf {tp : Nat → Nat} {tn tk o : Nat} {b : Nat} {so : Bool} {t : yTok} (htk : tk ≤ 2) (n40 : ¬ ySg tp t 40) (n24 : ¬ yWo t 24) (n25 : ¬ yWo t 25) (nof : ¬ (tk = 2 ∧ (yWo t 0 ∨ yWo t 13))) (ns : ¬ (t.2.2.1 = 1 ∧ (0 ≤ t.2.2.2 ∧ t.2.2.2 ≤ 10) ∧ yal tk t.2.2.2)) (nu : ¬ yNu tp t 9999) : yNOp tp tn tk o b so t (yNk t) (yNp t) := by
  intro Q v1 w LL bs a f1 f2 m hP hS hbs hl hf1 hf2 hQ
  have hn0 := hP.1.1
  have hb1 := hP.2.1.1
  have hb2 := hP.2.1.2.1
  have hb3 := hP.2.1.2.2.1
  obtain ⟨n, rfl⟩ : ∃ n, f2 = n + 1 := ⟨f2 - 1, by omega⟩
  refine y_A_leaf hP hS htk (by omega) n40 n24 n25 nof (by omega) (fun k hk z y => absurd ⟨z.1, ⟨by rw [z.2]; omega, by rw [z.2]; omega⟩, by rw [z.2]; exact y⟩ ns) (fun z => absurd z nu) (fun _ _ m' q' F' => ?_)
  exact y_CPF q' (by omega) (fun m2 q2 F2 h2 => hQ m2 q2 (F'.tr F2) h2)
theorem y_bk {bs v : Nat} {w : List Nat} (h : bs ≤ w.length) (hv : 20 ≤ v ∧ v ≤ 24) : ∃ r, yBk bs (v :: w) r := ⟨nI v, Or.inr ⟨by rw [List.length_cons]; omega, v, w, rfl, hv.1, hv.2, rfl⟩⟩
theorem y_okOpen {tp : Nat → Nat} {tn tk o : Nat} {b : Nat} {so : Bool} {t : yTok} {t1 t2 t3 : yTok} {b2 : Nat} {so2 : Bool} {l : List Nat} (htk : tk ≤ 2) (ho : o < 6) (hs : ySg tp t 40) (he : t.1 < t.2.1) (ht1 : yTS tp tn t.2.1 false t1) (hb2 : t.2.1 < b2 ∧ l.length + t.2.1 ≤ b2) (hO : yOKs tp tn tk (o + 1) t.2.1 false t1 b2 so2 t2 l) (hT2 : yTS tp tn b2 so2 t2) (hs2 : ySg tp t2 41) (ht3 : yTS tp tn t2.2.1 false t3) : yOKp tp tn tk o b so t t2.2.1 false t3 l := by
  intro Q v1 w LL bs a f1 f2 m hP hS hbs hl hf1 hf2 hE
  have hn0 := hP.1.1
  have hb1 := hP.2.1.1
  have hb2 := hP.2.1.2.1
  have hb3 := hP.2.1.2.2.1
  obtain ⟨n, rfl⟩ : ∃ n, f2 = n + 1 := ⟨f2 - 1, by omega⟩
  have g1 := hT2.1
  have g2 := hT2.2.1
  have he2 : t2.2.1 = t2.1 + 1 := by
    have := hs2.1
    rcases hT2.2.2.2.2 with z | z | z | z | z <;> omega
  refine y_A_open hP hS htk (by omega) (by omega) hs (by omega) (fun _ m1 hA hS1 hF1 => ?_) (fun z => absurd ho z)
  refine hO Q v1 (20 :: w) LL bs _ f1 n m1 (hA t1 ht1) hS1 (by rw [List.length_cons]; omega) (by rw [List.length_cons]; omega) (by omega) (by omega) (y_bk hbs (by omega)) (y_n14c (by omega)) (fun f1' f3 m2 p Lm hf1' hf3 hp hLm hP2 hS2 hF2 => ?_)
  obtain ⟨a2, hP2⟩ := hP2
  have hlen := y_len hLm
  obtain ⟨g, rfl⟩ : ∃ g, f3 = g + 1 := ⟨f3 - 1, by omega⟩
  refine y_B_close hP2 hS2 (by rw [List.length_append, List.length_cons]; omega) ⟨hp.1, by have := hp.2; omega⟩ (Or.inl rfl) hbs hs2 ht3 (fun m3 hP3 hS3 hF3 => ?_)
  refine hE f1' 2048 _ m3 (by omega) (by omega) (fun m4 _ hB => hB g (by omega)) ⟨_, hP3⟩ ?_ ((hF1.tr hF2).tr hF3)
  have e : Lm ++ ycs p ++ ycl 20 = LL ++ l := by
    rw [hLm]
    exact List.append_nil _
  rw [e] at hS3
  exact hS3
theorem y_noOpen1 {tp : Nat → Nat} {tn tk o : Nat} {b : Nat} {so : Bool} {t : yTok} {t1 : yTok} {kd pl : Nat} (htk : tk ≤ 2) (ho : o < 6) (hs : ySg tp t 40) (he : t.1 < t.2.1) (ht1 : yTS tp tn t.2.1 false t1) (hN : yNOs tp tn tk (o + 1) t.2.1 false t1 kd pl) : yNOp tp tn tk o b so t kd pl := by
  intro Q v1 w LL bs a f1 f2 m hP hS hbs hl hf1 hf2 hQ
  have hn0 := hP.1.1
  have hb1 := hP.2.1.1
  have hb2 := hP.2.1.2.1
  have hb3 := hP.2.1.2.2.1
  obtain ⟨n, rfl⟩ : ∃ n, f2 = n + 1 := ⟨f2 - 1, by omega⟩
  refine y_A_open hP hS htk (by omega) (by omega) hs (by omega) (fun _ m1 hA hS1 hF1 => ?_) (fun z => absurd ho z)
  exact hN Q v1 (20 :: w) LL bs _ f1 n m1 (hA t1 ht1) hS1 (by rw [List.length_cons]; omega) (by rw [List.length_cons]; omega) (by omega) (by omega) (y_bk hbs (by omega)) (y_n14c (by omega)) (fun m2 q2 F2 h2 => hQ m2 q2 (hF1.tr F2) h2)
theorem y_noOpen2 {tp : Nat → Nat} {tn tk o : Nat} {b : Nat} {so : Bool} {t : yTok} {t1 t2 : yTok} {b2 : Nat} {so2 : Bool} {l : List Nat} (htk : tk ≤ 2) (ho : o < 6) (hs : ySg tp t 40) (he : t.1 < t.2.1) (ht1 : yTS tp tn t.2.1 false t1) (hb2 : t.2.1 < b2 ∧ l.length + t.2.1 ≤ b2) (hO : yOKs tp tn tk (o + 1) t.2.1 false t1 b2 so2 t2 l) (hT2 : yTS tp tn b2 so2 t2) (hnp : yNop tp t2) (hs2 : ¬ ySg tp t2 41) : yNOp tp tn tk o b so t 1 t2.1 := by
  intro Q v1 w LL bs a f1 f2 m hP hS hbs hl hf1 hf2 hQ
  have hn0 := hP.1.1
  have hb1 := hP.2.1.1
  have hb2 := hP.2.1.2.1
  have hb3 := hP.2.1.2.2.1
  obtain ⟨n, rfl⟩ : ∃ n, f2 = n + 1 := ⟨f2 - 1, by omega⟩
  have g1 := hT2.1
  have g2 := hT2.2.1
  refine y_A_open hP hS htk (by omega) (by omega) hs (by omega) (fun _ m1 hA hS1 hF1 => ?_) (fun z => absurd ho z)
  refine hO Q v1 (20 :: w) LL bs _ f1 n m1 (hA t1 ht1) hS1 (by rw [List.length_cons]; omega) (by rw [List.length_cons]; omega) (by omega) (by omega) (y_bk hbs (by omega)) (y_n14c (by omega)) (fun f1' f3 m2 p Lm hf1' hf3 hp hLm hP2 hS2 hF2 => ?_)
  obtain ⟨a2, hP2⟩ := hP2
  have hlen := y_len hLm
  exact y_B_fail hP2 hS2 (by rw [List.length_append, List.length_cons]; omega) ⟨hp.1, by have := hp.2; omega⟩ (by omega) hbs hnp (fun _ => hs2) (fun z => by omega) ⟨by omega, by omega⟩ (fun m3 q3 F3 h3 => hQ m3 q3 ((hF1.tr hF2).tr F3) h3)
theorem y_noOpen4 {tp : Nat → Nat} {tn tk o : Nat} {b : Nat} {so : Bool} {t : yTok} (htk : tk ≤ 2) (ho : o ≤ 6 ∧ ¬ o < 6) (hs : ySg tp t 40) : yNOp tp tn tk o b so t 4 t.1 := by
  intro Q v1 w LL bs a f1 f2 m hP hS hbs hl hf1 hf2 hQ
  have hn0 := hP.1.1
  have hb1 := hP.2.1.1
  have hb2 := hP.2.1.2.1
  have hb3 := hP.2.1.2.2.1
  obtain ⟨n, rfl⟩ : ∃ n, f2 = n + 1 := ⟨f2 - 1, by omega⟩
  refine y_A_open hP hS htk ho.1 (by omega) hs (by omega) (fun z => absurd z ho.2) (fun _ m1 q1 F1 => ?_)
  exact y_CPF q1 (by omega) (fun m2 q2 F2 h2 => hQ m2 q2 (F1.tr F2) h2)
theorem y_okOf {tp : Nat → Nat} {tn tk o : Nat} {b : Nat} {so : Bool} {t : yTok} {t1 t2 : yTok} {b2 : Nat} {so2 : Bool} {l : List Nat} {v c : Nat} (htk : tk = 2) (ho : o < 6) (hs : (yWo t 0 ∧ v = 60) ∨ (yWo t 13 ∧ v = 61)) (hc : v = cM c) (he : t.1 < t.2.1) (ht1 : yTS tp tn t.2.1 true t1) (hb2 : t.2.1 < b2 ∧ l.length + t.2.1 ≤ b2) (hO : yOKp tp tn tk (o + 1) t.2.1 true t1 b2 so2 t2 l) (hb2n : b2 ≤ tn) : yOKp tp tn tk o b so t b2 so2 t2 (l ++ [c]) := by
  intro Q v1 w LL bs a f1 f2 m hP hS hbs hl hf1 hf2 hE
  have hn0 := hP.1.1
  have hb1 := hP.2.1.1
  have hb2 := hP.2.1.2.1
  have hb3 := hP.2.1.2.2.1
  obtain ⟨n, rfl⟩ : ∃ n, f2 = n + 1 := ⟨f2 - 1, by omega⟩
  have hv : 60 ≤ v := by omega
  refine y_A_of hP hS htk (by omega) (by omega) hs (by omega) (fun _ m1 hA hS1 hF1 => ?_) (fun z => absurd ho z)
  refine hO Q v1 (v :: w) LL bs _ f1 n m1 (hA t1 ht1) hS1 (by rw [List.length_cons]; omega) (by rw [List.length_cons]; omega) (by omega) (by omega) (fun f1' f4 C m2 hf1' hf4 hC hP2 hS2 hF2 => ?_)
  rw [List.length_cons] at hf4
  obtain ⟨g, rfl⟩ : ∃ g, f4 = g + 1 := ⟨f4 - 1, by omega⟩
  obtain ⟨a2, hP2'⟩ := id hP2
  refine y_E_pop hS2 hP2'.2.2.2.2.2.1 (by rw [List.length_append]; omega) hbs hc hv (fun m3 hS3 F3 => ?_)
  rw [List.append_assoc] at hS3
  exact hE f1' g C m3 hf1' (by omega) hC ⟨a2, hP2'.q F3⟩ hS3 ((hF1.tr hF2).tr (y_SQ F3))
theorem y_noOf1 {tp : Nat → Nat} {tn tk o : Nat} {b : Nat} {so : Bool} {t : yTok} {t1 : yTok} {kd pl v : Nat} (htk : tk = 2) (ho : o < 6) (hs : (yWo t 0 ∧ v = 60) ∨ (yWo t 13 ∧ v = 61)) (he : t.1 < t.2.1) (ht1 : yTS tp tn t.2.1 true t1) (hN : yNOp tp tn tk (o + 1) t.2.1 true t1 kd pl) : yNOp tp tn tk o b so t kd pl := by
  intro Q v1 w LL bs a f1 f2 m hP hS hbs hl hf1 hf2 hQ
  have hn0 := hP.1.1
  have hb1 := hP.2.1.1
  have hb2 := hP.2.1.2.1
  have hb3 := hP.2.1.2.2.1
  obtain ⟨n, rfl⟩ : ∃ n, f2 = n + 1 := ⟨f2 - 1, by omega⟩
  refine y_A_of hP hS htk (by omega) (by omega) hs (by omega) (fun _ m1 hA hS1 hF1 => ?_) (fun z => absurd ho z)
  exact hN Q v1 (v :: w) LL bs _ f1 n m1 (hA t1 ht1) hS1 (by rw [List.length_cons]; omega) (by rw [List.length_cons]; omega) (by omega) (by omega) (fun m2 q2 F2 h2 => hQ m2 q2 (hF1.tr F2) h2)
theorem y_noOf4 {tp : Nat → Nat} {tn tk o : Nat} {b : Nat} {so : Bool} {t : yTok} {v : Nat} (htk : tk = 2) (ho : o ≤ 6 ∧ ¬ o < 6) (hs : (yWo t 0 ∧ v = 60) ∨ (yWo t 13 ∧ v = 61)) : yNOp tp tn tk o b so t 4 t.1 := by
  intro Q v1 w LL bs a f1 f2 m hP hS hbs hl hf1 hf2 hQ
  have hn0 := hP.1.1
  have hb1 := hP.2.1.1
  have hb2 := hP.2.1.2.1
  have hb3 := hP.2.1.2.2.1
  obtain ⟨n, rfl⟩ : ∃ n, f2 = n + 1 := ⟨f2 - 1, by omega⟩
  refine y_A_of hP hS htk ho.1 (by omega) hs (by omega) (fun z => absurd z ho.2) (fun _ m1 q1 F1 => ?_)
  exact y_CPF q1 (by omega) (fun m2 q2 F2 h2 => hQ m2 q2 (F1.tr F2) h2)
theorem y_okMM {tp : Nat → Nat} {tn tk o : Nat} {b : Nat} {so : Bool} {t : yTok} {t1 t2 t3 t4 t5 t6 : yTok} {b3 b5 v c : Nat} {so3 so5 : Bool} {l3 l5 : List Nat} (htk : tk ≤ 2) (hs : (yWo t 24 ∧ v = 21) ∨ (yWo t 25 ∧ v = 22)) (he : t.1 < t.2.1) (ht1 : yTS tp tn t.2.1 true t1) (ho : o < 6) (hs1 : ySg tp t1 40) (he1 : t1.1 < t1.2.1) (ht2 : yTS tp tn t1.2.1 false t2) (hb3 : t1.2.1 < b3 ∧ l3.length + t1.2.1 ≤ b3) (hO3 : yOKs tp tn tk (o + 1) t1.2.1 false t2 b3 so3 t3 l3) (hT3 : yTS tp tn b3 so3 t3) (hs3 : ySg tp t3 44) (ht4 : yTS tp tn t3.2.1 false t4) (hb5 : t3.2.1 < b5 ∧ l5.length + t3.2.1 ≤ b5) (hO5 : yOKs tp tn tk (o + 1) t3.2.1 false t4 b5 so5 t5 l5) (hT5 : yTS tp tn b5 so5 t5) (hs5 : ySg tp t5 41) (ht6 : yTS tp tn t5.2.1 false t6) (hc : ycl (v + 2) = [c]) : yOKp tp tn tk o b so t t5.2.1 false t6 (l3 ++ l5 ++ [c]) := by
  intro Q v1 w LL bs a f1 f2 m hP hS hbs hl hf1 hf2 hE
  have hn0 := hP.1.1
  have hb1 := hP.2.1.1
  have hb2 := hP.2.1.2.1
  have hb3 := hP.2.1.2.2.1
  obtain ⟨n, rfl⟩ : ∃ n, f2 = n + 1 := ⟨f2 - 1, by omega⟩
  have hv : v = 21 ∨ v = 22 := hs.elim (fun z => Or.inl z.2) (fun z => Or.inr z.2)
  have g1 := ht1.1
  refine y_A_mm hP hS htk (by omega) (by omega) hs ht1 (by omega) (fun _ _ m1 hA hS1 hF1 => ?_) (fun _ z => absurd ho z) (fun z => absurd hs1 z)
  refine hO3 Q v1 (v :: w) LL bs _ f1 n m1 (hA t2 ht2) hS1 (by rw [List.length_cons]; omega) (by rw [List.length_cons]; omega) (by omega) (by omega) (y_bk hbs (by omega)) (y_n14c (by omega)) (fun f1' f3 m2 p Lm hf1' hf3 hp hLm hP2 hS2 hF2 => ?_)
  obtain ⟨a2, hP2⟩ := hP2
  have hlen := y_len hLm
  have k1 := hT3.1
  have k2 := hT3.2.1
  have he3 : t3.2.1 = t3.1 + 1 := by
    have := hs3.1
    rcases hT3.2.2.2.2 with z | z | z | z | z <;> omega
  refine y_B_comma hP2 hS2 (by rw [List.length_append, List.length_cons]; omega) ⟨hp.1, by have := hp.2; omega⟩ hv hbs hs3 ht4 ⟨by omega, by omega⟩ (fun m3 hP3 hS3 hF3 => ?_)
  have lcs : (Lm ++ ycs p).length = LL.length + l3.length := by rw [hLm, List.length_append]
  refine hO5 Q v1 ((v + 2) :: w) (Lm ++ ycs p) bs _ (f1' - 1) 2048 m3 hP3 hS3 (by rw [List.length_cons]; omega) (by rw [List.length_cons]; omega) (by omega) (by omega) (y_bk hbs (by omega)) (y_n14c (by omega)) (fun f1'' f3' m4 p' Lm' hf1'' hf3' hp' hLm' hP4 hS4 hF4 => ?_)
  obtain ⟨a4, hP4⟩ := hP4
  have hlen' := y_len hLm'
  have k3 := hT5.1
  have k4 := hT5.2.1
  have he5 : t5.2.1 = t5.1 + 1 := by
    have := hs5.1
    rcases hT5.2.2.2.2 with z | z | z | z | z <;> omega
  obtain ⟨g, rfl⟩ : ∃ g, f3' = g + 1 := ⟨f3' - 1, by omega⟩
  refine y_B_close hP4 hS4 (by rw [List.length_append, List.length_cons]; omega) ⟨hp'.1, by have := hp'.2; omega⟩ (by omega) hbs hs5 ht6 (fun m5 hP5 hS5 hF5 => ?_)
  refine hE f1'' 2048 _ m5 (by omega) (by omega) (fun m6 _ hB => hB g (by omega)) ⟨_, hP5⟩ ?_ ((((hF1.tr hF2).tr hF3).tr hF4).tr hF5)
  have e : Lm' ++ ycs p' ++ ycl (v + 2) = LL ++ (l3 ++ l5 ++ [c]) := by
    rw [hLm', hLm, hc]
    rw [List.append_assoc, List.append_assoc, List.append_assoc]
  rw [e] at hS5
  exact hS5
theorem y_noMM5 {tp : Nat → Nat} {tn tk o : Nat} {b : Nat} {so : Bool} {t : yTok} {t1 t2 t3 t4 t5 : yTok} {b3 b5 v : Nat} {so3 so5 : Bool} {l3 l5 : List Nat} (htk : tk ≤ 2) (hs : (yWo t 24 ∧ v = 21) ∨ (yWo t 25 ∧ v = 22)) (he : t.1 < t.2.1) (ht1 : yTS tp tn t.2.1 true t1) (ho : o < 6) (hs1 : ySg tp t1 40) (he1 : t1.1 < t1.2.1) (ht2 : yTS tp tn t1.2.1 false t2) (hb3 : t1.2.1 < b3 ∧ l3.length + t1.2.1 ≤ b3) (hO3 : yOKs tp tn tk (o + 1) t1.2.1 false t2 b3 so3 t3 l3) (hT3 : yTS tp tn b3 so3 t3) (hs3 : ySg tp t3 44) (ht4 : yTS tp tn t3.2.1 false t4) (hb5 : t3.2.1 < b5 ∧ l5.length + t3.2.1 ≤ b5) (hO5 : yOKs tp tn tk (o + 1) t3.2.1 false t4 b5 so5 t5 l5) (hT5 : yTS tp tn b5 so5 t5) (hnp : yNop tp t5) (hs5 : ¬ ySg tp t5 41) : yNOp tp tn tk o b so t 1 t5.1 := by
  intro Q v1 w LL bs a f1 f2 m hP hS hbs hl hf1 hf2 hQ
  have hn0 := hP.1.1
  have hb1 := hP.2.1.1
  have hb2 := hP.2.1.2.1
  have hb3 := hP.2.1.2.2.1
  obtain ⟨n, rfl⟩ : ∃ n, f2 = n + 1 := ⟨f2 - 1, by omega⟩
  have hv : v = 21 ∨ v = 22 := hs.elim (fun z => Or.inl z.2) (fun z => Or.inr z.2)
  have g1 := ht1.1
  refine y_A_mm hP hS htk (by omega) (by omega) hs ht1 (by omega) (fun _ _ m1 hA hS1 hF1 => ?_) (fun _ z => absurd ho z) (fun z => absurd hs1 z)
  refine hO3 Q v1 (v :: w) LL bs _ f1 n m1 (hA t2 ht2) hS1 (by rw [List.length_cons]; omega) (by rw [List.length_cons]; omega) (by omega) (by omega) (y_bk hbs (by omega)) (y_n14c (by omega)) (fun f1' f3 m2 p Lm hf1' hf3 hp hLm hP2 hS2 hF2 => ?_)
  obtain ⟨a2, hP2⟩ := hP2
  have hlen := y_len hLm
  have k1 := hT3.1
  have k2 := hT3.2.1
  have he3 : t3.2.1 = t3.1 + 1 := by
    have := hs3.1
    rcases hT3.2.2.2.2 with z | z | z | z | z <;> omega
  refine y_B_comma hP2 hS2 (by rw [List.length_append, List.length_cons]; omega) ⟨hp.1, by have := hp.2; omega⟩ hv hbs hs3 ht4 ⟨by omega, by omega⟩ (fun m3 hP3 hS3 hF3 => ?_)
  have lcs : (Lm ++ ycs p).length = LL.length + l3.length := by rw [hLm, List.length_append]
  refine hO5 Q v1 ((v + 2) :: w) (Lm ++ ycs p) bs _ (f1' - 1) 2048 m3 hP3 hS3 (by rw [List.length_cons]; omega) (by rw [List.length_cons]; omega) (by omega) (by omega) (y_bk hbs (by omega)) (y_n14c (by omega)) (fun f1'' f3' m4 p' Lm' hf1'' hf3' hp' hLm' hP4 hS4 hF4 => ?_)
  obtain ⟨a4, hP4⟩ := hP4
  have hlen' := y_len hLm'
  have k3 := hT5.1
  have k4 := hT5.2.1
  exact y_B_fail hP4 hS4 (by rw [List.length_append, List.length_cons]; omega) ⟨hp'.1, by have := hp'.2; omega⟩ (by omega) hbs hnp (fun _ => hs5) (fun z => by omega) ⟨by omega, by omega⟩ (fun m5 q5 F5 h5 => hQ m5 q5 ((((hF1.tr hF2).tr hF3).tr hF4).tr F5) h5)
theorem y_noMM4 {tp : Nat → Nat} {tn tk o : Nat} {b : Nat} {so : Bool} {t : yTok} {t1 t2 t3 t4 : yTok} {b3 v kd pl : Nat} {so3 : Bool} {l3 : List Nat} (htk : tk ≤ 2) (hs : (yWo t 24 ∧ v = 21) ∨ (yWo t 25 ∧ v = 22)) (he : t.1 < t.2.1) (ht1 : yTS tp tn t.2.1 true t1) (ho : o < 6) (hs1 : ySg tp t1 40) (he1 : t1.1 < t1.2.1) (ht2 : yTS tp tn t1.2.1 false t2) (hb3 : t1.2.1 < b3 ∧ l3.length + t1.2.1 ≤ b3) (hO3 : yOKs tp tn tk (o + 1) t1.2.1 false t2 b3 so3 t3 l3) (hT3 : yTS tp tn b3 so3 t3) (hs3 : ySg tp t3 44) (ht4 : yTS tp tn t3.2.1 false t4) (hN : yNOs tp tn tk (o + 1) t3.2.1 false t4 kd pl) : yNOp tp tn tk o b so t kd pl := by
  intro Q v1 w LL bs a f1 f2 m hP hS hbs hl hf1 hf2 hQ
  have hn0 := hP.1.1
  have hb1 := hP.2.1.1
  have hb2 := hP.2.1.2.1
  have hb3 := hP.2.1.2.2.1
  obtain ⟨n, rfl⟩ : ∃ n, f2 = n + 1 := ⟨f2 - 1, by omega⟩
  have hv : v = 21 ∨ v = 22 := hs.elim (fun z => Or.inl z.2) (fun z => Or.inr z.2)
  have g1 := ht1.1
  refine y_A_mm hP hS htk (by omega) (by omega) hs ht1 (by omega) (fun _ _ m1 hA hS1 hF1 => ?_) (fun _ z => absurd ho z) (fun z => absurd hs1 z)
  refine hO3 Q v1 (v :: w) LL bs _ f1 n m1 (hA t2 ht2) hS1 (by rw [List.length_cons]; omega) (by rw [List.length_cons]; omega) (by omega) (by omega) (y_bk hbs (by omega)) (y_n14c (by omega)) (fun f1' f3 m2 p Lm hf1' hf3 hp hLm hP2 hS2 hF2 => ?_)
  obtain ⟨a2, hP2⟩ := hP2
  have hlen := y_len hLm
  have k1 := hT3.1
  have k2 := hT3.2.1
  have he3 : t3.2.1 = t3.1 + 1 := by
    have := hs3.1
    rcases hT3.2.2.2.2 with z | z | z | z | z <;> omega
  refine y_B_comma hP2 hS2 (by rw [List.length_append, List.length_cons]; omega) ⟨hp.1, by have := hp.2; omega⟩ hv hbs hs3 ht4 ⟨by omega, by omega⟩ (fun m3 hP3 hS3 hF3 => ?_)
  have lcs : (Lm ++ ycs p).length = LL.length + l3.length := by rw [hLm, List.length_append]
  exact hN Q v1 ((v + 2) :: w) (Lm ++ ycs p) bs _ (f1' - 1) 2048 m3 hP3 hS3 (by rw [List.length_cons]; omega) (by rw [List.length_cons]; omega) (by omega) (by omega) (y_bk hbs (by omega)) (y_n14c (by omega)) (fun m5 q5 F5 h5 => hQ m5 q5 (((hF1.tr hF2).tr hF3).tr F5) h5)
theorem y_noMM3 {tp : Nat → Nat} {tn tk o : Nat} {b : Nat} {so : Bool} {t : yTok} {t1 t2 t3 : yTok} {b3 v : Nat} {so3 : Bool} {l3 : List Nat} (htk : tk ≤ 2) (hs : (yWo t 24 ∧ v = 21) ∨ (yWo t 25 ∧ v = 22)) (he : t.1 < t.2.1) (ht1 : yTS tp tn t.2.1 true t1) (ho : o < 6) (hs1 : ySg tp t1 40) (he1 : t1.1 < t1.2.1) (ht2 : yTS tp tn t1.2.1 false t2) (hb3 : t1.2.1 < b3 ∧ l3.length + t1.2.1 ≤ b3) (hO3 : yOKs tp tn tk (o + 1) t1.2.1 false t2 b3 so3 t3 l3) (hT3 : yTS tp tn b3 so3 t3) (hnp : yNop tp t3) (hs3 : ¬ ySg tp t3 44) : yNOp tp tn tk o b so t 1 t3.1 := by
  intro Q v1 w LL bs a f1 f2 m hP hS hbs hl hf1 hf2 hQ
  have hn0 := hP.1.1
  have hb1 := hP.2.1.1
  have hb2 := hP.2.1.2.1
  have hb3 := hP.2.1.2.2.1
  obtain ⟨n, rfl⟩ : ∃ n, f2 = n + 1 := ⟨f2 - 1, by omega⟩
  have hv : v = 21 ∨ v = 22 := hs.elim (fun z => Or.inl z.2) (fun z => Or.inr z.2)
  have g1 := ht1.1
  refine y_A_mm hP hS htk (by omega) (by omega) hs ht1 (by omega) (fun _ _ m1 hA hS1 hF1 => ?_) (fun _ z => absurd ho z) (fun z => absurd hs1 z)
  refine hO3 Q v1 (v :: w) LL bs _ f1 n m1 (hA t2 ht2) hS1 (by rw [List.length_cons]; omega) (by rw [List.length_cons]; omega) (by omega) (by omega) (y_bk hbs (by omega)) (y_n14c (by omega)) (fun f1' f3 m2 p Lm hf1' hf3 hp hLm hP2 hS2 hF2 => ?_)
  obtain ⟨a2, hP2⟩ := hP2
  have hlen := y_len hLm
  have k1 := hT3.1
  have k2 := hT3.2.1
  exact y_B_fail hP2 hS2 (by rw [List.length_append, List.length_cons]; omega) ⟨hp.1, by have := hp.2; omega⟩ (by omega) hbs hnp (fun z => by omega) (fun _ => hs3) ⟨by omega, by omega⟩ (fun m5 q5 F5 h5 => hQ m5 q5 ((hF1.tr hF2).tr F5) h5)
theorem y_noMM2 {tp : Nat → Nat} {tn tk o : Nat} {b : Nat} {so : Bool} {t : yTok} {t1 t2 : yTok} {v kd pl : Nat} (htk : tk ≤ 2) (hs : (yWo t 24 ∧ v = 21) ∨ (yWo t 25 ∧ v = 22)) (he : t.1 < t.2.1) (ht1 : yTS tp tn t.2.1 true t1) (ho : o < 6) (hs1 : ySg tp t1 40) (he1 : t1.1 < t1.2.1) (ht2 : yTS tp tn t1.2.1 false t2) (hN : yNOs tp tn tk (o + 1) t1.2.1 false t2 kd pl) : yNOp tp tn tk o b so t kd pl := by
  intro Q v1 w LL bs a f1 f2 m hP hS hbs hl hf1 hf2 hQ
  have hn0 := hP.1.1
  have hb1 := hP.2.1.1
  have hb2 := hP.2.1.2.1
  have hb3 := hP.2.1.2.2.1
  obtain ⟨n, rfl⟩ : ∃ n, f2 = n + 1 := ⟨f2 - 1, by omega⟩
  have hv : v = 21 ∨ v = 22 := hs.elim (fun z => Or.inl z.2) (fun z => Or.inr z.2)
  have g1 := ht1.1
  refine y_A_mm hP hS htk (by omega) (by omega) hs ht1 (by omega) (fun _ _ m1 hA hS1 hF1 => ?_) (fun _ z => absurd ho z) (fun z => absurd hs1 z)
  exact hN Q v1 (v :: w) LL bs _ f1 n m1 (hA t2 ht2) hS1 (by rw [List.length_cons]; omega) (by rw [List.length_cons]; omega) (by omega) (by omega) (y_bk hbs (by omega)) (y_n14c (by omega)) (fun m5 q5 F5 h5 => hQ m5 q5 (hF1.tr F5) h5)
theorem y_noMM1 {tp : Nat → Nat} {tn tk o : Nat} {b : Nat} {so : Bool} {t : yTok} {t1 : yTok} {v : Nat} (htk : tk ≤ 2) (hs : (yWo t 24 ∧ v = 21) ∨ (yWo t 25 ∧ v = 22)) (he : t.1 < t.2.1) (ht1 : yTS tp tn t.2.1 true t1) (ho : o ≤ 6) (hs1 : ¬ ySg tp t1 40) : yNOp tp tn tk o b so t 1 t1.1 := by
  intro Q v1 w LL bs a f1 f2 m hP hS hbs hl hf1 hf2 hQ
  have hn0 := hP.1.1
  have hb1 := hP.2.1.1
  have hb2 := hP.2.1.2.1
  have hb3 := hP.2.1.2.2.1
  obtain ⟨n, rfl⟩ : ∃ n, f2 = n + 1 := ⟨f2 - 1, by omega⟩
  refine y_A_mm hP hS htk ho (by omega) hs ht1 (by omega) (fun z => absurd z hs1) (fun z => absurd z hs1) (fun _ m1 q1 F1 => ?_)
  exact y_CPF q1 (by omega) (fun m2 q2 F2 h2 => hQ m2 q2 (F1.tr F2) h2)
theorem y_noMM0 {tp : Nat → Nat} {tn tk o : Nat} {b : Nat} {so : Bool} {t : yTok} {t1 : yTok} {v : Nat} (htk : tk ≤ 2) (hs : (yWo t 24 ∧ v = 21) ∨ (yWo t 25 ∧ v = 22)) (he : t.1 < t.2.1) (ht1 : yTS tp tn t.2.1 true t1) (ho : o ≤ 6 ∧ ¬ o < 6) (hs1 : ySg tp t1 40) : yNOp tp tn tk o b so t 4 t1.1 := by
  intro Q v1 w LL bs a f1 f2 m hP hS hbs hl hf1 hf2 hQ
  have hn0 := hP.1.1
  have hb1 := hP.2.1.1
  have hb2 := hP.2.1.2.1
  have hb3 := hP.2.1.2.2.1
  obtain ⟨n, rfl⟩ : ∃ n, f2 = n + 1 := ⟨f2 - 1, by omega⟩
  refine y_A_mm hP hS htk ho.1 (by omega) hs ht1 (by omega) (fun _ z => absurd z ho.2) (fun _ _ m1 q1 F1 => ?_) (fun z => absurd hs1 z)
  exact y_CPF q1 (by omega) (fun m2 q2 F2 h2 => hQ m2 q2 (F1.tr F2) h2)

/-! CLASS AND MODEL READ FACTS ALIKE -/
theorem y_cn {Q : fz_s → Prop} {f1 tn b' : Nat} (hb : tn + 3 ≤ 2048 + b') : ∀ m'' : fz_s, m''.1 196 5 = 0 → (∀ f3, tn + 3 ≤ f3 + b' → yGT Q f1 f3 m'') → yCN Q f1 m'' := fun m'' h0 hB => nf h0 (hB 2048 hb)
theorem y_cnF {Q : fz_s → Prop} {f1 : Nat} {m : fz_s} (hb : ¬ m.1 196 5 = 0) (h1 : 1 ≤ f1) (hq : Q m) : wp_X12_qDropsNots m (yCN Q f1) := y_N_bad hb (by omega) (nt hb (y_TF hb h1 hq))
theorem y_okNot {tp : Nat → Nat} {tn tk o : Nat} {b : Nat} {so : Bool} {t : yTok} {t1 t2 : yTok} {b2 : Nat} {so2 : Bool} {l : List Nat} (ho : o < 6) (hs : yWo t 22) (he : t.1 < t.2.1) (ht1 : yTS tp tn t.2.1 true t1) (hb2 : t.2.1 < b2 ∧ l.length + t.2.1 ≤ b2) (hO : yOKf tp tn tk (o + 1) t.2.1 true t1 b2 so2 t2 l) (hb2n : b2 ≤ tn) : yOKf tp tn tk o b so t b2 so2 t2 (l ++ [20000]) := by
  intro Q w LL bs a f1 m hP hS hl hf1 hTw hE
  have hn0 := hP.1.1
  have hy1 := hP.2.1.1
  have hy2 := hP.2.1.2.1
  have hy3 := hP.2.1.2.2.1
  obtain ⟨n, rfl⟩ : ∃ n, f1 = n + 1 := ⟨f1 - 1, by omega⟩
  refine y_T_not hP hS (by omega) (by omega) hs (by omega) (fun _ m1 hA hS1 hF1 => ?_) (fun z => absurd ho z)
  refine hO Q (12 :: w) LL bs _ n m1 (hA t1 ht1) hS1 (by rw [List.length_cons]; omega) (by omega) (hTw.c (by omega)) (fun f1' f4 C m2 hf1' hf4 hC hP2 hS2 hF2 => ?_)
  rw [List.length_cons] at hf4
  obtain ⟨g, rfl⟩ : ∃ g, f4 = g + 1 := ⟨f4 - 1, by omega⟩
  obtain ⟨a2, hP2'⟩ := id hP2
  refine y_N_pop hS2 hP2'.2.2.2.2.2.1 (by rw [List.length_append]; omega) (fun m3 hS3 F3 => ?_)
  rw [List.append_assoc] at hS3
  exact hE f1' g C m3 hf1' (by omega) hC ⟨a2, hP2'.q F3⟩ hS3 ((hF1.tr hF2).tr (y_SQ F3))
theorem y_noNot1 {tp : Nat → Nat} {tn tk o : Nat} {b : Nat} {so : Bool} {t : yTok} {t1 : yTok} {kd pl : Nat} (ho : o < 6) (hs : yWo t 22) (he : t.1 < t.2.1) (ht1 : yTS tp tn t.2.1 true t1) (hN : yNOf tp tn tk (o + 1) t.2.1 true t1 kd pl) : yNOf tp tn tk o b so t kd pl := by
  intro Q w LL bs a f1 m hP hS hl hf1 hTw hQ
  have hn0 := hP.1.1
  have hy1 := hP.2.1.1
  have hy2 := hP.2.1.2.1
  have hy3 := hP.2.1.2.2.1
  obtain ⟨n, rfl⟩ : ∃ n, f1 = n + 1 := ⟨f1 - 1, by omega⟩
  refine y_T_not hP hS (by omega) (by omega) hs (by omega) (fun _ m1 hA hS1 hF1 => ?_) (fun z => absurd ho z)
  exact hN Q (12 :: w) LL bs _ n m1 (hA t1 ht1) hS1 (by rw [List.length_cons]; omega) (by omega) (hTw.c (by omega)) (fun m2 q2 F2 => hQ m2 q2 (hF1.tr F2))
theorem y_noNot4 {tp : Nat → Nat} {tn tk o : Nat} {b : Nat} {so : Bool} {t : yTok} (ho : o ≤ 6 ∧ ¬ o < 6) (hs : yWo t 22) : yNOf tp tn tk o b so t 4 t.1 := by
  intro Q w LL bs a f1 m hP hS hl hf1 hTw hQ
  have hn0 := hP.1.1
  have hy1 := hP.2.1.1
  have hy2 := hP.2.1.2.1
  have hy3 := hP.2.1.2.2.1
  obtain ⟨n, rfl⟩ : ∃ n, f1 = n + 1 := ⟨f1 - 1, by omega⟩
  exact y_T_not hP hS ho.1 (by omega) hs (by omega) (fun z => absurd z ho.2) (fun _ m1 q1 F1 => hQ m1 q1 F1)
theorem y_okSq {tp : Nat → Nat} {tn tk o : Nat} {b : Nat} {so : Bool} {t : yTok} {t1 t2 t3 : yTok} {b2 : Nat} {so2 : Bool} {l : List Nat} (ho : o < 6) (hs : ySg tp t 91) (he : t.1 < t.2.1) (ht1 : yTS tp tn t.2.1 false t1) (hb2 : t.2.1 < b2 ∧ l.length + t.2.1 ≤ b2) (hO : yOKe tp tn tk (o + 1) t.2.1 false t1 b2 so2 t2 l) (hT2 : yTS tp tn b2 so2 t2) (hs2 : ySg tp t2 93) (ht3 : yTS tp tn t2.2.1 false t3) : yOKf tp tn tk o b so t t2.2.1 false t3 l := by
  intro Q w LL bs a f1 m hP hS hl hf1 hTw hE
  have hn0 := hP.1.1
  have hy1 := hP.2.1.1
  have hy2 := hP.2.1.2.1
  have hy3 := hP.2.1.2.2.1
  obtain ⟨n, rfl⟩ : ∃ n, f1 = n + 1 := ⟨f1 - 1, by omega⟩
  have g1 := hT2.1
  have g2 := hT2.2.1
  have he2 : t2.2.1 = t2.1 + 1 := (hs2.lt hT2).1
  refine y_T_sq hP hS (by omega) (by omega) hs (by omega) (fun _ m1 hA hS1 hF1 => ?_) (fun z => absurd ho z)
  refine hO Q (25 :: w) LL bs _ n m1 (hA t1 ht1) hS1 (by rw [List.length_cons]; omega) (by omega) (hTw.c (by omega)) (y_nec (by omega)) (fun f1' f3 m2 p Lm hf1' hf3 hp hLm hP2 hS2 hF2 => ?_)
  obtain ⟨a2, hP2⟩ := hP2
  have hlen := y_len hLm
  obtain ⟨g, rfl⟩ : ∃ g, f3 = g + 1 := ⟨f3 - 1, by omega⟩
  refine y_G_close hP2 hS2 (by rw [List.length_append, List.length_cons]; omega) ⟨hp.1, by have := hp.2; omega⟩ hs2 ht3 (fun m3 hP3 hS3 hF3 => ?_)
  rw [hLm] at hS3
  exact hE f1' 2048 _ m3 (by omega) (by omega) (fun m4 _ hB => hB g (by omega)) ⟨_, hP3⟩ hS3 ((hF1.tr hF2).tr hF3)
theorem y_noSq1 {tp : Nat → Nat} {tn tk o : Nat} {b : Nat} {so : Bool} {t : yTok} {t1 : yTok} {kd pl : Nat} (ho : o < 6) (hs : ySg tp t 91) (he : t.1 < t.2.1) (ht1 : yTS tp tn t.2.1 false t1) (hN : yNOe tp tn tk (o + 1) t.2.1 false t1 kd pl) : yNOf tp tn tk o b so t kd pl := by
  intro Q w LL bs a f1 m hP hS hl hf1 hTw hQ
  have hn0 := hP.1.1
  have hy1 := hP.2.1.1
  have hy2 := hP.2.1.2.1
  have hy3 := hP.2.1.2.2.1
  obtain ⟨n, rfl⟩ : ∃ n, f1 = n + 1 := ⟨f1 - 1, by omega⟩
  refine y_T_sq hP hS (by omega) (by omega) hs (by omega) (fun _ m1 hA hS1 hF1 => ?_) (fun z => absurd ho z)
  exact hN Q (25 :: w) LL bs _ n m1 (hA t1 ht1) hS1 (by rw [List.length_cons]; omega) (by omega) (hTw.c (by omega)) (y_nec (by omega)) (fun m2 q2 F2 => hQ m2 q2 (hF1.tr F2))
theorem y_noSq2 {tp : Nat → Nat} {tn tk o : Nat} {b : Nat} {so : Bool} {t : yTok} {t1 t2 : yTok} {b2 : Nat} {so2 : Bool} {l : List Nat} (ho : o < 6) (hs : ySg tp t 91) (he : t.1 < t.2.1) (ht1 : yTS tp tn t.2.1 false t1) (hb2 : t.2.1 < b2 ∧ l.length + t.2.1 ≤ b2) (hO : yOKe tp tn tk (o + 1) t.2.1 false t1 b2 so2 t2 l) (hT2 : yTS tp tn b2 so2 t2) (n20 : ¬ yWo t2 20) (n21 : ¬ yWo t2 21) (hs2 : ¬ ySg tp t2 93) : yNOf tp tn tk o b so t 1 t2.1 := by
  intro Q w LL bs a f1 m hP hS hl hf1 hTw hQ
  have hn0 := hP.1.1
  have hy1 := hP.2.1.1
  have hy2 := hP.2.1.2.1
  have hy3 := hP.2.1.2.2.1
  obtain ⟨n, rfl⟩ : ∃ n, f1 = n + 1 := ⟨f1 - 1, by omega⟩
  have g1 := hT2.1
  have g2 := hT2.2.1
  refine y_T_sq hP hS (by omega) (by omega) hs (by omega) (fun _ m1 hA hS1 hF1 => ?_) (fun z => absurd ho z)
  refine hO Q (25 :: w) LL bs _ n m1 (hA t1 ht1) hS1 (by rw [List.length_cons]; omega) (by omega) (hTw.c (by omega)) (y_nec (by omega)) (fun f1' f3 m2 p Lm hf1' hf3 hp hLm hP2 hS2 hF2 => ?_)
  obtain ⟨a2, hP2⟩ := hP2
  have hlen := y_len hLm
  exact y_G_fail hP2 hS2 (by rw [List.length_append, List.length_cons]; omega) (List.mem_append.mpr (Or.inr List.mem_cons_self)) hs2 n20 n21 ⟨by omega, by omega⟩ (fun m3 q3 F3 => hQ m3 q3 ((hF1.tr hF2).tr F3))
theorem y_noSq4 {tp : Nat → Nat} {tn tk o : Nat} {b : Nat} {so : Bool} {t : yTok} (ho : o ≤ 6 ∧ ¬ o < 6) (hs : ySg tp t 91) : yNOf tp tn tk o b so t 4 t.1 := by
  intro Q w LL bs a f1 m hP hS hl hf1 hTw hQ
  have hn0 := hP.1.1
  have hy1 := hP.2.1.1
  have hy2 := hP.2.1.2.1
  have hy3 := hP.2.1.2.2.1
  obtain ⟨n, rfl⟩ : ∃ n, f1 = n + 1 := ⟨f1 - 1, by omega⟩
  exact y_T_sq hP hS ho.1 (by omega) hs (by omega) (fun z => absurd z ho.2) (fun _ m1 q1 F1 => hQ m1 q1 F1)
theorem y_okAll {tp : Nat → Nat} {tn tk o : Nat} {b : Nat} {so : Bool} {t : yTok} {t' : yTok} (hs : yWo t 23) (he : t.1 < t.2.1) (ht' : yTS tp tn t.2.1 true t') : yOKf tp tn tk o b so t t.2.1 true t' [30000] := by
  intro Q w LL bs a f1 m hP hS hl hf1 hTw hE
  have hn0 := hP.1.1
  have hy1 := hP.2.1.1
  have hy2 := hP.2.1.2.1
  have hy3 := hP.2.1.2.2.1
  obtain ⟨n, rfl⟩ : ∃ n, f1 = n + 1 := ⟨f1 - 1, by omega⟩
  refine y_T_fact hP hS hs.nsg (hs.ne (by omega)) (fun m1 hP1 hS1 F1 => ?_)
  unfold wp_X12_qFact
  refine y_takes hP1 23 (by decide +kernel) (fun _ m2 h2 F2 => b2 ?_) (fun z => absurd hs z)
  refine y_qCode (hS1.k F2) (by omega) 30000 (fun m3 S3 F3 => ?_)
  exact hE n 2048 _ m3 (by omega) (by omega) (y_cn (by omega)) ⟨_, (h2 t' ht').q F3⟩ S3 ((y_KQ (F1.tr F2)).tr (y_SQ F3))
theorem y_noCmp1 {tp : Nat → Nat} {tn tk o : Nat} {b : Nat} {so : Bool} {t : yTok} {kd pl : Nat} (n91 : ¬ ySg tp t 91) (n22 : ¬ yWo t 22) (n23 : ¬ yWo t 23) (hN : yNOs tp tn tk o b so t kd pl) : yNOf tp tn tk o b so t kd pl := by
  intro Q w LL bs a f1 m hP hS hl hf1 hTw hQ
  have hn0 := hP.1.1
  have hy1 := hP.2.1.1
  have hy2 := hP.2.1.2.1
  have hy3 := hP.2.1.2.2.1
  obtain ⟨n, rfl⟩ : ∃ n, f1 = n + 1 := ⟨f1 - 1, by omega⟩
  refine y_T_fact hP hS n91 n22 (fun m1 hP1 hS1 F1 => ?_)
  unfold wp_X12_qFact
  refine y_takes hP1 23 (by decide +kernel) (fun z => absurd z n23) (fun _ m2 hP2 F2 => b3 ?_)
  have F12 := F1.tr F2
  have hS2 := hS.k F12
  refine y_qSumsNO hN hP2 hS2 hl hTw.n14 (fun m3 q3 F3 => ?_)
  exact bf q3.1.bad (y_cnF q3.1.bad (by omega) (hQ m3 q3.1 ((y_KQ F12).tr F3)))
theorem y_noCmp2 {tp : Nat → Nat} {tn tk o : Nat} {b : Nat} {so : Bool} {t : yTok} {t2 : yTok} {b2 : Nat} {so2 : Bool} {l2 : List Nat} (n91 : ¬ ySg tp t 91) (n22 : ¬ yWo t 22) (n23 : ¬ yWo t 23) (hb2 : b < b2 ∧ l2.length + b ≤ b2) (hO2 : yOKs tp tn tk o b so t b2 so2 t2 l2) (hT2 : yTS tp tn b2 so2 t2) (hnp : yNop tp t2) (n60 : ¬ ySg tp t2 60) (n62 : ¬ ySg tp t2 62) (n61 : ¬ ySg tp t2 61) : yNOf tp tn tk o b so t 1 t2.1 := by
  intro Q w LL bs a f1 m hP hS hl hf1 hTw hQ
  have hn0 := hP.1.1
  have hy1 := hP.2.1.1
  have hy2 := hP.2.1.2.1
  have hy3 := hP.2.1.2.2.1
  obtain ⟨n, rfl⟩ : ∃ n, f1 = n + 1 := ⟨f1 - 1, by omega⟩
  refine y_T_fact hP hS n91 n22 (fun m1 hP1 hS1 F1 => ?_)
  unfold wp_X12_qFact
  refine y_takes hP1 23 (by decide +kernel) (fun z => absurd z n23) (fun _ m2 hP2 F2 => b3 ?_)
  have F12 := F1.tr F2
  have hS2 := hS.k F12
  have g1 := hT2.1
  have g2 := hT2.2.1
  refine y_qSumsOK hO2 hnp hT2 hb2 hP2 hS2 hl hTw.n14 (fun m3 hP3 hS3 F3 => ?_)
  refine bt hP3.2.2.2.2.2.1 (y_look hP3 (fun m4 hP4 F4 => ?_))
  have l60 := y_lkc hP4.2.1 hP4.1.2.1 (y_sg 60 (by omega)).1 (y_sg 60 (by omega)).2
  have l62 := y_lkc hP4.2.1 hP4.1.2.1 (y_sg 62 (by omega)).1 (y_sg 62 (by omega)).2
  have l61 := y_lkc hP4.2.1 hP4.1.2.1 (y_sg 61 (by omega)).1 (y_sg 61 (by omega)).2
  have hS4 := hS3.k (y_AK F4)
  have F14 := ((y_KQ F12).tr F3).tr (y_KQ (y_AK F4))
  have lLL : (LL ++ l2).length = LL.length + l2.length := List.length_append
  refine bf (fun z => n60 (l60.mp z)) (bf (fun z => n62 (l62.mp z)) (bf (fun z => n61 (l61.mp z)) ?_))
  exact y_mfailAt hP4 (kd := 1) ⟨by omega, by omega⟩ (fun m5 q5 F5 => y_cnF q5.bad (by omega) (hQ m5 q5 (F14.tr (y_KQ F5))))
theorem y_cmp63 {tp : Nat → Nat} {tn b2 : Nat} {so2 : Bool} {t2 : yTok} {c : Nat} {Q : fz_s → Prop} {m : fz_s} (hP : yPM tp tn b2 so2 t2 t2.1 m) (hs : (ySg tp t2 60 ∧ c = 20009) ∨ (ySg tp t2 62 ∧ c = 20010) ∨ (ySg tp t2 61 ∧ c = 20011)) (hq : ∀ s1, yAd tp tn t2.2.1 false s1 → Fr pKt m s1 → wp_X12_qSums s1 (fun s3 => nd_X12_qFact_102 Q (nI (cM c)) s3)) : ((yLk tp tn t2 = 60 → nd_X12_qFact_63 Q (yLk tp tn t2) m) ∧ (¬ yLk tp tn t2 = 60 → ((yLk tp tn t2 = 62 → nd_X12_qFact_63 Q (yLk tp tn t2) m) ∧ (¬ yLk tp tn t2 = 62 → ((yLk tp tn t2 = 61 → nd_X12_qFact_63 Q (yLk tp tn t2) m) ∧ (¬ yLk tp tn t2 = 61 → wp_X12_fail 1 (m.1 196 2) m (fun s8 => Q s8))))))) := by
  have l60 := y_lkc hP.2.1 hP.1.2.1 (y_sg 60 (by omega)).1 (y_sg 60 (by omega)).2
  have l62 := y_lkc hP.2.1 hP.1.2.1 (y_sg 62 (by omega)).1 (y_sg 62 (by omega)).2
  have l61 := y_lkc hP.2.1 hP.1.2.1 (y_sg 61 (by omega)).1 (y_sg 61 (by omega)).2
  have hk3 : t2.2.2.1 = 3 := by
    rcases hs with z | z | z
    · exact z.1.1
    · exact z.1.1
    · exact z.1.1
  rcases hs with z | z | z
  · have e := l60.mpr z.1
    refine bt e ?_
    unfold nd_X12_qFact_63
    intro s1 e1
    obtain ⟨z1, z2⟩ := y_adv1 hP hk3 e1
    have h := hq s1 z1 z2
    rw [z.2] at h
    rw [e]
    have e9 : (fun s3 => ((¬ nI 60 = 60 → ((¬ nI 60 = 62 → nd_X12_qFact_102 Q 9 s3) ∧ (nI 60 = 62 → nd_X12_qFact_102 Q 8 s3))) ∧ (nI 60 = 60 → nd_X12_qFact_102 Q 7 s3))) = (fun s3 => nd_X12_qFact_102 Q (nI (cM 20009)) s3) := by
      funext s3
      exact propext ⟨fun y => y.2 rfl, fun y => nf rfl y⟩
    rw [e9]
    exact h
  · have e := l62.mpr z.1
    refine bf (by rw [e]; decide +kernel) (bt e ?_)
    unfold nd_X12_qFact_63
    intro s1 e1
    obtain ⟨z1, z2⟩ := y_adv1 hP hk3 e1
    have h := hq s1 z1 z2
    rw [z.2] at h
    rw [e]
    have e9 : (fun s3 => ((¬ nI 62 = 60 → ((¬ nI 62 = 62 → nd_X12_qFact_102 Q 9 s3) ∧ (nI 62 = 62 → nd_X12_qFact_102 Q 8 s3))) ∧ (nI 62 = 60 → nd_X12_qFact_102 Q 7 s3))) = (fun s3 => nd_X12_qFact_102 Q (nI (cM 20010)) s3) := by
      funext s3
      exact propext ⟨fun y => (y.1 (by decide +kernel)).2 rfl, fun y => nt (by decide +kernel) (nf rfl y)⟩
    rw [e9]
    exact h
  · have e := l61.mpr z.1
    refine bf (by rw [e]; decide +kernel) (bf (by rw [e]; decide +kernel) (bt e ?_))
    unfold nd_X12_qFact_63
    intro s1 e1
    obtain ⟨z1, z2⟩ := y_adv1 hP hk3 e1
    have h := hq s1 z1 z2
    rw [z.2] at h
    rw [e]
    have e9 : (fun s3 => ((¬ nI 61 = 60 → ((¬ nI 61 = 62 → nd_X12_qFact_102 Q 9 s3) ∧ (nI 61 = 62 → nd_X12_qFact_102 Q 8 s3))) ∧ (nI 61 = 60 → nd_X12_qFact_102 Q 7 s3))) = (fun s3 => nd_X12_qFact_102 Q (nI (cM 20011)) s3) := by
      funext s3
      exact propext ⟨fun y => (y.1 (by decide +kernel)).1 (by decide +kernel), fun y => nt (by decide +kernel) (nt (by decide +kernel) y)⟩
    rw [e9]
    exact h
theorem y_okCmp {tp : Nat → Nat} {tn tk o : Nat} {b : Nat} {so : Bool} {t : yTok} {t2 t3 t4 : yTok} {b2 b4 c : Nat} {so2 so4 : Bool} {l2 l4 : List Nat} (n91 : ¬ ySg tp t 91) (n22 : ¬ yWo t 22) (n23 : ¬ yWo t 23) (hb2 : b < b2 ∧ l2.length + b ≤ b2) (hO2 : yOKs tp tn tk o b so t b2 so2 t2 l2) (hT2 : yTS tp tn b2 so2 t2) (hnp : yNop tp t2) (hs : (ySg tp t2 60 ∧ c = 20009) ∨ (ySg tp t2 62 ∧ c = 20010) ∨ (ySg tp t2 61 ∧ c = 20011)) (ht3 : yTS tp tn t2.2.1 false t3) (hb4 : t2.2.1 < b4 ∧ l4.length + t2.2.1 ≤ b4) (hO4 : yOKs tp tn tk o t2.2.1 false t3 b4 so4 t4 l4) (hT4 : yTS tp tn b4 so4 t4) (hnp4 : yNop tp t4) : yOKf tp tn tk o b so t b4 so4 t4 (l2 ++ l4 ++ [c]) := by
  intro Q w LL bs a f1 m hP hS hl hf1 hTw hE
  have hn0 := hP.1.1
  have hy1 := hP.2.1.1
  have hy2 := hP.2.1.2.1
  have hy3 := hP.2.1.2.2.1
  obtain ⟨n, rfl⟩ : ∃ n, f1 = n + 1 := ⟨f1 - 1, by omega⟩
  refine y_T_fact hP hS n91 n22 (fun m1 hP1 hS1 F1 => ?_)
  unfold wp_X12_qFact
  refine y_takes hP1 23 (by decide +kernel) (fun z => absurd z n23) (fun _ m2 hP2 F2 => b3 ?_)
  have F12 := F1.tr F2
  have hS2 := hS.k F12
  have g1 := hT2.1
  have g2 := hT2.2.1
  refine y_qSumsOK hO2 hnp hT2 hb2 hP2 hS2 hl hTw.n14 (fun m3 hP3 hS3 F3 => ?_)
  refine bt hP3.2.2.2.2.2.1 (y_look hP3 (fun m4 hP4 F4 => ?_))
  have l60 := y_lkc hP4.2.1 hP4.1.2.1 (y_sg 60 (by omega)).1 (y_sg 60 (by omega)).2
  have l62 := y_lkc hP4.2.1 hP4.1.2.1 (y_sg 62 (by omega)).1 (y_sg 62 (by omega)).2
  have l61 := y_lkc hP4.2.1 hP4.1.2.1 (y_sg 61 (by omega)).1 (y_sg 61 (by omega)).2
  have hS4 := hS3.k (y_AK F4)
  have F14 := ((y_KQ F12).tr F3).tr (y_KQ (y_AK F4))
  have lLL : (LL ++ l2).length = LL.length + l2.length := List.length_append
  have g3 := hT4.1
  have g4 := hT4.2.1
  have he2 : t2.2.1 = t2.1 + 1 := by
    rcases hs with z | z | z
    · exact (z.1.lt hT2).1
    · exact (z.1.lt hT2).1
    · exact (z.1.lt hT2).1
  refine y_cmp63 hP4 hs (fun s5 hA5 F5 => ?_)
  refine y_qSumsOK hO4 hnp4 hT4 hb4 (hA5 t3 ht3) (hS4.k F5) (by omega) hTw.n14 (fun m6 hP6 hS6 F6 => ?_)
  unfold nd_X12_qFact_102
  refine y_qCode hS6 (by rw [List.length_append]; omega) c (fun m7 hS7 F7 => ?_)
  have eL : LL ++ l2 ++ l4 ++ [c] = LL ++ (l2 ++ l4 ++ [c]) := by rw [List.append_assoc, List.append_assoc, List.append_assoc]
  rw [eL] at hS7
  exact hE n 2048 _ m7 (by omega) (by omega) (y_cn (by omega)) ⟨_, hP6.q F7⟩ hS7 (((F14.tr (y_KQ F5)).tr F6).tr (y_SQ F7))
theorem y_noCmp3 {tp : Nat → Nat} {tn tk o : Nat} {b : Nat} {so : Bool} {t : yTok} {t2 t3 : yTok} {b2 c kd pl : Nat} {so2 : Bool} {l2 : List Nat} (n91 : ¬ ySg tp t 91) (n22 : ¬ yWo t 22) (n23 : ¬ yWo t 23) (hb2 : b < b2 ∧ l2.length + b ≤ b2) (hO2 : yOKs tp tn tk o b so t b2 so2 t2 l2) (hT2 : yTS tp tn b2 so2 t2) (hnp : yNop tp t2) (hs : (ySg tp t2 60 ∧ c = 20009) ∨ (ySg tp t2 62 ∧ c = 20010) ∨ (ySg tp t2 61 ∧ c = 20011)) (ht3 : yTS tp tn t2.2.1 false t3) (hN : yNOs tp tn tk o t2.2.1 false t3 kd pl) : yNOf tp tn tk o b so t kd pl := by
  intro Q w LL bs a f1 m hP hS hl hf1 hTw hQ
  have hn0 := hP.1.1
  have hy1 := hP.2.1.1
  have hy2 := hP.2.1.2.1
  have hy3 := hP.2.1.2.2.1
  obtain ⟨n, rfl⟩ : ∃ n, f1 = n + 1 := ⟨f1 - 1, by omega⟩
  refine y_T_fact hP hS n91 n22 (fun m1 hP1 hS1 F1 => ?_)
  unfold wp_X12_qFact
  refine y_takes hP1 23 (by decide +kernel) (fun z => absurd z n23) (fun _ m2 hP2 F2 => b3 ?_)
  have F12 := F1.tr F2
  have hS2 := hS.k F12
  have g1 := hT2.1
  have g2 := hT2.2.1
  refine y_qSumsOK hO2 hnp hT2 hb2 hP2 hS2 hl hTw.n14 (fun m3 hP3 hS3 F3 => ?_)
  refine bt hP3.2.2.2.2.2.1 (y_look hP3 (fun m4 hP4 F4 => ?_))
  have l60 := y_lkc hP4.2.1 hP4.1.2.1 (y_sg 60 (by omega)).1 (y_sg 60 (by omega)).2
  have l62 := y_lkc hP4.2.1 hP4.1.2.1 (y_sg 62 (by omega)).1 (y_sg 62 (by omega)).2
  have l61 := y_lkc hP4.2.1 hP4.1.2.1 (y_sg 61 (by omega)).1 (y_sg 61 (by omega)).2
  have hS4 := hS3.k (y_AK F4)
  have F14 := ((y_KQ F12).tr F3).tr (y_KQ (y_AK F4))
  have lLL : (LL ++ l2).length = LL.length + l2.length := List.length_append
  have he2 : t2.2.1 = t2.1 + 1 := by
    rcases hs with z | z | z
    · exact (z.1.lt hT2).1
    · exact (z.1.lt hT2).1
    · exact (z.1.lt hT2).1
  refine y_cmp63 hP4 hs (fun s5 hA5 F5 => ?_)
  refine y_qSumsNO hN (hA5 t3 ht3) (hS4.k F5) (by omega) hTw.n14 (fun m6 q6 F6 => ?_)
  unfold nd_X12_qFact_102
  obtain ⟨q6a, k6, k6a, k6b⟩ := q6
  refine y_qCodeAny k6b (by omega) _ (fun m7 F7 => ?_)
  exact y_cnF (q6a.q F7).bad (by omega) (hQ m7 (q6a.q F7) (((F14.tr (y_KQ F5)).tr F6).tr (y_SQ F7)))
theorem y_fact {R : Nat → Int32 → fz_s → (Bool → fz_s → Prop) → Prop} {tp : Nat → Nat} {tn tk o : Nat} {cd f d d1 d2 d3 : Nat} (ho : o ≤ 6)
    (hsum : ySp (R 3) tp tn tk cd f o false d1 (fun b so t b' so' t' l => yOKs tp tn tk o b so t b' so' t' l ∧ yNop tp t') (yNOs tp tn tk o))
    (hei : o < 6 → ySp (R 0) tp tn tk cd f (o + 1) true d2 (fun b so t b' so' t' l => yOKe tp tn tk (o + 1) b so t b' so' t' l ∧ ¬ yWo t' 20 ∧ ¬ yWo t' 21) (yNOe tp tn tk (o + 1)))
    (hfa : o < 6 → ySp (R 2) tp tn tk cd f (o + 1) true d3 (yOKf tp tn tk (o + 1)) (yNOf tp tn tk (o + 1)))
    (hd : d1 + 1 ≤ d ∧ (o < 6 → d2 ≤ d ∧ d3 ≤ d)) : ySp (wp_X2_fact R) tp tn tk cd f o true d (yOKf tp tn tk o) (yNOf tp tn tk o) := by
  intro b so t L x hX hG hfb Qc hok hno
  obtain ⟨a1, a2, a3, a4, a5, a6, a7, a8⟩ := id hX
  have hn0 := a1.1
  have hB := a1.2.1
  have hb1 := a2.1
  have hb2 := a2.2.1
  have hb3 := a2.2.2.1
  unfold wp_X2_fact
  refine y_isWord hX 22 (by omega) (fun hs => b2 ?_) (fun n22 => b3 ?_)
  · have he := hs.lt a2 hB
    refine y_opens hX ho (fun ho6 t1 x1 hX1 F1 => b2 ?_) (fun ho6 x1 hX1 F1 => b3 (hno _ _ x1 hX1 (y_4G F1) (y_noNot4 ⟨ho, ho6⟩ hs)))
    rw [he.2] at hX1
    rw [nI_1]
    refine hfa ho6 t.2.1 true t1 L x1 hX1 (hG.x (y_n4 F1)) (by omega) _ (fun bb so2 t2 l2 x2 hX2 hG2 F2 hbb hll hE2 hO2 => b2 ?_) (fun kd pl x2 hX2 F2 hN2 => b3 (hno kd pl x2 hX2 ((y_nG F1).tr F2) (y_noNot1 ho6 hs he.1 hX1.2.1 hN2)))
    have g1 := hX2.2.1.1
    have g2 := hX2.2.1.2.1
    have lL2 : (L ++ l2).length = L.length + l2.length := List.length_append
    refine y_done hX2 hG2 (by omega) 20000 (fun x3 hX3 hG3 F3 => b2 ?_)
    rw [List.append_assoc] at hG3
    refine hok bb so2 t2 (l2 ++ [20000]) x3 hX3 hG3 (((y_nG F1).tr F2).tr F3) (by omega) ?_ ((hE2.mono (hd.2 ho6).2).not) (y_okNot ho6 hs he.1 hX1.2.1 ⟨hbb, hll⟩ hO2 (by omega))
    rw [List.length_append]
    show l2.length + 1 + b ≤ bb
    omega
  refine y_isSign hX 91 (by omega) (fun hs => b2 ?_) (fun n91 => b3 ?_)
  · have he := hs.lt a2
    refine y_opens hX ho (fun ho6 t1 x1 hX1 F1 => b2 ?_) (fun ho6 x1 hX1 F1 => b3 (hno _ _ x1 hX1 (y_4G F1) (y_noSq4 ⟨ho, ho6⟩ hs)))
    rw [he.2] at hX1
    rw [nI_1]
    refine hei ho6 t.2.1 false t1 L x1 hX1 (hG.x (y_n4 F1)) (by omega) _ (fun bb so2 t2 l2 x2 hX2 hG2 F2 hbb hll hE2 hO2 => b2 ?_) (fun kd pl x2 hX2 F2 hN2 => b3 (hno kd pl x2 hX2 ((y_nG F1).tr F2) (y_noSq1 ho6 hs (by omega) hX1.2.1 hN2)))
    have g1 := hX2.2.1.1
    refine y_takeSign hX2 93 (by omega) (fun hs2 t3 x3 hX3 F3 => b2 ?_) (fun hs2 x3 hX3 F3 => b3 (hno _ _ x3 hX3 (((y_nG F1).tr F2).tr (y_4G F3)) (y_noSq2 ho6 hs (by omega) hX1.2.1 ⟨hbb, hll⟩ hO2.1 hX2.2.1 hO2.2.1 hO2.2.2 hs2)))
    have he2 := hs2.lt hX2.2.1
    exact hok t2.2.1 false t3 l2 x3 hX3 (hG2.x (y_n4 F3)) (((y_nG F1).tr F2).tr (y_nG F3)) (by omega) (by omega) (hE2.mono (hd.2 ho6).1) (y_okSq ho6 hs (by omega) hX1.2.1 ⟨hbb, hll⟩ hO2.1 hX2.2.1 hs2 hX3.2.1)
  refine y_isWord hX 23 (by omega) (fun hs => b2 ?_) (fun n23 => b3 ?_)
  · have he := hs.lt a2 hB
    refine y_next hX (fun t1 x1 hX1 F1 => ?_)
    rw [he.2] at hX1
    refine y_done hX1 (hG.x (y_n4 F1)) (by omega) 30000 (fun x2 hX2 hG2 F2 => ?_)
    exact hok t.2.1 true t1 [30000] x2 hX2 hG2 ((y_nG F1).tr F2) (by omega) (by show 0 + 1 + b ≤ t.2.1; omega) (yEv.all.mono (by omega)) (y_okAll hs he.1 hX1.2.1)
  refine hsum b so t L x hX hG hfb _ (fun bb so2 t2 l2 x2 hX2 hG2 F2 hbb hll hE2 hO2 => b1 ?_) (fun kd pl x2 hX2 F2 hN2 => b4 (hno kd pl x2 hX2 F2 (y_noCmp1 n91 n22 n23 hN2)))
  have g1 := hX2.2.1.1
  have g2 := hX2.2.1.2.1
  have lL2 : (L ++ l2).length = L.length + l2.length := List.length_append
  have go : ∀ c : Nat, (ySg tp t2 60 ∧ c = 20009) ∨ (ySg tp t2 62 ∧ c = 20010) ∨ (ySg tp t2 61 ∧ c = 20011) → ((¬ nI c = (-1) → wp_X8_next x2 (fun s12 => R 3 (nI o) s12 (fun r13 s14 => ((r13 = false → Qc false s14) ∧ (r13 = true → wp_X2_done (nI c) s14 (fun r15 s16 => ((r15 = false → Qc false s16) ∧ (r15 = true → Qc true s16)))))))) ∧ (nI c = (-1) → wp_X8_failHere x2 (fun r17 s18 => Qc r17 s18))) := by
    intro c hs
    have he2 : t2.2.1 = t2.1 + 1 ∧ ySo t2 = false := by
      rcases hs with z | z | z
      · exact z.1.lt hX2.2.1
      · exact z.1.lt hX2.2.1
      · exact z.1.lt hX2.2.1
    refine nt (y_nm1 (by omega)) (y_next hX2 (fun t3 x3 hX3 F3 => ?_))
    rw [he2.2] at hX3
    refine hsum t2.2.1 false t3 (L ++ l2) x3 hX3 (hG2.x (y_n4 F3)) (by omega) _ (fun b4' so4 t4 l4 x4 hX4 hG4 F4 hb4 hl4 hE4 hO4 => b2 ?_) (fun kd pl x4 hX4 F4 hN4 => b3 (hno kd pl x4 hX4 ((F2.tr (y_nG F3)).tr F4) (y_noCmp3 n91 n22 n23 ⟨hbb, hll⟩ hO2.1 hX2.2.1 hO2.2 hs hX3.2.1 hN4)))
    have g3 := hX4.2.1.1
    have g4 := hX4.2.1.2.1
    have lL4 : (L ++ l2 ++ l4).length = L.length + l2.length + l4.length := by rw [List.length_append, List.length_append]
    rw [← cC_id (c := c) (by omega)]
    refine y_done hX4 hG4 (by omega) c (fun x5 hX5 hG5 F5 => b2 ?_)
    have eL : L ++ l2 ++ l4 ++ [c] = L ++ (l2 ++ l4 ++ [c]) := by rw [List.append_assoc, List.append_assoc, List.append_assoc]
    rw [eL] at hG5
    refine hok b4' so4 t4 (l2 ++ l4 ++ [c]) x5 hX5 hG5 (((F2.tr (y_nG F3)).tr F4).tr F5) (by omega) ?_ ?_ (y_okCmp n91 n22 n23 ⟨hbb, hll⟩ hO2.1 hX2.2.1 hO2.2 hs hX3.2.1 ⟨hb4, hl4⟩ hO4.1 hX4.2.1 hO4.2)
    · rw [List.length_append, List.length_append]
      show l2.length + l4.length + 1 + b ≤ b4'
      omega
    · have := yEv.op (c := c) (D := d) hE2 hE4 (by omega) (fun z => by omega) ⟨by omega, by omega⟩
      rw [decide_eq_true (by omega)] at this
      exact this
  unfold wp_X2_comparisonHere
  refine y_isSign hX2 60 (by omega) (fun z => b2 (go 20009 (Or.inl ⟨z, rfl⟩))) (fun n60 => b3 ?_)
  refine y_isSign hX2 62 (by omega) (fun z => b2 (go 20010 (Or.inr (Or.inl ⟨z, rfl⟩)))) (fun n62 => b3 ?_)
  refine y_isSign hX2 61 (by omega) (fun z => b2 (go 20011 (Or.inr (Or.inr ⟨z, rfl⟩)))) (fun n61 => b3 ?_)
  refine nf rfl (y_failHere hX2 (fun x3 hX3 F3 => hno _ _ x3 hX3 (F2.tr (y_4G F3)) (y_noCmp2 n91 n22 n23 ⟨hbb, hll⟩ hO2.1 hX2.2.1 hO2.2 n60 n62 n61)))
def yFac (R : Int32 → fz_s → (Bool → fz_s → Prop) → Prop) (tp : Nat → Nat) (tn tk cd f o : Nat) : Prop := ySp R tp tn tk cd f o true (3 * (6 - o) + 4) (yOKf tp tn tk o) (yNOf tp tn tk o)
def yBot (R : Int32 → fz_s → (Bool → fz_s → Prop) → Prop) (tp : Nat → Nat) (tn tk cd f o : Nat) : Prop := ySp R tp tn tk cd f o true (3 * (6 - o) + 5) (fun b so t b' so' t' l => yOKb tp tn tk o b so t b' so' t' l ∧ ¬ yWo t' 21) (yNOb tp tn tk o)
def yEit (R : Int32 → fz_s → (Bool → fz_s → Prop) → Prop) (tp : Nat → Nat) (tn tk cd f o : Nat) : Prop := ySp R tp tn tk cd f o true (3 * (6 - o) + 6) (fun b so t b' so' t' l => yOKe tp tn tk o b so t b' so' t' l ∧ ¬ yWo t' 20 ∧ ¬ yWo t' 21) (yNOe tp tn tk o)
theorem y_GTs {tp : Nat → Nat} {tn tk cd f : Nat} (htk : tk ≤ 2) : ∀ (N n : Nat), n ≤ N → ∀ o, o ≤ 6 → (5 * (6 - o) + 5 ≤ n → yFac (wp_G n 2) tp tn tk cd f o) ∧ (5 * (6 - o) + 6 ≤ n → yBot (wp_G n 1) tp tn tk cd f o) ∧ (5 * (6 - o) + 7 ≤ n → yEit (wp_G n 0) tp tn tk cd f o)
  | 0, n, hn, o, ho => ⟨fun h => absurd h (by omega), fun h => absurd h (by omega), fun h => absurd h (by omega)⟩
  | N + 1, n, hn, o, ho => by
    have ih := y_GTs (tp := tp) (tn := tn) (tk := tk) (cd := cd) (f := f) htk N
    refine ⟨fun h => ?_, fun h => ?_, fun h => ?_⟩
    · obtain ⟨k, rfl⟩ : ∃ k, n = k + 1 := ⟨n - 1, by omega⟩
      show ySp (wp_X2_fact (wp_G k)) tp tn tk cd f o true (3 * (6 - o) + 4) (yOKf tp tn tk o) (yNOf tp tn tk o)
      exact y_fact (d1 := 3 * (6 - o) + 3) (d2 := 3 * (6 - (o + 1)) + 6) (d3 := 3 * (6 - (o + 1)) + 4) ho ((y_GS htk k k (Nat.le_refl _) o ho).2.2 (by omega)) (fun h6 => (ih k (by omega) (o + 1) (by omega)).2.2 (by omega)) (fun h6 => (ih k (by omega) (o + 1) (by omega)).1 (by omega)) ⟨by omega, fun h6 => ⟨by omega, by omega⟩⟩
    · obtain ⟨k, rfl⟩ : ∃ k, n = k + 1 := ⟨n - 1, by omega⟩
      show ySp (wp_X2_both (wp_G k)) tp tn tk cd f o true (3 * (6 - o) + 5) _ (yNOb tp tn tk o)
      exact y_both ((ih k (by omega) o ho).1 (by omega))
    · obtain ⟨k, rfl⟩ : ∃ k, n = k + 1 := ⟨n - 1, by omega⟩
      show ySp (wp_X2_readTest (wp_G k)) tp tn tk cd f o true (3 * (6 - o) + 6) _ (yNOe tp tn tk o)
      exact y_either ((ih k (by omega) o ho).2.1 (by omega))
theorem y_qTestOK {tp : Nat → Nat} {tn tk : Nat} {b : Nat} {so : Bool} {t : yTok} {b' : Nat} {so' : Bool} {t' : yTok} {l : List Nat} (hO : yOKe tp tn tk 0 b so t b' so' t' l) (n20 : ¬ yWo t' 20) (n21 : ¬ yWo t' 21) (hT' : yTS tp tn b' so' t') (hb : b < b' ∧ l.length + b ≤ b') {L : List Nat} {bs a : Nat} {m : fz_s} (hP : yPM tp tn b so t a m) (hS : yQS [] 0 L bs tk m) (hl : L.length ≤ b) {Q : fz_s → Prop} (hq : ∀ m', yPM tp tn b' so' t' t'.1 m' → yQS [] 0 (L ++ l) bs tk m' → Fr pQ m m' → Q m') : wp_X12_qTest m Q := by
  have hn0 := hP.1.1
  have hb1 := hT'.1
  have hb2 := hT'.2.1
  refine hO Q [] L bs a 2048 m hP hS (by show L.length + 0 ≤ b; omega) (by omega) (fun v hv => (by cases hv)) (fun z => (by obtain ⟨_, _, z, _⟩ := z; cases z)) (fun f1' f3 m1 p Lm hf1 hf3 hp hLm hP1 hS1 hF1 => ?_)
  obtain ⟨a1, hP1⟩ := hP1
  have hlen := y_len hLm
  rw [List.append_nil] at hS1
  refine y_G_end hP1 hS1 (by omega) hp.1 n20 n21 ⟨by omega, by omega⟩ (fun m3 hP3 hS3 hF3 => hq m3 hP3 ?_ (hF1.tr hF3))
  rw [hLm] at hS3
  exact hS3
theorem y_qTestNO {tp : Nat → Nat} {tn tk : Nat} {b : Nat} {so : Bool} {t : yTok} {kd pl : Nat} (hN : yNOe tp tn tk 0 b so t kd pl) {L : List Nat} {bs a : Nat} {m : fz_s} (hP : yPM tp tn b so t a m) (hS : yQS [] 0 L bs tk m) (hl : L.length ≤ b) {Q : fz_s → Prop} (hq : ∀ m', yFM kd pl m' → Fr pQ m m' → Q m') : wp_X12_qTest m Q := by
  have hn0 := hP.1.1
  exact hN Q [] L bs a 2048 m hP hS (by show L.length + 0 ≤ b; omega) (by omega) (fun v hv => (by cases hv)) (fun z => (by obtain ⟨_, _, z, _⟩ := z; cases z)) hq

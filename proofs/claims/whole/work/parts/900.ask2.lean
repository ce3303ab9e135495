/-! ASK: class and model alike -/
theorem c_askW {tp : Nat → Nat} {tn b : Nat} {so : Bool} {t : yTok} {x : fz_s} (hX : yPX tp tn b so t x) {Q : Bool → fz_s → Prop} (hq : nd_X5_read_17 Q (iI (yword t)) x) : wp_X5_read x Q := by
  obtain ⟨a1, a2, a3, a4, a5, a6, a7, a8⟩ := id hX
  have hk4 : t.2.2.1 ≤ 4 := by
    rcases a2.2.2.2.2 with z | z | z | z | z <;> omega
  unfold wp_X5_read
  rw [a4]
  unfold yword at hq
  by_cases c : t.2.2.1 = 1
  · rw [if_pos c, ← a6 c] at hq
    exact nf (by simp (disch := omega) only [N_lit, N_add, N_mul, N_sub, N_addneg, N_neg1, N_addm, N_le, N_lt, N_eq, N_in, N_cl, N_ne, N_ne', N_ltm, N_mlt, N_lem] <;> omega) hq
  · rw [if_neg c] at hq
    exact nt (by simp (disch := omega) only [N_lit, N_add, N_mul, N_sub, N_addneg, N_neg1, N_addm, N_le, N_lt, N_eq, N_in, N_cl, N_ne, N_ne', N_ltm, N_mlt, N_lem] <;> omega) hq
set_option maxHeartbeats 4000000 in
theorem y_askR {tp : Nat → Nat} {tn : Nat} {t0 : yTok} {x : fz_s} (hX : yPX tp tn 0 false t0 x) {Q : Bool → fz_s → Prop} (hok : ∀ k l ty x', k < 6 → (∀ (K : Nat → List Nat → Prop) (F : Nat → Nat → Prop), K k l → sAsk tp tn t0 K F) → yEv scQ ty 24 l → (k < 3 → ty = true) → l.length ≤ 1600 → Seg (x'.1 29) cC 0 l → x'.1 28 1 = nI l.length → x'.1 28 2 = nI (26 + k) → x'.1 4 7 = 0 → x'.1 4 8 = -1 → Fr pC x x' → Q true x') (hno : ∀ kd pl x', (∀ (K : Nat → List Nat → Prop) (F : Nat → Nat → Prop), F kd pl → sAsk tp tn t0 K F) → yFX kd pl x' → Fr pC x x' → Q false x') : wp_X5_read x Q := by
  have hr := y_word_r hX.2.1
  refine c_askW hX (fun s1 e1 => ?_)
  have k28 : s1.1 28 2 = iI (yword t0) := by rw [e1, g_eq]
  have i1 : ∀ a j, ¬ (a = 28 ∧ j = 2) → s1.1 a j = x.1 a j := fun a j g => by rw [e1, g_si, if_neg g]
  have hX1 : yPX tp tn 0 false t0 s1 := hX.fr (fun j _ => i1 _ _ (by omega)) (fun j _ => i1 _ _ (by omega))
  have C1 : Fr pC x s1 := by rw [e1]; exact Fr.rf.si (pC_t (by omega))
  have q26 : (iI (yword t0) < 26) ↔ yword t0 < 26 := i_lt (b := 26) ⟨⟨by omega, by omega⟩, by omega, by omega⟩
  have q31 : (iI (yword t0) ≤ 31) ↔ yword t0 ≤ 31 := i_le (b := 31) ⟨⟨by omega, by omega⟩, by omega, by omega⟩
  rw [k28, q26, q31]
  by_cases c26 : yword t0 < 26
  · refine bt c26 (y_failHere hX1 (fun x2 q2 F2 => hno _ _ x2 (fun K F z => Or.inl ⟨fun k hk w => ?_, z⟩) q2 (C1.tr (y_4C F2.1))))
    have := y_word_iff.mpr w
    omega
  refine bf c26 (bt (by omega) ?_)
  obtain ⟨k, hk⟩ : ∃ k : Nat, yword t0 = ((26 + k : Nat) : Int) := ⟨(yword t0 - 26).toNat, by omega⟩
  have hw : yWo t0 (26 + k) := y_word_iff.mp hk
  have hk6 : k < 6 := by omega
  have hso : ySo t0 = true := decide_eq_true (Or.inl hw.1)
  refine y_next hX1 (fun t1 x1 hX2 F1 => ?_)
  rw [hso] at hX2
  have G1 := (y_n4 F1).1
  unfold wp_X2_begin
  intro s2 e2 s3 e3 s4 e4 s5 e5
  have i5 : ∀ a j, ¬ (a = 5 ∧ (j = 2 ∨ j = 3 ∨ j = 4)) → s5.1 a j = x1.1 a j := fun a j g => by
    rw [e5, g_si, if_neg (by omega), e4, g_si, if_neg (by omega), e3, g_si, if_neg (by omega), e2]
    rfl
  have hX5 : yPX tp tn t0.2.1 true t1 s5 := hX2.fr (fun j _ => i5 _ _ (by omega)) (fun j _ => i5 _ _ (by omega))
  have hG5 : yGS 29 0 2 [] s5 := by
    refine ⟨?_, Or.inr rfl, ?_, ?_, ?_, trivial⟩
    · rw [e5, e4, e3, e2]; rfl
    · rw [e5, g_nj (by omega), e4, g_eq]; rfl
    · rw [e5, g_eq, if_pos rfl]; rfl
    · rw [e5, g_nj (by omega), e4, g_nj (by omega), e3, g_eq]; rfl
  have C5 : Fr pC x s5 := by
    have F4 : Fr pC x1 s5 := by
      rw [e5, e4, e3, e2]
      exact (((Fr.rf.sc).si (pC_t (by omega))).si (pC_t (by omega))).si (pC_t (by omega))
    exact (C1.tr (y_4C G1)).tr F4
  have k5 : s5.1 28 2 = nI (26 + k) := by
    rw [i5 _ _ (by omega), G1.i _ _ (p4_f (by omega)), k28, hk]
    exact (i_nI _).symm
  have u1 : ∀ (K : Nat → List Nat → Prop) (F : Nat → Nat → Prop), ((∃ b' so' t' l, yTS tp tn b' so' t' ∧ (t0.2.1 < b' ∧ l.length + t0.2.1 ≤ b') ∧ yGQ tp tn k t0.2.1 true t1 b' so' t' l ∧ ((t'.2.2.1 = 0 ∧ K k l) ∨ (t'.2.2.1 ≠ 0 ∧ F 1 t'.1))) ∨ (∃ kd pl, yGR tp tn k t0.2.1 true t1 kd pl ∧ F kd pl)) → sAsk tp tn t0 K F := fun K F z => Or.inr ⟨k, hk6, hw, t1, hX2.2.1, z⟩
  have aft : ∀ b' so' t' l x6 ty, yPX tp tn b' so' t' x6 → yGS 29 0 2 ([] ++ l) x6 → yFC (pGr 29 0) s5 x6 → (t0.2.1 < b' ∧ l.length + t0.2.1 ≤ b') → yEv (ysc 2) ty 24 l → (k < 3 → ty = true) → yGQ tp tn k t0.2.1 true t1 b' so' t' l → nd_X5_read_82 Q true x6 := by
    intro b' so' t' l x6 ty hX6 hG6 F6 hb hE hty hO
    have hG6' : yGS 29 0 2 l x6 := hG6
    have m1 := hX6.2.1.1
    have m2 := hX6.2.1.2.1
    have m3 := hX6.1.1
    have C6 : Fr pC x x6 := C5.tr (F6.1.mono fun a j q => by
      have := of_decide_eq_false q
      exact pGr_f (by omega))
    have k6 : x6.1 28 2 = nI (26 + k) := (F6.1.i _ _ (pGr_f (by omega))).trans k5
    intro s1 e1
    rw [hG6'.2.2.2.2.1, Nat.zero_add] at e1
    refine b2 ?_
    have i7 : ∀ a j, ¬ (a = 28 ∧ j = 1) → s1.1 a j = x6.1 a j := fun a j g => by rw [e1, g_si, if_neg g]
    have hX7 : yPX tp tn b' so' t' s1 := hX6.fr (fun j _ => i7 _ _ (by omega)) (fun j _ => i7 _ _ (by omega))
    have C7 : Fr pC x s1 := by rw [e1]; exact C6.si (pC_t (by omega))
    have hk4 : t'.2.2.1 ≤ 4 := by
      rcases hX6.2.1.2.2.2.2 with z | z | z | z | z <;> omega
    rw [hX7.2.2.2.1]
    by_cases c0 : t'.2.2.1 = 0
    · exact bt (by rw [c0]; rfl) (hok k l ty s1 hk6 (fun K F z => u1 K F (Or.inl ⟨b', so', t', l, hX6.2.1, hb, hO, Or.inl ⟨c0, z⟩⟩)) hE hty (by omega) (hG6'.2.2.2.2.2.cong (fun k _ _ => i7 _ _ (by omega))) (by rw [e1, g_eq]) ((i7 _ _ (by omega)).trans k6) hX7.2.2.2.2.2.2.1 hX7.2.2.2.2.2.2.2 C7)
    · exact bf (by simp (disch := omega) only [N_lit, N_add, N_mul, N_sub, N_addneg, N_neg1, N_addm, N_le, N_lt, N_eq, N_in, N_cl, N_ne, N_ne', N_ltm, N_mlt, N_lem] <;> omega) (y_failHere hX7 (fun x8 q8 F8 => b3 (hno _ _ x8 (fun K F z => u1 K F (Or.inl ⟨b', so', t', l, hX6.2.1, hb, hO, Or.inr ⟨c0, z⟩⟩)) q8 (C7.tr (y_4C F8.1)))))
  have bad : ∀ kd pl x6, yFX kd pl x6 → yFC (pGr 29 0) s5 x6 → yGR tp tn k t0.2.1 true t1 kd pl → nd_X5_read_82 Q false x6 := by
    intro kd pl x6 q6 F6 hN s1 e1
    have i7 : ∀ a j, ¬ (a = 28 ∧ j = 1) → s1.1 a j = x6.1 a j := fun a j g => by rw [e1, g_si, if_neg g]
    refine b3 (hno kd pl s1 (fun K F z => u1 K F (Or.inr ⟨kd, pl, hN, z⟩)) ⟨q6.1, q6.2.1, (i7 _ _ (by omega)).trans q6.2.2.1, (i7 _ _ (by omega)).trans q6.2.2.2⟩ ?_)
    rw [e1]
    refine (C5.tr (F6.1.mono fun a j q => ?_)).si (pC_t (by omega))
    have := of_decide_eq_false q
    exact pGr_f (by omega)
  have hl5 : 0 + ([] : List Nat).length ≤ t0.2.1 := by show 0 + 0 ≤ t0.2.1; omega
  rw [k5]
  by_cases c3 : k < 3
  · refine bf (by simp (disch := omega) only [N_lit, N_add, N_mul, N_sub, N_addneg, N_neg1, N_addm, N_le, N_lt, N_eq, N_in, N_cl, N_ne, N_ne', N_ltm, N_mlt, N_lem] <;> omega) ?_
    exact (y_GTs (tk := 2) (by omega) 64 64 (Nat.le_refl _) 0 (by omega)).2.2 (by omega) t0.2.1 true t1 [] s5 hX5 hG5 hl5 _ (fun b' so' t' l x6 hX6 hG6 F6 g1 g2 g3 g4 => aft b' so' t' l x6 true hX6 hG6 F6 ⟨g1, g2⟩ g3 (fun _ => rfl) ⟨fun _ => g4, fun z => absurd c3 z⟩) (fun kd pl x6 q6 F6 g1 => bad kd pl x6 q6 F6 ⟨fun _ => g1, fun z => absurd c3 z⟩)
  · refine bt (by simp (disch := omega) only [N_lit, N_add, N_mul, N_sub, N_addneg, N_neg1, N_addm, N_le, N_lt, N_eq, N_in, N_cl, N_ne, N_ne', N_ltm, N_mlt, N_lem] <;> omega) ?_
    exact (y_GS (tk := 2) (by omega) 64 64 (Nat.le_refl _) 0 (by omega)).2.2 (by omega) t0.2.1 true t1 [] s5 hX5 hG5 hl5 _ (fun b' so' t' l x6 hX6 hG6 F6 g1 g2 g3 g4 => aft b' so' t' l x6 false hX6 hG6 F6 ⟨g1, g2⟩ (g3.mono (by omega)) (fun z => absurd z c3) ⟨fun z => absurd z c3, fun _ => g4⟩) (fun kd pl x6 q6 F6 g1 => bad kd pl x6 q6 F6 ⟨fun z => absurd z c3, fun _ => g1⟩)
theorem pQa_pD {s s' : fz_s} (h : Fr pQa s s') : Fr pD s s' := h.mono fun a j q => by
  have := of_decide_eq_false q
  exact pQa_f (by omega)
set_option maxHeartbeats 4000000 in
theorem EQ_ask_ok : EQ_ask INV := by
  intro x m h
  have h0 : INV (si x 2 1 0) (si m 196 1 0) := h.taped (n := 0) (by omega)
  obtain ⟨t, T, W, kf, kn, ⟨tp, tn, h1⟩, h2, ⟨pn, h3⟩, ⟨sd, h4⟩, ⟨sn, nm, nl, h5⟩, h6, h7, ⟨us, ac, o, nw, h8⟩, ⟨rs, rn, h9⟩, h10⟩ := id h
  unfold wp_X11_ask
  intro x1 ex1 s2 es2
  rw [h1.2.2.1] at ex1
  rw [ex1]
  have i2 : ∀ a j, ¬ (a = 2 ∧ j = 1) → s2.1 a j = x.1 a j := fun a j g => by rw [es2, g_si, if_neg g]
  refine c_noTreaty (t := t) ((i2 _ _ (by omega)).trans h5.1) ⟨fun q => ?_, fun q => ?_⟩
  · have ht : t = true := by rw [Bool.not_eq_false'] at q; exact q
    have h52 : m.1 196 52 = nI 1 := by rw [h5.2.1, ht]; rfl
    refine y_open h1.1 h1.2.1 (fun j hj => (i2 _ _ (by omega)).trans (h1.2.2.2.2.1 j hj)) (fun t0 x3 hX3 F3 => ?_)
    have C3 : Fr pC (si x 2 1 0) x3 := by rw [← es2]; exact y_4C F3.1
    refine y_askR hX3 (fun k l ty x5 hk6 hsp hE hty hl hS h281 h282 h47 h48 F5 => ?_) (fun kd pl x5 hsp q5 F5 => ?_)
    · unfold wp_X11_takeFault
      intro s7 e7 s8 e8
      rw [h47] at e7
      have r48 : s7.1 4 8 = -1 := by rw [e7, g_ne (by omega)]; exact h48
      rw [r48] at e8
      refine b2 ?_
      obtain ⟨f, hD⟩ := hE.dn (by omega)
      have i8 : ∀ a j, a ≠ 2 → s8.1 a j = x5.1 a j := fun a j g => by rw [e8, g_ne g, e7, g_ne g]
      have hI6 := (h6.1.cg (x' := si x 2 1 0) (fun a j g => by rw [g_si, if_neg (by omega)]))
      have hC8 : CC T W 35 s8 := (hI6.pC (C3.tr F5)).cg (fun a j g => i8 a j (by omega))
      refine y_answer (T := T) (W := W) (vb := 26 + k) ⟨by omega, by omega⟩ (by omega) hD hC8 (hS.cong (fun k _ _ => i8 _ _ (by omega))) ((i8 _ _ (by omega)).trans h281) ((i8 _ _ (by omega)).trans h282) (fun x9 F9 => ?_)
      refine m_askP (K := fun k' l' => k' = k ∧ l' = l) (F := fun _ _ => False) (hsp _ _ ⟨rfl, rfl⟩) h1.1 h1.2.1 h1.2.2.2.1 h1.2.2.2.2.2 h10 h52 hX3.2.1 (fun k' l' m1 hkl hk' S1 b5 b6 F1 => ?_) (fun kd pl k' m1 z _ _ => z.elim)
      obtain ⟨rfl, rfl⟩ := hkl
      unfold nd_X12_ask_133
      intro y1 f1 y2 f2
      rw [b5] at f1
      have p6 : y1.1 196 6 = -1 := by rw [f1, g_nj (by omega)]; exact b6
      rw [p6] at f2
      have p5 : y2.1 196 5 = 0 := by rw [f2, g_nj (by omega), f1, g_nj (by omega)]; exact b5
      refine bt p5 ?_
      have go : ∀ (z : Int64) (y3 y4 : fz_s), z = lI (yan (26 + k') (fun p => f (envQ T W p)) 0) → y3 = sl y2 196 108 z → y4 = si y3 196 109 1 → lp_X12_ask_183 (fun r' m' => lI (yan (26 + k') (fun p => f (envQ T W p)) T.1) = r' ∧ INV x9 m') 2048 (nI k') 0 y4 := by
        intro z y3 y4 ez f3 f4
        have i4 : ∀ a j, ¬ (a = 196 ∧ (j = 7 ∨ j = 8 ∨ j = 109)) → y4.1 a j = m1.1 a j := fun a j g => by
          rw [f4, g_si, if_neg (by omega), f3]
          show y2.1 a j = _
          rw [f2, g_si, if_neg (by omega), f1, g_si, if_neg (by omega)]
        have D4 : Fr pD y2 y4 := by rw [f4, f3]; exact (Fr.rf.sl (pD_t (by omega))).si (pD_t (by omega))
        have hM1 : MM T W m1 := (h6.2.1.cg (m' := si m 196 1 0) (fun a j g => by rw [g_si, if_neg (by omega)])).fr F1
        have hM4 : MM T W y4 := hM1.cg (fun a j g => i4 a j (by omega))
        refine m_183 (T := T) (W := W) (l := l') (ty := ty) (f := f) (kd := k') (m0 := y4) (by omega) hty hl hD ?_ ?_ ?_ ?_ ?_ (fun m2 F2 => ⟨rfl, ?_⟩) 2048 0 y4 (Nat.zero_le _) (by have := hM4.1.1; omega) hM4 (fun p hp => absurd hp (Nat.not_lt_zero _)) (fun _ _ _ => rfl) rfl Fr.rf
        · rw [i4 _ _ (by omega), F1.i _ _ (pD_f (by omega)), g_nj (by omega)]; exact h52
        · rw [i4 _ _ (by omega)]; exact S1.2.1
        · exact S1.2.2.2.2.2.2.1.cong (fun k _ _ => i4 _ _ (by omega))
        · rw [f4, ← ez]
          show y3.2.1 196 108 = z
          rw [f3]; exact gl_eq
        · rw [f4, g_eq]; rfl
        · have e := (h0.fr (C3.tr F5) F1).fault 0 (-1)
          rw [← e7, ← e8, ← f1, ← f2] at e
          exact e.fr (pE_pC F9) (D4.tr (pQa_pD F2))
      have ya : yan (26 + k') (fun p => f (envQ T W p)) 0 = if 26 + k' = 26 ∨ 26 + k' = 27 then -1 else 0 := rfl
      by_cases c2 : 2 ≤ k'
      · exact bt (by simp (disch := omega) only [N_lit, N_add, N_mul, N_sub, N_addneg, N_neg1, N_addm, N_le, N_lt, N_eq, N_in, N_cl, N_ne, N_ne', N_ltm, N_mlt, N_lem] <;> omega) (fun y3 f3 y4 f4 => go 0 y3 y4 (by rw [ya, if_neg (by omega)]; rfl) f3 f4)
      · exact bf (by simp (disch := omega) only [N_lit, N_add, N_mul, N_sub, N_addneg, N_neg1, N_addm, N_le, N_lt, N_eq, N_in, N_cl, N_ne, N_ne', N_ltm, N_mlt, N_lem] <;> omega) (fun y3 f3 y4 f4 => go (-1) y3 y4 (by rw [ya, if_pos (by omega)]; decide +kernel) f3 f4)
    · unfold wp_X11_takeFault
      intro s7 e7 s8 e8
      have r47 := q5.2.2.1
      have r48 : s7.1 4 8 = nI pl := by rw [e7, g_ne (by omega)]; exact q5.2.2.2
      rw [r47] at e7
      rw [r48] at e8
      refine b3 ?_
      refine m_askP (K := fun _ _ => False) (F := fun kd' pl' => kd' = kd ∧ pl' = pl) (hsp _ _ ⟨rfl, rfl⟩) h1.1 h1.2.1 h1.2.2.2.1 h1.2.2.2.2.2 h10 h52 hX3.2.1 (fun k' l' m1 z _ _ _ _ _ => z.elim) (fun kd' pl' k' m1 hkl q1 F1 => ?_)
      obtain ⟨rfl, rfl⟩ := hkl
      unfold nd_X12_ask_133
      intro y1 f1 y2 f2
      rw [q1.2.2.1] at f1
      have p6 : y1.1 196 6 = nI pl' := by rw [f1, g_nj (by omega)]; exact q1.2.2.2
      rw [p6] at f2
      have p5 : ¬ y2.1 196 5 = 0 := by rw [f2, g_nj (by omega), f1, g_nj (by omega)]; exact q1.bad
      refine bf p5 ⟨rfl, ?_⟩
      rw [e8, e7, f2, f1]
      exact (h0.fr (C3.tr F5) F1).fault (nI kd') (nI pl')
  · have ht : t = false := by rw [Bool.not_eq_true'] at q; exact q
    have h52 : m.1 196 52 = 0 := by rw [h5.2.1, ht]; rfl
    unfold wp_X12_ask
    refine nf h52 (fun s16 e16 => ⟨rfl, ?_⟩)
    rw [e16, es2]
    exact h0

/-! THE CLASS'S TOKENS: what each call does -/
theorem y_182 {tp : Nat → Nat} {tn b q e k : Nat} {w : Int} {so : Bool} {x s : fz_s} (X : yXT tp tn s) (F : yFC p4n x s) (r2 : s.1 4 2 = nI e) (r3 : s.1 4 3 = nI k) (r4 : s.1 4 4 = nI q) (r5 : k = 1 → s.1 4 5 = iI w) (r7 : s.1 4 7 = 0) (r8 : s.1 4 8 = -1) (hb : b ≤ q) (hq2 : q < e) (he : e ≤ tn) (hbl : ∀ j, b ≤ j → j < q → tp j = 10 ∨ tp j = 32) (hk : (k = 1 ∧ yRun tp tn 97 122 300 q e ∧ yWN tp q e w) ∨ (k = 2 ∧ yRun tp tn 48 57 300 q e)) {Q : fz_s → Prop} (hq : ∀ t x', yPX tp tn b so t x' → yFC p4n x x' → Q x') : nd_X8_next_182 Q so (nI b) s := by
  have main : (so = true → q ≠ b) → Q s := by
    intro hso
    refine hq (q, e, k, w) s ⟨X, ⟨hb, by show q ≤ tn; omega, he, hbl, ?_⟩, r2, r3, r4, r5, r7, r8⟩ F
    rcases hk with ⟨h1, h2, h3⟩ | ⟨h1, h2⟩
    · exact Or.inr (Or.inl ⟨h1, hq2, h2, hso, h3⟩)
    · exact Or.inr (Or.inr (Or.inl ⟨h1, hq2, h2, hso⟩))
  have hn := X.1
  unfold nd_X8_next_182
  cases so with
  | false => exact b3 (main (fun z => by cases z))
  | true =>
    refine b2 ?_
    rw [r4]
    by_cases c : q = b
    · refine nf (by rw [c]) (fun s1 e1 => hq (q, e, 4, w) s1 ⟨?_, ⟨hb, by show q ≤ tn; omega, he, hbl, Or.inr (Or.inr (Or.inr (Or.inr ⟨rfl, by show q < tn; omega, ?_, rfl, c⟩)))⟩, ?_, ?_, ?_, fun z => ?_, ?_, ?_⟩ ?_)
      · exact X.fr (by rw [e1, g_nj (by omega)]) (fun j _ => by rw [e1, g_ne (by omega)])
      · rcases hk with ⟨h1, h2, h3⟩ | ⟨h1, h2⟩
        · exact Or.inl (h2.2.2.1 q (Nat.le_refl _) hq2)
        · exact Or.inr (h2.2.2.1 q (Nat.le_refl _) hq2)
      · rw [e1, g_nj (by omega)]; exact r2
      · rw [e1, g_eq]; rfl
      · rw [e1, g_nj (by omega)]; exact r4
      · cases z
      · rw [e1, g_nj (by omega)]; exact r7
      · rw [e1, g_nj (by omega)]; exact r8
      · rw [e1]; exact F.si (p4n_t (by omega))
    · exact nt (fun z => c ((N_eq ⟨by omega, by omega⟩).mp z)) (main (fun _ => c))
theorem y_run0 {tp : Nat → Nat} {tn lo hi nl q e : Nat} (h : yRun tp tn lo hi nl q e) (hq : q < tn) (hc : yin lo hi nl (tp q)) : q < e := by
  have h1 := h.1
  by_cases c : q = e
  · exact absurd (c ▸ hc) (h.2.2.2 (by omega))
  · omega
theorem y_next21 {tp : Nat → Nat} {tn b : Nat} {so : Bool} {x : fz_s} (h : yXT tp tn x) (hs : x.1 4 2 = nI b) (hb : b ≤ tn) (h7 : x.1 4 7 = 0) (h8 : x.1 4 8 = -1) {Q : fz_s → Prop} (hq : ∀ t x', yPX tp tn b so t x' → yFC p4n x x' → Q x') : nd_X8_next_21 Q so x := by
  have hn := h.1
  unfold nd_X8_next_21
  intro x1 e1
  rw [hs] at e1 ⊢
  refine y_run (lo := 32) (hi := 32) (nl := 10) h ⟨by omega, by omega⟩ (Or.inl ⟨rfl, rfl⟩) 2048 b hb (by omega) (fun q hr => ?_)
  intro s4 e4 s5 e5
  have hr1 := hr.1
  have hr2 := hr.2.1
  have r4 : s5.1 4 4 = nI q := by rw [e5, g_nj (by omega), e4, g_eq]
  have r1 : s5.1 4 1 = nI tn := by rw [e5, g_nj (by omega), e4, g_nj (by omega)]; exact h.2.2.1
  have r7 : s5.1 4 7 = 0 := by rw [e5, g_nj (by omega), e4, g_nj (by omega)]; exact h7
  have r8 : s5.1 4 8 = -1 := by rw [e5, g_nj (by omega), e4, g_nj (by omega)]; exact h8
  have X5 : yXT tp tn s5 := h.fr (r1.trans h.2.2.1.symm) (fun j _ => by rw [e5, g_ne (by omega), e4, g_ne (by omega)])
  have F5 : yFC p4n x s5 := by
    rw [e5, e4]
    exact (yFC.rf.si (p4n_t (by omega))).si (p4n_t (by omega))
  clear e4 e5
  have hbl : ∀ j, b ≤ j → j < q → tp j = 10 ∨ tp j = 32 := fun j h1 h2 => by
    have := hr.2.2.1 j h1 h2
    omega
  rw [r4, r1, e1]
  by_cases c1 : q < tn
  · refine bt (by simp (disch := omega) only [N_lit, N_add, N_mul, N_sub, N_addneg, N_neg1, N_addm, N_le, N_lt, N_eq, N_in, N_cl, N_ne, N_ne', N_ltm, N_mlt, N_lem] <;> omega) ⟨N_in ⟨by omega, by omega⟩, fun x6 e6 => ?_⟩
    have hB := h.2.1 q
    rw [N_cl (by omega), X5.2.2.2 q (by omega)] at e6
    rw [e6]
    have nb := hr.2.2.2 c1
    have sgn : ¬ yin 97 122 300 (tp q) → nd_X8_next_129 Q so (nI b) (nI (tp q)) s5 := by
      intro hl
      unfold nd_X8_next_129
      have s166 : ¬ yin 48 57 300 (tp q) → nd_X8_next_166 Q s5 := by
        intro hd
        unfold nd_X8_next_166
        intro s6 e6 s7 e7
        rw [r4, nI_1] at e6
        refine hq (q, q + 1, 3, -1) s7 ⟨?_, ⟨hr1, hr2, c1, hbl, Or.inr (Or.inr (Or.inr (Or.inl ⟨rfl, c1, rfl, ?_, ?_⟩)))⟩, ?_, ?_, ?_, fun z => ?_, ?_, ?_⟩ ?_
        · exact X5.fr (by rw [e7, g_nj (by omega), e6, g_nj (by omega)]) (fun j _ => by rw [e7, g_ne (by omega), e6, g_ne (by omega)])
        · show ¬ yin 97 122 10 (tp q); omega
        · show ¬ yin 48 57 32 (tp q); omega
        · rw [e7, g_nj (by omega), e6, g_eq]
        · rw [e7, g_eq]; rfl
        · rw [e7, g_nj (by omega), e6, g_nj (by omega)]; exact r4
        · cases z
        · rw [e7, g_nj (by omega), e6, g_nj (by omega)]; exact r7
        · rw [e7, g_nj (by omega), e6, g_nj (by omega)]; exact r8
        · rw [e7, e6]; exact (F5.si (p4n_t (by omega))).si (p4n_t (by omega))
      by_cases d1 : tp q < 48
      · exact bt (by simp (disch := omega) only [N_lit, N_add, N_mul, N_sub, N_addneg, N_neg1, N_addm, N_le, N_lt, N_eq, N_in, N_cl, N_ne, N_ne', N_ltm, N_mlt, N_lem] <;> omega) (s166 (by omega))
      refine bf (by simp (disch := omega) only [N_lit, N_add, N_mul, N_sub, N_addneg, N_neg1, N_addm, N_le, N_lt, N_eq, N_in, N_cl, N_ne, N_ne', N_ltm, N_mlt, N_lem] <;> omega) ?_
      by_cases d2 : 57 < tp q
      · exact bt (by simp (disch := omega) only [N_lit, N_add, N_mul, N_sub, N_addneg, N_neg1, N_addm, N_le, N_lt, N_eq, N_in, N_cl, N_ne, N_ne', N_ltm, N_mlt, N_lem] <;> omega) (s166 (by omega))
      refine bf (by simp (disch := omega) only [N_lit, N_add, N_mul, N_sub, N_addneg, N_neg1, N_addm, N_le, N_lt, N_eq, N_in, N_cl, N_ne, N_ne', N_ltm, N_mlt, N_lem] <;> omega) ?_
      rw [r4]
      refine y_run (lo := 48) (hi := 57) (nl := 300) X5 ⟨by omega, by omega⟩ (Or.inr ⟨rfl, rfl⟩) 2048 q hr2 (by omega) (fun e he => ?_)
      intro s6 e6 s7 e7
      have he1 := y_run0 he c1 (by omega)
      refine y_182 (e := e) (k := 2) (w := -1) (q := q) (x := x) ?_ ?_ ?_ ?_ ?_ (fun z => by cases z) ?_ ?_ hr1 he1 he.2.1 hbl (Or.inr ⟨rfl, he⟩) hq
      · exact X5.fr (by rw [e7, g_nj (by omega), e6, g_nj (by omega)]) (fun j _ => by rw [e7, g_ne (by omega), e6, g_ne (by omega)])
      · rw [e7, e6]; exact (F5.si (p4n_t (by omega))).si (p4n_t (by omega))
      · rw [e7, g_nj (by omega), e6, g_eq]
      · rw [e7, g_eq]; rfl
      · rw [e7, g_nj (by omega), e6, g_nj (by omega)]; exact r4
      · rw [e7, g_nj (by omega), e6, g_nj (by omega)]; exact r7
      · rw [e7, g_nj (by omega), e6, g_nj (by omega)]; exact r8
    by_cases d1 : tp q < 97
    · exact bt (by simp (disch := omega) only [N_lit, N_add, N_mul, N_sub, N_addneg, N_neg1, N_addm, N_le, N_lt, N_eq, N_in, N_cl, N_ne, N_ne', N_ltm, N_mlt, N_lem] <;> omega) (sgn (by omega))
    refine bf (by simp (disch := omega) only [N_lit, N_add, N_mul, N_sub, N_addneg, N_neg1, N_addm, N_le, N_lt, N_eq, N_in, N_cl, N_ne, N_ne', N_ltm, N_mlt, N_lem] <;> omega) ?_
    by_cases d2 : 122 < tp q
    · exact bt (by simp (disch := omega) only [N_lit, N_add, N_mul, N_sub, N_addneg, N_neg1, N_addm, N_le, N_lt, N_eq, N_in, N_cl, N_ne, N_ne', N_ltm, N_mlt, N_lem] <;> omega) (sgn (by omega))
    refine bf (by simp (disch := omega) only [N_lit, N_add, N_mul, N_sub, N_addneg, N_neg1, N_addm, N_le, N_lt, N_eq, N_in, N_cl, N_ne, N_ne', N_ltm, N_mlt, N_lem] <;> omega) ?_
    refine y_run (lo := 97) (hi := 122) (nl := 300) X5 ⟨by omega, by omega⟩ (Or.inr ⟨rfl, rfl⟩) 2048 q hr2 (by omega) (fun e he => ?_)
    intro s6 e6
    have he1 := y_run0 he c1 (by omega)
    have X6 : yXT tp tn s6 := X5.fr (by rw [e6, g_nj (by omega)]) (fun j _ => by rw [e6, g_ne (by omega)])
    refine y_word X6 (q := q) (e := e) (by rw [e6, g_nj (by omega)]; exact r4) (by rw [e6, g_eq]) ⟨by omega, he.2.1⟩ (fun w hw => ?_)
    intro s7 e7 s8 e8
    refine y_182 (e := e) (k := 1) (w := w) (q := q) (x := x) ?_ ?_ ?_ ?_ ?_ (fun z => ?_) ?_ ?_ hr1 he1 he.2.1 hbl (Or.inl ⟨rfl, he, hw⟩) hq
    · exact X6.fr (by rw [e8, g_nj (by omega), e7, g_nj (by omega)]) (fun j _ => by rw [e8, g_ne (by omega), e7, g_ne (by omega)])
    · rw [e8, e7, e6]; exact ((F5.si (p4n_t (by omega))).si (p4n_t (by omega))).si (p4n_t (by omega))
    · rw [e8, g_nj (by omega), e7, g_nj (by omega), e6, g_eq]
    · rw [e8, g_eq]; rfl
    · rw [e8, g_nj (by omega), e7, g_nj (by omega), e6, g_nj (by omega)]; exact r4
    · rw [e8, g_nj (by omega), e7, g_eq]
    · rw [e8, g_nj (by omega), e7, g_nj (by omega), e6, g_nj (by omega)]; exact r7
    · rw [e8, g_nj (by omega), e7, g_nj (by omega), e6, g_nj (by omega)]; exact r8
  · refine bf (by simp (disch := omega) only [N_lit, N_add, N_mul, N_sub, N_addneg, N_neg1, N_addm, N_le, N_lt, N_eq, N_in, N_cl, N_ne, N_ne', N_ltm, N_mlt, N_lem] <;> omega) (fun s6 e6 s7 e7 => ?_)
    have hqt : q = tn := by omega
    refine hq (q, tn, 0, -1) s7 ⟨?_, ⟨hr1, hr2, Nat.le_refl _, hbl, Or.inl ⟨rfl, hqt, rfl⟩⟩, ?_, ?_, ?_, fun z => ?_, ?_, ?_⟩ ?_
    · exact X5.fr (by rw [e7, g_nj (by omega), e6, g_nj (by omega)]) (fun j _ => by rw [e7, g_ne (by omega), e6, g_ne (by omega)])
    · rw [e7, g_nj (by omega), e6, g_eq]
    · rw [e7, g_eq]; rfl
    · rw [e7, g_nj (by omega), e6, g_nj (by omega)]; exact r4
    · cases z
    · rw [e7, g_nj (by omega), e6, g_nj (by omega)]; exact r7
    · rw [e7, g_nj (by omega), e6, g_nj (by omega)]; exact r8
    · rw [e7, e6]; exact (F5.si (p4n_t (by omega))).si (p4n_t (by omega))
def ySo (t : yTok) : Bool := decide (t.2.2.1 = 1 ∨ t.2.2.1 = 2)
theorem y_next {tp : Nat → Nat} {tn b : Nat} {so : Bool} {t : yTok} {x : fz_s} (h : yPX tp tn b so t x) {Q : fz_s → Prop} (hq : ∀ t' x', yPX tp tn t.2.1 (ySo t) t' x' → yFC p4n x x' → Q x') : wp_X8_next x Q := by
  obtain ⟨a1, a2, a3, a4, a5, a6, a7, a8⟩ := h
  have hb := a2.2.2.1
  have hk : t.2.2.1 ≤ 4 := by
    rcases a2.2.2.2.2 with z | z | z | z | z <;> omega
  unfold wp_X8_next
  rw [a4]
  unfold ySo at hq
  by_cases c1 : t.2.2.1 = 1
  · rw [decide_eq_true (Or.inl c1)] at hq
    exact bt (by simp (disch := omega) only [N_lit, N_add, N_mul, N_sub, N_addneg, N_neg1, N_addm, N_le, N_lt, N_eq, N_in, N_cl, N_ne, N_ne', N_ltm, N_mlt, N_lem] <;> omega) (y_next21 a1 a3 hb a7 a8 hq)
  refine bf (by simp (disch := omega) only [N_lit, N_add, N_mul, N_sub, N_addneg, N_neg1, N_addm, N_le, N_lt, N_eq, N_in, N_cl, N_ne, N_ne', N_ltm, N_mlt, N_lem] <;> omega) ?_
  by_cases c2 : t.2.2.1 = 2
  · rw [decide_eq_true (Or.inr c2)] at hq
    exact nf (by simp (disch := omega) only [N_lit, N_add, N_mul, N_sub, N_addneg, N_neg1, N_addm, N_le, N_lt, N_eq, N_in, N_cl, N_ne, N_ne', N_ltm, N_mlt, N_lem] <;> omega) (y_next21 a1 a3 hb a7 a8 hq)
  · rw [decide_eq_false (fun z => by omega)] at hq
    exact nt (by simp (disch := omega) only [N_lit, N_add, N_mul, N_sub, N_addneg, N_neg1, N_addm, N_le, N_lt, N_eq, N_in, N_cl, N_ne, N_ne', N_ltm, N_mlt, N_lem] <;> omega) (y_next21 a1 a3 hb a7 a8 hq)
theorem y_open {tp : Nat → Nat} {tn : Nat} {x : fz_s} (hn : tn ≤ 1600) (hB : ∀ j, tp j < 256) (ht : ∀ j, j < 1600 → x.1 3 j = nI (tp j)) {Q : fz_s → Prop} (hq : ∀ t x', yPX tp tn 0 false t x' → yFC p4 x x' → Q x') : wp_X8_open (nI tn) x Q := by
  unfold wp_X8_open
  intro s1 e1 s2 e2 s3 e3 s4 e4 s5 e5
  have z1 : (if nI 1600 < nI tn then nI 1600 else nI tn) = nI tn := if_neg (by simp (disch := omega) only [N_lit, N_add, N_mul, N_sub, N_addneg, N_neg1, N_addm, N_le, N_lt, N_eq, N_in, N_cl, N_ne, N_ne', N_ltm, N_mlt, N_lem] <;> omega)
  have z2 : (if 0 < nI tn then nI tn else 0) = nI tn := by
    split
    · rfl
    · rename_i c
      have c' : ¬ 0 < tn := fun z => c (by simp (disch := omega) only [N_lit, N_add, N_mul, N_sub, N_addneg, N_neg1, N_addm, N_le, N_lt, N_eq, N_in, N_cl, N_ne, N_ne', N_ltm, N_mlt, N_lem] <;> omega)
      rw [show tn = 0 by omega]
      rfl
  rw [z1, z2] at e1
  have F5 : yFC p4 x s5 := by
    rw [e5, e4, e3, e2, e1]
    exact ((((yFC.rf.si (p4_t rfl)).si (p4_t rfl)).si (p4_t rfl)).si (p4_t rfl)).si (p4_t rfl)
  have X5 : yXT tp tn s5 := ⟨hn, hB, by rw [e5, g_nj (by omega), e4, g_nj (by omega), e3, g_nj (by omega), e2, g_nj (by omega), e1, g_eq], fun j hj => by rw [e5, g_ne (by omega), e4, g_ne (by omega), e3, g_ne (by omega), e2, g_ne (by omega), e1, g_ne (by omega)]; exact ht j hj⟩
  have r2 : s5.1 4 2 = nI 0 := by rw [e5, g_nj (by omega), e4, g_nj (by omega), e3, g_nj (by omega), e2, g_eq]; rfl
  have r3 : s5.1 4 3 = nI 3 := by rw [e5, g_nj (by omega), e4, g_nj (by omega), e3, g_eq]; rfl
  have r7 : s5.1 4 7 = 0 := by rw [e5, g_nj (by omega), e4, g_eq]
  have r8 : s5.1 4 8 = -1 := by rw [e5, g_eq]
  unfold wp_X8_next
  rw [r3]
  refine bf (by simp (disch := omega) only [N_lit, N_add, N_mul, N_sub, N_addneg, N_neg1, N_addm, N_le, N_lt, N_eq, N_in, N_cl, N_ne, N_ne', N_ltm, N_mlt, N_lem] <;> omega) (nt (by simp (disch := omega) only [N_lit, N_add, N_mul, N_sub, N_addneg, N_neg1, N_addm, N_le, N_lt, N_eq, N_in, N_cl, N_ne, N_ne', N_ltm, N_mlt, N_lem] <;> omega) ?_)
  exact y_next21 X5 r2 (by omega) r7 r8 (fun t x' h1 h2 => hq t x' h1 (F5.tr (y_n4 h2)))
theorem y_isSign {tp : Nat → Nat} {tn b : Nat} {so : Bool} {t : yTok} {x : fz_s} (h : yPX tp tn b so t x) (c : Nat) (hc : c < 256) {Q : Bool → fz_s → Prop} (hT : ySg tp t c → Q true x) (hN : ¬ ySg tp t c → Q false x) : wp_X8_isSign (nI c) x Q := by
  obtain ⟨a1, a2, a3, a4, a5, a6, a7, a8⟩ := h
  have hn := a1.1
  have hk := a2.2.2.2.2
  unfold wp_X8_isSign
  rw [a4, a5]
  unfold ySg at hT hN
  by_cases c1 : t.2.2.1 = 3
  · have hq : t.1 < tn := by omega
    have hB := a1.2.1 t.1
    refine nf (by simp (disch := omega) only [N_lit, N_add, N_mul, N_sub, N_addneg, N_neg1, N_addm, N_le, N_lt, N_eq, N_in, N_cl, N_ne, N_ne', N_ltm, N_mlt, N_lem] <;> omega) ⟨N_in ⟨by omega, by omega⟩, ?_⟩
    rw [N_cl (by omega), a1.2.2.2 _ (by omega)]
    by_cases c2 : tp t.1 = c
    · exact nf (by simp (disch := omega) only [N_lit, N_add, N_mul, N_sub, N_addneg, N_neg1, N_addm, N_le, N_lt, N_eq, N_in, N_cl, N_ne, N_ne', N_ltm, N_mlt, N_lem] <;> omega) (hT ⟨c1, c2⟩)
    · exact nt (by simp (disch := omega) only [N_lit, N_add, N_mul, N_sub, N_addneg, N_neg1, N_addm, N_le, N_lt, N_eq, N_in, N_cl, N_ne, N_ne', N_ltm, N_mlt, N_lem] <;> omega) (hN (fun z => c2 z.2))
  · exact nt (by simp (disch := omega) only [N_lit, N_add, N_mul, N_sub, N_addneg, N_neg1, N_addm, N_le, N_lt, N_eq, N_in, N_cl, N_ne, N_ne', N_ltm, N_mlt, N_lem] <;> omega) (hN (fun z => c1 z.1))
theorem y_isWord {tp : Nat → Nat} {tn b : Nat} {so : Bool} {t : yTok} {x : fz_s} (h : yPX tp tn b so t x) (i : Nat) (hi : i < 32) {Q : Bool → fz_s → Prop} (hT : yWo t i → Q true x) (hN : ¬ yWo t i → Q false x) : wp_X8_isWord (nI i) x Q := by
  obtain ⟨a1, a2, a3, a4, a5, a6, a7, a8⟩ := h
  have hk := a2.2.2.2.2
  unfold wp_X8_isWord
  rw [a4]
  unfold yWo at hT hN
  by_cases c1 : t.2.2.1 = 1
  · have hw : yWN tp t.1 t.2.1 t.2.2.2 := by
      rcases hk with z | z | z | z | z
      · omega
      · exact z.2.2.2.2
      · omega
      · omega
      · omega
    have hl := hw.lo
    refine nf (by simp (disch := omega) only [N_lit, N_add, N_mul, N_sub, N_addneg, N_neg1, N_addm, N_le, N_lt, N_eq, N_in, N_cl, N_ne, N_ne', N_ltm, N_mlt, N_lem] <;> omega) ?_
    rw [a6 c1]
    have ew : (iI t.2.2.2 = nI i) ↔ t.2.2.2 = (i : Int) := by
      rw [i_nI, i_eq ⟨⟨by omega, by omega⟩, by omega, by omega⟩]
    by_cases c2 : t.2.2.2 = (i : Int)
    · exact nf (ew.mpr c2) (hT ⟨c1, c2⟩)
    · exact nt (fun z => c2 (ew.mp z)) (hN (fun z => c2 z.2))
  · exact nt (by simp (disch := omega) only [N_lit, N_add, N_mul, N_sub, N_addneg, N_neg1, N_addm, N_le, N_lt, N_eq, N_in, N_cl, N_ne, N_ne', N_ltm, N_mlt, N_lem] <;> omega) (hN (fun z => c1 z.1))
theorem y_fail {x : fz_s} {kd pl : Nat} (hk : 1 ≤ kd ∧ kd ≤ 5) (hp : pl < 2000) {Q : Bool → fz_s → Prop} (hq : ∀ x', yFX kd pl x' → yFC p4 x x' → Q false x') : wp_X8_fail (nI kd) (nI pl) x Q := by
  unfold wp_X8_fail
  intro s1 e1 s2 e2
  refine hq s2 ⟨hk, hp, ?_, ?_⟩ ?_
  · rw [e2, g_nj (by omega), e1, g_eq]
  · rw [e2, g_eq]
  · rw [e2, e1]; exact (yFC.rf.si (p4_t rfl)).si (p4_t rfl)
theorem y_failHere {tp : Nat → Nat} {tn b : Nat} {so : Bool} {t : yTok} {x : fz_s} (h : yPX tp tn b so t x) {Q : Bool → fz_s → Prop} (hq : ∀ x', yFX 1 t.1 x' → yFC p4 x x' → Q false x') : wp_X8_failHere x Q := by
  obtain ⟨a1, a2, a3, a4, a5, a6, a7, a8⟩ := h
  have hn := a1.1
  have ht := a2.2.1
  unfold wp_X8_failHere
  rw [a5]
  exact y_fail (kd := 1) ⟨by omega, by omega⟩ (by omega) hq
theorem y_takeSign {tp : Nat → Nat} {tn b : Nat} {so : Bool} {t : yTok} {x : fz_s} (h : yPX tp tn b so t x) (c : Nat) (hc : c < 256) {Q : Bool → fz_s → Prop} (hT : ySg tp t c → ∀ t' x', yPX tp tn t.2.1 false t' x' → yFC p4n x x' → Q true x') (hN : ¬ ySg tp t c → ∀ x', yFX 1 t.1 x' → yFC p4 x x' → Q false x') : wp_X8_takeSign (nI c) x Q := by
  unfold wp_X8_takeSign
  refine y_isSign h c hc (fun hs => b1 (y_next h (fun t' x' h1 h2 => hT hs t' x' ?_ h2))) (fun hs => b4 (y_failHere h (hN hs)))
  have e : ySo t = false := decide_eq_false (fun z => by have := hs.1; omega)
  rw [e] at h1
  exact h1
theorem y_takeWord {tp : Nat → Nat} {tn b : Nat} {so : Bool} {t : yTok} {x : fz_s} (h : yPX tp tn b so t x) (i : Nat) (hi : i < 32) {Q : Bool → fz_s → Prop} (hT : yWo t i → ∀ t' x', yPX tp tn t.2.1 true t' x' → yFC p4n x x' → Q true x') (hN : ¬ yWo t i → ∀ x', yFX 1 t.1 x' → yFC p4 x x' → Q false x') : wp_X8_takeWord (nI i) x Q := by
  unfold wp_X8_takeWord
  refine y_isWord h i hi (fun hs => b1 (y_next h (fun t' x' h1 h2 => hT hs t' x' ?_ h2))) (fun hs => b4 (y_failHere h (hN hs)))
  have e : ySo t = true := decide_eq_true (Or.inl hs.1)
  rw [e] at h1
  exact h1
def yval (tp : Nat → Nat) (q : Nat) : Nat → Nat
  | 0 => 0
  | n + 1 => 10 * yval tp q n + (tp (q + n) - 48)
theorem y_val4 {tp : Nat → Nat} {q : Nat} : ∀ {n : Nat}, n ≤ 4 → (∀ j, j < n → tp (q + j) ≤ 57) → yval tp q n < 10 ^ n
  | 0, _, _ => Nat.succ_pos _
  | n + 1, h, hd => by
    have h1 := y_val4 (tp := tp) (q := q) (n := n) (by omega) (fun j hj => hd j (by omega))
    have h2 := hd n (by omega)
    show 10 * yval tp q n + (tp (q + n) - 48) < 10 ^ (n + 1)
    rw [Nat.pow_succ]
    omega
theorem y_val9 {tp : Nat → Nat} {q n : Nat} (h : n ≤ 4) (hd : ∀ j, j < n → tp (q + j) ≤ 57) : yval tp q n ≤ 9999 := by
  have h1 := y_val4 h hd
  have h2 : (10 : Nat) ^ n ≤ 10 ^ 4 := Nat.pow_le_pow_right (by omega) h
  have h3 : (10 : Nat) ^ 4 = 10000 := rfl
  omega
/-- the number stands there: it may be taken up to most; else the fault's kind, place -/
def yNu (tp : Nat → Nat) (t : yTok) (most : Nat) : Prop := t.2.2.1 = 2 ∧ t.2.1 ≤ t.1 + 4 ∧ yval tp t.1 (t.2.1 - t.1) ≤ most
def yNk (t : yTok) : Nat := if t.2.2.1 = 2 ∧ t.2.1 ≤ t.1 + 4 then 2 else 1
def yNp (t : yTok) : Nat := if t.2.2.1 = 2 ∧ ¬ t.2.1 ≤ t.1 + 4 then t.1 + 4 else t.1
theorem y_numlp {tp : Nat → Nat} {tn b most : Nat} {so : Bool} {t : yTok} (hk : t.2.2.1 = 2) (h4 : t.2.1 ≤ t.1 + 4) (hm : most < 100000) {x0 : fz_s} {Q : Bool → fz_s → Prop} (hT : yNu tp t most → ∀ t' x', yPX tp tn t.2.1 true t' x' → yFC p4 x0 x' → x'.1 4 6 = nI (yval tp t.1 (t.2.1 - t.1)) → Q true x') (hN : ¬ yNu tp t most → ∀ x', yFX 2 t.1 x' → yFC p4 x0 x' → Q false x') : ∀ (n i : Nat) (x : fz_s), t.1 + i ≤ t.2.1 → t.2.1 < n + t.1 + i → yPX tp tn b so t x → yFC p4 x0 x → x.1 4 6 = nI (yval tp t.1 i) → lp_X8_takeNumber_48 Q n (nI most) (nI (t.1 + i)) x
  | 0, i, x, h1, h2, _, _, _ => absurd h2 (by omega)
  | n + 1, i, x, h1, h2, h, hF, h6 => by
    obtain ⟨a1, a2, a3, a4, a5, a6, a7, a8⟩ := id h
    have hn := a1.1
    have ht := a2.2.2.1
    have hd : ∀ j, t.1 ≤ j → j < t.2.1 → 48 ≤ tp j ∧ tp j ≤ 57 := by
      rcases a2.2.2.2.2 with z | z | z | z | z
      · omega
      · omega
      · intro j h1 h2
        have := z.2.2.1.2.2.1 j h1 h2
        have := a1.2.1 j
        omega
      · omega
      · omega
    have hv : yval tp t.1 i ≤ 9999 := y_val9 (by omega) (fun j hj => (hd _ (by omega) (by omega)).2)
    show nd_X8_takeNumber_48 (lp_X8_takeNumber_48 Q n) Q (nI most) (nI (t.1 + i)) x
    unfold nd_X8_takeNumber_48
    rw [a3, h6]
    by_cases c1 : t.2.1 ≤ t.1 + i
    · have ei : t.2.1 - t.1 = i := by omega
      refine bt (by simp (disch := omega) only [N_lit, N_add, N_mul, N_sub, N_addneg, N_neg1, N_addm, N_le, N_lt, N_eq, N_in, N_cl, N_ne, N_ne', N_ltm, N_mlt, N_lem] <;> omega) ?_
      unfold yNu at hT hN
      rw [ei] at hT hN
      by_cases c2 : yval tp t.1 i ≤ most
      · refine bt (by simp (disch := omega) only [N_lit, N_add, N_mul, N_sub, N_addneg, N_neg1, N_addm, N_le, N_lt, N_eq, N_in, N_cl, N_ne, N_ne', N_ltm, N_mlt, N_lem] <;> omega) (y_next h (fun t' x' h1 h2 => hT ⟨hk, h4, c2⟩ t' x' ?_ (hF.tr (y_n4 h2)) ?_))
        · have e : ySo t = true := decide_eq_true (Or.inr hk)
          rw [e] at h1
          exact h1
        · rw [h2.1.i _ _ (p4n_f (by omega))]; exact h6
      · refine bf (by simp (disch := omega) only [N_lit, N_add, N_mul, N_sub, N_addneg, N_neg1, N_addm, N_le, N_lt, N_eq, N_in, N_cl, N_ne, N_ne', N_ltm, N_mlt, N_lem] <;> omega) ?_
        rw [a5]
        exact y_fail (kd := 2) ⟨by omega, by omega⟩ (by omega) (fun x' h1 h2 => hN (fun z => c2 z.2.2) x' h1 (hF.tr h2))
    · have hB := hd (t.1 + i) (by omega) (by omega)
      refine bf (by simp (disch := omega) only [N_lit, N_add, N_mul, N_sub, N_addneg, N_neg1, N_addm, N_le, N_lt, N_eq, N_in, N_cl, N_ne, N_ne', N_ltm, N_mlt, N_lem] <;> omega) ⟨N_in ⟨by omega, by omega⟩, fun s5 e5 x6 e6 => ?_⟩
      rw [N_cl (by omega), a1.2.2.2 _ (by omega)] at e5
      have e7 : nI (yval tp t.1 i) * 10 + nI (tp (t.1 + i)) - 48 = nI (yval tp t.1 (i + 1)) := by
        show nI (yval tp t.1 i) * nI 10 + nI (tp (t.1 + i)) - nI 48 = nI (10 * yval tp t.1 i + (tp (t.1 + i) - 48))
        rw [N_mul, N_add, N_sub (by omega)]
        congr 1
        omega
      rw [e7] at e5
      rw [e6, nI_1]
      refine y_numlp (b := b) (so := so) hk h4 hm hT hN n (i + 1) s5 (by omega) (by omega) ?_ ?_ ?_
      · exact h.fr (fun j hj => by rw [e5, g_nj hj]) (fun j _ => by rw [e5, g_ne (by omega)])
      · rw [e5]; exact hF.si (p4_t rfl)
      · rw [e5, g_eq]
theorem y_takeNumber {tp : Nat → Nat} {tn b most : Nat} {so : Bool} {t : yTok} {x : fz_s} (h : yPX tp tn b so t x) (hm : most < 100000) {Q : Bool → fz_s → Prop} (hT : yNu tp t most → ∀ t' x', yPX tp tn t.2.1 true t' x' → yFC p4 x x' → x'.1 4 6 = nI (yval tp t.1 (t.2.1 - t.1)) → Q true x') (hN : ¬ yNu tp t most → ∀ x', yFX (yNk t) (yNp t) x' → yFC p4 x x' → Q false x') : wp_X8_takeNumber (nI most) x Q := by
  obtain ⟨a1, a2, a3, a4, a5, a6, a7, a8⟩ := id h
  have hn := a1.1
  have ht := a2.2.2.1
  have hq := a2.2.1
  have hk4 := a2.2.2.2.2
  unfold wp_X8_takeNumber
  rw [a4, a3, a5]
  unfold yNk yNp at hN
  by_cases c1 : t.2.2.1 = 2
  · have hlt : t.1 < t.2.1 := by omega
    refine bt (by simp (disch := omega) only [N_lit, N_add, N_mul, N_sub, N_addneg, N_neg1, N_addm, N_le, N_lt, N_eq, N_in, N_cl, N_ne, N_ne', N_ltm, N_mlt, N_lem] <;> omega) ?_
    rw [N_sub (by omega)]
    by_cases c2 : t.2.1 ≤ t.1 + 4
    · rw [if_pos ⟨c1, c2⟩, if_neg (fun z => z.2 c2)] at hN
      refine bt (by simp (disch := omega) only [N_lit, N_add, N_mul, N_sub, N_addneg, N_neg1, N_addm, N_le, N_lt, N_eq, N_in, N_cl, N_ne, N_ne', N_ltm, N_mlt, N_lem] <;> omega) (fun s1 e1 x2 e2 => ?_)
      have e3 : s1.1 4 4 = nI (t.1 + 0) := by rw [e1, g_nj (by omega)]; exact a5
      rw [e2, e3]
      refine y_numlp (b := b) (so := so) c1 c2 hm hT hN 2048 0 s1 (by omega) (by omega) ?_ ?_ ?_
      · exact h.fr (fun j hj => by rw [e1, g_nj hj]) (fun j _ => by rw [e1, g_ne (by omega)])
      · rw [e1]; exact yFC.rf.si (p4_t rfl)
      · rw [e1, g_eq]; rfl
    · rw [if_neg (fun z => c2 z.2), if_pos ⟨c1, c2⟩] at hN
      refine bf (by simp (disch := omega) only [N_lit, N_add, N_mul, N_sub, N_addneg, N_neg1, N_addm, N_le, N_lt, N_eq, N_in, N_cl, N_ne, N_ne', N_ltm, N_mlt, N_lem] <;> omega) ?_
      rw [show nI t.1 + 4 = nI (t.1 + 4) from N_add t.1 4]
      exact y_fail (kd := 1) ⟨by omega, by omega⟩ (by omega) (hN (fun z => c2 z.2.1))
  · rw [if_neg (fun z => c1 z.1), if_neg (fun z => c1 z.1)] at hN
    exact bf (by simp (disch := omega) only [N_lit, N_add, N_mul, N_sub, N_addneg, N_neg1, N_addm, N_le, N_lt, N_eq, N_in, N_cl, N_ne, N_ne', N_ltm, N_mlt, N_lem] <;> omega) (y_failHere h (hN (fun z => c1 z.1)))
/-- a name may be taken there; else the fault's place -/
def yNm (t : yTok) : Prop := t.2.2.1 = 1 ∧ ¬ (0 ≤ t.2.2.2 ∧ t.2.2.2 < 26) ∧ t.2.1 ≤ t.1 + 6
def yNq (t : yTok) : Nat := if t.2.2.1 = 1 ∧ ¬ (0 ≤ t.2.2.2 ∧ t.2.2.2 < 26) ∧ ¬ t.2.1 ≤ t.1 + 6 then t.1 + 6 else t.1
theorem y_atName {tp : Nat → Nat} {tn b : Nat} {so : Bool} {t : yTok} {x : fz_s} (h : yPX tp tn b so t x) {Q : Bool → fz_s → Prop} (hT : yNm t → Q true x) (hN : ¬ yNm t → ∀ x', yFX 1 (yNq t) x' → yFC p4 x x' → Q false x') : wp_X8_atName x Q := by
  obtain ⟨a1, a2, a3, a4, a5, a6, a7, a8⟩ := id h
  have hn := a1.1
  have hk4 := a2.2.2.2.2
  have ht := a2.2.1
  have ht2 := a2.2.2.1
  unfold yNm at hT hN
  unfold yNq at hN
  have no : (¬ (t.2.2.1 = 1 ∧ ¬ (0 ≤ t.2.2.2 ∧ t.2.2.2 < 26))) → nd_X8_atName_24 Q x := by
    intro hc
    rw [if_neg (fun z => hc ⟨z.1, z.2.1⟩)] at hN
    exact y_failHere h (hN (fun z => hc ⟨z.1, z.2.1⟩))
  unfold wp_X8_atName
  rw [a4]
  by_cases c1 : t.2.2.1 = 1
  · have hw : yWN tp t.1 t.2.1 t.2.2.2 ∧ t.1 < t.2.1 := by
      rcases hk4 with z | z | z | z | z
      · omega
      · exact ⟨z.2.2.2.2, z.2.1⟩
      · omega
      · omega
      · omega
    have hl := hw.1.lo
    refine nf (by simp (disch := omega) only [N_lit, N_add, N_mul, N_sub, N_addneg, N_neg1, N_addm, N_le, N_lt, N_eq, N_in, N_cl, N_ne, N_ne', N_ltm, N_mlt, N_lem] <;> omega) ?_
    rw [a6 c1]
    have yes : ¬ (0 ≤ t.2.2.2 ∧ t.2.2.2 < 26) → nd_X8_atName_29 Q x := by
      intro hc
      unfold nd_X8_atName_29
      rw [a3, a5, N_sub (by omega)]
      by_cases c2 : t.2.1 ≤ t.1 + 6
      · exact bt (by simp (disch := omega) only [N_lit, N_add, N_mul, N_sub, N_addneg, N_neg1, N_addm, N_le, N_lt, N_eq, N_in, N_cl, N_ne, N_ne', N_ltm, N_mlt, N_lem] <;> omega) (hT ⟨c1, hc, c2⟩)
      · rw [if_pos ⟨c1, hc, c2⟩] at hN
        refine bf (by simp (disch := omega) only [N_lit, N_add, N_mul, N_sub, N_addneg, N_neg1, N_addm, N_le, N_lt, N_eq, N_in, N_cl, N_ne, N_ne', N_ltm, N_mlt, N_lem] <;> omega) ?_
        rw [show nI t.1 + 6 = nI (t.1 + 6) from N_add t.1 6]
        exact y_fail (kd := 1) ⟨by omega, by omega⟩ (by omega) (fun x' h1 h2 => b3 (hN (fun z => c2 z.2.2) x' h1 h2))
    have e0 : (iI t.2.2.2 < 0) ↔ t.2.2.2 < 0 := i_lt (b := 0) ⟨⟨by omega, by omega⟩, by omega, by omega⟩
    have e1 : (26 ≤ iI t.2.2.2) ↔ 26 ≤ t.2.2.2 := i_le (a := 26) ⟨⟨by omega, by omega⟩, by omega, by omega⟩
    by_cases c2 : t.2.2.2 < 0
    · exact bt (e0.mpr c2) (yes (by omega))
    refine bf (fun z => c2 (e0.mp z)) ?_
    by_cases c3 : 26 ≤ t.2.2.2
    · exact bt (e1.mpr c3) (yes (by omega))
    · exact bf (fun z => c3 (e1.mp z)) (no (fun z => z.2 ⟨by omega, by omega⟩))
  · exact nt (by simp (disch := omega) only [N_lit, N_add, N_mul, N_sub, N_addneg, N_neg1, N_addm, N_le, N_lt, N_eq, N_in, N_cl, N_ne, N_ne', N_ltm, N_mlt, N_lem] <;> omega) (no (fun z => c1 z.1))

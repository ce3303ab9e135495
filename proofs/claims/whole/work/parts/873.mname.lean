/-! THE MODEL'S NAMES -/
theorem y_own {tp : Nat → Nat} {tn b : Nat} {so : Bool} {t : yTok} {a : Nat} {m : fz_s} (h : yPM tp tn b so t a m) {Q : Bool → fz_s → Prop} (hT : t.2.2.1 = 1 ∧ (0 ≤ t.2.2.2 ∧ t.2.2.2 < 26) → ∀ m', yPM tp tn b so t t.1 m' → Fr pA m m' → Q true m') (hN : ¬ (t.2.2.1 = 1 ∧ (0 ≤ t.2.2.2 ∧ t.2.2.2 < 26)) → ∀ m', yPM tp tn b so t t.1 m' → Fr pA m m' → Q false m') : wp_X12_isOwnHere m Q := by
  have T0 : ∀ i, i < 26 → yWo t i → ∀ m', yPM tp tn b so t t.1 m' → Fr pA m m' → Q true m' := fun i hi hw => hT ⟨hw.1, by have := hw.2; omega⟩
  have T1 : ∀ i, i < 26 → yWo t i → ∀ m', yPM tp tn b so t t.1 m' → Fr pA m m' → nd_X12_isOwnHere_299 Q true m' := fun i hi hw m' h' hF => b1 (T0 i hi hw m' h' hF)
  have T2 : ∀ i, i < 26 → yWo t i → ∀ m', yPM tp tn b so t t.1 m' → Fr pA m m' → nd_X12_isOwnHere_223 Q true m' := fun i hi hw m' h' hF => b1 (T1 i hi hw m' h' hF)
  have T3 : ∀ i, i < 26 → yWo t i → ∀ m', yPM tp tn b so t t.1 m' → Fr pA m m' → nd_X12_isOwnHere_147 Q true m' := fun i hi hw m' h' hF => b1 (T2 i hi hw m' h' hF)
  have T4 : ∀ i, i < 26 → yWo t i → ∀ m', yPM tp tn b so t t.1 m' → Fr pA m m' → nd_X12_isOwnHere_71 Q true m' := fun i hi hw m' h' hF => b1 (T3 i hi hw m' h' hF)
  unfold wp_X12_isOwnHere
  refine y_isHere h 0 (by decide +kernel) (fun hs m0 h0 g0 => b1 (T4 0 (by omega) hs m0 h0 g0)) (fun n0 m0 h0 g0 => b4 ?_)
  have F0 : Fr pA m m0 := g0
  refine y_isHere h0 1 (by decide +kernel) (fun hs m1 h1 g1 => b1 (T4 1 (by omega) hs m1 h1 (F0.tr g1))) (fun n1 m1 h1 g1 => b4 ?_)
  have F1 : Fr pA m m1 := (F0.tr g1)
  refine y_isHere h1 16 (by decide +kernel) (fun hs m2 h2 g2 => b1 (T4 16 (by omega) hs m2 h2 (F1.tr g2))) (fun n2 m2 h2 g2 => b4 ?_)
  have F2 : Fr pA m m2 := (F1.tr g2)
  refine y_isHere h2 17 (by decide +kernel) (fun hs m3 h3 g3 => b1 (T4 17 (by omega) hs m3 h3 (F2.tr g3))) (fun n3 m3 h3 g3 => b4 ?_)
  have F3 : Fr pA m m3 := (F2.tr g3)
  refine y_isHere h3 18 (by decide +kernel) (fun hs m4 h4 g4 => b1 (T4 18 (by omega) hs m4 h4 (F3.tr g4))) (fun n4 m4 h4 g4 => b4 ?_)
  have F4 : Fr pA m m4 := (F3.tr g4)
  refine y_isHere h4 3 (by decide +kernel) (fun hs m5 h5 g5 => b2 (T4 3 (by omega) hs m5 h5 (F4.tr g5))) (fun n5 m5 h5 g5 => b3 ?_)
  have F5 : Fr pA m m5 := (F4.tr g5)
  unfold nd_X12_isOwnHere_71
  refine b4 ?_
  refine y_isHere h5 4 (by decide +kernel) (fun hs m6 h6 g6 => b1 (T3 4 (by omega) hs m6 h6 (F5.tr g6))) (fun n6 m6 h6 g6 => b4 ?_)
  have F6 : Fr pA m m6 := (F5.tr g6)
  refine y_isHere h6 5 (by decide +kernel) (fun hs m7 h7 g7 => b1 (T3 5 (by omega) hs m7 h7 (F6.tr g7))) (fun n7 m7 h7 g7 => b4 ?_)
  have F7 : Fr pA m m7 := (F6.tr g7)
  refine y_isHere h7 11 (by decide +kernel) (fun hs m8 h8 g8 => b1 (T3 11 (by omega) hs m8 h8 (F7.tr g8))) (fun n8 m8 h8 g8 => b4 ?_)
  have F8 : Fr pA m m8 := (F7.tr g8)
  refine y_isHere h8 12 (by decide +kernel) (fun hs m9 h9 g9 => b1 (T3 12 (by omega) hs m9 h9 (F8.tr g9))) (fun n9 m9 h9 g9 => b4 ?_)
  have F9 : Fr pA m m9 := (F8.tr g9)
  refine y_isHere h9 13 (by decide +kernel) (fun hs m10 h10 g10 => b1 (T3 13 (by omega) hs m10 h10 (F9.tr g10))) (fun n10 m10 h10 g10 => b4 ?_)
  have F10 : Fr pA m m10 := (F9.tr g10)
  refine y_isHere h10 14 (by decide +kernel) (fun hs m11 h11 g11 => b2 (T3 14 (by omega) hs m11 h11 (F10.tr g11))) (fun n11 m11 h11 g11 => b3 ?_)
  have F11 : Fr pA m m11 := (F10.tr g11)
  unfold nd_X12_isOwnHere_147
  refine b4 ?_
  refine y_isHere h11 15 (by decide +kernel) (fun hs m12 h12 g12 => b1 (T2 15 (by omega) hs m12 h12 (F11.tr g12))) (fun n12 m12 h12 g12 => b4 ?_)
  have F12 : Fr pA m m12 := (F11.tr g12)
  refine y_isHere h12 19 (by decide +kernel) (fun hs m13 h13 g13 => b1 (T2 19 (by omega) hs m13 h13 (F12.tr g13))) (fun n13 m13 h13 g13 => b4 ?_)
  have F13 : Fr pA m m13 := (F12.tr g13)
  refine y_isHere h13 2 (by decide +kernel) (fun hs m14 h14 g14 => b1 (T2 2 (by omega) hs m14 h14 (F13.tr g14))) (fun n14 m14 h14 g14 => b4 ?_)
  have F14 : Fr pA m m14 := (F13.tr g14)
  refine y_isHere h14 6 (by decide +kernel) (fun hs m15 h15 g15 => b1 (T2 6 (by omega) hs m15 h15 (F14.tr g15))) (fun n15 m15 h15 g15 => b4 ?_)
  have F15 : Fr pA m m15 := (F14.tr g15)
  refine y_isHere h15 7 (by decide +kernel) (fun hs m16 h16 g16 => b1 (T2 7 (by omega) hs m16 h16 (F15.tr g16))) (fun n16 m16 h16 g16 => b4 ?_)
  have F16 : Fr pA m m16 := (F15.tr g16)
  refine y_isHere h16 8 (by decide +kernel) (fun hs m17 h17 g17 => b2 (T2 8 (by omega) hs m17 h17 (F16.tr g17))) (fun n17 m17 h17 g17 => b3 ?_)
  have F17 : Fr pA m m17 := (F16.tr g17)
  unfold nd_X12_isOwnHere_223
  refine b4 ?_
  refine y_isHere h17 9 (by decide +kernel) (fun hs m18 h18 g18 => b1 (T1 9 (by omega) hs m18 h18 (F17.tr g18))) (fun n18 m18 h18 g18 => b4 ?_)
  have F18 : Fr pA m m18 := (F17.tr g18)
  refine y_isHere h18 10 (by decide +kernel) (fun hs m19 h19 g19 => b1 (T1 10 (by omega) hs m19 h19 (F18.tr g19))) (fun n19 m19 h19 g19 => b4 ?_)
  have F19 : Fr pA m m19 := (F18.tr g19)
  refine y_isHere h19 20 (by decide +kernel) (fun hs m20 h20 g20 => b1 (T1 20 (by omega) hs m20 h20 (F19.tr g20))) (fun n20 m20 h20 g20 => b4 ?_)
  have F20 : Fr pA m m20 := (F19.tr g20)
  refine y_isHere h20 21 (by decide +kernel) (fun hs m21 h21 g21 => b1 (T1 21 (by omega) hs m21 h21 (F20.tr g21))) (fun n21 m21 h21 g21 => b4 ?_)
  have F21 : Fr pA m m21 := (F20.tr g21)
  refine y_isHere h21 22 (by decide +kernel) (fun hs m22 h22 g22 => b1 (T1 22 (by omega) hs m22 h22 (F21.tr g22))) (fun n22 m22 h22 g22 => b4 ?_)
  have F22 : Fr pA m m22 := (F21.tr g22)
  refine y_isHere h22 23 (by decide +kernel) (fun hs m23 h23 g23 => b2 (T1 23 (by omega) hs m23 h23 (F22.tr g23))) (fun n23 m23 h23 g23 => b3 ?_)
  have F23 : Fr pA m m23 := (F22.tr g23)
  unfold nd_X12_isOwnHere_299
  refine b4 ?_
  refine y_isHere h23 24 (by decide +kernel) (fun hs m24 h24 g24 => b1 (T0 24 (by omega) hs m24 h24 (F23.tr g24))) (fun n24 m24 h24 g24 => b4 ?_)
  have F24 : Fr pA m m24 := (F23.tr g24)
  refine y_isHere h24 25 (by decide +kernel) (fun hs m25 h25 g25 => b2 (T0 25 (by omega) hs m25 h25 (F24.tr g25))) (fun n25 m25 h25 g25 => b3 ?_)
  have F25 : Fr pA m m25 := (F24.tr g25)
  refine hN (fun z => ?_) m25 h25 F25
  have hw := (h.2.1.wn z.1).lo
  have w0 : t.2.2.2 ≠ 0 := fun y => n0 ⟨z.1, y⟩
  have w1 : t.2.2.2 ≠ 1 := fun y => n1 ⟨z.1, y⟩
  have w2 : t.2.2.2 ≠ 16 := fun y => n2 ⟨z.1, y⟩
  have w3 : t.2.2.2 ≠ 17 := fun y => n3 ⟨z.1, y⟩
  have w4 : t.2.2.2 ≠ 18 := fun y => n4 ⟨z.1, y⟩
  have w5 : t.2.2.2 ≠ 3 := fun y => n5 ⟨z.1, y⟩
  have w6 : t.2.2.2 ≠ 4 := fun y => n6 ⟨z.1, y⟩
  have w7 : t.2.2.2 ≠ 5 := fun y => n7 ⟨z.1, y⟩
  have w8 : t.2.2.2 ≠ 11 := fun y => n8 ⟨z.1, y⟩
  have w9 : t.2.2.2 ≠ 12 := fun y => n9 ⟨z.1, y⟩
  have w10 : t.2.2.2 ≠ 13 := fun y => n10 ⟨z.1, y⟩
  have w11 : t.2.2.2 ≠ 14 := fun y => n11 ⟨z.1, y⟩
  have w12 : t.2.2.2 ≠ 15 := fun y => n12 ⟨z.1, y⟩
  have w13 : t.2.2.2 ≠ 19 := fun y => n13 ⟨z.1, y⟩
  have w14 : t.2.2.2 ≠ 2 := fun y => n14 ⟨z.1, y⟩
  have w15 : t.2.2.2 ≠ 6 := fun y => n15 ⟨z.1, y⟩
  have w16 : t.2.2.2 ≠ 7 := fun y => n16 ⟨z.1, y⟩
  have w17 : t.2.2.2 ≠ 8 := fun y => n17 ⟨z.1, y⟩
  have w18 : t.2.2.2 ≠ 9 := fun y => n18 ⟨z.1, y⟩
  have w19 : t.2.2.2 ≠ 10 := fun y => n19 ⟨z.1, y⟩
  have w20 : t.2.2.2 ≠ 20 := fun y => n20 ⟨z.1, y⟩
  have w21 : t.2.2.2 ≠ 21 := fun y => n21 ⟨z.1, y⟩
  have w22 : t.2.2.2 ≠ 22 := fun y => n22 ⟨z.1, y⟩
  have w23 : t.2.2.2 ≠ 23 := fun y => n23 ⟨z.1, y⟩
  have w24 : t.2.2.2 ≠ 24 := fun y => n24 ⟨z.1, y⟩
  have w25 : t.2.2.2 ≠ 25 := fun y => n25 ⟨z.1, y⟩
  omega
theorem y_enc {f : Nat → Nat} : ∀ {n : Nat}, n ≤ 6 → (∀ k, k < n → f k ≤ 26) → enc f n < 27 ^ n
  | 0, _, _ => Nat.succ_pos _
  | n + 1, h, hd => by
    have h1 := y_enc (f := f) (n := n) (by omega) (fun j hj => hd j (by omega))
    have h2 := hd n (by omega)
    show 27 * enc f n + f n < 27 ^ (n + 1)
    rw [Nat.pow_succ]
    omega
theorem y_enc6 {f : Nat → Nat} {n : Nat} (h : n ≤ 6) (hd : ∀ k, k < n → f k ≤ 26) : enc f n ≤ 387420489 := by
  have h1 := y_enc h hd
  have h2 : (27 : Nat) ^ n ≤ 27 ^ 6 := Nat.pow_le_pow_right (by omega) h
  have h3 : (27 : Nat) ^ 6 = 387420489 := rfl
  omega
def yltr (tp : Nat → Nat) (q k : Nat) : Nat := tp (q + k) - 96
theorem y_namelp {tp : Nat → Nat} {tn b : Nat} {so : Bool} {t : yTok} (hk : t.2.2.1 = 1) (hw : ¬ (0 ≤ t.2.2.2 ∧ t.2.2.2 < 26)) {m0 : fz_s} {Q : Int64 → fz_s → Prop} (hT : yNm t → ∀ m', yAd tp tn t.2.1 true m' → m'.1 196 37 = nI t.1 → m'.1 196 5 = 0 → Fr pKt m0 m' → Q (lI (enc (yltr tp t.1) (t.2.1 - t.1))) m') (hN : ¬ yNm t → ∀ m', yFM 1 (yNq t) m' → Fr pKt m0 m' → Q 0 m') : ∀ (n i : Nat) (m : fz_s), i ≤ 6 → t.1 + i ≤ t.2.1 → t.2.1 < n + t.1 + i → yDg tp tn b so t i m → m.1 196 37 = nI t.1 → Fr pKt m0 m → lp_X12_name_58 Q n (lI (enc (yltr tp t.1) i)) m
  | 0, i, m, h0, h1, h2, _, _, _ => absurd h2 (by omega)
  | n + 1, i, m, h0, h1, h2, h, h37, hF => by
    obtain ⟨a1, a2, a4, a6, a7⟩ := id h
    have hn := a1.1
    have ht := a2.2.2.1
    obtain ⟨d1, d2, d3, d4⟩ := a2.lt a1.2.1 hk
    have hv : enc (yltr tp t.1) i ≤ 387420489 := y_enc6 h0 (fun j hj => by have := (d2 (t.1 + j) (by omega) (by omega)).2; unfold yltr; omega)
    have fin : t.1 + i = t.2.1 → ∀ s4 : fz_s, s4 = si m 196 4 (nI (t.1 + i)) → Q (lI (enc (yltr tp t.1) i)) s4 := by
      intro ei s1 e1
      have ei' : t.2.1 - t.1 = i := by omega
      have F1 : Fr pKt m s1 := by rw [e1]; exact Fr.rf.si (pKt_t (by omega))
      rw [ei'] at hT
      refine hT ⟨hk, hw, by omega⟩ s1 (fun t' ht' => ⟨a1.k F1, ht', ⟨Nat.le_refl _, ht'.1⟩, ?_, Or.inl ⟨rfl, ?_⟩, ?_, ?_⟩) ?_ ?_ (hF.tr F1)
      · rw [e1, g_nj (by omega), a4, ei]
      · rw [e1, g_eq, ei]
      · rw [e1, g_nj (by omega)]; exact a6
      · rw [e1, g_nj (by omega)]; exact a7
      · rw [e1, g_nj (by omega)]; exact h37
      · rw [e1, g_nj (by omega)]; exact a6
    show nd_X12_name_58 (lp_X12_name_58 Q n) Q (lI (enc (yltr tp t.1) i)) m
    unfold nd_X12_name_58
    rw [a1.2.2.1, a4]
    by_cases c1 : tn ≤ t.1 + i
    · exact bt (by simp (disch := omega) only [N_lit, N_add, N_mul, N_sub, N_addneg, N_neg1, N_addm, N_le, N_lt, N_eq, N_in, N_cl, N_ne, N_ne', N_ltm, N_mlt, N_lem] <;> omega) (fin (by omega))
    refine bf (by simp (disch := omega) only [N_lit, N_add, N_mul, N_sub, N_addneg, N_neg1, N_addm, N_le, N_lt, N_eq, N_in, N_cl, N_ne, N_ne', N_ltm, N_mlt, N_lem] <;> omega) ⟨N_in ⟨by omega, by omega⟩, ?_⟩
    rw [N_cl (by omega), a1.2.2.2.1 _ (by omega)]
    refine y_isLet (c := tp (t.1 + i)) (Or.inl rfl) (a1.2.1 _) (fun hd => b2 ?_) (fun hd => b3 ?_)
    · have hi : t.1 + i < t.2.1 := by
        by_cases z : t.1 + i = t.2.1
        · rw [z] at hd c1
          exact absurd hd (d3 (by omega))
        · omega
      rw [a4, h37, N_sub (by omega), show t.1 + i - t.1 = i by omega]
      by_cases c2 : i = 6
      · refine nf (by rw [c2]; rfl) ?_
        unfold yNm yNq at hN
        rw [if_pos ⟨hk, hw, by omega⟩] at hN
        subst c2
        exact y_mfail a6 (kd := 1) ⟨by omega, by omega⟩ (by omega) (fun m' h1 h2 => hN (fun z => by omega) m' h1 (hF.tr h2))
      · refine nt (fun z => c2 ((N_eq (b := 6) ⟨by omega, by omega⟩).mp z)) ⟨N_in ⟨by omega, by omega⟩, fun x3 e3 s4 e4 => ?_⟩
        have hB := a1.2.1 (t.1 + i)
        rw [N_cl (by omega), a1.2.2.2.1 _ (by omega), N_64 (by omega)] at e3
        rw [nI_1] at e4
        have e7 : (27 * lI (enc (yltr tp t.1) i) + lI (tp (t.1 + i)) - 97 + 1 : Int64) = lI (enc (yltr tp t.1) (i + 1)) := by
          show lI 27 * lI (enc (yltr tp t.1) i) + lI (tp (t.1 + i)) - lI 97 + lI 1 = lI ((27 * enc (yltr tp t.1) i + (tp (t.1 + i) - 96) : Nat) : Int)
          rw [l_mul, l_add, l_sub, l_add]
          congr 1
          omega
        rw [e3, e7]
        have F4 : Fr pKt m s4 := by rw [e4]; exact Fr.rf.si (pKt_t (by omega))
        refine y_namelp (b := b) (so := so) hk hw hT hN n (i + 1) s4 (by omega) (by omega) (by omega) ⟨a1.k F4, a2, ?_, ?_, ?_⟩ ?_ (hF.tr F4)
        · rw [e4, g_eq]; rfl
        · rw [e4, g_nj (by omega)]; exact a6
        · rw [e4, g_nj (by omega)]; exact a7
        · rw [e4, g_nj (by omega)]; exact h37
    · rw [a4]
      refine fin ?_
      by_cases z : t.1 + i = t.2.1
      · exact z
      · exact absurd (d2 (t.1 + i) (by omega) (by omega)) hd
theorem y_name {tp : Nat → Nat} {tn b : Nat} {so : Bool} {t : yTok} {a : Nat} {m : fz_s} (h : yPM tp tn b so t a m) {Q : Int64 → fz_s → Prop} (hT : yNm t → ∀ m', yAd tp tn t.2.1 true m' → m'.1 196 37 = nI t.1 → m'.1 196 5 = 0 → Fr pKt m m' → Q (lI (enc (yltr tp t.1) (t.2.1 - t.1))) m') (hN : ¬ yNm t → ∀ m', yFM 1 (yNq t) m' → Fr pKt m m' → Q 0 m') : wp_X12_name m Q := by
  unfold wp_X12_name
  refine bt h.2.2.2.2.2.1 ?_
  refine y_look h (fun m' h' hF => ?_)
  obtain ⟨a1, a2, a3, a4, a5, a6, a7⟩ := id h'
  have hn0 := a1.1
  have ht := a2.2.1
  have ht2 := a2.2.2.1
  have hk := a2.2.2.2.2
  have hLb : yLc tp tn t < 256 := by
    unfold yLc
    split
    · exact a1.2.1 _
    · omega
  have no : ¬ (t.2.2.1 = 1 ∧ ¬ (0 ≤ t.2.2.2 ∧ t.2.2.2 < 26)) → ∀ m2, yPM tp tn b so t t.1 m2 → Fr pKt m m2 → nd_X12_name_37 Q m2 := by
    intro hc m2 h2 hF2
    unfold yNm yNq at hN
    rw [if_neg (fun z => hc ⟨z.1, z.2.1⟩)] at hN
    exact y_mfailAt h2 (kd := 1) ⟨by omega, by omega⟩ (fun m3 h3 hF3 => hN (fun z => hc ⟨z.1, z.2.1⟩) m3 h3 (hF2.tr hF3))
  have hE := y_ended (q := t.1) a5 (by omega) (by omega)
  refine y_isLet (y_lk0 tp tn t) hLb (fun hl => b2 ?_) (fun hl => b3 (no (fun hc => hl ?_) m' h' (y_AK hF)))
  · rw [a4]
    by_cases c1 : so = true ∧ t.1 = b
    · refine bt (hE.mpr c1) (no (fun hc => ?_) m' h' (y_AK hF))
      exact (a2.lt a1.2.1 hc.1).2.2.2 c1.1 c1.2
    · refine bf (fun z => c1 (hE.mp z)) ?_
      have hk2 : t.2.2.1 = 1 := by
        unfold yLc at hl
        rcases hk with z | z | z | z | z
        · rw [if_neg (by omega)] at hl
          omega
        · exact z.1
        · have := z.2.2.1.2.2.1 t.1 (Nat.le_refl _) z.2.1
          rw [if_pos (by omega)] at hl
          omega
        · rw [if_pos (by omega)] at hl
          omega
        · exact absurd ⟨z.2.2.2.1, z.2.2.2.2⟩ c1
      have hd := a2.lt a1.2.1 hk2
      refine y_own h' (fun ho m2 h2 hF2 => b2 (no (fun z => z.2 ho.2) m2 h2 (y_AK (hF.tr hF2)))) (fun ho m2 h2 hF2 => b3 (fun s7 e7 => ?_))
      have F7 : Fr pKt m2 s7 := by rw [e7]; exact Fr.rf.si (pKt_t (by omega))
      rw [h2.2.2.2.1] at e7
      refine y_namelp (b := b) (so := so) hk2 (fun z => ho ⟨hk2, z⟩) (fun z m3 h3 h37 h5 hF3 => hT z m3 h3 h37 h5 (((y_AK (hF.tr hF2)).tr F7).tr hF3)) (fun z m3 h3 hF3 => hN z m3 h3 (((y_AK (hF.tr hF2)).tr F7).tr hF3)) 2048 0 s7 (by omega) (by omega) (by omega) ⟨h2.1.k F7, a2, ?_, ?_, ?_⟩ ?_ Fr.rf
      · rw [e7, g_nj (by omega)]; exact h2.2.2.2.1
      · rw [e7, g_nj (by omega)]; exact h2.2.2.2.2.2.1
      · rw [e7, g_nj (by omega)]; exact h2.2.2.2.2.2.2
      · rw [e7, g_eq]
  · have hd := a2.lt a1.2.1 hc.1
    unfold yLc
    rw [if_pos (by omega)]
    exact hd.2.1 t.1 (Nat.le_refl _) hd.1
theorem y_nameBad {m : fz_s} (hb : ¬ m.1 196 5 = 0) {Q : Int64 → fz_s → Prop} (hq : Q 0 m) : wp_X12_name m Q := bf hb hq

/-! QUESTIONS: what the model tells -/
theorem y_clipi {v : Int} (h : bd v) : clip v = v := by
  unfold bd at h
  unfold clip
  rw [if_neg (by omega), if_neg (by omega)]
theorem m_clipb {v : Int} (h : bd v) {s : fz_s} {Q : Int64 → fz_s → Prop} (hq : Q (lI v) s) : wp_X12_qClip (lI v) s Q := by
  unfold bd at h
  refine m_clip ⟨by omega, by omega⟩ ?_
  rw [y_clipi h]
  exact hq
/-- what a question's state keeps -/
def yQT (T : TT) (W : WW) (p : Nat) (l : List Nat) (s : fz_s) : Prop := MM T W s ∧ s.1 196 52 = nI 1 ∧ s.1 196 101 = nI l.length ∧ Seg (s.1 269) cM 0 l ∧ ∀ v, v < 2 → s.2.1 234 (2 * p + v) = lI (rv T W 2 p v)
theorem yQT.pP {T : TT} {W : WW} {p : Nat} {l : List Nat} {s s' : fz_s} (h : yQT T W p l s) (hF : Fr pP s s') : yQT T W p l s' := ⟨h.1.pP hF, (hF.i _ _ (pP_f (by omega))).trans h.2.1, (hF.i _ _ (pP_f (by omega))).trans h.2.2.1, h.2.2.2.1.cong (fun k _ _ => hF.i _ _ (pP_f (by omega))), fun v hv => (hF.l _ _ (pP_f (by omega))).trans (h.2.2.2.2 v hv)⟩
theorem m_qOf {T : TT} {W : WW} {p : Nat} {l : List Nat} {s : fz_s} (h : yQT T W p l s) (hp : p < T.1) {w : Nat} (hw : w < 2) {b : Int} (hb : bd b) {Q : Int64 → fz_s → Prop} (hq : Q (lI (if b = 0 then envQ T W p (11 + 2 * w) else if b = 1 then envQ T W p (12 + 2 * w) else 0)) s) : wp_X12_qOf (nI w) (lI b) (nI p) s Q := by
  have hn := h.1.1.1
  unfold bd at hb
  have e0 : (nI w = 0) ↔ w = 0 := N_eq (b := 0) ⟨by omega, by omega⟩
  unfold wp_X12_qOf
  rw [e0]
  refine ⟨fun c => ?_, fun c => ?_⟩
  · subst c
    refine m_isVillage (t := true) h.2.1 ⟨by omega, by omega⟩ ?_
    rw [Bool.true_and]
    by_cases cb : 0 ≤ b ∧ b < 2
    · rw [decide_eq_true cb]
      refine b2 ?_
      obtain ⟨k, hk⟩ : ∃ k : Nat, b = (k : Int) := ⟨b.toNat, by omega⟩
      rw [hk, l_32, ← i_nI, show (2 : Int32) * nI k = nI (2 * k) from N_mul 2 k, show (1 : Int32) + nI (2 * k) = nI (1 + 2 * k) from N_add 1 _]
      refine ⟨N_in ⟨by omega, by omega⟩, ?_⟩
      have hW := h.1.2.1.1 k (by omega)
      rw [N_cl (by omega), h.1.2.2.2.1 k (by omega), N_64 (by omega)]
      rw [hk] at hq
      rcases (show k = 0 ∨ k = 1 by omega) with rfl | rfl
      · rw [if_pos (by omega), envQ_n ⟨by omega, by omega⟩, env_11] at hq
        exact hq
      · rw [if_neg (by omega), if_pos (by omega), envQ_n ⟨by omega, by omega⟩, env_12] at hq
        exact hq
    · rw [decide_eq_false cb]
      rw [if_neg (by omega), if_neg (by omega)] at hq
      exact b3 hq
  · have c1 : w = 1 := by omega
    subst c1
    refine m_isVillage (t := true) h.2.1 ⟨by omega, by omega⟩ ?_
    rw [Bool.true_and]
    by_cases cb : 0 ≤ b ∧ b < 2
    · rw [decide_eq_true cb]
      refine b2 ?_
      obtain ⟨k, hk⟩ : ∃ k : Nat, b = (k : Int) := ⟨b.toNat, by omega⟩
      rw [hk, l_32, ← i_nI, show (2 : Int32) * nI p = nI (2 * p) from N_mul 2 p, N_add]
      refine ⟨N_in ⟨by omega, by omega⟩, ?_⟩
      rw [N_cl (by omega), h.2.2.2.2 k (by omega)]
      rw [hk] at hq
      rcases (show k = 0 ∨ k = 1 by omega) with rfl | rfl
      · rw [if_pos (by omega), envQ_13] at hq
        exact hq
      · rw [if_neg (by omega), if_pos (by omega), envQ_14] at hq
        exact hq
    · rw [decide_eq_false cb]
      rw [if_neg (by omega), if_neg (by omega)] at hq
      exact b3 hq
theorem m_top {b b' : Int} {t : List Int} {s s5 : fz_s} (h : MS (b :: t) s) (e : s5 = sl s 271 t.length (lI b')) : Fr pP s s5 ∧ MS (b' :: t) s5 := by
  subst e
  exact ⟨Fr.rf.sl (pP_t (by omega)), h.1, gl_eq, h.2.2.cong (fun k hk => gl_nj (by omega))⟩
set_option maxHeartbeats 4000000 in
theorem m_stepQ {T : TT} {W : WW} {p : Nat} {l : List Nat} {K : Int32 → Int32 → fz_s → Prop} {Q : Int64 → fz_s → Prop} {c : Nat} {st st' : List Int} {s : fz_s} {i : Nat} (h : yQT T W p l s) (hp : p < T.1) (hi : i < l.length) (hbe : l.length ≤ 1600) (hc : s.1 269 i = nI (cM c)) (hS : MS st s) (hb : ∀ a ∈ st, bd a) (hl : st.length ≤ 64) (hs : stp (envQ T W p) scQ c st = some st') (k : ∀ s', Fr pP s s' → MS st' s' → K (nI p) (nI (i + 1)) s') : nd_X12_qTold_7 K Q (nI p) (nI i) s := by
  have hn := h.1.1.1
  have e1 : nI i + 1 = nI (i + 1) := nI_1 i
  unfold nd_X12_qTold_7
  rw [h.2.2.1, e1]
  refine bf (by simp (disch := omega) only [N_lit, N_add, N_mul, N_sub, N_addneg, N_neg1, N_addm, N_le, N_lt, N_eq, N_in, N_cl, N_ne, N_ne', N_ltm, N_mlt, N_lem] <;> omega) ⟨N_in ⟨by omega, by omega⟩, fun x1 ex1 => ?_⟩
  rw [N_cl (by omega), hc] at ex1
  subst ex1
  unfold stp at hs
  split at hs
  · rename_i q
    split at hs
    · rw [show cM c = 13 by unfold cM; rw [if_pos q]]
      refine bt (by simp (disch := omega) only [N_lit, N_add, N_mul, N_sub, N_addneg, N_neg1, N_addm, N_le, N_lt, N_eq, N_in, N_cl, N_ne, N_ne', N_ltm, N_mlt, N_lem] <;> omega) (bt (by simp (disch := omega) only [N_lit, N_add, N_mul, N_sub, N_addneg, N_neg1, N_addm, N_le, N_lt, N_eq, N_in, N_cl, N_ne, N_ne', N_ltm, N_mlt, N_lem] <;> omega) (bt (by simp (disch := omega) only [N_lit, N_add, N_mul, N_sub, N_addneg, N_neg1, N_addm, N_le, N_lt, N_eq, N_in, N_cl, N_ne, N_ne', N_ltm, N_mlt, N_lem] <;> omega) (nf rfl ?_)))
      refine m_puts (v := 1) hS (by omega) (fun s' hF hM => ?_)
      rw [← Option.some.inj hs] at k
      intro x9 e9
      subst e9
      exact k s' hF hM
    · cases hs
  rename_i q0
  split at hs
  · rename_i q1
    split at hs
    · rw [show cM c = 1000 + c by unfold cM; rw [if_neg q0, if_pos q1]]
      refine bf (by simp (disch := omega) only [N_lit, N_add, N_mul, N_sub, N_addneg, N_neg1, N_addm, N_le, N_lt, N_eq, N_in, N_cl, N_ne, N_ne', N_ltm, N_mlt, N_lem] <;> omega) ?_
      rw [show (nI (1000 + c) - 1000).toInt64 = lI c by rw [show nI (1000 + c) - 1000 = nI (1000 + c - 1000) from N_sub (b := 1000) (by omega), Nat.add_sub_cancel_left, N_64 (by omega)]]
      refine m_puts hS (by omega) (fun s' hF hM => ?_)
      rw [← Option.some.inj hs] at k
      intro x9 e9
      subst e9
      exact k s' hF hM
    · cases hs
  rename_i q1
  split at hs
  · rename_i q2
    split at hs
    · rename_i q3
      have hk := scQ_i q3.2.1
      have hk11 := q3.2.2
      rw [show cM c = c - 10000 + 40 by unfold cM; rw [if_neg q0, if_neg q1, if_pos q2]]
      refine bt (by simp (disch := omega) only [N_lit, N_add, N_mul, N_sub, N_addneg, N_neg1, N_addm, N_le, N_lt, N_eq, N_in, N_cl, N_ne, N_ne', N_ltm, N_mlt, N_lem] <;> omega) (bt (by simp (disch := omega) only [N_lit, N_add, N_mul, N_sub, N_addneg, N_neg1, N_addm, N_le, N_lt, N_eq, N_in, N_cl, N_ne, N_ne', N_ltm, N_mlt, N_lem] <;> omega) (bf (by simp (disch := omega) only [N_lit, N_add, N_mul, N_sub, N_addneg, N_neg1, N_addm, N_le, N_lt, N_eq, N_in, N_cl, N_ne, N_ne', N_ltm, N_mlt, N_lem] <;> omega) ?_))
      rw [show nI (c - 10000 + 40) - 40 = nI (c - 10000) by rw [show nI (c - 10000 + 40) - 40 = nI (c - 10000 + 40 - 40) from N_sub (b := 40) (by omega), Nat.add_sub_cancel]]
      refine m_part (v := 0) h.1 q3.2.2 (Or.inl hp) (fun z => by omega) ?_
      have hbe2 := envQ_bd h.1.1 h.1.2.1 hp (c - 10000)
      rw [envQ_n ⟨by omega, by omega⟩] at hbe2 hs
      refine m_clipb hbe2 (m_puts hS (by omega) (fun s' hF hM => ?_))
      rw [← Option.some.inj hs] at k
      intro x9 e9
      subst e9
      exact k s' hF hM
    · cases hs
  rename_i q2
  split at hs
  · cases hs
  rename_i b t
  have el : (b :: t).length = t.length + 1 := rfl
  rw [el] at hl
  have hbb := hb b List.mem_cons_self
  split at hs
  · rename_i q3
    split at hs
    · rename_i q4
      rw [show cM c = 12 by unfold cM; rw [if_neg q0, if_neg q1, if_neg q2, if_pos q3]]
      refine bt (by simp (disch := omega) only [N_lit, N_add, N_mul, N_sub, N_addneg, N_neg1, N_addm, N_le, N_lt, N_eq, N_in, N_cl, N_ne, N_ne', N_ltm, N_mlt, N_lem] <;> omega) (bt (by simp (disch := omega) only [N_lit, N_add, N_mul, N_sub, N_addneg, N_neg1, N_addm, N_le, N_lt, N_eq, N_in, N_cl, N_ne, N_ne', N_ltm, N_mlt, N_lem] <;> omega) (bt (by simp (disch := omega) only [N_lit, N_add, N_mul, N_sub, N_addneg, N_neg1, N_addm, N_le, N_lt, N_eq, N_in, N_cl, N_ne, N_ne', N_ltm, N_mlt, N_lem] <;> omega) (nt (by simp (disch := omega) only [N_lit, N_add, N_mul, N_sub, N_addneg, N_neg1, N_addm, N_le, N_lt, N_eq, N_in, N_cl, N_ne, N_ne', N_ltm, N_mlt, N_lem] <;> omega) (nf rfl ?_))))
      refine m_not hS (by omega) (fun s' hF hM => ?_)
      rw [← Option.some.inj hs] at k
      intro x9 e9
      subst e9
      exact k s' hF hM
    · cases hs
  rename_i q3
  have of : ∀ w : Nat, w < 2 → cM c = 60 + w → st' = (if b = 0 then envQ T W p (11 + 2 * w) else if b = 1 then envQ T W p (12 + 2 * w) else 0) :: t → ((nI (cM c) < 1000 → ((nI (cM c) < 60 → ((nI (cM c) < 40 → ((¬ nI (cM c) = 13 → ((¬ nI (cM c) = 12 → wp_X12_qJoins (nI (cM c)) s (fun s3 => ∀ x4 : Int32, x4 = nI (i + 1) → K (nI p) x4 s3)) ∧ (nI (cM c) = 12 → vp_in ((s.1 196 107) - 1) 1700 ∧ vp_in ((s.1 196 107) - 1) 1700 ∧ ∀ s5 : fz_s, s5 = sl s 271 ((s.1 196 107) - 1).toNatClampNeg (1 - (s.2.1 271 ((s.1 196 107) - 1).toNatClampNeg)) → ∀ x6 : Int32, x6 = nI (i + 1) → K (nI p) x6 s5))) ∧ (nI (cM c) = 13 → wp_X12_qPuts 1 s (fun s8 => ∀ x9 : Int32, x9 = nI (i + 1) → K (nI p) x9 s8)))) ∧ (¬ nI (cM c) < 40 → wp_X12_qPartOf (nI (cM c) - 40) (nI p) s (fun r10 s11 => wp_X12_qClip r10 s11 (fun r12 s13 => wp_X12_qPuts r12 s13 (fun s15 => ∀ x16 : Int32, x16 = nI (i + 1) → K (nI p) x16 s15)))))) ∧ (¬ nI (cM c) < 60 → vp_in ((s.1 196 107) - 1) 1700 ∧ wp_X12_qOf (nI (cM c) - 60) (s.2.1 271 ((s.1 196 107) - 1).toNatClampNeg) (nI p) s (fun r17 s18 => wp_X12_qClip r17 s18 (fun r19 s20 => vp_in ((s.1 196 107) - 1) 1700 ∧ ∀ s21 : fz_s, s21 = sl s20 271 ((s.1 196 107) - 1).toNatClampNeg r19 → ∀ x22 : Int32, x22 = nI (i + 1) → K (nI p) x22 s21))))) ∧ (¬ nI (cM c) < 1000 → wp_X12_qPuts ((nI (cM c) - 1000).toInt64) s (fun s24 => ∀ x25 : Int32, x25 = nI (i + 1) → K (nI p) x25 s24))) := by
    intro w hw hcm hst
    rw [hcm]
    refine bt (by simp (disch := omega) only [N_lit, N_add, N_mul, N_sub, N_addneg, N_neg1, N_addm, N_le, N_lt, N_eq, N_in, N_cl, N_ne, N_ne', N_ltm, N_mlt, N_lem] <;> omega) (bf (by simp (disch := omega) only [N_lit, N_add, N_mul, N_sub, N_addneg, N_neg1, N_addm, N_le, N_lt, N_eq, N_in, N_cl, N_ne, N_ne', N_ltm, N_mlt, N_lem] <;> omega) ?_)
    rw [hS.1, el, show nI (t.length + 1) - 1 = nI t.length from N_sub (b := 1) (by omega), N_cl (by omega), show s.2.1 271 t.length = lI b from hS.2.1, show nI (60 + w) - 60 = nI w by rw [show nI (60 + w) - 60 = nI (60 + w - 60) from N_sub (b := 60) (by omega), Nat.add_sub_cancel_left]]
    refine ⟨N_in ⟨by omega, by omega⟩, m_qOf h hp hw hbb ?_⟩
    have hbv : bd (if b = 0 then envQ T W p (11 + 2 * w) else if b = 1 then envQ T W p (12 + 2 * w) else 0) := by
      split
      · exact envQ_bd h.1.1 h.1.2.1 hp _
      · split
        · exact envQ_bd h.1.1 h.1.2.1 hp _
        · unfold bd; omega
    refine m_clipb hbv ⟨N_in ⟨by omega, by omega⟩, fun s21 e21 x22 e22 => ?_⟩
    obtain ⟨z1, z2⟩ := m_top hS e21
    rw [e22]
    rw [hst] at k
    exact k s21 z1 z2
  split at hs
  · rename_i q4
    rw [if_pos (show scQ 11 = true from rfl)] at hs
    exact of 0 (by omega) (by unfold cM; rw [if_neg q0, if_neg q1, if_neg q2, if_neg q3, if_pos q4]) (Option.some.inj hs).symm
  rename_i q4
  split at hs
  · rename_i q5
    rw [if_pos (show scQ 13 = true from rfl)] at hs
    exact of 1 (by omega) (by unfold cM; rw [if_neg q0, if_neg q1, if_neg q2, if_neg q3, if_neg q4, if_pos q5]) (Option.some.inj hs).symm
  rename_i q5
  split at hs
  · cases hs
  rename_i a t
  split at hs
  · rename_i q6
    have el2 : (a :: t).length = t.length + 1 := rfl
    rw [el2] at hl
    rw [show cM c = c - 20002 by unfold cM; rw [if_neg q0, if_neg q1, if_neg q2, if_neg q3, if_neg q4, if_neg q5]]
    refine bt (by simp (disch := omega) only [N_lit, N_add, N_mul, N_sub, N_addneg, N_neg1, N_addm, N_le, N_lt, N_eq, N_in, N_cl, N_ne, N_ne', N_ltm, N_mlt, N_lem] <;> omega) (bt (by simp (disch := omega) only [N_lit, N_add, N_mul, N_sub, N_addneg, N_neg1, N_addm, N_le, N_lt, N_eq, N_in, N_cl, N_ne, N_ne', N_ltm, N_mlt, N_lem] <;> omega) (bt (by simp (disch := omega) only [N_lit, N_add, N_mul, N_sub, N_addneg, N_neg1, N_addm, N_le, N_lt, N_eq, N_in, N_cl, N_ne, N_ne', N_ltm, N_mlt, N_lem] <;> omega) (nt (by simp (disch := omega) only [N_lit, N_add, N_mul, N_sub, N_addneg, N_neg1, N_addm, N_le, N_lt, N_eq, N_in, N_cl, N_ne, N_ne', N_ltm, N_mlt, N_lem] <;> omega) (nt (by simp (disch := omega) only [N_lit, N_add, N_mul, N_sub, N_addneg, N_neg1, N_addm, N_le, N_lt, N_eq, N_in, N_cl, N_ne, N_ne', N_ltm, N_mlt, N_lem] <;> omega) ?_))))
    refine m_joins hS (by omega) ⟨by omega, by omega⟩ (hb a (List.mem_cons_of_mem _ List.mem_cons_self)) hbb (fun z => q6.2 (by omega)) (fun s' hF hM => ?_)
    rw [← Option.some.inj hs] at k
    intro x9 e9
    subst e9
    rw [show c - 20002 - 1 = c - 20003 by omega] at hM
    exact k s' hF hM
  · cases hs
theorem m_qloop {T : TT} {W : WW} {p : Nat} {L : List Nat} {Q : Int64 → fz_s → Prop} (hp : p < T.1) (hbe : L.length ≤ 1600) {z : Int} {s0 : fz_s} (hq : ∀ s', Fr pP s0 s' → Q (lI z) s') : ∀ (l : List Nat) (i n : Nat) (st : List Int) (s : fz_s), l.length < n → i + l.length = L.length → yQT T W p L s → Fr pP s0 s → Seg (s.1 269) cM i l → MS st s → (∀ a ∈ st, bd a) → st.length ≤ 64 → evl (envQ T W p) scQ l st = some [z] → lp_X12_qTold_7 Q n (nI p) (nI i) s
  | _, _, 0, _, _, h, _, _, _, _, _, _, _, _ => absurd h (Nat.not_lt_zero _)
  | [], i, n + 1, st, s, _, hi, h, hF, _, hS, _, hl, hev => by
    have hst : st = [z] := Option.some.inj hev
    subst hst
    show nd_X12_qTold_7 (lp_X12_qTold_7 Q n) Q (nI p) (nI i) s
    unfold nd_X12_qTold_7
    have hi2 : i = L.length := hi
    rw [h.2.2.1]
    refine bt (by simp (disch := omega) only [N_lit, N_add, N_mul, N_sub, N_addneg, N_neg1, N_addm, N_le, N_lt, N_eq, N_in, N_cl, N_ne, N_ne', N_ltm, N_mlt, N_lem] <;> omega) ?_
    rw [show s.2.1 271 (0 : Int32).toNatClampNeg = lI z from hS.2.1]
    exact hq s hF
  | c :: l, i, n + 1, st, s, hln, hi, h, hF, hg, hS, hb, hl, hev => by
    simp only [List.length_cons] at hln hi
    have he2 : (stp (envQ T W p) scQ c st).bind (evl (envQ T W p) scQ l) = some [z] := hev
    cases hs : stp (envQ T W p) scQ c st with
    | none => rw [hs] at he2; cases he2
    | some st' =>
      rw [hs] at he2
      have he3 : evl (envQ T W p) scQ l st' = some [z] := he2
      show nd_X12_qTold_7 (lp_X12_qTold_7 Q n) Q (nI p) (nI i) s
      refine m_stepQ h hp (by omega) hbe hg.1 hS hb hl hs (fun s' hF' hS' => ?_)
      refine m_qloop hp hbe hq l (i + 1) n st' s' (by omega) (by omega) (h.pP hF') (hF.tr hF') (hg.2.cong (fun k _ _ => hF'.i _ _ (pP_f (by omega)))) hS' (stp_bd (fun k _ => envQ_bd h.1.1 h.1.2.1 hp k) (fun _ => rfl) (fun _ => rfl) hs hb) (stp_len hs hl) he3
theorem m_qTold {T : TT} {W : WW} {p : Nat} {l : List Nat} {ty : Bool} {f : (Nat → Int) → Int} {m : fz_s} (h : yQT T W p l m) (hp : p < T.1) (hl : l.length ≤ 1600) (hD : Dn scQ ty l f) {Q : Int64 → fz_s → Prop} (hq : ∀ m', Fr pP m m' → Q (lI (f (envQ T W p))) m') : wp_X12_qTold (nI p) m Q := by
  unfold wp_X12_qTold
  intro s1 e1
  have F1 : Fr pP m s1 := by rw [e1]; exact Fr.rf.si (pP_t (by omega))
  refine m_qloop hp hl (fun s' hF => hq s' (F1.tr hF)) l 0 2048 [] s1 (by omega) (by omega) (h.pP F1) Fr.rf ((h.pP F1).2.2.2.1) ⟨by rw [e1, g_eq]; rfl, trivial⟩ (fun a ha => by cases ha) (by show 0 ≤ 64; omega) (hD _ (fun k _ => envQ_bd h.1.1 h.1.2.1 hp k)).1

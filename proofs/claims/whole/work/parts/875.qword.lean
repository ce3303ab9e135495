/-! THE MODEL'S PARTS: which word is here -/
def yqw (tk : Nat) (t : yTok) : Int := if t.2.2.1 = 1 then (if t.2.2.2 = 0 then (if tk < 2 then 0 else 11) else if 1 ≤ t.2.2.2 ∧ t.2.2.2 ≤ 10 then t.2.2.2 else if t.2.2.2 = 13 then 12 else -1) else -1
def yal (tk : Nat) (k : Int) : Prop := (tk = 0 ∧ k < 7) ∨ (tk = 1 ∧ (k < 3 ∨ k = 7)) ∨ (tk = 2 ∧ 1 < k ∧ k ≠ 7)
theorem y_qw_r (tk : Nat) (t : yTok) : -1 ≤ yqw tk t ∧ yqw tk t ≤ 12 := by
  unfold yqw
  repeat (first | omega | split)
theorem y_qw_i {tk : Nat} {t : yTok} {i : Nat} (hw : yWo t i) (hi : 1 ≤ i ∧ i ≤ 10) : yqw tk t = (i : Int) := by
  unfold yqw
  rw [if_pos hw.1, hw.2, if_neg (by omega), if_pos (by omega)]
theorem y_qw_0 {tk : Nat} {t : yTok} (hw : yWo t 0) : yqw tk t = if tk < 2 then 0 else 11 := by
  unfold yqw
  have h2 : t.2.2.2 = 0 := hw.2
  rw [if_pos hw.1, if_pos h2]
theorem y_qw_d {tk : Nat} {t : yTok} (hw : yWo t 13) : yqw tk t = 12 := by
  unfold yqw
  have h2 : t.2.2.2 = 13 := hw.2
  rw [if_pos hw.1, h2]
  rfl
theorem y_qwh {tp : Nat → Nat} {tn b : Nat} {so : Bool} {t : yTok} {a tk : Nat} {m : fz_s} (h : yPM tp tn b so t a m) (h53 : m.1 196 53 = nI tk) (htk : tk ≤ 2) {Q : Int32 → fz_s → Prop} (hq : ∀ m', yPM tp tn b so t t.1 m' → Fr pA m m' → Q (iI (yqw tk t)) m') : wp_X12_qWordHere m Q := by
  have hv : ∀ (v : Nat), yqw tk t = (v : Int) → ∀ m', yPM tp tn b so t t.1 m' → Fr pA m m' → Q (nI v) m' := by
    intro v e m' h' hF
    have := hq m' h' hF
    rw [e, ← i_nI] at this
    exact this
  have main : ∀ (a' : Nat) (m1 : fz_s), yPM tp tn b so t a' m1 → Fr pA m m1 → (tk < 2 → ¬ yWo t 0) → nd_X12_qWordHere_21 Q m1 := by
    intro a' m1 h1 F1 hz
    unfold nd_X12_qWordHere_21
    refine y_isHere h1 1 (by decide +kernel) (fun hs m2 h2 F2 => b2 (hv 1 (y_qw_i hs ⟨by omega, by omega⟩) m2 h2 (F1.tr F2))) (fun n0 m2 k0 G0 => b3 ?_)
    have F10 : Fr pA m m2 := F1.tr G0
    refine y_isHere k0 2 (by decide +kernel) (fun hs m2 h2 F2 => b2 (hv 2 (y_qw_i hs ⟨by omega, by omega⟩) m2 h2 (F10.tr F2))) (fun n1 m3 k1 G1 => b3 ?_)
    have F11 : Fr pA m m3 := F10.tr G1
    refine y_isHere k1 3 (by decide +kernel) (fun hs m2 h2 F2 => b2 (hv 3 (y_qw_i hs ⟨by omega, by omega⟩) m2 h2 (F11.tr F2))) (fun n2 m4 k2 G2 => b3 ?_)
    have F12 : Fr pA m m4 := F11.tr G2
    refine y_isHere k2 4 (by decide +kernel) (fun hs m2 h2 F2 => b2 (hv 4 (y_qw_i hs ⟨by omega, by omega⟩) m2 h2 (F12.tr F2))) (fun n3 m5 k3 G3 => b3 ?_)
    have F13 : Fr pA m m5 := F12.tr G3
    refine y_isHere k3 5 (by decide +kernel) (fun hs m2 h2 F2 => b2 (hv 5 (y_qw_i hs ⟨by omega, by omega⟩) m2 h2 (F13.tr F2))) (fun n4 m6 k4 G4 => b3 ?_)
    have F14 : Fr pA m m6 := F13.tr G4
    refine y_isHere k4 6 (by decide +kernel) (fun hs m2 h2 F2 => b2 (hv 6 (y_qw_i hs ⟨by omega, by omega⟩) m2 h2 (F14.tr F2))) (fun n5 m7 k5 G5 => b3 ?_)
    have F15 : Fr pA m m7 := F14.tr G5
    refine y_isHere k5 7 (by decide +kernel) (fun hs m2 h2 F2 => b2 (hv 7 (y_qw_i hs ⟨by omega, by omega⟩) m2 h2 (F15.tr F2))) (fun n6 m8 k6 G6 => b3 ?_)
    have F16 : Fr pA m m8 := F15.tr G6
    refine y_isHere k6 8 (by decide +kernel) (fun hs m2 h2 F2 => b2 (hv 8 (y_qw_i hs ⟨by omega, by omega⟩) m2 h2 (F16.tr F2))) (fun n7 m9 k7 G7 => b3 ?_)
    have F17 : Fr pA m m9 := F16.tr G7
    refine y_isHere k7 9 (by decide +kernel) (fun hs m2 h2 F2 => b2 (hv 9 (y_qw_i hs ⟨by omega, by omega⟩) m2 h2 (F17.tr F2))) (fun n8 m10 k8 G8 => b3 ?_)
    have F18 : Fr pA m m10 := F17.tr G8
    refine y_isHere k8 10 (by decide +kernel) (fun hs m2 h2 F2 => b2 (hv 10 (y_qw_i hs ⟨by omega, by omega⟩) m2 h2 (F18.tr F2))) (fun n9 m11 k9 G9 => b3 ?_)
    have F19 : Fr pA m m11 := F18.tr G9
    refine y_isHere k9 0 (by decide +kernel) (fun hs m2 h2 F2 => b2 (hv 11 (by rw [y_qw_0 hs, if_neg (fun z => hz z hs)]; rfl) m2 h2 (F19.tr F2))) (fun n10 m12 k10 G10 => b3 ?_)
    have F20 : Fr pA m m12 := F19.tr G10
    refine y_isHere k10 13 (by decide +kernel) (fun hs m2 h2 F2 => b2 (hv 12 (y_qw_d hs) m2 h2 (F20.tr F2))) (fun n11 m13 k11 G11 => b3 ?_)
    have F21 : Fr pA m m13 := F20.tr G11
    have e : yqw tk t = -1 := by
      unfold yqw
      by_cases c : t.2.2.1 = 1
      · have w := (h.2.1.wn c).lo
        have w0 : t.2.2.2 ≠ 1 := fun y => n0 ⟨c, y⟩
        have w1 : t.2.2.2 ≠ 2 := fun y => n1 ⟨c, y⟩
        have w2 : t.2.2.2 ≠ 3 := fun y => n2 ⟨c, y⟩
        have w3 : t.2.2.2 ≠ 4 := fun y => n3 ⟨c, y⟩
        have w4 : t.2.2.2 ≠ 5 := fun y => n4 ⟨c, y⟩
        have w5 : t.2.2.2 ≠ 6 := fun y => n5 ⟨c, y⟩
        have w6 : t.2.2.2 ≠ 7 := fun y => n6 ⟨c, y⟩
        have w7 : t.2.2.2 ≠ 8 := fun y => n7 ⟨c, y⟩
        have w8 : t.2.2.2 ≠ 9 := fun y => n8 ⟨c, y⟩
        have w9 : t.2.2.2 ≠ 10 := fun y => n9 ⟨c, y⟩
        have w10 : t.2.2.2 ≠ 0 := fun y => n10 ⟨c, y⟩
        have w11 : t.2.2.2 ≠ 13 := fun y => n11 ⟨c, y⟩
        rw [if_pos c, if_neg (by omega), if_neg (by omega), if_neg (by omega)]
      · rw [if_neg c]
    have := hq _ k11 F21
    rw [e] at this
    exact this
  unfold wp_X12_qWordHere
  rw [h53]
  by_cases c : 2 ≤ tk
  · exact bt (by simp (disch := omega) only [N_lit, N_add, N_mul, N_sub, N_addneg, N_neg1, N_addm, N_le, N_lt, N_eq, N_in, N_cl, N_ne, N_ne', N_ltm, N_mlt, N_lem] <;> omega) (main a m h Fr.rf (fun z => by omega))
  · refine bf (by simp (disch := omega) only [N_lit, N_add, N_mul, N_sub, N_addneg, N_neg1, N_addm, N_le, N_lt, N_eq, N_in, N_cl, N_ne, N_ne', N_ltm, N_mlt, N_lem] <;> omega) ?_
    refine y_isHere h 0 (by decide +kernel) (fun hs m2 h2 F2 => b2 (hv 0 (by rw [y_qw_0 hs, if_pos (by omega)]; rfl) m2 h2 F2)) (fun n m2 h2 F2 => b3 (main _ m2 h2 F2 (fun _ => n)))
theorem y_allow {tk : Nat} {k : Int} {m : fz_s} (h53 : m.1 196 53 = nI tk) (htk : tk ≤ 2) (hk : -1 ≤ k ∧ k ≤ 12) {Q : Bool → fz_s → Prop} (hT : yal tk k → Q true m) (hN : ¬ yal tk k → Q false m) : wp_X12_isAllowed (iI k) m Q := by
  unfold wp_X12_isAllowed
  rw [h53]
  unfold yal at hT hN
  have e1 : (iI k ≤ 1) ↔ k ≤ 1 := i_le (b := 1) ⟨⟨by omega, by omega⟩, by omega, by omega⟩
  have e2 : (iI k < 3) ↔ k < 3 := i_lt (b := 3) ⟨⟨by omega, by omega⟩, by omega, by omega⟩
  have e3 : (iI k = 7) ↔ k = 7 := i_eq (b := 7) ⟨⟨by omega, by omega⟩, by omega, by omega⟩
  have e4 : (7 ≤ iI k) ↔ 7 ≤ k := i_le (a := 7) ⟨⟨by omega, by omega⟩, by omega, by omega⟩
  rw [e1, e2, e3, e4]
  by_cases c0 : tk = 0
  · refine nf (by simp (disch := omega) only [N_lit, N_add, N_mul, N_sub, N_addneg, N_neg1, N_addm, N_le, N_lt, N_eq, N_in, N_cl, N_ne, N_ne', N_ltm, N_mlt, N_lem] <;> omega) ?_
    by_cases d : 7 ≤ k
    · exact bt d (hN (by omega))
    · exact bf d (hT (by omega))
  refine nt (by simp (disch := omega) only [N_lit, N_add, N_mul, N_sub, N_addneg, N_neg1, N_addm, N_le, N_lt, N_eq, N_in, N_cl, N_ne, N_ne', N_ltm, N_mlt, N_lem] <;> omega) ?_
  by_cases c1 : tk = 1
  · refine nf (by simp (disch := omega) only [N_lit, N_add, N_mul, N_sub, N_addneg, N_neg1, N_addm, N_le, N_lt, N_eq, N_in, N_cl, N_ne, N_ne', N_ltm, N_mlt, N_lem] <;> omega) ?_
    by_cases d : k < 3
    · exact bt d (hT (by omega))
    refine bf d ?_
    by_cases d2 : k = 7
    · exact nf d2 (hT (by omega))
    · exact nt d2 (hN (by omega))
  · refine nt (by simp (disch := omega) only [N_lit, N_add, N_mul, N_sub, N_addneg, N_neg1, N_addm, N_le, N_lt, N_eq, N_in, N_cl, N_ne, N_ne', N_ltm, N_mlt, N_lem] <;> omega) ?_
    by_cases d : k ≤ 1
    · exact bt d (hN (by omega))
    refine bf d ?_
    by_cases d2 : k = 7
    · exact bt d2 (hN (by omega))
    · exact bf d2 (hT (by omega))
theorem y_qwo {tp : Nat → Nat} {tn b : Nat} {so : Bool} {t : yTok} {a tk lo hi : Nat} {m : fz_s} (h : yPM tp tn b so t a m) (h53 : m.1 196 53 = nI tk) (htk : tk ≤ 2) (hl : lo < 100 ∧ hi < 100) {Q : Int32 → fz_s → Prop} (hT : ((lo : Int) ≤ yqw tk t ∧ yqw tk t < (hi : Int)) ∧ yal tk (yqw tk t) → ∀ m', yPM tp tn b so t t.1 m' → Fr pA m m' → Q (iI (yqw tk t)) m') (hN : ¬ (((lo : Int) ≤ yqw tk t ∧ yqw tk t < (hi : Int)) ∧ yal tk (yqw tk t)) → ∀ m', yPM tp tn b so t t.1 m' → Fr pA m m' → Q (-1) m') : wp_X12_qWordOf (nI lo) (nI hi) m Q := by
  have hr := y_qw_r tk t
  unfold wp_X12_qWordOf
  refine y_qwh h h53 htk (fun m' h' hF => ?_)
  have e1 : (iI (yqw tk t) < nI lo) ↔ yqw tk t < (lo : Int) := by
    rw [i_nI, i_lt ⟨⟨by omega, by omega⟩, by omega, by omega⟩]
  have e2 : (nI hi ≤ iI (yqw tk t)) ↔ (hi : Int) ≤ yqw tk t := by
    rw [i_nI, i_le ⟨⟨by omega, by omega⟩, by omega, by omega⟩]
  by_cases c1 : yqw tk t < (lo : Int)
  · exact bt (e1.mpr c1) (hN (fun z => by omega) m' h' hF)
  refine bf (fun z => c1 (e1.mp z)) ?_
  by_cases c2 : (hi : Int) ≤ yqw tk t
  · exact bt (e2.mpr c2) (hN (fun z => by omega) m' h' hF)
  refine bf (fun z => c2 (e2.mp z)) ?_
  have r53 : m'.1 196 53 = nI tk := (hF.i _ _ (pA_f (by omega))).trans h53
  exact y_allow r53 htk hr (fun z => b2 (hT ⟨⟨by omega, by omega⟩, z⟩ m' h' hF)) (fun z => b3 (hN (fun y => z y.2) m' h' hF))
theorem y_aw {k : Nat} (hk : k ≤ 12) {m : fz_s} {Q : fz_s → Prop} (H : wp_X12_asks (256 + k) ((wds (256 + k)).length) m Q) : wp_X12_qAsksWord (nI k) m Q := by
  have e : ∀ j : Nat, j < 100 → nI k = nI j → k = j := fun j hj z => (N_eq ⟨by omega, by omega⟩).mp z
  unfold wp_X12_qAsksWord
  refine ⟨fun z => ?_, fun z => ?_, fun z => ?_, fun z => ?_, fun z => ?_, fun z => ?_, fun z => ?_, fun z => ?_, fun z => ?_, fun z => ?_, fun z => ?_, fun z => ?_, fun z => ?_⟩
  · have := e 0 (by omega) z
    subst this
    exact H
  · have := e 1 (by omega) z
    subst this
    exact H
  · have := e 2 (by omega) z
    subst this
    exact H
  · have := e 3 (by omega) z
    subst this
    exact H
  · have := e 4 (by omega) z
    subst this
    exact H
  · have := e 5 (by omega) z
    subst this
    exact H
  · have := e 6 (by omega) z
    subst this
    exact H
  · have := e 7 (by omega) z
    subst this
    exact H
  · have := e 8 (by omega) z
    subst this
    exact H
  · have := e 9 (by omega) z
    subst this
    exact H
  · have := e 10 (by omega) z
    subst this
    exact H
  · have := e 11 (by omega) z
    subst this
    exact H
  · have n0 : k ≠ 0 := fun y => z.1 (by rw [y]; rfl)
    have n1 : k ≠ 1 := fun y => z.2.1 (by rw [y]; rfl)
    have n2 : k ≠ 2 := fun y => z.2.2.1 (by rw [y]; rfl)
    have n3 : k ≠ 3 := fun y => z.2.2.2.1 (by rw [y]; rfl)
    have n4 : k ≠ 4 := fun y => z.2.2.2.2.1 (by rw [y]; rfl)
    have n5 : k ≠ 5 := fun y => z.2.2.2.2.2.1 (by rw [y]; rfl)
    have n6 : k ≠ 6 := fun y => z.2.2.2.2.2.2.1 (by rw [y]; rfl)
    have n7 : k ≠ 7 := fun y => z.2.2.2.2.2.2.2.1 (by rw [y]; rfl)
    have n8 : k ≠ 8 := fun y => z.2.2.2.2.2.2.2.2.1 (by rw [y]; rfl)
    have n9 : k ≠ 9 := fun y => z.2.2.2.2.2.2.2.2.2.1 (by rw [y]; rfl)
    have n10 : k ≠ 10 := fun y => z.2.2.2.2.2.2.2.2.2.2.1 (by rw [y]; rfl)
    have n11 : k ≠ 11 := fun y => z.2.2.2.2.2.2.2.2.2.2.2 (by rw [y]; rfl)
    have : k = 12 := by omega
    subst this
    exact H

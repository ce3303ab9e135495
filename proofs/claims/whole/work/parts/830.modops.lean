/-! THE MODEL'S SUMS -/
theorem m_clip {v : Int} (h : lR v) {s : fz_s} {Q : Int64 → fz_s → Prop} (hq : Q (lI (clip v)) s) : wp_X12_qClip (lI v) s Q := by
  unfold lR at h
  have e1 : (lI v ≤ 1000000) ↔ v ≤ 1000000 := l_le (b := 1000000) ⟨⟨by omega, by omega⟩, by omega, by omega⟩
  have e2 : (-1000000 ≤ lI v) ↔ -1000000 ≤ v := by
    rw [show (-1000000 : Int64) = lI (-1000000) by decide +kernel]
    exact l_le ⟨⟨by omega, by omega⟩, by omega, by omega⟩
  unfold wp_X12_qClip
  rw [lg_cmp_le, lg_cmp_ge, e1, e2]
  unfold clip at hq
  by_cases c1 : v ≤ 1000000
  · rw [if_neg (by omega)] at hq
    refine bt c1 ?_
    by_cases c2 : -1000000 ≤ v
    · rw [if_neg (by omega)] at hq
      exact bt c2 hq
    · rw [if_pos (by omega)] at hq
      exact bf c2 hq
  · rw [if_pos (by omega)] at hq
    exact bf c1 hq
theorem m_floor {a b : Int} (ha : bd a) (hb : bd b) {s : fz_s} {Q : Int64 → fz_s → Prop} (hq : Q (lI (if b = 0 then 0 else a.fdiv b)) s) : wp_X12_qFloor (lI a) (lI b) s Q := by
  have ha' := ha
  have hb' := hb
  unfold bd at ha' hb'
  have e0 : (lI b = 0) ↔ b = 0 := l_eq (b := 0) ⟨⟨by omega, by omega⟩, by omega, by omega⟩
  unfold wp_X12_qFloor
  rw [lg_cmp_eq]
  by_cases h0 : b = 0
  · rw [if_pos h0] at hq
    exact nf (e0.mpr h0) hq
  rw [if_neg h0] at hq
  have hn := fun q => h0 (e0.mp q)
  have h1 := Int.natAbs_tdiv_le_natAbs a b
  have h2 : (a.tdiv b * b).natAbs ≤ a.natAbs := by
    rw [Int.natAbs_mul, Int.natAbs_tdiv]
    exact Nat.div_mul_le_self _ _
  refine nt hn ⟨hn, fun x1 e1 => ⟨hn, ?_⟩⟩
  rw [l_div ⟨⟨by omega, by omega⟩, ⟨by omega, by omega⟩, by omega⟩] at e1
  subst e1
  rw [l_div ⟨⟨by omega, by omega⟩, ⟨by omega, by omega⟩, by omega⟩, l_mul, l_sub, lg_cmp_eq, lg_cmp_ge]
  have e2 : (lI (a - a.tdiv b * b) = 0) ↔ a - a.tdiv b * b = 0 := l_eq (b := 0) ⟨⟨by omega, by omega⟩, by omega, by omega⟩
  have e3 : (0 ≤ lI a) ↔ 0 ≤ a := l_le (a := 0) ⟨⟨by omega, by omega⟩, by omega, by omega⟩
  have e4 : (0 ≤ lI b) ↔ 0 ≤ b := l_le (a := 0) ⟨⟨by omega, by omega⟩, by omega, by omega⟩
  have e5 : lI (a.tdiv b) - 1 = lI (a.tdiv b - 1) := l_sub _ 1
  rw [e2, e3]
  rw [fdiv_t h0] at hq
  by_cases c1 : a.tdiv b * b = a
  · rw [if_pos c1] at hq
    exact bt (by omega) hq
  rw [if_neg c1] at hq
  refine bf (by omega) ?_
  have go : ∀ u v : Bool, (u = true ↔ a < 0) → (v = true ↔ b < 0) → nd_X12_qFloor_43 Q (lI (a.tdiv b)) v u s := by
    intro u v hu hv
    unfold nd_X12_qFloor_43
    rw [e5]
    by_cases c2 : (a < 0 ↔ b < 0)
    · rw [if_pos c2] at hq
      have : u = v := by
        rw [Bool.eq_iff_iff, hu, hv]
        exact c2
      rw [this]
      exact bt rfl hq
    · rw [if_neg c2] at hq
      refine bf (fun q => c2 ?_) hq
      have hh : ∀ u v : Bool, bi u = bi v → u = v := by decide +kernel
      rw [← hu, ← hv, hh _ _ q]
  have g2 : ∀ u : Bool, (u = true ↔ a < 0) → nd_X12_qFloor_32 Q (lI b) (lI (a.tdiv b)) u s := by
    intro u hu
    unfold nd_X12_qFloor_32
    rw [lg_cmp_ge, e4]
    by_cases c3 : 0 ≤ b
    · exact bt c3 (go u false hu ⟨fun q => (by cases q), fun q => by omega⟩)
    · exact bf c3 (go u true hu ⟨fun q => by omega, fun _ => rfl⟩)
  by_cases c4 : 0 ≤ a
  · exact bt c4 (g2 false ⟨fun q => (by cases q), fun q => by omega⟩)
  · exact bf c4 (g2 true ⟨fun q => by omega, fun _ => rfl⟩)
def pP (a j : Nat) : Bool := decide (a = 271 ∨ (a = 196 ∧ j = 107))
theorem pP_f {a j : Nat} (h : ¬ (a = 271 ∨ (a = 196 ∧ j = 107))) : pP a j = false := decide_eq_false h
theorem pP_t {a j : Nat} (h : a = 271 ∨ (a = 196 ∧ j = 107)) : pP a j = true := decide_eq_true h
def MS (st : List Int) (s : fz_s) : Prop := s.1 196 107 = nI st.length ∧ StL (s.2.1 271) st
theorem gl_ne {s : fz_s} {a j b k : Nat} {v : Int64} (h : b ≠ a) : (sl s a j v).2.1 b k = s.2.1 b k := by
  rw [g_sl, if_neg (fun q => h q.1)]
theorem gl_nj {s : fz_s} {a j k : Nat} {v : Int64} (h : k ≠ j) : (sl s a j v).2.1 a k = s.2.1 a k := by
  rw [g_sl, if_neg (fun q => h q.2)]
theorem gl_eq {s : fz_s} {a j : Nat} {v : Int64} : (sl s a j v).2.1 a j = v := by
  rw [g_sl, if_pos ⟨rfl, rfl⟩]
theorem m_puts {st : List Int} {v : Int} {s : fz_s} (h : MS st s) (hl : st.length < 1700) {Q : fz_s → Prop} (hq : ∀ s', Fr pP s s' → MS (v :: st) s' → Q s') : wp_X12_qPuts (lI v) s Q := by
  unfold wp_X12_qPuts
  rw [h.1]
  refine ⟨N_in ⟨by omega, by omega⟩, fun s1 e1 s2 e2 => ?_⟩
  rw [N_cl (by omega)] at e1
  have r : s1.1 196 107 = nI st.length := by rw [e1]; exact h.1
  rw [r, show nI st.length + 1 = nI (st.length + 1) from nI_1 _] at e2
  subst e2
  refine hq _ ?_ ⟨g_eq, ?_, ?_⟩
  · rw [e1]
    exact (Fr.rf.sl (pP_t (by omega))).si (pP_t (by omega))
  · rw [e1]
    exact gl_eq
  · rw [e1]
    exact h.2.cong (fun k hk => gl_nj (by omega))
theorem m_joins {k : Nat} {a b : Int} {t : List Int} {s : fz_s} (h : MS (b :: a :: t) s) (hl : t.length < 1690) (hk : 1 ≤ k ∧ k ≤ 11) (ha : bd a) (hb : bd b) (h3 : 10 ≤ k → (a = 0 ∨ a = 1) ∧ (b = 0 ∨ b = 1)) {Q : fz_s → Prop} (hq : ∀ s', Fr pP s s' → MS (op2 (k - 1) a b :: t) s' → Q s') : wp_X12_qJoins (nI k) s Q := by
  have ha' := ha
  have hb' := hb
  unfold bd at ha' hb'
  have el : (b :: a :: t).length = t.length + 2 := rfl
  have hE : ∀ j : Nat, j < 100 → nI k = nI j → k = j := fun j k1 h => (N_eq ⟨by omega, by omega⟩).mp h
  unfold wp_X12_qJoins
  rw [h.1, el, show nI (t.length + 2) - 1 = nI (t.length + 1) from N_sub (b := 1) (by omega), show nI (t.length + 2) - 2 = nI t.length from N_sub (b := 2) (by omega)]
  refine ⟨N_in ⟨by omega, by omega⟩, fun x1 e1 => ⟨N_in ⟨by omega, by omega⟩, fun x2 e2 s3 e3 => ?_⟩⟩
  rw [N_cl (by omega)] at e1 e2
  have z1 : x1 = lI b := e1.trans h.2.1
  have z2 : x2 = lI a := e2.trans h.2.2.1
  have h3' : MS t s3 := by
    rw [e3]
    exact ⟨g_eq, h.2.2.2⟩
  have hF3 : Fr pP s s3 := by
    rw [e3]
    exact Fr.rf.si (pP_t (by omega))
  clear e1 e2 e3
  subst z1
  subst z2
  have fin : ∀ z : Int, op2 (k - 1) a b = z → wp_X12_qPuts (lI z) s3 Q := by
    intro z hz
    refine m_puts h3' (by omega) (fun s' hF' h' => hq s' (hF3.tr hF') ?_)
    rw [hz]
    exact h'
  have f0 : op2 (k - 1) a b = 0 → wp_X12_qPuts 0 s3 Q := fin 0
  have f1 : op2 (k - 1) a b = 1 → wp_X12_qPuts 1 s3 Q := fin 1
  have ele : (lI a ≤ lI b) ↔ a ≤ b := l_le ⟨⟨by omega, by omega⟩, by omega, by omega⟩
  have ege : (lI b ≤ lI a) ↔ b ≤ a := l_le ⟨⟨by omega, by omega⟩, by omega, by omega⟩
  have eeq : (lI a = lI b) ↔ a = b := l_eq ⟨⟨by omega, by omega⟩, by omega, by omega⟩
  refine ⟨fun h => ?_, fun h => ?_, fun h => ?_, fun h => ?_, fun h => ?_, fun h => ?_, fun h => ?_, fun h => ?_, fun h => ?_, fun h => ?_, fun h => ?_⟩
  · simp only [N_lit] at h
    have hc := hE 1 (by omega) h
    have e0 : op2 (k - 1) a b = (clip (a + b)) := by
      rw [hc]
      unfold op2
      rw [if_pos rfl]
    rw [l_add]
    exact m_clip (add_lR ha hb) (fin _ e0)
  · simp only [N_lit] at h
    have hc := hE 2 (by omega) h
    have e0 : op2 (k - 1) a b = (clip (a - b)) := by
      rw [hc]
      unfold op2
      rw [if_neg (by decide), if_pos rfl]
    rw [l_sub]
    exact m_clip (sub_lR ha hb) (fin _ e0)
  · simp only [N_lit] at h
    have hc := hE 3 (by omega) h
    have e0 : op2 (k - 1) a b = (clip (a * b)) := by
      rw [hc]
      unfold op2
      rw [if_neg (by decide), if_neg (by decide), if_pos rfl]
    rw [l_mul]
    exact m_clip (mul_lR ha hb) (fin _ e0)
  · simp only [N_lit] at h
    have hc := hE 4 (by omega) h
    have e0 : op2 (k - 1) a b = (if b = 0 then 0 else a.fdiv b) := by
      rw [hc]
      unfold op2
      rw [if_neg (by decide), if_neg (by decide), if_neg (by decide), if_pos rfl]
    exact m_floor ha hb (fin _ e0)
  · simp only [N_lit] at h
    have hc := hE 5 (by omega) h
    have e0 : op2 (k - 1) a b = (if a < b then a else b) := by
      rw [hc]
      unfold op2
      rw [if_neg (by decide), if_neg (by decide), if_neg (by decide), if_neg (by decide), if_pos rfl]
    rw [lg_cmp_ge, ege]
    by_cases c : b ≤ a
    · exact bt c (fin _ (e0.trans (if_neg (by omega))))
    · exact bf c (fin _ (e0.trans (if_pos (by omega))))
  · simp only [N_lit] at h
    have hc := hE 6 (by omega) h
    have e0 : op2 (k - 1) a b = (if b < a then a else b) := by
      rw [hc]
      unfold op2
      rw [if_neg (by decide), if_neg (by decide), if_neg (by decide), if_neg (by decide), if_neg (by decide), if_pos rfl]
    rw [lg_cmp_le, ele]
    by_cases c : a ≤ b
    · exact bt c (fin _ (e0.trans (if_neg (by omega))))
    · exact bf c (fin _ (e0.trans (if_pos (by omega))))
  · simp only [N_lit] at h
    have hc := hE 7 (by omega) h
    have e0 : op2 (k - 1) a b = (if a < b then 1 else 0) := by
      rw [hc]
      unfold op2
      rw [if_neg (by decide), if_neg (by decide), if_neg (by decide), if_neg (by decide), if_neg (by decide), if_neg (by decide), if_pos rfl]
    rw [lg_cmp_ge, ege]
    by_cases c : b ≤ a
    · exact bt c (f0 (e0.trans (if_neg (by omega))))
    · exact bf c (f1 (e0.trans (if_pos (by omega))))
  · simp only [N_lit] at h
    have hc := hE 8 (by omega) h
    have e0 : op2 (k - 1) a b = (if b < a then 1 else 0) := by
      rw [hc]
      unfold op2
      rw [if_neg (by decide), if_neg (by decide), if_neg (by decide), if_neg (by decide), if_neg (by decide), if_neg (by decide), if_neg (by decide), if_pos rfl]
    rw [lg_cmp_le, ele]
    by_cases c : a ≤ b
    · exact bt c (f0 (e0.trans (if_neg (by omega))))
    · exact bf c (f1 (e0.trans (if_pos (by omega))))
  · simp only [N_lit] at h
    have hc := hE 9 (by omega) h
    have e0 : op2 (k - 1) a b = (if a = b then 1 else 0) := by
      rw [hc]
      unfold op2
      rw [if_neg (by decide), if_neg (by decide), if_neg (by decide), if_neg (by decide), if_neg (by decide), if_neg (by decide), if_neg (by decide), if_neg (by decide), if_pos rfl]
    rw [lg_cmp_eq, eeq]
    by_cases c : a = b
    · exact nf c (f1 (e0.trans (if_pos c)))
    · exact nt c (f0 (e0.trans (if_neg c)))
  · simp only [N_lit] at h
    have hc := hE 10 (by omega) h
    have e0 : op2 (k - 1) a b = (a * b) := by
      rw [hc]
      unfold op2
      rw [if_neg (by decide), if_neg (by decide), if_neg (by decide), if_neg (by decide), if_neg (by decide), if_neg (by decide), if_neg (by decide), if_neg (by decide), if_neg (by decide), if_pos rfl]
    rw [l_mul]
    exact fin _ e0
  · have hc : k = 11 := Decidable.byContradiction fun hz => by
      rcases (show k = 1 ∨ k = 2 ∨ k = 3 ∨ k = 4 ∨ k = 5 ∨ k = 6 ∨ k = 7 ∨ k = 8 ∨ k = 9 ∨ k = 10 by omega) with rfl | rfl | rfl | rfl | rfl | rfl | rfl | rfl | rfl | rfl
      · exact h.1 rfl
      · exact h.2.1 rfl
      · exact h.2.2.1 rfl
      · exact h.2.2.2.1 rfl
      · exact h.2.2.2.2.1 rfl
      · exact h.2.2.2.2.2.1 rfl
      · exact h.2.2.2.2.2.2.1 rfl
      · exact h.2.2.2.2.2.2.2.1 rfl
      · exact h.2.2.2.2.2.2.2.2.1 rfl
      · exact h.2.2.2.2.2.2.2.2.2 rfl
    have e0 : op2 (k - 1) a b = (if 0 < a + b then 1 else 0) := by
      rw [hc]
      unfold op2
      rw [if_neg (by decide), if_neg (by decide), if_neg (by decide), if_neg (by decide), if_neg (by decide), if_neg (by decide), if_neg (by decide), if_neg (by decide), if_neg (by decide), if_neg (by decide)]
    have e9 : (lI (a + b) ≤ 0) ↔ a + b ≤ 0 := l_le (b := 0) ⟨⟨by omega, by omega⟩, by omega, by omega⟩
    rw [l_add, lg_cmp_le, e9]
    by_cases c : a + b ≤ 0
    · exact bt c (f0 (e0.trans (if_neg (by omega))))
    · exact bf c (f1 (e0.trans (if_pos (by omega))))

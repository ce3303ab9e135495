theorem c_end {v : Int} (h : lR v) {x : Int64} (hx : x = lI v) {s : fz_s} {Q : Int32 → fz_s → Prop} (hq : Q (iI (clip v)) s) : nd_X7_ofTwo_183 Q x s := by
  subst hx
  unfold nd_X7_ofTwo_183
  rw [clipL h]
  exact hq
theorem b_lR {v : Int} (h : bd v) : lR v := by
  unfold bd at h
  unfold lR
  omega
theorem add_lR {a b : Int} (ha : bd a) (hb : bd b) : lR (a + b) := by
  unfold bd at ha hb
  unfold lR
  omega
theorem sub_lR {a b : Int} (ha : bd a) (hb : bd b) : lR (a - b) := by
  unfold bd at ha hb
  unfold lR
  omega
theorem c_ofTwo {c : Nat} {a b : Int} (h1 : 20003 ≤ c) (h2 : c ≤ 20013) (ha : bd a) (hb : bd b) (h3 : 20012 ≤ c → (a = 0 ∨ a = 1) ∧ (b = 0 ∨ b = 1)) {s : fz_s} {Q : Int32 → fz_s → Prop} (hq : Q (iI (op2 (c - 20003) a b)) s) : wp_X7_ofTwo (nI c) (iI a) (iI b) s Q := by
  have hab : bd (op2 (c - 20003) a b) := op2_bd ha hb (fun h => h3 (by omega))
  have hE : ∀ k : Nat, 20003 ≤ k → k ≤ 20013 → nI c = nI k → c = k := fun k k1 k2 h => (N_eq ⟨by omega, by omega⟩).mp h
  have ra : -2147483648 ≤ a ∧ a < 2147483648 := by unfold bd at ha; omega
  have rb : -2147483648 ≤ b ∧ b < 2147483648 := by unfold bd at hb; omega
  have ll : ∀ {v : Int}, bd v → Q (iI v) s → nd_X7_ofTwo_183 Q (lI v) s := fun hv h => c_end (b_lR hv) rfl (by rw [clip_id hv]; exact h)
  have h0 : bd 0 := by unfold bd; omega
  have h11 : bd 1 := by unfold bd; omega
  have ll0 : Q (iI 0) s → nd_X7_ofTwo_183 Q 0 s := fun h => by rw [show (0 : Int64) = lI 0 by decide +kernel]; exact ll h0 h
  have ll1 : Q (iI 1) s → nd_X7_ofTwo_183 Q 1 s := fun h => by rw [show (1 : Int64) = lI 1 by decide +kernel]; exact ll h11 h
  unfold wp_X7_ofTwo
  refine ⟨fun h => ?_, fun h => ?_, fun h => ?_, fun h => ?_, fun h => ?_, fun h => ?_, fun h => ?_, fun h => ?_, fun h => ?_, fun h => ?_, fun h => ?_, fun h => ?_⟩
  · simp only [N_lit] at h
    have hc := hE 20003 (by omega) (by omega) h
    have e0 : op2 0 a b = (clip (a + b)) := by
      unfold op2
      rw [if_pos rfl]
    rw [show c - 20003 = 0 by omega, e0] at hq hab
    intro x hx
    have e1 : (iI a).toInt64 + (iI b).toInt64 = lI (a + b) := by rw [i_64 ra, i_64 rb, l_add]
    exact c_end (v := a + b) (add_lR ha hb) (hx.trans e1) hq
  · simp only [N_lit] at h
    have hc := hE 20004 (by omega) (by omega) h
    have e0 : op2 1 a b = (clip (a - b)) := by
      unfold op2
      rw [if_neg (by decide), if_pos rfl]
    rw [show c - 20003 = 1 by omega, e0] at hq hab
    intro x hx
    have e1 : (iI a).toInt64 - (iI b).toInt64 = lI (a - b) := by rw [i_64 ra, i_64 rb, l_sub]
    exact c_end (v := a - b) (sub_lR ha hb) (hx.trans e1) hq
  · simp only [N_lit] at h
    have hc := hE 20005 (by omega) (by omega) h
    have e0 : op2 2 a b = (clip (a * b)) := by
      unfold op2
      rw [if_neg (by decide), if_neg (by decide), if_pos rfl]
    rw [show c - 20003 = 2 by omega, e0] at hq hab
    intro x hx
    have e1 : (iI a).toInt64 * (iI b).toInt64 = lI (a * b) := by rw [i_64 ra, i_64 rb, l_mul]
    exact c_end (v := a * b) (mul_lR ha hb) (hx.trans e1) hq
  · simp only [N_lit] at h
    have hc := hE 20006 (by omega) (by omega) h
    have e0 : op2 3 a b = (if b = 0 then 0 else a.fdiv b) := by
      unfold op2
      rw [if_neg (by decide), if_neg (by decide), if_neg (by decide), if_pos rfl]
    rw [show c - 20003 = 3 by omega, e0] at hq hab
    have e1 : (iI b = 0) ↔ b = 0 := i_eq (b := 0) ⟨rb, by omega, by omega⟩
    by_cases hz : b = 0
    · rw [if_pos hz] at hq
      exact nf (e1.mpr hz) (ll0 hq)
    · rw [if_neg hz] at hq hab
      refine nt (fun q => hz (e1.mp q)) (c_fd ha hb hz ?_)
      intro x hx
      rw [i_64 (by unfold bd at hab; omega)] at hx
      subst hx
      exact ll hab hq
  · simp only [N_lit] at h
    have hc := hE 20007 (by omega) (by omega) h
    have e0 : op2 4 a b = (if a < b then a else b) := by
      unfold op2
      rw [if_neg (by decide), if_neg (by decide), if_neg (by decide), if_neg (by decide), if_pos rfl]
    rw [show c - 20003 = 4 by omega, e0] at hq hab
    intro x hx
    have e1 : (iI b < iI a) ↔ b < a := i_lt ⟨rb, ra⟩
    have e2 : (if iI b < iI a then iI b else iI a) = iI (if a < b then a else b) := by
      by_cases hz : b < a
      · rw [if_pos (e1.mpr hz), if_neg (by omega)]
      · rw [if_neg (fun q => hz (e1.mp q))]
        split
        · rfl
        · exact congrArg iI (by omega)
    rw [e2, i_64 (by unfold bd at hab; omega)] at hx
    subst hx
    exact ll hab hq
  · simp only [N_lit] at h
    have hc := hE 20008 (by omega) (by omega) h
    have e0 : op2 5 a b = (if b < a then a else b) := by
      unfold op2
      rw [if_neg (by decide), if_neg (by decide), if_neg (by decide), if_neg (by decide), if_neg (by decide), if_pos rfl]
    rw [show c - 20003 = 5 by omega, e0] at hq hab
    intro x hx
    have e1 : (iI a < iI b) ↔ a < b := i_lt ⟨ra, rb⟩
    have e2 : (if iI a < iI b then iI b else iI a) = iI (if b < a then a else b) := by
      by_cases hz : a < b
      · rw [if_pos (e1.mpr hz), if_neg (by omega)]
      · rw [if_neg (fun q => hz (e1.mp q))]
        split
        · rfl
        · exact congrArg iI (by omega)
    rw [e2, i_64 (by unfold bd at hab; omega)] at hx
    subst hx
    exact ll hab hq
  · simp only [N_lit] at h
    have hc := hE 20009 (by omega) (by omega) h
    have e0 : op2 6 a b = (if a < b then 1 else 0) := by
      unfold op2
      rw [if_neg (by decide), if_neg (by decide), if_neg (by decide), if_neg (by decide), if_neg (by decide), if_neg (by decide), if_pos rfl]
    rw [show c - 20003 = 6 by omega, e0] at hq hab
    have e1 : (iI b ≤ iI a) ↔ b ≤ a := i_le ⟨rb, ra⟩
    by_cases hz : b ≤ a
    · rw [if_neg (by omega)] at hq
      exact bt (e1.mpr hz) (ll0 hq)
    · rw [if_pos (by omega)] at hq
      exact bf (fun q => hz (e1.mp q)) (ll1 hq)
  · simp only [N_lit] at h
    have hc := hE 20010 (by omega) (by omega) h
    have e0 : op2 7 a b = (if b < a then 1 else 0) := by
      unfold op2
      rw [if_neg (by decide), if_neg (by decide), if_neg (by decide), if_neg (by decide), if_neg (by decide), if_neg (by decide), if_neg (by decide), if_pos rfl]
    rw [show c - 20003 = 7 by omega, e0] at hq hab
    have e1 : (iI a ≤ iI b) ↔ a ≤ b := i_le ⟨ra, rb⟩
    by_cases hz : a ≤ b
    · rw [if_neg (by omega)] at hq
      exact bt (e1.mpr hz) (ll0 hq)
    · rw [if_pos (by omega)] at hq
      exact bf (fun q => hz (e1.mp q)) (ll1 hq)
  · simp only [N_lit] at h
    have hc := hE 20011 (by omega) (by omega) h
    have e0 : op2 8 a b = (if a = b then 1 else 0) := by
      unfold op2
      rw [if_neg (by decide), if_neg (by decide), if_neg (by decide), if_neg (by decide), if_neg (by decide), if_neg (by decide), if_neg (by decide), if_neg (by decide), if_pos rfl]
    rw [show c - 20003 = 8 by omega, e0] at hq hab
    have e1 : (iI a = iI b) ↔ a = b := i_eq ⟨ra, rb⟩
    by_cases hz : a = b
    · rw [if_pos hz] at hq
      exact nf (e1.mpr hz) (ll1 hq)
    · rw [if_neg hz] at hq
      exact nt (fun q => hz (e1.mp q)) (ll0 hq)
  · simp only [N_lit] at h
    have hc := hE 20012 (by omega) (by omega) h
    have e0 : op2 9 a b = (a * b) := by
      unfold op2
      rw [if_neg (by decide), if_neg (by decide), if_neg (by decide), if_neg (by decide), if_neg (by decide), if_neg (by decide), if_neg (by decide), if_neg (by decide), if_neg (by decide), if_pos rfl]
    rw [show c - 20003 = 9 by omega, e0] at hq hab
    obtain ⟨q1, q2⟩ := h3 (by omega)
    intro x hx
    rcases q1 with rfl | rfl <;> rcases q2 with rfl | rfl
    · rw [show (iI 0 &&& iI 0).toInt64 = lI 0 by decide +kernel] at hx
      subst hx
      exact ll (v := 0) (by unfold bd; omega) hq
    · rw [show (iI 0 &&& iI 1).toInt64 = lI 0 by decide +kernel] at hx
      subst hx
      exact ll (v := 0) (by unfold bd; omega) hq
    · rw [show (iI 1 &&& iI 0).toInt64 = lI 0 by decide +kernel] at hx
      subst hx
      exact ll (v := 0) (by unfold bd; omega) hq
    · rw [show (iI 1 &&& iI 1).toInt64 = lI 1 by decide +kernel] at hx
      subst hx
      exact ll (v := 1) (by unfold bd; omega) hq
  · simp only [N_lit] at h
    have hc := hE 20013 (by omega) (by omega) h
    have e0 : op2 10 a b = (if 0 < a + b then 1 else 0) := by
      unfold op2
      rw [if_neg (by decide), if_neg (by decide), if_neg (by decide), if_neg (by decide), if_neg (by decide), if_neg (by decide), if_neg (by decide), if_neg (by decide), if_neg (by decide), if_neg (by decide)]
    rw [show c - 20003 = 10 by omega, e0] at hq hab
    obtain ⟨q1, q2⟩ := h3 (by omega)
    intro x hx
    rcases q1 with rfl | rfl <;> rcases q2 with rfl | rfl
    · rw [show (iI 0 ||| iI 0).toInt64 = lI 0 by decide +kernel] at hx
      subst hx
      exact ll (v := 0) (by unfold bd; omega) hq
    · rw [show (iI 0 ||| iI 1).toInt64 = lI 1 by decide +kernel] at hx
      subst hx
      exact ll (v := 1) (by unfold bd; omega) hq
    · rw [show (iI 1 ||| iI 0).toInt64 = lI 1 by decide +kernel] at hx
      subst hx
      exact ll (v := 1) (by unfold bd; omega) hq
    · rw [show (iI 1 ||| iI 1).toInt64 = lI 1 by decide +kernel] at hx
      subst hx
      exact ll (v := 1) (by unfold bd; omega) hq
  · exfalso
    simp (disch := omega) only [N_lit, N_eq] at h
    omega

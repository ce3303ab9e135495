theorem xor_sgn (x y : Int32) : (0 ≤ (x ^^^ y)) ↔ ((x.toInt < 0) ↔ (y.toInt < 0)) := by
  have h1 : (x ^^^ y).toBitVec.msb = (x.toBitVec.msb ^^ y.toBitVec.msb) := BitVec.msb_xor
  rw [BitVec.msb_eq_toInt, BitVec.msb_eq_toInt, BitVec.msb_eq_toInt] at h1
  have h2 : (0 ≤ (x ^^^ y)) ↔ ¬ ((x ^^^ y).toBitVec.toInt < 0) := by
    rw [Int32.le_iff_toInt_le]
    show (0 : Int) ≤ _ ↔ ¬ ((x ^^^ y).toInt < 0)
    omega
  rw [h2]
  have h3 : (x.toBitVec.toInt) = x.toInt := rfl
  have h4 : (y.toBitVec.toInt) = y.toInt := rfl
  rw [h3, h4] at h1
  by_cases a : x.toInt < 0 <;> by_cases b : y.toInt < 0 <;> simp [a, b] at h1 ⊢ <;> omega
theorem fdiv_t {a b : Int} (hb : b ≠ 0) : a.fdiv b = if a.tdiv b * b = a then a.tdiv b else if (a < 0 ↔ b < 0) then a.tdiv b else a.tdiv b - 1 := by
  have h1 : a.fdiv b = _ := Int.fdiv_eq_tdiv
  have h2 : a.tdiv b * b = a ↔ b ∣ a := by
    constructor
    · intro h
      exact ⟨a.tdiv b, by rw [Int.mul_comm]; exact h.symm⟩
    · intro h
      exact Int.tdiv_mul_cancel h
  rw [h1]
  by_cases hd : b ∣ a
  · rw [if_pos (h2.mpr hd), if_pos hd]; omega
  · rw [if_neg (fun q => hd (h2.mp q)), if_neg hd]
    have ha : a ≠ 0 := fun q => hd (by rw [q]; exact ⟨0, by omega⟩)
    by_cases h : 0 ≤ a <;> by_cases h' : 0 ≤ b
    · rw [if_pos h, if_pos h', if_pos (⟨fun q => by omega, fun q => by omega⟩ : (a < 0 ↔ b < 0))]
      omega
    · rw [if_pos h, if_neg h', if_neg (fun q : (a < 0 ↔ b < 0) => by have := q.mpr (by omega); omega)]
    · rw [if_neg h, if_pos h', if_neg (fun q : (a < 0 ↔ b < 0) => by have := q.mp (by omega); omega), Int.sign_eq_one_of_pos (by omega)]
    · rw [if_neg h, if_neg h', if_pos (⟨fun q => by omega, fun q => by omega⟩ : (a < 0 ↔ b < 0)), Int.sign_eq_neg_one_of_neg (by omega)]
      omega
theorem c_fd {a b : Int} (ha : bd a) (hb : bd b) (h0 : b ≠ 0) {s : fz_s} {Q : Int32 → fz_s → Prop} (hq : Q (iI (a.fdiv b)) s) : wp_J9_floorDiv_7cf53 (iI a) (iI b) s Q := by
  unfold bd at ha hb
  have e0 : (iI b = 0) ↔ b = 0 := i_eq (b := 0) ⟨⟨by omega, by omega⟩, by omega, by omega⟩
  have hx : (0 ≤ (iI a ^^^ iI b)) ↔ ((a < 0) ↔ (b < 0)) := by
    rw [xor_sgn, i_toInt ⟨by omega, by omega⟩, i_toInt ⟨by omega, by omega⟩]
  have h1 := Int.natAbs_tdiv_le_natAbs a b
  have hm : (iI (a.tdiv b) * iI b = iI a) ↔ a.tdiv b * b = a := by
    rw [i_mul, i_eq ⟨?_, by omega, by omega⟩]
    have h2 : (a.tdiv b * b).natAbs ≤ a.natAbs := by
      rw [Int.natAbs_mul, Int.natAbs_tdiv]
      exact Nat.div_mul_le_self _ _
    omega
  unfold wp_J9_floorDiv_7cf53
  refine ⟨fun q => h0 (e0.mp q), fun x1 e1 => ?_⟩
  rw [i_div ⟨⟨by omega, by omega⟩, ⟨by omega, by omega⟩, by omega⟩] at e1
  subst e1
  rw [hx, hm]
  rw [fdiv_t h0] at hq
  by_cases c1 : a.tdiv b * b = a
  · rw [if_pos c1] at hq
    refine ⟨fun _ => hq, fun _ => ⟨fun _ => hq, fun q => absurd c1 q⟩⟩
  · rw [if_neg c1] at hq
    by_cases c2 : (a < 0 ↔ b < 0)
    · rw [if_pos c2] at hq
      exact ⟨fun _ => hq, fun q => absurd c2 q⟩
    · rw [if_neg c2] at hq
      refine ⟨fun q => absurd q c2, fun _ => ⟨fun q => absurd q c1, fun _ => ?_⟩⟩
      show Q (iI (a.tdiv b) - iI 1) s
      rw [i_sub]
      exact hq
theorem clipL {v : Int} (h : lR v) : (if (if lI v < 1000000 then lI v else 1000000) < (-1000000) then (-1000000) else (if lI v < 1000000 then lI v else 1000000)).toInt32 = iI (clip v) := by
  unfold lR at h
  have e1 : (lI v < 1000000) ↔ v < 1000000 := l_lt (b := 1000000) ⟨⟨by omega, by omega⟩, by omega, by omega⟩
  have e2 : (lI v < -1000000) ↔ v < -1000000 := l_lt (b := -1000000) ⟨⟨by omega, by omega⟩, by omega, by omega⟩
  have e3 : ¬ ((1000000 : Int64) < -1000000) := by decide
  unfold clip
  by_cases c1 : v < 1000000
  · rw [if_pos (e1.mpr c1)]
    by_cases c2 : v < -1000000
    · rw [if_pos (e2.mpr c2), if_neg (by omega), if_pos c2]
      rfl
    · rw [if_neg (fun q => c2 (e2.mp q)), if_neg (by omega), if_neg c2, l_32]
  · rw [if_neg (fun q => c1 (e1.mp q)), if_neg e3]
    by_cases c3 : 1000000 < v
    · rw [if_pos c3]
      rfl
    · rw [if_neg c3, if_neg (by omega), show v = 1000000 by omega]
      rfl
theorem clip_id {v : Int} (h : bd v) : clip v = v := by
  unfold bd at h
  unfold clip
  rw [if_neg (by omega), if_neg (by omega)]
theorem mul_lR {a b : Int} (ha : bd a) (hb : bd b) : lR (a * b) := by
  unfold bd at ha hb
  unfold lR
  have h1 : (a * b).natAbs ≤ 1000000 * 1000000 := by
    rw [Int.natAbs_mul]
    exact Nat.mul_le_mul (by omega) (by omega)
  omega

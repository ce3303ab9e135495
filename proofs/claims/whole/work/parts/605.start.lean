theorem law_mid {INV : fz_s → fz_s → Prop} (hE : EQ_all INV) {g : fz_G} {l : Launch} {d : Nat} (hd : 79 ≤ d) (hL : g.2.2.2.2.2.1 ≤ 3072) {h4 : fz_H} {x : fz_s} (hs4 : fz_to g.2.2.2.2.2.1 h4 273) (q1 : h4.2.1 = x.1) (q2 : h4.2.2.1 = x.2.1) (q3 : ∀ a j, a < 273 → j < (fz_ptr.getD a []).length → h4.2.2.2 a j = fz_P0 x.2.2 a j) (q4 : ∀ j, x.1 0 j = g.2.2.2.2.2.2.1 j) (hI : INV x x) {Q : Option Value → fz_H → Prop} (hQ : ∀ {h}, Q (some (.int 1)) h) : fz_V g l m_L (d + 1) 0 0 18 [.ref 0, .ref 2, .ref 196, .int 0] [] h4 Q := by
  have hlen := hs4.len
  refine fv_cong (h2 := fz_hx g x x) (fun H locs hR => hR.conv ?_ ?_ ?_ ?_ ?_) ?_
  · rw [hs4.1]
    have h0 : (fz_all g.2.2.2.2.2.1).length = 273 := by show fz_cells.length + 1 + 1 = 273; rw [show fz_cells.length = 271 by decide +kernel]
    rw [List.take_of_length_le (by rw [h0]; exact Nat.le_refl _)]
    rfl
  · intro a ha
    show (if a = 0 then _ else if a < 196 then x.1 a else x.1 a) = _
    rw [if_neg (by omega), q1]
    split <;> rfl
  · intro a ha
    show (if a < 196 then x.2.1 a else x.2.1 a) = _
    rw [q2]
    split <;> rfl
  · intro a κ n j h2 hx hk hj
    have ha : a < 273 := by have := fz_lt hx; rw [hlen] at this; exact this
    have hc : fz_cells[a - 2]? = some (κ, n) := by
      rw [hs4.1, List.getElem?_take, if_pos ha] at hx
      match a, h2, hx with
      | a + 2, _, hx => exact hx
    have h9 := List.all_eq_true.mp fz_ptr_len (a - 2) (List.mem_range.mpr (by omega))
    rw [List.getD_eq_getElem?_getD, hc] at h9
    have h10 : (fz_ptr.getD (a - 2 + 2) []).length = n := by
      rcases Bool.or_eq_true _ _ ▸ h9 with z | z
      · rw [Bool.and_eq_true] at z
        exact absurd ⟨of_decide_eq_true z.1, of_decide_eq_true z.2⟩ hk
      · exact of_decide_eq_true z
    rw [Nat.sub_add_cancel h2] at h10
    exact (q3 a j ha (by rw [h10]; exact hj)).symm
  · intro j hj
    rfl
  · exact law_loop hE hd hL hQ (g.2.2.2.2.2.1 + 7) (i := 0) (j := 0) (by omega) rfl (by omega) hI

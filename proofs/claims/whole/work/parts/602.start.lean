theorem fz_ws_ix {g : fz_G} {h : fz_H} {k : Nat} {q : Nat × va_E} (hk : (fz_ws g h)[k]? = some q) : k + 2 < h.1.length ∧ q = (g.2.2.2.1.size + k, fz_ce g h (k + 2)) := by
  unfold fz_ws at hk
  rw [List.getElem?_map] at hk
  cases hr : (List.range (h.1.length - 2))[k]? with
  | none => rw [hr] at hk; cases hk
  | some j =>
    rw [hr] at hk
    obtain ⟨hlt, hj⟩ := List.getElem?_eq_some_iff.mp hr
    rw [List.length_range] at hlt
    rw [List.getElem_range] at hj
    subst hj
    exact ⟨by omega, (Option.some.inj hk).symm⟩
theorem fz_wsD (g : fz_G) (h : fz_H) : va_D (fz_A g) (fz_ws g h) := by
  refine ⟨fun i j p q hi hj e => ?_, fun k q hk => ?_⟩
  · obtain ⟨-, rfl⟩ := fz_ws_ix hi
    obtain ⟨-, rfl⟩ := fz_ws_ix hj
    exact Nat.add_left_cancel e
  · obtain ⟨-, rfl⟩ := fz_ws_ix hk
    exact Nat.le_add_right _ _
theorem fz_arrV {c : ClassId} {N : Nat} {f f' : Nat → Value} (h : ∀ j, j < N → f j = f' j) : arrV c N f = arrV c N f' := by
  unfold arrV
  congr 1
  congr 1
  funext j
  exact h j.val j.isLt
/-- a picture that says the same of the cells -/
theorem fz_Rel.conv {g : fz_G} {h h2 : fz_H} {H : Heap} {locs : List Loc} (hR : fz_Rel g h H locs) (hs : h2.1 = h.1) (hI : ∀ a, 2 ≤ a → h2.2.1 a = h.2.1 a) (hL : ∀ a, 2 ≤ a → h2.2.2.1 a = h.2.2.1 a) (hP : ∀ a κ n j, 2 ≤ a → h.1[a]? = some (κ, n) → ¬ (13 ≤ κ ∧ κ ≤ 16) → j < n → h2.2.2.2 a j = h.2.2.2 a j) (h0 : ∀ j, j < g.2.2.2.2.2.1 → h2.2.1 0 j = g.2.2.2.2.2.2.1 j) : fz_Rel g h2 H locs := by
  obtain ⟨hp, hD, hS, hz, h3, h4, h5, h6⟩ := hR
  refine ⟨fun k q hk => ?_, fz_wsD g h2, hS, by rw [hs]; exact hz, by rw [hs]; exact h3, by rw [hs]; exact h4, by rw [hs]; exact h5, h0⟩
  obtain ⟨hlt, rfl⟩ := fz_ws_ix hk
  rw [hs] at hlt
  have hold := hp (k + 2 - 2) _ (fz_ws_at (g := g) (a := k + 2) (by omega) hlt)
  have had : fz_ad g (k + 2) = g.2.2.2.1.size + k := by rw [fz_ad_ge (by omega)]; rfl
  rw [had] at hold
  obtain ⟨⟨κ, n⟩, hx⟩ : ∃ x, h.1[k + 2]? = some x := ⟨_, List.getElem?_eq_getElem hlt⟩
  have hx2 : h2.1[k + 2]? = some (κ, n) := by rw [hs]; exact hx
  have eI := hI (k + 2) (by omega)
  have eL := hL (k + 2) (by omega)
  by_cases k17 : κ = 17
  · subst k17
    rw [fz_ce17 hx] at hold
    rw [fz_ce17 hx2]
    show H[_]? = some (vp_cell _ _)
    have hold' : H[g.2.2.2.1.size + k]? = some (vp_cell _ _) := hold
    rw [hold', vp_cell_q, vp_cell_q]
    exact congrArg some (fz_arrV fun j hj => by rw [hP _ _ _ j (by omega) hx (by omega) hj])
  · have hce : fz_ce g h2 (k + 2) = fz_ce g h (k + 2) := by
      unfold fz_ce
      rw [fz_gd hx, fz_gd hx2]
      split
      · rw [eI]
      · rw [eI]
      · rw [eL]
      · rw [eI]
      · rename_i q; exact absurd (congrArg Prod.fst q) k17
      · rename_i ci n' g1 g2 g3 g4 g5 q
        cases q
        have hk : ¬ (13 ≤ κ ∧ κ ≤ 16) := by
          rintro ⟨z1, z2⟩
          rcases (show κ = 13 ∨ κ = 14 ∨ κ = 15 ∨ κ = 16 by omega) with rfl | rfl | rfl | rfl
          · exact g1 rfl
          · exact g2 rfl
          · exact g3 rfl
          · exact g4 rfl
        congr 2
        refine List.map_congr_left fun j hj => ?_
        unfold fz_v
        rw [eI, eL, hP _ _ _ j (by omega) hx hk (List.mem_range.mp hj)]
    rw [hce]
    exact hold
theorem fv_cong {g : fz_G} {l : Launch} {μ : fz_M} {d ra rb pc : Nat} {ls st : List Value} {h h2 : fz_H} {Q : Option Value → fz_H → Prop} (hc : ∀ H locs, fz_Rel g h H locs → fz_Rel g h2 H locs) (k : fz_V g l μ d ra rb pc ls st h2 Q) : fz_V g l μ d ra rb pc ls st h Q := fun p e R s m args below meth c H locs cells slots lc Mc Ms QQ C RM hl hR hE => k p e R s m args below meth c H locs cells slots lc Mc Ms QQ C RM hl (hc H locs hR) hE

set_option maxRecDepth 100000 in
set_option maxHeartbeats 4000000 in
/-- the claim's start out of what class and reference keep -/
theorem whole_open {INV : fz_s → fz_s → Prop} (hE : EQ_all INV) (hI : ∀ L xs, INV (x_0 L xs) (x_0 L xs)) (h0s : ∀ L xs j, (x_0 L xs).1 0 j = xs j) {p : Program} {e : Env} {s : State} {m : MethodId} {below : List Frame} {meth : Method} {c : Code} (l : Launch) {b L : Nat} {xs : Nat → Int32} (hL : L ≤ 3072) (C0 : lw_At p s m meth c b L xs) : W p l e room_1 s m #[Value.ref b] below meth c s.heap [] 0 0 (lw_Z below #[Value.ref b] s) (entryFrame m ([Value.ref b] : List Value).toArray 4) := by
  obtain ⟨hx, hb, hr, hml, hown, hts, hX, hbl, hlocks, hgv⟩ := id C0
  have hts' : ∀ w ∈ fz_T, w.before #[Value.ref b] s = true := fun w h => hts w (List.mem_filter.mp h).1
  have hAn : ∀ a : Nat, a < s.heap.size → ¬ (fun q : Nat => s.heap.size ≤ q) a := fun a h => Nat.not_le.mpr h
  have hcl : ∀ k : Nat, ∃ y : ClassId × (Nat → Nat), ∀ q, vwCl[k]? = some q → u_Kn s q.1 q.2.1 q.2.2 y.1 y.2 := by
    intro k
    cases hq : vwCl[k]? with
    | none => exact ⟨(m.cls, fun _ => 0), fun q h => by cases h⟩
    | some q =>
      obtain ⟨C, T, N⟩ := q
      obtain ⟨-, q2, -⟩ := fz_cls hq
      obtain ⟨cC, iS, h⟩ := u_known (C := C) (T := T) (N := N) (n := N) hts (fun w hw => (List.mem_filter.mp (q2 w hw)).1) (hts' _ (fz_insts hq))
      exact ⟨(cC, iS), fun q h2 => by cases h2; exact h⟩
  obtain ⟨fC, hfC⟩ := Classical.axiomOfChoice hcl
  obtain ⟨cC, kC, mC, c1, c2, c3⟩ := Cond.arrayClass_spec (hts' _ fw_arrC)
  obtain ⟨cI, kI, mI, i1, i2, i3⟩ := Cond.arrayClass_spec (hts' _ fw_arrI)
  obtain ⟨cJ, kJ, mJ, j1, j2, j3⟩ := Cond.arrayClass_spec (hts' _ fw_arrJ)
  obtain ⟨cZ, kZ, mZ, z1, z2, z3⟩ := Cond.arrayClass_spec (hts' _ fw_arrZ)
  obtain ⟨oW, cW, kW, w1, -, w3, w4, w5⟩ := Cond.arrayOver_spec (hts _ fz_wAO)
  have hfl := flat_of_before _ hgv
  obtain ⟨adK, adV, hvS, hev⟩ := vk_Sof (N := 1) (tm := fun _ => .string "FoolTrade$Tokens" 57) (len := [177]) (byt := [fz_bytes]) (A := fun q : Nat => s.heap.size ≤ q) (by intro i hi; rw [show i = 0 by omega]; decide) (fun _ _ => hfl _ fz_fl3) (fun _ _ => hfl _ fz_fl4) (fun _ _ => hfl _ fz_fl5) (fun i hi => by rw [show i = 0 by omega]; exact hfl _ fz_fl6) (fun i hi j hj => by rw [show i = 0 by omega] at hj ⊢; exact hfl _ (fz_fl7 j hj)) (fun i j hi hj hn => absurd (show i = j by omega) hn) hAn
  let g : fz_G := (fun k => (fC k).1, fun k => (fC k).2, fun t => if t = 0 then cC else if t = 1 then cI else if t = 2 then cJ else if t = 3 then cZ else cW, s.heap, b, L, xs, adK 0, adV 0)
  have hK : fz_K g s := by
    refine ⟨⟨fun k q hq => hfC k q hq, fun k q hk => ?_⟩, hX, hbl, fun a i x k hw => va_Nw.of rfl (hts _ (List.mem_append_right _ hw)), vk_R.of (hts _ fz_wSR) (hev 0 (by decide)), ⟨?_, va_Zof (hts _ fz_wL1) (hts _ fz_wI1) (va_eqi (hfl _ fz_fl1)) hAn, va_Zqof (hts _ fz_wL2) (hts _ fz_wI2) (hfl _ fz_fl2) hAn⟩, va_AO.of (hts _ fz_wAO)⟩
    · match k, hk with
      | 0, hk => cases hk; exact ⟨fun n z => ⟨(fun k h => by cases h), kC, c2, mC, c3⟩, c1⟩
      | 1, hk => cases hk; exact ⟨fun n z => ⟨(fun k h => by cases h), kI, i2, mI, i3⟩, i1⟩
      | 2, hk => cases hk; exact ⟨fun n z => ⟨(fun k h => by cases h), kJ, j2, mJ, j3⟩, j1⟩
      | 3, hk => cases hk; exact ⟨fun n z => ⟨(fun k h => by cases h), kZ, z2, mZ, z3⟩, z1⟩
      | 4, hk => cases hk; exact ⟨fun n z => ⟨(fun k h => by cases h), kW, w3, oW, w4⟩, kW, oW, w3, w4, w1, w5⟩
      | k + 5, hk => simp [fz_tys] at hk
    · exact ⟨fun i hi => by rw [show i = 0 by omega]; exact hvS.1 0 (by decide), fun i j hi hj _ => by omega⟩
  rw [lg_entry_eq]
  have hto : fz_to L (fz_h0 L xs) 2 := ⟨rfl, by decide⟩
  refine law_start hE (g := g) (l := l) (d := 79) (L := L) (xs := xs) (h0 := fz_h0 L xs) (Nat.le_refl _) rfl rfl hL (hI L xs) (h0s L xs) (Q := fun v _ => v = some (.int 1)) rfl rfl hto p e room_1 s m #[Value.ref b] below meth c s.heap [] 0 0 _ 600000 7302250 _ ⟨hx, hb, hr, hml, hown, hts', hlocks, (fun h => absurd h (by decide)), hK⟩ ⟨Nat.le_of_ble_eq_true rfl, Nat.le_of_ble_eq_true rfl, Nat.le_of_ble_eq_true rfl, Nat.le_of_ble_eq_true rfl, Nat.le_of_ble_eq_true rfl, Nat.le_of_ble_eq_true rfl⟩ (fz_enL (g := g) (as := [.ref 0]) (n := 4) (by decide)) ?_ ?_
  · refine ⟨fun k q h => by simp [fz_ws, fz_h0] at h, fz_wsD g _, va_S.rf, rfl, Nat.le_refl _, rfl, rfl, fun j hj => rfl⟩
  · intro v h H locs cells slots lc pc i hq hR hc hs hret hdec
    subst hq
    rcases hret with ⟨-, h1, -⟩ | ⟨ty, x, -, h1, h2, -⟩ | ⟨x, -, h1, -⟩
    · cases h1
    · subst h2
      refine W.widen hc hs ?_
      refine va_forget (fun q hq => hR.2.2.1.2.2 q hq) ?_
      exact lw_ret hx hb hr hlocks hdec
    · cases h1

/-! TREATY: class and model alike -/
theorem y_snum {σ : Nat → Int} {sc : Nat → Bool} {c : Nat} {st : List Int} (h : c ≤ 9999) (hl : st.length < 64) : stp σ sc c st = some ((c : Int) :: st) := by
  unfold stp
  rw [if_neg (by omega), if_pos (by omega), if_pos hl]
theorem y_sslot {σ : Nat → Int} {sc : Nat → Bool} {c k : Nat} {st : List Int} (e : c = 10000 + k) (hk : k < 11) (hs : sc k = true) (hl : st.length < 64) : stp σ sc c st = some (σ k :: st) := by
  unfold stp
  rw [if_neg (by omega), if_neg (by omega), if_pos (by omega), show c - 10000 = k by omega, if_pos ⟨hl, hs, hk⟩]
theorem y_sop {σ : Nat → Int} {sc : Nat → Bool} {c k : Nat} {a b : Int} {st : List Int} (e : c = 20003 + k) (hk : k < 9) : stp σ sc c (b :: a :: st) = some (op2 k a b :: st) := by
  unfold stp
  rw [if_neg (by omega), if_neg (by omega), if_neg (by omega)]
  show (if c = 20000 then _ else if c = 20001 then _ else if c = 20002 then _ else if c ≤ 20013 ∧ (20012 ≤ c → (a = 0 ∨ a = 1) ∧ (b = 0 ∨ b = 1)) then some (op2 (c - 20003) a b :: st) else none) = _
  rw [if_neg (by omega), if_neg (by omega), if_neg (by omega), if_pos ⟨by omega, fun z => by omega⟩, show c - 20003 = k by omega]
theorem y_ev3 {σ : Nat → Int} {sc : Nat → Bool} {c1 c2 c3 k : Nat} {a b : Int} (h1 : stp σ sc c1 [] = some [a]) (h2 : stp σ sc c2 [a] = some [b, a]) (e : c3 = 20003 + k) (hk : k < 9) : evl σ sc [c1, c2, c3] [] = some [op2 k a b] := by
  show (stp σ sc c1 []).bind (evl σ sc [c2, c3]) = _
  rw [h1]
  show (stp σ sc c2 [a]).bind (evl σ sc [c3]) = _
  rw [h2]
  show (stp σ sc c3 [b, a]).bind (evl σ sc []) = _
  rw [y_sop e hk]
  rfl
theorem y_l1 (a : Int) : [a].length < 64 := by show 1 < 64; omega
theorem y_l0 : ([] : List Int).length < 64 := by show 0 < 64; omega
theorem y_op1 (a b : Int) : op2 1 a b = clip (a - b) := by
  unfold op2
  rw [if_neg (by omega), if_pos rfl]
theorem y_op0 (a b : Int) : op2 0 a b = clip (a + b) := by
  unfold op2
  rw [if_pos rfl]
theorem y_op6 (a b : Int) : op2 6 a b = if a < b then 1 else 0 := by
  unfold op2
  rw [if_neg (by omega), if_neg (by omega), if_neg (by omega), if_neg (by omega), if_neg (by omega), if_neg (by omega), if_pos rfl]
theorem y_dfl0 (σ : Nat → Int) : dfl 0 σ = clip (9 - σ 3) := by unfold dfl; rw [if_pos rfl]
theorem y_dfl1 (σ : Nat → Int) : dfl 1 σ = if σ 3 < 5 then 1 else 0 := by unfold dfl; rw [if_neg (by omega), if_pos rfl]
theorem y_dfl2 (σ : Nat → Int) : dfl 2 σ = clip (σ 3 - 4) := by unfold dfl; rw [if_neg (by omega), if_neg (by omega), if_pos rfl]
theorem y_dfl3 (σ : Nat → Int) : dfl 3 σ = clip (σ 1) := by unfold dfl; rw [if_neg (by omega), if_neg (by omega), if_neg (by omega), if_pos rfl]
theorem y_dfl4 (σ : Nat → Int) : dfl 4 σ = 0 := by unfold dfl; rw [if_neg (by omega), if_neg (by omega), if_neg (by omega), if_neg (by omega)]
theorem y_sc3 : scR 0 3 = true ∧ scR 1 3 = true ∧ scR 2 3 = true ∧ scR 3 1 = true := by decide +kernel
theorem y_ts : tsR 0 = false ∧ tsR 2 = false ∧ tsR 3 = false := by decide +kernel
theorem y_dn0 : Dn (scR 0) (tsR 0) (ydl 0) (dfl 0) := by
  intro σ hσ
  have e := y_ev3 (σ := σ) (sc := scR 0) (c3 := 20004) (k := 1) (y_snum (c := 9) (by omega) y_l0) (y_sslot (c := 10003) (k := 3) (by omega) (by omega) y_sc3.1 (y_l1 _)) (by omega) (by omega)
  rw [y_op1] at e
  rw [y_dfl0]
  exact ⟨e, clip_bd _, fun z => by rw [y_ts.1] at z; cases z⟩
theorem y_dn1 : Dn (scR 1) (tsR 1) (ydl 1) (dfl 1) := by
  intro σ hσ
  have e := y_ev3 (σ := σ) (sc := scR 1) (c3 := 20009) (k := 6) (y_sslot (c := 10003) (k := 3) (by omega) (by omega) y_sc3.2.1 y_l0) (y_snum (c := 5) (by omega) (y_l1 _)) (by omega) (by omega)
  rw [y_op6] at e
  rw [y_dfl1]
  refine ⟨e, ?_, fun _ => ?_⟩
  · split <;> (unfold bd; omega)
  · split
    · exact Or.inr rfl
    · exact Or.inl rfl
theorem y_dn2 : Dn (scR 2) (tsR 2) (ydl 2) (dfl 2) := by
  intro σ hσ
  have e := y_ev3 (σ := σ) (sc := scR 2) (c3 := 20004) (k := 1) (y_sslot (c := 10003) (k := 3) (by omega) (by omega) y_sc3.2.2.1 y_l0) (y_snum (c := 4) (by omega) (y_l1 _)) (by omega) (by omega)
  rw [y_op1] at e
  rw [y_dfl2]
  exact ⟨e, clip_bd _, fun z => by rw [y_ts.2.1] at z; cases z⟩
theorem y_dn3 : Dn (scR 3) (tsR 3) (ydl 3) (dfl 3) := by
  intro σ hσ
  have e := y_ev3 (σ := σ) (sc := scR 3) (c3 := 20003) (k := 0) (y_sslot (c := 10001) (k := 1) (by omega) (by omega) y_sc3.2.2.2 y_l0) (y_snum (c := 0) (by omega) (y_l1 _)) (by omega) (by omega)
  rw [y_op0, show σ 1 + ((0 : Nat) : Int) = σ 1 by omega] at e
  rw [y_dfl3]
  exact ⟨e, clip_bd _, fun z => by rw [y_ts.2.2] at z; cases z⟩
theorem y_dn4 : Dn (scR 4) (tsR 4) (ydl 4) (dfl 4) := by
  intro σ hσ
  have e := y_ev3 (σ := σ) (sc := scR 4) (c3 := 20003) (k := 0) (y_snum (c := 0) (by omega) y_l0) (y_snum (c := 0) (by omega) (y_l1 _)) (by omega) (by omega)
  rw [y_op0, show clip (((0 : Nat) : Int) + ((0 : Nat) : Int)) = 0 by unfold clip; rw [if_neg (by omega), if_neg (by omega)]; rfl] at e
  rw [y_dfl4]
  refine ⟨e, ?_, fun _ => Or.inl rfl⟩
  unfold bd
  omega
theorem y_dnd : ∀ r, r < 5 → Dn (scR r) (tsR r) (ydl r) (dfl r) := by
  intro r hr
  rcases (show r = 0 ∨ r = 1 ∨ r = 2 ∨ r = 3 ∨ r = 4 by omega) with rfl | rfl | rfl | rfl | rfl
  · exact y_dn0
  · exact y_dn1
  · exact y_dn2
  · exact y_dn3
  · exact y_dn4
theorem y_scr {r : Nat} (hr : r < 5) : ysc (ytk r) = scR r := by
  rcases (show r = 0 ∨ r = 1 ∨ r = 2 ∨ r = 3 ∨ r = 4 by omega) with rfl | rfl | rfl | rfl | rfl <;> rfl
theorem y_fn {D : yD} (hV : yDV D) : ∃ Fn : Nat → (Nat → Int) → Int, ∀ r, r < 5 → (∀ a l, D.rl r = some (a, l) → Dn (scR r) (tsR r) l (Fn r)) ∧ (D.rl r = none → Fn r = dfl r) := by
  have h : ∀ r, ∃ g : (Nat → Int) → Int, r < 5 → (∀ a l, D.rl r = some (a, l) → Dn (scR r) (tsR r) l g) ∧ (D.rl r = none → g = dfl r) := by
    intro r
    cases e : D.rl r with
    | none => exact ⟨dfl r, fun _ => ⟨fun a l z => (by cases z), fun _ => rfl⟩⟩
    | some p =>
      obtain ⟨a, l⟩ := p
      by_cases hr : r < 5
      · obtain ⟨g, hg⟩ := (hV.2.2.2.2.2.2.2 r hr a l e).2.dn (by omega)
        rw [y_scr hr] at hg
        refine ⟨g, fun _ => ⟨fun a' l' z => ?_, fun z => (by cases z)⟩⟩
        cases z
        exact hg
      · exact ⟨dfl r, fun z => absurd z hr⟩
  exact ⟨fun r => (h r).choose, fun r hr => (h r).choose_spec hr⟩
set_option maxHeartbeats 4000000 in
theorem EQ_treaty_ok : EQ_treaty INV := by
  intro x m h
  have h0 : INV (si x 2 1 0) (si m 196 1 0) := h.taped (n := 0) (by omega)
  obtain ⟨t, T, W, kf, kn, ⟨tp, tn, h1⟩, h2, ⟨pn, h3⟩, ⟨sd, h4⟩, ⟨sn, nm, nl, h5⟩, h6, h7, ⟨us, ac, o, nw, h8⟩, ⟨rs, rn, h9⟩, h10⟩ := id h
  unfold wp_X11_treaty
  rw [h1.2.2.1]
  refine y_open h1.1 h1.2.1 h1.2.2.2.2.1 (fun t0 x1 hX1 F1 => ?_)
  intro s3 e3
  have i3 : ∀ a j, ¬ (a = 2 ∧ j = 1) → s3.1 a j = x1.1 a j := fun a j g => by rw [e3, g_si, if_neg g]
  have hX3 : yPX tp tn 0 false t0 s3 := hX1.fr (fun j _ => i3 _ _ (by omega)) (fun j _ => i3 _ _ (by omega))
  have C3 : Fr pC (si x 2 1 0) s3 := by
    intro a j hp
    have g := of_decide_eq_false hp
    refine ⟨?_, ?_⟩
    · rw [e3, g_si, g_si]
      split
      · rfl
      · exact F1.1.i _ _ (p4_f (by omega))
    · rw [e3]
      exact F1.1.l _ _ (p4_f (by omega))
  refine y_read hX3 (fun D b so tt st cz' x5 hX5 hk5 hV5 hnv5 hD5 h135 F5 hR5 x6 hA6 F6 => ?_) (fun kd pl x5 hR5 q5 F5 => ?_)
  · -- it stands
    unfold wp_X11_takeFault
    intro s7 e7 s8 e8
    have r47 : x6.1 4 7 = 0 := (F6.i _ _ (pAd_f (by omega))).trans hX5.2.2.2.2.2.2.1
    have r48 : s7.1 4 8 = -1 := by rw [e7, g_ne (by omega)]; exact (F6.i _ _ (pAd_f (by omega))).trans hX5.2.2.2.2.2.2.2
    rw [r47] at e7
    rw [r48] at e8
    refine b1 (c_takeT (fun x9 t1 t2 t3 t4 t5 t6 t7 t8 t9 t10 t11 t12 => ?_))
    refine c_beginT (fun x10 b1 b2 b3 b4 b5 b6 b7 b8 => ?_)
    unfold wp_X4_forget
    intro s11 e11 s12 e12
    unfold wp_X6_forget
    intro s13 e13
    have hnp := hV5.2.1
    -- back to x6
    have k8 : ∀ a j, a ≠ 2 → s8.1 a j = x6.1 a j := fun a j g => by rw [e8, g_ne g, e7, g_ne g]
    have kf13 : ∀ a j, ¬ (a = 47 ∧ (j = 4 ∨ j = 5)) → ¬ (a = 184 ∧ j = 5) → s13.1 a j = x10.1 a j := fun a j g1 g2 => by
      rw [e13, g_si, if_neg g2, e12, g_si, if_neg (by omega), e11, g_si, if_neg (by omega)]
    have top : ∀ a j, ¬ (6 ≤ a ∧ a ≤ 16) → ¬ (35 ≤ a ∧ a ≤ 40) → a ≠ 47 → a ≠ 184 → s13.1 a j = s8.1 a j := fun a j g1 g2 g3 g4 => by
      rw [kf13 _ _ (by omega) (by omega), b1 _ _ (by omega) (by omega), t1 _ _ (by omega)]
    have tr : ∀ a j, 6 ≤ a → a ≤ 16 → s13.1 a j = x9.1 a j := fun a j g1 g2 => by
      rw [kf13 _ _ (by omega) (by omega), b1 _ _ (by omega) (by omega)]
    have wd : ∀ a j, 36 ≤ a → a ≤ 40 → s13.1 a j = x10.1 a j := fun a j g1 g2 => kf13 _ _ (by omega) (by omega)
    -- from the very first
    have C6 : ∀ a j, pC a j = false → x6.1 a j = (si x 2 1 0).1 a j := fun a j hp => by
      have g := of_decide_eq_false hp
      rw [F6.i _ _ (pAd_f (by omega)), F5.i _ _ hp, C3.i _ _ hp]
    have z13 : x9.1 6 13 = nI st := by
      rw [t12 13 (by omega) (by omega), k8 _ _ (by omega), F6.i _ _ (pAd_f (by omega))]
      exact h135
    rw [tr _ _ (by omega) (by omega), z13]
    -- the draft, seen in x6
    have d6 : ∀ a j, 17 ≤ a → a ≤ 24 → ¬ (a = 17 ∧ j = 10) → x6.1 a j = x5.1 a j := fun a j g1 g2 g3 => F6.i _ _ (pAd_f (by omega))
    obtain ⟨d1, d2, d3, d4, d5, dd6, d7, d8, d9⟩ := id hD5
    obtain ⟨Fn, hFn⟩ := y_fn hV5
    refine m_treaty0 h1.1 h1.2.1 h1.2.2.2.1 h1.2.2.2.2.2 h10 hX3.2.1 (fun m0 P0 D0 F0 => ?_)
    refine hR5 _ m0 P0 D0 (fun n m1 hn P1 DM1 h51 G1 => ?_)
    obtain ⟨a1, P1⟩ := P1
    have hq1 := P1.2.1.1
    have hq2 := P1.2.1.2.1
    obtain ⟨k, rfl⟩ : ∃ k, n = k + 1 := ⟨n - 1, by omega⟩
    show nd_X12_treaty_86 (lp_X12_treaty_86 _ k) _ m1
    unfold nd_X12_treaty_86
    refine nf P1.2.2.2.2.2.1 (y_look P1 (fun m2 P2 G2 => ?_))
    have lk := y_lkn P2.2.1 P2.1.2.1
    refine bt (lk.mpr hk5) ?_
    have G2' := y_AK G2
    have DM2 := DM1.k G2'
    unfold nd_X12_treaty_108
    intro q1 f1 q2 f2
    rw [P2.2.2.2.2.2.1] at f1
    have p6 : q1.1 196 6 = -1 := by rw [f1, g_nj (by omega)]; exact P2.2.2.2.2.2.2
    rw [p6] at f2
    have p5 : q2.1 196 5 = 0 := by rw [f2, g_nj (by omega), f1, g_nj (by omega)]; exact P2.2.2.2.2.2.1
    have mq : ∀ a j, ¬ (a = 196 ∧ (j = 7 ∨ j = 8)) → q2.1 a j = m2.1 a j := fun a j g => by rw [f2, g_si, if_neg (by omega), f1, g_si, if_neg (by omega)]
    have mql : q2.2.1 = m2.2.1 := by rw [f2, f1]; rfl
    have DMq : yDM D q2 := DM2.fr (fun j _ => mq _ _ (by omega)) (fun a j _ _ => mq _ _ (by omega)) (fun j => by rw [mql])
    refine bt p5 ?_
    obtain ⟨v1, v2, v3, v4, v5, v6, v7, v8, v9⟩ := id DMq
    refine m_stands hnp hV5.2.2.2.2.2.2.1 v2 v3 v4 (fun m3 w1 w2 w3 w4 w5 w6 w7 w8 w9 w10 w11 w12 w13 w14 w15 w16 => ?_)
    have hFD : Fr pD (si m 196 1 0) m2 := (F0.tr G1).tr (y_KD G2')
    have mb : ∀ a j, pD a j = false → ¬ (a = 196 ∧ (j = 7 ∨ j = 8 ∨ j = 40 ∨ j = 46 ∨ j = 52 ∨ j = 66 ∨ j = 72)) → ¬ ((a = 229 ∨ a = 230) ∧ 5 ≤ j ∧ j < 10) → ¬ (a = 227 ∧ 24 ≤ j) → ¬ (a = 231 ∧ 1600 ≤ j) → ¬ (a = 232 ∧ j < 150) → m3.1 a j = (si m 196 1 0).1 a j := fun a j hp g1 g2 g3 g4 g5 => by
      rw [w1 a j (by omega) g2 g3 g4 g5, mq _ _ (by omega)]
      exact hFD.i _ _ hp
    have m51 : m3.1 196 51 = nI st := by
      rw [w1 _ _ (by omega) (by omega) (by omega) (by omega) (by omega), mq _ _ (by omega), G2'.i _ _ (pKt_f (by omega))]
      exact h51
    rw [m51]
    refine ⟨rfl, ?_⟩
    obtain ⟨t', T', W', kf', kn', ⟨tp', tn', j1⟩, j2, ⟨pn', j3⟩, ⟨sd', j4⟩, ⟨sn', nm', nl', j5⟩, j6, j7, ⟨us', ac', o', nw', j8⟩, ⟨rs', rn', j9⟩, j10⟩ := h0
    have xb : ∀ a j, pC a j = false → ¬ (a = 2 ∧ (j = 18 ∨ j = 19)) → ¬ (6 ≤ a ∧ a ≤ 16) → ¬ (35 ≤ a ∧ a ≤ 40) → a ≠ 47 → a ≠ 184 → s13.1 a j = (si x 2 1 0).1 a j := fun a j hp g1 g2 g3 g4 g5 => by
      rw [top a j g2 g3 g4 g5, e8, g_si, if_neg (by omega), e7, g_si, if_neg (by omega)]
      exact C6 a j hp
    -- what the treaty is
    let TT' : TT := (D.np, (fun p => if p < D.np then D.ho p else 0), D.oa, D.ch, Fn)
    let WW' : WW := (D.hv, D.qv, D.wi, (fun _ => false), (fun _ => 0), 0)
    have hTV : TV TT' := by
      refine ⟨hnp, fun p hp => ?_, fun p hp => (hV5.2.2.2.2.1 p hp).2.2.1, fun p hp => (hV5.2.2.2.2.1 p hp).2.2.2, fun r hr => ?_⟩
      · show (if p < D.np then D.ho p else 0) ≤ 1
        rw [if_pos hp]
        exact (hV5.2.2.2.2.1 p hp).1
      · cases e : D.rl r with
        | none => exact ⟨ydl r, by show Dn (scR r) (tsR r) (ydl r) (Fn r); rw [(hFn r hr).2 e]; exact y_dnd r hr⟩
        | some p =>
          obtain ⟨a, l⟩ := p
          exact ⟨l, (hFn r hr).1 a l e⟩
    have hWV : WV TT' WW' := ⟨fun v hv => (hV5.2.2.2.1 v (by omega)).1, fun v hv => (hV5.2.2.2.1 v (by omega)).2, fun p hp => (hV5.2.2.2.2.1 p hp).2.1, fun p hp => Nat.zero_le _, Nat.zero_le _⟩
    have h9ne : TT'.2.1 9 ≠ 5 := by
      show (if 9 < D.np then D.ho 9 else 0) ≠ 5
      rw [if_neg (by omega)]
      decide
    have cT : CT TT' s13 := by
      refine ⟨?_, fun p hp => ?_, fun p hp => ?_, fun p hp => ?_, fun r hr => Or.inr ⟨h9ne, ?_⟩⟩
      · rw [tr _ _ (by omega) (by omega), t12 _ (by omega) (by omega), k8 _ _ (by omega), d6 _ _ (by omega) (by omega) (by omega)]; exact d2
      · have hp' : p < D.np := hp
        show _ = nI (if p < D.np then D.ho p else 0)
        rw [if_pos hp', tr _ _ (by omega) (by omega), t5 _ (by omega), k8 _ _ (by omega), d6 _ _ (by omega) (by omega) (by omega)]; exact (d7 p hp).1
      · have hp' : p < D.np := hp
        rw [tr _ _ (by omega) (by omega), t7 _ (by omega), k8 _ _ (by omega), d6 _ _ (by omega) (by omega) (by omega)]; exact (d7 p hp).2.2.1
      · have hp' : p < D.np := hp
        rw [tr _ _ (by omega) (by omega), t8 _ (by omega), k8 _ _ (by omega), d6 _ _ (by omega) (by omega) (by omega)]; exact (d7 p hp).2.2.2
      · obtain ⟨a, l, y1, y2, y3, y4, y5⟩ := (hA6.2.2 r hr).1 (Or.inl hr)
        have hc := hA6.1
        refine ⟨l, a, ?_, ?_, by omega, y4.cong (fun k _ hk => ?_), ?_⟩
        · rw [tr _ _ (by omega) (by omega), t10 _ hr, k8 _ _ (by omega)]; exact y1
        · rw [tr _ _ (by omega) (by omega), t11 _ hr, k8 _ _ (by omega)]; exact y2
        · rw [tr _ _ (by omega) (by omega), t9 _ (by omega), k8 _ _ (by omega)]
        · show Dn (scR r) (tsR r) l (Fn r)
          rcases y5 with ⟨a', e⟩ | ⟨e, rfl⟩
          · exact (hFn r hr).1 a' l e
          · rw [(hFn r hr).2 e]; exact y_dnd r hr
    have cW : CW TT' WW' 35 s13 := by
      refine ⟨fun v hv => ?_, fun v hv _ => ?_, fun p hp => ?_, fun p hp => ?_, fun p hp => ?_, ?_⟩
      · rw [wd _ _ (by omega) (by omega), b2 _ hv, t3 _ hv, k8 _ _ (by omega), d6 _ _ (by omega) (by omega) (by omega)]; exact (dd6 v (by omega)).1
      · rw [wd _ _ (by omega) (by omega), b3 _ hv, t4 _ hv, k8 _ _ (by omega), d6 _ _ (by omega) (by omega) (by omega)]; exact (dd6 v (by omega)).2
      · have hp' : p < D.np := hp
        rw [wd _ _ (by omega) (by omega), b4 _ (by omega), t6 _ (by omega), k8 _ _ (by omega), d6 _ _ (by omega) (by omega) (by omega)]; exact (d7 p hp).2.1
      · have hp' : p < D.np := hp
        show _ = nI (if false = true then 1 - (if p < D.np then D.ho p else 0) else (if p < D.np then D.ho p else 0))
        rw [if_neg (by decide), if_pos hp', wd _ _ (by omega) (by omega), b5 _ (by omega), t5 _ (by omega), k8 _ _ (by omega), d6 _ _ (by omega) (by omega) (by omega)]; exact (d7 p hp).1
      · have hp' : p < D.np := hp
        rw [wd _ _ (by omega) (by omega), b6 _ (by omega)]
      · rw [kf13 _ _ (by omega) (by omega)]; exact b7
    have mT : MT TT' m3 := by
      refine ⟨w4, fun p hp => ?_, fun p hp => ?_, fun p hp => ?_, fun r hr => ?_⟩
      · have hp' : p < D.np := hp
        show _ = nI (if p < D.np then D.ho p else 0)
        rw [if_pos hp', w10 _ (by omega)]; exact (v7 p hp).1
      · have hp' : p < D.np := hp
        rw [show 25 + 3 * p = 24 + (3 * p + 1) by omega, w10 _ (by omega)]; exact (v7 p hp).2.2.1
      · have hp' : p < D.np := hp
        rw [show 26 + 3 * p = 24 + (3 * p + 2) by omega, w10 _ (by omega)]; exact (v7 p hp).2.2.2
      · cases e : D.rl r with
        | none =>
          refine Or.inl ⟨?_, (hFn r hr).2 e⟩
          rw [(w8 r hr).1, v8 r hr e]
          decide +kernel
        | some p =>
          obtain ⟨a, l⟩ := p
          obtain ⟨y1, y2, y3⟩ := v9 r hr a l e
          have y4 := (hV5.2.2.2.2.2.2.2 r hr a l e).1
          have y5 := hV5.2.2.2.2.2.2.1
          refine Or.inr ⟨l, a, ?_, ?_, by omega, ?_, (hFn r hr).1 a l e⟩
          · rw [(w8 r hr).1]; exact y1
          · rw [(w8 r hr).2]; exact y2
          · exact y3.cong (fun k _ hk => by show m3.1 231 (1600 + k) = _; rw [w11 _ (by omega)])
    have mW : MW TT' WW' m3 := by
      refine ⟨fun v hv => ?_, fun v hv => ?_, fun p hp => ?_, fun p hp => ?_, fun p hp => ?_, w12⟩
      · rw [w13 _ (by omega)]; exact (v6 v (by omega)).1
      · rw [show 2 + 2 * v = 1 + (2 * v + 1) by omega, w13 _ (by omega)]; exact (v6 v (by omega)).2
      · have hp' : p < D.np := hp
        rw [w14 _ hp']; exact (v7 p hp).2.1
      · have hp' : p < D.np := hp
        rw [w15 _ (by omega) (by omega) (fun q _ => by omega)]; rfl
      · have hp' : p < D.np := hp
        rw [w15 _ (by omega) (by omega) (fun q _ => by omega)]
    refine ⟨true, TT', WW', kf', 0, ⟨tp', tn', j1.cg (fun a j q => xb a j (pC_f (by omega)) (by omega) (by omega) (by omega) (by omega) (by omega)) (fun a j q => mb a j (pD_f (by omega)) (by omega) (by omega) (by omega) (by omega) (by omega))⟩, ⟨?_, ?_, fun j hj => ?_⟩, ⟨pn', j3.cg (fun a j q => xb a j (pC_f (by omega)) (by omega) (by omega) (by omega) (by omega) (by omega)) (fun a j q => mb a j (pD_f (by omega)) (by omega) (by omega) (by omega) (by omega) (by omega))⟩, ⟨sd', j4.cg (fun a j q => xb a j (pC_f (by omega)) (by omega) (by omega) (by omega) (by omega) (by omega)) (fun a j q => ?_)⟩, ⟨D.sn, D.nm, D.nl, ?_, w3, ⟨fun z => (by cases z), fun _ => h9ne⟩, hV5.2.2.2.2.2.1, ?_, w5, fun _ i hi => ?_⟩, ⟨⟨hTV, hWV, cT, cW, by omega⟩, ⟨hTV, hWV, mT, mW⟩, Nat.zero_le _, ?_⟩, ⟨?_, Nat.zero_le _, fun k hk => absurd hk (Nat.not_lt_zero _), w16, fun k hk => absurd hk (Nat.not_lt_zero _)⟩, ⟨us', 0, 0, nw', ⟨Nat.zero_le _, fun i j _ hj => absurd hj (Nat.not_lt_zero _), fun i hi => absurd hi (Nat.not_lt_zero _)⟩, ⟨by omega, ?_, ?_, fun i hi => absurd hi (Nat.not_lt_zero _)⟩, ⟨j8.2.2.1, w7, ?_, fun i hi => absurd hi (Nat.not_lt_zero _)⟩⟩, ⟨rs', 0, Nat.zero_le _, ?_, w6, fun k hk => absurd hk (Nat.not_lt_zero _)⟩, j10.cg (fun a j q => mb a j (pD_f (by omega)) (by omega) (by omega) (by omega) (by omega) (by omega))⟩
    · rw [top _ _ (by omega) (by omega) (by omega) (by omega), e8, g_nj (by omega), e7, g_eq, w1 _ _ (by omega) (by omega) (by omega) (by omega) (by omega), f2, g_nj (by omega), f1, g_eq]
    · rw [top _ _ (by omega) (by omega) (by omega) (by omega), e8, g_eq, w1 _ _ (by omega) (by omega) (by omega) (by omega) (by omega), f2, g_eq]
    · rw [xb _ _ (pC_f (by omega)) (by omega) (by omega) (by omega) (by omega) (by omega), mb _ _ (pD_f (by omega)) (by omega) (by omega) (by omega) (by omega) (by omega)]; exact j2.2.2 j hj
    · rw [w2 _ _ (by omega), mql]
      exact hFD.l _ _ (pD_f (by omega))
    · rw [tr _ _ (by omega) (by omega), t12 _ (by omega) (by omega), k8 _ _ (by omega), d6 _ _ (by omega) (by omega) (by omega), d1, hnv5]; rfl
    · rw [tr _ _ (by omega) (by omega), t12 _ (by omega) (by omega), k8 _ _ (by omega), d6 _ _ (by omega) (by omega) (by omega)]; exact d3
    · have hi' : i < 2 + D.np := hi
      have hn : yNd D i := by
        by_cases c : i < 2
        · exact Or.inl (by omega)
        · exact Or.inr ⟨by omega, hi'⟩
      obtain ⟨y1, y2⟩ := hV5.2.2.1 i hn
      refine ⟨y1.1, y1.2, y2, fun k hk => ?_, ?_⟩
      · rw [tr _ _ (by omega) (by omega), t2 _ (by omega), k8 _ _ (by omega), d6 _ _ (by omega) (by omega) (by omega)]; exact d5 i hn k hk
      · rw [w9 _ (by omega)]; exact v5 i hn
    · rw [mb _ _ (pD_f (by omega)) (by omega) (by omega) (by omega) (by omega) (by omega)]; exact j6.2.2.2
    · rw [kf13 _ _ (by omega) (by omega)]; exact b8
    · rw [e13, g_ne (by omega), e12, g_eq]; rfl
    · rw [e13, g_ne (by omega), e12, g_nj (by omega), e11, g_eq]; rfl
    · rw [mb _ _ (pD_f (by omega)) (by omega) (by omega) (by omega) (by omega) (by omega)]; exact j8.2.2.2.2.1
    · rw [e13, g_eq]; rfl
  · -- it doesn't
    unfold wp_X11_takeFault
    intro s7 e7 s8 e8
    have r47 := q5.2.2.1
    have r48 : s7.1 4 8 = nI pl := by rw [e7, g_ne (by omega)]; exact q5.2.2.2
    rw [r47] at e7
    rw [r48] at e8
    refine b4 (c_refuse (k := 1) (by omega) ?_)
    refine m_treaty0 h1.1 h1.2.1 h1.2.2.2.1 h1.2.2.2.2.2 h10 hX3.2.1 (fun m0 P0 D0 F0 => ?_)
    refine hR5 _ m0 P0 D0 (fun m1 q1 G1 => ?_)
    unfold nd_X12_treaty_108
    intro y1 f1 y2 f2
    rw [q1.2.2.1] at f1
    have p6 : y1.1 196 6 = nI pl := by rw [f1, g_nj (by omega)]; exact q1.2.2.2
    rw [p6] at f2
    have p5 : ¬ y2.1 196 5 = 0 := by rw [f2, g_nj (by omega), f1, g_nj (by omega)]; exact q1.bad
    refine bf p5 (fun s5 e5 => ⟨rfl, ?_⟩)
    rw [e5, e8, e7, f2, f1]
    exact ((h0.fr (C3.tr F5) (F0.tr G1)).fault (nI kd) (nI pl)).refuse 1

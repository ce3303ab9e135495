/-! WHAT HOLDS BETWEEN THE CLASS AND THE MODEL -/
def pC (a _j : Nat) : Bool := decide (a = 4 ∨ a = 5 ∨ (17 ≤ a ∧ a ≤ 29) ∨ a = 32 ∨ a = 33 ∨ a = 34 ∨ (41 ≤ a ∧ a ≤ 46) ∨ (172 ≤ a ∧ a ≤ 183) ∨ (185 ≤ a ∧ a ≤ 190) ∨ a = 192 ∨ a = 193)
theorem pC_f {a j : Nat} (h : ¬ (a = 4 ∨ a = 5 ∨ (17 ≤ a ∧ a ≤ 29) ∨ a = 32 ∨ a = 33 ∨ a = 34 ∨ (41 ≤ a ∧ a ≤ 46) ∨ (172 ≤ a ∧ a ≤ 183) ∨ (185 ≤ a ∧ a ≤ 190) ∨ a = 192 ∨ a = 193)) : pC a j = false := decide_eq_false h
theorem pC_t {a j : Nat} (h : a = 4 ∨ a = 5 ∨ (17 ≤ a ∧ a ≤ 29) ∨ a = 32 ∨ a = 33 ∨ a = 34 ∨ (41 ≤ a ∧ a ≤ 46) ∨ (172 ≤ a ∧ a ≤ 183) ∨ (185 ≤ a ∧ a ≤ 190) ∨ a = 192 ∨ a = 193) : pC a j = true := decide_eq_true h
def pD (a j : Nat) : Bool := decide ((a = 196 ∧ ¬ (j = 1 ∨ j = 7 ∨ j = 8 ∨ j = 40 ∨ j = 46 ∨ j = 52 ∨ j = 58 ∨ j = 66 ∨ j = 72 ∨ j = 73 ∨ j = 74 ∨ j = 111)) ∨ (a = 225 ∧ j < 10) ∨ a = 226 ∨ (a = 227 ∧ j < 24) ∨ a = 228 ∨ (a = 229 ∧ j < 5) ∨ (a = 230 ∧ j < 5) ∨ (a = 231 ∧ j < 1600) ∨ (233 ≤ a ∧ a ≤ 239) ∨ a = 241 ∨ a = 242 ∨ (269 ≤ a ∧ a ≤ 271))
theorem pD_f {a j : Nat} (h : ¬ ((a = 196 ∧ ¬ (j = 1 ∨ j = 7 ∨ j = 8 ∨ j = 40 ∨ j = 46 ∨ j = 52 ∨ j = 58 ∨ j = 66 ∨ j = 72 ∨ j = 73 ∨ j = 74 ∨ j = 111)) ∨ (a = 225 ∧ j < 10) ∨ a = 226 ∨ (a = 227 ∧ j < 24) ∨ a = 228 ∨ (a = 229 ∧ j < 5) ∨ (a = 230 ∧ j < 5) ∨ (a = 231 ∧ j < 1600) ∨ (233 ≤ a ∧ a ≤ 239) ∨ a = 241 ∨ a = 242 ∨ (269 ≤ a ∧ a ≤ 271))) : pD a j = false := decide_eq_false h
theorem pD_t {a j : Nat} (h : (a = 196 ∧ ¬ (j = 1 ∨ j = 7 ∨ j = 8 ∨ j = 40 ∨ j = 46 ∨ j = 52 ∨ j = 58 ∨ j = 66 ∨ j = 72 ∨ j = 73 ∨ j = 74 ∨ j = 111)) ∨ (a = 225 ∧ j < 10) ∨ a = 226 ∨ (a = 227 ∧ j < 24) ∨ a = 228 ∨ (a = 229 ∧ j < 5) ∨ (a = 230 ∧ j < 5) ∨ (a = 231 ∧ j < 1600) ∨ (233 ≤ a ∧ a ≤ 239) ∨ a = 241 ∨ a = 242 ∨ (269 ≤ a ∧ a ≤ 271)) : pD a j = true := decide_eq_true h
theorem pE_pC {s s' : fz_s} (h : Fr pE s s') : Fr pC s s' := h.mono fun a j q => by
  have := of_decide_eq_false q
  exact pE_f (by omega)
theorem pM_pD {s s' : fz_s} (h : Fr pM s s') : Fr pD s s' := h.mono fun a j q => by
  have := of_decide_eq_false q
  exact pM_f (by omega)
def enc (f : Nat → Nat) : Nat → Nat
  | 0 => 0
  | n + 1 => 27 * enc f n + f n
/-- the tape -/
def I1 (tp : Nat → Nat) (tn : Nat) (x m : fz_s) : Prop := tn ≤ 1600 ∧ (∀ j, tp j < 256) ∧ x.1 2 1 = nI tn ∧ m.1 196 1 = nI tn ∧ (∀ j, j < 1600 → x.1 3 j = nI (tp j)) ∧ ∀ j, j < 1600 → m.1 197 j = nI (tp j)
/-- faults, refusals -/
def I2 (x m : fz_s) : Prop := x.1 2 18 = m.1 196 7 ∧ x.1 2 19 = m.1 196 8 ∧ ∀ k, k < 6 → x.1 195 k = m.1 198 k
/-- the picture -/
def I3 (pn : Nat) (x m : fz_s) : Prop := pn ≤ 33 ∧ x.1 2 15 = nI pn ∧ m.1 196 111 = nI pn ∧ ∀ k, k < pn → x.1 194 k = m.1 272 k
/-- draws -/
def I4 (sd : Nat) (x m : fz_s) : Prop := sd < 2147483648 ∧ x.1 2 17 = nI sd ∧ m.2.1 196 74 = lI sd
/-- the treaty's own -/
def I5 (t : Bool) (T : TT) (sn : Nat) (nm : Nat → Nat → Nat) (nl : Nat → Nat) (x m : fz_s) : Prop := x.1 6 11 = nI (2 * b01 t) ∧ m.1 196 52 = nI (b01 t) ∧ ((t = false → T.1 = 0) ∧ (t = true → T.2.1 9 ≠ 5)) ∧ sn ≤ 100 ∧ x.1 6 14 = nI sn ∧ m.1 196 46 = nI sn ∧ (t = true → ∀ i, i < 2 + T.1 → 1 ≤ nl i ∧ nl i ≤ 6 ∧ (∀ k, k < nl i → 1 ≤ nm i k ∧ nm i k ≤ 26) ∧ (∀ k, k < 6 → x.1 7 (6 * i + k) = nI (if k < nl i then nm i k else 0)) ∧ m.2.1 225 (10 + i) = lI (enc (nm i) (nl i)))
/-- the world -/
def I6 (T : TT) (W : WW) (x m : fz_s) : Prop := CC T W 35 x ∧ MM T W m ∧ W.2.2.2.2.2 ≤ 999 ∧ m.1 196 58 = nI 0
/-- what is kept -/
def I7 (W : WW) (kf : Nat → Nat × Int × Int) (kn : Nat) (x m : fz_s) : Prop := x.1 35 6 = nI kn ∧ kn ≤ W.2.2.2.2.2 ∧ (∀ k, k < kn → x.1 49 k = nI (kf k).1 ∧ x.1 50 k = iI (kf k).2.1 ∧ x.1 51 k = iI (kf k).2.2) ∧ KP kf kn m
def slC (o ac i : Nat) : Nat := 52 + 6 * ((o + ac - 1 - i) % 20)
def slM (nw i : Nat) : Nat := 150 * ((nw + 20 - i) % 20)
theorem slC_r (o ac i : Nat) : 52 ≤ slC o ac i ∧ slC o ac i ≤ 166 := by
  unfold slC
  omega
theorem slM_r (nw i : Nat) : slM nw i ≤ 2850 := by
  unfold slM
  omega
/-- what may be undone -/
def UP (T : TT) (kn : Nat) (us : Nat → WW × Nat) (ac : Nat) : Prop := ac ≤ 20 ∧ (∀ i j, i ≤ j → j < ac → (us j).2 ≤ (us i).2) ∧ ∀ i, i < ac → (us i).2 ≤ kn ∧ (us i).2 ≤ (us i).1.2.2.2.2.2 ∧ (us i).1.2.2.2.2.2 ≤ 999 ∧ WV T (us i).1
def UC (T : TT) (us : Nat → WW × Nat) (ac o : Nat) (x : fz_s) : Prop := o < 20 ∧ x.1 47 4 = nI o ∧ x.1 47 5 = nI ac ∧ ∀ i, i < ac → CW T (us i).1 (slC o ac i) x ∧ x.1 (slC o ac i) 6 = nI (us i).2
def UM (T : TT) (kf : Nat → Nat × Int × Int) (us : Nat → WW × Nat) (ac nw : Nat) (m : fz_s) : Prop := nw < 20 ∧ m.1 196 72 = nI ac ∧ m.1 196 73 = nI nw ∧ ∀ i, i < ac → MWr T (us i).1 (fun j => m.1 243 (slM nw i + j)) ∧ KPr kf (us i).2 (fun j => m.1 243 (slM nw i + j))
def I8 (T : TT) (kf : Nat → Nat × Int × Int) (kn : Nat) (us : Nat → WW × Nat) (ac o nw : Nat) (x m : fz_s) : Prop := UP T kn us ac ∧ UC T us ac o x ∧ UM T kf us ac nw m
/-- what was seen -/
def I9 (rs : Nat → Nat × Nat × Nat) (rn : Nat) (x m : fz_s) : Prop := rn ≤ 16 ∧ x.1 184 5 = nI rn ∧ m.1 196 66 = nI rn ∧ ∀ k, k < rn → (rs k).1 ≤ 30 ∧ (rs k).2.1 ≤ 1 ∧ (rs k).2.2 ≤ 999 ∧ x.1 191 (4 * k) = nI (rs k).1 ∧ x.1 191 (4 * k + 1) = nI (rs k).2.1 ∧ x.1 191 (4 * k + 2) = nI ((rs k).2.2 / 256) ∧ x.1 191 (4 * k + 3) = nI ((rs k).2.2 % 256) ∧ m.1 240 (3 * k) = nI (rs k).1 ∧ m.1 240 (3 * k + 1) = nI (rs k).2.1 ∧ m.1 240 (3 * k + 2) = nI (rs k).2.2
/-- the model's words -/
def wds (a : Nat) : List Nat := [[104,97,114,118,101,115,116],[113,117,97,114,114,101,108],[118,105,108,108,97,103,101],[112,101,114,115,111,110],[111,102],[119,105,116,115],[111,97,116,104],[99,104,101,101,114],[115,101,110,100,115],[103,111,111,115,101],[100,111,101,115],[102,105,103,104,116,115],[115,116,97,121,115],[115,110,111,119],[121,101,97,114],[97,119,97,121],[103,117,101,115,116,115],[110,117,109,98,101,114],[108,105,118,101,115],[104,111,109,101],[111,114],[97,110,100],[110,111,116],[97,108,108],[109,105,110],[109,97,120],[],[],[],[],[],[],[],[],[],[],[],[],[],[],[],[],[],[],[],[102,105,114,115,116],[108,97,115,116],[111,102,116,101,110],[116,111,116,97,108],[109,111,115,116],[108,101,97,115,116],[110,111,116],[97,110,100],[111,114],[97,108,108],[109,105,110],[109,97,120],[104,97,114,118,101,115,116],[113,117,97,114,114,101,108],[121,101,97,114],[119,105,116,115],[111,97,116,104],[99,104,101,101,114],[97,119,97,121],[103,117,101,115,116,115],[110,117,109,98,101,114],[108,105,118,101,115],[104,111,109,101],[104,97,114,118,101,115,116],[100,111,101,115]].getD (a - 199) []
def I10 (m : fz_s) : Prop := ∀ a j, 199 ≤ a → a ≤ 268 → j < (wds a).length → m.1 a j = nI ((wds a).getD j 0)
def INV (x m : fz_s) : Prop := ∃ (t : Bool) (T : TT) (W : WW) (kf : Nat → Nat × Int × Int) (kn : Nat), (∃ tp tn, I1 tp tn x m) ∧ I2 x m ∧ (∃ pn, I3 pn x m) ∧ (∃ sd, I4 sd x m) ∧ (∃ sn nm nl, I5 t T sn nm nl x m) ∧ I6 T W x m ∧ I7 W kf kn x m ∧ (∃ us ac o nw, I8 T kf kn us ac o nw x m) ∧ (∃ rs rn, I9 rs rn x m) ∧ I10 m
theorem I1.fr {tp : Nat → Nat} {tn : Nat} {x m x' m' : fz_s} (h : I1 tp tn x m) (hx : Fr pC x x') (hm : Fr pD m m') : I1 tp tn x' m' := by
  obtain ⟨a1, a2, a3, a4, a5, a6⟩ := h
  exact ⟨a1, a2, (hx.i _ _ (pC_f (by omega))).trans a3, (hm.i _ _ (pD_f (by omega))).trans a4, fun j hj => (hx.i _ _ (pC_f (by omega))).trans (a5 j hj), fun j hj => (hm.i _ _ (pD_f (by omega))).trans (a6 j hj)⟩
theorem I2.fr {x m x' m' : fz_s} (h : I2 x m) (hx : Fr pC x x') (hm : Fr pD m m') : I2 x' m' := by
  obtain ⟨a1, a2, a3⟩ := h
  refine ⟨?_, ?_, fun k hk => ?_⟩
  · rw [hx.i _ _ (pC_f (by omega)), hm.i _ _ (pD_f (by omega))]; exact a1
  · rw [hx.i _ _ (pC_f (by omega)), hm.i _ _ (pD_f (by omega))]; exact a2
  · rw [hx.i _ _ (pC_f (by omega)), hm.i _ _ (pD_f (by omega))]; exact a3 k hk
theorem I3.fr {pn : Nat} {x m x' m' : fz_s} (h : I3 pn x m) (hx : Fr pC x x') (hm : Fr pD m m') : I3 pn x' m' := by
  obtain ⟨a1, a2, a3, a4⟩ := h
  refine ⟨a1, (hx.i _ _ (pC_f (by omega))).trans a2, (hm.i _ _ (pD_f (by omega))).trans a3, fun k hk => ?_⟩
  rw [hx.i _ _ (pC_f (by omega)), hm.i _ _ (pD_f (by omega))]; exact a4 k hk
theorem I4.fr {sd : Nat} {x m x' m' : fz_s} (h : I4 sd x m) (hx : Fr pC x x') (hm : Fr pD m m') : I4 sd x' m' := ⟨h.1, (hx.i _ _ (pC_f (by omega))).trans h.2.1, (hm.l _ _ (pD_f (by omega))).trans h.2.2⟩
theorem I5.fr {t : Bool} {T : TT} {sn : Nat} {nm : Nat → Nat → Nat} {nl : Nat → Nat} {x m x' m' : fz_s} (h : I5 t T sn nm nl x m) (hx : Fr pC x x') (hm : Fr pD m m') : I5 t T sn nm nl x' m' := by
  obtain ⟨a1, a2, a3, a4, a5, a6, a7⟩ := h
  refine ⟨(hx.i _ _ (pC_f (by omega))).trans a1, (hm.i _ _ (pD_f (by omega))).trans a2, a3, a4, (hx.i _ _ (pC_f (by omega))).trans a5, (hm.i _ _ (pD_f (by omega))).trans a6, fun ht i hi => ?_⟩
  obtain ⟨b1, b2, b3, b4, b5⟩ := a7 ht i hi
  exact ⟨b1, b2, b3, fun k hk => (hx.i _ _ (pC_f (by omega))).trans (b4 k hk), (hm.l _ _ (pD_f (by omega))).trans b5⟩
theorem MT.fr {T : TT} {m m' : fz_s} (h : MT T m) (hm : Fr pD m m') : MT T m' := by
  obtain ⟨a1, a2, a3, a4, a5⟩ := h
  refine ⟨(hm.i _ _ (pD_f (by omega))).trans a1, fun p hp => (hm.i _ _ (pD_f (by omega))).trans (a2 p hp), fun p hp => (hm.i _ _ (pD_f (by omega))).trans (a3 p hp), fun p hp => (hm.i _ _ (pD_f (by omega))).trans (a4 p hp), fun r hr => ?_⟩
  rcases a5 r hr with ⟨z, e⟩ | ⟨l, a, b1, b2, b3, b4, b5⟩
  · exact Or.inl ⟨(hm.i _ _ (pD_f (by omega))).trans z, e⟩
  · exact Or.inr ⟨l, a, (hm.i _ _ (pD_f (by omega))).trans b1, (hm.i _ _ (pD_f (by omega))).trans b2, b3, b4.cong (fun k _ _ => hm.i _ _ (pD_f (by omega))), b5⟩
theorem MM.fr {T : TT} {W : WW} {m m' : fz_s} (h : MM T W m) (hm : Fr pD m m') : MM T W m' := ⟨h.1, h.2.1, h.2.2.1.fr hm, h.2.2.2.cong h.1.1 (fun j _ => hm.i _ _ (pD_f (by omega)))⟩
theorem CC.pC {T : TT} {W : WW} {x x' : fz_s} (h : CC T W 35 x) (hF : Fr pC x x') : CC T W 35 x' := by
  obtain ⟨h1, h2, h3, h4, h5⟩ := h
  exact ⟨h1, h2, h3.cong (hF.i 6 12 (pC_f (by omega))) (fun a ha j => hF.i a j (pC_f (by omega))), h4.cong (fun a j ha _ => hF.i a j (pC_f (by omega))), h5⟩
theorem I6.fr {T : TT} {W : WW} {x m x' m' : fz_s} (h : I6 T W x m) (hx : Fr pC x x') (hm : Fr pD m m') : I6 T W x' m' := ⟨h.1.pC hx, h.2.1.fr hm, h.2.2.1, (hm.i _ _ (pD_f (by omega))).trans h.2.2.2⟩
theorem I7.fr {W : WW} {kf : Nat → Nat × Int × Int} {kn : Nat} {x m x' m' : fz_s} (h : I7 W kf kn x m) (hx : Fr pC x x') (hm : Fr pD m m') : I7 W kf kn x' m' := by
  obtain ⟨a1, a2, a3, a4⟩ := h
  refine ⟨(hx.i _ _ (pC_f (by omega))).trans a1, a2, fun k hk => ?_, a4.cong (fun j hj => hm.i _ _ (pD_f (by omega)))⟩
  obtain ⟨b1, b2, b3⟩ := a3 k hk
  exact ⟨(hx.i _ _ (pC_f (by omega))).trans b1, (hx.i _ _ (pC_f (by omega))).trans b2, (hx.i _ _ (pC_f (by omega))).trans b3⟩
theorem UC.cong {T : TT} {us : Nat → WW × Nat} {ac o : Nat} {x x' : fz_s} (h : UC T us ac o x) (hx1 : x'.1 47 4 = x.1 47 4) (hx2 : x'.1 47 5 = x.1 47 5) (hx : ∀ a j, 52 ≤ a → a ≤ 171 → x'.1 a j = x.1 a j) : UC T us ac o x' := by
  obtain ⟨a2, a4, a5, a9⟩ := h
  refine ⟨a2, hx1.trans a4, hx2.trans a5, fun i hi => ?_⟩
  obtain ⟨b5, b6⟩ := a9 i hi
  have hs := slC_r o ac i
  exact ⟨b5.cong (fun a j _ _ => hx a j (by omega) (by omega)), (hx _ _ (by omega) (by omega)).trans b6⟩
theorem UM.cong {T : TT} {kf : Nat → Nat × Int × Int} {us : Nat → WW × Nat} {ac nw : Nat} {m m' : fz_s} (hn : T.1 ≤ 8) (h : UM T kf us ac nw m) (hm1 : m'.1 196 72 = m.1 196 72) (hm2 : m'.1 196 73 = m.1 196 73) (hm : ∀ j, m'.1 243 j = m.1 243 j) : UM T kf us ac nw m' := by
  obtain ⟨a3, a6, a7, a9⟩ := h
  refine ⟨a3, hm1.trans a6, hm2.trans a7, fun i hi => ?_⟩
  obtain ⟨b7, b8⟩ := a9 i hi
  exact ⟨b7.cong hn (fun j _ => hm _), b8.cong (fun j _ _ => hm _)⟩
theorem UC.fr {T : TT} {us : Nat → WW × Nat} {ac o : Nat} {x x' : fz_s} (h : UC T us ac o x) (hx : Fr pC x x') : UC T us ac o x' := h.cong (hx.i _ _ (pC_f (by omega))) (hx.i _ _ (pC_f (by omega))) (fun a j _ _ => hx.i _ _ (pC_f (by omega)))
theorem UM.fr {T : TT} {kf : Nat → Nat × Int × Int} {us : Nat → WW × Nat} {ac nw : Nat} {m m' : fz_s} (hn : T.1 ≤ 8) (h : UM T kf us ac nw m) (hm : Fr pD m m') : UM T kf us ac nw m' := h.cong hn (hm.i _ _ (pD_f (by omega))) (hm.i _ _ (pD_f (by omega))) (fun j => hm.i _ _ (pD_f (by omega)))
theorem I8.fr {T : TT} {kf : Nat → Nat × Int × Int} {kn : Nat} {us : Nat → WW × Nat} {ac o nw : Nat} {x m x' m' : fz_s} (hn : T.1 ≤ 8) (h : I8 T kf kn us ac o nw x m) (hx : Fr pC x x') (hm : Fr pD m m') : I8 T kf kn us ac o nw x' m' := ⟨h.1, h.2.1.fr hx, h.2.2.fr hn hm⟩
theorem I9.fr {rs : Nat → Nat × Nat × Nat} {rn : Nat} {x m x' m' : fz_s} (h : I9 rs rn x m) (hx : Fr pC x x') (hm : Fr pD m m') : I9 rs rn x' m' := by
  obtain ⟨a1, a2, a3, a4⟩ := h
  refine ⟨a1, (hx.i _ _ (pC_f (by omega))).trans a2, (hm.i _ _ (pD_f (by omega))).trans a3, fun k hk => ?_⟩
  obtain ⟨b1, b2, b3, b4, b5, b6, b7, b8, b9, b10⟩ := a4 k hk
  exact ⟨b1, b2, b3, (hx.i _ _ (pC_f (by omega))).trans b4, (hx.i _ _ (pC_f (by omega))).trans b5, (hx.i _ _ (pC_f (by omega))).trans b6, (hx.i _ _ (pC_f (by omega))).trans b7, (hm.i _ _ (pD_f (by omega))).trans b8, (hm.i _ _ (pD_f (by omega))).trans b9, (hm.i _ _ (pD_f (by omega))).trans b10⟩
theorem wds_ne {a j : Nat} (h : j < (wds a).length) (h1 : 199 ≤ a) (h2 : a ≤ 268) : a ≤ 224 ∨ 244 ≤ a := Decidable.byContradiction fun q => by
  have e : wds a = [] := by
    unfold wds
    rcases (show a - 199 = 26 ∨ a - 199 = 27 ∨ a - 199 = 28 ∨ a - 199 = 29 ∨ a - 199 = 30 ∨ a - 199 = 31 ∨ a - 199 = 32 ∨ a - 199 = 33 ∨ a - 199 = 34 ∨ a - 199 = 35 ∨ a - 199 = 36 ∨ a - 199 = 37 ∨ a - 199 = 38 ∨ a - 199 = 39 ∨ a - 199 = 40 ∨ a - 199 = 41 ∨ a - 199 = 42 ∨ a - 199 = 43 ∨ a - 199 = 44 by omega) with e | e | e | e | e | e | e | e | e | e | e | e | e | e | e | e | e | e | e <;> (rw [e]; rfl)
  rw [e] at h
  exact absurd h (Nat.not_lt_zero _)
theorem I10.fr {m m' : fz_s} (h : I10 m) (hm : Fr pD m m') : I10 m' := fun a j h1 h2 h3 => by
  have := wds_ne h3 h1 h2
  exact (hm.i _ _ (pD_f (by omega))).trans (h a j h1 h2 h3)
theorem INV.fr {x m x' m' : fz_s} (h : INV x m) (hx : Fr pC x x') (hm : Fr pD m m') : INV x' m' := by
  obtain ⟨t, T, W, kf, kn, ⟨tp, tn, h1⟩, h2, ⟨pn, h3⟩, ⟨sd, h4⟩, ⟨sn, nm, nl, h5⟩, h6, h7, ⟨us, ac, o, nw, h8⟩, ⟨rs, rn, h9⟩, h10⟩ := h
  exact ⟨t, T, W, kf, kn, ⟨tp, tn, h1.fr hx hm⟩, h2.fr hx hm, ⟨pn, h3.fr hx hm⟩, ⟨sd, h4.fr hx hm⟩, ⟨sn, nm, nl, h5.fr hx hm⟩, h6.fr hx hm, h7.fr hx hm, ⟨us, ac, o, nw, h8.fr h6.1.1.1 hx hm⟩, ⟨rs, rn, h9.fr hx hm⟩, h10.fr hm⟩

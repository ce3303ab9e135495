/-! THE SPECIFICATION: treaty, world -/
abbrev WW : Type := (Nat → Nat) × (Nat → Nat) × (Nat → Nat) × (Nat → Bool) × (Nat → Nat) × Nat
abbrev TT : Type := Nat × (Nat → Nat) × (Nat → Nat) × (Nat → Nat) × (Nat → (Nat → Int) → Int)
def lv (T : TT) (W : WW) (p : Nat) : Nat := if W.2.2.2.1 p = true then 1 - T.2.1 p else T.2.1 p
def cnt (f : Nat → Bool) : Nat → Nat
  | 0 => 0
  | n + 1 => cnt f n + (if f n = true then 1 else 0)
theorem cnt_le (f : Nat → Bool) : ∀ n, cnt f n ≤ n
  | 0 => Nat.le_refl _
  | n + 1 => by
    have := cnt_le f n
    unfold cnt
    split <;> omega
def gst (T : TT) (W : WW) (v : Nat) : Nat := cnt (fun p => decide (lv T W p = v) && W.2.2.2.1 p) T.1
def env (T : TT) (W : WW) (p v : Nat) (k : Nat) : Int :=
  if k = 0 then (W.1 v : Int) else if k = 1 then (W.2.1 v : Int) else if k = 2 then (W.2.2.2.2.2 : Int) else if k = 3 then (W.2.2.1 p : Int) else if k = 4 then (T.2.2.1 p : Int) else if k = 5 then (T.2.2.2.1 p : Int) else if k = 6 then (W.2.2.2.2.1 p : Int) else if k = 7 then (gst T W v : Int) else if k = 8 then (p : Int) else if k = 9 then (lv T W p : Int) else if k = 10 then (T.2.1 p : Int) else if k = 11 then (W.1 0 : Int) else if k = 12 then (W.1 1 : Int) else 0
/-- what a rule tells -/
def rv (T : TT) (W : WW) (r p v : Nat) : Int := T.2.2.2.2 r (env T W p v)
def envQ (T : TT) (W : WW) (p : Nat) (k : Nat) : Int := if k = 13 then rv T W 2 p 0 else if k = 14 then rv T W 2 p 1 else env T W p 0 k
def scR (r k : Nat) : Bool := if r = 3 then decide (k ≤ 2 ∨ k = 7) else decide (k ≤ 6)
def scQ (k : Nat) : Bool := decide ((2 ≤ k ∧ k ≤ 6) ∨ (8 ≤ k ∧ k ≤ 14))
def Dn (sc : Nat → Bool) (t : Bool) (l : List Nat) (f : (Nat → Int) → Int) : Prop := ∀ σ : Nat → Int, (∀ k, sc k = true → bd (σ k)) → evl σ sc l [] = some [f σ] ∧ bd (f σ) ∧ (t = true → f σ = 0 ∨ f σ = 1)
def tsR (r : Nat) : Bool := decide (r = 1 ∨ r = 4)
/-- a treaty as it may be -/
def TV (T : TT) : Prop := T.1 ≤ 8 ∧ (∀ p, p < T.1 → T.2.1 p ≤ 1) ∧ (∀ p, p < T.1 → T.2.2.1 p ≤ 9) ∧ (∀ p, p < T.1 → T.2.2.2.1 p ≤ 9) ∧ ∀ r, r < 5 → ∃ l, Dn (scR r) (tsR r) l (T.2.2.2.2 r)
/-- a world as it may be -/
def WV (T : TT) (W : WW) : Prop := (∀ v, v < 2 → W.1 v ≤ 999) ∧ (∀ v, v < 2 → W.2.1 v ≤ 99) ∧ (∀ p, p < T.1 → W.2.2.1 p ≤ 9) ∧ (∀ p, p < T.1 → W.2.2.2.2.1 p ≤ 99) ∧ W.2.2.2.2.2 ≤ 2000
/-- the class's treaty -/
def CT (T : TT) (x : fz_s) : Prop := x.1 6 12 = nI T.1 ∧ (∀ p, p < T.1 → x.1 10 p = nI (T.2.1 p)) ∧ (∀ p, p < T.1 → x.1 12 p = nI (T.2.2.1 p)) ∧ (∀ p, p < T.1 → x.1 13 p = nI (T.2.2.2.1 p)) ∧ ∀ r, r < 5 → (T.1 = 0 ∧ T.2.1 9 = 5 ∧ x.1 15 r = nI 0 ∧ x.1 16 r = nI 0) ∨ (T.2.1 9 ≠ 5 ∧ ∃ l a, x.1 15 r = nI a ∧ x.1 16 r = nI (a + l.length) ∧ a + l.length ≤ 1632 ∧ Seg (x.1 14) cC a l ∧ Dn (scR r) (tsR r) l (T.2.2.2.2 r))
/-- a world of the class, at w -/
def CW (T : TT) (W : WW) (w : Nat) (x : fz_s) : Prop := (∀ v, v < 2 → x.1 (w + 1 + 0) v = nI (W.1 v)) ∧ (∀ v, v < 2 → T.2.1 9 ≠ 5 → x.1 (w + 1 + 1) v = nI (W.2.1 v)) ∧ (∀ p, p < T.1 → x.1 (w + 1 + 2) p = nI (W.2.2.1 p)) ∧ (∀ p, p < T.1 → x.1 (w + 1 + 3) p = nI (lv T W p)) ∧ (∀ p, p < T.1 → x.1 (w + 1 + 4) p = nI (W.2.2.2.2.1 p)) ∧ x.1 w 5 = nI W.2.2.2.2.2
theorem CT.cong {T : TT} {x x' : fz_s} (h : CT T x) (h1 : x'.1 6 12 = x.1 6 12) (h2 : ∀ a, a = 10 ∨ a = 12 ∨ a = 13 ∨ a = 14 ∨ a = 15 ∨ a = 16 → ∀ j, x'.1 a j = x.1 a j) : CT T x' := by
  obtain ⟨a1, a2, a3, a4, a5⟩ := h
  refine ⟨h1.trans a1, fun p hp => (h2 10 (by omega) p).trans (a2 p hp), fun p hp => (h2 12 (by omega) p).trans (a3 p hp), fun p hp => (h2 13 (by omega) p).trans (a4 p hp), fun r hr => ?_⟩
  rcases a5 r hr with ⟨z1, z2, z3, z4⟩ | ⟨z1, l, a, b1, b2, b3, b4, b5⟩
  · exact Or.inl ⟨z1, z2, (h2 15 (by omega) r).trans z3, (h2 16 (by omega) r).trans z4⟩
  · exact Or.inr ⟨z1, l, a, (h2 15 (by omega) r).trans b1, (h2 16 (by omega) r).trans b2, b3, b4.cong (fun k _ _ => h2 14 (by omega) k), b5⟩
theorem CW.cong {T : TT} {W : WW} {w : Nat} {x x' : fz_s} (h : CW T W w x) (h2 : ∀ a j, w ≤ a → a ≤ w + 5 → x'.1 a j = x.1 a j) : CW T W w x' := by
  obtain ⟨a1, a2, a3, a4, a5, a6⟩ := h
  exact ⟨fun p hp => (h2 _ p (by omega) (by omega)).trans (a1 p hp), fun p hp hz => (h2 _ p (by omega) (by omega)).trans (a2 p hp hz), fun p hp => (h2 _ p (by omega) (by omega)).trans (a3 p hp), fun p hp => (h2 _ p (by omega) (by omega)).trans (a4 p hp), fun p hp => (h2 _ p (by omega) (by omega)).trans (a5 p hp), (h2 _ _ (by omega) (by omega)).trans a6⟩
theorem lv_le {T : TT} {W : WW} {p : Nat} (hT : TV T) (hp : p < T.1) : lv T W p ≤ 1 := by
  have := hT.2.1 p hp
  unfold lv
  split <;> omega
theorem gst_le (T : TT) (W : WW) (v : Nat) : gst T W v ≤ T.1 := cnt_le _ _
theorem env_bd {T : TT} {W : WW} {p v : Nat} (hT : TV T) (hW : WV T W) (hp : p < T.1) (hv : v < 2) (k : Nat) : bd (env T W p v k) := by
  have h1 := hW.1 v hv
  have h2 := hW.2.1 v hv
  have h3 := hW.2.2.1 p hp
  have h4 := hW.2.2.2.1 p hp
  have h5 := hW.2.2.2.2
  have h6 := hT.2.2.1 p hp
  have h7 := hT.2.2.2.1 p hp
  have h8 := gst_le T W v
  have h9 := lv_le (W := W) hT hp
  have h10 := hT.2.1 p hp
  have h11 := hW.1 0 (by omega)
  have h12 := hW.1 1 (by omega)
  have h13 := hT.1
  unfold env bd
  repeat (first | (split; omega) | omega)
theorem rv_dn {T : TT} {W : WW} {r p v : Nat} (hT : TV T) (hr : r < 5) (hb : ∀ k, scR r k = true → bd (env T W p v k)) : bd (rv T W r p v) ∧ (tsR r = true → rv T W r p v = 0 ∨ rv T W r p v = 1) := by
  obtain ⟨l, hl⟩ := hT.2.2.2.2 r hr
  exact (hl _ hb).2
theorem c_value {a0 n0 f : Nat} {l : List Nat} {σ : Nat → Int} {sc : Nat → Bool} {v : Int} {s : fz_s} (ha : a0 ≠ 33) (hn : f + l.length ≤ n0 ∧ n0 ≤ 1632) (hg : Seg (s.1 a0) cC f l) (hσ : ∀ k, sc k = true → bd (σ k)) (h12 : sc 11 = true → sc 12 = true) (h14 : sc 13 = true → sc 14 = true) (hsl : ∀ k, k < 15 → sc k = true → s.1 32 k = iI (σ k)) (he : evl σ sc l [] = some [v]) {Q : Int32 → fz_s → Prop} (hq : ∀ s', Fr p33 s s' → Q (iI v) s') : wp_X7_value a0 n0 (nI f) (nI (f + l.length)) s Q := by
  unfold wp_X7_value
  intro x1 e1 x2 e2
  have e3 : x1 = nI (f + l.length) := by
    rw [e1]
    split
    · rename_i h
      simp (disch := omega) only [N_lt] at h
      omega
    · rfl
  have e4 : x2 = nI f := by
    rw [e2]
    split
    · rfl
    · rename_i h
      simp (disch := omega) only [N_lit, N_lt] at h
      rw [show f = 0 by omega]
      rfl
  rw [e3, e4]
  exact c_vloop ha ⟨hn.1, by omega⟩ hσ h12 h14 l f 2048 [] s (by omega) rfl hg trivial (fun a h => by cases h) (Nat.zero_le _) hsl he hq

/-! THE YEAR, AS IT IS ASKED -/
theorem stp_cong {σ σ' : Nat → Int} {sc : Nat → Bool} {c : Nat} {st : List Int} (h : ∀ k, sc k = true → σ' k = σ k) (h12 : sc 11 = true → sc 12 = true) (h14 : sc 13 = true → sc 14 = true) : stp σ' sc c st = stp σ sc c st := by
  unfold stp
  split
  · rfl
  split
  · rfl
  split
  · by_cases q : sc (c - 10000) = true
    · rw [h _ q]
    · rw [if_neg (fun z => q z.2.1), if_neg (fun z => q z.2.1)]
  · cases st with
    | nil => rfl
    | cons b t =>
      dsimp only
      split
      · rfl
      split
      · by_cases q : sc 11 = true
        · rw [h 11 q, h 12 (h12 q)]
        · rw [if_neg q, if_neg q]
      split
      · by_cases q : sc 13 = true
        · rw [h 13 q, h 14 (h14 q)]
        · rw [if_neg q, if_neg q]
      · rfl
theorem evl_cong {σ σ' : Nat → Int} {sc : Nat → Bool} (h : ∀ k, sc k = true → σ' k = σ k) (h12 : sc 11 = true → sc 12 = true) (h14 : sc 13 = true → sc 14 = true) : ∀ (l : List Nat) (st : List Int), evl σ' sc l st = evl σ sc l st
  | [], _ => rfl
  | c :: l, st => by
    show (stp σ' sc c st).bind (evl σ' sc l) = (stp σ sc c st).bind (evl σ sc l)
    rw [stp_cong h h12 h14]
    cases stp σ sc c st with
    | none => rfl
    | some z => exact evl_cong h h12 h14 l z
theorem scR_12 (r : Nat) : scR r 11 = true → scR r 12 = true := by
  unfold scR
  split
  · decide
  · decide
theorem scR_14 (r : Nat) : scR r 13 = true → scR r 14 = true := by
  unfold scR
  split
  · decide
  · decide
theorem Dn.cong {sc : Nat → Bool} {t : Bool} {l : List Nat} {f : (Nat → Int) → Int} (hD : Dn sc t l f) (h12 : sc 11 = true → sc 12 = true) (h14 : sc 13 = true → sc 14 = true) {σ σ' : Nat → Int} (hσ : ∀ k, sc k = true → bd (σ k)) (h : ∀ k, sc k = true → σ' k = σ k) : f σ' = f σ := by
  have e1 := (hD σ hσ).1
  have e2 := (hD σ' (fun k q => by rw [h k q]; exact hσ k q)).1
  rw [evl_cong h h12 h14] at e2
  have := Option.some.inj (e2.symm.trans e1)
  injection this
theorem F_cong {T : TT} {r : Nat} (hT : TV T) (hr : r < 5) {σ σ' : Nat → Int} (hσ : ∀ k, scR r k = true → bd (σ k)) (h : ∀ k, scR r k = true → σ' k = σ k) : T.2.2.2.2 r σ' = T.2.2.2.2 r σ := by
  obtain ⟨l, hl⟩ := hT.2.2.2.2 r hr
  exact hl.cong (scR_12 r) (scR_14 r) hσ h
def upf {α : Type} (f : Nat → α) (p : Nat) (v : α) (q : Nat) : α := if q = p then v else f q
theorem upf_eq {α : Type} {f : Nat → α} {p : Nat} {v : α} : upf f p v p = v := if_pos rfl
theorem upf_ne {α : Type} {f : Nat → α} {p q : Nat} {v : α} (h : q ≠ p) : upf f p v q = f q := if_neg h
def stH (W : WW) (v n : Nat) : WW := (upf W.1 v n, W.2)
def stQ (W : WW) (v n : Nat) : WW := (W.1, upf W.2.1 v n, W.2.2)
def stW (W : WW) (p n : Nat) : WW := (W.1, W.2.1, upf W.2.2.1 p n, W.2.2.2)
def stO (W : WW) (p n : Nat) : WW := (W.1, W.2.1, W.2.2.1, W.2.2.2.1, upf W.2.2.2.2.1 p n, W.2.2.2.2.2)
def stY (W : WW) (n : Nat) : WW := (W.1, W.2.1, W.2.2.1, W.2.2.2.1, W.2.2.2.2.1, n)
def crs (W : WW) (p : Nat) : WW := (W.1, W.2.1, W.2.2.1, upf W.2.2.2.1 p (!W.2.2.2.1 p), upf W.2.2.2.2.1 p 0, W.2.2.2.2.2)
def cut0 (hi : Nat) (z : Int) : Nat := if z < 0 then 0 else if (hi : Int) < z then hi else z.toNat
theorem cut0_le (hi : Nat) (z : Int) : cut0 hi z ≤ hi := by
  unfold cut0
  split
  · omega
  split <;> omega
def hsm (T : TT) (W : WW) (v : Nat) : Nat → Int
  | 0 => 0
  | k + 1 => hsm T W v k + (if lv T W k = v then rv T W 2 k v else 0)
def nh (T : TT) (W : WW) (v : Nat) : Nat := cut0 999 ((W.1 v : Int) + hsm T W v T.1)
def nq (T : TT) (W : WW) (v : Nat) : Nat := cut0 99 (rv T W 3 0 v)
def harW (T : TT) (W : WW) : WW := stH (stH W 0 (nh T W 0)) 1 (nh T W 1)
def quaW (T : TT) (W : WW) : WW := stQ (stQ W 0 (nq T W 0)) 1 (nq T W 1)
def sumW (T : TT) (W : WW) : WW := quaW T (harW T W)
def autS (T : TT) (W : WW) : Nat → WW
  | 0 => W
  | k + 1 => if (autS T W k).2.2.2.1 k = true then (if rv T (autS T W k) 4 k (lv T (autS T W k) k) = 0 then crs (autS T W k) k else stO (autS T W k) k (if (autS T W k).2.2.2.2.1 k < 99 then (autS T W k).2.2.2.2.1 k + 1 else 99)) else autS T W k
theorem autS_s (T : TT) (W : WW) (k : Nat) : autS T W (k + 1) = if (autS T W k).2.2.2.1 k = true then (if rv T (autS T W k) 4 k (lv T (autS T W k) k) = 0 then crs (autS T W k) k else stO (autS T W k) k (if (autS T W k).2.2.2.2.1 k < 99 then (autS T W k).2.2.2.2.1 k + 1 else 99)) else autS T W k := rfl
def autW (T : TT) (W : WW) : WW := autS T W T.1
def tuW (W : WW) : WW := stY W (W.2.2.2.2.2 + 1)
def prO (T : TT) (W : WW) : Bool := passI T W (snt T W 0) && passI T W (snt T W 1)
def prs (T : TT) (W : WW) : Int × Int := if prO T W = true then (snt T W 0, snt T W 1) else (-1, -1)
def goW (W : WW) (a b : Int) : WW := if a = -1 then W else crs (crs W a.toNat) b.toNat
def yeW (T : TT) (W : WW) (a b : Int) (snow : Bool) : WW := tuW (if snow = true then sumW T (goW W a b) else autW T (sumW T (goW W a b)))
def yrW (T : TT) (W : WW) : WW := yeW T W (prs T W).1 (prs T W).2 false
theorem lv_crs {T : TT} {W : WW} {p q : Nat} (hp : T.2.1 p ≤ 1) : lv T (crs W p) q = if q = p then 1 - lv T W p else lv T W q := by
  by_cases h : q = p
  · subst h
    rw [if_pos rfl]
    unfold lv crs
    dsimp only
    simp only [upf_eq]
    cases W.2.2.2.1 q with
    | false => rfl
    | true =>
      show T.2.1 q = 1 - (1 - T.2.1 q)
      omega
  · rw [if_neg h]
    unfold lv crs
    dsimp only
    simp only [upf_ne h]
theorem hsm_bd {T : TT} {W : WW} {v : Nat} (hT : TV T) (hW : WV T W) (hv : v < 2) : ∀ k, k ≤ T.1 → -1000000 * (k : Int) ≤ hsm T W v k ∧ hsm T W v k ≤ 1000000 * (k : Int)
  | 0, _ => ⟨by show (-1000000 * (0 : Int)) ≤ 0; omega, by show (0 : Int) ≤ 1000000 * (0 : Int); omega⟩
  | k + 1, h => by
    have ih := hsm_bd hT hW hv k (by omega)
    have hb := rv_bd (r := 2) hT hW (by omega) (show k < T.1 by omega) hv
    unfold bd at hb
    unfold hsm
    split <;> omega
theorem env_bd3 {T : TT} {W : WW} {p v : Nat} (hT : TV T) (hW : WV T W) (hv : v < 2) (k : Nat) (hk : scR 3 k = true) : bd (env T W p v k) := by
  have hk2 : k ≤ 2 ∨ k = 7 := by
    unfold scR at hk
    rw [if_pos rfl] at hk
    exact of_decide_eq_true hk
  have h1 := hW.1 v hv
  have h2 := hW.2.1 v hv
  have h5 := hW.2.2.2.2
  have h8 := gst_le T W v
  have h13 := hT.1
  rcases (show k = 0 ∨ k = 1 ∨ k = 2 ∨ k = 7 by omega) with rfl | rfl | rfl | rfl
  · rw [env_0]; unfold bd; omega
  · rw [env_1]; unfold bd; omega
  · rw [env_2]; unfold bd; omega
  · rw [env_7]; unfold bd; omega
theorem env_cg3 {T : TT} {W W' : WW} {p p' v : Nat} (h0 : W'.1 v = W.1 v) (h1 : W'.2.1 v = W.2.1 v) (h2 : W'.2.2 = W.2.2) (k : Nat) (hk : scR 3 k = true) : env T W' p' v k = env T W p v k := by
  have hk2 : k ≤ 2 ∨ k = 7 := by
    unfold scR at hk
    rw [if_pos rfl] at hk
    exact of_decide_eq_true hk
  have hg : gst T W' v = gst T W v := by
    unfold gst lv
    rw [h2]
  rcases (show k = 0 ∨ k = 1 ∨ k = 2 ∨ k = 7 by omega) with rfl | rfl | rfl | rfl
  · rw [env_0, env_0, h0]
  · rw [env_1, env_1, h1]
  · rw [env_2, env_2, h2]
  · rw [env_7, env_7, hg]
theorem rv3_cg {T : TT} {W W' : WW} {p p' v : Nat} (hT : TV T) (hW : WV T W) (hv : v < 2) (h0 : W'.1 v = W.1 v) (h1 : W'.2.1 v = W.2.1 v) (h2 : W'.2.2 = W.2.2) : rv T W' 3 p' v = rv T W 3 p v := F_cong hT (by omega) (env_bd3 hT hW hv) (env_cg3 h0 h1 h2)
theorem nq_cg {T : TT} {W W' : WW} {v : Nat} (hT : TV T) (hW : WV T W) (hv : v < 2) (h0 : W'.1 v = W.1 v) (h1 : W'.2.1 v = W.2.1 v) (h2 : W'.2.2 = W.2.2) : nq T W' v = nq T W v := by
  unfold nq
  rw [rv3_cg hT hW hv h0 h1 h2]
theorem WV.h {T : TT} {W : WW} (h : WV T W) {v n : Nat} (hn : n ≤ 999) : WV T (stH W v n) := ⟨fun q hq => by
  show upf W.1 v n q ≤ 999
  unfold upf
  split
  · exact hn
  · exact h.1 q hq, h.2⟩
theorem WV.q {T : TT} {W : WW} (h : WV T W) {v n : Nat} (hn : n ≤ 99) : WV T (stQ W v n) := ⟨h.1, fun q hq => by
  show upf W.2.1 v n q ≤ 99
  unfold upf
  split
  · exact hn
  · exact h.2.1 q hq, h.2.2⟩
theorem WV.w {T : TT} {W : WW} (h : WV T W) {p n : Nat} (hn : n ≤ 9) : WV T (stW W p n) := ⟨h.1, h.2.1, fun q hq => by
  show upf W.2.2.1 p n q ≤ 9
  unfold upf
  split
  · exact hn
  · exact h.2.2.1 q hq, h.2.2.2⟩
theorem WV.o {T : TT} {W : WW} (h : WV T W) {p n : Nat} (hn : n ≤ 99) : WV T (stO W p n) := ⟨h.1, h.2.1, h.2.2.1, fun q hq => by
  show upf W.2.2.2.2.1 p n q ≤ 99
  unfold upf
  split
  · exact hn
  · exact h.2.2.2.1 q hq, h.2.2.2.2⟩
theorem WV.y {T : TT} {W : WW} (h : WV T W) {n : Nat} (hn : n ≤ 2000) : WV T (stY W n) := ⟨h.1, h.2.1, h.2.2.1, h.2.2.2.1, hn⟩
theorem WV.c {T : TT} {W : WW} (h : WV T W) {p : Nat} : WV T (crs W p) := ⟨h.1, h.2.1, h.2.2.1, fun q hq => by
  show upf W.2.2.2.2.1 p 0 q ≤ 99
  unfold upf
  split
  · omega
  · exact h.2.2.2.1 q hq, h.2.2.2.2⟩
theorem WV.har {T : TT} {W : WW} (h : WV T W) : WV T (harW T W) := (h.h (cut0_le _ _)).h (cut0_le _ _)
theorem WV.qua {T : TT} {W : WW} (h : WV T W) : WV T (quaW T W) := (h.q (cut0_le _ _)).q (cut0_le _ _)
theorem WV.sum {T : TT} {W : WW} (h : WV T W) : WV T (sumW T W) := h.har.qua
theorem WV.au {T : TT} {W : WW} (h : WV T W) : ∀ k, WV T (autS T W k)
  | 0 => h
  | k + 1 => by
    have ih := WV.au h k
    unfold autS
    split
    · split
      · exact ih.c
      · exact ih.o (by split <;> omega)
    · exact ih
theorem au_yr {T : TT} {W : WW} : ∀ k, (autS T W k).2.2.2.2.2 = W.2.2.2.2.2
  | 0 => rfl
  | k + 1 => by
    have ih := au_yr (T := T) (W := W) k
    unfold autS
    split
    · split
      · exact ih
      · exact ih
    · exact ih
theorem go_yr {W : WW} {a b : Int} : (goW W a b).2.2.2.2.2 = W.2.2.2.2.2 := by
  unfold goW
  split <;> rfl
theorem WV.go {T : TT} {W : WW} (h : WV T W) {a b : Int} : WV T (goW W a b) := by
  unfold goW
  split
  · exact h
  · exact h.c.c
theorem ye_yr {T : TT} {W : WW} {a b : Int} {s : Bool} : (yeW T W a b s).2.2.2.2.2 = W.2.2.2.2.2 + 1 := by
  unfold yeW
  cases s with
  | true => exact congrArg (· + 1) go_yr
  | false => exact congrArg (· + 1) ((au_yr _).trans go_yr)
theorem WV.ye {T : TT} {W : WW} (h : WV T W) (hy : W.2.2.2.2.2 < 2000) {a b : Int} {s : Bool} : WV T (yeW T W a b s) := by
  unfold yeW tuW
  cases s with
  | true => exact (h.go.sum).y (by rw [if_pos rfl]; show (goW W a b).2.2.2.2.2 + 1 ≤ 2000; rw [go_yr]; omega)
  | false => exact ((h.go.sum).au _).y (by rw [if_neg (by decide)]; show (autS T _ _).2.2.2.2.2 + 1 ≤ 2000; rw [au_yr]; show (goW W a b).2.2.2.2.2 + 1 ≤ 2000; rw [go_yr]; omega)
theorem cnt_split (f g h : Nat → Bool) : ∀ n, (∀ p, p < n → (f p = true ↔ g p = true ∨ h p = true) ∧ ¬ (g p = true ∧ h p = true)) → cnt f n = cnt g n + cnt h n
  | 0, _ => rfl
  | n + 1, q => by
    have ih := cnt_split f g h n (fun p hp => q p (by omega))
    have q2 := q n (by omega)
    unfold cnt
    rw [ih]
    by_cases c1 : g n = true
    · have c2 : ¬ h n = true := fun z => q2.2 ⟨c1, z⟩
      rw [if_pos (q2.1.mpr (Or.inl c1)), if_pos c1, if_neg c2]
      omega
    · by_cases c2 : h n = true
      · rw [if_pos (q2.1.mpr (Or.inr c2)), if_neg c1, if_pos c2]
        omega
      · rw [if_neg (fun z => (q2.1.mp z).elim c1 c2), if_neg c1, if_neg c2]
        omega
theorem gst_eq (T : TT) (W : WW) (v : Nat) : cnt (fun p => decide (lv T W p = v)) T.1 = cnt (own T W v) T.1 + gst T W v := by
  unfold gst
  refine cnt_split _ _ _ _ (fun p _ => ?_)
  unfold own lv
  cases W.2.2.2.1 p with
  | false => simp
  | true => simp

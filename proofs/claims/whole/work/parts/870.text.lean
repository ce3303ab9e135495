/-! THE TEXT: its tokens, and the class's reading of them -/
theorem b1 {A B : Prop} (a : A) : (true = true → A) ∧ (true = false → B) := ⟨fun _ => a, fun h => by cases h⟩
theorem b2 {A B : Prop} (b : B) : (true = false → A) ∧ (true = true → B) := ⟨fun h => (by cases h), fun _ => b⟩
theorem b3 {A B : Prop} (a : A) : (false = false → A) ∧ (false = true → B) := ⟨fun _ => a, fun h => by cases h⟩
theorem b4 {A B : Prop} (b : B) : (false = true → A) ∧ (false = false → B) := ⟨fun h => (by cases h), fun _ => b⟩
abbrev yin (lo hi nl c : Nat) : Prop := (lo ≤ c ∧ c ≤ hi) ∨ c = nl
def yRun (tp : Nat → Nat) (tn lo hi nl b e : Nat) : Prop := b ≤ e ∧ e ≤ tn ∧ (∀ j, b ≤ j → j < e → yin lo hi nl (tp j)) ∧ (e < tn → ¬ yin lo hi nl (tp e))
def yWL : List (List Nat) := [[104, 97, 114, 118, 101, 115, 116], [113, 117, 97, 114, 114, 101, 108], [121, 101, 97, 114], [119, 105, 116, 115], [111, 97, 116, 104], [99, 104, 101, 101, 114], [97, 119, 97, 121], [103, 117, 101, 115, 116, 115], [110, 117, 109, 98, 101, 114], [108, 105, 118, 101, 115], [104, 111, 109, 101], [115, 101, 110, 100, 115], [103, 111, 111, 115, 101], [100, 111, 101, 115], [102, 105, 103, 104, 116, 115], [115, 116, 97, 121, 115], [118, 105, 108, 108, 97, 103, 101], [112, 101, 114, 115, 111, 110], [111, 102], [115, 110, 111, 119], [111, 114], [97, 110, 100], [110, 111, 116], [97, 108, 108], [109, 105, 110], [109, 97, 120], [102, 105, 114, 115, 116], [108, 97, 115, 116], [111, 102, 116, 101, 110], [116, 111, 116, 97, 108], [109, 111, 115, 116], [108, 101, 97, 115, 116]]
def yMt (tp : Nat → Nat) (q e : Nat) (w : List Nat) : Prop := e = q + w.length ∧ ∀ j, j < w.length → tp (q + j) = w.getD j 0
def yWN (tp : Nat → Nat) (q e : Nat) (w : Int) : Prop := (w = -1 ∧ ∀ i, i < 32 → ¬ yMt tp q e (yWL.getD i [])) ∨ ∃ i : Nat, i < 32 ∧ w = (i : Int) ∧ yMt tp q e (yWL.getD i [])
theorem y_ext : ∀ {l l' : List Nat}, l.length = l'.length → (∀ j, j < l.length → l.getD j 0 = l'.getD j 0) → l = l'
  | [], [], _, _ => rfl
  | [], _ :: _, h, _ => by cases h
  | _ :: _, [], h, _ => by cases h
  | a :: l, a' :: l', h, h2 => by
    have e1 : a = a' := h2 0 (Nat.succ_pos _)
    have e2 : l = l' := y_ext (Nat.succ.inj h) (fun j hj => h2 (j + 1) (Nat.succ_lt_succ hj))
    rw [e1, e2]
theorem y_mtu {tp : Nat → Nat} {q e : Nat} {w w' : List Nat} (h : yMt tp q e w) (h' : yMt tp q e w') : w = w' := by
  have e1 : w.length = w'.length := by
    have := h.1
    have := h'.1
    omega
  exact y_ext e1 (fun j hj => (h.2 j hj).symm.trans (h'.2 j (by omega)))
theorem y_dis : ∀ i, i < 32 → ∀ j, j < 32 → yWL.getD i [] = yWL.getD j [] → i = j := by decide +kernel
theorem yWN.iff {tp : Nat → Nat} {q e : Nat} {w : Int} (h : yWN tp q e w) {i : Nat} (hi : i < 32) : w = (i : Int) ↔ yMt tp q e (yWL.getD i []) := by
  rcases h with ⟨h1, h2⟩ | ⟨k, h1, h2, h3⟩
  · constructor
    · intro h; omega
    · intro h; exact absurd h (h2 i hi)
  · constructor
    · intro h
      have : k = i := by omega
      rw [← this]
      exact h3
    · intro h
      rw [h2, y_dis k h1 i hi (y_mtu h3 h)]
theorem yWN.lo {tp : Nat → Nat} {q e : Nat} {w : Int} (h : yWN tp q e w) : -1 ≤ w ∧ w < 32 := by
  rcases h with ⟨h1, h2⟩ | ⟨k, h1, h2, h3⟩ <;> omega
abbrev yTok : Type := Nat × Nat × Nat × Int
/-- the token behind b (so: a word or a number ended there): its first byte, its end, its kind, which word -/
def yTS (tp : Nat → Nat) (tn b : Nat) (so : Bool) (t : yTok) : Prop :=
  b ≤ t.1 ∧ t.1 ≤ tn ∧ t.2.1 ≤ tn ∧ (∀ j, b ≤ j → j < t.1 → tp j = 10 ∨ tp j = 32) ∧
  ((t.2.2.1 = 0 ∧ t.1 = tn ∧ t.2.1 = tn) ∨
   (t.2.2.1 = 1 ∧ t.1 < t.2.1 ∧ yRun tp tn 97 122 300 t.1 t.2.1 ∧ (so = true → t.1 ≠ b) ∧ yWN tp t.1 t.2.1 t.2.2.2) ∨
   (t.2.2.1 = 2 ∧ t.1 < t.2.1 ∧ yRun tp tn 48 57 300 t.1 t.2.1 ∧ (so = true → t.1 ≠ b)) ∨
   (t.2.2.1 = 3 ∧ t.1 < tn ∧ t.2.1 = t.1 + 1 ∧ ¬ yin 97 122 10 (tp t.1) ∧ ¬ yin 48 57 32 (tp t.1)) ∨
   (t.2.2.1 = 4 ∧ t.1 < tn ∧ (yin 97 122 300 (tp t.1) ∨ yin 48 57 300 (tp t.1)) ∧ so = true ∧ t.1 = b))
/-- sign c, word i stands there -/
def ySg (tp : Nat → Nat) (t : yTok) (c : Nat) : Prop := t.2.2.1 = 3 ∧ tp t.1 = c
def yWo (t : yTok) (i : Nat) : Prop := t.2.2.1 = 1 ∧ t.2.2.2 = (i : Int)
def yFC (P : Nat → Nat → Bool) (s s' : fz_s) : Prop := Fr P s s' ∧ s'.2.2 = s.2.2
theorem yFC.rf {P : Nat → Nat → Bool} {s : fz_s} : yFC P s s := ⟨Fr.rf, rfl⟩
theorem yFC.tr {P : Nat → Nat → Bool} {s s' s'' : fz_s} (h : yFC P s s') (h2 : yFC P s' s'') : yFC P s s'' := ⟨h.1.tr h2.1, h2.2.trans h.2⟩
theorem yFC.mono {P R : Nat → Nat → Bool} {s s' : fz_s} (h : yFC P s s') (hq : ∀ a j, R a j = false → P a j = false) : yFC R s s' := ⟨h.1.mono hq, h.2⟩
theorem yFC.si {P : Nat → Nat → Bool} {s s' : fz_s} {a j : Nat} {v : Int32} (h : yFC P s s') (hp : P a j = true) : yFC P s (si s' a j v) := ⟨h.1.si hp, h.2⟩
def p4n (a j : Nat) : Bool := decide (a = 4 ∧ 2 ≤ j ∧ j ≤ 5)
theorem p4n_f {a j : Nat} (h : ¬ (a = 4 ∧ 2 ≤ j ∧ j ≤ 5)) : p4n a j = false := decide_eq_false h
theorem p4n_t {a j : Nat} (h : a = 4 ∧ 2 ≤ j ∧ j ≤ 5) : p4n a j = true := decide_eq_true h
def p4 (a _j : Nat) : Bool := decide (a = 4)
theorem p4_f {a j : Nat} (h : a ≠ 4) : p4 a j = false := decide_eq_false h
theorem p4_t {a j : Nat} (h : a = 4) : p4 a j = true := decide_eq_true h
theorem y_n4 {s s' : fz_s} (h : yFC p4n s s') : yFC p4 s s' := h.mono fun a j q => by
  have := of_decide_eq_false q
  exact p4n_f (by omega)
/-- the text, in the class -/
def yXT (tp : Nat → Nat) (tn : Nat) (x : fz_s) : Prop := tn ≤ 1600 ∧ (∀ j, tp j < 256) ∧ x.1 4 1 = nI tn ∧ ∀ j, j < 1600 → x.1 3 j = nI (tp j)
theorem yXT.fr {tp : Nat → Nat} {tn : Nat} {x x' : fz_s} (h : yXT tp tn x) (h1 : x'.1 4 1 = x.1 4 1) (h3 : ∀ j, j < 1600 → x'.1 3 j = x.1 3 j) : yXT tp tn x' := ⟨h.1, h.2.1, h1.trans h.2.2.1, fun j hj => (h3 j hj).trans (h.2.2.2 j hj)⟩
/-- the class's tokens -/
def yPX (tp : Nat → Nat) (tn b : Nat) (so : Bool) (t : yTok) (x : fz_s) : Prop := yXT tp tn x ∧ yTS tp tn b so t ∧ x.1 4 2 = nI t.2.1 ∧ x.1 4 3 = nI t.2.2.1 ∧ x.1 4 4 = nI t.1 ∧ (t.2.2.1 = 1 → x.1 4 5 = iI t.2.2.2) ∧ x.1 4 7 = 0 ∧ x.1 4 8 = -1
def yFX (kd pl : Nat) (x : fz_s) : Prop := (1 ≤ kd ∧ kd ≤ 5) ∧ pl < 2000 ∧ x.1 4 7 = nI kd ∧ x.1 4 8 = nI pl
theorem yPX.fr {tp : Nat → Nat} {tn b : Nat} {so : Bool} {t : yTok} {x x' : fz_s} (h : yPX tp tn b so t x) (h4 : ∀ j, j ≠ 6 → x'.1 4 j = x.1 4 j) (h3 : ∀ j, j < 1600 → x'.1 3 j = x.1 3 j) : yPX tp tn b so t x' := by
  obtain ⟨a1, a2, a3, a4, a5, a6, a7, a8⟩ := h
  exact ⟨a1.fr (h4 1 (by omega)) h3, a2, (h4 2 (by omega)).trans a3, (h4 3 (by omega)).trans a4, (h4 4 (by omega)).trans a5, fun q => (h4 5 (by omega)).trans (a6 q), (h4 7 (by omega)).trans a7, (h4 8 (by omega)).trans a8⟩
theorem y_run {tp : Nat → Nat} {tn lo hi nl : Nat} {bl : Bool} {x : fz_s} (h : yXT tp tn x) (hlo : lo < 1000 ∧ hi < 1000) (hb : (bl = true ∧ nl = 10) ∨ (bl = false ∧ nl = 300)) {Q : Int32 → fz_s → Prop} : ∀ (n b : Nat), b ≤ tn → tn < n + b → (∀ e, yRun tp tn lo hi nl b e → Q (nI e) x) → lp_X8_runEnd_3 Q n bl (nI lo) (nI hi) (nI b) x
  | 0, b, h1, h2, _ => absurd h2 (by omega)
  | n + 1, b, h1, h2, hq => by
    have hn := h.1
    have hB := h.2.1 b
    show nd_X8_runEnd_3 (lp_X8_runEnd_3 Q n) Q bl (nI lo) (nI hi) (nI b) x
    unfold nd_X8_runEnd_3
    rw [h.2.2.1]
    by_cases c1 : tn ≤ b
    · refine bt (by simp (disch := omega) only [N_lit, N_add, N_mul, N_sub, N_addneg, N_neg1, N_addm, N_le, N_lt, N_eq, N_in, N_cl, N_ne, N_ne', N_ltm, N_mlt, N_lem] <;> omega) (hq b ⟨by omega, h1, fun j _ _ => by omega, fun _ => by omega⟩)
    refine bf (by simp (disch := omega) only [N_lit, N_add, N_mul, N_sub, N_addneg, N_neg1, N_addm, N_le, N_lt, N_eq, N_in, N_cl, N_ne, N_ne', N_ltm, N_mlt, N_lem] <;> omega) ⟨N_in ⟨by omega, by omega⟩, ?_⟩
    rw [N_cl (by omega), h.2.2.2 b (by omega)]
    have go : yin lo hi nl (tp b) → ∀ x1 : Int32, x1 = nI b + 1 → lp_X8_runEnd_3 Q n bl (nI lo) (nI hi) x1 x := by
      intro hc x1 e1
      rw [e1, nI_1]
      refine y_run h hlo hb n (b + 1) (by omega) (by omega) (fun e he => hq e ⟨by have := he.1; omega, he.2.1, fun j hj hj2 => ?_, he.2.2.2⟩)
      by_cases cj : j = b
      · rw [cj]; exact hc
      · exact he.2.2.1 j (by omega) hj2
    have no : ¬ (lo ≤ tp b ∧ tp b ≤ hi) → nd_X8_runEnd_35 (lp_X8_runEnd_3 Q n) Q bl (nI lo) (nI hi) (nI b) x := by
      intro hc
      unfold nd_X8_runEnd_35
      rcases hb with ⟨rfl, hl⟩ | ⟨rfl, hl⟩
      · refine b2 ⟨N_in ⟨by omega, by omega⟩, ?_⟩
        rw [N_cl (by omega), h.2.2.2 b (by omega)]
        by_cases c2 : tp b = 10
        · exact nf (by simp (disch := omega) only [N_lit, N_add, N_mul, N_sub, N_addneg, N_neg1, N_addm, N_le, N_lt, N_eq, N_in, N_cl, N_ne, N_ne', N_ltm, N_mlt, N_lem] <;> omega) (go (by omega))
        · exact nt (by simp (disch := omega) only [N_lit, N_add, N_mul, N_sub, N_addneg, N_neg1, N_addm, N_le, N_lt, N_eq, N_in, N_cl, N_ne, N_ne', N_ltm, N_mlt, N_lem] <;> omega) (hq b ⟨by omega, h1, fun j _ _ => by omega, fun _ => by omega⟩)
      · exact b3 (hq b ⟨by omega, h1, fun j _ _ => by omega, fun _ => by omega⟩)
    by_cases c2 : tp b < lo
    · exact bt (by simp (disch := omega) only [N_lit, N_add, N_mul, N_sub, N_addneg, N_neg1, N_addm, N_le, N_lt, N_eq, N_in, N_cl, N_ne, N_ne', N_ltm, N_mlt, N_lem] <;> omega) (no (by omega))
    refine bf (by simp (disch := omega) only [N_lit, N_add, N_mul, N_sub, N_addneg, N_neg1, N_addm, N_le, N_lt, N_eq, N_in, N_cl, N_ne, N_ne', N_ltm, N_mlt, N_lem] <;> omega) ⟨N_in ⟨by omega, by omega⟩, ?_⟩
    by_cases c3 : tp b ≤ hi
    · exact bt (by simp (disch := omega) only [N_lit, N_add, N_mul, N_sub, N_addneg, N_neg1, N_addm, N_le, N_lt, N_eq, N_in, N_cl, N_ne, N_ne', N_ltm, N_mlt, N_lem] <;> omega) (go (by omega))
    · exact bf (by simp (disch := omega) only [N_lit, N_add, N_mul, N_sub, N_addneg, N_neg1, N_addm, N_le, N_lt, N_eq, N_in, N_cl, N_ne, N_ne', N_ltm, N_mlt, N_lem] <;> omega) (no (by omega))
/-! which word -/
def ywn (tp : Nat → Nat) (q e : Nat) : List Nat → Nat → Nat → Bool → Int
  | [], _, _, _ => -1
  | c :: l, f, a, k => if c = 32 then (if k = true ∧ a = e then (f : Int) else ywn tp q e l (f + 1) q true) else if k = true ∧ a < e ∧ tp a = c then ywn tp q e l f (a + 1) true else ywn tp q e l f a false
theorem y_drop : ∀ {l : List Nat} {i c : Nat} {l' : List Nat}, l.drop i = c :: l' → l.getD i 0 = c ∧ l.drop (i + 1) = l'
  | [], i, c, l', h => by rw [List.drop_nil] at h; cases h
  | a :: l, 0, c, l', h => by
    have h' : a :: l = c :: l' := h
    cases h'
    exact ⟨rfl, rfl⟩
  | a :: l, i + 1, c, l', h => by
    have h' : l.drop i = c :: l' := h
    exact y_drop (l := l) (i := i) h'
theorem y_wlp {tp : Nat → Nat} {tn q e : Nat} {x : fz_s} (h : yXT tp tn x) (hs : x.1 4 4 = nI q) (he : x.1 4 2 = nI e) (hqe : q ≤ e ∧ e ≤ tn) {Q : Int32 → fz_s → Prop} : ∀ (l : List Nat) (n i f a : Nat) (k : Bool), fz_wc.drop i = l → i + l.length = 177 → l.length < n → f ≤ i → a ≤ e → Q (iI (ywn tp q e l f a k)) x → lp_X8_wordNumber_12 Q n (nI f) (nI a) k (nI i) x
  | l, 0, i, f, a, k, _, _, h2, _, _, _ => absurd h2 (by omega)
  | [], n + 1, i, f, a, k, h0, h1, h2, h3, h4, hq => by
    have h1' : i = 177 := h1
    show nd_X8_wordNumber_12 (lp_X8_wordNumber_12 Q n) Q (nI f) (nI a) k (nI i) x
    unfold nd_X8_wordNumber_12
    exact bt (by simp (disch := omega) only [N_lit, N_add, N_mul, N_sub, N_addneg, N_neg1, N_addm, N_le, N_lt, N_eq, N_in, N_cl, N_ne, N_ne', N_ltm, N_mlt, N_lem] <;> omega) hq
  | c :: l, n + 1, i, f, a, k, h0, h1, h2, h3, h4, hq => by
    have hn := h.1
    have h1' : i + (l.length + 1) = 177 := h1
    have h2' : l.length + 1 < n + 1 := h2
    obtain ⟨g1, g2⟩ := y_drop h0
    have gc : c < 1000 := by
      rw [← g1]
      exact (by decide +kernel : ∀ j, j < 177 → fz_wc.getD j 0 < 1000) i (by omega)
    show nd_X8_wordNumber_12 (lp_X8_wordNumber_12 Q n) Q (nI f) (nI a) k (nI i) x
    unfold nd_X8_wordNumber_12
    refine bf (by simp (disch := omega) only [N_lit, N_add, N_mul, N_sub, N_addneg, N_neg1, N_addm, N_le, N_lt, N_eq, N_in, N_cl, N_ne, N_ne', N_ltm, N_mlt, N_lem] <;> omega) ⟨N_in ⟨by omega, by omega⟩, fun x1 e1 => ?_⟩
    have e1' : x1 = nI c := by
      rw [e1]
      unfold fz_chr
      rw [N_cl (by omega), g1]
    rw [e1', he, nI_1]
    have up : ∀ (f' a' : Nat) (k' : Bool), f' ≤ i + 1 → a' ≤ e → Q (iI (ywn tp q e l f' a' k')) x → ∀ z : Int32, z = nI (i + 1) → lp_X8_wordNumber_12 Q n (nI f') (nI a') k' z x := by
      intro f' a' k' hf ha hq' z hz
      rw [hz]
      exact y_wlp h hs he hqe l n (i + 1) f' a' k' g2 (by omega) (by omega) hf ha hq'
    unfold ywn at hq
    have nx : Q (iI (ywn tp q e l (f + 1) q true)) x → nd_X8_wordNumber_52 (lp_X8_wordNumber_12 Q n) Q (nI f) (nI i) x := by
      intro hq' y1 z1 y2 z2 y3 z3
      rw [z1, z2, hs, nI_1]
      rw [nI_1] at z3
      exact up (f + 1) q true (by omega) hqe.1 hq' y3 z3
    by_cases c1 : c = 32
    · rw [if_pos c1] at hq
      refine nf (by simp (disch := omega) only [N_lit, N_add, N_mul, N_sub, N_addneg, N_neg1, N_addm, N_le, N_lt, N_eq, N_in, N_cl, N_ne, N_ne', N_ltm, N_mlt, N_lem] <;> omega) ?_
      cases k with
      | false =>
        rw [if_neg (fun z => by cases z.1)] at hq
        exact b3 (nx hq)
      | true =>
        refine b2 ?_
        by_cases c2 : a = e
        · rw [if_pos ⟨rfl, c2⟩] at hq
          refine nf (by rw [c2]) ?_
          rw [i_nI]
          exact hq
        · rw [if_neg (fun z => c2 z.2)] at hq
          exact nt (by simp (disch := omega) only [N_lit, N_add, N_mul, N_sub, N_addneg, N_neg1, N_addm, N_le, N_lt, N_eq, N_in, N_cl, N_ne, N_ne', N_ltm, N_mlt, N_lem] <;> omega) (nx hq)
    · rw [if_neg c1] at hq
      refine nt (by simp (disch := omega) only [N_lit, N_add, N_mul, N_sub, N_addneg, N_neg1, N_addm, N_le, N_lt, N_eq, N_in, N_cl, N_ne, N_ne', N_ltm, N_mlt, N_lem] <;> omega) ?_
      cases k with
      | false =>
        rw [if_neg (fun z => by cases z.1)] at hq
        exact b3 (up f a false (by omega) h4 hq)
      | true =>
        refine b2 ?_
        by_cases c2 : e ≤ a
        · rw [if_neg (fun z => by omega)] at hq
          exact bt (by simp (disch := omega) only [N_lit, N_add, N_mul, N_sub, N_addneg, N_neg1, N_addm, N_le, N_lt, N_eq, N_in, N_cl, N_ne, N_ne', N_ltm, N_mlt, N_lem] <;> omega) (up f a false (by omega) h4 hq)
        refine bf (by simp (disch := omega) only [N_lit, N_add, N_mul, N_sub, N_addneg, N_neg1, N_addm, N_le, N_lt, N_eq, N_in, N_cl, N_ne, N_ne', N_ltm, N_mlt, N_lem] <;> omega) ⟨N_in ⟨by omega, by omega⟩, ?_⟩
        have hB := h.2.1 a
        rw [N_cl (by omega), h.2.2.2 a (by omega)]
        by_cases c3 : tp a = c
        · rw [if_pos ⟨rfl, by omega, c3⟩] at hq
          refine nf (by simp (disch := omega) only [N_lit, N_add, N_mul, N_sub, N_addneg, N_neg1, N_addm, N_le, N_lt, N_eq, N_in, N_cl, N_ne, N_ne', N_ltm, N_mlt, N_lem] <;> omega) (fun x5 e5 => ?_)
          rw [e5, nI_1]
          exact up f (a + 1) true (by omega) (by omega) hq
        · rw [if_neg (fun z => c3 z.2.2)] at hq
          exact nt (by simp (disch := omega) only [N_lit, N_add, N_mul, N_sub, N_addneg, N_neg1, N_addm, N_le, N_lt, N_eq, N_in, N_cl, N_ne, N_ne', N_ltm, N_mlt, N_lem] <;> omega) (up f a false (by omega) h4 hq)
theorem y_wskip {tp : Nat → Nat} {q e : Nat} {r : List Nat} {f a : Nat} : ∀ (w : List Nat), (∀ c, c ∈ w → c ≠ 32) → ywn tp q e (w ++ 32 :: r) f a false = ywn tp q e r (f + 1) q true
  | [], _ => by
    show (if 32 = 32 then (if false = true ∧ a = e then (f : Int) else ywn tp q e r (f + 1) q true) else _) = _
    rw [if_pos rfl, if_neg (fun z => by cases z.1)]
  | c :: w, h => by
    show (if c = 32 then _ else if false = true ∧ a < e ∧ tp a = c then _ else ywn tp q e (w ++ 32 :: r) f a false) = _
    rw [if_neg (h c List.mem_cons_self), if_neg (fun z => by cases z.1)]
    exact y_wskip w (fun c' hc => h c' (List.mem_cons_of_mem _ hc))
theorem y_wone {tp : Nat → Nat} {q e : Nat} {r : List Nat} {f : Nat} : ∀ (w : List Nat) (a : Nat), (∀ c, c ∈ w → c ≠ 32) → (yMt tp a e w ∧ ywn tp q e (w ++ 32 :: r) f a true = (f : Int)) ∨ (¬ yMt tp a e w ∧ ywn tp q e (w ++ 32 :: r) f a true = ywn tp q e r (f + 1) q true)
  | [], a, _ => by
    have e0 : ywn tp q e ([] ++ 32 :: r) f a true = (if 32 = 32 then (if true = true ∧ a = e then (f : Int) else ywn tp q e r (f + 1) q true) else if true = true ∧ a < e ∧ tp a = 32 then ywn tp q e r f (a + 1) true else ywn tp q e r f a false) := rfl
    rw [e0, if_pos rfl]
    by_cases c : a = e
    · exact Or.inl ⟨⟨c.symm, fun j hj => absurd hj (Nat.not_lt_zero _)⟩, if_pos ⟨rfl, c⟩⟩
    · exact Or.inr ⟨fun z => c z.1.symm, if_neg (fun z => c z.2)⟩
  | c :: w, a, h => by
    have e0 : ywn tp q e ((c :: w) ++ 32 :: r) f a true = (if c = 32 then (if true = true ∧ a = e then (f : Int) else ywn tp q e (w ++ 32 :: r) (f + 1) q true) else if true = true ∧ a < e ∧ tp a = c then ywn tp q e (w ++ 32 :: r) f (a + 1) true else ywn tp q e (w ++ 32 :: r) f a false) := rfl
    have hw : ∀ c', c' ∈ w → c' ≠ 32 := fun c' hc => h c' (List.mem_cons_of_mem _ hc)
    rw [e0, if_neg (h c List.mem_cons_self)]
    by_cases c1 : a < e ∧ tp a = c
    · rw [if_pos ⟨rfl, c1⟩]
      have key : yMt tp a e (c :: w) ↔ yMt tp (a + 1) e w := by
        constructor
        · intro z
          refine ⟨by have := z.1; rw [List.length_cons] at this; omega, fun j hj => ?_⟩
          have := z.2 (j + 1) (by rw [List.length_cons]; omega)
          rw [show a + 1 + j = a + (j + 1) by omega]
          exact this
        · intro z
          refine ⟨by have := z.1; rw [List.length_cons]; omega, fun j hj => ?_⟩
          cases j with
          | zero => exact c1.2
          | succ j =>
            have := z.2 j (by rw [List.length_cons] at hj; omega)
            rw [show a + (j + 1) = a + 1 + j by omega]
            exact this
      rw [key]
      exact y_wone w (a + 1) hw
    · rw [if_neg (fun z => c1 z.2)]
      refine Or.inr ⟨fun z => c1 ⟨?_, z.2 0 (by rw [List.length_cons]; omega)⟩, y_wskip w hw⟩
      have := z.1
      rw [List.length_cons] at this
      omega
def yflat : List (List Nat) → List Nat
  | [] => []
  | w :: ws => w ++ 32 :: yflat ws
theorem y_wall {tp : Nat → Nat} {q e : Nat} : ∀ (ws : List (List Nat)) (f : Nat), (∀ w, w ∈ ws → ∀ c, c ∈ w → c ≠ 32) → (ywn tp q e (yflat ws) f q true = -1 ∧ ∀ i, i < ws.length → ¬ yMt tp q e (ws.getD i [])) ∨ ∃ i : Nat, i < ws.length ∧ ywn tp q e (yflat ws) f q true = ((f + i : Nat) : Int) ∧ yMt tp q e (ws.getD i [])
  | [], f, _ => Or.inl ⟨rfl, fun i hi => absurd hi (Nat.not_lt_zero _)⟩
  | w :: ws, f, h => by
    rcases y_wone (tp := tp) (q := q) (e := e) (r := yflat ws) (f := f) w q (h w List.mem_cons_self) with ⟨a1, a2⟩ | ⟨a1, a2⟩
    · exact Or.inr ⟨0, Nat.succ_pos _, a2, a1⟩
    · rcases y_wall ws (f + 1) (fun w' hw => h w' (List.mem_cons_of_mem _ hw)) with ⟨d1, d2⟩ | ⟨i, d1, d2, d3⟩
      · refine Or.inl ⟨a2.trans d1, fun i hi => ?_⟩
        cases i with
        | zero => exact a1
        | succ i => exact d2 i (Nat.lt_of_succ_lt_succ hi)
      · refine Or.inr ⟨i + 1, Nat.succ_lt_succ d1, (a2.trans d2).trans ?_, d3⟩
        rw [show f + 1 + i = f + (i + 1) by omega]
theorem y_flatw : fz_wc = yflat yWL := by decide +kernel
theorem y_no32 : ∀ w, w ∈ yWL → ∀ c, c ∈ w → c ≠ 32 := by decide +kernel
theorem y_word {tp : Nat → Nat} {tn q e : Nat} {x : fz_s} (h : yXT tp tn x) (hs : x.1 4 4 = nI q) (he : x.1 4 2 = nI e) (hqe : q ≤ e ∧ e ≤ tn) {Q : Int32 → fz_s → Prop} (hq : ∀ w, yWN tp q e w → Q (iI w) x) : wp_X8_wordNumber x Q := by
  intro x1 e1
  rw [e1, hs]
  refine y_wlp h hs he hqe fz_wc 2048 0 0 q true rfl (by decide +kernel) (by decide +kernel) (by omega) hqe.1 (hq _ ?_)
  rw [y_flatw]
  rcases y_wall (tp := tp) (q := q) (e := e) yWL 0 y_no32 with ⟨d1, d2⟩ | ⟨i, d1, d2, d3⟩
  · exact Or.inl ⟨d1, d2⟩
  · refine Or.inr ⟨i, d1, ?_, d3⟩
    rw [d2, Nat.zero_add]

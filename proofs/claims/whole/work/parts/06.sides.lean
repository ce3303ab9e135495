/-! WHAT STANDS BEHIND THE CONSTRUCTORS: the cells' kinds and lengths, the references, which no method changes but Grammar.begin (Grammar.code). Cells 2..195 are the class's, those from 196 on the reference's. -/
def fz_cells : List (Nat × Nat) := [(11, 20), (14, 1600), (8, 9), (2, 5), (9, 15), (14, 60), (14, 2), (14, 2), (14, 8), (14, 8), (14, 8), (14, 8), (14, 1632), (14, 5), (14, 5), (9, 15), (14, 60), (14, 2), (14, 2), (14, 8), (14, 8), (14, 8), (14, 8), (14, 1632), (14, 5), (14, 5), (5, 3), (14, 1632), (0, 3), (7, 2), (14, 15), (14, 64), (14, 2), (10, 7), (14, 2), (14, 2), (14, 8), (14, 8), (14, 8), (10, 7), (14, 2), (14, 2), (14, 8), (14, 8), (14, 8), (4, 6), (17, 20), (14, 1000), (14, 1000), (14, 1000), (10, 7), (14, 2), (14, 2), (14, 8), (14, 8), (14, 8), (10, 7), (14, 2), (14, 2), (14, 8), (14, 8), (14, 8), (10, 7), (14, 2), (14, 2), (14, 8), (14, 8), (14, 8), (10, 7), (14, 2), (14, 2), (14, 8), (14, 8), (14, 8), (10, 7), (14, 2), (14, 2), (14, 8), (14, 8), (14, 8), (10, 7), (14, 2), (14, 2), (14, 8), (14, 8), (14, 8), (10, 7), (14, 2), (14, 2), (14, 8), (14, 8), (14, 8), (10, 7), (14, 2), (14, 2), (14, 8), (14, 8), (14, 8), (10, 7), (14, 2), (14, 2), (14, 8), (14, 8), (14, 8), (10, 7), (14, 2), (14, 2), (14, 8), (14, 8), (14, 8), (10, 7), (14, 2), (14, 2), (14, 8), (14, 8), (14, 8), (10, 7), (14, 2), (14, 2), (14, 8), (14, 8), (14, 8), (10, 7), (14, 2), (14, 2), (14, 8), (14, 8), (14, 8), (10, 7), (14, 2), (14, 2), (14, 8), (14, 8), (14, 8), (10, 7), (14, 2), (14, 2), (14, 8), (14, 8), (14, 8), (10, 7), (14, 2), (14, 2), (14, 8), (14, 8), (14, 8), (10, 7), (14, 2), (14, 2), (14, 8), (14, 8), (14, 8), (10, 7), (14, 2), (14, 2), (14, 8), (14, 8), (14, 8), (10, 7), (14, 2), (14, 2), (14, 8), (14, 8), (14, 8), (10, 7), (14, 2), (14, 2), (14, 8), (14, 8), (14, 8), (3, 6), (10, 7), (14, 2), (14, 2), (14, 8), (14, 8), (14, 8), (14, 128), (14, 2), (1, 6), (15, 27), (14, 3), (6, 6), (10, 7), (14, 2), (14, 2), (14, 8), (14, 8), (14, 8), (14, 64), (14, 620), (14, 3), (14, 33), (14, 6), (12, 112), (14, 1600), (14, 6), (13, 7), (13, 7), (13, 7), (13, 6), (13, 2), (13, 4), (13, 4), (13, 5), (13, 5), (13, 5), (13, 4), (13, 6), (13, 5), (13, 4), (13, 4), (13, 4), (13, 6), (13, 6), (13, 5), (13, 4), (13, 2), (13, 3), (13, 3), (13, 3), (13, 3), (13, 3), (15, 20), (14, 4), (14, 48), (14, 8), (14, 10), (14, 10), (14, 3200), (14, 150), (14, 29), (15, 16), (14, 2), (14, 128), (14, 2), (14, 27), (14, 3), (14, 48), (14, 620), (16, 10), (14, 3000), (13, 5), (13, 4), (13, 5), (13, 5), (13, 4), (13, 5), (13, 3), (13, 3), (13, 2), (13, 3), (13, 3), (13, 3), (13, 7), (13, 7), (13, 4), (13, 4), (13, 4), (13, 5), (13, 4), (13, 6), (13, 6), (13, 5), (13, 4), (13, 7), (13, 4), (14, 1700), (14, 1700), (15, 1700), (14, 33)]
def fz_ptr : List (List (Option Nat)) := [[], [], [some 3, none, some 4, some 5, some 6, some 17, some 28, some 30, some 35, some 41, some 47, some 172, some 181, some 184, some 194, none, some 195, none, none, none], [], [some 3, none, none, none, none, none, none, none, none], [some 4, none, none, none, none], [some 7, some 8, some 9, some 10, some 11, some 12, some 13, some 14, some 15, some 16, none, none, none, none, none], [], [], [], [], [], [], [], [], [], [], [some 18, some 19, some 20, some 21, some 22, some 23, some 24, some 25, some 26, some 27, none, none, none, none, none], [], [], [], [], [], [], [], [], [], [], [some 29, none, none], [], [some 6, some 31, some 34], [some 32, some 33], [], [], [], [some 36, some 37, some 38, some 39, some 40, none, none], [], [], [], [], [], [some 42, some 43, some 44, some 45, some 46, none, none], [], [], [], [], [], [some 48, some 49, some 50, some 51, none, none], [some 52, some 58, some 64, some 70, some 76, some 82, some 88, some 94, some 100, some 106, some 112, some 118, some 124, some 130, some 136, some 142, some 148, some 154, some 160, some 166], [], [], [], [some 53, some 54, some 55, some 56, some 57, none, none], [], [], [], [], [], [some 59, some 60, some 61, some 62, some 63, none, none], [], [], [], [], [], [some 65, some 66, some 67, some 68, some 69, none, none], [], [], [], [], [], [some 71, some 72, some 73, some 74, some 75, none, none], [], [], [], [], [], [some 77, some 78, some 79, some 80, some 81, none, none], [], [], [], [], [], [some 83, some 84, some 85, some 86, some 87, none, none], [], [], [], [], [], [some 89, some 90, some 91, some 92, some 93, none, none], [], [], [], [], [], [some 95, some 96, some 97, some 98, some 99, none, none], [], [], [], [], [], [some 101, some 102, some 103, some 104, some 105, none, none], [], [], [], [], [], [some 107, some 108, some 109, some 110, some 111, none, none], [], [], [], [], [], [some 113, some 114, some 115, some 116, some 117, none, none], [], [], [], [], [], [some 119, some 120, some 121, some 122, some 123, none, none], [], [], [], [], [], [some 125, some 126, some 127, some 128, some 129, none, none], [], [], [], [], [], [some 131, some 132, some 133, some 134, some 135, none, none], [], [], [], [], [], [some 137, some 138, some 139, some 140, some 141, none, none], [], [], [], [], [], [some 143, some 144, some 145, some 146, some 147, none, none], [], [], [], [], [], [some 149, some 150, some 151, some 152, some 153, none, none], [], [], [], [], [], [some 155, some 156, some 157, some 158, some 159, none, none], [], [], [], [], [], [some 161, some 162, some 163, some 164, some 165, none, none], [], [], [], [], [], [some 167, some 168, some 169, some 170, some 171, none, none], [], [], [], [], [], [some 6, some 30, some 173, some 179, some 180, none], [some 174, some 175, some 176, some 177, some 178, none, none], [], [], [], [], [], [], [], [some 6, some 30, some 182, some 183, none, none], [], [], [some 30, some 185, some 191, some 192, some 193, none], [some 186, some 187, some 188, some 189, some 190, none, none], [], [], [], [], [], [], [], [], [], [], [some 197, none, none, none, none, none, none, none, none, some 198, none, some 199, some 200, some 201, some 202, some 203, some 204, some 205, some 206, some 207, some 208, some 209, some 210, some 211, some 212, some 213, some 214, some 215, some 216, some 217, some 218, some 219, some 220, some 221, some 222, some 223, some 224, none, none, none, none, some 225, some 226, some 227, some 228, none, none, some 229, some 230, some 231, none, none, none, none, some 232, some 233, none, some 234, none, none, some 235, some 236, some 237, some 238, none, some 239, none, some 240, some 241, some 242, none, some 243, none, none, none, some 244, some 245, some 246, some 247, some 248, some 249, some 250, some 251, some 252, some 253, some 254, some 255, some 256, some 257, some 258, some 259, some 260, some 261, some 262, some 263, some 264, some 265, some 266, some 267, some 268, some 269, none, some 270, none, none, none, some 271, none, none, none, some 272, none], [], [], [], [], [], [], [], [], [], [], [], [], [], [], [], [], [], [], [], [], [], [], [], [], [], [], [], [], [], [], [], [], [], [], [], [], [], [], [], [], [], [], [], [], [], [], [], [], [], [], [], [], [], [], [], [], [], [], [], [], [], [], [], [], [], [], [], [], [], [], [], [], [], [], [], []]
def fz_P0 (c : Option Nat) (a j : Nat) : Option Nat := if a = 5 ∧ j = 1 then c else (fz_ptr.getD a []).getD j none
/-- a side's memory: ints, longs, and (of the class) what Grammar.code is -/
abbrev fz_s : Type := (Nat → Nat → Int32) × (Nat → Nat → Int64) × Option Nat
def fz_hx (g : fz_G) (x m : fz_s) : fz_H := ((20, g.2.2.2.2.2.1) :: (21, 0) :: fz_cells, fun a => if a = 0 then g.2.2.2.2.2.2.1 else if a < 196 then x.1 a else m.1 a, fun a => if a < 196 then x.2.1 a else m.2.1 a, fz_P0 x.2.2)
/-- true: the class's side, false: the reference's -/
def fz_hb (g : fz_G) (b : Bool) (s t : fz_s) : fz_H := match b with
  | true => fz_hx g s t
  | false => fz_hx g t s
def fz_sd (b : Bool) (a : Nat) : Prop := match b with
  | true => 2 ≤ a ∧ a < 196
  | false => 196 ≤ a
/-- a cell of a side, its kind and length -/
def fz_at (b : Bool) (a κ n : Nat) : Prop := fz_sd b a ∧ fz_cells[a - 2]? = some (κ, n)
theorem fz_sd.ge {b : Bool} {a : Nat} (h : fz_sd b a) : 2 ≤ a := by cases b with | true => exact h.1 | false => exact Nat.le_trans (by decide) h
def si (s : fz_s) (a j : Nat) (x : Int32) : fz_s := (fun b => if b = a then upd (s.1 a) j x else s.1 b, s.2.1, s.2.2)
def sa (s : fz_s) (a : Nat) (f : Nat → Int32) : fz_s := (fun b => if b = a then f else s.1 b, s.2.1, s.2.2)
def sl (s : fz_s) (a j : Nat) (x : Int64) : fz_s := (s.1, fun b => if b = a then vp_updL (s.2.1 a) j x else s.2.1 b, s.2.2)
def sc (s : fz_s) (c : Option Nat) : fz_s := (s.1, s.2.1, c)
theorem fz_hI {g : fz_G} {b : Bool} {s t : fz_s} {a : Nat} (h : fz_sd b a) : (fz_hb g b s t).2.1 a = s.1 a := by
  have h2 := h.ge
  cases b with
  | true => show (if a = 0 then _ else if a < 196 then s.1 a else t.1 a) = _; rw [if_neg (by omega), if_pos h.2]
  | false => show (if a = 0 then _ else if a < 196 then t.1 a else s.1 a) = _; rw [if_neg (by omega), if_neg (Nat.not_lt.mpr h)]
theorem fz_hL {g : fz_G} {b : Bool} {s t : fz_s} {a : Nat} (h : fz_sd b a) : (fz_hb g b s t).2.2.1 a = s.2.1 a := by
  cases b with
  | true => show (if a < 196 then s.2.1 a else t.2.1 a) = _; rw [if_pos h.2]
  | false => show (if a < 196 then t.2.1 a else s.2.1 a) = _; rw [if_neg (Nat.not_lt.mpr h)]
theorem fz_hsh {g : fz_G} {b : Bool} {s t : fz_s} {a κ n : Nat} (h : fz_at b a κ n) : (fz_hb g b s t).1[a]? = some (κ, n) := by
  have h2 := h.1.ge
  have : (fz_hb g b s t).1 = (20, g.2.2.2.2.2.1) :: (21, 0) :: fz_cells := by cases b <;> rfl
  rw [this]
  match a, h2, h.2 with
  | a + 2, _, h3 => exact h3
theorem fz_hsA {g : fz_G} {b : Bool} {s t : fz_s} {a : Nat} (h : fz_sd b a) (f : Nat → Int32) : fz_sA (fz_hb g b s t) a f = fz_hb g b (sa s a f) t := by
  have h2 := h.ge
  cases b with
  | true =>
    show (_, (fun q => if q = a then f else if q = 0 then _ else if q < 196 then s.1 q else t.1 q), _, _) = (_, (fun q => if q = 0 then _ else if q < 196 then (if q = a then f else s.1 q) else t.1 q), _, _)
    congr 2
    funext q
    by_cases e : q = a
    · subst e; rw [if_pos rfl, if_neg (by omega), if_pos h.2, if_pos rfl]
    · rw [if_neg e, if_neg e]
  | false =>
    show (_, (fun q => if q = a then f else if q = 0 then _ else if q < 196 then t.1 q else s.1 q), _, _) = (_, (fun q => if q = 0 then _ else if q < 196 then t.1 q else (if q = a then f else s.1 q)), _, _)
    congr 2
    funext q
    by_cases e : q = a
    · subst e; rw [if_pos rfl, if_neg (by omega), if_neg (Nat.not_lt.mpr h), if_pos rfl]
    · rw [if_neg e, if_neg e]
theorem fz_hsI {g : fz_G} {b : Bool} {s t : fz_s} {a : Nat} (h : fz_sd b a) (j : Nat) (x : Int32) : fz_sI (fz_hb g b s t) a j x = fz_hb g b (si s a j x) t := by
  have := fz_hsA (g := g) (s := s) (t := t) h (upd (s.1 a) j x)
  rw [show fz_sI (fz_hb g b s t) a j x = fz_sA (fz_hb g b s t) a (upd ((fz_hb g b s t).2.1 a) j x) from rfl, fz_hI h]
  exact this
theorem fz_hsL {g : fz_G} {b : Bool} {s t : fz_s} {a : Nat} (h : fz_sd b a) (j : Nat) (x : Int64) : fz_sL (fz_hb g b s t) a j x = fz_hb g b (sl s a j x) t := by
  have h2 := h.ge
  have e0 : fz_sL (fz_hb g b s t) a j x = ((fz_hb g b s t).1, (fz_hb g b s t).2.1, (fun q => if q = a then vp_updL (s.2.1 a) j x else (fz_hb g b s t).2.2.1 q), (fz_hb g b s t).2.2.2) := by unfold fz_sL; rw [fz_hL h]
  rw [e0]
  cases b with
  | true =>
    show (_, _, (fun q => if q = a then _ else if q < 196 then s.2.1 q else t.2.1 q), _) = (_, _, (fun q => if q < 196 then (if q = a then _ else s.2.1 q) else t.2.1 q), _)
    congr 3
    funext q
    by_cases e : q = a
    · subst e; rw [if_pos rfl, if_pos h.2, if_pos rfl]
    · rw [if_neg e, if_neg e]
  | false =>
    show (_, _, (fun q => if q = a then _ else if q < 196 then t.2.1 q else s.2.1 q), _) = (_, _, (fun q => if q < 196 then t.2.1 q else (if q = a then _ else s.2.1 q)), _)
    congr 3
    funext q
    by_cases e : q = a
    · subst e; rw [if_pos rfl, if_neg (Nat.not_lt.mpr h), if_pos rfl]
    · rw [if_neg e, if_neg e]
theorem fz_hsP {g : fz_G} {s t : fz_s} (x : Option Nat) : fz_sP (fz_hb g true s t) 5 1 x = fz_hb g true (sc s x) t := by
  show (_, _, _, (fun q => if q = 5 then va_up (fz_P0 s.2.2 5) 1 x else fz_P0 s.2.2 q)) = (_, _, _, fz_P0 x)
  congr 3
  funext q j
  by_cases e : q = 5
  · subst e
    rw [if_pos rfl]
    unfold va_up fz_P0
    by_cases e2 : j = 1
    · subst e2; simp
    · simp [e2]
  · rw [if_neg e]
    unfold fz_P0
    simp [e]
theorem fz_hob {g : fz_G} {b : Bool} {s t : fz_s} {a ci N : Nat} (h : fz_at b a ci N) (hc : (vwCl[ci]?).map (fun q => q.2.2) = some N) : fz_ob (fz_hb g b s t) a ci := by
  cases hq : vwCl[ci]? with
  | none => rw [hq] at hc; cases hc
  | some q =>
    rw [hq] at hc
    obtain ⟨C, T, N'⟩ := q
    have : N' = N := Option.some.inj hc
    subst this
    exact ⟨h.1.ge, C, T, N', hq, fz_hsh h⟩
theorem fz_har {g : fz_G} {b : Bool} {s t : fz_s} {a κ n : Nat} (h : fz_at b a κ n) : fz_ar (fz_hb g b s t) a κ n := ⟨h.1.ge, fz_hsh h⟩
/-- the reference's side has no use of c: any pointer but Grammar.code -/
theorem fz_hP {g : fz_G} {b : Bool} {s t : fz_s} {a j q : Nat} (hp : (fz_ptr.getD a []).getD j none = some q) (hn : ¬ (a = 5 ∧ j = 1)) : (fz_hb g b s t).2.2.2 a j = some q := by
  cases b <;> (show (if a = 5 ∧ j = 1 then _ else _) = _; rw [if_neg hn]; exact hp)
/-- the judgement of a side: the other side's memory is any, and stays -/
def fs_V (g : fz_G) (l : Launch) (μ : fz_M) (d : Nat) (b : Bool) (pc : Nat) (ls st : List Value) (s : fz_s) (Q : Option Value → fz_s → Prop) : Prop := ∀ t : fz_s, fz_V g l μ d 0 0 pc ls st (fz_hb g b s t) (fun v h => ∃ s', h = fz_hb g b s' t ∧ Q v s')
def bi (r : Bool) : Int32 := if r = true then 1 else 0
theorem bi_n (r : Bool) : narrow .boolean (.int (bi r)) = .int (bi r) := by cases r <;> rfl
theorem bi_01 (r : Bool) : bi r = 0 ∨ bi r = 1 := by cases r <;> first | exact Or.inl rfl | exact Or.inr rfl
theorem bi_0 {r : Bool} (h : bi r = 0) : r = false := by cases r with | false => rfl | true => exact absurd h (by decide)
theorem bi_1 {r : Bool} (h : ¬ bi r = 0) : r = true := by cases r with | true => rfl | false => exact absurd rfl h
/-- answers, by their kinds -/
def rV (Q : fz_s → Prop) : Option Value → fz_s → Prop := fun v s => v = none ∧ Q s
def rI (Q : Int32 → fz_s → Prop) : Option Value → fz_s → Prop := fun v s => ∃ r, v = some (.int r) ∧ Q r s
def rZ (Q : Bool → fz_s → Prop) : Option Value → fz_s → Prop := fun v s => ∃ r, v = some (.int (bi r)) ∧ Q r s
def rL (Q : Int64 → fz_s → Prop) : Option Value → fz_s → Prop := fun v s => ∃ r, v = some (.long r) ∧ Q r s
/-- fewer locals known -/
def fz_le : List Value → List Value → Prop
  | [], _ => True
  | v :: t, [] => v = fz_J ∧ fz_le t []
  | v :: t, u :: r => (v = fz_J ∨ v = u) ∧ fz_le t r
theorem fz_le_at : ∀ (l r : List Value), fz_le l r → ∀ (i : Nat) (v : Value), l[i]? = some v → v ≠ fz_J → r[i]? = some v
  | [], _, _, i, v, h, _ => by simp at h
  | u :: t, [], hl, i, v, h, hj => by
    cases i with
    | zero => cases h; exact absurd hl.1 hj
    | succ i => have := fz_le_at t [] hl.2 i v h hj; simp at this
  | u :: t, x :: r, hl, i, v, h, hj => by
    cases i with
    | zero =>
      cases h
      rcases hl.1 with q | q
      · exact absurd q hj
      · rw [q]; rfl
    | succ i => exact fz_le_at t r hl.2 i v h hj
section FS
variable {g : fz_G} {l : Launch} {μ y : fz_M} {d pc n idx : Nat} {b : Bool} {ls st as stk : List Value} {s : fz_s} {Q : Option Value → fz_s → Prop}
theorem fs_weak {ls2 : List Value} (h : fz_le ls2 ls) (k : fs_V g l μ d b pc ls2 st s Q) : fs_V g l μ d b pc ls st s Q := by
  intro t p e R s0 m args below meth c H locs cells slots lc Mc Ms QQ C RM hl hR hE
  refine k t p e R s0 m args below meth c H locs cells slots lc Mc Ms QQ C RM ⟨hl.1, hl.2.1, fun i v hv hj => ?_⟩ hR hE
  rw [List.getElem?_map] at hv
  cases hq : ls2[i]? with
  | none => rw [hq] at hv; cases hv
  | some u =>
    rw [hq] at hv
    have hu : fz_tr g u = v := Option.some.inj hv
    have hj2 : u ≠ fz_J := fun z => hj (by rw [← hu]; exact (fz_tr_J g u).mpr z)
    refine hl.2.2 i v ?_ hj
    rw [List.getElem?_map, fz_le_at _ _ h i u hq hj2]
    exact congrArg some hu
theorem fs_iconst {n : Int} {v : Int32} (hd : decode μ.2.1 pc = .ok (.iconst n, 1)) (hv : Int32.ofInt n = v) (k : fs_V g l μ d b (pc + 1) ls (.int v :: st) s Q) : fs_V g l μ d b pc ls st s Q := fun t => fv_iconst hd hv (k t)
theorem fs_bipush {n : Int} {v : Int32} (hd : decode μ.2.1 pc = .ok (.bipush n, 2)) (hv : (Int8.ofInt n).toInt32 = v) (k : fs_V g l μ d b (pc + 2) ls (.int v :: st) s Q) : fs_V g l μ d b pc ls st s Q := fun t => fv_bipush hd hv (k t)
theorem fs_sipush {n : Int} {v : Int32} (hd : decode μ.2.1 pc = .ok (.sipush n, 3)) (hv : (Int16.ofInt n).toInt32 = v) (k : fs_V g l μ d b (pc + 3) ls (.int v :: st) s Q) : fs_V g l μ d b pc ls st s Q := fun t => fv_sipush hd hv (k t)
theorem fs_lconst {n : Fin 2} {v : Int64} (hd : decode μ.2.1 pc = .ok (.lconst n, 1)) (hv : Int64.ofNat (n : Nat) = v) (k : fs_V g l μ d b (pc + 1) ls (.long v :: st) s Q) : fs_V g l μ d b pc ls st s Q := fun t => fv_lconst hd hv (k t)
theorem fs_ldc2 {idx : Nat} {v : Int64} (hd : decode μ.2.1 pc = .ok (.ldc2_w idx, 3)) (hw : Jvm.Cond.constantLong μ.1.cls idx v ∈ fz_T) (k : fs_V g l μ d b (pc + 3) ls (.long v :: st) s Q) : fs_V g l μ d b pc ls st s Q := fun t => fv_ldc2 hd hw (k t)
theorem fs_iload_n {k0 : Fin 4} {i : Nat} {x : Int32} (hd : decode μ.2.1 pc = .ok (.iload_n k0, 1)) (hi : (k0 : Nat) = i) (hv : ls[i]? = some (.int x)) (k : fs_V g l μ d b (pc + 1) ls (.int x :: st) s Q) : fs_V g l μ d b pc ls st s Q := fun t => fv_iload_n hd hi hv (k t)
theorem fs_iload {i : Nat} {x : Int32} (hd : decode μ.2.1 pc = .ok (.iload i, 2)) (hv : ls[i]? = some (.int x)) (k : fs_V g l μ d b (pc + 2) ls (.int x :: st) s Q) : fs_V g l μ d b pc ls st s Q := fun t => fv_iload hd hv (k t)
theorem fs_lload_n {k0 : Fin 4} {i : Nat} {x : Int64} (hd : decode μ.2.1 pc = .ok (.lload_n k0, 1)) (hi : (k0 : Nat) = i) (hv : ls[i]? = some (.long x)) (k : fs_V g l μ d b (pc + 1) ls (.long x :: st) s Q) : fs_V g l μ d b pc ls st s Q := fun t => fv_lload_n hd hi hv (k t)
theorem fs_lload {i : Nat} {x : Int64} (hd : decode μ.2.1 pc = .ok (.lload i, 2)) (hv : ls[i]? = some (.long x)) (k : fs_V g l μ d b (pc + 2) ls (.long x :: st) s Q) : fs_V g l μ d b pc ls st s Q := fun t => fv_lload hd hv (k t)
theorem fs_aload_n {k0 : Fin 4} {i a : Nat} (hd : decode μ.2.1 pc = .ok (.aload_n k0, 1)) (hi : (k0 : Nat) = i) (hv : ls[i]? = some (.ref a)) (k : fs_V g l μ d b (pc + 1) ls (.ref a :: st) s Q) : fs_V g l μ d b pc ls st s Q := fun t => fv_aload_n hd hi hv (k t)
theorem fs_aload {i a : Nat} (hd : decode μ.2.1 pc = .ok (.aload i, 2)) (hv : ls[i]? = some (.ref a)) (k : fs_V g l μ d b (pc + 2) ls (.ref a :: st) s Q) : fs_V g l μ d b pc ls st s Q := fun t => fv_aload hd hv (k t)
theorem fs_istore_n {k0 : Fin 4} {i : Nat} {x : Int32} (hd : decode μ.2.1 pc = .ok (.istore_n k0, 1)) (hi : (k0 : Nat) = i) (hn : i < μ.2.2.1) (k : fs_V g l μ d b (pc + 1) (fz_st1 ls i (.int x)) st s Q) : fs_V g l μ d b pc ls (.int x :: st) s Q := fun t => fv_istore_n hd hi hn (k t)
theorem fs_istore {i : Nat} {x : Int32} (hd : decode μ.2.1 pc = .ok (.istore i, 2)) (hn : i < μ.2.2.1) (k : fs_V g l μ d b (pc + 2) (fz_st1 ls i (.int x)) st s Q) : fs_V g l μ d b pc ls (.int x :: st) s Q := fun t => fv_istore hd hn (k t)
theorem fs_lstore_n {k0 : Fin 4} {i : Nat} {x : Int64} (hd : decode μ.2.1 pc = .ok (.lstore_n k0, 1)) (hi : (k0 : Nat) = i) (hn : i + 1 < μ.2.2.1) (k : fs_V g l μ d b (pc + 1) (fz_st2 ls i (.long x)) st s Q) : fs_V g l μ d b pc ls (.long x :: st) s Q := fun t => fv_lstore_n hd hi hn (k t)
theorem fs_lstore {i : Nat} {x : Int64} (hd : decode μ.2.1 pc = .ok (.lstore i, 2)) (hn : i + 1 < μ.2.2.1) (k : fs_V g l μ d b (pc + 2) (fz_st2 ls i (.long x)) st s Q) : fs_V g l μ d b pc ls (.long x :: st) s Q := fun t => fv_lstore hd hn (k t)
theorem fs_astore_n {k0 : Fin 4} {i : Nat} {x : Nat} (hd : decode μ.2.1 pc = .ok (.astore_n k0, 1)) (hi : (k0 : Nat) = i) (hn : i < μ.2.2.1) (k : fs_V g l μ d b (pc + 1) (fz_st1 ls i (.ref x)) st s Q) : fs_V g l μ d b pc ls (.ref x :: st) s Q := fun t => fv_astore_n hd hi hn (k t)
theorem fs_astore {i : Nat} {x : Nat} (hd : decode μ.2.1 pc = .ok (.astore i, 2)) (hn : i < μ.2.2.1) (k : fs_V g l μ d b (pc + 2) (fz_st1 ls i (.ref x)) st s Q) : fs_V g l μ d b pc ls (.ref x :: st) s Q := fun t => fv_astore hd hn (k t)
theorem fs_iinc {i : Nat} {n : Int} {x v : Int32} (hd : decode μ.2.1 pc = .ok (.iinc i n, 3)) (hx : ls[i]? = some (.int x)) (hv : x + Int32.ofInt n = v) (hn : i < μ.2.2.1) (k : fs_V g l μ d b (pc + 3) (fz_st1 ls i (.int v)) st s Q) : fs_V g l μ d b pc ls st s Q := fun t => fv_iinc hd hx hv hn (k t)
theorem fs_iadd {x y : Int32} (hd : decode μ.2.1 pc = .ok (.iadd, 1)) (k : fs_V g l μ d b (pc + 1) ls (.int (x + y) :: st) s Q) : fs_V g l μ d b pc ls (.int y :: .int x :: st) s Q := fun t => fv_iadd hd (k t)
theorem fs_isub {x y : Int32} (hd : decode μ.2.1 pc = .ok (.isub, 1)) (k : fs_V g l μ d b (pc + 1) ls (.int (x - y) :: st) s Q) : fs_V g l μ d b pc ls (.int y :: .int x :: st) s Q := fun t => fv_isub hd (k t)
theorem fs_imul {x y : Int32} (hd : decode μ.2.1 pc = .ok (.imul, 1)) (k : fs_V g l μ d b (pc + 1) ls (.int (x * y) :: st) s Q) : fs_V g l μ d b pc ls (.int y :: .int x :: st) s Q := fun t => fv_imul hd (k t)
theorem fs_iand {x y : Int32} (hd : decode μ.2.1 pc = .ok (.iand, 1)) (k : fs_V g l μ d b (pc + 1) ls (.int (x &&& y) :: st) s Q) : fs_V g l μ d b pc ls (.int y :: .int x :: st) s Q := fun t => fv_iand hd (k t)
theorem fs_ior {x y : Int32} (hd : decode μ.2.1 pc = .ok (.ior, 1)) (k : fs_V g l μ d b (pc + 1) ls (.int (x ||| y) :: st) s Q) : fs_V g l μ d b pc ls (.int y :: .int x :: st) s Q := fun t => fv_ior hd (k t)
theorem fs_ixor {x y : Int32} (hd : decode μ.2.1 pc = .ok (.ixor, 1)) (k : fs_V g l μ d b (pc + 1) ls (.int (x ^^^ y) :: st) s Q) : fs_V g l μ d b pc ls (.int y :: .int x :: st) s Q := fun t => fv_ixor hd (k t)
theorem fs_idiv {x y : Int32} (hd : decode μ.2.1 pc = .ok (.idiv, 1)) (hne : ¬ y = 0) (k : fs_V g l μ d b (pc + 1) ls (.int (x / y) :: st) s Q) : fs_V g l μ d b pc ls (.int y :: .int x :: st) s Q := fun t => fv_idiv hd hne (k t)
theorem fs_irem {x y : Int32} (hd : decode μ.2.1 pc = .ok (.irem, 1)) (hne : ¬ y = 0) (k : fs_V g l μ d b (pc + 1) ls (.int (x - (x / y) * y) :: st) s Q) : fs_V g l μ d b pc ls (.int y :: .int x :: st) s Q := fun t => fv_irem hd hne (k t)
theorem fs_ladd {x y : Int64} (hd : decode μ.2.1 pc = .ok (.ladd, 1)) (k : fs_V g l μ d b (pc + 1) ls (.long (x + y) :: st) s Q) : fs_V g l μ d b pc ls (.long y :: .long x :: st) s Q := fun t => fv_ladd hd (k t)
theorem fs_lsub {x y : Int64} (hd : decode μ.2.1 pc = .ok (.lsub, 1)) (k : fs_V g l μ d b (pc + 1) ls (.long (x - y) :: st) s Q) : fs_V g l μ d b pc ls (.long y :: .long x :: st) s Q := fun t => fv_lsub hd (k t)
theorem fs_lmul {x y : Int64} (hd : decode μ.2.1 pc = .ok (.lmul, 1)) (k : fs_V g l μ d b (pc + 1) ls (.long (x * y) :: st) s Q) : fs_V g l μ d b pc ls (.long y :: .long x :: st) s Q := fun t => fv_lmul hd (k t)
theorem fs_land {x y : Int64} (hd : decode μ.2.1 pc = .ok (.land, 1)) (k : fs_V g l μ d b (pc + 1) ls (.long (x &&& y) :: st) s Q) : fs_V g l μ d b pc ls (.long y :: .long x :: st) s Q := fun t => fv_land hd (k t)
theorem fs_lor {x y : Int64} (hd : decode μ.2.1 pc = .ok (.lor, 1)) (k : fs_V g l μ d b (pc + 1) ls (.long (x ||| y) :: st) s Q) : fs_V g l μ d b pc ls (.long y :: .long x :: st) s Q := fun t => fv_lor hd (k t)
theorem fs_ldiv {x y : Int64} (hd : decode μ.2.1 pc = .ok (.ldiv, 1)) (hne : ¬ y = 0) (k : fs_V g l μ d b (pc + 1) ls (.long (x / y) :: st) s Q) : fs_V g l μ d b pc ls (.long y :: .long x :: st) s Q := fun t => fv_ldiv hd hne (k t)
theorem fs_lrem {x y : Int64} (hd : decode μ.2.1 pc = .ok (.lrem, 1)) (hne : ¬ y = 0) (k : fs_V g l μ d b (pc + 1) ls (.long (x - (x / y) * y) :: st) s Q) : fs_V g l μ d b pc ls (.long y :: .long x :: st) s Q := fun t => fv_lrem hd hne (k t)
theorem fs_ishl {x y : Int32} (hd : decode μ.2.1 pc = .ok (.ishl, 1)) (k : fs_V g l μ d b (pc + 1) ls (.int (x <<< (y &&& 31)) :: st) s Q) : fs_V g l μ d b pc ls (.int y :: .int x :: st) s Q := fun t => fv_ishl hd (k t)
theorem fs_ishr {x y : Int32} (hd : decode μ.2.1 pc = .ok (.ishr, 1)) (k : fs_V g l μ d b (pc + 1) ls (.int (x >>> (y &&& 31)) :: st) s Q) : fs_V g l μ d b pc ls (.int y :: .int x :: st) s Q := fun t => fv_ishr hd (k t)
theorem fs_iushr {x y : Int32} (hd : decode μ.2.1 pc = .ok (.iushr, 1)) (k : fs_V g l μ d b (pc + 1) ls (.int (x.toUInt32 >>> (y.toUInt32 &&& Int32.toUInt32 31)).toInt32 :: st) s Q) : fs_V g l μ d b pc ls (.int y :: .int x :: st) s Q := fun t => fv_iushr hd (k t)
theorem fs_i2l {x : Int32} (hd : decode μ.2.1 pc = .ok (.i2l, 1)) (k : fs_V g l μ d b (pc + 1) ls (.long x.toInt64 :: st) s Q) : fs_V g l μ d b pc ls (.int x :: st) s Q := fun t => fv_i2l hd (k t)
theorem fs_l2i {x : Int64} (hd : decode μ.2.1 pc = .ok (.l2i, 1)) (k : fs_V g l μ d b (pc + 1) ls (.int x.toInt32 :: st) s Q) : fs_V g l μ d b pc ls (.long x :: st) s Q := fun t => fv_l2i hd (k t)
theorem fs_lcmp {x y : Int64} (hd : decode μ.2.1 pc = .ok (.lcmp, 1)) (k : fs_V g l μ d b (pc + 1) ls (.int (lg_cmp x y) :: st) s Q) : fs_V g l μ d b pc ls (.long y :: .long x :: st) s Q := fun t => fv_lcmp hd (k t)
theorem fs_dup {v : Value} (hd : decode μ.2.1 pc = .ok (.dup, 1)) (hc : v.category = 1) (k : fs_V g l μ d b (pc + 1) ls (v :: v :: st) s Q) : fs_V g l μ d b pc ls (v :: st) s Q := fun t => fv_dup hd hc (k t)
theorem fs_pop {v : Value} (hd : decode μ.2.1 pc = .ok (.pop, 1)) (hc : v.category = 1) (k : fs_V g l μ d b (pc + 1) ls st s Q) : fs_V g l μ d b pc ls (v :: st) s Q := fun t => fv_pop hd hc (k t)
theorem fs_dup2 {v u : Value} (hd : decode μ.2.1 pc = .ok (.dup2, 1)) (hc : v.category = 1) (hu : u.category = 1) (k : fs_V g l μ d b (pc + 1) ls (v :: u :: v :: u :: st) s Q) : fs_V g l μ d b pc ls (v :: u :: st) s Q := fun t => fv_dup2 hd hc hu (k t)
theorem fs_if_eq {x : Int32} {off : Int} {tgt : Nat} (hd : decode μ.2.1 pc = .ok (.ifCond .eq off, 3)) (ht : (pc : Int) + off = (tgt : Int)) (kt : x = 0 → fs_V g l μ d b tgt ls st s Q) (kf : ¬ x = 0 → fs_V g l μ d b (pc + 3) ls st s Q) : fs_V g l μ d b pc ls (.int x :: st) s Q := fun t => fv_if_eq hd ht (fun q => kt q t) (fun q => kf q t)
theorem fs_icmp_eq {x y : Int32} {off : Int} {tgt : Nat} (hd : decode μ.2.1 pc = .ok (.if_icmp .eq off, 3)) (ht : (pc : Int) + off = (tgt : Int)) (kt : x = y → fs_V g l μ d b tgt ls st s Q) (kf : ¬ x = y → fs_V g l μ d b (pc + 3) ls st s Q) : fs_V g l μ d b pc ls (.int y :: .int x :: st) s Q := fun t => fv_icmp_eq hd ht (fun q => kt q t) (fun q => kf q t)
theorem fs_if_ne {x : Int32} {off : Int} {tgt : Nat} (hd : decode μ.2.1 pc = .ok (.ifCond .ne off, 3)) (ht : (pc : Int) + off = (tgt : Int)) (kt : ¬ x = 0 → fs_V g l μ d b tgt ls st s Q) (kf : x = 0 → fs_V g l μ d b (pc + 3) ls st s Q) : fs_V g l μ d b pc ls (.int x :: st) s Q := fun t => fv_if_ne hd ht (fun q => kt q t) (fun q => kf q t)
theorem fs_icmp_ne {x y : Int32} {off : Int} {tgt : Nat} (hd : decode μ.2.1 pc = .ok (.if_icmp .ne off, 3)) (ht : (pc : Int) + off = (tgt : Int)) (kt : ¬ x = y → fs_V g l μ d b tgt ls st s Q) (kf : x = y → fs_V g l μ d b (pc + 3) ls st s Q) : fs_V g l μ d b pc ls (.int y :: .int x :: st) s Q := fun t => fv_icmp_ne hd ht (fun q => kt q t) (fun q => kf q t)
theorem fs_if_lt {x : Int32} {off : Int} {tgt : Nat} (hd : decode μ.2.1 pc = .ok (.ifCond .lt off, 3)) (ht : (pc : Int) + off = (tgt : Int)) (kt : x < 0 → fs_V g l μ d b tgt ls st s Q) (kf : ¬ x < 0 → fs_V g l μ d b (pc + 3) ls st s Q) : fs_V g l μ d b pc ls (.int x :: st) s Q := fun t => fv_if_lt hd ht (fun q => kt q t) (fun q => kf q t)
theorem fs_icmp_lt {x y : Int32} {off : Int} {tgt : Nat} (hd : decode μ.2.1 pc = .ok (.if_icmp .lt off, 3)) (ht : (pc : Int) + off = (tgt : Int)) (kt : x < y → fs_V g l μ d b tgt ls st s Q) (kf : ¬ x < y → fs_V g l μ d b (pc + 3) ls st s Q) : fs_V g l μ d b pc ls (.int y :: .int x :: st) s Q := fun t => fv_icmp_lt hd ht (fun q => kt q t) (fun q => kf q t)
theorem fs_if_ge {x : Int32} {off : Int} {tgt : Nat} (hd : decode μ.2.1 pc = .ok (.ifCond .ge off, 3)) (ht : (pc : Int) + off = (tgt : Int)) (kt : 0 ≤ x → fs_V g l μ d b tgt ls st s Q) (kf : ¬ 0 ≤ x → fs_V g l μ d b (pc + 3) ls st s Q) : fs_V g l μ d b pc ls (.int x :: st) s Q := fun t => fv_if_ge hd ht (fun q => kt q t) (fun q => kf q t)
theorem fs_icmp_ge {x y : Int32} {off : Int} {tgt : Nat} (hd : decode μ.2.1 pc = .ok (.if_icmp .ge off, 3)) (ht : (pc : Int) + off = (tgt : Int)) (kt : y ≤ x → fs_V g l μ d b tgt ls st s Q) (kf : ¬ y ≤ x → fs_V g l μ d b (pc + 3) ls st s Q) : fs_V g l μ d b pc ls (.int y :: .int x :: st) s Q := fun t => fv_icmp_ge hd ht (fun q => kt q t) (fun q => kf q t)
theorem fs_if_gt {x : Int32} {off : Int} {tgt : Nat} (hd : decode μ.2.1 pc = .ok (.ifCond .gt off, 3)) (ht : (pc : Int) + off = (tgt : Int)) (kt : 0 < x → fs_V g l μ d b tgt ls st s Q) (kf : ¬ 0 < x → fs_V g l μ d b (pc + 3) ls st s Q) : fs_V g l μ d b pc ls (.int x :: st) s Q := fun t => fv_if_gt hd ht (fun q => kt q t) (fun q => kf q t)
theorem fs_icmp_gt {x y : Int32} {off : Int} {tgt : Nat} (hd : decode μ.2.1 pc = .ok (.if_icmp .gt off, 3)) (ht : (pc : Int) + off = (tgt : Int)) (kt : y < x → fs_V g l μ d b tgt ls st s Q) (kf : ¬ y < x → fs_V g l μ d b (pc + 3) ls st s Q) : fs_V g l μ d b pc ls (.int y :: .int x :: st) s Q := fun t => fv_icmp_gt hd ht (fun q => kt q t) (fun q => kf q t)
theorem fs_if_le {x : Int32} {off : Int} {tgt : Nat} (hd : decode μ.2.1 pc = .ok (.ifCond .le off, 3)) (ht : (pc : Int) + off = (tgt : Int)) (kt : x ≤ 0 → fs_V g l μ d b tgt ls st s Q) (kf : ¬ x ≤ 0 → fs_V g l μ d b (pc + 3) ls st s Q) : fs_V g l μ d b pc ls (.int x :: st) s Q := fun t => fv_if_le hd ht (fun q => kt q t) (fun q => kf q t)
theorem fs_icmp_le {x y : Int32} {off : Int} {tgt : Nat} (hd : decode μ.2.1 pc = .ok (.if_icmp .le off, 3)) (ht : (pc : Int) + off = (tgt : Int)) (kt : x ≤ y → fs_V g l μ d b tgt ls st s Q) (kf : ¬ x ≤ y → fs_V g l μ d b (pc + 3) ls st s Q) : fs_V g l μ d b pc ls (.int y :: .int x :: st) s Q := fun t => fv_icmp_le hd ht (fun q => kt q t) (fun q => kf q t)
theorem fs_goto {off : Int} {tgt : Nat} (hd : decode μ.2.1 pc = .ok (.goto off, 3)) (ht : (pc : Int) + off = (tgt : Int)) (k : fs_V g l μ d b tgt ls st s Q) : fs_V g l μ d b pc ls st s Q := fun t => fv_goto hd ht (k t)
theorem fs_tableOut {dflt lo hi : Int} {offs : Array Int} {len : Nat} {x : Int32} {tgt : Nat} (hd : decode μ.2.1 pc = .ok (.tableswitch dflt lo hi offs, len)) (hx : x.toInt < lo ∨ hi < x.toInt) (ht : (pc : Int) + dflt = (tgt : Int)) (k : fs_V g l μ d b tgt ls st s Q) : fs_V g l μ d b pc ls (.int x :: st) s Q := fun t => fv_tableOut hd hx ht (k t)
theorem fs_tableIn {dflt lo hi : Int} {offs : Array Int} {len : Nat} {x : Int32} {off : Int} {tgt : Nat} (hd : decode μ.2.1 pc = .ok (.tableswitch dflt lo hi offs, len)) (h1 : ¬ x.toInt < lo) (h2 : ¬ hi < x.toInt) (ho : offs[(x.toInt - lo).toNat]? = some off) (ht : (pc : Int) + off = (tgt : Int)) (k : fs_V g l μ d b tgt ls st s Q) : fs_V g l μ d b pc ls (.int x :: st) s Q := fun t => fv_tableIn hd h1 h2 ho ht (k t)
theorem fs_lookup {dflt : Int} {ps : Array (Int × Int)} {len : Nat} {x : Int32} {off : Int} {tgt : Nat} (hd : decode μ.2.1 pc = .ok (.lookupswitch dflt ps, len)) (hp : (ps.toList.zip (ps.toList.drop 1)).all (fun (a, next) => a.1 < next.1) = true) (ho : Op.lookupswitch.offset ps.toList dflt x.toInt = off) (ht : (pc : Int) + off = (tgt : Int)) (k : fs_V g l μ d b tgt ls st s Q) : fs_V g l μ d b pc ls (.int x :: st) s Q := fun t => fv_lookup hd hp ho ht (k t)
theorem fs_ifnull {a : Nat} {off : Int} (hd : decode μ.2.1 pc = .ok (.ifnull off, 3)) (k : fs_V g l μ d b (pc + 3) ls st s Q) : fs_V g l μ d b pc ls (.ref a :: st) s Q := fun t => fv_ifnull hd (k t)
theorem fs_vret {Q : fz_s → Prop} (hd : decode μ.2.1 pc = .ok (.return_, 1)) (hr : μ.2.2.2 = none) (hq : Q s) : fs_V g l μ d b pc ls [] s (rV Q) := fun t => fv_vret hd hr ⟨s, rfl, rfl, hq⟩
theorem fs_iret {x : Int32} {Q : Int32 → fz_s → Prop} (hd : decode μ.2.1 pc = .ok (.ireturn, 1)) (hr : μ.2.2.2 = some .int) (hq : Q x s) : fs_V g l μ d b pc ls [.int x] s (rI Q) := fun t => fv_iret hd hr rfl ⟨s, rfl, x, rfl, hq⟩
theorem fs_zret {x : Int32} (r : Bool) {Q : Bool → fz_s → Prop} (hd : decode μ.2.1 pc = .ok (.ireturn, 1)) (hr : μ.2.2.2 = some .boolean) (hx : x = bi r) (hq : Q r s) : fs_V g l μ d b pc ls [.int x] s (rZ Q) := fun t => by
  subst hx
  exact fv_iret hd hr (bi_n r) ⟨s, rfl, r, rfl, hq⟩
theorem fs_lret {x : Int64} {Q : Int64 → fz_s → Prop} (hd : decode μ.2.1 pc = .ok (.lreturn, 1)) (hr : μ.2.2.2 = some .long) (hq : Q x s) : fs_V g l μ d b pc ls [.long x] s (rL Q) := fun t => fv_lret hd hr ⟨s, rfl, x, rfl, hq⟩
/-- fields and rows -/
theorem fs_geti {ci j a N : Nat} (hd : decode μ.2.1 pc = .ok (.getfield idx, 3)) (hf : fz_fl μ.1.cls idx ci j) (ho : fz_at b a ci N) (hc : (vwCl[ci]?).map (fun q => q.2.2) = some N) (ht : fz_ty ci j = .int ∨ fz_ty ci j = .boolean) (k : fs_V g l μ d b (pc + 3) ls (.int (s.1 a j) :: st) s Q) : fs_V g l μ d b pc ls (.ref a :: st) s Q := fun t => fv_geti hd hf (fz_hob ho hc) ht (by rw [fz_hI ho.1]; exact k t)
theorem fs_getl {ci j a N : Nat} (hd : decode μ.2.1 pc = .ok (.getfield idx, 3)) (hf : fz_fl μ.1.cls idx ci j) (ho : fz_at b a ci N) (hc : (vwCl[ci]?).map (fun q => q.2.2) = some N) (ht : fz_ty ci j = .long) (k : fs_V g l μ d b (pc + 3) ls (.long (s.2.1 a j) :: st) s Q) : fs_V g l μ d b pc ls (.ref a :: st) s Q := fun t => fv_getl hd hf (fz_hob ho hc) ht (by rw [fz_hL ho.1]; exact k t)
theorem fs_getr {ci j a N q : Nat} (hd : decode μ.2.1 pc = .ok (.getfield idx, 3)) (hf : fz_fl μ.1.cls idx ci j) (ho : fz_at b a ci N) (hc : (vwCl[ci]?).map (fun q => q.2.2) = some N) (ht : (∃ c, fz_ty ci j = .object c) ∨ ∃ t, fz_ty ci j = .array t) (hp : (fz_ptr.getD a []).getD j none = some q) (hn : ¬ (a = 5 ∧ j = 1)) (k : fs_V g l μ d b (pc + 3) ls (.ref q :: st) s Q) : fs_V g l μ d b pc ls (.ref a :: st) s Q := fun t => fv_getr hd hf (fz_hob ho hc) ht (fz_hP hp hn) (k t)
theorem fs_getc {q : Nat} (hd : decode μ.2.1 pc = .ok (.getfield idx, 3)) (hf : fz_fl μ.1.cls idx 2 1) (hp : s.2.2 = some q) (k : fs_V g l μ d true (pc + 3) ls (.ref q :: st) s Q) : fs_V g l μ d true pc ls (.ref 5 :: st) s Q := fun t => fv_getr hd hf (fz_hob (N := 5) ⟨⟨by decide, by decide⟩, rfl⟩ rfl) (Or.inr ⟨.int, rfl⟩) hp (k t)
theorem fs_puti {ci j a N : Nat} {x : Int32} (hd : decode μ.2.1 pc = .ok (.putfield idx, 3)) (hf : fz_fl μ.1.cls idx ci j) (hfin : ∀ (C : String) (T : u_T) (N : Nat), vwCl[ci]? = some (C, T, N) → (T j).2.2.2 = false) (ho : fz_at b a ci N) (hc : (vwCl[ci]?).map (fun q => q.2.2) = some N) (ht : fz_ty ci j = .int ∨ (fz_ty ci j = .boolean ∧ (x = 0 ∨ x = 1))) (k : fs_V g l μ d b (pc + 3) ls st (si s a j x) Q) : fs_V g l μ d b pc ls (.int x :: .ref a :: st) s Q := fun t => by
  obtain ⟨C, T, N2, h1, h2, h3⟩ := hf
  exact fv_puti hd ⟨C, T, N2, h1, h2, h3, Or.inl (hfin C T N2 h1)⟩ (fz_hob ho hc) ht (by rw [fz_hsI ho.1]; exact k t)
theorem fs_putl {ci j a N : Nat} {x : Int64} (hd : decode μ.2.1 pc = .ok (.putfield idx, 3)) (hf : fz_fl μ.1.cls idx ci j) (hfin : ∀ (C : String) (T : u_T) (N : Nat), vwCl[ci]? = some (C, T, N) → (T j).2.2.2 = false) (ho : fz_at b a ci N) (hc : (vwCl[ci]?).map (fun q => q.2.2) = some N) (ht : fz_ty ci j = .long) (k : fs_V g l μ d b (pc + 3) ls st (sl s a j x) Q) : fs_V g l μ d b pc ls (.long x :: .ref a :: st) s Q := fun t => by
  obtain ⟨C, T, N2, h1, h2, h3⟩ := hf
  exact fv_putl hd ⟨C, T, N2, h1, h2, h3, Or.inl (hfin C T N2 h1)⟩ (fz_hob ho hc) ht (by rw [fz_hsL ho.1]; exact k t)
theorem fs_putc {q : Nat} (hd : decode μ.2.1 pc = .ok (.putfield idx, 3)) (hf : fz_fl μ.1.cls idx 2 1) (k : fs_V g l μ d true (pc + 3) ls st (sc s (some q)) Q) : fs_V g l μ d true pc ls (.ref q :: .ref 5 :: st) s Q := fun t => by
  obtain ⟨C, T, N2, h1, h2, h3⟩ := hf
  refine fv_putr hd ⟨C, T, N2, h1, h2, h3, Or.inl ?_⟩ (fz_hob (N := 5) ⟨⟨by decide, by decide⟩, rfl⟩ rfl) (Or.inr ⟨.int, rfl⟩) (by rw [fz_hsP]; exact k t)
  cases h1; rfl
theorem fs_iald {a n : Nat} {i : Int32} (hd : decode μ.2.1 pc = .ok (.iaload, 1)) (ha : fz_at b a 14 n) (hin : vp_in i n) (k : fs_V g l μ d b (pc + 1) ls (.int (s.1 a i.toNatClampNeg) :: st) s Q) : fs_V g l μ d b pc ls (.int i :: .ref a :: st) s Q := fun t => fv_iald hd (fz_har ha) hin (by rw [fz_hI ha.1]; exact k t)
theorem fs_cald {a n : Nat} {i : Int32} (hd : decode μ.2.1 pc = .ok (.caload, 1)) (ha : fz_at b a 13 n) (hin : vp_in i n) (k : fs_V g l μ d b (pc + 1) ls (.int (s.1 a i.toNatClampNeg) :: st) s Q) : fs_V g l μ d b pc ls (.int i :: .ref a :: st) s Q := fun t => fv_cald hd (fz_har ha) hin (by rw [fz_hI ha.1]; exact k t)
theorem fs_zald {a n : Nat} {i : Int32} (hd : decode μ.2.1 pc = .ok (.baload, 1)) (ha : fz_at b a 16 n) (hin : vp_in i n) (k : fs_V g l μ d b (pc + 1) ls (.int (s.1 a i.toNatClampNeg) :: st) s Q) : fs_V g l μ d b pc ls (.int i :: .ref a :: st) s Q := fun t => fv_zald hd (fz_har ha) hin (by rw [fz_hI ha.1]; exact k t)
theorem fs_lald {a n : Nat} {i : Int32} (hd : decode μ.2.1 pc = .ok (.laload, 1)) (ha : fz_at b a 15 n) (hin : vp_in i n) (k : fs_V g l μ d b (pc + 1) ls (.long (s.2.1 a i.toNatClampNeg) :: st) s Q) : fs_V g l μ d b pc ls (.int i :: .ref a :: st) s Q := fun t => fv_lald hd (fz_har ha) hin (by rw [fz_hL ha.1]; exact k t)
theorem fs_aald {i : Int32} (hd : decode μ.2.1 pc = .ok (.aaload, 1)) (hin : vp_in i 20) {q : Nat} (hp : (fz_ptr.getD 48 []).getD i.toNatClampNeg none = some q) (k : fs_V g l μ d true (pc + 1) ls (.ref q :: st) s Q) : fs_V g l μ d true pc ls (.int i :: .ref 48 :: st) s Q := fun t => fv_aald hd (fz_har ⟨⟨by decide, by decide⟩, rfl⟩) hin (fz_hP hp (by omega)) (k t)
theorem fs_alen {a n : Nat} (hd : decode μ.2.1 pc = .ok (.arraylength, 1)) (ha : fz_at b a 14 n) (k : fs_V g l μ d b (pc + 1) ls (.int (nI n) :: st) s Q) : fs_V g l μ d b pc ls (.ref a :: st) s Q := fun t => fv_alen hd (fz_har ha) (k t)
theorem fs_alenC {a n : Nat} (hd : decode μ.2.1 pc = .ok (.arraylength, 1)) (ha : fz_at b a 13 n) (k : fs_V g l μ d b (pc + 1) ls (.int (nI n) :: st) s Q) : fs_V g l μ d b pc ls (.ref a :: st) s Q := fun t => fv_alenC hd (fz_har ha) (k t)
theorem fs_iast {a n : Nat} {i x : Int32} (hd : decode μ.2.1 pc = .ok (.iastore, 1)) (ha : fz_at b a 14 n) (hin : vp_in i n) (k : fs_V g l μ d b (pc + 1) ls st (si s a i.toNatClampNeg x) Q) : fs_V g l μ d b pc ls (.int x :: .int i :: .ref a :: st) s Q := fun t => fv_iast hd (fz_har ha) hin (by rw [fz_hsI ha.1]; exact k t)
theorem fs_zast {a n : Nat} {i x : Int32} (hd : decode μ.2.1 pc = .ok (.bastore, 1)) (ha : fz_at b a 16 n) (hin : vp_in i n) (hx : vp_nar .boolean x = x) (k : fs_V g l μ d b (pc + 1) ls st (si s a i.toNatClampNeg x) Q) : fs_V g l μ d b pc ls (.int x :: .int i :: .ref a :: st) s Q := fun t => fv_zast hd (fz_har ha) hin (by rw [hx, fz_hsI ha.1]; exact k t)
theorem fs_last {a n : Nat} {i : Int32} {x : Int64} (hd : decode μ.2.1 pc = .ok (.lastore, 1)) (ha : fz_at b a 15 n) (hin : vp_in i n) (k : fs_V g l μ d b (pc + 1) ls st (sl s a i.toNatClampNeg x) Q) : fs_V g l μ d b pc ls (.long x :: .int i :: .ref a :: st) s Q := fun t => fv_last hd (fz_har ha) hin (by rw [fz_hsL ha.1]; exact k t)
theorem fs_mono {Q' : Option Value → fz_s → Prop} (k : fs_V g l μ d b pc ls st s Q) (hq : ∀ v s', Q v s' → Q' v s') : fs_V g l μ d b pc ls st s Q' := fun t => fv_mono (k t) (fun v h ⟨s', e, q⟩ => ⟨s', e, hq v s' q⟩)
/-- calls: the callee's contract, what comes back -/
theorem fs_callV {a ci N : Nat} {Q1 : Option Value → fz_s → Prop} (hd : decode μ.2.1 pc = .ok (.invokevirtual idx, 3)) (hy : fz_me y n) (hl1 : Cond.methodLink μ.1.cls idx y.1 ∈ fz_T) (hl2 : Cond.instanceMethod y.1 ∈ fz_T) (hl3 : Cond.selects y.1.cls y.1 y.1 ∈ fz_T) (ho : fz_at b a ci N) (hc : (vwCl[ci]?).map (fun q => q.2.2) = some N) (hc2 : (vwCl[ci]?).map (fun q => q.1) = some y.1.cls) (hn : as.length = n) (hlen : (fz_as (.ref a :: as)).length ≤ y.2.2.1) (hst : (st.map fun v => v.category).sum ≤ 8) (hk : as.reverse ++ .ref a :: st = stk)
    (k1 : fs_V g l y d b 0 (fz_en (.ref a :: as) y.2.2.1) [] s Q1) (k2 : ∀ v s', Q1 v s' → fs_V g l μ (d + 1) b (pc + 3) ls (v.toList ++ st) s' Q) : fs_V g l μ (d + 1) b pc ls stk s Q := fun t => by
  subst hk
  exact fv_callV hd hy hl1 hl2 hl3 (fz_hob ho hc) hc2 hn hlen hst (fv_mono (k1 t) (fun v h ⟨s', e, q⟩ => by subst e; exact k2 v s' q t))
theorem fs_callS {Q1 : Option Value → fz_s → Prop} (hd : decode μ.2.1 pc = .ok (.invokestatic idx, 3)) (hy : fz_me y n) (hl1 : Cond.methodLink μ.1.cls idx y.1 ∈ fz_T ∨ ∃ host, Cond.methodLinkNest μ.1.cls idx y.1 host ∈ tables_1) (hl2 : Cond.static y.1 ∈ fz_T) (hn : as.length = n) (hlen : (fz_as as).length ≤ y.2.2.1) (hst : (st.map fun v => v.category).sum ≤ 8) (hk : as.reverse ++ st = stk)
    (k1 : fs_V g l y d b 0 (fz_en as y.2.2.1) [] s Q1) (k2 : ∀ v s', Q1 v s' → fs_V g l μ (d + 1) b (pc + 3) ls (v.toList ++ st) s' Q) : fs_V g l μ (d + 1) b pc ls stk s Q := fun t => by
  subst hk
  exact fv_callS hd hy hl1 hl2 hn hlen hst (fv_mono (k1 t) (fun v h ⟨s', e, q⟩ => by subst e; exact k2 v s' q t))
end FS
theorem k2_V {g : fz_G} {l : Launch} {μ : fz_M} {d pc : Nat} {b : Bool} {ls st : List Value} {Q : Option Value → fz_s → Prop} {Q1 : fz_s → Prop} (k : ∀ s', Q1 s' → fs_V g l μ d b pc ls st s' Q) : ∀ v s', rV Q1 v s' → fs_V g l μ d b pc ls (v.toList ++ st) s' Q := fun v s' ⟨e, q⟩ => by subst e; exact k s' q
theorem k2_I {g : fz_G} {l : Launch} {μ : fz_M} {d pc : Nat} {b : Bool} {ls st : List Value} {Q : Option Value → fz_s → Prop} {Q1 : Int32 → fz_s → Prop} (k : ∀ r s', Q1 r s' → fs_V g l μ d b pc ls (.int r :: st) s' Q) : ∀ v s', rI Q1 v s' → fs_V g l μ d b pc ls (v.toList ++ st) s' Q := fun v s' ⟨r, e, q⟩ => by subst e; exact k r s' q
theorem k2_Z {g : fz_G} {l : Launch} {μ : fz_M} {d pc : Nat} {b : Bool} {ls st : List Value} {Q : Option Value → fz_s → Prop} {Q1 : Bool → fz_s → Prop} (k : ∀ r s', Q1 r s' → fs_V g l μ d b pc ls (.int (bi r) :: st) s' Q) : ∀ v s', rZ Q1 v s' → fs_V g l μ d b pc ls (v.toList ++ st) s' Q := fun v s' ⟨r, e, q⟩ => by subst e; exact k r s' q
theorem k2_L {g : fz_G} {l : Launch} {μ : fz_M} {d pc : Nat} {b : Bool} {ls st : List Value} {Q : Option Value → fz_s → Prop} {Q1 : Int64 → fz_s → Prop} (k : ∀ r s', Q1 r s' → fs_V g l μ d b pc ls (.long r :: st) s' Q) : ∀ v s', rL Q1 v s' → fs_V g l μ d b pc ls (v.toList ++ st) s' Q := fun v s' ⟨r, e, q⟩ => by subst e; exact k r s' q

/-! THE CODE'S PURE MACHINE -/
theorem bt {c A B : Prop} (h : c) (a : A) : (c → A) ∧ (¬ c → B) := ⟨fun _ => a, fun n => absurd h n⟩
theorem bf {c A B : Prop} (h : ¬ c) (b : B) : (c → A) ∧ (¬ c → B) := ⟨fun n => absurd n h, fun _ => b⟩
theorem nt {c A B : Prop} (h : ¬ c) (a : A) : (¬ c → A) ∧ (c → B) := ⟨fun _ => a, fun n => absurd n h⟩
theorem nf {c A B : Prop} (h : c) (b : B) : (¬ c → A) ∧ (c → B) := ⟨fun n => absurd h n, fun _ => b⟩
def clip (v : Int) : Int := if 1000000 < v then 1000000 else if v < -1000000 then -1000000 else v
def op2 (k : Nat) (a b : Int) : Int :=
  if k = 0 then clip (a + b) else if k = 1 then clip (a - b) else if k = 2 then clip (a * b) else if k = 3 then (if b = 0 then 0 else a.fdiv b) else if k = 4 then (if a < b then a else b) else if k = 5 then (if b < a then a else b) else if k = 6 then (if a < b then 1 else 0) else if k = 7 then (if b < a then 1 else 0) else if k = 8 then (if a = b then 1 else 0) else if k = 9 then a * b else if 0 < a + b then 1 else 0
def stp (σ : Nat → Int) (sc : Nat → Bool) (c : Nat) (st : List Int) : Option (List Int) :=
  if c = 30000 then (if st.length < 64 then some (1 :: st) else none)
  else if c < 10000 then (if st.length < 64 then some ((c : Int) :: st) else none)
  else if c < 20000 then (if st.length < 64 ∧ sc (c - 10000) = true ∧ c - 10000 < 11 then some (σ (c - 10000) :: st) else none)
  else match st with
  | [] => none
  | b :: t =>
    if c = 20000 then (if b = 0 ∨ b = 1 then some ((1 - b) :: t) else none)
    else if c = 20001 then (if sc 11 = true then some ((if b = 0 then σ 11 else if b = 1 then σ 12 else 0) :: t) else none)
    else if c = 20002 then (if sc 13 = true then some ((if b = 0 then σ 13 else if b = 1 then σ 14 else 0) :: t) else none)
    else match t with
    | [] => none
    | a :: t => if c ≤ 20013 ∧ (20012 ≤ c → (a = 0 ∨ a = 1) ∧ (b = 0 ∨ b = 1)) then some (op2 (c - 20003) a b :: t) else none
def evl (σ : Nat → Int) (sc : Nat → Bool) : List Nat → List Int → Option (List Int)
  | [], st => some st
  | c :: l, st => (stp σ sc c st).bind (evl σ sc l)
theorem evl_app (σ : Nat → Int) (sc : Nat → Bool) (l1 l2 : List Nat) (st : List Int) : evl σ sc (l1 ++ l2) st = (evl σ sc l1 st).bind (evl σ sc l2) := by
  induction l1 generalizing st with
  | nil => rfl
  | cons c l ih =>
    show (stp σ sc c st).bind (evl σ sc (l ++ l2)) = ((stp σ sc c st).bind (evl σ sc l)).bind (evl σ sc l2)
    cases stp σ sc c st with
    | none => rfl
    | some z => exact ih z
def bd (a : Int) : Prop := -1000000 ≤ a ∧ a ≤ 1000000
def cC (c : Nat) : Nat := if c = 30000 then 1 else c
def cM (c : Nat) : Nat := if c = 30000 then 13 else if c < 10000 then 1000 + c else if c < 20000 then c - 10000 + 40 else if c = 20000 then 12 else if c = 20001 then 60 else if c = 20002 then 61 else c - 20002
def Stk (f : Nat → Int32) : List Int → Prop
  | [] => True
  | a :: t => f t.length = iI a ∧ Stk f t
theorem Stk.cong {f f' : Nat → Int32} : ∀ {st : List Int}, (∀ k, k < st.length → f' k = f k) → Stk f st → Stk f' st
  | [], _, _ => trivial
  | _ :: t, h, hs => ⟨(h t.length (Nat.lt_succ_self _)).trans hs.1, Stk.cong (st := t) (fun k hk => h k (Nat.lt_succ_of_lt hk)) hs.2⟩
def StL (f : Nat → Int64) : List Int → Prop
  | [] => True
  | a :: t => f t.length = lI a ∧ StL f t
theorem StL.cong {f f' : Nat → Int64} : ∀ {st : List Int}, (∀ k, k < st.length → f' k = f k) → StL f st → StL f' st
  | [], _, _ => trivial
  | _ :: t, h, hs => ⟨(h t.length (Nat.lt_succ_self _)).trans hs.1, StL.cong (st := t) (fun k hk => h k (Nat.lt_succ_of_lt hk)) hs.2⟩
def Seg (f : Nat → Int32) (c : Nat → Nat) : Nat → List Nat → Prop
  | _, [] => True
  | i, a :: l => f i = nI (c a) ∧ Seg f c (i + 1) l
theorem Seg.cong {f f' : Nat → Int32} {c : Nat → Nat} : ∀ {l : List Nat} {i : Nat}, (∀ k, i ≤ k → k < i + l.length → f' k = f k) → Seg f c i l → Seg f' c i l
  | [], _, _, _ => trivial
  | a :: l, i, h, hs => ⟨(h i (Nat.le_refl _) (by simp only [List.length_cons]; omega)).trans hs.1, Seg.cong (l := l) (fun k h1 h2 => h k (by omega) (by simp only [List.length_cons]; omega)) hs.2⟩
theorem clip_bd (v : Int) : bd (clip v) := by
  unfold bd clip
  split
  · omega
  · split <;> omega
theorem fdiv_bd {a b : Int} (ha : bd a) : bd (a.fdiv b) := by
  unfold bd at *
  have h1 := Int.natAbs_fdiv_le_natAbs a b
  omega
theorem op2_bd {k : Nat} {a b : Int} (ha : bd a) (hb : bd b) (h9 : 9 ≤ k → (a = 0 ∨ a = 1) ∧ (b = 0 ∨ b = 1)) : bd (op2 k a b) := by
  unfold op2
  split
  · exact clip_bd _
  split
  · exact clip_bd _
  split
  · exact clip_bd _
  split
  · split
    · unfold bd; omega
    · exact fdiv_bd ha
  split
  · split <;> assumption
  split
  · split <;> assumption
  split
  · split <;> (unfold bd; omega)
  split
  · split <;> (unfold bd; omega)
  split
  · split <;> (unfold bd; omega)
  split
  · obtain ⟨h1, h2⟩ := h9 (by omega)
    rcases h1 with rfl | rfl <;> rcases h2 with rfl | rfl <;> (unfold bd; omega)
  · split <;> (unfold bd; omega)
theorem stp_bd {σ : Nat → Int} {sc : Nat → Bool} {c : Nat} {st st' : List Int} (hσ : ∀ k, sc k = true → bd (σ k)) (h12 : sc 11 = true → sc 12 = true) (h14 : sc 13 = true → sc 14 = true) (h : stp σ sc c st = some st') (hb : ∀ a ∈ st, bd a) : ∀ a ∈ st', bd a := by
  have h0 : bd 0 := by unfold bd; omega
  have h1 : bd 1 := by unfold bd; omega
  unfold stp at h
  split at h
  · split at h
    · cases h; intro a ha; rcases List.mem_cons.mp ha with rfl | ha
      · exact h1
      · exact hb a ha
    · cases h
  split at h
  · split at h
    · cases h; intro a ha; rcases List.mem_cons.mp ha with rfl | ha
      · unfold bd; omega
      · exact hb a ha
    · cases h
  split at h
  · split at h
    · rename_i q; cases h; intro a ha; rcases List.mem_cons.mp ha with rfl | ha
      · exact hσ _ q.2.1
      · exact hb a ha
    · cases h
  split at h
  · cases h
  rename_i b t
  have hbb := hb b List.mem_cons_self
  split at h
  · split at h
    · rename_i q; cases h; intro a ha; rcases List.mem_cons.mp ha with rfl | ha
      · rcases q with rfl | rfl
        · exact h1
        · exact h0
      · exact hb a (List.mem_cons_of_mem _ ha)
    · cases h
  split at h
  · split at h
    · rename_i q; cases h; intro a ha; rcases List.mem_cons.mp ha with rfl | ha
      · split
        · exact hσ _ q
        · split
          · exact hσ _ (h12 q)
          · exact h0
      · exact hb a (List.mem_cons_of_mem _ ha)
    · cases h
  split at h
  · split at h
    · rename_i q; cases h; intro a ha; rcases List.mem_cons.mp ha with rfl | ha
      · split
        · exact hσ _ q
        · split
          · exact hσ _ (h14 q)
          · exact h0
      · exact hb a (List.mem_cons_of_mem _ ha)
    · cases h
  split at h
  · cases h
  split at h
  · rename_i q
    have h := Option.some.inj h
    rw [← h]
    intro a ha
    rcases List.mem_cons.mp ha with ha | ha
    · rw [ha]
      exact op2_bd (hb _ (List.mem_cons_of_mem _ List.mem_cons_self)) hbb (fun h9 => q.2 (by omega))
    · exact hb a (List.mem_cons_of_mem _ (List.mem_cons_of_mem _ ha))
  · cases h

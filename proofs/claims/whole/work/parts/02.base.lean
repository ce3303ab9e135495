/-! THE PICTURE. A heap in numbers: for each cell its kind and length; ints, longs, references by cell and place. Cell 0 is the script, 1 the text of the words, the rest are those that the law has made, in their order. Kinds 0..12: objects of the classes of vwCl; 13 char[], 14 int[], 15 long[], 16 boolean[], 17 World[]; 20 the script, 21 the text. -/
abbrev fz_H : Type := List (Nat × Nat) × (Nat → Nat → Int32) × (Nat → Nat → Int64) × (Nat → Nat → Option Nat)
/-- classes' numbers, slots, array classes, the heap at the law's start, the script's address, length and ints, the text's address, its bytes' address -/
abbrev fz_G : Type := (Nat → ClassId) × (Nat → Nat → Nat) × (Nat → ClassId) × Heap × Nat × Nat × (Nat → Int32) × Nat × Nat
/-- a method: its name, bytes, locals, what it answers -/
abbrev fz_M : Type := MethodName × ByteArray × Nat × Option FieldType
def fz_J : Value := .retAddr 0
def fz_ad (g : fz_G) (a : Nat) : Nat := if a = 0 then g.2.2.2.2.1 else if a = 1 then g.2.2.2.2.2.2.2.1 else g.2.2.2.1.size + (a - 2)
def fz_tr (g : fz_G) (v : Value) : Value := match v with
  | .ref a => .ref (fz_ad g a)
  | .int x => .int x
  | .long x => .long x
  | .null => .null
  | .float x => .float x
  | .double x => .double x
  | .retAddr x => .retAddr x
def fz_ty (ci : Nat) : Nat → FieldType := match ci with
  | 0 => tyX0 | 1 => tyX1 | 2 => tyX2 | 3 => tyX3 | 4 => tyX4 | 5 => tyX5 | 6 => tyX6 | 7 => tyX7 | 8 => tyX8 | 9 => tyX9 | 10 => tyX10 | 11 => tyX11 | _ => tyX12
def fz_v (g : fz_G) (h : fz_H) (ci a j : Nat) : Value := match fz_ty ci j with
  | .long => .long (h.2.2.1 a j)
  | .object _ => va_rf ((h.2.2.2 a j).map (fz_ad g))
  | .array _ => va_rf ((h.2.2.2 a j).map (fz_ad g))
  | _ => .int (h.2.1 a j)
def fz_ce (g : fz_G) (h : fz_H) (a : Nat) : va_E := match h.1.getD a (0, 0) with
  | (13, n) => .inl (g.2.2.1 0, n, .inl (h.2.1 a))
  | (14, n) => .inl (g.2.2.1 1, n, .inl (h.2.1 a))
  | (15, n) => .inl (g.2.2.1 2, n, .inr (.inl (h.2.2.1 a)))
  | (16, n) => .inl (g.2.2.1 3, n, .inl (h.2.1 a))
  | (17, n) => .inl (g.2.2.1 4, n, .inr (.inr (.inr (.inr (fun j => (h.2.2.2 a j).map (fz_ad g))))))
  | (ci, n) => .inr (ci, (List.range n).map (fz_v g h ci a))
def fz_ws (g : fz_G) (h : fz_H) : va_W := (List.range (h.1.length - 2)).map (fun k => (g.2.2.2.1.size + k, fz_ce g h (k + 2)))
def fz_A (g : fz_G) : Nat → Prop := fun q => g.2.2.2.1.size ≤ q
abbrev fz_D (g : fz_G) : va_G := (g.1, g.2.1)
def fz_tys (g : fz_G) : List (ClassId × FieldType) := [(g.2.2.1 0, .char), (g.2.2.1 1, .int), (g.2.2.1 2, .long), (g.2.2.1 3, .boolean), (g.2.2.1 4, .object "FoolTrade$World")]
/-- the heap is as the picture has it; nothing older than the law was written -/
def fz_Rel (g : fz_G) (h : fz_H) (H : Heap) (locs : List Loc) : Prop :=
  va_P (fz_D g) vwCl (fz_ws g h) H ∧ va_D (fz_A g) (fz_ws g h) ∧ va_S (fz_A g) g.2.2.2.1 H locs ∧ H.size = g.2.2.2.1.size + (h.1.length - 2) ∧ 2 ≤ h.1.length ∧ h.1[0]? = some (20, g.2.2.2.2.2.1) ∧ h.1[1]? = some (21, 0) ∧ (∀ j, j < g.2.2.2.2.2.1 → h.2.1 0 j = g.2.2.2.2.2.2.1 j)
/-- the words' text -/
def fz_text : String := "harvest quarrel year wits oath cheer away guests number lives home sends goose does fights stays village person of snow or and not all min max first last often total most least "
def fz_bytes : List Int32 := [104, 97, 114, 118, 101, 115, 116, 32, 113, 117, 97, 114, 114, 101, 108, 32, 121, 101, 97, 114, 32, 119, 105, 116, 115, 32, 111, 97, 116, 104, 32, 99, 104, 101, 101, 114, 32, 97, 119, 97, 121, 32, 103, 117, 101, 115, 116, 115, 32, 110, 117, 109, 98, 101, 114, 32, 108, 105, 118, 101, 115, 32, 104, 111, 109, 101, 32, 115, 101, 110, 100, 115, 32, 103, 111, 111, 115, 101, 32, 100, 111, 101, 115, 32, 102, 105, 103, 104, 116, 115, 32, 115, 116, 97, 121, 115, 32, 118, 105, 108, 108, 97, 103, 101, 32, 112, 101, 114, 115, 111, 110, 32, 111, 102, 32, 115, 110, 111, 119, 32, 111, 114, 32, 97, 110, 100, 32, 110, 111, 116, 32, 97, 108, 108, 32, 109, 105, 110, 32, 109, 97, 120, 32, 102, 105, 114, 115, 116, 32, 108, 97, 115, 116, 32, 111, 102, 116, 101, 110, 32, 116, 111, 116, 97, 108, 32, 109, 111, 115, 116, 32, 108, 101, 97, 115, 116, 32]
def fz_SF (bs bv : Nat) (A : Nat → Prop) (U : State) (H : Heap) : Prop := vk_S 1 [177] [fz_bytes] (fun _ => bs) (fun _ => bv) A U H ∧ va_Z "java/lang/String" "COMPACT_STRINGS" "Z" (.int 1) A U H ∧ va_Zq "jdk/internal/util/Preconditions" "SIOOBE_FORMATTER" "Ljava/util/function/BiFunction;" A U H
theorem fz_SF.moved {bs bv : Nat} {A : Nat → Prop} {u U : State} {H : Heap} (hvm : u.vm.Alike U.vm) (h : fz_SF bs bv A u H) : fz_SF bs bv A U H := ⟨h.1.moved hvm, h.2.1.moved hvm, h.2.2.moved hvm⟩
theorem fz_SF.kept {bs bv : Nat} {A : Nat → Prop} {U : State} {H H1 : Heap} (h : fz_SF bs bv A U H) (hq : ∀ a : Nat, a < H.size → ¬ A a → H1[a]? = H[a]?) : fz_SF bs bv A U H1 := ⟨h.1.kept hq, h.2.1.kept hq, h.2.2.kept hq⟩
/-- what the tables say, in every state -/
def fz_K (g : fz_G) (s : State) : Prop := va_K (fz_D g) vwCl (fz_tys g) s ∧ va_X g.2.2.2.2.1 g.2.2.2.2.2.1 g.2.2.2.2.2.2.1 s g.2.2.2.1 ∧ g.2.2.2.2.1 < g.2.2.2.1.size ∧ (∀ (a : String) (i : Nat) (x : MethodName) (k : String), Cond.methodLinkNest a i x k ∈ tables_1 → va_Nw (.methodLinkNest a i x k) s) ∧ vk_R "FoolTrade$Tokens" 57 fz_text g.2.2.2.2.2.2.2.1 s ∧ fz_SF g.2.2.2.2.2.2.2.1 g.2.2.2.2.2.2.2.2 (fz_A g) s g.2.2.2.1 ∧ va_AO "FoolTrade$World" s
theorem fz_K.same {g : fz_G} {u U : State} (hvm : u.vm = U.vm) (h : fz_K g u) : fz_K g U := ⟨va_K.moved (by rw [hvm]; exact Vm.Alike.refl _) h.1, h.2.1.moved (by rw [hvm]; exact Vm.Alike.refl _), h.2.2.1, fun a i x k hw => va_Nw.same rfl hvm (h.2.2.2.1 a i x k hw), vk_R.same hvm.symm h.2.2.2.2.1, h.2.2.2.2.2.1.moved (by rw [hvm]; exact Vm.Alike.refl _), h.2.2.2.2.2.2.moved (by rw [hvm]; exact Vm.Alike.refl _)⟩
theorem fz_K.warm {g : fz_G} {s U : State} (hW : s.WarmedH U.vm) (h : fz_K g s) : fz_K g U := ⟨va_K.moved hW.alike h.1, h.2.1.moved hW.alike, h.2.2.1, fun a i x k hw => va_Nw.warmM hW (h.2.2.2.1 a i x k hw), h.2.2.2.2.1.warm hW, h.2.2.2.2.2.1.moved hW.alike, h.2.2.2.2.2.2.moved hW.alike⟩
def fz_C (g : fz_G) (μ : fz_M) (p : Program) (s : State) (m : MethodId) (args : Array Value) (meth : Method) (c : Code) : Prop :=
  p.tables.exec = Jvm.exec ∧ c.code = μ.2.1 ∧ meth.sig.returnType = μ.2.2.2 ∧ c.maxLocals = μ.2.2.1 ∧ s.vm.findClass μ.1.cls = some m.cls ∧ (∀ w ∈ fz_T, w.before args s = true) ∧ meth.locks = false ∧ (μ.1.name = "<init>" → meth.name = "<init>") ∧ fz_K g s
def fz_R (d ra rb : Nat) (R : Room) (cells slots Mc Ms : Nat) : Prop := d ≤ R.frames ∧ 64 * d ≤ R.locals ∧ cells + ra ≤ Mc ∧ slots + rb ≤ Ms ∧ Mc ≤ R.cells ∧ Ms ≤ R.slots
/-- the locals: by place; fz_J where nothing is known -/
def fz_L (lc : Array Slot) (nL : Nat) (l : List Value) : Prop := lc.size = nL ∧ lv_wf lc ∧ ∀ (i : Nat) (v : Value), l[i]? = some v → v ≠ fz_J → lc[i]? = some (.val v)
def fz_ret (ret : Option FieldType) (v : Option Value) (i : Instr) : Prop := (ret = none ∧ v = none ∧ i = .return_) ∨ (∃ (ty : FieldType) (x : Int32), ret = some ty ∧ v = some (.int x) ∧ i = .ireturn ∧ narrow ty (.int x) = .int x) ∨ (∃ x : Int64, ret = some .long ∧ v = some (.long x) ∧ i = .lreturn)
/-- what is to be shown where the method answers -/
def fz_E (g : fz_G) (l : Launch) (μ : fz_M) (Q : Option Value → fz_H → Prop) (p : Program) (e : Env) (R : Room) (s : State) (m : MethodId) (args : Array Value) (below : List Frame) (meth : Method) (c : Code) (Mc Ms : Nat) (QQ : State → Prop) : Prop :=
  ∀ (v : Option Value) (h : fz_H) (H : Heap) (locs : List Loc) (cells slots : Nat) (lc : Array Slot) (pc : Nat) (i : Instr), Q v h → fz_Rel g h H locs → cells ≤ Mc → slots ≤ Ms → fz_ret μ.2.2.2 v i → decode μ.2.1 pc = .ok (i, 1) →
    W p l e R s m args below meth c H locs cells slots QQ (F0 m pc lc v.toList)
/-- from here, with this picture, the method answers so that Q; d: how many calls may stand open behind it; ra, rb: cells and slots that it may still make -/
def fz_V (g : fz_G) (l : Launch) (μ : fz_M) (d ra rb pc : Nat) (ls st : List Value) (h : fz_H) (Q : Option Value → fz_H → Prop) : Prop :=
  ∀ (p : Program) (e : Env) (R : Room) (s : State) (m : MethodId) (args : Array Value) (below : List Frame) (meth : Method) (c : Code) (H : Heap) (locs : List Loc) (cells slots : Nat) (lc : Array Slot) (Mc Ms : Nat) (QQ : State → Prop),
    fz_C g μ p s m args meth c → fz_R d ra rb R cells slots Mc Ms → fz_L lc μ.2.2.1 (ls.map (fz_tr g)) → fz_Rel g h H locs → fz_E g l μ Q p e R s m args below meth c Mc Ms QQ →
    W p l e R s m args below meth c H locs cells slots QQ (F0 m pc lc (st.map (fz_tr g)))
theorem fz_tr_J (g : fz_G) (v : Value) : fz_tr g v = fz_J ↔ v = fz_J := by cases v <;> simp [fz_tr, fz_J]
theorem fz_tr_cat (g : fz_G) (v : Value) : (fz_tr g v).category = v.category := by cases v <;> rfl
theorem fz_Lat {g : fz_G} {lc : Array Slot} {nL : Nat} {ls : List Value} (h : fz_L lc nL (ls.map (fz_tr g))) {i : Nat} {v : Value} (hv : ls[i]? = some v) (hj : v ≠ fz_J) : lc[i]? = some (.val (fz_tr g v)) :=
  h.2.2 i (fz_tr g v) (by rw [List.getElem?_map, hv]; rfl) (fun q => hj ((fz_tr_J g v).mp q))
/-- the known locals as pairs -/
def fz_prs (l : List Value) : List (Nat × Value) := (List.range l.length).filterMap (fun i => (l[i]?).bind fun v => if v = fz_J then none else some (i, v))
theorem fz_prs_mem {l : List Value} {i : Nat} {v : Value} (h : l[i]? = some v) (hj : v ≠ fz_J) : (i, v) ∈ fz_prs l := by
  refine List.mem_filterMap.mpr ⟨i, List.mem_range.mpr (List.getElem?_eq_some_iff.mp h).1, ?_⟩
  rw [h]
  simp [hj]
theorem fz_prs_of {l : List Value} {q : Nat × Value} (h : q ∈ fz_prs l) : l[q.1]? = some q.2 ∧ q.2 ≠ fz_J := by
  obtain ⟨i, -, hi⟩ := List.mem_filterMap.mp h
  cases hl : l[i]? with
  | none => rw [hl] at hi; cases hi
  | some v =>
    rw [hl] at hi
    by_cases hj : v = fz_J
    · simp [hj] at hi
    · simp [hj] at hi
      subst hi
      exact ⟨hl, hj⟩
theorem fz_has {lc : Array Slot} {nL : Nat} {l : List Value} (h : fz_L lc nL l) : lv_has lc nL (fz_prs l) := ⟨h.1, h.2.1, fun q hq => h.2.2 q.1 q.2 (fz_prs_of hq).1 (fz_prs_of hq).2⟩
/-- storing into the locals -/
def fz_clr (l : List Value) (i : Nat) : List Value := match i with
  | 0 => l
  | j + 1 => if (l.getD j .null).category = 2 then l.set j fz_J else l
def fz_st1 (l : List Value) (i : Nat) (v : Value) : List Value := (fz_clr l i).set i v
def fz_st2 (l : List Value) (i : Nat) (v : Value) : List Value := ((fz_clr l i).set i v).set (i + 1) fz_J
theorem fz_clr_of {l : List Value} {i j : Nat} {w : Value} (h : (fz_clr l i)[j]? = some w) (hw : w ≠ fz_J) : l[j]? = some w ∧ ¬ (j + 1 = i ∧ w.category = 2) := by
  cases i with
  | zero => exact ⟨h, fun q => by omega⟩
  | succ k =>
    change (if (l.getD k .null).category = 2 then l.set k fz_J else l)[j]? = some w at h
    by_cases hc : (l.getD k .null).category = 2
    · rw [if_pos hc] at h
      by_cases hjk : j = k
      · subst hjk
        rw [List.getElem?_set] at h
        split at h
        · split at h
          · cases h; exact absurd rfl hw
          · cases h
        · rename_i q; exact absurd rfl q
      · rw [List.getElem?_set_ne (Ne.symm hjk)] at h
        exact ⟨h, fun q => hjk (by omega)⟩
    · rw [if_neg hc] at h
      refine ⟨h, fun q => hc ?_⟩
      have : j = k := by omega
      subst this
      rw [List.getD_eq_getElem?_getD, h]
      exact q.2
theorem fz_L1 {g : fz_G} {lc : Array Slot} {nL i : Nat} {ls : List Value} {v : Value} (h : lv_has lc nL ((i, fz_tr g v) :: (fz_prs (ls.map (fz_tr g))).filter (fun q => !(q.1 == i) && !(q.1 + 1 == i && q.2.category == 2)))) : fz_L lc nL ((fz_st1 ls i v).map (fz_tr g)) := by
  refine ⟨h.1, h.2.1, fun j w hw hj => ?_⟩
  rw [List.getElem?_map] at hw
  cases hs : (fz_st1 ls i v)[j]? with
  | none => rw [hs] at hw; cases hw
  | some u =>
    rw [hs] at hw
    have hu : fz_tr g u = w := Option.some.inj hw
    have hju : u ≠ fz_J := fun q => hj (by rw [← hu]; exact (fz_tr_J g u).mpr q)
    unfold fz_st1 at hs
    by_cases hji : j = i
    · subst hji
      rw [List.getElem?_set] at hs
      split at hs
      · split at hs
        · cases hs
          rw [← hu]
          exact h.2.2 _ List.mem_cons_self
        · cases hs
      · rename_i q; exact absurd rfl q
    · rw [List.getElem?_set_ne (Ne.symm hji)] at hs
      obtain ⟨h1, h2⟩ := fz_clr_of hs hju
      refine h.2.2 (j, w) (List.mem_cons_of_mem _ (List.mem_filter.mpr ⟨fz_prs_mem (by rw [List.getElem?_map, h1]; exact congrArg some hu) hj, ?_⟩))
      simp only [Bool.and_eq_true, Bool.not_eq_true', beq_eq_false_iff_ne, ne_eq, Bool.and_eq_false_iff]
      refine ⟨hji, ?_⟩
      by_cases q : j + 1 = i
      · refine Or.inr fun q2 => h2 ⟨q, ?_⟩
        rw [← fz_tr_cat g u, hu]
        simpa using q2
      · exact Or.inl q
theorem fz_L2 {g : fz_G} {lc : Array Slot} {nL i : Nat} {ls : List Value} {v : Value} (h : lv_has lc nL ((i, fz_tr g v) :: (fz_prs (ls.map (fz_tr g))).filter (fun q => !(q.1 == i) && (!(q.1 == i + 1) && !(q.1 + 1 == i && q.2.category == 2))))) : fz_L lc nL ((fz_st2 ls i v).map (fz_tr g)) := by
  refine ⟨h.1, h.2.1, fun j w hw hj => ?_⟩
  rw [List.getElem?_map] at hw
  cases hs : (fz_st2 ls i v)[j]? with
  | none => rw [hs] at hw; cases hw
  | some u =>
    rw [hs] at hw
    have hu : fz_tr g u = w := Option.some.inj hw
    have hju : u ≠ fz_J := fun q => hj (by rw [← hu]; exact (fz_tr_J g u).mpr q)
    unfold fz_st2 at hs
    by_cases hj1 : j = i + 1
    · subst hj1
      rw [List.getElem?_set] at hs
      split at hs
      · split at hs
        · cases hs; exact absurd rfl hju
        · cases hs
      · rename_i q; exact absurd rfl q
    · rw [List.getElem?_set_ne (Ne.symm hj1)] at hs
      by_cases hji : j = i
      · subst hji
        rw [List.getElem?_set] at hs
        split at hs
        · split at hs
          · cases hs
            rw [← hu]
            exact h.2.2 _ List.mem_cons_self
          · cases hs
        · rename_i q; exact absurd rfl q
      · rw [List.getElem?_set_ne (Ne.symm hji)] at hs
        obtain ⟨h1, h2⟩ := fz_clr_of hs hju
        refine h.2.2 (j, w) (List.mem_cons_of_mem _ (List.mem_filter.mpr ⟨fz_prs_mem (by rw [List.getElem?_map, h1]; exact congrArg some hu) hj, ?_⟩))
        simp only [Bool.and_eq_true, Bool.not_eq_true', beq_eq_false_iff_ne, ne_eq, Bool.and_eq_false_iff]
        refine ⟨hji, hj1, ?_⟩
        by_cases q : j + 1 = i
        · refine Or.inr fun q2 => h2 ⟨q, ?_⟩
          rw [← fz_tr_cat g u, hu]
          simpa using q2
        · exact Or.inl q
section FV
variable {g : fz_G} {l : Launch} {μ : fz_M} {d ra rb pc : Nat} {ls st : List Value} {h : fz_H} {Q : Option Value → fz_H → Prop}
theorem fv_iconst {n : Int} {v : Int32} (hd : decode μ.2.1 pc = .ok (.iconst n, 1)) (hv : Int32.ofInt n = v) (k : fz_V g l μ d ra rb (pc + 1) ls (.int v :: st) h Q) : fz_V g l μ d ra rb pc ls st h Q := fun p e R s m args below meth c H locs cells slots lc Mc Ms QQ C RM hl hR hE => lv_iconst C.1 C.2.1 hd hv (k p e R s m args below meth c H locs cells slots lc Mc Ms QQ C RM hl hR hE)
theorem fv_bipush {n : Int} {v : Int32} (hd : decode μ.2.1 pc = .ok (.bipush n, 2)) (hv : (Int8.ofInt n).toInt32 = v) (k : fz_V g l μ d ra rb (pc + 2) ls (.int v :: st) h Q) : fz_V g l μ d ra rb pc ls st h Q := fun p e R s m args below meth c H locs cells slots lc Mc Ms QQ C RM hl hR hE => lv_bipush C.1 C.2.1 hd hv (k p e R s m args below meth c H locs cells slots lc Mc Ms QQ C RM hl hR hE)
theorem fv_sipush {n : Int} {v : Int32} (hd : decode μ.2.1 pc = .ok (.sipush n, 3)) (hv : (Int16.ofInt n).toInt32 = v) (k : fz_V g l μ d ra rb (pc + 3) ls (.int v :: st) h Q) : fz_V g l μ d ra rb pc ls st h Q := fun p e R s m args below meth c H locs cells slots lc Mc Ms QQ C RM hl hR hE => lv_sipush C.1 C.2.1 hd hv (k p e R s m args below meth c H locs cells slots lc Mc Ms QQ C RM hl hR hE)
theorem fv_lconst {n : Fin 2} {v : Int64} (hd : decode μ.2.1 pc = .ok (.lconst n, 1)) (hv : Int64.ofNat (n : Nat) = v) (k : fz_V g l μ d ra rb (pc + 1) ls (.long v :: st) h Q) : fz_V g l μ d ra rb pc ls st h Q := fun p e R s m args below meth c H locs cells slots lc Mc Ms QQ C RM hl hR hE => lv_lconst C.1 C.2.1 hd hv (k p e R s m args below meth c H locs cells slots lc Mc Ms QQ C RM hl hR hE)
theorem fv_ldc2 {idx : Nat} {v : Int64} (hd : decode μ.2.1 pc = .ok (.ldc2_w idx, 3)) (hw : Jvm.Cond.constantLong μ.1.cls idx v ∈ fz_T) (k : fz_V g l μ d ra rb (pc + 3) ls (.long v :: st) h Q) : fz_V g l μ d ra rb pc ls st h Q := fun p e R s m args below meth c H locs cells slots lc Mc Ms QQ C RM hl hR hE => lv_ldc2 C.1 C.2.1 C.2.2.2.2.1 (C.2.2.2.2.2.1 _ hw) hd (k p e R s m args below meth c H locs cells slots lc Mc Ms QQ C RM hl hR hE)
theorem fv_iload_n {k0 : Fin 4} {i : Nat} {x : Int32} (hd : decode μ.2.1 pc = .ok (.iload_n k0, 1)) (hi : (k0 : Nat) = i) (hv : ls[i]? = some (.int x)) (k : fz_V g l μ d ra rb (pc + 1) ls (.int x :: st) h Q) : fz_V g l μ d ra rb pc ls st h Q := fun p e R s m args below meth c H locs cells slots lc Mc Ms QQ C RM hl hR hE => lv_iload_n C.1 C.2.1 hd hi (fz_Lat hl hv (by intro q; cases q)) (k p e R s m args below meth c H locs cells slots lc Mc Ms QQ C RM hl hR hE)
theorem fv_iload {i : Nat} {x : Int32} (hd : decode μ.2.1 pc = .ok (.iload i, 2)) (hv : ls[i]? = some (.int x)) (k : fz_V g l μ d ra rb (pc + 2) ls (.int x :: st) h Q) : fz_V g l μ d ra rb pc ls st h Q := fun p e R s m args below meth c H locs cells slots lc Mc Ms QQ C RM hl hR hE => lv_iload C.1 C.2.1 hd (fz_Lat hl hv (by intro q; cases q)) (k p e R s m args below meth c H locs cells slots lc Mc Ms QQ C RM hl hR hE)
theorem fv_lload_n {k0 : Fin 4} {i : Nat} {x : Int64} (hd : decode μ.2.1 pc = .ok (.lload_n k0, 1)) (hi : (k0 : Nat) = i) (hv : ls[i]? = some (.long x)) (k : fz_V g l μ d ra rb (pc + 1) ls (.long x :: st) h Q) : fz_V g l μ d ra rb pc ls st h Q := fun p e R s m args below meth c H locs cells slots lc Mc Ms QQ C RM hl hR hE => lv_lload_n C.1 C.2.1 hd hi (fz_Lat hl hv (by intro q; cases q)) (k p e R s m args below meth c H locs cells slots lc Mc Ms QQ C RM hl hR hE)
theorem fv_lload {i : Nat} {x : Int64} (hd : decode μ.2.1 pc = .ok (.lload i, 2)) (hv : ls[i]? = some (.long x)) (k : fz_V g l μ d ra rb (pc + 2) ls (.long x :: st) h Q) : fz_V g l μ d ra rb pc ls st h Q := fun p e R s m args below meth c H locs cells slots lc Mc Ms QQ C RM hl hR hE => lv_lload C.1 C.2.1 hd (fz_Lat hl hv (by intro q; cases q)) (k p e R s m args below meth c H locs cells slots lc Mc Ms QQ C RM hl hR hE)
theorem fv_aload_n {k0 : Fin 4} {i a : Nat} (hd : decode μ.2.1 pc = .ok (.aload_n k0, 1)) (hi : (k0 : Nat) = i) (hv : ls[i]? = some (.ref a)) (k : fz_V g l μ d ra rb (pc + 1) ls (.ref a :: st) h Q) : fz_V g l μ d ra rb pc ls st h Q := fun p e R s m args below meth c H locs cells slots lc Mc Ms QQ C RM hl hR hE => lv_aload_n C.1 C.2.1 hd hi (fz_Lat hl hv (by intro q; cases q)) (k p e R s m args below meth c H locs cells slots lc Mc Ms QQ C RM hl hR hE)
theorem fv_aload {i a : Nat} (hd : decode μ.2.1 pc = .ok (.aload i, 2)) (hv : ls[i]? = some (.ref a)) (k : fz_V g l μ d ra rb (pc + 2) ls (.ref a :: st) h Q) : fz_V g l μ d ra rb pc ls st h Q := fun p e R s m args below meth c H locs cells slots lc Mc Ms QQ C RM hl hR hE => lv_aload C.1 C.2.1 hd (fz_Lat hl hv (by intro q; cases q)) (k p e R s m args below meth c H locs cells slots lc Mc Ms QQ C RM hl hR hE)
theorem fv_istore_n {k0 : Fin 4} {i : Nat} {x : Int32} (hd : decode μ.2.1 pc = .ok (.istore_n k0, 1)) (hi : (k0 : Nat) = i) (hn : i < μ.2.2.1) (k : fz_V g l μ d ra rb (pc + 1) (fz_st1 ls i (.int x)) st h Q) : fz_V g l μ d ra rb pc ls (.int x :: st) h Q := fun p e R s m args below meth c H locs cells slots lc Mc Ms QQ C RM hl hR hE => lv_istore_n C.1 C.2.1 hd hi (fz_has hl) hn rfl (fun lc hl => (k p e R s m args below meth c H locs cells slots lc Mc Ms QQ C RM (fz_L1 (v := .int x) hl) hR hE))
theorem fv_istore {i : Nat} {x : Int32} (hd : decode μ.2.1 pc = .ok (.istore i, 2)) (hn : i < μ.2.2.1) (k : fz_V g l μ d ra rb (pc + 2) (fz_st1 ls i (.int x)) st h Q) : fz_V g l μ d ra rb pc ls (.int x :: st) h Q := fun p e R s m args below meth c H locs cells slots lc Mc Ms QQ C RM hl hR hE => lv_istore C.1 C.2.1 hd (fz_has hl) hn rfl (fun lc hl => (k p e R s m args below meth c H locs cells slots lc Mc Ms QQ C RM (fz_L1 (v := .int x) hl) hR hE))
theorem fv_lstore_n {k0 : Fin 4} {i : Nat} {x : Int64} (hd : decode μ.2.1 pc = .ok (.lstore_n k0, 1)) (hi : (k0 : Nat) = i) (hn : i + 1 < μ.2.2.1) (k : fz_V g l μ d ra rb (pc + 1) (fz_st2 ls i (.long x)) st h Q) : fz_V g l μ d ra rb pc ls (.long x :: st) h Q := fun p e R s m args below meth c H locs cells slots lc Mc Ms QQ C RM hl hR hE => lv_lstore_n C.1 C.2.1 hd hi (fz_has hl) hn rfl (fun lc hl => (k p e R s m args below meth c H locs cells slots lc Mc Ms QQ C RM (fz_L2 (v := .long x) hl) hR hE))
theorem fv_lstore {i : Nat} {x : Int64} (hd : decode μ.2.1 pc = .ok (.lstore i, 2)) (hn : i + 1 < μ.2.2.1) (k : fz_V g l μ d ra rb (pc + 2) (fz_st2 ls i (.long x)) st h Q) : fz_V g l μ d ra rb pc ls (.long x :: st) h Q := fun p e R s m args below meth c H locs cells slots lc Mc Ms QQ C RM hl hR hE => lv_lstore C.1 C.2.1 hd (fz_has hl) hn rfl (fun lc hl => (k p e R s m args below meth c H locs cells slots lc Mc Ms QQ C RM (fz_L2 (v := .long x) hl) hR hE))
theorem fv_astore_n {k0 : Fin 4} {i : Nat} {x : Nat} (hd : decode μ.2.1 pc = .ok (.astore_n k0, 1)) (hi : (k0 : Nat) = i) (hn : i < μ.2.2.1) (k : fz_V g l μ d ra rb (pc + 1) (fz_st1 ls i (.ref x)) st h Q) : fz_V g l μ d ra rb pc ls (.ref x :: st) h Q := fun p e R s m args below meth c H locs cells slots lc Mc Ms QQ C RM hl hR hE => lv_astore_n C.1 C.2.1 hd hi (fz_has hl) hn rfl (fun lc hl => (k p e R s m args below meth c H locs cells slots lc Mc Ms QQ C RM (fz_L1 (v := .ref x) hl) hR hE))
theorem fv_astore {i : Nat} {x : Nat} (hd : decode μ.2.1 pc = .ok (.astore i, 2)) (hn : i < μ.2.2.1) (k : fz_V g l μ d ra rb (pc + 2) (fz_st1 ls i (.ref x)) st h Q) : fz_V g l μ d ra rb pc ls (.ref x :: st) h Q := fun p e R s m args below meth c H locs cells slots lc Mc Ms QQ C RM hl hR hE => lv_astore C.1 C.2.1 hd (fz_has hl) hn rfl (fun lc hl => (k p e R s m args below meth c H locs cells slots lc Mc Ms QQ C RM (fz_L1 (v := .ref x) hl) hR hE))
theorem fv_iinc {i : Nat} {n : Int} {x v : Int32} (hd : decode μ.2.1 pc = .ok (.iinc i n, 3)) (hx : ls[i]? = some (.int x)) (hv : x + Int32.ofInt n = v) (hn : i < μ.2.2.1) (k : fz_V g l μ d ra rb (pc + 3) (fz_st1 ls i (.int v)) st h Q) : fz_V g l μ d ra rb pc ls st h Q := by
  intro p e R s m args below meth c H locs cells slots lc Mc Ms QQ C RM hl hR hE
  obtain ⟨q, hq⟩ := List.getElem?_of_mem (fz_prs_mem (l := ls.map (fz_tr g)) (i := i) (v := .int x) (by rw [List.getElem?_map, hx]; rfl) (by intro q; cases q))
  exact lv_iinc C.1 C.2.1 hd (fz_has hl) hq hv hn rfl (fun lc hl => (k p e R s m args below meth c H locs cells slots lc Mc Ms QQ C RM (fz_L1 (v := .int v) hl) hR hE))
theorem fv_iadd {x y : Int32} (hd : decode μ.2.1 pc = .ok (.iadd, 1)) (k : fz_V g l μ d ra rb (pc + 1) ls (.int (x + y) :: st) h Q) : fz_V g l μ d ra rb pc ls (.int y :: .int x :: st) h Q := fun p e R s m args below meth c H locs cells slots lc Mc Ms QQ C RM hl hR hE => lv_iadd C.1 C.2.1 hd (k p e R s m args below meth c H locs cells slots lc Mc Ms QQ C RM hl hR hE)
theorem fv_isub {x y : Int32} (hd : decode μ.2.1 pc = .ok (.isub, 1)) (k : fz_V g l μ d ra rb (pc + 1) ls (.int (x - y) :: st) h Q) : fz_V g l μ d ra rb pc ls (.int y :: .int x :: st) h Q := fun p e R s m args below meth c H locs cells slots lc Mc Ms QQ C RM hl hR hE => lv_isub C.1 C.2.1 hd (k p e R s m args below meth c H locs cells slots lc Mc Ms QQ C RM hl hR hE)
theorem fv_imul {x y : Int32} (hd : decode μ.2.1 pc = .ok (.imul, 1)) (k : fz_V g l μ d ra rb (pc + 1) ls (.int (x * y) :: st) h Q) : fz_V g l μ d ra rb pc ls (.int y :: .int x :: st) h Q := fun p e R s m args below meth c H locs cells slots lc Mc Ms QQ C RM hl hR hE => lv_imul C.1 C.2.1 hd (k p e R s m args below meth c H locs cells slots lc Mc Ms QQ C RM hl hR hE)
theorem fv_iand {x y : Int32} (hd : decode μ.2.1 pc = .ok (.iand, 1)) (k : fz_V g l μ d ra rb (pc + 1) ls (.int (x &&& y) :: st) h Q) : fz_V g l μ d ra rb pc ls (.int y :: .int x :: st) h Q := fun p e R s m args below meth c H locs cells slots lc Mc Ms QQ C RM hl hR hE => lv_iand C.1 C.2.1 hd (k p e R s m args below meth c H locs cells slots lc Mc Ms QQ C RM hl hR hE)
theorem fv_ior {x y : Int32} (hd : decode μ.2.1 pc = .ok (.ior, 1)) (k : fz_V g l μ d ra rb (pc + 1) ls (.int (x ||| y) :: st) h Q) : fz_V g l μ d ra rb pc ls (.int y :: .int x :: st) h Q := fun p e R s m args below meth c H locs cells slots lc Mc Ms QQ C RM hl hR hE => lv_ior C.1 C.2.1 hd (k p e R s m args below meth c H locs cells slots lc Mc Ms QQ C RM hl hR hE)
theorem fv_ixor {x y : Int32} (hd : decode μ.2.1 pc = .ok (.ixor, 1)) (k : fz_V g l μ d ra rb (pc + 1) ls (.int (x ^^^ y) :: st) h Q) : fz_V g l μ d ra rb pc ls (.int y :: .int x :: st) h Q := fun p e R s m args below meth c H locs cells slots lc Mc Ms QQ C RM hl hR hE => lv_ixor C.1 C.2.1 hd (k p e R s m args below meth c H locs cells slots lc Mc Ms QQ C RM hl hR hE)
theorem fv_idiv {x y : Int32} (hd : decode μ.2.1 pc = .ok (.idiv, 1)) (hne : ¬ y = 0) (k : fz_V g l μ d ra rb (pc + 1) ls (.int (x / y) :: st) h Q) : fz_V g l μ d ra rb pc ls (.int y :: .int x :: st) h Q := fun p e R s m args below meth c H locs cells slots lc Mc Ms QQ C RM hl hR hE => lv_idiv C.1 C.2.1 hd hne (k p e R s m args below meth c H locs cells slots lc Mc Ms QQ C RM hl hR hE)
theorem fv_irem {x y : Int32} (hd : decode μ.2.1 pc = .ok (.irem, 1)) (hne : ¬ y = 0) (k : fz_V g l μ d ra rb (pc + 1) ls (.int (x - (x / y) * y) :: st) h Q) : fz_V g l μ d ra rb pc ls (.int y :: .int x :: st) h Q := fun p e R s m args below meth c H locs cells slots lc Mc Ms QQ C RM hl hR hE => lv_irem C.1 C.2.1 hd hne (k p e R s m args below meth c H locs cells slots lc Mc Ms QQ C RM hl hR hE)
theorem fv_ladd {x y : Int64} (hd : decode μ.2.1 pc = .ok (.ladd, 1)) (k : fz_V g l μ d ra rb (pc + 1) ls (.long (x + y) :: st) h Q) : fz_V g l μ d ra rb pc ls (.long y :: .long x :: st) h Q := fun p e R s m args below meth c H locs cells slots lc Mc Ms QQ C RM hl hR hE => lv_ladd C.1 C.2.1 hd (k p e R s m args below meth c H locs cells slots lc Mc Ms QQ C RM hl hR hE)
theorem fv_lsub {x y : Int64} (hd : decode μ.2.1 pc = .ok (.lsub, 1)) (k : fz_V g l μ d ra rb (pc + 1) ls (.long (x - y) :: st) h Q) : fz_V g l μ d ra rb pc ls (.long y :: .long x :: st) h Q := fun p e R s m args below meth c H locs cells slots lc Mc Ms QQ C RM hl hR hE => lv_lsub C.1 C.2.1 hd (k p e R s m args below meth c H locs cells slots lc Mc Ms QQ C RM hl hR hE)
theorem fv_lmul {x y : Int64} (hd : decode μ.2.1 pc = .ok (.lmul, 1)) (k : fz_V g l μ d ra rb (pc + 1) ls (.long (x * y) :: st) h Q) : fz_V g l μ d ra rb pc ls (.long y :: .long x :: st) h Q := fun p e R s m args below meth c H locs cells slots lc Mc Ms QQ C RM hl hR hE => lv_lmul C.1 C.2.1 hd (k p e R s m args below meth c H locs cells slots lc Mc Ms QQ C RM hl hR hE)
theorem fv_land {x y : Int64} (hd : decode μ.2.1 pc = .ok (.land, 1)) (k : fz_V g l μ d ra rb (pc + 1) ls (.long (x &&& y) :: st) h Q) : fz_V g l μ d ra rb pc ls (.long y :: .long x :: st) h Q := fun p e R s m args below meth c H locs cells slots lc Mc Ms QQ C RM hl hR hE => lv_land C.1 C.2.1 hd (k p e R s m args below meth c H locs cells slots lc Mc Ms QQ C RM hl hR hE)
theorem fv_lor {x y : Int64} (hd : decode μ.2.1 pc = .ok (.lor, 1)) (k : fz_V g l μ d ra rb (pc + 1) ls (.long (x ||| y) :: st) h Q) : fz_V g l μ d ra rb pc ls (.long y :: .long x :: st) h Q := fun p e R s m args below meth c H locs cells slots lc Mc Ms QQ C RM hl hR hE => lv_lor C.1 C.2.1 hd (k p e R s m args below meth c H locs cells slots lc Mc Ms QQ C RM hl hR hE)
theorem fv_ldiv {x y : Int64} (hd : decode μ.2.1 pc = .ok (.ldiv, 1)) (hne : ¬ y = 0) (k : fz_V g l μ d ra rb (pc + 1) ls (.long (x / y) :: st) h Q) : fz_V g l μ d ra rb pc ls (.long y :: .long x :: st) h Q := fun p e R s m args below meth c H locs cells slots lc Mc Ms QQ C RM hl hR hE => lv_ldiv C.1 C.2.1 hd hne (k p e R s m args below meth c H locs cells slots lc Mc Ms QQ C RM hl hR hE)
theorem fv_lrem {x y : Int64} (hd : decode μ.2.1 pc = .ok (.lrem, 1)) (hne : ¬ y = 0) (k : fz_V g l μ d ra rb (pc + 1) ls (.long (x - (x / y) * y) :: st) h Q) : fz_V g l μ d ra rb pc ls (.long y :: .long x :: st) h Q := fun p e R s m args below meth c H locs cells slots lc Mc Ms QQ C RM hl hR hE => lv_lrem C.1 C.2.1 hd hne (k p e R s m args below meth c H locs cells slots lc Mc Ms QQ C RM hl hR hE)
theorem fv_ishl {x y : Int32} (hd : decode μ.2.1 pc = .ok (.ishl, 1)) (k : fz_V g l μ d ra rb (pc + 1) ls (.int (x <<< (y &&& 31)) :: st) h Q) : fz_V g l μ d ra rb pc ls (.int y :: .int x :: st) h Q := fun p e R s m args below meth c H locs cells slots lc Mc Ms QQ C RM hl hR hE => lv_ishl C.1 C.2.1 hd (k p e R s m args below meth c H locs cells slots lc Mc Ms QQ C RM hl hR hE)
theorem fv_ishr {x y : Int32} (hd : decode μ.2.1 pc = .ok (.ishr, 1)) (k : fz_V g l μ d ra rb (pc + 1) ls (.int (x >>> (y &&& 31)) :: st) h Q) : fz_V g l μ d ra rb pc ls (.int y :: .int x :: st) h Q := fun p e R s m args below meth c H locs cells slots lc Mc Ms QQ C RM hl hR hE => lv_ishr C.1 C.2.1 hd (k p e R s m args below meth c H locs cells slots lc Mc Ms QQ C RM hl hR hE)
theorem fv_iushr {x y : Int32} (hd : decode μ.2.1 pc = .ok (.iushr, 1)) (k : fz_V g l μ d ra rb (pc + 1) ls (.int (x.toUInt32 >>> (y.toUInt32 &&& Int32.toUInt32 31)).toInt32 :: st) h Q) : fz_V g l μ d ra rb pc ls (.int y :: .int x :: st) h Q := fun p e R s m args below meth c H locs cells slots lc Mc Ms QQ C RM hl hR hE => lv_iushr C.1 C.2.1 hd rfl (k p e R s m args below meth c H locs cells slots lc Mc Ms QQ C RM hl hR hE)
-- LSHL
theorem fv_i2l {x : Int32} (hd : decode μ.2.1 pc = .ok (.i2l, 1)) (k : fz_V g l μ d ra rb (pc + 1) ls (.long x.toInt64 :: st) h Q) : fz_V g l μ d ra rb pc ls (.int x :: st) h Q := fun p e R s m args below meth c H locs cells slots lc Mc Ms QQ C RM hl hR hE => lv_i2l C.1 C.2.1 hd rfl (k p e R s m args below meth c H locs cells slots lc Mc Ms QQ C RM hl hR hE)
theorem fv_l2i {x : Int64} (hd : decode μ.2.1 pc = .ok (.l2i, 1)) (k : fz_V g l μ d ra rb (pc + 1) ls (.int x.toInt32 :: st) h Q) : fz_V g l μ d ra rb pc ls (.long x :: st) h Q := fun p e R s m args below meth c H locs cells slots lc Mc Ms QQ C RM hl hR hE => lv_l2i C.1 C.2.1 hd rfl (k p e R s m args below meth c H locs cells slots lc Mc Ms QQ C RM hl hR hE)
theorem fv_lcmp {x y : Int64} (hd : decode μ.2.1 pc = .ok (.lcmp, 1)) (k : fz_V g l μ d ra rb (pc + 1) ls (.int (lg_cmp x y) :: st) h Q) : fz_V g l μ d ra rb pc ls (.long y :: .long x :: st) h Q := fun p e R s m args below meth c H locs cells slots lc Mc Ms QQ C RM hl hR hE => W.lcmp C.1 C.2.1 hd (k p e R s m args below meth c H locs cells slots lc Mc Ms QQ C RM hl hR hE)
theorem fv_dup {v : Value} (hd : decode μ.2.1 pc = .ok (.dup, 1)) (hc : v.category = 1) (k : fz_V g l μ d ra rb (pc + 1) ls (v :: v :: st) h Q) : fz_V g l μ d ra rb pc ls (v :: st) h Q := fun p e R s m args below meth c H locs cells slots lc Mc Ms QQ C RM hl hR hE => lv_dup C.1 C.2.1 hd (by rw [fz_tr_cat]; exact hc) (k p e R s m args below meth c H locs cells slots lc Mc Ms QQ C RM hl hR hE)
theorem fv_pop {v : Value} (hd : decode μ.2.1 pc = .ok (.pop, 1)) (hc : v.category = 1) (k : fz_V g l μ d ra rb (pc + 1) ls st h Q) : fz_V g l μ d ra rb pc ls (v :: st) h Q := fun p e R s m args below meth c H locs cells slots lc Mc Ms QQ C RM hl hR hE => lv_pop C.1 C.2.1 hd (by rw [fz_tr_cat]; exact hc) (k p e R s m args below meth c H locs cells slots lc Mc Ms QQ C RM hl hR hE)
theorem fv_dup2 {v u : Value} (hd : decode μ.2.1 pc = .ok (.dup2, 1)) (hc : v.category = 1) (hu : u.category = 1) (k : fz_V g l μ d ra rb (pc + 1) ls (v :: u :: v :: u :: st) h Q) : fz_V g l μ d ra rb pc ls (v :: u :: st) h Q := fun p e R s m args below meth c H locs cells slots lc Mc Ms QQ C RM hl hR hE => lv_dup2_11 C.1 C.2.1 hd (by rw [fz_tr_cat]; exact hc) (by rw [fz_tr_cat]; exact hu) (k p e R s m args below meth c H locs cells slots lc Mc Ms QQ C RM hl hR hE)
theorem fv_if_eq {x : Int32} {off : Int} {tgt : Nat} (hd : decode μ.2.1 pc = .ok (.ifCond .eq off, 3)) (ht : (pc : Int) + off = (tgt : Int)) (kt : x = 0 → fz_V g l μ d ra rb tgt ls st h Q) (kf : ¬ x = 0 → fz_V g l μ d ra rb (pc + 3) ls st h Q) : fz_V g l μ d ra rb pc ls (.int x :: st) h Q := fun p e R s m args below meth c H locs cells slots lc Mc Ms QQ C RM hl hR hE => lv_if_eq C.1 C.2.1 hd ht (fun q => (kt q p e R s m args below meth c H locs cells slots lc Mc Ms QQ C RM hl hR hE)) (fun q => (kf q p e R s m args below meth c H locs cells slots lc Mc Ms QQ C RM hl hR hE))
theorem fv_icmp_eq {x y : Int32} {off : Int} {tgt : Nat} (hd : decode μ.2.1 pc = .ok (.if_icmp .eq off, 3)) (ht : (pc : Int) + off = (tgt : Int)) (kt : x = y → fz_V g l μ d ra rb tgt ls st h Q) (kf : ¬ x = y → fz_V g l μ d ra rb (pc + 3) ls st h Q) : fz_V g l μ d ra rb pc ls (.int y :: .int x :: st) h Q := fun p e R s m args below meth c H locs cells slots lc Mc Ms QQ C RM hl hR hE => lv_icmp_eq C.1 C.2.1 hd ht (fun q => (kt q p e R s m args below meth c H locs cells slots lc Mc Ms QQ C RM hl hR hE)) (fun q => (kf q p e R s m args below meth c H locs cells slots lc Mc Ms QQ C RM hl hR hE))
theorem fv_if_ne {x : Int32} {off : Int} {tgt : Nat} (hd : decode μ.2.1 pc = .ok (.ifCond .ne off, 3)) (ht : (pc : Int) + off = (tgt : Int)) (kt : ¬ x = 0 → fz_V g l μ d ra rb tgt ls st h Q) (kf : x = 0 → fz_V g l μ d ra rb (pc + 3) ls st h Q) : fz_V g l μ d ra rb pc ls (.int x :: st) h Q := fun p e R s m args below meth c H locs cells slots lc Mc Ms QQ C RM hl hR hE => lv_if_ne C.1 C.2.1 hd ht (fun q => (kt q p e R s m args below meth c H locs cells slots lc Mc Ms QQ C RM hl hR hE)) (fun q => (kf q p e R s m args below meth c H locs cells slots lc Mc Ms QQ C RM hl hR hE))
theorem fv_icmp_ne {x y : Int32} {off : Int} {tgt : Nat} (hd : decode μ.2.1 pc = .ok (.if_icmp .ne off, 3)) (ht : (pc : Int) + off = (tgt : Int)) (kt : ¬ x = y → fz_V g l μ d ra rb tgt ls st h Q) (kf : x = y → fz_V g l μ d ra rb (pc + 3) ls st h Q) : fz_V g l μ d ra rb pc ls (.int y :: .int x :: st) h Q := fun p e R s m args below meth c H locs cells slots lc Mc Ms QQ C RM hl hR hE => lv_icmp_ne C.1 C.2.1 hd ht (fun q => (kt q p e R s m args below meth c H locs cells slots lc Mc Ms QQ C RM hl hR hE)) (fun q => (kf q p e R s m args below meth c H locs cells slots lc Mc Ms QQ C RM hl hR hE))
theorem fv_if_lt {x : Int32} {off : Int} {tgt : Nat} (hd : decode μ.2.1 pc = .ok (.ifCond .lt off, 3)) (ht : (pc : Int) + off = (tgt : Int)) (kt : x < 0 → fz_V g l μ d ra rb tgt ls st h Q) (kf : ¬ x < 0 → fz_V g l μ d ra rb (pc + 3) ls st h Q) : fz_V g l μ d ra rb pc ls (.int x :: st) h Q := fun p e R s m args below meth c H locs cells slots lc Mc Ms QQ C RM hl hR hE => lv_if_lt C.1 C.2.1 hd ht (fun q => (kt q p e R s m args below meth c H locs cells slots lc Mc Ms QQ C RM hl hR hE)) (fun q => (kf q p e R s m args below meth c H locs cells slots lc Mc Ms QQ C RM hl hR hE))
theorem fv_icmp_lt {x y : Int32} {off : Int} {tgt : Nat} (hd : decode μ.2.1 pc = .ok (.if_icmp .lt off, 3)) (ht : (pc : Int) + off = (tgt : Int)) (kt : x < y → fz_V g l μ d ra rb tgt ls st h Q) (kf : ¬ x < y → fz_V g l μ d ra rb (pc + 3) ls st h Q) : fz_V g l μ d ra rb pc ls (.int y :: .int x :: st) h Q := fun p e R s m args below meth c H locs cells slots lc Mc Ms QQ C RM hl hR hE => lv_icmp_lt C.1 C.2.1 hd ht (fun q => (kt q p e R s m args below meth c H locs cells slots lc Mc Ms QQ C RM hl hR hE)) (fun q => (kf q p e R s m args below meth c H locs cells slots lc Mc Ms QQ C RM hl hR hE))
theorem fv_if_ge {x : Int32} {off : Int} {tgt : Nat} (hd : decode μ.2.1 pc = .ok (.ifCond .ge off, 3)) (ht : (pc : Int) + off = (tgt : Int)) (kt : 0 ≤ x → fz_V g l μ d ra rb tgt ls st h Q) (kf : ¬ 0 ≤ x → fz_V g l μ d ra rb (pc + 3) ls st h Q) : fz_V g l μ d ra rb pc ls (.int x :: st) h Q := fun p e R s m args below meth c H locs cells slots lc Mc Ms QQ C RM hl hR hE => lv_if_ge C.1 C.2.1 hd ht (fun q => (kt q p e R s m args below meth c H locs cells slots lc Mc Ms QQ C RM hl hR hE)) (fun q => (kf q p e R s m args below meth c H locs cells slots lc Mc Ms QQ C RM hl hR hE))
theorem fv_icmp_ge {x y : Int32} {off : Int} {tgt : Nat} (hd : decode μ.2.1 pc = .ok (.if_icmp .ge off, 3)) (ht : (pc : Int) + off = (tgt : Int)) (kt : y ≤ x → fz_V g l μ d ra rb tgt ls st h Q) (kf : ¬ y ≤ x → fz_V g l μ d ra rb (pc + 3) ls st h Q) : fz_V g l μ d ra rb pc ls (.int y :: .int x :: st) h Q := fun p e R s m args below meth c H locs cells slots lc Mc Ms QQ C RM hl hR hE => lv_icmp_ge C.1 C.2.1 hd ht (fun q => (kt q p e R s m args below meth c H locs cells slots lc Mc Ms QQ C RM hl hR hE)) (fun q => (kf q p e R s m args below meth c H locs cells slots lc Mc Ms QQ C RM hl hR hE))
theorem fv_if_gt {x : Int32} {off : Int} {tgt : Nat} (hd : decode μ.2.1 pc = .ok (.ifCond .gt off, 3)) (ht : (pc : Int) + off = (tgt : Int)) (kt : 0 < x → fz_V g l μ d ra rb tgt ls st h Q) (kf : ¬ 0 < x → fz_V g l μ d ra rb (pc + 3) ls st h Q) : fz_V g l μ d ra rb pc ls (.int x :: st) h Q := fun p e R s m args below meth c H locs cells slots lc Mc Ms QQ C RM hl hR hE => lv_if_gt C.1 C.2.1 hd ht (fun q => (kt q p e R s m args below meth c H locs cells slots lc Mc Ms QQ C RM hl hR hE)) (fun q => (kf q p e R s m args below meth c H locs cells slots lc Mc Ms QQ C RM hl hR hE))
theorem fv_icmp_gt {x y : Int32} {off : Int} {tgt : Nat} (hd : decode μ.2.1 pc = .ok (.if_icmp .gt off, 3)) (ht : (pc : Int) + off = (tgt : Int)) (kt : y < x → fz_V g l μ d ra rb tgt ls st h Q) (kf : ¬ y < x → fz_V g l μ d ra rb (pc + 3) ls st h Q) : fz_V g l μ d ra rb pc ls (.int y :: .int x :: st) h Q := fun p e R s m args below meth c H locs cells slots lc Mc Ms QQ C RM hl hR hE => lv_icmp_gt C.1 C.2.1 hd ht (fun q => (kt q p e R s m args below meth c H locs cells slots lc Mc Ms QQ C RM hl hR hE)) (fun q => (kf q p e R s m args below meth c H locs cells slots lc Mc Ms QQ C RM hl hR hE))
theorem fv_if_le {x : Int32} {off : Int} {tgt : Nat} (hd : decode μ.2.1 pc = .ok (.ifCond .le off, 3)) (ht : (pc : Int) + off = (tgt : Int)) (kt : x ≤ 0 → fz_V g l μ d ra rb tgt ls st h Q) (kf : ¬ x ≤ 0 → fz_V g l μ d ra rb (pc + 3) ls st h Q) : fz_V g l μ d ra rb pc ls (.int x :: st) h Q := fun p e R s m args below meth c H locs cells slots lc Mc Ms QQ C RM hl hR hE => lv_if_le C.1 C.2.1 hd ht (fun q => (kt q p e R s m args below meth c H locs cells slots lc Mc Ms QQ C RM hl hR hE)) (fun q => (kf q p e R s m args below meth c H locs cells slots lc Mc Ms QQ C RM hl hR hE))
theorem fv_icmp_le {x y : Int32} {off : Int} {tgt : Nat} (hd : decode μ.2.1 pc = .ok (.if_icmp .le off, 3)) (ht : (pc : Int) + off = (tgt : Int)) (kt : x ≤ y → fz_V g l μ d ra rb tgt ls st h Q) (kf : ¬ x ≤ y → fz_V g l μ d ra rb (pc + 3) ls st h Q) : fz_V g l μ d ra rb pc ls (.int y :: .int x :: st) h Q := fun p e R s m args below meth c H locs cells slots lc Mc Ms QQ C RM hl hR hE => lv_icmp_le C.1 C.2.1 hd ht (fun q => (kt q p e R s m args below meth c H locs cells slots lc Mc Ms QQ C RM hl hR hE)) (fun q => (kf q p e R s m args below meth c H locs cells slots lc Mc Ms QQ C RM hl hR hE))
theorem fv_goto {off : Int} {tgt : Nat} (hd : decode μ.2.1 pc = .ok (.goto off, 3)) (ht : (pc : Int) + off = (tgt : Int)) (k : fz_V g l μ d ra rb tgt ls st h Q) : fz_V g l μ d ra rb pc ls st h Q := fun p e R s m args below meth c H locs cells slots lc Mc Ms QQ C RM hl hR hE => lv_goto C.1 C.2.1 hd ht (k p e R s m args below meth c H locs cells slots lc Mc Ms QQ C RM hl hR hE)
theorem fv_tableOut {dflt lo hi : Int} {offs : Array Int} {len : Nat} {x : Int32} {tgt : Nat} (hd : decode μ.2.1 pc = .ok (.tableswitch dflt lo hi offs, len)) (hx : x.toInt < lo ∨ hi < x.toInt) (ht : (pc : Int) + dflt = (tgt : Int)) (k : fz_V g l μ d ra rb tgt ls st h Q) : fz_V g l μ d ra rb pc ls (.int x :: st) h Q := fun p e R s m args below meth c H locs cells slots lc Mc Ms QQ C RM hl hR hE => lv_tableOut C.1 C.2.1 hd hx ht (k p e R s m args below meth c H locs cells slots lc Mc Ms QQ C RM hl hR hE)
theorem fv_tableIn {dflt lo hi : Int} {offs : Array Int} {len : Nat} {x : Int32} {off : Int} {tgt : Nat} (hd : decode μ.2.1 pc = .ok (.tableswitch dflt lo hi offs, len)) (h1 : ¬ x.toInt < lo) (h2 : ¬ hi < x.toInt) (ho : offs[(x.toInt - lo).toNat]? = some off) (ht : (pc : Int) + off = (tgt : Int)) (k : fz_V g l μ d ra rb tgt ls st h Q) : fz_V g l μ d ra rb pc ls (.int x :: st) h Q := fun p e R s m args below meth c H locs cells slots lc Mc Ms QQ C RM hl hR hE => lv_tableIn C.1 C.2.1 hd h1 h2 ho ht (k p e R s m args below meth c H locs cells slots lc Mc Ms QQ C RM hl hR hE)
theorem fv_lookup {dflt : Int} {ps : Array (Int × Int)} {len : Nat} {x : Int32} {off : Int} {tgt : Nat} (hd : decode μ.2.1 pc = .ok (.lookupswitch dflt ps, len)) (hp : (ps.toList.zip (ps.toList.drop 1)).all (fun (a, next) => a.1 < next.1) = true) (ho : Op.lookupswitch.offset ps.toList dflt x.toInt = off) (ht : (pc : Int) + off = (tgt : Int)) (k : fz_V g l μ d ra rb tgt ls st h Q) : fz_V g l μ d ra rb pc ls (.int x :: st) h Q := fun p e R s m args below meth c H locs cells slots lc Mc Ms QQ C RM hl hR hE => lv_lookup C.1 C.2.1 hd hp ho ht (k p e R s m args below meth c H locs cells slots lc Mc Ms QQ C RM hl hR hE)
theorem fv_ifnull {a : Nat} {off : Int} (hd : decode μ.2.1 pc = .ok (.ifnull off, 3)) (k : fz_V g l μ d ra rb (pc + 3) ls st h Q) : fz_V g l μ d ra rb pc ls (.ref a :: st) h Q := fun p e R s m args below meth c H locs cells slots lc Mc Ms QQ C RM hl hR hE => lv_ifnull C.1 C.2.1 hd (k p e R s m args below meth c H locs cells slots lc Mc Ms QQ C RM hl hR hE)
theorem fv_vret (hd : decode μ.2.1 pc = .ok (.return_, 1)) (hr : μ.2.2.2 = none) (hq : Q none h) : fz_V g l μ d ra rb pc ls [] h Q := fun p e R s m args below meth c H locs cells slots lc Mc Ms QQ C RM hl hR hE => hE none h H locs cells slots lc pc _ hq hR (Nat.le_trans (Nat.le_add_right _ _) RM.2.2.1) (Nat.le_trans (Nat.le_add_right _ _) RM.2.2.2.1) (Or.inl ⟨hr, rfl, rfl⟩) hd
theorem fv_iret {ty : FieldType} {x : Int32} (hd : decode μ.2.1 pc = .ok (.ireturn, 1)) (hr : μ.2.2.2 = some ty) (hn : narrow ty (.int x) = .int x) (hq : Q (some (.int x)) h) : fz_V g l μ d ra rb pc ls [.int x] h Q := fun p e R s m args below meth c H locs cells slots lc Mc Ms QQ C RM hl hR hE => hE (some (.int x)) h H locs cells slots lc pc _ hq hR (Nat.le_trans (Nat.le_add_right _ _) RM.2.2.1) (Nat.le_trans (Nat.le_add_right _ _) RM.2.2.2.1) (Or.inr (Or.inl ⟨ty, x, hr, rfl, rfl, hn⟩)) hd
theorem fv_lret {x : Int64} (hd : decode μ.2.1 pc = .ok (.lreturn, 1)) (hr : μ.2.2.2 = some .long) (hq : Q (some (.long x)) h) : fz_V g l μ d ra rb pc ls [.long x] h Q := fun p e R s m args below meth c H locs cells slots lc Mc Ms QQ C RM hl hR hE => hE (some (.long x)) h H locs cells slots lc pc _ hq hR (Nat.le_trans (Nat.le_add_right _ _) RM.2.2.1) (Nat.le_trans (Nat.le_add_right _ _) RM.2.2.2.1) (Or.inr (Or.inr ⟨x, hr, rfl, rfl⟩)) hd
/-- an answer that says more -/
theorem fv_mono {Q' : Option Value → fz_H → Prop} (k : fz_V g l μ d ra rb pc ls st h Q) (hq : ∀ v h', Q v h' → Q' v h') : fz_V g l μ d ra rb pc ls st h Q' := fun p e R s m args below meth c H locs cells slots lc Mc Ms QQ C RM hl hR hE => k p e R s m args below meth c H locs cells slots lc Mc Ms QQ C RM hl hR (fun v h' H' locs' cells' slots' lc' pc' i q => hE v h' H' locs' cells' slots' lc' pc' i (hq v h' q))
end FV

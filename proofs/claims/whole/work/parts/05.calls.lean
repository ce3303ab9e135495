/-! CALLS. A method's contract is fz_V at its entry; the call's own contract (Met) is made of it here, once. -/
/-- the arguments as locals -/
def fz_as : List Value → List Value
  | [] => []
  | v :: vs => if v.category = 2 then v :: fz_J :: fz_as vs else v :: fz_as vs
def fz_en (as : List Value) (n : Nat) : List Value := fz_as as ++ List.replicate (n - (fz_as as).length) fz_J
theorem fz_as_len (as : List Value) : (lg_sl as).length = (fz_as as).length := by
  induction as with
  | nil => rfl
  | cons v vs ih =>
    unfold fz_as
    have : lg_sl (v :: vs) = (if v.category = 2 then [.val v, .second] else [.val v]) ++ lg_sl vs := by unfold lg_sl; rw [List.flatMap_cons]
    rw [this]
    by_cases hc : v.category = 2
    · rw [if_pos hc, if_pos hc, List.length_append, ih]; simp; omega
    · rw [if_neg hc, if_neg hc, List.length_append, ih]; simp; omega
theorem fz_as_in (as : List Value) : ∀ (o i : Nat) (v : Value), (fz_as as)[i]? = some v → v ≠ fz_J → (o + i, v) ∈ lv_args o as := by
  induction as with
  | nil => intro o i v h; simp [fz_as] at h
  | cons u us ih =>
    intro o i v h hj
    unfold fz_as at h
    unfold lv_args
    by_cases hc : u.category = 2
    · rw [if_pos hc] at h ⊢
      match i, h with
      | 0, h => cases h; exact List.mem_cons_self
      | 1, h => cases h; exact absurd rfl hj
      | i + 2, h => exact List.mem_cons_of_mem _ (by have := ih (o + 2) i v h hj; rw [show o + (i + 2) = o + 2 + i by omega]; exact this)
    · rw [if_neg hc] at h ⊢
      match i, h with
      | 0, h => cases h; exact List.mem_cons_self
      | i + 1, h => exact List.mem_cons_of_mem _ (by have := ih (o + 1) i v h hj; rw [show o + (i + 1) = o + 1 + i by omega]; exact this)
theorem fz_as_map (g : fz_G) (as : List Value) : fz_as (as.map (fz_tr g)) = (fz_as as).map (fz_tr g) := by
  induction as with
  | nil => rfl
  | cons v vs ih =>
    rw [List.map_cons]
    unfold fz_as
    rw [fz_tr_cat, ih]
    by_cases hc : v.category = 2
    · rw [if_pos hc, if_pos hc]; rfl
    · rw [if_neg hc, if_neg hc]; rfl
theorem fz_enL {g : fz_G} {as : List Value} {n : Nat} (h : (fz_as as).length ≤ n) : fz_L ((lg_sl (as.map (fz_tr g)) ++ List.replicate (n - (lg_sl (as.map (fz_tr g))).length) Slot.unset).toArray) n ((fz_en as n).map (fz_tr g)) := by
  have hlen : (lg_sl (as.map (fz_tr g))).length ≤ n := by rw [fz_as_len, fz_as_map, List.length_map]; exact h
  obtain ⟨h1, h2, h3⟩ := lv_entry (as.map (fz_tr g)) hlen
  refine ⟨h1, h2, fun i v hv hj => ?_⟩
  unfold fz_en at hv
  rw [List.map_append, ← fz_as_map] at hv
  by_cases hi : i < (fz_as (as.map (fz_tr g))).length
  · rw [List.getElem?_append_left hi] at hv
    have := fz_as_in (as.map (fz_tr g)) 0 i v hv hj
    rw [Nat.zero_add] at this
    exact h3 _ this
  · rw [List.getElem?_append_right (by omega), List.map_replicate, List.getElem?_replicate] at hv
    split at hv
    · cases hv; exact absurd rfl hj
    · cases hv
def fz_rm (d mc ms : Nat) : Room := { frames := d, cells := mc, slots := ms, locals := 64 * d }
def fz_Qc (g : fz_G) (Q : Option Value → fz_H → Prop) : Array Value → State → Outcome → State → Prop := fun _ _ o t => ∃ (v : Option Value) (h : fz_H), o = .returned v ∧ Q v h ∧ v.toList.map (fz_tr g) = v.toList ∧ fz_Rel g h t.heap []
def fz_Pc (g : fz_G) (h : fz_H) (as : List Value) : Array Value → State → Prop := va_Pc (as.map (fz_tr g)) (fun U => fz_Rel g h U.heap [] ∧ fz_K g U)
/-- a method that can be called: its words -/
def fz_me (y : fz_M) (n : Nat) : Prop := plainFor y.1 = true ∧ Cond.code y.1 y.2.1 y.2.2.1 y.2.2.2 ∈ fz_T ∧ Cond.initialized y.1.cls ∈ fz_T ∧ (y.1.cls ≠ "java/lang/invoke/MethodHandle" ∧ y.1.cls ≠ "java/lang/invoke/VarHandle" ∧ (parseMethodDescriptor y.1.desc).map (fun d => d.parameters.length) = some n) ∧ y.2.2.1 ≤ 40
/-- as Met.ofW, by the method's own name -/
theorem fz_ofW {l : Launch} {y : MethodName} {ws ws' : List Cond} {rm : Room} {Pc : Array Value → State → Prop} {Qc : Array Value → State → Outcome → State → Prop} {mc ms : Nat} {free : Addr → Prop} {cc : ByteArray} {maxL : Nat} {ret : Option FieldType} (hy : plainFor y = true) (hw : ws = Cond.code y cc maxL ret :: ws')
    (body : ∀ p e s m args below meth c s₁, BodyLoose p l y (headSpec ws rm) cc maxL ret e s m args below meth c s₁ → c.maxLocals = maxL → Pc args s → W p l e (headSpec ws rm).room s m args below meth c s.heap [] 0 0 (MQ below Qc args s mc ms free) (entryFrame m args maxL)) : Met l y ws rm Pc Qc mc ms free := by
  refine MetFree.of_bodySF (code := cc) (maxLocals := maxL) (ret := ret) hy (fun args s m h hn => ?_) (fun p e s m args below meth c s₁ B hml hP _ => ?_)
  · obtain ⟨meth, c, h1, h2, h3, h4, h5, h6, -, -⟩ := Cond.code_spec hn (atoms_spec (ws := ws) h _ (by rw [hw]; exact List.mem_cons_self))
    exact ⟨meth, c, h1, h2, h3, h4, h5, h6⟩
  · obtain ⟨t, a1, o, b1, b2, b3⟩ := body p e s m args below meth c s₁ B hml hP s₁ (by rw [B.state]; rfl) (Stand.of_body B)
    exact ⟨t, o, a1, b1, b2, ⟨b3.1, b3.2⟩⟩
theorem fz_met {g : fz_G} {l : Launch} {y : fz_M} {n d mc ms : Nat} {as : List Value} {h : fz_H} {Q : Option Value → fz_H → Prop} (hy : fz_me y n) (hlen : (fz_as as).length ≤ y.2.2.1) (k : fz_V g l y d mc ms 0 (fz_en as y.2.2.1) [] h Q) : Met l y.1 (Cond.code y.1 y.2.1 y.2.2.1 y.2.2.2 :: fz_T) (fz_rm d mc ms) (fz_Pc g h as) (fz_Qc g Q) mc ms (fz_A g) := by
  refine fz_ofW (cc := y.2.1) (maxL := y.2.2.1) (ret := y.2.2.2) hy.1 rfl ?_
  intro p e s m args below meth c s₁ B hml hv
  obtain ⟨rfl, hRel, hK⟩ := hv
  have hts := atoms_spec (ws := Cond.code y.1 y.2.1 y.2.2.1 y.2.2.2 :: fz_T) B.pre
  have hlocks := B.notSynchronized
  have hx := B.exec
  have hb := B.bytes
  have hr := B.returns
  have hown : s.vm.findClass y.1.cls = some m.cls := findClass_of_methodNamed B.named
  have hnm : meth.name = y.1.name := (name_of_methodNamed B.named B.method).1
  rw [lg_entry_eq]
  refine k p e _ s m _ below meth c s.heap [] 0 0 _ mc ms _ ⟨hx, hb, hr, hml, hown, fun w hw => hts w (List.mem_cons_of_mem _ hw), hlocks, fun q => hnm.trans q, hK⟩ ⟨Nat.le_refl _, Nat.le_refl _, by omega, by omega, Nat.le_refl _, Nat.le_refl _⟩ (fz_enL hlen) hRel ?_
  intro v h' H' locs' cells' slots' lc' pc' i hq hR' hc hs hret hdec
  refine W.widen hc hs ?_
  have hRl : fz_Rel g h' H' [] := hR'.locs (fun q hq => by cases hq)
  rcases hret with ⟨e1, rfl, rfl⟩ | ⟨ty, x, e1, rfl, rfl, e2⟩ | ⟨x, e1, rfl, rfl⟩
  · exact W.vret hx hb (hr.trans e1) (fun t ht _ => ⟨none, h', rfl, hq, rfl, by rw [ht]; exact hRl⟩) hR'.2.2.1.2.2 hdec
  · exact W.zret hx hb (hr.trans e1) e2 (fun t ht _ => ⟨some (.int x), h', rfl, hq, rfl, by rw [ht]; exact hRl⟩) hR'.2.2.1.2.2 hdec
  · exact W.lret hx hb (hr.trans e1) (fun t ht _ => ⟨some (.long x), h', rfl, hq, rfl, by rw [ht]; exact hRl⟩) hR'.2.2.1.2.2 hdec
theorem fz_blind (g : fz_G) (h : fz_H) (as : List Value) : FrameBlind (fz_Pc g h as) := fun a U gf mk q => by
  obtain ⟨q0, q1, q2⟩ := q
  exact ⟨q0, q1, fz_K.same (u := U) (U := U.calling gf mk a) rfl q2⟩
theorem fz_pre {g : fz_G} {h : fz_H} {as : List Value} {s : State} {H : Heap} {locs : List Loc} (hR : fz_Rel g h H locs) (hK : fz_K g s) : ∀ U : State, U.heap = H → s.WarmedH U.vm → fz_Pc g h as (as.map (fz_tr g)).toArray U := fun U hU hW => ⟨rfl, by rw [hU]; exact hR.locs (fun q hq => by cases hq), hK.warm hW⟩
theorem fz_goodc {y : fz_M} {n : Nat} (hy : fz_me y n) : GoodIn fz_T (Cond.code y.1 y.2.1 y.2.2.1 y.2.2.2 :: fz_T) := fun w hw => by
  rcases List.mem_cons.mp hw with rfl | hw
  · exact fz_Tgood _ hy.2.1
  · exact fz_Tgood _ hw
section FC
variable {g : fz_G} {l : Launch} {μ y : fz_M} {d ra rb mc ms n idx pc : Nat} {ls st as : List Value} {h : fz_H} {Q : Option Value → fz_H → Prop}
theorem fz_back {p : Program} {e : Env} {R : Room} {s : State} {m : MethodId} {args a : Array Value} {below : List Frame} {meth : Method} {c : Code} {H : Heap} {locs : List Loc} {cells slots Mc Ms : Nat} {lc : Array Slot} {st0 : List Value} {QQ : State → Prop} (hr : va_Run p l e R s m args below meth c H locs cells slots mc ms (F0 m pc lc st0) (st.map (fz_tr g)) (fz_Qc g (fun v h' => fz_V g l μ (d + 1) ra rb (pc + 3) ls (v.toList ++ st) h' Q) a) (fz_A g)) (C : fz_C g μ p s m args meth c) (RM : fz_R (d + 1) (ra + mc) (rb + ms) R cells slots Mc Ms) (hl : fz_L lc μ.2.2.1 (ls.map (fz_tr g))) (hR : fz_Rel g h H locs) (hE : fz_E g l μ Q p e R s m args below meth c Mc Ms QQ) : W p l e R s m args below meth c H locs cells slots QQ (F0 m pc lc st0) := by
  intro T hT X
  obtain ⟨v, st₀, t, T', L, h0, X', hL, e1, e2, ⟨v', h', hv, hq, hp, hRel⟩, hgo⟩ := hr T hT X
  cases hv
  have hR' : fz_Rel g h' T'.heap (locs ++ L) := by
    rw [e1]
    refine hRel.locs (fun q hq => ?_)
    rcases List.mem_append.mp hq with h | h
    · exact hR.2.2.1.2.2 q h
    · exact hL q h
  obtain ⟨t2, a1, b1⟩ := hq p e R s m args below meth c T'.heap (locs ++ L) (cells + mc) (slots + ms) lc Mc Ms QQ C ⟨RM.1, RM.2.1, by have := RM.2.2.1; omega, by have := RM.2.2.2.1; omega, RM.2.2.2.2⟩ hl hR' hE T' rfl X'
  rw [List.map_append, hp] at a1
  exact ⟨t2, hgo t2 a1, b1⟩
theorem fz_room {R : Room} {cells slots Mc Ms : Nat} (hy : fz_me y n) (RM : fz_R (d + 1) (ra + mc) (rb + ms) R cells slots Mc Ms) : ((fz_rm d mc ms).frames + 1 ≤ R.frames ∧ 8 + (y.2.2.1 + 11) + (fz_rm d mc ms).locals ≤ R.locals) ∧ (cells + mc ≤ R.cells ∧ slots + ms ≤ R.slots) := by
  obtain ⟨r1, r2, r3, r4, r5, r6⟩ := RM
  have := hy.2.2.2.2
  refine ⟨⟨r1, ?_⟩, by omega, by omega⟩
  show 8 + (y.2.2.1 + 11) + 64 * d ≤ R.locals
  omega
/-- o.m(..) -/
theorem fv_callV {a ci : Nat} (hd : decode μ.2.1 pc = .ok (.invokevirtual idx, 3)) (hy : fz_me y n) (hl1 : Cond.methodLink μ.1.cls idx y.1 ∈ fz_T) (hl2 : Cond.instanceMethod y.1 ∈ fz_T) (hl3 : Cond.selects y.1.cls y.1 y.1 ∈ fz_T) (ho : fz_ob h a ci) (hc : (vwCl[ci]?).map (fun q => q.1) = some y.1.cls) (hn : as.length = n) (hlen : (fz_as (.ref a :: as)).length ≤ y.2.2.1) (hst : (st.map fun v => v.category).sum ≤ 8)
    (k : fz_V g l y d mc ms 0 (fz_en (.ref a :: as) y.2.2.1) [] h (fun v h' => fz_V g l μ (d + 1) ra rb (pc + 3) ls (v.toList ++ st) h' Q)) : fz_V g l μ (d + 1) (ra + mc) (rb + ms) pc ls (as.reverse ++ .ref a :: st) h Q := by
  intro p e R s m args below meth c H locs cells slots lc Mc Ms QQ C RM hl hR hE
  obtain ⟨h2, C1, T1, N1, hc1, hsh⟩ := ho
  have hC : y.1.cls = C1 := by rw [hc1] at hc; exact (Option.some.inj hc).symm
  obtain ⟨q1, -⟩ := fz_cls hc1
  have he := fz_ws_at (g := g) h2 (fz_lt hsh)
  rw [fz_ceO hsh q1] at he
  obtain ⟨rm1, rm2⟩ := fz_room hy RM
  have hts := C.2.2.2.2.2.1
  have hst' : ((st.map (fz_tr g)).map fun v => v.category).sum ≤ 8 := by rw [List.map_map]; simpa [Function.comp_def, fz_tr_cat] using hst
  refine fz_back (d := d) (a := (Value.ref (fz_ad g a) :: as.map (fz_tr g)).toArray) (va_runV (As := as.map (fz_tr g)) (b := fz_ad g a) (n := n) (C := y.1.cls) (bytes := y.2.1) (maxL := y.2.2.1) (ret := y.2.2.2) ⟨C.1, C.2.1, C.2.2.2.1, C.2.2.2.2.1, hts⟩ (fz_met hy hlen k) ⟨callB_of n hts (fz_goodc hy) rfl rfl rfl (hts _ hy.2.2.1) (hts _ hl1) hy.2.2.2.1 rm1, hts _ hl2, hts _ hl3⟩ ⟨fz_blind g h _, ?_, fz_pre hR C.2.2.2.2.2.2.2.2⟩ rfl ?_ hl.1 ?_ (lv_room hst') hd rm2) C RM hl hR hE
  · rw [hC]
    exact va_recv (q := (C1, T1, N1)) C.2.2.2.2.2.2.2.2.1 hR.1 hc1 he
  · rw [List.length_map]; exact hn
  · show (as.reverse ++ .ref a :: st).map (fz_tr g) = _
    rw [List.map_append, List.map_reverse]
    rfl
/-- m(..), static -/
theorem fv_callS (hd : decode μ.2.1 pc = .ok (.invokestatic idx, 3)) (hy : fz_me y n) (hl1 : Cond.methodLink μ.1.cls idx y.1 ∈ fz_T ∨ ∃ host, Cond.methodLinkNest μ.1.cls idx y.1 host ∈ tables_1) (hl2 : Cond.static y.1 ∈ fz_T) (hn : as.length = n) (hlen : (fz_as as).length ≤ y.2.2.1) (hst : (st.map fun v => v.category).sum ≤ 8)
    (k : fz_V g l y d mc ms 0 (fz_en as y.2.2.1) [] h (fun v h' => fz_V g l μ (d + 1) ra rb (pc + 3) ls (v.toList ++ st) h' Q)) : fz_V g l μ (d + 1) (ra + mc) (rb + ms) pc ls (as.reverse ++ st) h Q := by
  intro p e R s m args below meth c H locs cells slots lc Mc Ms QQ C RM hl hR hE
  obtain ⟨rm1, rm2⟩ := fz_room hy RM
  have hts := C.2.2.2.2.2.1
  have hst' : ((st.map (fz_tr g)).map fun v => v.category).sum ≤ 8 := by rw [List.map_map]; simpa [Function.comp_def, fz_tr_cat] using hst
  have hsk : (as.reverse ++ st).map (fz_tr g) = (as.map (fz_tr g)).reverse ++ st.map (fz_tr g) := by rw [List.map_append, List.map_reverse]
  rcases hl1 with hl1 | ⟨host, hl1⟩
  · exact fz_back (d := d) (va_runS (As := as.map (fz_tr g)) (n := n) (bytes := y.2.1) (maxL := y.2.2.1) (ret := y.2.2.2) ⟨C.1, C.2.1, C.2.2.2.1, C.2.2.2.2.1, hts⟩ (fz_met hy hlen k) ⟨callB_of n hts (fz_goodc hy) rfl rfl rfl (hts _ hy.2.2.1) (hts _ hl1) hy.2.2.2.1 rm1, hts _ hl2⟩ ⟨fz_blind g h _, fz_pre hR C.2.2.2.2.2.2.2.2⟩ rfl (by rw [List.length_map]; exact hn) hl.1 hsk (lv_room hst') hd rm2) C RM hl hR hE
  · exact fz_back (d := d) (va_runSN (As := as.map (fz_tr g)) (n := n) (host := host) (bytes := y.2.1) (maxL := y.2.2.1) (ret := y.2.2.2) ⟨C.1, C.2.1, C.2.2.2.1, C.2.2.2.2.1, hts⟩ (fz_met hy hlen k) ⟨va_cnB n hts (fz_goodc hy) rfl rfl rfl (C.2.2.2.2.2.2.2.2.2.2.2.1 _ _ _ _ hl1) (hts _ hy.2.2.1) hy.2.2.2.1 rm1, hts _ hl2, trivial⟩ ⟨fz_blind g h _, fz_pre hR C.2.2.2.2.2.2.2.2⟩ rfl (by rw [List.length_map]; exact hn) hl.1 hsk (lv_room hst') hd rm2) C RM hl hR hE
/-- new C(..)'s constructor -/
theorem fv_callI {a : Nat} (hd : decode μ.2.1 pc = .ok (.invokespecial idx, 3)) (hy : fz_me y n) (hnm : y.1.name = "<init>") (hrt : y.2.2.2 = none) (hl1 : Cond.methodLink μ.1.cls idx y.1 ∈ fz_T ∨ ∃ host, Cond.methodLinkNest μ.1.cls idx y.1 host ∈ tables_1) (hl2 : Cond.instanceMethod y.1 ∈ fz_T) (hn : as.length = n) (hlen : (fz_as (.ref a :: as)).length ≤ y.2.2.1) (hst : (st.map fun v => v.category).sum ≤ 8)
    (k : fz_V g l y d mc ms 0 (fz_en (.ref a :: as) y.2.2.1) [] h (fun v h' => fz_V g l μ (d + 1) ra rb (pc + 3) ls (v.toList ++ st) h' Q)) : fz_V g l μ (d + 1) (ra + mc) (rb + ms) pc ls (as.reverse ++ .ref a :: st) h Q := by
  intro p e R s m args below meth c H locs cells slots lc Mc Ms QQ C RM hl hR hE
  obtain ⟨⟨yc, yn, yd⟩, yb, yl, yr⟩ := y
  dsimp only at hrt
  subst hrt
  obtain ⟨rm1, rm2⟩ := fz_room hy RM
  have hts := C.2.2.2.2.2.1
  have hst' : ((st.map (fz_tr g)).map fun v => v.category).sum ≤ 8 := by rw [List.map_map]; simpa [Function.comp_def, fz_tr_cat] using hst
  have hsk : (as.reverse ++ .ref a :: st).map (fz_tr g) = (as.map (fz_tr g)).reverse ++ .ref (fz_ad g a) :: st.map (fz_tr g) := by rw [List.map_append, List.map_reverse]; rfl
  rcases hl1 with hl1 | ⟨host, hl1⟩
  · exact fz_back (d := d) (va_runI (As := as.map (fz_tr g)) (b := fz_ad g a) (n := n) (bytes := yb) (maxL := yl) ⟨C.1, C.2.1, C.2.2.2.1, C.2.2.2.2.1, hts⟩ (fz_met hy hlen k) ⟨callB_of n hts (fz_goodc hy) rfl rfl rfl (hts _ hy.2.2.1) (hts _ hl1) hy.2.2.2.1 rm1, hnm, hts _ hl2⟩ ⟨fz_blind g h _, fz_pre hR C.2.2.2.2.2.2.2.2⟩ rfl (by rw [List.length_map]; exact hn) hl.1 hsk (lv_room hst') hd rm2) C RM hl hR hE
  · exact fz_back (d := d) (va_runIN (As := as.map (fz_tr g)) (b := fz_ad g a) (n := n) (host := host) (bytes := yb) (maxL := yl) ⟨C.1, C.2.1, C.2.2.2.1, C.2.2.2.2.1, hts⟩ (fz_met hy hlen k) ⟨va_cnB n hts (fz_goodc hy) rfl rfl rfl (C.2.2.2.2.2.2.2.2.2.2.2.1 _ _ _ _ hl1) (hts _ hy.2.2.1) hy.2.2.2.1 rm1, hnm, hts _ hl2⟩ ⟨fz_blind g h _, fz_pre hR C.2.2.2.2.2.2.2.2⟩ rfl (by rw [List.length_map]; exact hn) hl.1 hsk (lv_room hst') hd rm2) C RM hl hR hE
/-- Object's constructor -/
theorem fv_objInit {a : Nat} (hd : decode μ.2.1 pc = .ok (.invokespecial idx, 3)) (hl1 : Cond.methodLink μ.1.cls idx objectInit ∈ fz_T) (hl2 : Cond.instanceMethod objectInit ∈ fz_T) (hl3 : Cond.code objectInit ⟨#[0xb1]⟩ 1 none ∈ fz_T) (hst : (st.map fun v => v.category).sum ≤ 8) (k : fz_V g l μ (d + 1) ra rb (pc + 3) ls st h Q) : fz_V g l μ (d + 1) ra rb pc ls (.ref a :: st) h Q := by
  intro p e R s m args below meth c H locs cells slots lc Mc Ms QQ C RM hl hR hE
  have hts := C.2.2.2.2.2.1
  have hst' : ((st.map (fz_tr g)).map fun v => v.category).sum ≤ 8 := by rw [List.map_map]; simpa [Function.comp_def, fz_tr_cat] using hst
  refine W.objInit C.1 C.2.1 C.2.2.2.2.1 (hts _ hl1) (hts _ hl2) (hts _ hl3) rfl (hl.1.trans C.2.2.2.1.symm) rfl hd (Nat.le_trans (Nat.le_add_left 1 d) RM.1) ?_ (k p e R s m args below meth c H locs cells slots lc Mc Ms QQ C RM hl hR hE)
  show 2 * 0 + _ + 12 ≤ _
  have := RM.2.1
  omega
end FC

/-! the words' text: String.length, String.charAt on it, by the kit's own rows -/
def fz_wc : List Nat := [104, 97, 114, 118, 101, 115, 116, 32, 113, 117, 97, 114, 114, 101, 108, 32, 121, 101, 97, 114, 32, 119, 105, 116, 115, 32, 111, 97, 116, 104, 32, 99, 104, 101, 101, 114, 32, 97, 119, 97, 121, 32, 103, 117, 101, 115, 116, 115, 32, 110, 117, 109, 98, 101, 114, 32, 108, 105, 118, 101, 115, 32, 104, 111, 109, 101, 32, 115, 101, 110, 100, 115, 32, 103, 111, 111, 115, 101, 32, 100, 111, 101, 115, 32, 102, 105, 103, 104, 116, 115, 32, 115, 116, 97, 121, 115, 32, 118, 105, 108, 108, 97, 103, 101, 32, 112, 101, 114, 115, 111, 110, 32, 111, 102, 32, 115, 110, 111, 119, 32, 111, 114, 32, 97, 110, 100, 32, 110, 111, 116, 32, 97, 108, 108, 32, 109, 105, 110, 32, 109, 97, 120, 32, 102, 105, 114, 115, 116, 32, 108, 97, 115, 116, 32, 111, 102, 116, 101, 110, 32, 116, 111, 116, 97, 108, 32, 109, 111, 115, 116, 32, 108, 101, 97, 115, 116, 32]
def fz_chr (i : Int32) : Int32 := nI (fz_wc.getD i.toNatClampNeg 0)
theorem sq_chr : ∀ j, j < 177 → ((fz_bytes.getD j 0 &&& 255).toUInt32 % 65536).toInt32 = nI (fz_wc.getD j 0) := by decide +kernel
theorem sq_nar : ∀ j, j < 177 → narrow .char (.int (nI (fz_wc.getD j 0))) = .int (nI (fz_wc.getD j 0)) := by decide +kernel
theorem fj_J0_38 : Cond.fieldLink RJ0 38 "java/lang/String" "COMPACT_STRINGS" "Z" ∈ fz_T := fz_t3 13 rfl rfl
theorem fj_J0_1053 : Cond.fieldLink RJ0 1053 "jdk/internal/util/Preconditions" "SIOOBE_FORMATTER" "Ljava/util/function/BiFunction;" ∈ fz_T := fz_t3 29 rfl rfl
theorem fj_J0_9 : Cond.fieldLink RJ0 9 "java/lang/String" "value" "[B" ∈ fz_T := fz_t9 167 rfl rfl
theorem fj_J0_15 : Cond.fieldLink RJ0 15 "java/lang/String" "coder" "B" ∈ fz_T := fz_t9 168 rfl rfl
theorem dd_J0_length_8abf5_0 : decode cJ0_length_8abf5 0 = .ok (.aload_n 0, 1) := by decide +kernel
theorem dd_J0_length_8abf5_1 : decode cJ0_length_8abf5 1 = .ok (.getfield 9, 3) := by decide +kernel
theorem dd_J0_length_8abf5_4 : decode cJ0_length_8abf5 4 = .ok (.arraylength, 1) := by decide +kernel
theorem dd_J0_length_8abf5_5 : decode cJ0_length_8abf5 5 = .ok (.aload_n 0, 1) := by decide +kernel
theorem dd_J0_length_8abf5_6 : decode cJ0_length_8abf5 6 = .ok (.invokevirtual 335, 3) := by decide +kernel
theorem dd_J0_length_8abf5_9 : decode cJ0_length_8abf5 9 = .ok (.ishr, 1) := by decide +kernel
theorem dd_J0_length_8abf5_10 : decode cJ0_length_8abf5 10 = .ok (.ireturn, 1) := by decide +kernel
theorem dd_J0_coder_7d493_0 : decode cJ0_coder_7d493 0 = .ok (.getstatic 38, 3) := by decide +kernel
theorem dd_J0_coder_7d493_3 : decode cJ0_coder_7d493 3 = .ok (.ifCond .eq 10, 3) := by decide +kernel
theorem dd_J0_coder_7d493_6 : decode cJ0_coder_7d493 6 = .ok (.aload_n 0, 1) := by decide +kernel
theorem dd_J0_coder_7d493_7 : decode cJ0_coder_7d493 7 = .ok (.getfield 15, 3) := by decide +kernel
theorem dd_J0_coder_7d493_10 : decode cJ0_coder_7d493 10 = .ok (.goto 4, 3) := by decide +kernel
theorem dd_J0_coder_7d493_13 : decode cJ0_coder_7d493 13 = .ok (.iconst 1, 1) := by decide +kernel
theorem dd_J0_coder_7d493_14 : decode cJ0_coder_7d493 14 = .ok (.ireturn, 1) := by decide +kernel
theorem dd_J0_charAt_5068e_0 : decode cJ0_charAt_5068e 0 = .ok (.aload_n 0, 1) := by decide +kernel
theorem dd_J0_charAt_5068e_1 : decode cJ0_charAt_5068e 1 = .ok (.invokevirtual 492, 3) := by decide +kernel
theorem dd_J0_charAt_5068e_4 : decode cJ0_charAt_5068e 4 = .ok (.ifCond .eq 12, 3) := by decide +kernel
theorem dd_J0_charAt_5068e_7 : decode cJ0_charAt_5068e 7 = .ok (.aload_n 0, 1) := by decide +kernel
theorem dd_J0_charAt_5068e_8 : decode cJ0_charAt_5068e 8 = .ok (.getfield 9, 3) := by decide +kernel
theorem dd_J0_charAt_5068e_11 : decode cJ0_charAt_5068e 11 = .ok (.iload_n 1, 1) := by decide +kernel
theorem dd_J0_charAt_5068e_12 : decode cJ0_charAt_5068e 12 = .ok (.invokestatic 495, 3) := by decide +kernel
theorem dd_J0_charAt_5068e_15 : decode cJ0_charAt_5068e 15 = .ok (.ireturn, 1) := by decide +kernel
theorem dd_J0_charAt_5068e_16 : decode cJ0_charAt_5068e 16 = .ok (.aload_n 0, 1) := by decide +kernel
theorem dd_J0_charAt_5068e_17 : decode cJ0_charAt_5068e 17 = .ok (.getfield 9, 3) := by decide +kernel
theorem dd_J0_charAt_5068e_20 : decode cJ0_charAt_5068e 20 = .ok (.iload_n 1, 1) := by decide +kernel
theorem dd_J0_charAt_5068e_21 : decode cJ0_charAt_5068e 21 = .ok (.invokestatic 498, 3) := by decide +kernel
theorem dd_J0_charAt_5068e_24 : decode cJ0_charAt_5068e 24 = .ok (.ireturn, 1) := by decide +kernel
theorem dd_J0_isLatin1_aae02_0 : decode cJ0_isLatin1_aae02 0 = .ok (.getstatic 38, 3) := by decide +kernel
theorem dd_J0_isLatin1_aae02_3 : decode cJ0_isLatin1_aae02 3 = .ok (.ifCond .eq 14, 3) := by decide +kernel
theorem dd_J0_isLatin1_aae02_6 : decode cJ0_isLatin1_aae02 6 = .ok (.aload_n 0, 1) := by decide +kernel
theorem dd_J0_isLatin1_aae02_7 : decode cJ0_isLatin1_aae02 7 = .ok (.getfield 15, 3) := by decide +kernel
theorem dd_J0_isLatin1_aae02_10 : decode cJ0_isLatin1_aae02 10 = .ok (.ifCond .ne 7, 3) := by decide +kernel
theorem dd_J0_isLatin1_aae02_13 : decode cJ0_isLatin1_aae02 13 = .ok (.iconst 1, 1) := by decide +kernel
theorem dd_J0_isLatin1_aae02_14 : decode cJ0_isLatin1_aae02 14 = .ok (.goto 4, 3) := by decide +kernel
theorem dd_J0_isLatin1_aae02_17 : decode cJ0_isLatin1_aae02 17 = .ok (.iconst 0, 1) := by decide +kernel
theorem dd_J0_isLatin1_aae02_18 : decode cJ0_isLatin1_aae02 18 = .ok (.ireturn, 1) := by decide +kernel
theorem dd_J1_charAt_3b067_0 : decode cJ1_charAt_3b067 0 = .ok (.iload_n 1, 1) := by decide +kernel
theorem dd_J1_charAt_3b067_1 : decode cJ1_charAt_3b067 1 = .ok (.aload_n 0, 1) := by decide +kernel
theorem dd_J1_charAt_3b067_2 : decode cJ1_charAt_3b067 2 = .ok (.arraylength, 1) := by decide +kernel
theorem dd_J1_charAt_3b067_3 : decode cJ1_charAt_3b067 3 = .ok (.invokestatic 9, 3) := by decide +kernel
theorem dd_J1_charAt_3b067_6 : decode cJ1_charAt_3b067 6 = .ok (.aload_n 0, 1) := by decide +kernel
theorem dd_J1_charAt_3b067_7 : decode cJ1_charAt_3b067 7 = .ok (.iload_n 1, 1) := by decide +kernel
theorem dd_J1_charAt_3b067_8 : decode cJ1_charAt_3b067 8 = .ok (.baload, 1) := by decide +kernel
theorem dd_J1_charAt_3b067_9 : decode cJ1_charAt_3b067 9 = .ok (.sipush 255, 3) := by decide +kernel
theorem dd_J1_charAt_3b067_12 : decode cJ1_charAt_3b067 12 = .ok (.iand, 1) := by decide +kernel
theorem dd_J1_charAt_3b067_13 : decode cJ1_charAt_3b067 13 = .ok (.i2c, 1) := by decide +kernel
theorem dd_J1_charAt_3b067_14 : decode cJ1_charAt_3b067 14 = .ok (.ireturn, 1) := by decide +kernel
theorem dd_J0_checkIndex_df160_0 : decode cJ0_checkIndex_df160 0 = .ok (.iload_n 0, 1) := by decide +kernel
theorem dd_J0_checkIndex_df160_1 : decode cJ0_checkIndex_df160 1 = .ok (.iload_n 1, 1) := by decide +kernel
theorem dd_J0_checkIndex_df160_2 : decode cJ0_checkIndex_df160 2 = .ok (.getstatic 1053, 3) := by decide +kernel
theorem dd_J0_checkIndex_df160_5 : decode cJ0_checkIndex_df160 5 = .ok (.invokestatic 1059, 3) := by decide +kernel
theorem dd_J0_checkIndex_df160_8 : decode cJ0_checkIndex_df160 8 = .ok (.pop, 1) := by decide +kernel
theorem dd_J0_checkIndex_df160_9 : decode cJ0_checkIndex_df160 9 = .ok (.return_, 1) := by decide +kernel
theorem dd_J3_checkIndex_8e157_0 : decode cJ3_checkIndex_8e157 0 = .ok (.iload_n 0, 1) := by decide +kernel
theorem dd_J3_checkIndex_8e157_1 : decode cJ3_checkIndex_8e157 1 = .ok (.ifCond .lt 8, 3) := by decide +kernel
theorem dd_J3_checkIndex_8e157_4 : decode cJ3_checkIndex_8e157 4 = .ok (.iload_n 0, 1) := by decide +kernel
theorem dd_J3_checkIndex_8e157_5 : decode cJ3_checkIndex_8e157 5 = .ok (.iload_n 1, 1) := by decide +kernel
theorem dd_J3_checkIndex_8e157_6 : decode cJ3_checkIndex_8e157 6 = .ok (.if_icmp .lt 10, 3) := by decide +kernel
theorem dd_J3_checkIndex_8e157_9 : decode cJ3_checkIndex_8e157 9 = .ok (.aload_n 2, 1) := by decide +kernel
theorem dd_J3_checkIndex_8e157_10 : decode cJ3_checkIndex_8e157 10 = .ok (.iload_n 0, 1) := by decide +kernel
theorem dd_J3_checkIndex_8e157_11 : decode cJ3_checkIndex_8e157 11 = .ok (.iload_n 1, 1) := by decide +kernel
theorem dd_J3_checkIndex_8e157_12 : decode cJ3_checkIndex_8e157 12 = .ok (.invokestatic 95, 3) := by decide +kernel
theorem dd_J3_checkIndex_8e157_15 : decode cJ3_checkIndex_8e157 15 = .ok (.athrow, 1) := by decide +kernel
theorem dd_J3_checkIndex_8e157_16 : decode cJ3_checkIndex_8e157 16 = .ok (.iload_n 0, 1) := by decide +kernel
theorem dd_J3_checkIndex_8e157_17 : decode cJ3_checkIndex_8e157 17 = .ok (.ireturn, 1) := by decide +kernel
def sq_P (bs bv : Nat) (A : Nat → Prop) (as : List Value) : Array Value → State → Prop := va_Pc as (fun U => fz_SF bs bv A U U.heap)
def sq_Q (v : Option Value) : Array Value → State → Outcome → State → Prop := fun _ st o t => o = .returned v ∧ t.heap = st.heap
theorem sq_blind (bs bv : Nat) (A : Nat → Prop) (as : List Value) : FrameBlind (sq_P bs bv A as) := fun a U gf mk q => ⟨q.1, fz_SF.moved (u := U) (U := U.calling gf mk a) (Vm.Alike.refl U.vm) q.2⟩
section SQ
variable {p : Program} {l : Launch} {e : Env} {R : Room} {s : State} {m : MethodId} {args : Array Value} {below : List Frame} {meth : Method} {c : Code} {H : Heap} {locs : List Loc} {cells slots : Nat} {Q : State → Prop} {g : JFrame} {rest : List Value} {a : Array Value}
theorem sq_call {v : Option Value} (hr : CallRun p l e R s m args below meth c H locs cells slots 0 0 g rest (sq_Q v a) (fun _ => False)) (kk : W p l e R s m args below meth c H locs cells slots Q { g with pc := g.pc + 3, stack := v.toList ++ rest }) : W p l e R s m args below meth c H locs cells slots Q g := by
  intro T hT X
  obtain ⟨v', st₀, t, T', L, h0, X', hL, e1, ⟨hv, hh⟩, st⟩ := hr T hT X
  cases hv
  have hLn : L = [] := by
    cases L with
    | nil => rfl
    | cons q L => exact absurd (hL q List.mem_cons_self) id
  subst hLn
  rw [List.append_nil] at X'
  obtain ⟨t2, a1, b1⟩ := kk T' (by rw [e1, hh, h0]) X'
  exact ⟨t2, st t2 a1, b1⟩
end SQ
set_option maxRecDepth 100000 in
set_option maxHeartbeats 4000000 in
theorem sq_coder (l : Launch) (bs bv : Nat) (A : Nat → Prop) : Met l yJ0_coder_7d493 (Cond.code yJ0_coder_7d493 cJ0_coder_7d493 1 (some .byte) :: fz_T) (fz_rm 0 0 0) (sq_P bs bv A [.ref bs]) (sq_Q (some (.int 0))) 0 0 (fun _ => False) := by
  refine fz_ofW (cc := cJ0_coder_7d493) (maxL := 1) (ret := (some .byte)) (plainFor_of_name pn_J0) rfl ?_
  intro p e s m args below meth c s₁ B hml hv
  have hx := B.exec
  have hb := B.bytes
  have hr := B.returns
  have hts0 := atoms_spec (ws := Cond.code yJ0_coder_7d493 cJ0_coder_7d493 1 (some .byte) :: fz_T) B.pre
  have hts : ∀ w ∈ fz_T, w.before args s = true := fun w h => hts0 w (List.mem_cons_of_mem _ h)
  have hown : s.vm.findClass RJ0 = some m.cls := findClass_of_methodNamed B.named
  have hlocks := B.notSynchronized
  have hS : ∀ A : Nat → Prop, va_S A s.heap s.heap [] := fun _ => va_S.rf
  obtain ⟨rfl, hE, hZ, hZq⟩ := hv
  have hl := lv_entry ([.ref bs]) (n := 1) (Nat.le_of_ble_eq_true rfl)
  rw [lg_entry_eq]
  generalize (lg_sl ([.ref bs]) ++ List.replicate (1 - (lg_sl ([.ref bs])).length) Slot.unset).toArray = ls at hl ⊢
  have hl : lv_has ls 1 [(0, .ref bs)] := hl
  refine va_gets hx hb hZ (hS A) hown (hts _ fj_J0_38) (fun _ h => h) dd_J0_coder_7d493_0 ?_
  refine lv_if_eq (tgt := 13) hx hb dd_J0_coder_7d493_3 (by decide) (fun hc => absurd hc (by decide)) (fun _ => ?_)
  refine lv_aload_n hx hb dd_J0_coder_7d493_6 rfl (lv_at hl 0 rfl) ?_
  refine vk_getf hx hb (hE.1 0 (by decide)).2.1 (hS A) hown (hts _ fj_J0_15) (fun _ h => h) dd_J0_coder_7d493_7 ?_
  refine lv_goto (tgt := 14) hx hb dd_J0_coder_7d493_10 (by decide) ?_
  exact W.zret hx hb hr rfl (fun t ht _ => ⟨rfl, ht⟩) (fun q h => by cases h) dd_J0_coder_7d493_14
set_option maxRecDepth 100000 in
set_option maxHeartbeats 4000000 in
theorem sq_latin (l : Launch) (bs bv : Nat) (A : Nat → Prop) : Met l yJ0_isLatin1_aae02 (Cond.code yJ0_isLatin1_aae02 cJ0_isLatin1_aae02 1 (some .boolean) :: fz_T) (fz_rm 0 0 0) (sq_P bs bv A [.ref bs]) (sq_Q (some (.int 1))) 0 0 (fun _ => False) := by
  refine fz_ofW (cc := cJ0_isLatin1_aae02) (maxL := 1) (ret := (some .boolean)) (plainFor_of_name pn_J0) rfl ?_
  intro p e s m args below meth c s₁ B hml hv
  have hx := B.exec
  have hb := B.bytes
  have hr := B.returns
  have hts0 := atoms_spec (ws := Cond.code yJ0_isLatin1_aae02 cJ0_isLatin1_aae02 1 (some .boolean) :: fz_T) B.pre
  have hts : ∀ w ∈ fz_T, w.before args s = true := fun w h => hts0 w (List.mem_cons_of_mem _ h)
  have hown : s.vm.findClass RJ0 = some m.cls := findClass_of_methodNamed B.named
  have hlocks := B.notSynchronized
  have hS : ∀ A : Nat → Prop, va_S A s.heap s.heap [] := fun _ => va_S.rf
  obtain ⟨rfl, hE, hZ, hZq⟩ := hv
  have hl := lv_entry ([.ref bs]) (n := 1) (Nat.le_of_ble_eq_true rfl)
  rw [lg_entry_eq]
  generalize (lg_sl ([.ref bs]) ++ List.replicate (1 - (lg_sl ([.ref bs])).length) Slot.unset).toArray = ls at hl ⊢
  have hl : lv_has ls 1 [(0, .ref bs)] := hl
  refine va_gets hx hb hZ (hS A) hown (hts _ fj_J0_38) (fun _ h => h) dd_J0_isLatin1_aae02_0 ?_
  refine lv_if_eq (tgt := 17) hx hb dd_J0_isLatin1_aae02_3 (by decide) (fun hc => absurd hc (by decide)) (fun _ => ?_)
  refine lv_aload_n hx hb dd_J0_isLatin1_aae02_6 rfl (lv_at hl 0 rfl) ?_
  refine vk_getf hx hb (hE.1 0 (by decide)).2.1 (hS A) hown (hts _ fj_J0_15) (fun _ h => h) dd_J0_isLatin1_aae02_7 ?_
  refine lv_if_ne (tgt := 17) hx hb dd_J0_isLatin1_aae02_10 (by decide) (fun hc => absurd rfl hc) (fun _ => ?_)
  refine lv_iconst (v := 1) hx hb dd_J0_isLatin1_aae02_13 (by decide) ?_
  refine lv_goto (tgt := 18) hx hb dd_J0_isLatin1_aae02_14 (by decide) ?_
  exact W.zret hx hb hr rfl (fun t ht _ => ⟨rfl, ht⟩) (fun q h => by cases h) dd_J0_isLatin1_aae02_18
set_option maxRecDepth 100000 in
set_option maxHeartbeats 4000000 in
theorem sq_ck3 (l : Launch) (i : Int32) (n : Int32) (v : Value) (hv1 : v = .null ∨ ∃ t, v = .ref t) (h0 : ¬ i < 0) (h1 : i < n) : Met l yJ3_checkIndex_8e157 (Cond.code yJ3_checkIndex_8e157 cJ3_checkIndex_8e157 3 (some .int) :: fz_T) (fz_rm 0 0 0) (va_Pc [.int i, .int n, v] (fun _ => True)) (sq_Q (some (.int i))) 0 0 (fun _ => False) := by
  refine fz_ofW (cc := cJ3_checkIndex_8e157) (maxL := 3) (ret := (some .int)) (plainFor_of_name pn_J3) rfl ?_
  intro p e s m args below meth c s₁ B hml hv
  have hx := B.exec
  have hb := B.bytes
  have hr := B.returns
  have hts0 := atoms_spec (ws := Cond.code yJ3_checkIndex_8e157 cJ3_checkIndex_8e157 3 (some .int) :: fz_T) B.pre
  have hts : ∀ w ∈ fz_T, w.before args s = true := fun w h => hts0 w (List.mem_cons_of_mem _ h)
  have hown : s.vm.findClass RJ3 = some m.cls := findClass_of_methodNamed B.named
  have hlocks := B.notSynchronized
  have hS : ∀ A : Nat → Prop, va_S A s.heap s.heap [] := fun _ => va_S.rf
  obtain ⟨rfl, -⟩ := hv
  have hcat : v.category = 1 := by rcases hv1 with rfl | ⟨t, rfl⟩ <;> rfl
  have hsl : lg_sl [.int i, .int n, v] = [.val (.int i), .val (.int n), .val v] := by rcases hv1 with rfl | ⟨t, rfl⟩ <;> rfl
  have hl := lv_entry ([.int i, .int n, v]) (n := 3) (by rw [hsl]; exact Nat.le_refl 3)
  rw [lg_entry_eq]
  generalize (lg_sl ([.int i, .int n, v]) ++ List.replicate (3 - (lg_sl ([.int i, .int n, v])).length) Slot.unset).toArray = ls at hl ⊢
  have hl : lv_has ls 3 [(0, .int i), (1, .int n), (2, v)] := hl
  refine lv_iload_n hx hb dd_J3_checkIndex_8e157_0 rfl (lv_at hl 0 rfl) ?_
  refine lv_if_lt (tgt := 9) hx hb dd_J3_checkIndex_8e157_1 (by decide) (fun hc => absurd hc h0) (fun _ => ?_)
  refine lv_iload_n hx hb dd_J3_checkIndex_8e157_4 rfl (lv_at hl 0 rfl) ?_
  refine lv_iload_n hx hb dd_J3_checkIndex_8e157_5 rfl (lv_at hl 1 rfl) ?_
  refine lv_icmp_lt (tgt := 16) hx hb dd_J3_checkIndex_8e157_6 (by decide) (fun _ => ?_) (fun hc => absurd h1 hc)
  refine lv_iload_n hx hb dd_J3_checkIndex_8e157_16 rfl (lv_at hl 0 rfl) ?_
  exact W.iret hx hb hr (fun t ht _ => ⟨rfl, ht⟩) (fun q h => by cases h) dd_J3_checkIndex_8e157_17
set_option maxRecDepth 100000 in
set_option maxHeartbeats 4000000 in
theorem sq_ck0 (l : Launch) (bs bv : Nat) (A : Nat → Prop) (i n : Int32) (h0 : ¬ i < 0) (h1 : i < n) : Met l yJ0_checkIndex_df160 (Cond.code yJ0_checkIndex_df160 cJ0_checkIndex_df160 2 none :: fz_T) (fz_rm 1 0 0) (sq_P bs bv A [.int i, .int n]) (sq_Q none) 0 0 (fun _ => False) := by
  refine fz_ofW (cc := cJ0_checkIndex_df160) (maxL := 2) (ret := none) (plainFor_of_name pn_J0) rfl ?_
  intro p e s m args below meth c s₁ B hml hv
  have hx := B.exec
  have hb := B.bytes
  have hr := B.returns
  have hts0 := atoms_spec (ws := Cond.code yJ0_checkIndex_df160 cJ0_checkIndex_df160 2 none :: fz_T) B.pre
  have hts : ∀ w ∈ fz_T, w.before args s = true := fun w h => hts0 w (List.mem_cons_of_mem _ h)
  have hown : s.vm.findClass RJ0 = some m.cls := findClass_of_methodNamed B.named
  have hlocks := B.notSynchronized
  have hS : ∀ A : Nat → Prop, va_S A s.heap s.heap [] := fun _ => va_S.rf
  obtain ⟨rfl, hE, hZ, hZq⟩ := hv
  have hl := lv_entry ([.int i, .int n]) (n := 2) (Nat.le_of_ble_eq_true rfl)
  rw [lg_entry_eq]
  generalize (lg_sl ([.int i, .int n]) ++ List.replicate (2 - (lg_sl ([.int i, .int n])).length) Slot.unset).toArray = ls at hl ⊢
  have hl : lv_has ls 2 [(0, .int i), (1, .int n)] := hl
  have fin : ∀ v : Value, (v = .null ∨ ∃ t, v = .ref t) → va_Z "jdk/internal/util/Preconditions" "SIOOBE_FORMATTER" "Ljava/util/function/BiFunction;" v A s s.heap → W p l e (headSpec (Cond.code yJ0_checkIndex_df160 cJ0_checkIndex_df160 2 none :: fz_T) (fz_rm 1 0 0)).room s m [Value.int i, Value.int n].toArray below meth c s.heap [] 0 0 (MQ below (sq_Q none) [Value.int i, Value.int n].toArray s 0 0 (fun _ => False)) (F0 m 0 ls []) := by
    intro v hv1 hZv
    refine lv_iload_n hx hb dd_J0_checkIndex_df160_0 rfl (lv_at hl 0 rfl) ?_
    refine lv_iload_n hx hb dd_J0_checkIndex_df160_1 rfl (lv_at hl 1 rfl) ?_
    refine va_gets hx hb hZv (hS A) hown (hts _ fj_J0_1053) (fun _ h => h) dd_J0_checkIndex_df160_2 ?_
    refine sq_call (W.runS (As := [.int i, .int n, v]) (rest := []) (n := 3) (bytes := cJ3_checkIndex_8e157) (maxL := 3) (ret := some .int) ⟨hx, hb, hml, hown, hts⟩ (sq_ck3 l i n v hv1 h0 h1) ⟨callB_of 3 hts (fz_goodc me_J3_checkIndex_8e157) rfl rfl rfl (hts _ me_J3_checkIndex_8e157.2.2.1) (hts _ lk_J0_1059) me_J3_checkIndex_8e157.2.2.2.1 ⟨Nat.le_of_ble_eq_true rfl, Nat.le_of_ble_eq_true rfl⟩, hts _ st_J3_checkIndex_8e157⟩ ⟨fun a U gf mk q => ⟨q.1, trivial⟩, fun U _ _ => ⟨rfl, trivial⟩⟩ rfl rfl hl.1 rfl (lv_room (Nat.le_of_ble_eq_true rfl)) dd_J0_checkIndex_df160_5 ⟨Nat.le_of_ble_eq_true rfl, Nat.le_of_ble_eq_true rfl⟩) ?_
    refine W.eq (g2 := F0 m 8 ls [.int i]) rfl ?_
    refine lv_pop hx hb dd_J0_checkIndex_df160_8 rfl ?_
    exact W.vret hx hb hr (fun t ht _ => ⟨rfl, ht⟩) (fun q h => by cases h) dd_J0_checkIndex_df160_9
  rcases hZq with hZ1 | ⟨t, hZ1⟩
  · exact fin .null (Or.inl rfl) hZ1
  · exact fin (.ref t) (Or.inr ⟨t, rfl⟩) hZ1
set_option maxRecDepth 100000 in
set_option maxHeartbeats 4000000 in
theorem sq_ch1 (l : Launch) (bs bv : Nat) (A : Nat → Prop) (i : Int32) (hin : vp_in i 177) : Met l yJ1_charAt_3b067 (Cond.code yJ1_charAt_3b067 cJ1_charAt_3b067 2 (some .char) :: fz_T) (fz_rm 2 0 0) (sq_P bs bv A [.ref bv, .int i]) (sq_Q (some (.int (fz_chr i)))) 0 0 (fun _ => False) := by
  have hlt : i.toNatClampNeg < 177 := Nat.not_le.mp fun q => hin (Or.inr q)
  have h0 : ¬ i < 0 := fun q => hin (Or.inl q)
  have h1 : i < 177 := by
    have := fz_nn h0
    exact Int32.lt_iff_toInt_lt.mpr (by rw [this]; show _ < (177 : Int); omega)
  refine fz_ofW (cc := cJ1_charAt_3b067) (maxL := 2) (ret := (some .char)) (plainFor_of_name pn_J1) rfl ?_
  intro p e s m args below meth c s₁ B hml hv
  have hx := B.exec
  have hb := B.bytes
  have hr := B.returns
  have hts0 := atoms_spec (ws := Cond.code yJ1_charAt_3b067 cJ1_charAt_3b067 2 (some .char) :: fz_T) B.pre
  have hts : ∀ w ∈ fz_T, w.before args s = true := fun w h => hts0 w (List.mem_cons_of_mem _ h)
  have hown : s.vm.findClass RJ1 = some m.cls := findClass_of_methodNamed B.named
  have hlocks := B.notSynchronized
  have hS : ∀ A : Nat → Prop, va_S A s.heap s.heap [] := fun _ => va_S.rf
  obtain ⟨rfl, hE, hZ, hZq⟩ := hv
  have hl := lv_entry ([.ref bv, .int i]) (n := 2) (Nat.le_of_ble_eq_true rfl)
  rw [lg_entry_eq]
  generalize (lg_sl ([.ref bv, .int i]) ++ List.replicate (2 - (lg_sl ([.ref bv, .int i])).length) Slot.unset).toArray = ls at hl ⊢
  have hl : lv_has ls 2 [(0, .ref bv), (1, .int i)] := hl
  have hT := (hE.1 0 (by decide)).2.2.2
  refine lv_iload_n hx hb dd_J1_charAt_3b067_0 rfl (lv_at hl 1 rfl) ?_
  refine lv_aload_n hx hb dd_J1_charAt_3b067_1 rfl (lv_at hl 0 rfl) ?_
  refine va_tlen (v := 177) hx hb hT (hS A) rfl dd_J1_charAt_3b067_2 ?_
  refine sq_call (W.runS (As := [.int i, .int 177]) (rest := []) (n := 2) (bytes := cJ0_checkIndex_df160) (maxL := 2) (ret := none) ⟨hx, hb, hml, hown, hts⟩ (sq_ck0 l bs bv A i 177 h0 h1) ⟨callB_of 2 hts (fz_goodc me_J0_checkIndex_df160) rfl rfl rfl (hts _ me_J0_checkIndex_df160.2.2.1) (hts _ lk_J1_9) me_J0_checkIndex_df160.2.2.2.1 ⟨Nat.le_of_ble_eq_true rfl, Nat.le_of_ble_eq_true rfl⟩, hts _ st_J0_checkIndex_df160⟩ ⟨sq_blind bs bv A _, fun U hU hW => ⟨rfl, by show fz_SF _ _ _ U U.heap; rw [hU]; exact fz_SF.moved hW.alike ⟨hE, hZ, hZq⟩⟩⟩ rfl rfl hl.1 rfl (lv_room (Nat.le_of_ble_eq_true rfl)) dd_J1_charAt_3b067_3 ⟨Nat.le_of_ble_eq_true rfl, Nat.le_of_ble_eq_true rfl⟩) ?_
  refine W.eq (g2 := F0 m 6 ls []) rfl ?_
  refine lv_aload_n hx hb dd_J1_charAt_3b067_6 rfl (lv_at hl 0 rfl) ?_
  refine lv_iload_n hx hb dd_J1_charAt_3b067_7 rfl (lv_at hl 1 rfl) ?_
  refine va_tb hx hb hT (hS A) hin rfl dd_J1_charAt_3b067_8 ?_
  refine lv_sipush (v := 255) hx hb dd_J1_charAt_3b067_9 (by decide) ?_
  refine lv_iand hx hb dd_J1_charAt_3b067_12 ?_
  refine lv_i2c (v := fz_chr i) hx hb dd_J1_charAt_3b067_13 (sq_chr _ hlt) ?_
  exact W.zret hx hb hr (sq_nar _ hlt) (fun t ht _ => ⟨rfl, ht⟩) (fun q h => by cases h) dd_J1_charAt_3b067_14
set_option maxRecDepth 100000 in
set_option maxHeartbeats 4000000 in
theorem sq_charAt (l : Launch) (bs bv : Nat) (A : Nat → Prop) (i : Int32) (hin : vp_in i 177) : Met l yJ0_charAt_5068e (Cond.code yJ0_charAt_5068e cJ0_charAt_5068e 2 (some .char) :: fz_T) (fz_rm 3 0 0) (sq_P bs bv A [.ref bs, .int i]) (sq_Q (some (.int (fz_chr i)))) 0 0 (fun _ => False) := by
  have hlt : i.toNatClampNeg < 177 := Nat.not_le.mp fun q => hin (Or.inr q)
  refine fz_ofW (cc := cJ0_charAt_5068e) (maxL := 2) (ret := (some .char)) (plainFor_of_name pn_J0) rfl ?_
  intro p e s m args below meth c s₁ B hml hv
  have hx := B.exec
  have hb := B.bytes
  have hr := B.returns
  have hts0 := atoms_spec (ws := Cond.code yJ0_charAt_5068e cJ0_charAt_5068e 2 (some .char) :: fz_T) B.pre
  have hts : ∀ w ∈ fz_T, w.before args s = true := fun w h => hts0 w (List.mem_cons_of_mem _ h)
  have hown : s.vm.findClass RJ0 = some m.cls := findClass_of_methodNamed B.named
  have hlocks := B.notSynchronized
  have hS : ∀ A : Nat → Prop, va_S A s.heap s.heap [] := fun _ => va_S.rf
  obtain ⟨rfl, hE, hZ, hZq⟩ := hv
  have hl := lv_entry ([.ref bs, .int i]) (n := 2) (Nat.le_of_ble_eq_true rfl)
  rw [lg_entry_eq]
  generalize (lg_sl ([.ref bs, .int i]) ++ List.replicate (2 - (lg_sl ([.ref bs, .int i])).length) Slot.unset).toArray = ls at hl ⊢
  have hl : lv_has ls 2 [(0, .ref bs), (1, .int i)] := hl
  refine lv_aload_n hx hb dd_J0_charAt_5068e_0 rfl (lv_at hl 0 rfl) ?_
  refine sq_call (W.runV (As := []) (rest := []) (n := 0) (C := RJ0) (bytes := cJ0_isLatin1_aae02) (maxL := 1) (ret := some .boolean) ⟨hx, hb, hml, hown, hts⟩ (sq_latin l bs bv A) ⟨callB_of 0 hts (fz_goodc me_J0_isLatin1_aae02) rfl rfl rfl (hts _ me_J0_isLatin1_aae02.2.2.1) (hts _ lk_J0_492) me_J0_isLatin1_aae02.2.2.2.1 ⟨Nat.le_of_ble_eq_true rfl, Nat.le_of_ble_eq_true rfl⟩, hts _ in_J0_isLatin1_aae02, hts _ se_J0_isLatin1_aae02⟩ ⟨sq_blind bs bv A _, vk_recv hE (i := 0) (by decide) (hS A), fun U hU hW => ⟨rfl, by show fz_SF _ _ _ U U.heap; rw [hU]; exact fz_SF.moved hW.alike ⟨hE, hZ, hZq⟩⟩⟩ rfl rfl hl.1 rfl (lv_room (Nat.le_of_ble_eq_true rfl)) dd_J0_charAt_5068e_1 ⟨Nat.le_of_ble_eq_true rfl, Nat.le_of_ble_eq_true rfl⟩) ?_
  refine W.eq (g2 := F0 m 4 ls [.int 1]) rfl ?_
  refine lv_if_eq (tgt := 16) hx hb dd_J0_charAt_5068e_4 (by decide) (fun hc => absurd hc (by decide)) (fun _ => ?_)
  refine lv_aload_n hx hb dd_J0_charAt_5068e_7 rfl (lv_at hl 0 rfl) ?_
  refine vk_getf hx hb (hE.1 0 (by decide)).2.2.1 (hS A) hown (hts _ fj_J0_9) (fun _ h => h) dd_J0_charAt_5068e_8 ?_
  refine lv_iload_n hx hb dd_J0_charAt_5068e_11 rfl (lv_at hl 1 rfl) ?_
  refine sq_call (W.runS (As := [.ref bv, .int i]) (rest := []) (n := 2) (bytes := cJ1_charAt_3b067) (maxL := 2) (ret := some .char) ⟨hx, hb, hml, hown, hts⟩ (sq_ch1 l bs bv A i hin) ⟨callB_of 2 hts (fz_goodc me_J1_charAt_3b067) rfl rfl rfl (hts _ me_J1_charAt_3b067.2.2.1) (hts _ lk_J0_495) me_J1_charAt_3b067.2.2.2.1 ⟨Nat.le_of_ble_eq_true rfl, Nat.le_of_ble_eq_true rfl⟩, hts _ st_J1_charAt_3b067⟩ ⟨sq_blind bs bv A _, fun U hU hW => ⟨rfl, by show fz_SF _ _ _ U U.heap; rw [hU]; exact fz_SF.moved hW.alike ⟨hE, hZ, hZq⟩⟩⟩ rfl rfl hl.1 rfl (lv_room (Nat.le_of_ble_eq_true rfl)) dd_J0_charAt_5068e_12 ⟨Nat.le_of_ble_eq_true rfl, Nat.le_of_ble_eq_true rfl⟩) ?_
  refine W.eq (g2 := F0 m 15 ls [.int (fz_chr i)]) rfl ?_
  exact W.zret hx hb hr (sq_nar _ hlt) (fun t ht _ => ⟨rfl, ht⟩) (fun q h => by cases h) dd_J0_charAt_5068e_15
set_option maxRecDepth 100000 in
set_option maxHeartbeats 4000000 in
theorem sq_length (l : Launch) (bs bv : Nat) (A : Nat → Prop) : Met l yJ0_length_8abf5 (Cond.code yJ0_length_8abf5 cJ0_length_8abf5 1 (some .int) :: fz_T) (fz_rm 1 0 0) (sq_P bs bv A [.ref bs]) (sq_Q (some (.int 177))) 0 0 (fun _ => False) := by
  refine fz_ofW (cc := cJ0_length_8abf5) (maxL := 1) (ret := (some .int)) (plainFor_of_name pn_J0) rfl ?_
  intro p e s m args below meth c s₁ B hml hv
  have hx := B.exec
  have hb := B.bytes
  have hr := B.returns
  have hts0 := atoms_spec (ws := Cond.code yJ0_length_8abf5 cJ0_length_8abf5 1 (some .int) :: fz_T) B.pre
  have hts : ∀ w ∈ fz_T, w.before args s = true := fun w h => hts0 w (List.mem_cons_of_mem _ h)
  have hown : s.vm.findClass RJ0 = some m.cls := findClass_of_methodNamed B.named
  have hlocks := B.notSynchronized
  have hS : ∀ A : Nat → Prop, va_S A s.heap s.heap [] := fun _ => va_S.rf
  obtain ⟨rfl, hE, hZ, hZq⟩ := hv
  have hl := lv_entry ([.ref bs]) (n := 1) (Nat.le_of_ble_eq_true rfl)
  rw [lg_entry_eq]
  generalize (lg_sl ([.ref bs]) ++ List.replicate (1 - (lg_sl ([.ref bs])).length) Slot.unset).toArray = ls at hl ⊢
  have hl : lv_has ls 1 [(0, .ref bs)] := hl
  refine lv_aload_n hx hb dd_J0_length_8abf5_0 rfl (lv_at hl 0 rfl) ?_
  refine vk_getf hx hb (hE.1 0 (by decide)).2.2.1 (hS A) hown (hts _ fj_J0_9) (fun _ h => h) dd_J0_length_8abf5_1 ?_
  refine va_tlen (v := 177) hx hb (hE.1 0 (by decide)).2.2.2 (hS A) rfl dd_J0_length_8abf5_4 ?_
  refine lv_aload_n hx hb dd_J0_length_8abf5_5 rfl (lv_at hl 0 rfl) ?_
  refine sq_call (W.runV (As := []) (rest := [.int 177]) (n := 0) (C := RJ0) (bytes := cJ0_coder_7d493) (maxL := 1) (ret := some .byte) ⟨hx, hb, hml, hown, hts⟩ (sq_coder l bs bv A) ⟨callB_of 0 hts (fz_goodc me_J0_coder_7d493) rfl rfl rfl (hts _ me_J0_coder_7d493.2.2.1) (hts _ lk_J0_335) me_J0_coder_7d493.2.2.2.1 ⟨Nat.le_of_ble_eq_true rfl, Nat.le_of_ble_eq_true rfl⟩, hts _ in_J0_coder_7d493, hts _ se_J0_coder_7d493⟩ ⟨sq_blind bs bv A _, vk_recv hE (i := 0) (by decide) (hS A), fun U hU hW => ⟨rfl, by show fz_SF _ _ _ U U.heap; rw [hU]; exact fz_SF.moved hW.alike ⟨hE, hZ, hZq⟩⟩⟩ rfl rfl hl.1 rfl (lv_room (Nat.le_of_ble_eq_true rfl)) dd_J0_length_8abf5_6 ⟨Nat.le_of_ble_eq_true rfl, Nat.le_of_ble_eq_true rfl⟩) ?_
  refine W.eq (g2 := F0 m 9 ls [.int 0, .int 177]) rfl ?_
  refine lv_ishr hx hb dd_J0_length_8abf5_9 ?_
  refine lv_topi (fun z hz => ?_)
  have hz : z = 177 := by rw [hz]; decide
  subst hz
  exact W.iret hx hb hr (fun t ht _ => ⟨rfl, ht⟩) (fun q h => by cases h) dd_J0_length_8abf5_10
theorem fs_ldcS {g : fz_G} {l : Launch} {d pc : Nat} {ls st : List Value} {s : fz_s} {Q : Option Value → fz_s → Prop} (hd : decode m_X8_wordNumber.2.1 pc = .ok (.ldc 57, 2)) (k : fs_V g l m_X8_wordNumber d true (pc + 2) ls (.ref 1 :: st) s Q) : fs_V g l m_X8_wordNumber d true pc ls st s Q := fun t p e R s0 m args below meth c H locs cells slots lc Mc Ms QQ C RM hl hR hE => va_ldcS C.1 C.2.1 C.2.2.2.2.1 C.2.2.2.2.2.2.2.2.2.2.2.2.1 hd (k t p e R s0 m args below meth c H locs cells slots lc Mc Ms QQ C RM hl hR hE)
set_option maxRecDepth 100000 in
set_option maxHeartbeats 4000000 in
theorem fs_strlen {g : fz_G} {l : Launch} {d pc : Nat} {ls st : List Value} {s : fz_s} {Q : Option Value → fz_s → Prop} (hd : decode m_X8_wordNumber.2.1 pc = .ok (.invokevirtual 59, 3)) (hst : (st.map fun v => v.category).sum ≤ 8) (hD : 7 ≤ d) (k : fs_V g l m_X8_wordNumber (d + 1) true (pc + 3) ls (.int 177 :: st) s Q) : fs_V g l m_X8_wordNumber (d + 1) true pc ls (.ref 1 :: st) s Q := by
  intro t p e R s0 m args below meth c H locs cells slots lc Mc Ms QQ C RM hl hR hE
  have hts := C.2.2.2.2.2.1
  have hK := C.2.2.2.2.2.2.2.2
  have hSF : fz_SF g.2.2.2.2.2.2.2.1 g.2.2.2.2.2.2.2.2 (fz_A g) s0 H := (hK.2.2.2.2.2.1).kept hR.2.2.1.2.1
  have hst' : ((st.map (fz_tr g)).map fun v => v.category).sum ≤ 8 := by rw [List.map_map]; simpa [Function.comp_def, fz_tr_cat] using hst
  have r2 := RM.2.1
  refine sq_call (W.runV (As := []) (b := g.2.2.2.2.2.2.2.1) (rest := st.map (fz_tr g)) (n := 0) (C := RJ0) (bytes := cJ0_length_8abf5) (maxL := 1) (ret := some .int) ⟨C.1, C.2.1, C.2.2.2.1, C.2.2.2.2.1, hts⟩ (sq_length l _ _ _) ⟨callB_of 0 hts (fz_goodc me_J0_length_8abf5) rfl rfl rfl (hts _ me_J0_length_8abf5.2.2.1) (hts _ lk_X8_59) me_J0_length_8abf5.2.2.2.1 ⟨Nat.le_trans (show 1 + 1 ≤ d + 1 by omega) RM.1, Nat.le_trans (show 8 + (1 + 11) + 64 * 1 ≤ 64 * (d + 1) by omega) RM.2.1⟩, hts _ in_J0_length_8abf5, hts _ se_J0_length_8abf5⟩ ⟨sq_blind _ _ _ _, ?_, fun U hU hW => ⟨rfl, by show fz_SF _ _ _ U U.heap; rw [hU]; exact fz_SF.moved hW.alike hSF⟩⟩ rfl rfl hl.1 rfl (lv_room hst') hd ⟨Nat.le_trans (Nat.le_trans (Nat.le_add_right _ _) RM.2.2.1) RM.2.2.2.2.1, Nat.le_trans (Nat.le_trans (Nat.le_add_right _ _) RM.2.2.2.1) RM.2.2.2.2.2⟩) ?_
  · obtain ⟨cell, h1, h2, h3, -⟩ := (hSF.1.1 0 (by decide)).1
    exact ⟨cell, h1, h2, h3⟩
  · exact k t p e R s0 m args below meth c H locs cells slots lc Mc Ms QQ C RM hl hR hE
set_option maxRecDepth 100000 in
set_option maxHeartbeats 4000000 in
theorem fs_charAt {g : fz_G} {l : Launch} {d pc : Nat} {ls st : List Value} {s : fz_s} {Q : Option Value → fz_s → Prop} {i : Int32} (hd : decode m_X8_wordNumber.2.1 pc = .ok (.invokevirtual 63, 3)) (hin : vp_in i 177) (hst : (st.map fun v => v.category).sum ≤ 8) (hD : 7 ≤ d) (k : fs_V g l m_X8_wordNumber (d + 1) true (pc + 3) ls (.int (fz_chr i) :: st) s Q) : fs_V g l m_X8_wordNumber (d + 1) true pc ls (.int i :: .ref 1 :: st) s Q := by
  intro t p e R s0 m args below meth c H locs cells slots lc Mc Ms QQ C RM hl hR hE
  have hts := C.2.2.2.2.2.1
  have hK := C.2.2.2.2.2.2.2.2
  have hSF : fz_SF g.2.2.2.2.2.2.2.1 g.2.2.2.2.2.2.2.2 (fz_A g) s0 H := (hK.2.2.2.2.2.1).kept hR.2.2.1.2.1
  have hst' : ((st.map (fz_tr g)).map fun v => v.category).sum ≤ 8 := by rw [List.map_map]; simpa [Function.comp_def, fz_tr_cat] using hst
  have r2 := RM.2.1
  refine sq_call (W.runV (As := [.int i]) (b := g.2.2.2.2.2.2.2.1) (rest := st.map (fz_tr g)) (n := 1) (C := RJ0) (bytes := cJ0_charAt_5068e) (maxL := 2) (ret := some .char) ⟨C.1, C.2.1, C.2.2.2.1, C.2.2.2.2.1, hts⟩ (sq_charAt l _ _ _ i hin) ⟨callB_of 1 hts (fz_goodc me_J0_charAt_5068e) rfl rfl rfl (hts _ me_J0_charAt_5068e.2.2.1) (hts _ lk_X8_63) me_J0_charAt_5068e.2.2.2.1 ⟨Nat.le_trans (show 3 + 1 ≤ d + 1 by omega) RM.1, Nat.le_trans (show 8 + (2 + 11) + 64 * 3 ≤ 64 * (d + 1) by omega) RM.2.1⟩, hts _ in_J0_charAt_5068e, hts _ se_J0_charAt_5068e⟩ ⟨sq_blind _ _ _ _, ?_, fun U hU hW => ⟨rfl, by show fz_SF _ _ _ U U.heap; rw [hU]; exact fz_SF.moved hW.alike hSF⟩⟩ rfl rfl hl.1 rfl (lv_room hst') hd ⟨Nat.le_trans (Nat.le_trans (Nat.le_add_right _ _) RM.2.2.1) RM.2.2.2.2.1, Nat.le_trans (Nat.le_trans (Nat.le_add_right _ _) RM.2.2.2.1) RM.2.2.2.2.2⟩) ?_
  · obtain ⟨cell, h1, h2, h3, -⟩ := (hSF.1.1 0 (by decide)).1
    exact ⟨cell, h1, h2, h3⟩
  · exact k t p e R s0 m args below meth c H locs cells slots lc Mc Ms QQ C RM hl hR hE

theorem ck_L_7 : Cond.classLink RL 7 RX11 ∈ fz_T := fz_t1 20 rfl rfl
theorem ck_X11_13 : Cond.classLink RX11 13 RX8 ∈ fz_T := fz_t1 28 rfl rfl
theorem ck_X11_22 : Cond.classLink RX11 22 RX2 ∈ fz_T := fz_t1 75 rfl rfl
theorem ck_X11_31 : Cond.classLink RX11 31 RX9 ∈ fz_T := fz_t1 99 rfl rfl
theorem ck_X11_41 : Cond.classLink RX11 41 RX5 ∈ fz_T := fz_t1 175 rfl rfl
theorem ck_X11_48 : Cond.classLink RX11 48 RX0 ∈ fz_T := fz_t1 191 rfl rfl
theorem ck_X11_50 : Cond.classLink RX11 50 RX7 ∈ fz_T := fz_t1 193 rfl rfl
theorem ck_X11_60 : Cond.classLink RX11 60 RX10 ∈ fz_T := fz_t1 222 rfl rfl
theorem ck_X11_70 : Cond.classLink RX11 70 RX4 ∈ fz_T := fz_t2 27 rfl rfl
theorem ck_X4_9 : Cond.classLink RX4 9 RX10 ∈ fz_T := fz_t2 33 rfl rfl
theorem ck_X11_77 : Cond.classLink RX11 77 RX3 ∈ fz_T := fz_t2 56 rfl rfl
theorem ck_X3_9 : Cond.classLink RX3 9 RX10 ∈ fz_T := fz_t2 62 rfl rfl
theorem ck_X11_86 : Cond.classLink RX11 86 RX1 ∈ fz_T := fz_t2 85 rfl rfl
theorem ck_X11_93 : Cond.classLink RX11 93 RX6 ∈ fz_T := fz_t2 112 rfl rfl
theorem ck_X6_9 : Cond.classLink RX6 9 RX10 ∈ fz_T := fz_t2 118 rfl rfl
theorem ck_L_10 : Cond.classLink RL 10 RX12 ∈ fz_T := fz_t5 234 rfl rfl
theorem is_X11 : Cond.instantiable RX11 20 ∈ fz_T := fz_t1 21 rfl rfl
theorem is_X8 : Cond.instantiable RX8 9 ∈ fz_T := fz_t1 29 rfl rfl
theorem is_X2 : Cond.instantiable RX2 5 ∈ fz_T := fz_t1 76 rfl rfl
theorem is_X9 : Cond.instantiable RX9 15 ∈ fz_T := fz_t1 100 rfl rfl
theorem is_X5 : Cond.instantiable RX5 3 ∈ fz_T := fz_t1 176 rfl rfl
theorem is_X0 : Cond.instantiable RX0 3 ∈ fz_T := fz_t1 192 rfl rfl
theorem is_X7 : Cond.instantiable RX7 2 ∈ fz_T := fz_t1 194 rfl rfl
theorem is_X10 : Cond.instantiable RX10 7 ∈ fz_T := fz_t1 223 rfl rfl
theorem is_X4 : Cond.instantiable RX4 6 ∈ fz_T := fz_t2 28 rfl rfl
theorem is_X3 : Cond.instantiable RX3 6 ∈ fz_T := fz_t2 57 rfl rfl
theorem is_X1 : Cond.instantiable RX1 6 ∈ fz_T := fz_t2 86 rfl rfl
theorem is_X6 : Cond.instantiable RX6 6 ∈ fz_T := fz_t2 113 rfl rfl
theorem is_X12 : Cond.instantiable RX12 112 ∈ fz_T := fz_t5 235 rfl rfl
theorem oi_i : Cond.instanceMethod objectInit ∈ fz_T := fz_t1 26 rfl rfl
theorem oi_c : Cond.code objectInit ⟨#[0xb1]⟩ 1 none ∈ fz_T := fz_t1 27 rfl rfl
/-- the cells in their order, the script and the text ahead -/
def fz_all (L : Nat) : List (Nat × Nat) := (20, L) :: (21, 0) :: fz_cells
/-- the picture has its first N cells -/
def fz_to (L : Nat) (h : fz_H) (N : Nat) : Prop := h.1 = (fz_all L).take N ∧ N ≤ 273
theorem fz_all_at {L a κ n : Nat} {b : Bool} (h : fz_at b a κ n) : (fz_all L)[a]? = some (κ, n) := by
  have h2 := h.1.ge
  match a, h2, h.2 with
  | a + 2, _, h3 => exact h3
theorem fz_at_lt {a κ n : Nat} {b : Bool} (h : fz_at b a κ n) : a < 273 := by
  have h1 := (List.getElem?_eq_some_iff.mp h.2).1
  have h2 : fz_cells.length = 271 := by decide +kernel
  have h3 := h.1.ge
  omega
theorem fz_to.len {L N : Nat} {h : fz_H} (hs : fz_to L h N) : h.1.length = N := by
  have h2 : (fz_all L).length = 273 := by show fz_cells.length + 1 + 1 = 273; rw [show fz_cells.length = 271 by decide +kernel]
  rw [hs.1, List.length_take, h2]
  have := hs.2
  omega
theorem fz_to.at {L N a κ n : Nat} {b : Bool} {h : fz_H} (hs : fz_to L h N) (ha : fz_at b a κ n) (hN : a < N) : h.1[a]? = some (κ, n) := by
  rw [hs.1, List.getElem?_take, if_pos hN]
  exact fz_all_at ha
theorem fz_to.mk {L N κ n : Nat} {b : Bool} {h : fz_H} (hs : fz_to L h N) (ha : fz_at b N κ n) : fz_to L (fz_mk h κ n) (N + 1) := by
  refine ⟨?_, Nat.succ_le_of_lt (fz_at_lt ha)⟩
  show h.1 ++ [(κ, n)] = _
  rw [hs.1, List.take_add_one, fz_all_at ha]
  rfl
section FQ
variable {g : fz_G} {l : Launch} {μ : fz_M} {d ra rb pc idx N L : Nat} {b : Bool} {ls st : List Value} {h : fz_H} {Q : Option Value → fz_H → Prop}
theorem fq_new {ci M : Nat} {C : String} {T : u_T} (hs : fz_to L h N) (ha : fz_at b N ci M) (hd : decode μ.2.1 pc = .ok (.new idx, 3)) (hc : vwCl[ci]? = some (C, T, M)) (h1 : Cond.classLink μ.1.cls idx C ∈ fz_T) (h2 : Cond.instantiable C M ∈ fz_T) (h3 : Cond.initialized C ∈ fz_T) (k : ∀ h', h' = fz_mk h ci M → fz_to L h' (N + 1) → fz_V g l μ d ra rb (pc + 3) ls (.ref N :: st) h' Q) : fz_V g l μ d (ra + 1) (rb + M) pc ls st h Q := fv_new hd hc h1 h2 h3 (by rw [hs.len]; exact k _ rfl (hs.mk ha))
theorem fq_newaI {n : Int32} {M : Nat} (hs : fz_to L h N) (ha : fz_at b N 14 M) (hd : decode μ.2.1 pc = .ok (.newarray .int, 2)) (h0 : ¬ n < 0) (hN : n.toNatClampNeg = M) (hb : M ≤ 60000) (k : ∀ h', h' = fz_mk h 14 M → fz_to L h' (N + 1) → fz_V g l μ d ra rb (pc + 2) ls (.ref N :: st) h' Q) : fz_V g l μ d (ra + 1) (rb + M) pc ls (.int n :: st) h Q := fv_newaI hd h0 hN hb (by rw [hs.len]; exact k _ rfl (hs.mk ha))
theorem fq_newaC {n : Int32} {M : Nat} (hs : fz_to L h N) (ha : fz_at b N 13 M) (hd : decode μ.2.1 pc = .ok (.newarray .char, 2)) (h0 : ¬ n < 0) (hN : n.toNatClampNeg = M) (hb : M ≤ 60000) (k : ∀ h', h' = fz_mk h 13 M → fz_to L h' (N + 1) → fz_V g l μ d ra rb (pc + 2) ls (.ref N :: st) h' Q) : fz_V g l μ d (ra + 1) (rb + M) pc ls (.int n :: st) h Q := fv_newaC hd h0 hN hb (by rw [hs.len]; exact k _ rfl (hs.mk ha))
theorem fq_newaJ {n : Int32} {M : Nat} (hs : fz_to L h N) (ha : fz_at b N 15 M) (hd : decode μ.2.1 pc = .ok (.newarray .long, 2)) (h0 : ¬ n < 0) (hN : n.toNatClampNeg = M) (hb : M ≤ 60000) (k : ∀ h', h' = fz_mk h 15 M → fz_to L h' (N + 1) → fz_V g l μ d ra rb (pc + 2) ls (.ref N :: st) h' Q) : fz_V g l μ d (ra + 1) (rb + M) pc ls (.int n :: st) h Q := fv_newaJ hd h0 hN hb (by rw [hs.len]; exact k _ rfl (hs.mk ha))
theorem fq_newaZ {n : Int32} {M : Nat} (hs : fz_to L h N) (ha : fz_at b N 16 M) (hd : decode μ.2.1 pc = .ok (.newarray .boolean, 2)) (h0 : ¬ n < 0) (hN : n.toNatClampNeg = M) (hb : M ≤ 60000) (k : ∀ h', h' = fz_mk h 16 M → fz_to L h' (N + 1) → fz_V g l μ d ra rb (pc + 2) ls (.ref N :: st) h' Q) : fz_V g l μ d (ra + 1) (rb + M) pc ls (.int n :: st) h Q := fv_newaZ hd h0 hN hb (by rw [hs.len]; exact k _ rfl (hs.mk ha))
theorem fq_anewa {n : Int32} {M : Nat} (hs : fz_to L h N) (ha : fz_at b N 17 M) (hd : decode μ.2.1 pc = .ok (.anewarray idx, 3)) (h1 : Cond.classLink μ.1.cls idx "FoolTrade$World" ∈ fz_T) (h0 : ¬ n < 0) (hN : n.toNatClampNeg = M) (hb : M ≤ 60000) (k : ∀ h', h' = fz_mk h 17 M → fz_to L h' (N + 1) → fz_V g l μ d ra rb (pc + 3) ls (.ref N :: st) h' Q) : fz_V g l μ d (ra + 1) (rb + M) pc ls (.int n :: st) h Q := fv_anewa hd h1 h0 hN hb (by rw [hs.len]; exact k _ rfl (hs.mk ha))
theorem fz_to.ob {a ci M : Nat} (hs : fz_to L h N) (ha : fz_at b a ci M) (hN : a < N) (hc : (vwCl[ci]?).map (fun q => q.2.2) = some M) : fz_ob h a ci := by
  cases hq : vwCl[ci]? with
  | none => rw [hq] at hc; cases hc
  | some q =>
    rw [hq] at hc
    obtain ⟨C, T, N'⟩ := q
    have : N' = M := Option.some.inj hc
    subst this
    exact ⟨ha.1.ge, C, T, N', hq, hs.at ha hN⟩
theorem fz_to.ar {a κ n : Nat} (hs : fz_to L h N) (ha : fz_at b a κ n) (hN : a < N) : fz_ar h a κ n := ⟨ha.1.ge, hs.at ha hN⟩
def fz_pf (own : String) (nm : String) (idx ci j : Nat) : Prop := ∃ (C : String) (T : u_T) (N : Nat), vwCl[ci]? = some (C, T, N) ∧ j < N ∧ Cond.fieldLink own idx (T j).1 (T j).2.1 (T j).2.2.1 ∈ fz_T ∧ ((T j).2.2.2 = false ∨ ((T j).2.2.2 = true ∧ nm = "<init>" ∧ (T j).1 = own))
theorem fq_putr {ci j a q M : Nat} (hs : fz_to L h N) (ha : fz_at b a ci M) (hN : a < N) (hc : (vwCl[ci]?).map (fun q => q.2.2) = some M) (hd : decode μ.2.1 pc = .ok (.putfield idx, 3)) (hf : fz_pf μ.1.cls μ.1.name idx ci j) (ht : (∃ c, fz_ty ci j = .object c) ∨ ∃ t, fz_ty ci j = .array t) (k : ∀ h', h' = fz_sP h a j (some q) → fz_to L h' N → fz_V g l μ d ra rb (pc + 3) ls st h' Q) : fz_V g l μ d ra rb pc ls (.ref q :: .ref a :: st) h Q := fv_putr hd hf (hs.ob ha hN hc) ht (k _ rfl hs)
theorem fq_puti {ci j a M : Nat} {x : Int32} (hs : fz_to L h N) (ha : fz_at b a ci M) (hN : a < N) (hc : (vwCl[ci]?).map (fun q => q.2.2) = some M) (hd : decode μ.2.1 pc = .ok (.putfield idx, 3)) (hf : fz_pf μ.1.cls μ.1.name idx ci j) (ht : fz_ty ci j = .int) (k : ∀ h', h' = fz_sI h a j x → fz_to L h' N → fz_V g l μ d ra rb (pc + 3) ls st h' Q) : fz_V g l μ d ra rb pc ls (.int x :: .ref a :: st) h Q := fv_puti hd hf (hs.ob ha hN hc) (Or.inl ht) (k _ rfl hs)
theorem fq_putl {ci j a M : Nat} {x : Int64} (hs : fz_to L h N) (ha : fz_at b a ci M) (hN : a < N) (hc : (vwCl[ci]?).map (fun q => q.2.2) = some M) (hd : decode μ.2.1 pc = .ok (.putfield idx, 3)) (hf : fz_pf μ.1.cls μ.1.name idx ci j) (ht : fz_ty ci j = .long) (k : ∀ h', h' = fz_sL h a j x → fz_to L h' N → fz_V g l μ d ra rb (pc + 3) ls st h' Q) : fz_V g l μ d ra rb pc ls (.long x :: .ref a :: st) h Q := fv_putl hd hf (hs.ob ha hN hc) ht (k _ rfl hs)
theorem fq_cast {a n i0 : Nat} {i x : Int32} (hs : fz_to L h N) (ha : fz_at b a 13 n) (hN : a < N) (hd : decode μ.2.1 pc = .ok (.castore, 1)) (hin : vp_in i n) (hi : i.toNatClampNeg = i0) (hx : vp_nar .char x = x) (k : ∀ h', h' = fz_sI h a i0 x → fz_to L h' N → fz_V g l μ d ra rb (pc + 1) ls st h' Q) : fz_V g l μ d ra rb pc ls (.int x :: .int i :: .ref a :: st) h Q := fv_cast hd (hs.ar ha hN) hin (by rw [hi, hx]; exact k _ rfl hs)
theorem fq_iast {a n i0 : Nat} {i x : Int32} (hs : fz_to L h N) (ha : fz_at b a 14 n) (hN : a < N) (hd : decode μ.2.1 pc = .ok (.iastore, 1)) (hin : vp_in i n) (hi : i.toNatClampNeg = i0) (k : ∀ h', h' = fz_sI h a i0 x → fz_to L h' N → fz_V g l μ d ra rb (pc + 1) ls st h' Q) : fz_V g l μ d ra rb pc ls (.int x :: .int i :: .ref a :: st) h Q := fv_iast hd (hs.ar ha hN) hin (by rw [hi]; exact k _ rfl hs)
theorem fq_callI {y : fz_M} {n mc ms a N' : Nat} {as stk : List Value} {h' : fz_H} (hd : decode μ.2.1 pc = .ok (.invokespecial idx, 3)) (hy : fz_me y n) (hnm : y.1.name = "<init>") (hrt : y.2.2.2 = none) (hl1 : Cond.methodLink μ.1.cls idx y.1 ∈ fz_T ∨ ∃ host, Cond.methodLinkNest μ.1.cls idx y.1 host ∈ tables_1) (hl2 : Cond.instanceMethod y.1 ∈ fz_T) (hn : as.length = n) (hlen : (fz_as (.ref a :: as)).length ≤ y.2.2.1) (hst : (st.map fun v => v.category).sum ≤ 8) (hk : as.reverse ++ .ref a :: st = stk) (k1 : ∀ Q' : Option Value → fz_H → Prop, (fz_to L h' N' → Q' none h') → fz_V g l y d mc ms 0 (fz_en (.ref a :: as) y.2.2.1) [] h Q') (k : ∀ h'', h'' = h' → fz_to L h'' N' → fz_V g l μ (d + 1) ra rb (pc + 3) ls st h'' Q) : fz_V g l μ (d + 1) (ra + mc) (rb + ms) pc ls stk h Q := by
  subst hk
  exact fv_callI hd hy hnm hrt hl1 hl2 hn hlen hst (k1 _ (fun hs => k _ rfl hs))
end FQ
theorem fz_sP_ne {h : fz_H} {a j q : Nat} {x : Option Nat} (hq : q ≠ a) : (fz_sP h a j x).2.2.2 q = h.2.2.2 q := if_neg hq
theorem fz_mk_ne {h : fz_H} {κ n q : Nat} (hq : q < h.1.length) : (fz_mk h κ n).2.2.2 q = h.2.2.2 q := if_neg (Nat.ne_of_lt hq)
theorem fz_sI_P {h : fz_H} {a j : Nat} {x : Int32} : (fz_sI h a j x).2.2.2 = h.2.2.2 := rfl
theorem fz_sP_eq {h : fz_H} {a j : Nat} {x : Option Nat} : (fz_sP h a j x).2.2.2 a j = x := by simp [fz_sP, va_up]
theorem fz_sP_nj {h : fz_H} {a j i : Nat} {x : Option Nat} (hq : i ≠ j) : (fz_sP h a j x).2.2.2 a i = h.2.2.2 a i := by simp [fz_sP, va_up, hq]
theorem dd_X0_init_0 : decode m_X0_init.2.1 0 = .ok (.aload_n 0, 1) := by decide +kernel
theorem dd_X0_init_1 : decode m_X0_init.2.1 1 = .ok (.invokespecial 3, 3) := by decide +kernel
theorem dd_X0_init_4 : decode m_X0_init.2.1 4 = .ok (.aload_n 0, 1) := by decide +kernel
theorem dd_X0_init_5 : decode m_X0_init.2.1 5 = .ok (.iconst 2, 1) := by decide +kernel
theorem dd_X0_init_6 : decode m_X0_init.2.1 6 = .ok (.newarray .int, 2) := by decide +kernel
theorem dd_X0_init_8 : decode m_X0_init.2.1 8 = .ok (.putfield 9, 3) := by decide +kernel
theorem pf_X0_9 : fz_pf RX0 "<init>" 9 0 2 := by obtain ⟨C, T, N, f1, f2, f3⟩ := fl_X0_9; exact ⟨C, T, N, f1, f2, f3, Or.inr ⟨by cases f1; rfl, rfl, by cases f1; rfl⟩⟩
theorem dd_X0_init_11 : decode m_X0_init.2.1 11 = .ok (.aload_n 0, 1) := by decide +kernel
theorem dd_X0_init_12 : decode m_X0_init.2.1 12 = .ok (.aload_n 1, 1) := by decide +kernel
theorem dd_X0_init_13 : decode m_X0_init.2.1 13 = .ok (.putfield 15, 3) := by decide +kernel
theorem pf_X0_15 : fz_pf RX0 "<init>" 15 0 0 := by obtain ⟨C, T, N, f1, f2, f3⟩ := fl_X0_15; exact ⟨C, T, N, f1, f2, f3, Or.inr ⟨by cases f1; rfl, rfl, by cases f1; rfl⟩⟩
theorem dd_X0_init_16 : decode m_X0_init.2.1 16 = .ok (.aload_n 0, 1) := by decide +kernel
theorem dd_X0_init_17 : decode m_X0_init.2.1 17 = .ok (.aload_n 2, 1) := by decide +kernel
theorem dd_X0_init_18 : decode m_X0_init.2.1 18 = .ok (.putfield 19, 3) := by decide +kernel
theorem pf_X0_19 : fz_pf RX0 "<init>" 19 0 1 := by obtain ⟨C, T, N, f1, f2, f3⟩ := fl_X0_19; exact ⟨C, T, N, f1, f2, f3, Or.inr ⟨by cases f1; rfl, rfl, by cases f1; rfl⟩⟩
theorem dd_X0_init_21 : decode m_X0_init.2.1 21 = .ok (.return_, 1) := by decide +kernel
theorem dd_X1_init_0 : decode m_X1_init.2.1 0 = .ok (.aload_n 0, 1) := by decide +kernel
theorem dd_X1_init_1 : decode m_X1_init.2.1 1 = .ok (.invokespecial 3, 3) := by decide +kernel
theorem dd_X1_init_4 : decode m_X1_init.2.1 4 = .ok (.aload_n 0, 1) := by decide +kernel
theorem dd_X1_init_5 : decode m_X1_init.2.1 5 = .ok (.bipush 27, 2) := by decide +kernel
theorem dd_X1_init_7 : decode m_X1_init.2.1 7 = .ok (.newarray .long, 2) := by decide +kernel
theorem dd_X1_init_9 : decode m_X1_init.2.1 9 = .ok (.putfield 11, 3) := by decide +kernel
theorem pf_X1_11 : fz_pf RX1 "<init>" 11 1 2 := by obtain ⟨C, T, N, f1, f2, f3⟩ := fl_X1_11; exact ⟨C, T, N, f1, f2, f3, Or.inr ⟨by cases f1; rfl, rfl, by cases f1; rfl⟩⟩
theorem dd_X1_init_12 : decode m_X1_init.2.1 12 = .ok (.aload_n 0, 1) := by decide +kernel
theorem dd_X1_init_13 : decode m_X1_init.2.1 13 = .ok (.iconst 3, 1) := by decide +kernel
theorem dd_X1_init_14 : decode m_X1_init.2.1 14 = .ok (.newarray .int, 2) := by decide +kernel
theorem dd_X1_init_16 : decode m_X1_init.2.1 16 = .ok (.putfield 15, 3) := by decide +kernel
theorem pf_X1_15 : fz_pf RX1 "<init>" 15 1 3 := by obtain ⟨C, T, N, f1, f2, f3⟩ := fl_X1_15; exact ⟨C, T, N, f1, f2, f3, Or.inr ⟨by cases f1; rfl, rfl, by cases f1; rfl⟩⟩
theorem dd_X1_init_19 : decode m_X1_init.2.1 19 = .ok (.aload_n 0, 1) := by decide +kernel
theorem dd_X1_init_20 : decode m_X1_init.2.1 20 = .ok (.aload_n 1, 1) := by decide +kernel
theorem dd_X1_init_21 : decode m_X1_init.2.1 21 = .ok (.putfield 19, 3) := by decide +kernel
theorem pf_X1_19 : fz_pf RX1 "<init>" 19 1 0 := by obtain ⟨C, T, N, f1, f2, f3⟩ := fl_X1_19; exact ⟨C, T, N, f1, f2, f3, Or.inr ⟨by cases f1; rfl, rfl, by cases f1; rfl⟩⟩
theorem dd_X1_init_24 : decode m_X1_init.2.1 24 = .ok (.aload_n 0, 1) := by decide +kernel
theorem dd_X1_init_25 : decode m_X1_init.2.1 25 = .ok (.aload_n 2, 1) := by decide +kernel
theorem dd_X1_init_26 : decode m_X1_init.2.1 26 = .ok (.putfield 23, 3) := by decide +kernel
theorem pf_X1_23 : fz_pf RX1 "<init>" 23 1 1 := by obtain ⟨C, T, N, f1, f2, f3⟩ := fl_X1_23; exact ⟨C, T, N, f1, f2, f3, Or.inr ⟨by cases f1; rfl, rfl, by cases f1; rfl⟩⟩
theorem dd_X1_init_29 : decode m_X1_init.2.1 29 = .ok (.return_, 1) := by decide +kernel
theorem dd_X2_init_0 : decode m_X2_init.2.1 0 = .ok (.aload_n 0, 1) := by decide +kernel
theorem dd_X2_init_1 : decode m_X2_init.2.1 1 = .ok (.invokespecial 3, 3) := by decide +kernel
theorem dd_X2_init_4 : decode m_X2_init.2.1 4 = .ok (.aload_n 0, 1) := by decide +kernel
theorem dd_X2_init_5 : decode m_X2_init.2.1 5 = .ok (.aload_n 1, 1) := by decide +kernel
theorem dd_X2_init_6 : decode m_X2_init.2.1 6 = .ok (.putfield 9, 3) := by decide +kernel
theorem pf_X2_9 : fz_pf RX2 "<init>" 9 2 0 := by obtain ⟨C, T, N, f1, f2, f3⟩ := fl_X2_9; exact ⟨C, T, N, f1, f2, f3, Or.inr ⟨by cases f1; rfl, rfl, by cases f1; rfl⟩⟩
theorem dd_X2_init_9 : decode m_X2_init.2.1 9 = .ok (.return_, 1) := by decide +kernel
theorem dd_X3_init_0 : decode m_X3_init.2.1 0 = .ok (.aload_n 0, 1) := by decide +kernel
theorem dd_X3_init_1 : decode m_X3_init.2.1 1 = .ok (.invokespecial 3, 3) := by decide +kernel
theorem dd_X3_init_4 : decode m_X3_init.2.1 4 = .ok (.aload_n 0, 1) := by decide +kernel
theorem dd_X3_init_5 : decode m_X3_init.2.1 5 = .ok (.new 9, 3) := by decide +kernel
theorem dd_X3_init_8 : decode m_X3_init.2.1 8 = .ok (.dup, 1) := by decide +kernel
theorem dd_X3_init_9 : decode m_X3_init.2.1 9 = .ok (.invokespecial 11, 3) := by decide +kernel
theorem dd_X3_init_12 : decode m_X3_init.2.1 12 = .ok (.putfield 12, 3) := by decide +kernel
theorem pf_X3_12 : fz_pf RX3 "<init>" 12 3 2 := by obtain ⟨C, T, N, f1, f2, f3⟩ := fl_X3_12; exact ⟨C, T, N, f1, f2, f3, Or.inr ⟨by cases f1; rfl, rfl, by cases f1; rfl⟩⟩
theorem dd_X3_init_15 : decode m_X3_init.2.1 15 = .ok (.aload_n 0, 1) := by decide +kernel
theorem dd_X3_init_16 : decode m_X3_init.2.1 16 = .ok (.sipush 128, 3) := by decide +kernel
theorem dd_X3_init_19 : decode m_X3_init.2.1 19 = .ok (.newarray .int, 2) := by decide +kernel
theorem dd_X3_init_21 : decode m_X3_init.2.1 21 = .ok (.putfield 18, 3) := by decide +kernel
theorem pf_X3_18 : fz_pf RX3 "<init>" 18 3 3 := by obtain ⟨C, T, N, f1, f2, f3⟩ := fl_X3_18; exact ⟨C, T, N, f1, f2, f3, Or.inr ⟨by cases f1; rfl, rfl, by cases f1; rfl⟩⟩
theorem dd_X3_init_24 : decode m_X3_init.2.1 24 = .ok (.aload_n 0, 1) := by decide +kernel
theorem dd_X3_init_25 : decode m_X3_init.2.1 25 = .ok (.iconst 2, 1) := by decide +kernel
theorem dd_X3_init_26 : decode m_X3_init.2.1 26 = .ok (.newarray .int, 2) := by decide +kernel
theorem dd_X3_init_28 : decode m_X3_init.2.1 28 = .ok (.putfield 22, 3) := by decide +kernel
theorem pf_X3_22 : fz_pf RX3 "<init>" 22 3 4 := by obtain ⟨C, T, N, f1, f2, f3⟩ := fl_X3_22; exact ⟨C, T, N, f1, f2, f3, Or.inr ⟨by cases f1; rfl, rfl, by cases f1; rfl⟩⟩
theorem dd_X3_init_31 : decode m_X3_init.2.1 31 = .ok (.aload_n 0, 1) := by decide +kernel
theorem dd_X3_init_32 : decode m_X3_init.2.1 32 = .ok (.aload_n 1, 1) := by decide +kernel
theorem dd_X3_init_33 : decode m_X3_init.2.1 33 = .ok (.putfield 25, 3) := by decide +kernel
theorem pf_X3_25 : fz_pf RX3 "<init>" 25 3 0 := by obtain ⟨C, T, N, f1, f2, f3⟩ := fl_X3_25; exact ⟨C, T, N, f1, f2, f3, Or.inr ⟨by cases f1; rfl, rfl, by cases f1; rfl⟩⟩
theorem dd_X3_init_36 : decode m_X3_init.2.1 36 = .ok (.aload_n 0, 1) := by decide +kernel
theorem dd_X3_init_37 : decode m_X3_init.2.1 37 = .ok (.aload_n 2, 1) := by decide +kernel
theorem dd_X3_init_38 : decode m_X3_init.2.1 38 = .ok (.putfield 29, 3) := by decide +kernel
theorem pf_X3_29 : fz_pf RX3 "<init>" 29 3 1 := by obtain ⟨C, T, N, f1, f2, f3⟩ := fl_X3_29; exact ⟨C, T, N, f1, f2, f3, Or.inr ⟨by cases f1; rfl, rfl, by cases f1; rfl⟩⟩
theorem dd_X3_init_41 : decode m_X3_init.2.1 41 = .ok (.return_, 1) := by decide +kernel
theorem dd_X4_init_0 : decode m_X4_init.2.1 0 = .ok (.aload_n 0, 1) := by decide +kernel
theorem dd_X4_init_1 : decode m_X4_init.2.1 1 = .ok (.invokespecial 3, 3) := by decide +kernel
theorem dd_X4_init_4 : decode m_X4_init.2.1 4 = .ok (.aload_n 0, 1) := by decide +kernel
theorem dd_X4_init_5 : decode m_X4_init.2.1 5 = .ok (.bipush 20, 2) := by decide +kernel
theorem dd_X4_init_7 : decode m_X4_init.2.1 7 = .ok (.anewarray 9, 3) := by decide +kernel
theorem dd_X4_init_10 : decode m_X4_init.2.1 10 = .ok (.putfield 11, 3) := by decide +kernel
theorem pf_X4_11 : fz_pf RX4 "<init>" 11 4 0 := by obtain ⟨C, T, N, f1, f2, f3⟩ := fl_X4_11; exact ⟨C, T, N, f1, f2, f3, Or.inr ⟨by cases f1; rfl, rfl, by cases f1; rfl⟩⟩
theorem dd_X4_init_13 : decode m_X4_init.2.1 13 = .ok (.aload_n 0, 1) := by decide +kernel
theorem dd_X4_init_14 : decode m_X4_init.2.1 14 = .ok (.sipush 1000, 3) := by decide +kernel
theorem dd_X4_init_17 : decode m_X4_init.2.1 17 = .ok (.newarray .int, 2) := by decide +kernel
theorem dd_X4_init_19 : decode m_X4_init.2.1 19 = .ok (.putfield 17, 3) := by decide +kernel
theorem pf_X4_17 : fz_pf RX4 "<init>" 17 4 1 := by obtain ⟨C, T, N, f1, f2, f3⟩ := fl_X4_17; exact ⟨C, T, N, f1, f2, f3, Or.inr ⟨by cases f1; rfl, rfl, by cases f1; rfl⟩⟩
theorem dd_X4_init_22 : decode m_X4_init.2.1 22 = .ok (.aload_n 0, 1) := by decide +kernel
theorem dd_X4_init_23 : decode m_X4_init.2.1 23 = .ok (.sipush 1000, 3) := by decide +kernel
theorem dd_X4_init_26 : decode m_X4_init.2.1 26 = .ok (.newarray .int, 2) := by decide +kernel
theorem dd_X4_init_28 : decode m_X4_init.2.1 28 = .ok (.putfield 21, 3) := by decide +kernel
theorem pf_X4_21 : fz_pf RX4 "<init>" 21 4 2 := by obtain ⟨C, T, N, f1, f2, f3⟩ := fl_X4_21; exact ⟨C, T, N, f1, f2, f3, Or.inr ⟨by cases f1; rfl, rfl, by cases f1; rfl⟩⟩
theorem dd_X4_init_31 : decode m_X4_init.2.1 31 = .ok (.aload_n 0, 1) := by decide +kernel
theorem dd_X4_init_32 : decode m_X4_init.2.1 32 = .ok (.sipush 1000, 3) := by decide +kernel
theorem dd_X4_init_35 : decode m_X4_init.2.1 35 = .ok (.newarray .int, 2) := by decide +kernel
theorem dd_X4_init_37 : decode m_X4_init.2.1 37 = .ok (.putfield 24, 3) := by decide +kernel
theorem pf_X4_24 : fz_pf RX4 "<init>" 24 4 3 := by obtain ⟨C, T, N, f1, f2, f3⟩ := fl_X4_24; exact ⟨C, T, N, f1, f2, f3, Or.inr ⟨by cases f1; rfl, rfl, by cases f1; rfl⟩⟩
theorem dd_X4_init_40 : decode m_X4_init.2.1 40 = .ok (.iconst 0, 1) := by decide +kernel
theorem dd_X4_init_41 : decode m_X4_init.2.1 41 = .ok (.istore_n 1, 1) := by decide +kernel
theorem dd_X4_init_42 : decode m_X4_init.2.1 42 = .ok (.iload_n 1, 1) := by decide +kernel
theorem dd_X4_init_43 : decode m_X4_init.2.1 43 = .ok (.bipush 20, 2) := by decide +kernel
theorem dd_X4_init_45 : decode m_X4_init.2.1 45 = .ok (.if_icmp .ge 22, 3) := by decide +kernel
theorem dd_X4_init_48 : decode m_X4_init.2.1 48 = .ok (.aload_n 0, 1) := by decide +kernel
theorem dd_X4_init_49 : decode m_X4_init.2.1 49 = .ok (.getfield 11, 3) := by decide +kernel
theorem dd_X4_init_52 : decode m_X4_init.2.1 52 = .ok (.iload_n 1, 1) := by decide +kernel
theorem dd_X4_init_53 : decode m_X4_init.2.1 53 = .ok (.new 9, 3) := by decide +kernel
theorem dd_X4_init_56 : decode m_X4_init.2.1 56 = .ok (.dup, 1) := by decide +kernel
theorem dd_X4_init_57 : decode m_X4_init.2.1 57 = .ok (.invokespecial 27, 3) := by decide +kernel
theorem dd_X4_init_60 : decode m_X4_init.2.1 60 = .ok (.aastore, 1) := by decide +kernel
theorem dd_X4_init_61 : decode m_X4_init.2.1 61 = .ok (.iinc 1 1, 3) := by decide +kernel
theorem dd_X4_init_64 : decode m_X4_init.2.1 64 = .ok (.goto (-22), 3) := by decide +kernel
theorem dd_X4_init_67 : decode m_X4_init.2.1 67 = .ok (.return_, 1) := by decide +kernel
theorem dd_X5_init_0 : decode m_X5_init.2.1 0 = .ok (.aload_n 0, 1) := by decide +kernel
theorem dd_X5_init_1 : decode m_X5_init.2.1 1 = .ok (.invokespecial 3, 3) := by decide +kernel
theorem dd_X5_init_4 : decode m_X5_init.2.1 4 = .ok (.aload_n 0, 1) := by decide +kernel
theorem dd_X5_init_5 : decode m_X5_init.2.1 5 = .ok (.sipush 1632, 3) := by decide +kernel
theorem dd_X5_init_8 : decode m_X5_init.2.1 8 = .ok (.newarray .int, 2) := by decide +kernel
theorem dd_X5_init_10 : decode m_X5_init.2.1 10 = .ok (.putfield 9, 3) := by decide +kernel
theorem pf_X5_9 : fz_pf RX5 "<init>" 9 5 0 := by obtain ⟨C, T, N, f1, f2, f3⟩ := fl_X5_9; exact ⟨C, T, N, f1, f2, f3, Or.inr ⟨by cases f1; rfl, rfl, by cases f1; rfl⟩⟩
theorem dd_X5_init_13 : decode m_X5_init.2.1 13 = .ok (.return_, 1) := by decide +kernel
theorem dd_X6_init_0 : decode m_X6_init.2.1 0 = .ok (.aload_n 0, 1) := by decide +kernel
theorem dd_X6_init_1 : decode m_X6_init.2.1 1 = .ok (.invokespecial 3, 3) := by decide +kernel
theorem dd_X6_init_4 : decode m_X6_init.2.1 4 = .ok (.aload_n 0, 1) := by decide +kernel
theorem dd_X6_init_5 : decode m_X6_init.2.1 5 = .ok (.new 9, 3) := by decide +kernel
theorem dd_X6_init_8 : decode m_X6_init.2.1 8 = .ok (.dup, 1) := by decide +kernel
theorem dd_X6_init_9 : decode m_X6_init.2.1 9 = .ok (.invokespecial 11, 3) := by decide +kernel
theorem dd_X6_init_12 : decode m_X6_init.2.1 12 = .ok (.putfield 12, 3) := by decide +kernel
theorem pf_X6_12 : fz_pf RX6 "<init>" 12 6 1 := by obtain ⟨C, T, N, f1, f2, f3⟩ := fl_X6_12; exact ⟨C, T, N, f1, f2, f3, Or.inr ⟨by cases f1; rfl, rfl, by cases f1; rfl⟩⟩
theorem dd_X6_init_15 : decode m_X6_init.2.1 15 = .ok (.aload_n 0, 1) := by decide +kernel
theorem dd_X6_init_16 : decode m_X6_init.2.1 16 = .ok (.bipush 64, 2) := by decide +kernel
theorem dd_X6_init_18 : decode m_X6_init.2.1 18 = .ok (.newarray .int, 2) := by decide +kernel
theorem dd_X6_init_20 : decode m_X6_init.2.1 20 = .ok (.putfield 18, 3) := by decide +kernel
theorem pf_X6_18 : fz_pf RX6 "<init>" 18 6 2 := by obtain ⟨C, T, N, f1, f2, f3⟩ := fl_X6_18; exact ⟨C, T, N, f1, f2, f3, Or.inr ⟨by cases f1; rfl, rfl, by cases f1; rfl⟩⟩
theorem dd_X6_init_23 : decode m_X6_init.2.1 23 = .ok (.aload_n 0, 1) := by decide +kernel
theorem dd_X6_init_24 : decode m_X6_init.2.1 24 = .ok (.sipush 620, 3) := by decide +kernel
theorem dd_X6_init_27 : decode m_X6_init.2.1 27 = .ok (.newarray .int, 2) := by decide +kernel
theorem dd_X6_init_29 : decode m_X6_init.2.1 29 = .ok (.putfield 22, 3) := by decide +kernel
theorem pf_X6_22 : fz_pf RX6 "<init>" 22 6 3 := by obtain ⟨C, T, N, f1, f2, f3⟩ := fl_X6_22; exact ⟨C, T, N, f1, f2, f3, Or.inr ⟨by cases f1; rfl, rfl, by cases f1; rfl⟩⟩
theorem dd_X6_init_32 : decode m_X6_init.2.1 32 = .ok (.aload_n 0, 1) := by decide +kernel
theorem dd_X6_init_33 : decode m_X6_init.2.1 33 = .ok (.iconst 3, 1) := by decide +kernel
theorem dd_X6_init_34 : decode m_X6_init.2.1 34 = .ok (.newarray .int, 2) := by decide +kernel
theorem dd_X6_init_36 : decode m_X6_init.2.1 36 = .ok (.putfield 25, 3) := by decide +kernel
theorem pf_X6_25 : fz_pf RX6 "<init>" 25 6 4 := by obtain ⟨C, T, N, f1, f2, f3⟩ := fl_X6_25; exact ⟨C, T, N, f1, f2, f3, Or.inr ⟨by cases f1; rfl, rfl, by cases f1; rfl⟩⟩
theorem dd_X6_init_39 : decode m_X6_init.2.1 39 = .ok (.aload_n 0, 1) := by decide +kernel
theorem dd_X6_init_40 : decode m_X6_init.2.1 40 = .ok (.aload_n 1, 1) := by decide +kernel
theorem dd_X6_init_41 : decode m_X6_init.2.1 41 = .ok (.putfield 28, 3) := by decide +kernel
theorem pf_X6_28 : fz_pf RX6 "<init>" 28 6 0 := by obtain ⟨C, T, N, f1, f2, f3⟩ := fl_X6_28; exact ⟨C, T, N, f1, f2, f3, Or.inr ⟨by cases f1; rfl, rfl, by cases f1; rfl⟩⟩
theorem dd_X6_init_44 : decode m_X6_init.2.1 44 = .ok (.return_, 1) := by decide +kernel
theorem dd_X7_init_0 : decode m_X7_init.2.1 0 = .ok (.aload_n 0, 1) := by decide +kernel
theorem dd_X7_init_1 : decode m_X7_init.2.1 1 = .ok (.invokespecial 3, 3) := by decide +kernel
theorem dd_X7_init_4 : decode m_X7_init.2.1 4 = .ok (.aload_n 0, 1) := by decide +kernel
theorem dd_X7_init_5 : decode m_X7_init.2.1 5 = .ok (.bipush 15, 2) := by decide +kernel
theorem dd_X7_init_7 : decode m_X7_init.2.1 7 = .ok (.newarray .int, 2) := by decide +kernel
theorem dd_X7_init_9 : decode m_X7_init.2.1 9 = .ok (.putfield 9, 3) := by decide +kernel
theorem pf_X7_9 : fz_pf RX7 "<init>" 9 7 0 := by obtain ⟨C, T, N, f1, f2, f3⟩ := fl_X7_9; exact ⟨C, T, N, f1, f2, f3, Or.inr ⟨by cases f1; rfl, rfl, by cases f1; rfl⟩⟩
theorem dd_X7_init_12 : decode m_X7_init.2.1 12 = .ok (.aload_n 0, 1) := by decide +kernel
theorem dd_X7_init_13 : decode m_X7_init.2.1 13 = .ok (.bipush 64, 2) := by decide +kernel
theorem dd_X7_init_15 : decode m_X7_init.2.1 15 = .ok (.newarray .int, 2) := by decide +kernel
theorem dd_X7_init_17 : decode m_X7_init.2.1 17 = .ok (.putfield 15, 3) := by decide +kernel
theorem pf_X7_15 : fz_pf RX7 "<init>" 15 7 1 := by obtain ⟨C, T, N, f1, f2, f3⟩ := fl_X7_15; exact ⟨C, T, N, f1, f2, f3, Or.inr ⟨by cases f1; rfl, rfl, by cases f1; rfl⟩⟩
theorem dd_X7_init_20 : decode m_X7_init.2.1 20 = .ok (.return_, 1) := by decide +kernel
theorem dd_X8_init_0 : decode m_X8_init.2.1 0 = .ok (.aload_n 0, 1) := by decide +kernel
theorem dd_X8_init_1 : decode m_X8_init.2.1 1 = .ok (.invokespecial 3, 3) := by decide +kernel
theorem dd_X8_init_4 : decode m_X8_init.2.1 4 = .ok (.aload_n 0, 1) := by decide +kernel
theorem dd_X8_init_5 : decode m_X8_init.2.1 5 = .ok (.aload_n 1, 1) := by decide +kernel
theorem dd_X8_init_6 : decode m_X8_init.2.1 6 = .ok (.putfield 9, 3) := by decide +kernel
theorem pf_X8_9 : fz_pf RX8 "<init>" 9 8 0 := by obtain ⟨C, T, N, f1, f2, f3⟩ := fl_X8_9; exact ⟨C, T, N, f1, f2, f3, Or.inr ⟨by cases f1; rfl, rfl, by cases f1; rfl⟩⟩
theorem dd_X8_init_9 : decode m_X8_init.2.1 9 = .ok (.return_, 1) := by decide +kernel
theorem dd_X9_init_0 : decode m_X9_init.2.1 0 = .ok (.aload_n 0, 1) := by decide +kernel
theorem dd_X9_init_1 : decode m_X9_init.2.1 1 = .ok (.invokespecial 3, 3) := by decide +kernel
theorem dd_X9_init_4 : decode m_X9_init.2.1 4 = .ok (.aload_n 0, 1) := by decide +kernel
theorem dd_X9_init_5 : decode m_X9_init.2.1 5 = .ok (.bipush 60, 2) := by decide +kernel
theorem dd_X9_init_7 : decode m_X9_init.2.1 7 = .ok (.newarray .int, 2) := by decide +kernel
theorem dd_X9_init_9 : decode m_X9_init.2.1 9 = .ok (.putfield 9, 3) := by decide +kernel
theorem pf_X9_9 : fz_pf RX9 "<init>" 9 9 0 := by obtain ⟨C, T, N, f1, f2, f3⟩ := fl_X9_9; exact ⟨C, T, N, f1, f2, f3, Or.inr ⟨by cases f1; rfl, rfl, by cases f1; rfl⟩⟩
theorem dd_X9_init_12 : decode m_X9_init.2.1 12 = .ok (.aload_n 0, 1) := by decide +kernel
theorem dd_X9_init_13 : decode m_X9_init.2.1 13 = .ok (.iconst 2, 1) := by decide +kernel
theorem dd_X9_init_14 : decode m_X9_init.2.1 14 = .ok (.newarray .int, 2) := by decide +kernel
theorem dd_X9_init_16 : decode m_X9_init.2.1 16 = .ok (.putfield 15, 3) := by decide +kernel
theorem pf_X9_15 : fz_pf RX9 "<init>" 15 9 1 := by obtain ⟨C, T, N, f1, f2, f3⟩ := fl_X9_15; exact ⟨C, T, N, f1, f2, f3, Or.inr ⟨by cases f1; rfl, rfl, by cases f1; rfl⟩⟩
theorem dd_X9_init_19 : decode m_X9_init.2.1 19 = .ok (.aload_n 0, 1) := by decide +kernel
theorem dd_X9_init_20 : decode m_X9_init.2.1 20 = .ok (.iconst 2, 1) := by decide +kernel
theorem dd_X9_init_21 : decode m_X9_init.2.1 21 = .ok (.newarray .int, 2) := by decide +kernel
theorem dd_X9_init_23 : decode m_X9_init.2.1 23 = .ok (.putfield 18, 3) := by decide +kernel
theorem pf_X9_18 : fz_pf RX9 "<init>" 18 9 2 := by obtain ⟨C, T, N, f1, f2, f3⟩ := fl_X9_18; exact ⟨C, T, N, f1, f2, f3, Or.inr ⟨by cases f1; rfl, rfl, by cases f1; rfl⟩⟩
theorem dd_X9_init_26 : decode m_X9_init.2.1 26 = .ok (.aload_n 0, 1) := by decide +kernel
theorem dd_X9_init_27 : decode m_X9_init.2.1 27 = .ok (.bipush 8, 2) := by decide +kernel
theorem dd_X9_init_29 : decode m_X9_init.2.1 29 = .ok (.newarray .int, 2) := by decide +kernel
theorem dd_X9_init_31 : decode m_X9_init.2.1 31 = .ok (.putfield 21, 3) := by decide +kernel
theorem pf_X9_21 : fz_pf RX9 "<init>" 21 9 3 := by obtain ⟨C, T, N, f1, f2, f3⟩ := fl_X9_21; exact ⟨C, T, N, f1, f2, f3, Or.inr ⟨by cases f1; rfl, rfl, by cases f1; rfl⟩⟩
theorem dd_X9_init_34 : decode m_X9_init.2.1 34 = .ok (.aload_n 0, 1) := by decide +kernel
theorem dd_X9_init_35 : decode m_X9_init.2.1 35 = .ok (.bipush 8, 2) := by decide +kernel
theorem dd_X9_init_37 : decode m_X9_init.2.1 37 = .ok (.newarray .int, 2) := by decide +kernel
theorem dd_X9_init_39 : decode m_X9_init.2.1 39 = .ok (.putfield 24, 3) := by decide +kernel
theorem pf_X9_24 : fz_pf RX9 "<init>" 24 9 4 := by obtain ⟨C, T, N, f1, f2, f3⟩ := fl_X9_24; exact ⟨C, T, N, f1, f2, f3, Or.inr ⟨by cases f1; rfl, rfl, by cases f1; rfl⟩⟩
theorem dd_X9_init_42 : decode m_X9_init.2.1 42 = .ok (.aload_n 0, 1) := by decide +kernel
theorem dd_X9_init_43 : decode m_X9_init.2.1 43 = .ok (.bipush 8, 2) := by decide +kernel
theorem dd_X9_init_45 : decode m_X9_init.2.1 45 = .ok (.newarray .int, 2) := by decide +kernel
theorem dd_X9_init_47 : decode m_X9_init.2.1 47 = .ok (.putfield 27, 3) := by decide +kernel
theorem pf_X9_27 : fz_pf RX9 "<init>" 27 9 5 := by obtain ⟨C, T, N, f1, f2, f3⟩ := fl_X9_27; exact ⟨C, T, N, f1, f2, f3, Or.inr ⟨by cases f1; rfl, rfl, by cases f1; rfl⟩⟩
theorem dd_X9_init_50 : decode m_X9_init.2.1 50 = .ok (.aload_n 0, 1) := by decide +kernel
theorem dd_X9_init_51 : decode m_X9_init.2.1 51 = .ok (.bipush 8, 2) := by decide +kernel
theorem dd_X9_init_53 : decode m_X9_init.2.1 53 = .ok (.newarray .int, 2) := by decide +kernel
theorem dd_X9_init_55 : decode m_X9_init.2.1 55 = .ok (.putfield 30, 3) := by decide +kernel
theorem pf_X9_30 : fz_pf RX9 "<init>" 30 9 6 := by obtain ⟨C, T, N, f1, f2, f3⟩ := fl_X9_30; exact ⟨C, T, N, f1, f2, f3, Or.inr ⟨by cases f1; rfl, rfl, by cases f1; rfl⟩⟩
theorem dd_X9_init_58 : decode m_X9_init.2.1 58 = .ok (.aload_n 0, 1) := by decide +kernel
theorem dd_X9_init_59 : decode m_X9_init.2.1 59 = .ok (.sipush 1632, 3) := by decide +kernel
theorem dd_X9_init_62 : decode m_X9_init.2.1 62 = .ok (.newarray .int, 2) := by decide +kernel
theorem dd_X9_init_64 : decode m_X9_init.2.1 64 = .ok (.putfield 33, 3) := by decide +kernel
theorem pf_X9_33 : fz_pf RX9 "<init>" 33 9 7 := by obtain ⟨C, T, N, f1, f2, f3⟩ := fl_X9_33; exact ⟨C, T, N, f1, f2, f3, Or.inr ⟨by cases f1; rfl, rfl, by cases f1; rfl⟩⟩
theorem dd_X9_init_67 : decode m_X9_init.2.1 67 = .ok (.aload_n 0, 1) := by decide +kernel
theorem dd_X9_init_68 : decode m_X9_init.2.1 68 = .ok (.iconst 5, 1) := by decide +kernel
theorem dd_X9_init_69 : decode m_X9_init.2.1 69 = .ok (.newarray .int, 2) := by decide +kernel
theorem dd_X9_init_71 : decode m_X9_init.2.1 71 = .ok (.putfield 36, 3) := by decide +kernel
theorem pf_X9_36 : fz_pf RX9 "<init>" 36 9 8 := by obtain ⟨C, T, N, f1, f2, f3⟩ := fl_X9_36; exact ⟨C, T, N, f1, f2, f3, Or.inr ⟨by cases f1; rfl, rfl, by cases f1; rfl⟩⟩
theorem dd_X9_init_74 : decode m_X9_init.2.1 74 = .ok (.aload_n 0, 1) := by decide +kernel
theorem dd_X9_init_75 : decode m_X9_init.2.1 75 = .ok (.iconst 5, 1) := by decide +kernel
theorem dd_X9_init_76 : decode m_X9_init.2.1 76 = .ok (.newarray .int, 2) := by decide +kernel
theorem dd_X9_init_78 : decode m_X9_init.2.1 78 = .ok (.putfield 39, 3) := by decide +kernel
theorem pf_X9_39 : fz_pf RX9 "<init>" 39 9 9 := by obtain ⟨C, T, N, f1, f2, f3⟩ := fl_X9_39; exact ⟨C, T, N, f1, f2, f3, Or.inr ⟨by cases f1; rfl, rfl, by cases f1; rfl⟩⟩
theorem dd_X9_init_81 : decode m_X9_init.2.1 81 = .ok (.return_, 1) := by decide +kernel
theorem dd_X10_init_0 : decode m_X10_init.2.1 0 = .ok (.aload_n 0, 1) := by decide +kernel
theorem dd_X10_init_1 : decode m_X10_init.2.1 1 = .ok (.invokespecial 3, 3) := by decide +kernel
theorem dd_X10_init_4 : decode m_X10_init.2.1 4 = .ok (.aload_n 0, 1) := by decide +kernel
theorem dd_X10_init_5 : decode m_X10_init.2.1 5 = .ok (.iconst 2, 1) := by decide +kernel
theorem dd_X10_init_6 : decode m_X10_init.2.1 6 = .ok (.newarray .int, 2) := by decide +kernel
theorem dd_X10_init_8 : decode m_X10_init.2.1 8 = .ok (.putfield 9, 3) := by decide +kernel
theorem pf_X10_9 : fz_pf RX10 "<init>" 9 10 0 := by obtain ⟨C, T, N, f1, f2, f3⟩ := fl_X10_9; exact ⟨C, T, N, f1, f2, f3, Or.inr ⟨by cases f1; rfl, rfl, by cases f1; rfl⟩⟩
theorem dd_X10_init_11 : decode m_X10_init.2.1 11 = .ok (.aload_n 0, 1) := by decide +kernel
theorem dd_X10_init_12 : decode m_X10_init.2.1 12 = .ok (.iconst 2, 1) := by decide +kernel
theorem dd_X10_init_13 : decode m_X10_init.2.1 13 = .ok (.newarray .int, 2) := by decide +kernel
theorem dd_X10_init_15 : decode m_X10_init.2.1 15 = .ok (.putfield 15, 3) := by decide +kernel
theorem pf_X10_15 : fz_pf RX10 "<init>" 15 10 1 := by obtain ⟨C, T, N, f1, f2, f3⟩ := fl_X10_15; exact ⟨C, T, N, f1, f2, f3, Or.inr ⟨by cases f1; rfl, rfl, by cases f1; rfl⟩⟩
theorem dd_X10_init_18 : decode m_X10_init.2.1 18 = .ok (.aload_n 0, 1) := by decide +kernel
theorem dd_X10_init_19 : decode m_X10_init.2.1 19 = .ok (.bipush 8, 2) := by decide +kernel
theorem dd_X10_init_21 : decode m_X10_init.2.1 21 = .ok (.newarray .int, 2) := by decide +kernel
theorem dd_X10_init_23 : decode m_X10_init.2.1 23 = .ok (.putfield 18, 3) := by decide +kernel
theorem pf_X10_18 : fz_pf RX10 "<init>" 18 10 2 := by obtain ⟨C, T, N, f1, f2, f3⟩ := fl_X10_18; exact ⟨C, T, N, f1, f2, f3, Or.inr ⟨by cases f1; rfl, rfl, by cases f1; rfl⟩⟩
theorem dd_X10_init_26 : decode m_X10_init.2.1 26 = .ok (.aload_n 0, 1) := by decide +kernel
theorem dd_X10_init_27 : decode m_X10_init.2.1 27 = .ok (.bipush 8, 2) := by decide +kernel
theorem dd_X10_init_29 : decode m_X10_init.2.1 29 = .ok (.newarray .int, 2) := by decide +kernel
theorem dd_X10_init_31 : decode m_X10_init.2.1 31 = .ok (.putfield 21, 3) := by decide +kernel
theorem pf_X10_21 : fz_pf RX10 "<init>" 21 10 3 := by obtain ⟨C, T, N, f1, f2, f3⟩ := fl_X10_21; exact ⟨C, T, N, f1, f2, f3, Or.inr ⟨by cases f1; rfl, rfl, by cases f1; rfl⟩⟩
theorem dd_X10_init_34 : decode m_X10_init.2.1 34 = .ok (.aload_n 0, 1) := by decide +kernel
theorem dd_X10_init_35 : decode m_X10_init.2.1 35 = .ok (.bipush 8, 2) := by decide +kernel
theorem dd_X10_init_37 : decode m_X10_init.2.1 37 = .ok (.newarray .int, 2) := by decide +kernel
theorem dd_X10_init_39 : decode m_X10_init.2.1 39 = .ok (.putfield 24, 3) := by decide +kernel
theorem pf_X10_24 : fz_pf RX10 "<init>" 24 10 4 := by obtain ⟨C, T, N, f1, f2, f3⟩ := fl_X10_24; exact ⟨C, T, N, f1, f2, f3, Or.inr ⟨by cases f1; rfl, rfl, by cases f1; rfl⟩⟩
theorem dd_X10_init_42 : decode m_X10_init.2.1 42 = .ok (.return_, 1) := by decide +kernel
theorem dd_X11_init_0 : decode m_X11_init.2.1 0 = .ok (.aload_n 0, 1) := by decide +kernel
theorem dd_X11_init_1 : decode m_X11_init.2.1 1 = .ok (.invokespecial 3, 3) := by decide +kernel
theorem dd_X11_init_4 : decode m_X11_init.2.1 4 = .ok (.aload_n 0, 1) := by decide +kernel
theorem dd_X11_init_5 : decode m_X11_init.2.1 5 = .ok (.sipush 1600, 3) := by decide +kernel
theorem dd_X11_init_8 : decode m_X11_init.2.1 8 = .ok (.newarray .int, 2) := by decide +kernel
theorem dd_X11_init_10 : decode m_X11_init.2.1 10 = .ok (.putfield 9, 3) := by decide +kernel
theorem pf_X11_9 : fz_pf RX11 "<init>" 9 11 0 := by obtain ⟨C, T, N, f1, f2, f3⟩ := fl_X11_9; exact ⟨C, T, N, f1, f2, f3, Or.inr ⟨by cases f1; rfl, rfl, by cases f1; rfl⟩⟩
theorem dd_X11_init_13 : decode m_X11_init.2.1 13 = .ok (.aload_n 0, 1) := by decide +kernel
theorem dd_X11_init_14 : decode m_X11_init.2.1 14 = .ok (.new 13, 3) := by decide +kernel
theorem dd_X11_init_17 : decode m_X11_init.2.1 17 = .ok (.dup, 1) := by decide +kernel
theorem dd_X11_init_18 : decode m_X11_init.2.1 18 = .ok (.aload_n 0, 1) := by decide +kernel
theorem dd_X11_init_19 : decode m_X11_init.2.1 19 = .ok (.getfield 9, 3) := by decide +kernel
theorem dd_X11_init_22 : decode m_X11_init.2.1 22 = .ok (.invokespecial 15, 3) := by decide +kernel
theorem dd_X11_init_25 : decode m_X11_init.2.1 25 = .ok (.putfield 18, 3) := by decide +kernel
theorem pf_X11_18 : fz_pf RX11 "<init>" 18 11 2 := by obtain ⟨C, T, N, f1, f2, f3⟩ := fl_X11_18; exact ⟨C, T, N, f1, f2, f3, Or.inr ⟨by cases f1; rfl, rfl, by cases f1; rfl⟩⟩
theorem dd_X11_init_28 : decode m_X11_init.2.1 28 = .ok (.aload_n 0, 1) := by decide +kernel
theorem dd_X11_init_29 : decode m_X11_init.2.1 29 = .ok (.new 22, 3) := by decide +kernel
theorem dd_X11_init_32 : decode m_X11_init.2.1 32 = .ok (.dup, 1) := by decide +kernel
theorem dd_X11_init_33 : decode m_X11_init.2.1 33 = .ok (.aload_n 0, 1) := by decide +kernel
theorem dd_X11_init_34 : decode m_X11_init.2.1 34 = .ok (.getfield 18, 3) := by decide +kernel
theorem dd_X11_init_37 : decode m_X11_init.2.1 37 = .ok (.invokespecial 24, 3) := by decide +kernel
theorem dd_X11_init_40 : decode m_X11_init.2.1 40 = .ok (.putfield 27, 3) := by decide +kernel
theorem pf_X11_27 : fz_pf RX11 "<init>" 27 11 3 := by obtain ⟨C, T, N, f1, f2, f3⟩ := fl_X11_27; exact ⟨C, T, N, f1, f2, f3, Or.inr ⟨by cases f1; rfl, rfl, by cases f1; rfl⟩⟩
theorem dd_X11_init_43 : decode m_X11_init.2.1 43 = .ok (.aload_n 0, 1) := by decide +kernel
theorem dd_X11_init_44 : decode m_X11_init.2.1 44 = .ok (.new 31, 3) := by decide +kernel
theorem dd_X11_init_47 : decode m_X11_init.2.1 47 = .ok (.dup, 1) := by decide +kernel
theorem dd_X11_init_48 : decode m_X11_init.2.1 48 = .ok (.invokespecial 33, 3) := by decide +kernel
theorem dd_X11_init_51 : decode m_X11_init.2.1 51 = .ok (.putfield 34, 3) := by decide +kernel
theorem pf_X11_34 : fz_pf RX11 "<init>" 34 11 4 := by obtain ⟨C, T, N, f1, f2, f3⟩ := fl_X11_34; exact ⟨C, T, N, f1, f2, f3, Or.inr ⟨by cases f1; rfl, rfl, by cases f1; rfl⟩⟩
theorem dd_X11_init_54 : decode m_X11_init.2.1 54 = .ok (.aload_n 0, 1) := by decide +kernel
theorem dd_X11_init_55 : decode m_X11_init.2.1 55 = .ok (.new 31, 3) := by decide +kernel
theorem dd_X11_init_58 : decode m_X11_init.2.1 58 = .ok (.dup, 1) := by decide +kernel
theorem dd_X11_init_59 : decode m_X11_init.2.1 59 = .ok (.invokespecial 33, 3) := by decide +kernel
theorem dd_X11_init_62 : decode m_X11_init.2.1 62 = .ok (.putfield 38, 3) := by decide +kernel
theorem pf_X11_38 : fz_pf RX11 "<init>" 38 11 5 := by obtain ⟨C, T, N, f1, f2, f3⟩ := fl_X11_38; exact ⟨C, T, N, f1, f2, f3, Or.inr ⟨by cases f1; rfl, rfl, by cases f1; rfl⟩⟩
theorem dd_X11_init_65 : decode m_X11_init.2.1 65 = .ok (.aload_n 0, 1) := by decide +kernel
theorem dd_X11_init_66 : decode m_X11_init.2.1 66 = .ok (.new 41, 3) := by decide +kernel
theorem dd_X11_init_69 : decode m_X11_init.2.1 69 = .ok (.dup, 1) := by decide +kernel
theorem dd_X11_init_70 : decode m_X11_init.2.1 70 = .ok (.invokespecial 43, 3) := by decide +kernel
theorem dd_X11_init_73 : decode m_X11_init.2.1 73 = .ok (.putfield 44, 3) := by decide +kernel
theorem pf_X11_44 : fz_pf RX11 "<init>" 44 11 6 := by obtain ⟨C, T, N, f1, f2, f3⟩ := fl_X11_44; exact ⟨C, T, N, f1, f2, f3, Or.inr ⟨by cases f1; rfl, rfl, by cases f1; rfl⟩⟩
theorem dd_X11_init_76 : decode m_X11_init.2.1 76 = .ok (.aload_n 0, 1) := by decide +kernel
theorem dd_X11_init_77 : decode m_X11_init.2.1 77 = .ok (.new 48, 3) := by decide +kernel
theorem dd_X11_init_80 : decode m_X11_init.2.1 80 = .ok (.dup, 1) := by decide +kernel
theorem dd_X11_init_81 : decode m_X11_init.2.1 81 = .ok (.aload_n 0, 1) := by decide +kernel
theorem dd_X11_init_82 : decode m_X11_init.2.1 82 = .ok (.getfield 34, 3) := by decide +kernel
theorem dd_X11_init_85 : decode m_X11_init.2.1 85 = .ok (.new 50, 3) := by decide +kernel
theorem dd_X11_init_88 : decode m_X11_init.2.1 88 = .ok (.dup, 1) := by decide +kernel
theorem dd_X11_init_89 : decode m_X11_init.2.1 89 = .ok (.invokespecial 52, 3) := by decide +kernel
theorem dd_X11_init_92 : decode m_X11_init.2.1 92 = .ok (.invokespecial 53, 3) := by decide +kernel
theorem dd_X11_init_95 : decode m_X11_init.2.1 95 = .ok (.putfield 56, 3) := by decide +kernel
theorem pf_X11_56 : fz_pf RX11 "<init>" 56 11 7 := by obtain ⟨C, T, N, f1, f2, f3⟩ := fl_X11_56; exact ⟨C, T, N, f1, f2, f3, Or.inr ⟨by cases f1; rfl, rfl, by cases f1; rfl⟩⟩
theorem dd_X11_init_98 : decode m_X11_init.2.1 98 = .ok (.aload_n 0, 1) := by decide +kernel
theorem dd_X11_init_99 : decode m_X11_init.2.1 99 = .ok (.new 60, 3) := by decide +kernel
theorem dd_X11_init_102 : decode m_X11_init.2.1 102 = .ok (.dup, 1) := by decide +kernel
theorem dd_X11_init_103 : decode m_X11_init.2.1 103 = .ok (.invokespecial 62, 3) := by decide +kernel
theorem dd_X11_init_106 : decode m_X11_init.2.1 106 = .ok (.putfield 63, 3) := by decide +kernel
theorem pf_X11_63 : fz_pf RX11 "<init>" 63 11 8 := by obtain ⟨C, T, N, f1, f2, f3⟩ := fl_X11_63; exact ⟨C, T, N, f1, f2, f3, Or.inr ⟨by cases f1; rfl, rfl, by cases f1; rfl⟩⟩
theorem dd_X11_init_109 : decode m_X11_init.2.1 109 = .ok (.aload_n 0, 1) := by decide +kernel
theorem dd_X11_init_110 : decode m_X11_init.2.1 110 = .ok (.new 60, 3) := by decide +kernel
theorem dd_X11_init_113 : decode m_X11_init.2.1 113 = .ok (.dup, 1) := by decide +kernel
theorem dd_X11_init_114 : decode m_X11_init.2.1 114 = .ok (.invokespecial 62, 3) := by decide +kernel
theorem dd_X11_init_117 : decode m_X11_init.2.1 117 = .ok (.putfield 67, 3) := by decide +kernel
theorem pf_X11_67 : fz_pf RX11 "<init>" 67 11 9 := by obtain ⟨C, T, N, f1, f2, f3⟩ := fl_X11_67; exact ⟨C, T, N, f1, f2, f3, Or.inr ⟨by cases f1; rfl, rfl, by cases f1; rfl⟩⟩
theorem dd_X11_init_120 : decode m_X11_init.2.1 120 = .ok (.aload_n 0, 1) := by decide +kernel
theorem dd_X11_init_121 : decode m_X11_init.2.1 121 = .ok (.new 70, 3) := by decide +kernel
theorem dd_X11_init_124 : decode m_X11_init.2.1 124 = .ok (.dup, 1) := by decide +kernel
theorem dd_X11_init_125 : decode m_X11_init.2.1 125 = .ok (.invokespecial 72, 3) := by decide +kernel
theorem dd_X11_init_128 : decode m_X11_init.2.1 128 = .ok (.putfield 73, 3) := by decide +kernel
theorem pf_X11_73 : fz_pf RX11 "<init>" 73 11 10 := by obtain ⟨C, T, N, f1, f2, f3⟩ := fl_X11_73; exact ⟨C, T, N, f1, f2, f3, Or.inr ⟨by cases f1; rfl, rfl, by cases f1; rfl⟩⟩
theorem dd_X11_init_131 : decode m_X11_init.2.1 131 = .ok (.aload_n 0, 1) := by decide +kernel
theorem dd_X11_init_132 : decode m_X11_init.2.1 132 = .ok (.new 77, 3) := by decide +kernel
theorem dd_X11_init_135 : decode m_X11_init.2.1 135 = .ok (.dup, 1) := by decide +kernel
theorem dd_X11_init_136 : decode m_X11_init.2.1 136 = .ok (.aload_n 0, 1) := by decide +kernel
theorem dd_X11_init_137 : decode m_X11_init.2.1 137 = .ok (.getfield 34, 3) := by decide +kernel
theorem dd_X11_init_140 : decode m_X11_init.2.1 140 = .ok (.aload_n 0, 1) := by decide +kernel
theorem dd_X11_init_141 : decode m_X11_init.2.1 141 = .ok (.getfield 56, 3) := by decide +kernel
theorem dd_X11_init_144 : decode m_X11_init.2.1 144 = .ok (.invokespecial 79, 3) := by decide +kernel
theorem dd_X11_init_147 : decode m_X11_init.2.1 147 = .ok (.putfield 82, 3) := by decide +kernel
theorem pf_X11_82 : fz_pf RX11 "<init>" 82 11 11 := by obtain ⟨C, T, N, f1, f2, f3⟩ := fl_X11_82; exact ⟨C, T, N, f1, f2, f3, Or.inr ⟨by cases f1; rfl, rfl, by cases f1; rfl⟩⟩
theorem dd_X11_init_150 : decode m_X11_init.2.1 150 = .ok (.aload_n 0, 1) := by decide +kernel
theorem dd_X11_init_151 : decode m_X11_init.2.1 151 = .ok (.new 86, 3) := by decide +kernel
theorem dd_X11_init_154 : decode m_X11_init.2.1 154 = .ok (.dup, 1) := by decide +kernel
theorem dd_X11_init_155 : decode m_X11_init.2.1 155 = .ok (.aload_n 0, 1) := by decide +kernel
theorem dd_X11_init_156 : decode m_X11_init.2.1 156 = .ok (.getfield 34, 3) := by decide +kernel
theorem dd_X11_init_159 : decode m_X11_init.2.1 159 = .ok (.aload_n 0, 1) := by decide +kernel
theorem dd_X11_init_160 : decode m_X11_init.2.1 160 = .ok (.getfield 56, 3) := by decide +kernel
theorem dd_X11_init_163 : decode m_X11_init.2.1 163 = .ok (.invokespecial 88, 3) := by decide +kernel
theorem dd_X11_init_166 : decode m_X11_init.2.1 166 = .ok (.putfield 89, 3) := by decide +kernel
theorem pf_X11_89 : fz_pf RX11 "<init>" 89 11 12 := by obtain ⟨C, T, N, f1, f2, f3⟩ := fl_X11_89; exact ⟨C, T, N, f1, f2, f3, Or.inr ⟨by cases f1; rfl, rfl, by cases f1; rfl⟩⟩
theorem dd_X11_init_169 : decode m_X11_init.2.1 169 = .ok (.aload_n 0, 1) := by decide +kernel
theorem dd_X11_init_170 : decode m_X11_init.2.1 170 = .ok (.new 93, 3) := by decide +kernel
theorem dd_X11_init_173 : decode m_X11_init.2.1 173 = .ok (.dup, 1) := by decide +kernel
theorem dd_X11_init_174 : decode m_X11_init.2.1 174 = .ok (.aload_n 0, 1) := by decide +kernel
theorem dd_X11_init_175 : decode m_X11_init.2.1 175 = .ok (.getfield 56, 3) := by decide +kernel
theorem dd_X11_init_178 : decode m_X11_init.2.1 178 = .ok (.invokespecial 95, 3) := by decide +kernel
theorem dd_X11_init_181 : decode m_X11_init.2.1 181 = .ok (.putfield 98, 3) := by decide +kernel
theorem pf_X11_98 : fz_pf RX11 "<init>" 98 11 13 := by obtain ⟨C, T, N, f1, f2, f3⟩ := fl_X11_98; exact ⟨C, T, N, f1, f2, f3, Or.inr ⟨by cases f1; rfl, rfl, by cases f1; rfl⟩⟩
theorem dd_X11_init_184 : decode m_X11_init.2.1 184 = .ok (.aload_n 0, 1) := by decide +kernel
theorem dd_X11_init_185 : decode m_X11_init.2.1 185 = .ok (.bipush 33, 2) := by decide +kernel
theorem dd_X11_init_187 : decode m_X11_init.2.1 187 = .ok (.newarray .int, 2) := by decide +kernel
theorem dd_X11_init_189 : decode m_X11_init.2.1 189 = .ok (.putfield 102, 3) := by decide +kernel
theorem pf_X11_102 : fz_pf RX11 "<init>" 102 11 14 := by obtain ⟨C, T, N, f1, f2, f3⟩ := fl_X11_102; exact ⟨C, T, N, f1, f2, f3, Or.inr ⟨by cases f1; rfl, rfl, by cases f1; rfl⟩⟩
theorem dd_X11_init_192 : decode m_X11_init.2.1 192 = .ok (.aload_n 0, 1) := by decide +kernel
theorem dd_X11_init_193 : decode m_X11_init.2.1 193 = .ok (.bipush 6, 2) := by decide +kernel
theorem dd_X11_init_195 : decode m_X11_init.2.1 195 = .ok (.newarray .int, 2) := by decide +kernel
theorem dd_X11_init_197 : decode m_X11_init.2.1 197 = .ok (.putfield 105, 3) := by decide +kernel
theorem pf_X11_105 : fz_pf RX11 "<init>" 105 11 16 := by obtain ⟨C, T, N, f1, f2, f3⟩ := fl_X11_105; exact ⟨C, T, N, f1, f2, f3, Or.inr ⟨by cases f1; rfl, rfl, by cases f1; rfl⟩⟩
theorem dd_X11_init_200 : decode m_X11_init.2.1 200 = .ok (.aload_n 0, 1) := by decide +kernel
theorem dd_X11_init_201 : decode m_X11_init.2.1 201 = .ok (.iconst 1, 1) := by decide +kernel
theorem dd_X11_init_202 : decode m_X11_init.2.1 202 = .ok (.putfield 108, 3) := by decide +kernel
theorem pf_X11_108 : fz_pf RX11 "<init>" 108 11 17 := by obtain ⟨C, T, N, f1, f2, f3⟩ := fl_X11_108; exact ⟨C, T, N, f1, f2, f3, Or.inl (by cases f1; rfl)⟩
theorem dd_X11_init_205 : decode m_X11_init.2.1 205 = .ok (.aload_n 0, 1) := by decide +kernel
theorem dd_X11_init_206 : decode m_X11_init.2.1 206 = .ok (.iconst (-1), 1) := by decide +kernel
theorem dd_X11_init_207 : decode m_X11_init.2.1 207 = .ok (.putfield 112, 3) := by decide +kernel
theorem pf_X11_112 : fz_pf RX11 "<init>" 112 11 19 := by obtain ⟨C, T, N, f1, f2, f3⟩ := fl_X11_112; exact ⟨C, T, N, f1, f2, f3, Or.inl (by cases f1; rfl)⟩
theorem dd_X11_init_210 : decode m_X11_init.2.1 210 = .ok (.return_, 1) := by decide +kernel
theorem pf_X12_7 : fz_pf RX12 "<init>" 7 12 0 := by obtain ⟨C, T, N, f1, f2, f3⟩ := fl_X12_7; exact ⟨C, T, N, f1, f2, f3, Or.inr ⟨by cases f1; rfl, rfl, by cases f1; rfl⟩⟩
theorem pf_X12_13 : fz_pf RX12 "<init>" 13 12 8 := by obtain ⟨C, T, N, f1, f2, f3⟩ := fl_X12_13; exact ⟨C, T, N, f1, f2, f3, Or.inl (by cases f1; rfl)⟩
theorem pf_X12_17 : fz_pf RX12 "<init>" 17 12 9 := by obtain ⟨C, T, N, f1, f2, f3⟩ := fl_X12_17; exact ⟨C, T, N, f1, f2, f3, Or.inr ⟨by cases f1; rfl, rfl, by cases f1; rfl⟩⟩
theorem pf_X12_20 : fz_pf RX12 "<init>" 20 12 11 := by obtain ⟨C, T, N, f1, f2, f3⟩ := fl_X12_20; exact ⟨C, T, N, f1, f2, f3, Or.inr ⟨by cases f1; rfl, rfl, by cases f1; rfl⟩⟩
theorem pf_X12_24 : fz_pf RX12 "<init>" 24 12 12 := by obtain ⟨C, T, N, f1, f2, f3⟩ := fl_X12_24; exact ⟨C, T, N, f1, f2, f3, Or.inr ⟨by cases f1; rfl, rfl, by cases f1; rfl⟩⟩
theorem pf_X12_27 : fz_pf RX12 "<init>" 27 12 13 := by obtain ⟨C, T, N, f1, f2, f3⟩ := fl_X12_27; exact ⟨C, T, N, f1, f2, f3, Or.inr ⟨by cases f1; rfl, rfl, by cases f1; rfl⟩⟩
theorem pf_X12_30 : fz_pf RX12 "<init>" 30 12 14 := by obtain ⟨C, T, N, f1, f2, f3⟩ := fl_X12_30; exact ⟨C, T, N, f1, f2, f3, Or.inr ⟨by cases f1; rfl, rfl, by cases f1; rfl⟩⟩
theorem pf_X12_33 : fz_pf RX12 "<init>" 33 12 15 := by obtain ⟨C, T, N, f1, f2, f3⟩ := fl_X12_33; exact ⟨C, T, N, f1, f2, f3, Or.inr ⟨by cases f1; rfl, rfl, by cases f1; rfl⟩⟩
theorem pf_X12_36 : fz_pf RX12 "<init>" 36 12 16 := by obtain ⟨C, T, N, f1, f2, f3⟩ := fl_X12_36; exact ⟨C, T, N, f1, f2, f3, Or.inr ⟨by cases f1; rfl, rfl, by cases f1; rfl⟩⟩
theorem pf_X12_39 : fz_pf RX12 "<init>" 39 12 17 := by obtain ⟨C, T, N, f1, f2, f3⟩ := fl_X12_39; exact ⟨C, T, N, f1, f2, f3, Or.inr ⟨by cases f1; rfl, rfl, by cases f1; rfl⟩⟩
theorem pf_X12_42 : fz_pf RX12 "<init>" 42 12 18 := by obtain ⟨C, T, N, f1, f2, f3⟩ := fl_X12_42; exact ⟨C, T, N, f1, f2, f3, Or.inr ⟨by cases f1; rfl, rfl, by cases f1; rfl⟩⟩
theorem pf_X12_45 : fz_pf RX12 "<init>" 45 12 19 := by obtain ⟨C, T, N, f1, f2, f3⟩ := fl_X12_45; exact ⟨C, T, N, f1, f2, f3, Or.inr ⟨by cases f1; rfl, rfl, by cases f1; rfl⟩⟩
theorem pf_X12_48 : fz_pf RX12 "<init>" 48 12 20 := by obtain ⟨C, T, N, f1, f2, f3⟩ := fl_X12_48; exact ⟨C, T, N, f1, f2, f3, Or.inr ⟨by cases f1; rfl, rfl, by cases f1; rfl⟩⟩
theorem pf_X12_51 : fz_pf RX12 "<init>" 51 12 21 := by obtain ⟨C, T, N, f1, f2, f3⟩ := fl_X12_51; exact ⟨C, T, N, f1, f2, f3, Or.inr ⟨by cases f1; rfl, rfl, by cases f1; rfl⟩⟩
theorem pf_X12_54 : fz_pf RX12 "<init>" 54 12 22 := by obtain ⟨C, T, N, f1, f2, f3⟩ := fl_X12_54; exact ⟨C, T, N, f1, f2, f3, Or.inr ⟨by cases f1; rfl, rfl, by cases f1; rfl⟩⟩
theorem pf_X12_57 : fz_pf RX12 "<init>" 57 12 23 := by obtain ⟨C, T, N, f1, f2, f3⟩ := fl_X12_57; exact ⟨C, T, N, f1, f2, f3, Or.inr ⟨by cases f1; rfl, rfl, by cases f1; rfl⟩⟩
theorem pf_X12_60 : fz_pf RX12 "<init>" 60 12 24 := by obtain ⟨C, T, N, f1, f2, f3⟩ := fl_X12_60; exact ⟨C, T, N, f1, f2, f3, Or.inr ⟨by cases f1; rfl, rfl, by cases f1; rfl⟩⟩
theorem pf_X12_63 : fz_pf RX12 "<init>" 63 12 25 := by obtain ⟨C, T, N, f1, f2, f3⟩ := fl_X12_63; exact ⟨C, T, N, f1, f2, f3, Or.inr ⟨by cases f1; rfl, rfl, by cases f1; rfl⟩⟩
theorem pf_X12_66 : fz_pf RX12 "<init>" 66 12 26 := by obtain ⟨C, T, N, f1, f2, f3⟩ := fl_X12_66; exact ⟨C, T, N, f1, f2, f3, Or.inr ⟨by cases f1; rfl, rfl, by cases f1; rfl⟩⟩
theorem pf_X12_69 : fz_pf RX12 "<init>" 69 12 27 := by obtain ⟨C, T, N, f1, f2, f3⟩ := fl_X12_69; exact ⟨C, T, N, f1, f2, f3, Or.inr ⟨by cases f1; rfl, rfl, by cases f1; rfl⟩⟩
theorem pf_X12_72 : fz_pf RX12 "<init>" 72 12 28 := by obtain ⟨C, T, N, f1, f2, f3⟩ := fl_X12_72; exact ⟨C, T, N, f1, f2, f3, Or.inr ⟨by cases f1; rfl, rfl, by cases f1; rfl⟩⟩
theorem pf_X12_75 : fz_pf RX12 "<init>" 75 12 29 := by obtain ⟨C, T, N, f1, f2, f3⟩ := fl_X12_75; exact ⟨C, T, N, f1, f2, f3, Or.inr ⟨by cases f1; rfl, rfl, by cases f1; rfl⟩⟩
theorem pf_X12_78 : fz_pf RX12 "<init>" 78 12 30 := by obtain ⟨C, T, N, f1, f2, f3⟩ := fl_X12_78; exact ⟨C, T, N, f1, f2, f3, Or.inr ⟨by cases f1; rfl, rfl, by cases f1; rfl⟩⟩
theorem pf_X12_81 : fz_pf RX12 "<init>" 81 12 31 := by obtain ⟨C, T, N, f1, f2, f3⟩ := fl_X12_81; exact ⟨C, T, N, f1, f2, f3, Or.inr ⟨by cases f1; rfl, rfl, by cases f1; rfl⟩⟩
theorem pf_X12_84 : fz_pf RX12 "<init>" 84 12 32 := by obtain ⟨C, T, N, f1, f2, f3⟩ := fl_X12_84; exact ⟨C, T, N, f1, f2, f3, Or.inr ⟨by cases f1; rfl, rfl, by cases f1; rfl⟩⟩
theorem pf_X12_87 : fz_pf RX12 "<init>" 87 12 33 := by obtain ⟨C, T, N, f1, f2, f3⟩ := fl_X12_87; exact ⟨C, T, N, f1, f2, f3, Or.inr ⟨by cases f1; rfl, rfl, by cases f1; rfl⟩⟩
theorem pf_X12_90 : fz_pf RX12 "<init>" 90 12 34 := by obtain ⟨C, T, N, f1, f2, f3⟩ := fl_X12_90; exact ⟨C, T, N, f1, f2, f3, Or.inr ⟨by cases f1; rfl, rfl, by cases f1; rfl⟩⟩
theorem pf_X12_93 : fz_pf RX12 "<init>" 93 12 35 := by obtain ⟨C, T, N, f1, f2, f3⟩ := fl_X12_93; exact ⟨C, T, N, f1, f2, f3, Or.inr ⟨by cases f1; rfl, rfl, by cases f1; rfl⟩⟩
theorem pf_X12_96 : fz_pf RX12 "<init>" 96 12 36 := by obtain ⟨C, T, N, f1, f2, f3⟩ := fl_X12_96; exact ⟨C, T, N, f1, f2, f3, Or.inr ⟨by cases f1; rfl, rfl, by cases f1; rfl⟩⟩
theorem pf_X12_99 : fz_pf RX12 "<init>" 99 12 41 := by obtain ⟨C, T, N, f1, f2, f3⟩ := fl_X12_99; exact ⟨C, T, N, f1, f2, f3, Or.inr ⟨by cases f1; rfl, rfl, by cases f1; rfl⟩⟩
theorem pf_X12_103 : fz_pf RX12 "<init>" 103 12 42 := by obtain ⟨C, T, N, f1, f2, f3⟩ := fl_X12_103; exact ⟨C, T, N, f1, f2, f3, Or.inr ⟨by cases f1; rfl, rfl, by cases f1; rfl⟩⟩
theorem pf_X12_106 : fz_pf RX12 "<init>" 106 12 43 := by obtain ⟨C, T, N, f1, f2, f3⟩ := fl_X12_106; exact ⟨C, T, N, f1, f2, f3, Or.inr ⟨by cases f1; rfl, rfl, by cases f1; rfl⟩⟩
theorem pf_X12_109 : fz_pf RX12 "<init>" 109 12 44 := by obtain ⟨C, T, N, f1, f2, f3⟩ := fl_X12_109; exact ⟨C, T, N, f1, f2, f3, Or.inr ⟨by cases f1; rfl, rfl, by cases f1; rfl⟩⟩
theorem pf_X12_112 : fz_pf RX12 "<init>" 112 12 47 := by obtain ⟨C, T, N, f1, f2, f3⟩ := fl_X12_112; exact ⟨C, T, N, f1, f2, f3, Or.inr ⟨by cases f1; rfl, rfl, by cases f1; rfl⟩⟩
theorem pf_X12_115 : fz_pf RX12 "<init>" 115 12 48 := by obtain ⟨C, T, N, f1, f2, f3⟩ := fl_X12_115; exact ⟨C, T, N, f1, f2, f3, Or.inr ⟨by cases f1; rfl, rfl, by cases f1; rfl⟩⟩
theorem pf_X12_118 : fz_pf RX12 "<init>" 118 12 49 := by obtain ⟨C, T, N, f1, f2, f3⟩ := fl_X12_118; exact ⟨C, T, N, f1, f2, f3, Or.inr ⟨by cases f1; rfl, rfl, by cases f1; rfl⟩⟩
theorem pf_X12_121 : fz_pf RX12 "<init>" 121 12 54 := by obtain ⟨C, T, N, f1, f2, f3⟩ := fl_X12_121; exact ⟨C, T, N, f1, f2, f3, Or.inr ⟨by cases f1; rfl, rfl, by cases f1; rfl⟩⟩
theorem pf_X12_124 : fz_pf RX12 "<init>" 124 12 55 := by obtain ⟨C, T, N, f1, f2, f3⟩ := fl_X12_124; exact ⟨C, T, N, f1, f2, f3, Or.inr ⟨by cases f1; rfl, rfl, by cases f1; rfl⟩⟩
theorem pf_X12_127 : fz_pf RX12 "<init>" 127 12 57 := by obtain ⟨C, T, N, f1, f2, f3⟩ := fl_X12_127; exact ⟨C, T, N, f1, f2, f3, Or.inr ⟨by cases f1; rfl, rfl, by cases f1; rfl⟩⟩
theorem pf_X12_130 : fz_pf RX12 "<init>" 130 12 60 := by obtain ⟨C, T, N, f1, f2, f3⟩ := fl_X12_130; exact ⟨C, T, N, f1, f2, f3, Or.inr ⟨by cases f1; rfl, rfl, by cases f1; rfl⟩⟩
theorem pf_X12_133 : fz_pf RX12 "<init>" 133 12 61 := by obtain ⟨C, T, N, f1, f2, f3⟩ := fl_X12_133; exact ⟨C, T, N, f1, f2, f3, Or.inr ⟨by cases f1; rfl, rfl, by cases f1; rfl⟩⟩
theorem pf_X12_136 : fz_pf RX12 "<init>" 136 12 62 := by obtain ⟨C, T, N, f1, f2, f3⟩ := fl_X12_136; exact ⟨C, T, N, f1, f2, f3, Or.inr ⟨by cases f1; rfl, rfl, by cases f1; rfl⟩⟩
theorem pf_X12_139 : fz_pf RX12 "<init>" 139 12 63 := by obtain ⟨C, T, N, f1, f2, f3⟩ := fl_X12_139; exact ⟨C, T, N, f1, f2, f3, Or.inr ⟨by cases f1; rfl, rfl, by cases f1; rfl⟩⟩
theorem pf_X12_142 : fz_pf RX12 "<init>" 142 12 65 := by obtain ⟨C, T, N, f1, f2, f3⟩ := fl_X12_142; exact ⟨C, T, N, f1, f2, f3, Or.inr ⟨by cases f1; rfl, rfl, by cases f1; rfl⟩⟩
theorem pf_X12_145 : fz_pf RX12 "<init>" 145 12 67 := by obtain ⟨C, T, N, f1, f2, f3⟩ := fl_X12_145; exact ⟨C, T, N, f1, f2, f3, Or.inr ⟨by cases f1; rfl, rfl, by cases f1; rfl⟩⟩
theorem pf_X12_148 : fz_pf RX12 "<init>" 148 12 68 := by obtain ⟨C, T, N, f1, f2, f3⟩ := fl_X12_148; exact ⟨C, T, N, f1, f2, f3, Or.inr ⟨by cases f1; rfl, rfl, by cases f1; rfl⟩⟩
theorem pf_X12_151 : fz_pf RX12 "<init>" 151 12 69 := by obtain ⟨C, T, N, f1, f2, f3⟩ := fl_X12_151; exact ⟨C, T, N, f1, f2, f3, Or.inr ⟨by cases f1; rfl, rfl, by cases f1; rfl⟩⟩
theorem pf_X12_155 : fz_pf RX12 "<init>" 155 12 71 := by obtain ⟨C, T, N, f1, f2, f3⟩ := fl_X12_155; exact ⟨C, T, N, f1, f2, f3, Or.inr ⟨by cases f1; rfl, rfl, by cases f1; rfl⟩⟩
theorem pf_X12_158 : fz_pf RX12 "<init>" 158 12 74 := by obtain ⟨C, T, N, f1, f2, f3⟩ := fl_X12_158; exact ⟨C, T, N, f1, f2, f3, Or.inl (by cases f1; rfl)⟩
theorem pf_X12_162 : fz_pf RX12 "<init>" 162 12 75 := by obtain ⟨C, T, N, f1, f2, f3⟩ := fl_X12_162; exact ⟨C, T, N, f1, f2, f3, Or.inr ⟨by cases f1; rfl, rfl, by cases f1; rfl⟩⟩
theorem pf_X12_165 : fz_pf RX12 "<init>" 165 12 76 := by obtain ⟨C, T, N, f1, f2, f3⟩ := fl_X12_165; exact ⟨C, T, N, f1, f2, f3, Or.inr ⟨by cases f1; rfl, rfl, by cases f1; rfl⟩⟩
theorem pf_X12_168 : fz_pf RX12 "<init>" 168 12 77 := by obtain ⟨C, T, N, f1, f2, f3⟩ := fl_X12_168; exact ⟨C, T, N, f1, f2, f3, Or.inr ⟨by cases f1; rfl, rfl, by cases f1; rfl⟩⟩
theorem pf_X12_171 : fz_pf RX12 "<init>" 171 12 78 := by obtain ⟨C, T, N, f1, f2, f3⟩ := fl_X12_171; exact ⟨C, T, N, f1, f2, f3, Or.inr ⟨by cases f1; rfl, rfl, by cases f1; rfl⟩⟩
theorem pf_X12_174 : fz_pf RX12 "<init>" 174 12 79 := by obtain ⟨C, T, N, f1, f2, f3⟩ := fl_X12_174; exact ⟨C, T, N, f1, f2, f3, Or.inr ⟨by cases f1; rfl, rfl, by cases f1; rfl⟩⟩
theorem pf_X12_177 : fz_pf RX12 "<init>" 177 12 80 := by obtain ⟨C, T, N, f1, f2, f3⟩ := fl_X12_177; exact ⟨C, T, N, f1, f2, f3, Or.inr ⟨by cases f1; rfl, rfl, by cases f1; rfl⟩⟩
theorem pf_X12_180 : fz_pf RX12 "<init>" 180 12 81 := by obtain ⟨C, T, N, f1, f2, f3⟩ := fl_X12_180; exact ⟨C, T, N, f1, f2, f3, Or.inr ⟨by cases f1; rfl, rfl, by cases f1; rfl⟩⟩
theorem pf_X12_183 : fz_pf RX12 "<init>" 183 12 82 := by obtain ⟨C, T, N, f1, f2, f3⟩ := fl_X12_183; exact ⟨C, T, N, f1, f2, f3, Or.inr ⟨by cases f1; rfl, rfl, by cases f1; rfl⟩⟩
theorem pf_X12_186 : fz_pf RX12 "<init>" 186 12 83 := by obtain ⟨C, T, N, f1, f2, f3⟩ := fl_X12_186; exact ⟨C, T, N, f1, f2, f3, Or.inr ⟨by cases f1; rfl, rfl, by cases f1; rfl⟩⟩
theorem pf_X12_189 : fz_pf RX12 "<init>" 189 12 84 := by obtain ⟨C, T, N, f1, f2, f3⟩ := fl_X12_189; exact ⟨C, T, N, f1, f2, f3, Or.inr ⟨by cases f1; rfl, rfl, by cases f1; rfl⟩⟩
theorem pf_X12_192 : fz_pf RX12 "<init>" 192 12 85 := by obtain ⟨C, T, N, f1, f2, f3⟩ := fl_X12_192; exact ⟨C, T, N, f1, f2, f3, Or.inr ⟨by cases f1; rfl, rfl, by cases f1; rfl⟩⟩
theorem pf_X12_195 : fz_pf RX12 "<init>" 195 12 86 := by obtain ⟨C, T, N, f1, f2, f3⟩ := fl_X12_195; exact ⟨C, T, N, f1, f2, f3, Or.inr ⟨by cases f1; rfl, rfl, by cases f1; rfl⟩⟩
theorem pf_X12_198 : fz_pf RX12 "<init>" 198 12 87 := by obtain ⟨C, T, N, f1, f2, f3⟩ := fl_X12_198; exact ⟨C, T, N, f1, f2, f3, Or.inr ⟨by cases f1; rfl, rfl, by cases f1; rfl⟩⟩
theorem pf_X12_201 : fz_pf RX12 "<init>" 201 12 88 := by obtain ⟨C, T, N, f1, f2, f3⟩ := fl_X12_201; exact ⟨C, T, N, f1, f2, f3, Or.inr ⟨by cases f1; rfl, rfl, by cases f1; rfl⟩⟩
theorem pf_X12_204 : fz_pf RX12 "<init>" 204 12 89 := by obtain ⟨C, T, N, f1, f2, f3⟩ := fl_X12_204; exact ⟨C, T, N, f1, f2, f3, Or.inr ⟨by cases f1; rfl, rfl, by cases f1; rfl⟩⟩
theorem pf_X12_207 : fz_pf RX12 "<init>" 207 12 90 := by obtain ⟨C, T, N, f1, f2, f3⟩ := fl_X12_207; exact ⟨C, T, N, f1, f2, f3, Or.inr ⟨by cases f1; rfl, rfl, by cases f1; rfl⟩⟩
theorem pf_X12_210 : fz_pf RX12 "<init>" 210 12 91 := by obtain ⟨C, T, N, f1, f2, f3⟩ := fl_X12_210; exact ⟨C, T, N, f1, f2, f3, Or.inr ⟨by cases f1; rfl, rfl, by cases f1; rfl⟩⟩
theorem pf_X12_213 : fz_pf RX12 "<init>" 213 12 92 := by obtain ⟨C, T, N, f1, f2, f3⟩ := fl_X12_213; exact ⟨C, T, N, f1, f2, f3, Or.inr ⟨by cases f1; rfl, rfl, by cases f1; rfl⟩⟩
theorem pf_X12_216 : fz_pf RX12 "<init>" 216 12 93 := by obtain ⟨C, T, N, f1, f2, f3⟩ := fl_X12_216; exact ⟨C, T, N, f1, f2, f3, Or.inr ⟨by cases f1; rfl, rfl, by cases f1; rfl⟩⟩
theorem pf_X12_219 : fz_pf RX12 "<init>" 219 12 94 := by obtain ⟨C, T, N, f1, f2, f3⟩ := fl_X12_219; exact ⟨C, T, N, f1, f2, f3, Or.inr ⟨by cases f1; rfl, rfl, by cases f1; rfl⟩⟩
theorem pf_X12_222 : fz_pf RX12 "<init>" 222 12 95 := by obtain ⟨C, T, N, f1, f2, f3⟩ := fl_X12_222; exact ⟨C, T, N, f1, f2, f3, Or.inr ⟨by cases f1; rfl, rfl, by cases f1; rfl⟩⟩
theorem pf_X12_225 : fz_pf RX12 "<init>" 225 12 96 := by obtain ⟨C, T, N, f1, f2, f3⟩ := fl_X12_225; exact ⟨C, T, N, f1, f2, f3, Or.inr ⟨by cases f1; rfl, rfl, by cases f1; rfl⟩⟩
theorem pf_X12_228 : fz_pf RX12 "<init>" 228 12 97 := by obtain ⟨C, T, N, f1, f2, f3⟩ := fl_X12_228; exact ⟨C, T, N, f1, f2, f3, Or.inr ⟨by cases f1; rfl, rfl, by cases f1; rfl⟩⟩
theorem pf_X12_231 : fz_pf RX12 "<init>" 231 12 98 := by obtain ⟨C, T, N, f1, f2, f3⟩ := fl_X12_231; exact ⟨C, T, N, f1, f2, f3, Or.inr ⟨by cases f1; rfl, rfl, by cases f1; rfl⟩⟩
theorem pf_X12_234 : fz_pf RX12 "<init>" 234 12 99 := by obtain ⟨C, T, N, f1, f2, f3⟩ := fl_X12_234; exact ⟨C, T, N, f1, f2, f3, Or.inr ⟨by cases f1; rfl, rfl, by cases f1; rfl⟩⟩
theorem pf_X12_237 : fz_pf RX12 "<init>" 237 12 100 := by obtain ⟨C, T, N, f1, f2, f3⟩ := fl_X12_237; exact ⟨C, T, N, f1, f2, f3, Or.inr ⟨by cases f1; rfl, rfl, by cases f1; rfl⟩⟩
theorem pf_X12_240 : fz_pf RX12 "<init>" 240 12 102 := by obtain ⟨C, T, N, f1, f2, f3⟩ := fl_X12_240; exact ⟨C, T, N, f1, f2, f3, Or.inr ⟨by cases f1; rfl, rfl, by cases f1; rfl⟩⟩
theorem pf_X12_243 : fz_pf RX12 "<init>" 243 12 106 := by obtain ⟨C, T, N, f1, f2, f3⟩ := fl_X12_243; exact ⟨C, T, N, f1, f2, f3, Or.inr ⟨by cases f1; rfl, rfl, by cases f1; rfl⟩⟩
theorem pf_X12_246 : fz_pf RX12 "<init>" 246 12 110 := by obtain ⟨C, T, N, f1, f2, f3⟩ := fl_X12_246; exact ⟨C, T, N, f1, f2, f3, Or.inr ⟨by cases f1; rfl, rfl, by cases f1; rfl⟩⟩
/-- the picture at the law's start, with the class's object made -/
def hB0 (L : Nat) (xs : Nat → Int32) : fz_H := fz_mk ([(20, L), (21, 0)], fun a j => if a = 0 then xs j else 0, fun _ _ => 0, fun _ _ => none) 11 20
def hc_X10_init (h : fz_H) (n : Nat) : fz_H := (fz_sP (fz_mk (fz_sP (fz_mk (fz_sP (fz_mk (fz_sP (fz_mk (fz_sP (fz_mk h 14 2) n 0 (some (n + 1 + 0))) 14 2) n 1 (some (n + 1 + 1))) 14 8) n 2 (some (n + 1 + 2))) 14 8) n 3 (some (n + 1 + 3))) 14 8) n 4 (some (n + 1 + 4)))
set_option maxRecDepth 100000 in
set_option maxHeartbeats 4000000 in
theorem V_cX10_init {g : fz_G} {l : Launch} {d L : Nat} (hd : 1 ≤ d) (n : Nat) (hw : fz_at true n 10 7) {h : fz_H} (hs : fz_to L h (n + 1)) {Q : Option Value → fz_H → Prop} (hq : fz_to L (hc_X10_init h n) (n + 1 + 5) → Q none (hc_X10_init h n)) : fz_V g l m_X10_init d 5 28 0 (fz_en [.ref n] 1) [] h Q := by
  obtain ⟨d, rfl⟩ : ∃ e, d = e + 1 := ⟨d - 1, by omega⟩
  refine fv_aload_n (k0 := 0) (i := 0) dd_X10_init_0 rfl rfl ?_
  refine fv_objInit dd_X10_init_1 lk_X10_3 oi_i oi_c (Nat.le_of_ble_eq_true rfl) ?_
  refine fv_aload_n (k0 := 0) (i := 0) dd_X10_init_4 rfl rfl ?_
  refine fv_iconst (n := 2) (v := 2) dd_X10_init_5 (by decide) ?_
  refine fq_newaI (M := 2) hs ((fz_W hw).2.1 0 (by decide)) dd_X10_init_6 (by decide) (by decide) (by decide) (fun h1 e1 hs1 => ?_)
  replace hs1 : fz_to L h1 (n + 1 + 1) := hs1
  refine fq_putr (ci := 10) (j := 0) hs1 hw (by omega) rfl dd_X10_init_8 pf_X10_9 (Or.inr ⟨_, rfl⟩) (fun h2 e2 hs2 => ?_)
  refine fv_aload_n (k0 := 0) (i := 0) dd_X10_init_11 rfl rfl ?_
  refine fv_iconst (n := 2) (v := 2) dd_X10_init_12 (by decide) ?_
  refine fq_newaI (M := 2) hs2 ((fz_W hw).2.1 1 (by decide)) dd_X10_init_13 (by decide) (by decide) (by decide) (fun h3 e3 hs3 => ?_)
  replace hs3 : fz_to L h3 (n + 1 + 2) := hs3
  refine fq_putr (ci := 10) (j := 1) hs3 hw (by omega) rfl dd_X10_init_15 pf_X10_15 (Or.inr ⟨_, rfl⟩) (fun h4 e4 hs4 => ?_)
  refine fv_aload_n (k0 := 0) (i := 0) dd_X10_init_18 rfl rfl ?_
  refine fv_bipush (n := 8) (v := 8) dd_X10_init_19 (by decide) ?_
  refine fq_newaI (M := 8) hs4 ((fz_W hw).2.2.1 2 (by decide) (by decide)) dd_X10_init_21 (by decide) (by decide) (by decide) (fun h5 e5 hs5 => ?_)
  replace hs5 : fz_to L h5 (n + 1 + 3) := hs5
  refine fq_putr (ci := 10) (j := 2) hs5 hw (by omega) rfl dd_X10_init_23 pf_X10_18 (Or.inr ⟨_, rfl⟩) (fun h6 e6 hs6 => ?_)
  refine fv_aload_n (k0 := 0) (i := 0) dd_X10_init_26 rfl rfl ?_
  refine fv_bipush (n := 8) (v := 8) dd_X10_init_27 (by decide) ?_
  refine fq_newaI (M := 8) hs6 ((fz_W hw).2.2.1 3 (by decide) (by decide)) dd_X10_init_29 (by decide) (by decide) (by decide) (fun h7 e7 hs7 => ?_)
  replace hs7 : fz_to L h7 (n + 1 + 4) := hs7
  refine fq_putr (ci := 10) (j := 3) hs7 hw (by omega) rfl dd_X10_init_31 pf_X10_21 (Or.inr ⟨_, rfl⟩) (fun h8 e8 hs8 => ?_)
  refine fv_aload_n (k0 := 0) (i := 0) dd_X10_init_34 rfl rfl ?_
  refine fv_bipush (n := 8) (v := 8) dd_X10_init_35 (by decide) ?_
  refine fq_newaI (M := 8) hs8 ((fz_W hw).2.2.1 4 (by decide) (by decide)) dd_X10_init_37 (by decide) (by decide) (by decide) (fun h9 e9 hs9 => ?_)
  replace hs9 : fz_to L h9 (n + 1 + 5) := hs9
  refine fq_putr (ci := 10) (j := 4) hs9 hw (by omega) rfl dd_X10_init_39 pf_X10_24 (Or.inr ⟨_, rfl⟩) (fun h10 e10 hs10 => ?_)
  refine fv_vret dd_X10_init_42 rfl ?_
  subst e10
  subst e9
  subst e8
  subst e7
  subst e6
  subst e5
  subst e4
  subst e3
  subst e2
  subst e1
  exact hq hs10
theorem kp_X10_init {L : Nat} {h : fz_H} {n : Nat} (hs : fz_to L h (n + 1)) {q : Nat} (hq : q < n) : (hc_X10_init h n).2.2.2 q = h.2.2.2 q := by
  unfold hc_X10_init
  rw [fz_sP_ne (by omega), fz_mk_ne, fz_sP_ne (by omega), fz_mk_ne, fz_sP_ne (by omega), fz_mk_ne, fz_sP_ne (by omega), fz_mk_ne, fz_sP_ne (by omega), fz_mk_ne]
  all_goals
    simp only [fz_sP, fz_mk, fz_sI, List.length_append, List.length_cons, List.length_nil, hs.len]
    omega
def hc_X8_init_4 (h : fz_H) : fz_H := (fz_sP h 4 0 (some 3))
set_option maxRecDepth 100000 in
set_option maxHeartbeats 4000000 in
theorem V_cX8_init_4 {g : fz_G} {l : Launch} {d L : Nat} (hd : 1 ≤ d) {h : fz_H} (hs : fz_to L h (5)) {Q : Option Value → fz_H → Prop} (hq : fz_to L (hc_X8_init_4 h) (5) → Q none (hc_X8_init_4 h)) : fz_V g l m_X8_init d 0 0 0 (fz_en [.ref 4, .ref 3] 2) [] h Q := by
  obtain ⟨d, rfl⟩ : ∃ e, d = e + 1 := ⟨d - 1, by omega⟩
  refine fv_aload_n (k0 := 0) (i := 0) dd_X8_init_0 rfl rfl ?_
  refine fv_objInit dd_X8_init_1 lk_X8_3 oi_i oi_c (Nat.le_of_ble_eq_true rfl) ?_
  refine fv_aload_n (k0 := 0) (i := 0) dd_X8_init_4 rfl rfl ?_
  refine fv_aload_n (k0 := 1) (i := 1) dd_X8_init_5 rfl rfl ?_
  refine fq_putr (ci := 8) (j := 0) hs ca_4 (by omega) rfl dd_X8_init_6 pf_X8_9 (Or.inr ⟨_, rfl⟩) (fun h1 e1 hs1 => ?_)
  refine fv_vret dd_X8_init_9 rfl ?_
  subst e1
  exact hq hs1
theorem kp_X8_init_4 {L : Nat} {h : fz_H} (hs : fz_to L h 5) {q : Nat} (hq : q < 4) : (hc_X8_init_4 h).2.2.2 q = h.2.2.2 q := by
  unfold hc_X8_init_4
  rw [fz_sP_ne (by omega)]
def hc_X2_init_5 (h : fz_H) : fz_H := (fz_sP h 5 0 (some 4))
set_option maxRecDepth 100000 in
set_option maxHeartbeats 4000000 in
theorem V_cX2_init_5 {g : fz_G} {l : Launch} {d L : Nat} (hd : 1 ≤ d) {h : fz_H} (hs : fz_to L h (6)) {Q : Option Value → fz_H → Prop} (hq : fz_to L (hc_X2_init_5 h) (6) → Q none (hc_X2_init_5 h)) : fz_V g l m_X2_init d 0 0 0 (fz_en [.ref 5, .ref 4] 2) [] h Q := by
  obtain ⟨d, rfl⟩ : ∃ e, d = e + 1 := ⟨d - 1, by omega⟩
  refine fv_aload_n (k0 := 0) (i := 0) dd_X2_init_0 rfl rfl ?_
  refine fv_objInit dd_X2_init_1 lk_X2_3 oi_i oi_c (Nat.le_of_ble_eq_true rfl) ?_
  refine fv_aload_n (k0 := 0) (i := 0) dd_X2_init_4 rfl rfl ?_
  refine fv_aload_n (k0 := 1) (i := 1) dd_X2_init_5 rfl rfl ?_
  refine fq_putr (ci := 2) (j := 0) hs ca_5 (by omega) rfl dd_X2_init_6 pf_X2_9 (Or.inl ⟨_, rfl⟩) (fun h1 e1 hs1 => ?_)
  refine fv_vret dd_X2_init_9 rfl ?_
  subst e1
  exact hq hs1
theorem kp_X2_init_5 {L : Nat} {h : fz_H} (hs : fz_to L h 6) {q : Nat} (hq : q < 5) : (hc_X2_init_5 h).2.2.2 q = h.2.2.2 q := by
  unfold hc_X2_init_5
  rw [fz_sP_ne (by omega)]
def hc_X9_init_6 (h : fz_H) : fz_H := (fz_sP (fz_mk (fz_sP (fz_mk (fz_sP (fz_mk (fz_sP (fz_mk (fz_sP (fz_mk (fz_sP (fz_mk (fz_sP (fz_mk (fz_sP (fz_mk (fz_sP (fz_mk (fz_sP (fz_mk h 14 60) 6 0 (some 7)) 14 2) 6 1 (some 8)) 14 2) 6 2 (some 9)) 14 8) 6 3 (some 10)) 14 8) 6 4 (some 11)) 14 8) 6 5 (some 12)) 14 8) 6 6 (some 13)) 14 1632) 6 7 (some 14)) 14 5) 6 8 (some 15)) 14 5) 6 9 (some 16))
set_option maxRecDepth 100000 in
set_option maxHeartbeats 4000000 in
theorem V_cX9_init_6 {g : fz_G} {l : Launch} {d L : Nat} (hd : 1 ≤ d) {h : fz_H} (hs : fz_to L h (7)) {Q : Option Value → fz_H → Prop} (hq : fz_to L (hc_X9_init_6 h) (17) → Q none (hc_X9_init_6 h)) : fz_V g l m_X9_init d 10 1738 0 (fz_en [.ref 6] 1) [] h Q := by
  obtain ⟨d, rfl⟩ : ∃ e, d = e + 1 := ⟨d - 1, by omega⟩
  refine fv_aload_n (k0 := 0) (i := 0) dd_X9_init_0 rfl rfl ?_
  refine fv_objInit dd_X9_init_1 lk_X9_3 oi_i oi_c (Nat.le_of_ble_eq_true rfl) ?_
  refine fv_aload_n (k0 := 0) (i := 0) dd_X9_init_4 rfl rfl ?_
  refine fv_bipush (n := 60) (v := 60) dd_X9_init_5 (by decide) ?_
  refine fq_newaI (M := 60) hs ca_7 dd_X9_init_7 (by decide) (by decide) (by decide) (fun h1 e1 hs1 => ?_)
  refine fq_putr (ci := 9) (j := 0) hs1 ca_6 (by omega) rfl dd_X9_init_9 pf_X9_9 (Or.inr ⟨_, rfl⟩) (fun h2 e2 hs2 => ?_)
  refine fv_aload_n (k0 := 0) (i := 0) dd_X9_init_12 rfl rfl ?_
  refine fv_iconst (n := 2) (v := 2) dd_X9_init_13 (by decide) ?_
  refine fq_newaI (M := 2) hs2 ca_8 dd_X9_init_14 (by decide) (by decide) (by decide) (fun h3 e3 hs3 => ?_)
  refine fq_putr (ci := 9) (j := 1) hs3 ca_6 (by omega) rfl dd_X9_init_16 pf_X9_15 (Or.inr ⟨_, rfl⟩) (fun h4 e4 hs4 => ?_)
  refine fv_aload_n (k0 := 0) (i := 0) dd_X9_init_19 rfl rfl ?_
  refine fv_iconst (n := 2) (v := 2) dd_X9_init_20 (by decide) ?_
  refine fq_newaI (M := 2) hs4 ca_9 dd_X9_init_21 (by decide) (by decide) (by decide) (fun h5 e5 hs5 => ?_)
  refine fq_putr (ci := 9) (j := 2) hs5 ca_6 (by omega) rfl dd_X9_init_23 pf_X9_18 (Or.inr ⟨_, rfl⟩) (fun h6 e6 hs6 => ?_)
  refine fv_aload_n (k0 := 0) (i := 0) dd_X9_init_26 rfl rfl ?_
  refine fv_bipush (n := 8) (v := 8) dd_X9_init_27 (by decide) ?_
  refine fq_newaI (M := 8) hs6 ca_10 dd_X9_init_29 (by decide) (by decide) (by decide) (fun h7 e7 hs7 => ?_)
  refine fq_putr (ci := 9) (j := 3) hs7 ca_6 (by omega) rfl dd_X9_init_31 pf_X9_21 (Or.inr ⟨_, rfl⟩) (fun h8 e8 hs8 => ?_)
  refine fv_aload_n (k0 := 0) (i := 0) dd_X9_init_34 rfl rfl ?_
  refine fv_bipush (n := 8) (v := 8) dd_X9_init_35 (by decide) ?_
  refine fq_newaI (M := 8) hs8 ca_11 dd_X9_init_37 (by decide) (by decide) (by decide) (fun h9 e9 hs9 => ?_)
  refine fq_putr (ci := 9) (j := 4) hs9 ca_6 (by omega) rfl dd_X9_init_39 pf_X9_24 (Or.inr ⟨_, rfl⟩) (fun h10 e10 hs10 => ?_)
  refine fv_aload_n (k0 := 0) (i := 0) dd_X9_init_42 rfl rfl ?_
  refine fv_bipush (n := 8) (v := 8) dd_X9_init_43 (by decide) ?_
  refine fq_newaI (M := 8) hs10 ca_12 dd_X9_init_45 (by decide) (by decide) (by decide) (fun h11 e11 hs11 => ?_)
  refine fq_putr (ci := 9) (j := 5) hs11 ca_6 (by omega) rfl dd_X9_init_47 pf_X9_27 (Or.inr ⟨_, rfl⟩) (fun h12 e12 hs12 => ?_)
  refine fv_aload_n (k0 := 0) (i := 0) dd_X9_init_50 rfl rfl ?_
  refine fv_bipush (n := 8) (v := 8) dd_X9_init_51 (by decide) ?_
  refine fq_newaI (M := 8) hs12 ca_13 dd_X9_init_53 (by decide) (by decide) (by decide) (fun h13 e13 hs13 => ?_)
  refine fq_putr (ci := 9) (j := 6) hs13 ca_6 (by omega) rfl dd_X9_init_55 pf_X9_30 (Or.inr ⟨_, rfl⟩) (fun h14 e14 hs14 => ?_)
  refine fv_aload_n (k0 := 0) (i := 0) dd_X9_init_58 rfl rfl ?_
  refine fv_sipush (n := 1632) (v := 1632) dd_X9_init_59 (by decide) ?_
  refine fq_newaI (M := 1632) hs14 ca_14 dd_X9_init_62 (by decide) (by decide) (by decide) (fun h15 e15 hs15 => ?_)
  refine fq_putr (ci := 9) (j := 7) hs15 ca_6 (by omega) rfl dd_X9_init_64 pf_X9_33 (Or.inr ⟨_, rfl⟩) (fun h16 e16 hs16 => ?_)
  refine fv_aload_n (k0 := 0) (i := 0) dd_X9_init_67 rfl rfl ?_
  refine fv_iconst (n := 5) (v := 5) dd_X9_init_68 (by decide) ?_
  refine fq_newaI (M := 5) hs16 ca_15 dd_X9_init_69 (by decide) (by decide) (by decide) (fun h17 e17 hs17 => ?_)
  refine fq_putr (ci := 9) (j := 8) hs17 ca_6 (by omega) rfl dd_X9_init_71 pf_X9_36 (Or.inr ⟨_, rfl⟩) (fun h18 e18 hs18 => ?_)
  refine fv_aload_n (k0 := 0) (i := 0) dd_X9_init_74 rfl rfl ?_
  refine fv_iconst (n := 5) (v := 5) dd_X9_init_75 (by decide) ?_
  refine fq_newaI (M := 5) hs18 ca_16 dd_X9_init_76 (by decide) (by decide) (by decide) (fun h19 e19 hs19 => ?_)
  refine fq_putr (ci := 9) (j := 9) hs19 ca_6 (by omega) rfl dd_X9_init_78 pf_X9_39 (Or.inr ⟨_, rfl⟩) (fun h20 e20 hs20 => ?_)
  refine fv_vret dd_X9_init_81 rfl ?_
  subst e20
  subst e19
  subst e18
  subst e17
  subst e16
  subst e15
  subst e14
  subst e13
  subst e12
  subst e11
  subst e10
  subst e9
  subst e8
  subst e7
  subst e6
  subst e5
  subst e4
  subst e3
  subst e2
  subst e1
  exact hq hs20
theorem kp_X9_init_6 {L : Nat} {h : fz_H} (hs : fz_to L h 7) {q : Nat} (hq : q < 6) : (hc_X9_init_6 h).2.2.2 q = h.2.2.2 q := by
  unfold hc_X9_init_6
  rw [fz_sP_ne (by omega), fz_mk_ne, fz_sP_ne (by omega), fz_mk_ne, fz_sP_ne (by omega), fz_mk_ne, fz_sP_ne (by omega), fz_mk_ne, fz_sP_ne (by omega), fz_mk_ne, fz_sP_ne (by omega), fz_mk_ne, fz_sP_ne (by omega), fz_mk_ne, fz_sP_ne (by omega), fz_mk_ne, fz_sP_ne (by omega), fz_mk_ne, fz_sP_ne (by omega), fz_mk_ne]
  all_goals
    simp only [fz_sP, fz_mk, fz_sI, List.length_append, List.length_cons, List.length_nil, hs.len]
    omega
def hc_X9_init_17 (h : fz_H) : fz_H := (fz_sP (fz_mk (fz_sP (fz_mk (fz_sP (fz_mk (fz_sP (fz_mk (fz_sP (fz_mk (fz_sP (fz_mk (fz_sP (fz_mk (fz_sP (fz_mk (fz_sP (fz_mk (fz_sP (fz_mk h 14 60) 17 0 (some 18)) 14 2) 17 1 (some 19)) 14 2) 17 2 (some 20)) 14 8) 17 3 (some 21)) 14 8) 17 4 (some 22)) 14 8) 17 5 (some 23)) 14 8) 17 6 (some 24)) 14 1632) 17 7 (some 25)) 14 5) 17 8 (some 26)) 14 5) 17 9 (some 27))
set_option maxRecDepth 100000 in
set_option maxHeartbeats 4000000 in
theorem V_cX9_init_17 {g : fz_G} {l : Launch} {d L : Nat} (hd : 1 ≤ d) {h : fz_H} (hs : fz_to L h (18)) {Q : Option Value → fz_H → Prop} (hq : fz_to L (hc_X9_init_17 h) (28) → Q none (hc_X9_init_17 h)) : fz_V g l m_X9_init d 10 1738 0 (fz_en [.ref 17] 1) [] h Q := by
  obtain ⟨d, rfl⟩ : ∃ e, d = e + 1 := ⟨d - 1, by omega⟩
  refine fv_aload_n (k0 := 0) (i := 0) dd_X9_init_0 rfl rfl ?_
  refine fv_objInit dd_X9_init_1 lk_X9_3 oi_i oi_c (Nat.le_of_ble_eq_true rfl) ?_
  refine fv_aload_n (k0 := 0) (i := 0) dd_X9_init_4 rfl rfl ?_
  refine fv_bipush (n := 60) (v := 60) dd_X9_init_5 (by decide) ?_
  refine fq_newaI (M := 60) hs ca_18 dd_X9_init_7 (by decide) (by decide) (by decide) (fun h1 e1 hs1 => ?_)
  refine fq_putr (ci := 9) (j := 0) hs1 ca_17 (by omega) rfl dd_X9_init_9 pf_X9_9 (Or.inr ⟨_, rfl⟩) (fun h2 e2 hs2 => ?_)
  refine fv_aload_n (k0 := 0) (i := 0) dd_X9_init_12 rfl rfl ?_
  refine fv_iconst (n := 2) (v := 2) dd_X9_init_13 (by decide) ?_
  refine fq_newaI (M := 2) hs2 ca_19 dd_X9_init_14 (by decide) (by decide) (by decide) (fun h3 e3 hs3 => ?_)
  refine fq_putr (ci := 9) (j := 1) hs3 ca_17 (by omega) rfl dd_X9_init_16 pf_X9_15 (Or.inr ⟨_, rfl⟩) (fun h4 e4 hs4 => ?_)
  refine fv_aload_n (k0 := 0) (i := 0) dd_X9_init_19 rfl rfl ?_
  refine fv_iconst (n := 2) (v := 2) dd_X9_init_20 (by decide) ?_
  refine fq_newaI (M := 2) hs4 ca_20 dd_X9_init_21 (by decide) (by decide) (by decide) (fun h5 e5 hs5 => ?_)
  refine fq_putr (ci := 9) (j := 2) hs5 ca_17 (by omega) rfl dd_X9_init_23 pf_X9_18 (Or.inr ⟨_, rfl⟩) (fun h6 e6 hs6 => ?_)
  refine fv_aload_n (k0 := 0) (i := 0) dd_X9_init_26 rfl rfl ?_
  refine fv_bipush (n := 8) (v := 8) dd_X9_init_27 (by decide) ?_
  refine fq_newaI (M := 8) hs6 ca_21 dd_X9_init_29 (by decide) (by decide) (by decide) (fun h7 e7 hs7 => ?_)
  refine fq_putr (ci := 9) (j := 3) hs7 ca_17 (by omega) rfl dd_X9_init_31 pf_X9_21 (Or.inr ⟨_, rfl⟩) (fun h8 e8 hs8 => ?_)
  refine fv_aload_n (k0 := 0) (i := 0) dd_X9_init_34 rfl rfl ?_
  refine fv_bipush (n := 8) (v := 8) dd_X9_init_35 (by decide) ?_
  refine fq_newaI (M := 8) hs8 ca_22 dd_X9_init_37 (by decide) (by decide) (by decide) (fun h9 e9 hs9 => ?_)
  refine fq_putr (ci := 9) (j := 4) hs9 ca_17 (by omega) rfl dd_X9_init_39 pf_X9_24 (Or.inr ⟨_, rfl⟩) (fun h10 e10 hs10 => ?_)
  refine fv_aload_n (k0 := 0) (i := 0) dd_X9_init_42 rfl rfl ?_
  refine fv_bipush (n := 8) (v := 8) dd_X9_init_43 (by decide) ?_
  refine fq_newaI (M := 8) hs10 ca_23 dd_X9_init_45 (by decide) (by decide) (by decide) (fun h11 e11 hs11 => ?_)
  refine fq_putr (ci := 9) (j := 5) hs11 ca_17 (by omega) rfl dd_X9_init_47 pf_X9_27 (Or.inr ⟨_, rfl⟩) (fun h12 e12 hs12 => ?_)
  refine fv_aload_n (k0 := 0) (i := 0) dd_X9_init_50 rfl rfl ?_
  refine fv_bipush (n := 8) (v := 8) dd_X9_init_51 (by decide) ?_
  refine fq_newaI (M := 8) hs12 ca_24 dd_X9_init_53 (by decide) (by decide) (by decide) (fun h13 e13 hs13 => ?_)
  refine fq_putr (ci := 9) (j := 6) hs13 ca_17 (by omega) rfl dd_X9_init_55 pf_X9_30 (Or.inr ⟨_, rfl⟩) (fun h14 e14 hs14 => ?_)
  refine fv_aload_n (k0 := 0) (i := 0) dd_X9_init_58 rfl rfl ?_
  refine fv_sipush (n := 1632) (v := 1632) dd_X9_init_59 (by decide) ?_
  refine fq_newaI (M := 1632) hs14 ca_25 dd_X9_init_62 (by decide) (by decide) (by decide) (fun h15 e15 hs15 => ?_)
  refine fq_putr (ci := 9) (j := 7) hs15 ca_17 (by omega) rfl dd_X9_init_64 pf_X9_33 (Or.inr ⟨_, rfl⟩) (fun h16 e16 hs16 => ?_)
  refine fv_aload_n (k0 := 0) (i := 0) dd_X9_init_67 rfl rfl ?_
  refine fv_iconst (n := 5) (v := 5) dd_X9_init_68 (by decide) ?_
  refine fq_newaI (M := 5) hs16 ca_26 dd_X9_init_69 (by decide) (by decide) (by decide) (fun h17 e17 hs17 => ?_)
  refine fq_putr (ci := 9) (j := 8) hs17 ca_17 (by omega) rfl dd_X9_init_71 pf_X9_36 (Or.inr ⟨_, rfl⟩) (fun h18 e18 hs18 => ?_)
  refine fv_aload_n (k0 := 0) (i := 0) dd_X9_init_74 rfl rfl ?_
  refine fv_iconst (n := 5) (v := 5) dd_X9_init_75 (by decide) ?_
  refine fq_newaI (M := 5) hs18 ca_27 dd_X9_init_76 (by decide) (by decide) (by decide) (fun h19 e19 hs19 => ?_)
  refine fq_putr (ci := 9) (j := 9) hs19 ca_17 (by omega) rfl dd_X9_init_78 pf_X9_39 (Or.inr ⟨_, rfl⟩) (fun h20 e20 hs20 => ?_)
  refine fv_vret dd_X9_init_81 rfl ?_
  subst e20
  subst e19
  subst e18
  subst e17
  subst e16
  subst e15
  subst e14
  subst e13
  subst e12
  subst e11
  subst e10
  subst e9
  subst e8
  subst e7
  subst e6
  subst e5
  subst e4
  subst e3
  subst e2
  subst e1
  exact hq hs20
theorem kp_X9_init_17 {L : Nat} {h : fz_H} (hs : fz_to L h 18) {q : Nat} (hq : q < 17) : (hc_X9_init_17 h).2.2.2 q = h.2.2.2 q := by
  unfold hc_X9_init_17
  rw [fz_sP_ne (by omega), fz_mk_ne, fz_sP_ne (by omega), fz_mk_ne, fz_sP_ne (by omega), fz_mk_ne, fz_sP_ne (by omega), fz_mk_ne, fz_sP_ne (by omega), fz_mk_ne, fz_sP_ne (by omega), fz_mk_ne, fz_sP_ne (by omega), fz_mk_ne, fz_sP_ne (by omega), fz_mk_ne, fz_sP_ne (by omega), fz_mk_ne, fz_sP_ne (by omega), fz_mk_ne]
  all_goals
    simp only [fz_sP, fz_mk, fz_sI, List.length_append, List.length_cons, List.length_nil, hs.len]
    omega
def hc_X5_init_28 (h : fz_H) : fz_H := (fz_sP (fz_mk h 14 1632) 28 0 (some 29))
set_option maxRecDepth 100000 in
set_option maxHeartbeats 4000000 in
theorem V_cX5_init_28 {g : fz_G} {l : Launch} {d L : Nat} (hd : 1 ≤ d) {h : fz_H} (hs : fz_to L h (29)) {Q : Option Value → fz_H → Prop} (hq : fz_to L (hc_X5_init_28 h) (30) → Q none (hc_X5_init_28 h)) : fz_V g l m_X5_init d 1 1632 0 (fz_en [.ref 28] 1) [] h Q := by
  obtain ⟨d, rfl⟩ : ∃ e, d = e + 1 := ⟨d - 1, by omega⟩
  refine fv_aload_n (k0 := 0) (i := 0) dd_X5_init_0 rfl rfl ?_
  refine fv_objInit dd_X5_init_1 lk_X5_3 oi_i oi_c (Nat.le_of_ble_eq_true rfl) ?_
  refine fv_aload_n (k0 := 0) (i := 0) dd_X5_init_4 rfl rfl ?_
  refine fv_sipush (n := 1632) (v := 1632) dd_X5_init_5 (by decide) ?_
  refine fq_newaI (M := 1632) hs ca_29 dd_X5_init_8 (by decide) (by decide) (by decide) (fun h1 e1 hs1 => ?_)
  refine fq_putr (ci := 5) (j := 0) hs1 ca_28 (by omega) rfl dd_X5_init_10 pf_X5_9 (Or.inr ⟨_, rfl⟩) (fun h2 e2 hs2 => ?_)
  refine fv_vret dd_X5_init_13 rfl ?_
  subst e2
  subst e1
  exact hq hs2
theorem kp_X5_init_28 {L : Nat} {h : fz_H} (hs : fz_to L h 29) {q : Nat} (hq : q < 28) : (hc_X5_init_28 h).2.2.2 q = h.2.2.2 q := by
  unfold hc_X5_init_28
  rw [fz_sP_ne (by omega), fz_mk_ne]
  all_goals
    simp only [fz_sP, fz_mk, fz_sI, List.length_append, List.length_cons, List.length_nil, hs.len]
    omega
def hc_X7_init_31 (h : fz_H) : fz_H := (fz_sP (fz_mk (fz_sP (fz_mk h 14 15) 31 0 (some 32)) 14 64) 31 1 (some 33))
set_option maxRecDepth 100000 in
set_option maxHeartbeats 4000000 in
theorem V_cX7_init_31 {g : fz_G} {l : Launch} {d L : Nat} (hd : 1 ≤ d) {h : fz_H} (hs : fz_to L h (32)) {Q : Option Value → fz_H → Prop} (hq : fz_to L (hc_X7_init_31 h) (34) → Q none (hc_X7_init_31 h)) : fz_V g l m_X7_init d 2 79 0 (fz_en [.ref 31] 1) [] h Q := by
  obtain ⟨d, rfl⟩ : ∃ e, d = e + 1 := ⟨d - 1, by omega⟩
  refine fv_aload_n (k0 := 0) (i := 0) dd_X7_init_0 rfl rfl ?_
  refine fv_objInit dd_X7_init_1 lk_X7_3 oi_i oi_c (Nat.le_of_ble_eq_true rfl) ?_
  refine fv_aload_n (k0 := 0) (i := 0) dd_X7_init_4 rfl rfl ?_
  refine fv_bipush (n := 15) (v := 15) dd_X7_init_5 (by decide) ?_
  refine fq_newaI (M := 15) hs ca_32 dd_X7_init_7 (by decide) (by decide) (by decide) (fun h1 e1 hs1 => ?_)
  refine fq_putr (ci := 7) (j := 0) hs1 ca_31 (by omega) rfl dd_X7_init_9 pf_X7_9 (Or.inr ⟨_, rfl⟩) (fun h2 e2 hs2 => ?_)
  refine fv_aload_n (k0 := 0) (i := 0) dd_X7_init_12 rfl rfl ?_
  refine fv_bipush (n := 64) (v := 64) dd_X7_init_13 (by decide) ?_
  refine fq_newaI (M := 64) hs2 ca_33 dd_X7_init_15 (by decide) (by decide) (by decide) (fun h3 e3 hs3 => ?_)
  refine fq_putr (ci := 7) (j := 1) hs3 ca_31 (by omega) rfl dd_X7_init_17 pf_X7_15 (Or.inr ⟨_, rfl⟩) (fun h4 e4 hs4 => ?_)
  refine fv_vret dd_X7_init_20 rfl ?_
  subst e4
  subst e3
  subst e2
  subst e1
  exact hq hs4
theorem kp_X7_init_31 {L : Nat} {h : fz_H} (hs : fz_to L h 32) {q : Nat} (hq : q < 31) : (hc_X7_init_31 h).2.2.2 q = h.2.2.2 q := by
  unfold hc_X7_init_31
  rw [fz_sP_ne (by omega), fz_mk_ne, fz_sP_ne (by omega), fz_mk_ne]
  all_goals
    simp only [fz_sP, fz_mk, fz_sI, List.length_append, List.length_cons, List.length_nil, hs.len]
    omega
def hc_X0_init_30 (h : fz_H) : fz_H := (fz_sP (fz_sP (fz_sP (fz_mk h 14 2) 30 2 (some 34)) 30 0 (some 6)) 30 1 (some 31))
set_option maxRecDepth 100000 in
set_option maxHeartbeats 4000000 in
theorem V_cX0_init_30 {g : fz_G} {l : Launch} {d L : Nat} (hd : 1 ≤ d) {h : fz_H} (hs : fz_to L h (34)) {Q : Option Value → fz_H → Prop} (hq : fz_to L (hc_X0_init_30 h) (35) → Q none (hc_X0_init_30 h)) : fz_V g l m_X0_init d 1 2 0 (fz_en [.ref 30, .ref 6, .ref 31] 3) [] h Q := by
  obtain ⟨d, rfl⟩ : ∃ e, d = e + 1 := ⟨d - 1, by omega⟩
  refine fv_aload_n (k0 := 0) (i := 0) dd_X0_init_0 rfl rfl ?_
  refine fv_objInit dd_X0_init_1 lk_X0_3 oi_i oi_c (Nat.le_of_ble_eq_true rfl) ?_
  refine fv_aload_n (k0 := 0) (i := 0) dd_X0_init_4 rfl rfl ?_
  refine fv_iconst (n := 2) (v := 2) dd_X0_init_5 (by decide) ?_
  refine fq_newaI (M := 2) hs ca_34 dd_X0_init_6 (by decide) (by decide) (by decide) (fun h1 e1 hs1 => ?_)
  refine fq_putr (ci := 0) (j := 2) hs1 ca_30 (by omega) rfl dd_X0_init_8 pf_X0_9 (Or.inr ⟨_, rfl⟩) (fun h2 e2 hs2 => ?_)
  refine fv_aload_n (k0 := 0) (i := 0) dd_X0_init_11 rfl rfl ?_
  refine fv_aload_n (k0 := 1) (i := 1) dd_X0_init_12 rfl rfl ?_
  refine fq_putr (ci := 0) (j := 0) hs2 ca_30 (by omega) rfl dd_X0_init_13 pf_X0_15 (Or.inl ⟨_, rfl⟩) (fun h3 e3 hs3 => ?_)
  refine fv_aload_n (k0 := 0) (i := 0) dd_X0_init_16 rfl rfl ?_
  refine fv_aload_n (k0 := 2) (i := 2) dd_X0_init_17 rfl rfl ?_
  refine fq_putr (ci := 0) (j := 1) hs3 ca_30 (by omega) rfl dd_X0_init_18 pf_X0_19 (Or.inl ⟨_, rfl⟩) (fun h4 e4 hs4 => ?_)
  refine fv_vret dd_X0_init_21 rfl ?_
  subst e4
  subst e3
  subst e2
  subst e1
  exact hq hs4
theorem kp_X0_init_30 {L : Nat} {h : fz_H} (hs : fz_to L h 34) {q : Nat} (hq : q < 30) : (hc_X0_init_30 h).2.2.2 q = h.2.2.2 q := by
  unfold hc_X0_init_30
  rw [fz_sP_ne (by omega), fz_sP_ne (by omega), fz_sP_ne (by omega), fz_mk_ne]
  all_goals
    simp only [fz_sP, fz_mk, fz_sI, List.length_append, List.length_cons, List.length_nil, hs.len]
    omega
/-- the Worlds to go back to -/
def hc_pw (h : fz_H) : Nat → fz_H
  | 0 => h
  | i + 1 => fz_sP (hc_X10_init (fz_mk (hc_pw h i) 10 7) (52 + 6 * i)) 48 i (some (52 + 6 * i))
def hc_X4_init_47 (h : fz_H) : fz_H := hc_pw (fz_sP (fz_mk (fz_sP (fz_mk (fz_sP (fz_mk (fz_sP (fz_mk h 17 20) 47 0 (some 48)) 14 1000) 47 1 (some 49)) 14 1000) 47 2 (some 50)) 14 1000) 47 3 (some 51)) 20
set_option maxRecDepth 100000 in
set_option maxHeartbeats 4000000 in
theorem V_pw {g : fz_G} {l : Launch} {d L : Nat} (hd : 3 ≤ d + 1) {h : fz_H} (hP : h.2.2.2 47 0 = some 48) {Q : Option Value → fz_H → Prop} (hq : fz_to L (hc_pw h 20) 172 → Q none (hc_pw h 20)) (r : Nat) : ∀ (i : Nat), i + r = 20 → fz_to L (hc_pw h i) (52 + 6 * i) → (hc_pw h i).2.2.2 47 0 = some 48 → fz_V g l m_X4_init (d + 1) (r * 6) (r * 35) 42 [.ref 47, .int (nI i)] [] (hc_pw h i) Q := by
  induction r with
  | zero =>
    intro i hi hs hp
    have : i = 20 := by omega
    subst this
    refine fv_iload_n (k0 := 1) (i := 1) dd_X4_init_42 rfl rfl ?_
    refine fv_bipush (n := 20) (v := 20) dd_X4_init_43 (by decide) ?_
    refine fv_icmp_ge (tgt := 67) dd_X4_init_45 (by decide) (fun hc => ?_) (fun hc => absurd (by decide) hc)
    exact fv_vret dd_X4_init_67 rfl (hq hs)
  | succ r ih =>
    intro i hi hs hp
    have hw := (fz_Wq (i := i) (by omega)).2
    refine fv_iload_n (k0 := 1) (i := 1) dd_X4_init_42 rfl rfl ?_
    refine fv_bipush (n := 20) (v := 20) dd_X4_init_43 (by decide) ?_
    refine fv_icmp_ge (tgt := 67) dd_X4_init_45 (by decide) (fun hc => absurd hc (nI_ge (a := i) (b := 20) (by omega) (by decide))) (fun hc => ?_)
    refine fv_aload_n (k0 := 0) (i := 0) dd_X4_init_48 rfl rfl ?_
    refine fv_getr (ci := 4) (j := 0) (b := 48) dd_X4_init_49 fl_X4_11 (hs.ob ca_47 (by omega) rfl) (Or.inr ⟨_, rfl⟩) hp ?_
    refine fv_iload_n (k0 := 1) (i := 1) dd_X4_init_52 rfl rfl ?_
    rw [show (r + 1) * 6 = (r * 6 + 5) + 1 by omega, show (r + 1) * 35 = (r * 35 + 28) + 7 by omega]
    refine fq_new (ci := 10) (M := 7) hs hw dd_X4_init_53 rfl ck_X4_9 is_X10 ic_X10 (fun h1 e1 hs1 => ?_)
    refine fv_dup dd_X4_init_56 rfl ?_
    refine fq_callI (y := m_X10_init) (as := []) (mc := 5) (ms := 28) (N' := 52 + 6 * i + 1 + 5) dd_X4_init_57 me_X10_init rfl rfl (Or.inr ⟨_, ln_X4_27⟩) in_X10_init rfl (Nat.le_of_ble_eq_true rfl) (Nat.le_of_ble_eq_true rfl) rfl (fun Q' hq => V_cX10_init (by omega) (52 + 6 * i) hw hs1 hq) (fun h2 e2 hs2 => ?_)
    refine fv_aast dd_X4_init_60 (hs2.ar ca_48 (by omega)) (vp_in_nI (n := i) (by omega) (by decide)) (hs2.ob hw (by omega) rfl) ?_
    rw [nI_clamp (by omega)]
    refine fv_iinc (i := 1) (n := 1) (v := nI (i + 1)) dd_X4_init_61 rfl (nI_1 i) (by decide) ?_
    refine fv_goto (tgt := 42) dd_X4_init_64 (by decide) ?_
    have e3 : fz_sP h2 48 i (some (52 + 6 * i)) = hc_pw h (i + 1) := by rw [e2, e1]; rfl
    rw [e3]
    have hs3 : fz_to L (hc_pw h (i + 1)) (52 + 6 * (i + 1)) := by
      rw [← e3, show 52 + 6 * (i + 1) = 52 + 6 * i + 1 + 5 by omega]; exact hs2
    refine ih (i + 1) (by omega) hs3 ?_
    rw [← e3, e2, e1]
    rw [fz_sP_ne (by decide)]
    unfold hc_X10_init
    rw [fz_sP_ne (by omega), fz_mk_ne, fz_sP_ne (by omega), fz_mk_ne, fz_sP_ne (by omega), fz_mk_ne, fz_sP_ne (by omega), fz_mk_ne, fz_sP_ne (by omega), fz_mk_ne, fz_mk_ne]
    · exact hp
    all_goals
      simp only [fz_sP, fz_mk, List.length_append, List.length_cons, List.length_nil, hs.len]
      omega
set_option maxRecDepth 100000 in
set_option maxHeartbeats 4000000 in
theorem V_cX4_init_47 {g : fz_G} {l : Launch} {d L : Nat} (hd : 3 ≤ d) {h : fz_H} (hs : fz_to L h 48) {Q : Option Value → fz_H → Prop} (hq : fz_to L (hc_X4_init_47 h) 172 → Q none (hc_X4_init_47 h)) : fz_V g l m_X4_init d 124 3720 0 (fz_en [.ref 47] 2) [] h Q := by
  have hs0 := hs
  obtain ⟨d, rfl⟩ : ∃ e, d = e + 1 := ⟨d - 1, by omega⟩
  refine fv_aload_n (k0 := 0) (i := 0) dd_X4_init_0 rfl rfl ?_
  refine fv_objInit dd_X4_init_1 lk_X4_3 oi_i oi_c (Nat.le_of_ble_eq_true rfl) ?_
  refine fv_aload_n (k0 := 0) (i := 0) dd_X4_init_4 rfl rfl ?_
  refine fv_bipush (n := 20) (v := 20) dd_X4_init_5 (by decide) ?_
  refine fq_anewa (M := 20) hs ca_48 dd_X4_init_7 ck_X4_9 (by decide) (by decide) (by decide) (fun h1 e1 hs => ?_)
  refine fq_putr (ci := 4) (j := 0) hs ca_47 (by omega) rfl dd_X4_init_10 pf_X4_11 (Or.inr ⟨_, rfl⟩) (fun h2 e2 hs => ?_)
  refine fv_aload_n (k0 := 0) (i := 0) dd_X4_init_13 rfl rfl ?_
  refine fv_sipush (n := 1000) (v := 1000) dd_X4_init_14 (by decide) ?_
  refine fq_newaI (M := 1000) hs ca_49 dd_X4_init_17 (by decide) (by decide) (by decide) (fun h3 e3 hs => ?_)
  refine fq_putr (ci := 4) (j := 1) hs ca_47 (by omega) rfl dd_X4_init_19 pf_X4_17 (Or.inr ⟨_, rfl⟩) (fun h4 e4 hs => ?_)
  refine fv_aload_n (k0 := 0) (i := 0) dd_X4_init_22 rfl rfl ?_
  refine fv_sipush (n := 1000) (v := 1000) dd_X4_init_23 (by decide) ?_
  refine fq_newaI (M := 1000) hs ca_50 dd_X4_init_26 (by decide) (by decide) (by decide) (fun h5 e5 hs => ?_)
  refine fq_putr (ci := 4) (j := 2) hs ca_47 (by omega) rfl dd_X4_init_28 pf_X4_21 (Or.inr ⟨_, rfl⟩) (fun h6 e6 hs => ?_)
  refine fv_aload_n (k0 := 0) (i := 0) dd_X4_init_31 rfl rfl ?_
  refine fv_sipush (n := 1000) (v := 1000) dd_X4_init_32 (by decide) ?_
  refine fq_newaI (M := 1000) hs ca_51 dd_X4_init_35 (by decide) (by decide) (by decide) (fun h7 e7 hs => ?_)
  refine fq_putr (ci := 4) (j := 3) hs ca_47 (by omega) rfl dd_X4_init_37 pf_X4_24 (Or.inr ⟨_, rfl⟩) (fun h8 e8 hs => ?_)
  refine fv_iconst (n := 0) (v := 0) dd_X4_init_40 (by decide) ?_
  refine fv_istore_n (k0 := 1) (i := 1) dd_X4_init_41 rfl (by decide) ?_
  have hP : h8.2.2.2 47 0 = some 48 := by
    rw [e8, e7, e6, e5, e4, e3, e2, e1]
    unfold fz_sP fz_mk
    simp [va_up, hs0.len]
  subst e8 e7 e6 e5 e4 e3 e2 e1
  exact V_pw hd hP hq 20 0 rfl hs hP
theorem hc_pw_len {h : fz_H} (hl : h.1.length = 52) (i : Nat) : (hc_pw h i).1.length = 52 + 6 * i := by
  induction i with
  | zero => exact hl
  | succ i ih =>
    show (hc_X10_init (fz_mk (hc_pw h i) 10 7) (52 + 6 * i)).1.length = _
    unfold hc_X10_init
    simp only [fz_sP, fz_mk, List.length_append, List.length_cons, List.length_nil, ih]
    omega
theorem kp_pw {h : fz_H} (hl : h.1.length = 52) {q : Nat} (hq : q < 47) (i : Nat) : (hc_pw h i).2.2.2 q = h.2.2.2 q := by
  induction i with
  | zero => rfl
  | succ i ih =>
    have hll := hc_pw_len hl i
    show (fz_sP (hc_X10_init (fz_mk (hc_pw h i) 10 7) (52 + 6 * i)) 48 i (some (52 + 6 * i))).2.2.2 q = _
    rw [fz_sP_ne (by omega)]
    unfold hc_X10_init
    rw [fz_sP_ne (by omega), fz_mk_ne, fz_sP_ne (by omega), fz_mk_ne, fz_sP_ne (by omega), fz_mk_ne, fz_sP_ne (by omega), fz_mk_ne, fz_sP_ne (by omega), fz_mk_ne, fz_mk_ne]
    · exact ih
    all_goals
      simp only [fz_sP, fz_mk, List.length_append, List.length_cons, List.length_nil, hll]
      omega
theorem kp_X4_init_47 {L : Nat} {h : fz_H} (hs : fz_to L h 48) {q : Nat} (hq : q < 47) : (hc_X4_init_47 h).2.2.2 q = h.2.2.2 q := by
  unfold hc_X4_init_47
  rw [kp_pw (by simp only [fz_sP, fz_mk, List.length_append, List.length_cons, List.length_nil, hs.len]) hq, fz_sP_ne (by omega), fz_mk_ne, fz_sP_ne (by omega), fz_mk_ne, fz_sP_ne (by omega), fz_mk_ne, fz_sP_ne (by omega), fz_mk_ne]
  all_goals
    simp only [fz_sP, fz_mk, List.length_append, List.length_cons, List.length_nil, hs.len]
    omega
def hc_X3_init_172 (h : fz_H) : fz_H := (fz_sP (fz_sP (fz_sP (fz_mk (fz_sP (fz_mk (fz_sP (hc_X10_init (fz_mk h 10 7) 173) 172 2 (some 173)) 14 128) 172 3 (some 179)) 14 2) 172 4 (some 180)) 172 0 (some 6)) 172 1 (some 30))
set_option maxRecDepth 100000 in
set_option maxHeartbeats 4000000 in
theorem V_cX3_init_172 {g : fz_G} {l : Launch} {d L : Nat} (hd : 2 ≤ d) {h : fz_H} (hs : fz_to L h (173)) {Q : Option Value → fz_H → Prop} (hq : fz_to L (hc_X3_init_172 h) (181) → Q none (hc_X3_init_172 h)) : fz_V g l m_X3_init d 8 165 0 (fz_en [.ref 172, .ref 6, .ref 30] 3) [] h Q := by
  obtain ⟨d, rfl⟩ : ∃ e, d = e + 1 := ⟨d - 1, by omega⟩
  refine fv_aload_n (k0 := 0) (i := 0) dd_X3_init_0 rfl rfl ?_
  refine fv_objInit dd_X3_init_1 lk_X3_3 oi_i oi_c (Nat.le_of_ble_eq_true rfl) ?_
  refine fv_aload_n (k0 := 0) (i := 0) dd_X3_init_4 rfl rfl ?_
  refine fq_new (ci := 10) (M := 7) hs ca_173 dd_X3_init_5 rfl ck_X3_9 is_X10 ic_X10 (fun h1 e1 hs1 => ?_)
  refine fv_dup dd_X3_init_8 rfl ?_
  refine fq_callI (y := m_X10_init) (as := []) (mc := 5) (ms := 28) (N' := 179) dd_X3_init_9 me_X10_init rfl rfl (Or.inr ⟨_, ln_X3_11⟩) in_X10_init rfl (Nat.le_of_ble_eq_true rfl) (Nat.le_of_ble_eq_true rfl) rfl (fun Q' hq => V_cX10_init (by omega) 173 ca_173 hs1 hq) (fun h2 e2 hs2 => ?_)
  refine fq_putr (ci := 3) (j := 2) hs2 ca_172 (by omega) rfl dd_X3_init_12 pf_X3_12 (Or.inl ⟨_, rfl⟩) (fun h3 e3 hs3 => ?_)
  refine fv_aload_n (k0 := 0) (i := 0) dd_X3_init_15 rfl rfl ?_
  refine fv_sipush (n := 128) (v := 128) dd_X3_init_16 (by decide) ?_
  refine fq_newaI (M := 128) hs3 ca_179 dd_X3_init_19 (by decide) (by decide) (by decide) (fun h4 e4 hs4 => ?_)
  refine fq_putr (ci := 3) (j := 3) hs4 ca_172 (by omega) rfl dd_X3_init_21 pf_X3_18 (Or.inr ⟨_, rfl⟩) (fun h5 e5 hs5 => ?_)
  refine fv_aload_n (k0 := 0) (i := 0) dd_X3_init_24 rfl rfl ?_
  refine fv_iconst (n := 2) (v := 2) dd_X3_init_25 (by decide) ?_
  refine fq_newaI (M := 2) hs5 ca_180 dd_X3_init_26 (by decide) (by decide) (by decide) (fun h6 e6 hs6 => ?_)
  refine fq_putr (ci := 3) (j := 4) hs6 ca_172 (by omega) rfl dd_X3_init_28 pf_X3_22 (Or.inr ⟨_, rfl⟩) (fun h7 e7 hs7 => ?_)
  refine fv_aload_n (k0 := 0) (i := 0) dd_X3_init_31 rfl rfl ?_
  refine fv_aload_n (k0 := 1) (i := 1) dd_X3_init_32 rfl rfl ?_
  refine fq_putr (ci := 3) (j := 0) hs7 ca_172 (by omega) rfl dd_X3_init_33 pf_X3_25 (Or.inl ⟨_, rfl⟩) (fun h8 e8 hs8 => ?_)
  refine fv_aload_n (k0 := 0) (i := 0) dd_X3_init_36 rfl rfl ?_
  refine fv_aload_n (k0 := 2) (i := 2) dd_X3_init_37 rfl rfl ?_
  refine fq_putr (ci := 3) (j := 1) hs8 ca_172 (by omega) rfl dd_X3_init_38 pf_X3_29 (Or.inl ⟨_, rfl⟩) (fun h9 e9 hs9 => ?_)
  refine fv_vret dd_X3_init_41 rfl ?_
  subst e9
  subst e8
  subst e7
  subst e6
  subst e5
  subst e4
  subst e3
  subst e2
  subst e1
  exact hq hs9
theorem kp_X3_init_172 {L : Nat} {h : fz_H} (hs : fz_to L h 173) {q : Nat} (hq : q < 172) : (hc_X3_init_172 h).2.2.2 q = h.2.2.2 q := by
  unfold hc_X3_init_172 hc_X10_init
  rw [fz_sP_ne (by omega), fz_sP_ne (by omega), fz_sP_ne (by omega), fz_mk_ne, fz_sP_ne (by omega), fz_mk_ne, fz_sP_ne (by omega), fz_sP_ne (by omega), fz_mk_ne, fz_sP_ne (by omega), fz_mk_ne, fz_sP_ne (by omega), fz_mk_ne, fz_sP_ne (by omega), fz_mk_ne, fz_sP_ne (by omega), fz_mk_ne, fz_mk_ne]
  all_goals
    simp only [fz_sP, fz_mk, fz_sI, List.length_append, List.length_cons, List.length_nil, hs.len]
    omega
def hc_X1_init_181 (h : fz_H) : fz_H := (fz_sP (fz_sP (fz_sP (fz_mk (fz_sP (fz_mk h 15 27) 181 2 (some 182)) 14 3) 181 3 (some 183)) 181 0 (some 6)) 181 1 (some 30))
set_option maxRecDepth 100000 in
set_option maxHeartbeats 4000000 in
theorem V_cX1_init_181 {g : fz_G} {l : Launch} {d L : Nat} (hd : 1 ≤ d) {h : fz_H} (hs : fz_to L h (182)) {Q : Option Value → fz_H → Prop} (hq : fz_to L (hc_X1_init_181 h) (184) → Q none (hc_X1_init_181 h)) : fz_V g l m_X1_init d 2 30 0 (fz_en [.ref 181, .ref 6, .ref 30] 3) [] h Q := by
  obtain ⟨d, rfl⟩ : ∃ e, d = e + 1 := ⟨d - 1, by omega⟩
  refine fv_aload_n (k0 := 0) (i := 0) dd_X1_init_0 rfl rfl ?_
  refine fv_objInit dd_X1_init_1 lk_X1_3 oi_i oi_c (Nat.le_of_ble_eq_true rfl) ?_
  refine fv_aload_n (k0 := 0) (i := 0) dd_X1_init_4 rfl rfl ?_
  refine fv_bipush (n := 27) (v := 27) dd_X1_init_5 (by decide) ?_
  refine fq_newaJ (M := 27) hs ca_182 dd_X1_init_7 (by decide) (by decide) (by decide) (fun h1 e1 hs1 => ?_)
  refine fq_putr (ci := 1) (j := 2) hs1 ca_181 (by omega) rfl dd_X1_init_9 pf_X1_11 (Or.inr ⟨_, rfl⟩) (fun h2 e2 hs2 => ?_)
  refine fv_aload_n (k0 := 0) (i := 0) dd_X1_init_12 rfl rfl ?_
  refine fv_iconst (n := 3) (v := 3) dd_X1_init_13 (by decide) ?_
  refine fq_newaI (M := 3) hs2 ca_183 dd_X1_init_14 (by decide) (by decide) (by decide) (fun h3 e3 hs3 => ?_)
  refine fq_putr (ci := 1) (j := 3) hs3 ca_181 (by omega) rfl dd_X1_init_16 pf_X1_15 (Or.inr ⟨_, rfl⟩) (fun h4 e4 hs4 => ?_)
  refine fv_aload_n (k0 := 0) (i := 0) dd_X1_init_19 rfl rfl ?_
  refine fv_aload_n (k0 := 1) (i := 1) dd_X1_init_20 rfl rfl ?_
  refine fq_putr (ci := 1) (j := 0) hs4 ca_181 (by omega) rfl dd_X1_init_21 pf_X1_19 (Or.inl ⟨_, rfl⟩) (fun h5 e5 hs5 => ?_)
  refine fv_aload_n (k0 := 0) (i := 0) dd_X1_init_24 rfl rfl ?_
  refine fv_aload_n (k0 := 2) (i := 2) dd_X1_init_25 rfl rfl ?_
  refine fq_putr (ci := 1) (j := 1) hs5 ca_181 (by omega) rfl dd_X1_init_26 pf_X1_23 (Or.inl ⟨_, rfl⟩) (fun h6 e6 hs6 => ?_)
  refine fv_vret dd_X1_init_29 rfl ?_
  subst e6
  subst e5
  subst e4
  subst e3
  subst e2
  subst e1
  exact hq hs6
theorem kp_X1_init_181 {L : Nat} {h : fz_H} (hs : fz_to L h 182) {q : Nat} (hq : q < 181) : (hc_X1_init_181 h).2.2.2 q = h.2.2.2 q := by
  unfold hc_X1_init_181
  rw [fz_sP_ne (by omega), fz_sP_ne (by omega), fz_sP_ne (by omega), fz_mk_ne, fz_sP_ne (by omega), fz_mk_ne]
  all_goals
    simp only [fz_sP, fz_mk, fz_sI, List.length_append, List.length_cons, List.length_nil, hs.len]
    omega
def hc_X6_init_184 (h : fz_H) : fz_H := (fz_sP (fz_sP (fz_mk (fz_sP (fz_mk (fz_sP (fz_mk (fz_sP (hc_X10_init (fz_mk h 10 7) 185) 184 1 (some 185)) 14 64) 184 2 (some 191)) 14 620) 184 3 (some 192)) 14 3) 184 4 (some 193)) 184 0 (some 30))
set_option maxRecDepth 100000 in
set_option maxHeartbeats 4000000 in
theorem V_cX6_init_184 {g : fz_G} {l : Launch} {d L : Nat} (hd : 2 ≤ d) {h : fz_H} (hs : fz_to L h (185)) {Q : Option Value → fz_H → Prop} (hq : fz_to L (hc_X6_init_184 h) (194) → Q none (hc_X6_init_184 h)) : fz_V g l m_X6_init d 9 722 0 (fz_en [.ref 184, .ref 30] 2) [] h Q := by
  obtain ⟨d, rfl⟩ : ∃ e, d = e + 1 := ⟨d - 1, by omega⟩
  refine fv_aload_n (k0 := 0) (i := 0) dd_X6_init_0 rfl rfl ?_
  refine fv_objInit dd_X6_init_1 lk_X6_3 oi_i oi_c (Nat.le_of_ble_eq_true rfl) ?_
  refine fv_aload_n (k0 := 0) (i := 0) dd_X6_init_4 rfl rfl ?_
  refine fq_new (ci := 10) (M := 7) hs ca_185 dd_X6_init_5 rfl ck_X6_9 is_X10 ic_X10 (fun h1 e1 hs1 => ?_)
  refine fv_dup dd_X6_init_8 rfl ?_
  refine fq_callI (y := m_X10_init) (as := []) (mc := 5) (ms := 28) (N' := 191) dd_X6_init_9 me_X10_init rfl rfl (Or.inr ⟨_, ln_X6_11⟩) in_X10_init rfl (Nat.le_of_ble_eq_true rfl) (Nat.le_of_ble_eq_true rfl) rfl (fun Q' hq => V_cX10_init (by omega) 185 ca_185 hs1 hq) (fun h2 e2 hs2 => ?_)
  refine fq_putr (ci := 6) (j := 1) hs2 ca_184 (by omega) rfl dd_X6_init_12 pf_X6_12 (Or.inl ⟨_, rfl⟩) (fun h3 e3 hs3 => ?_)
  refine fv_aload_n (k0 := 0) (i := 0) dd_X6_init_15 rfl rfl ?_
  refine fv_bipush (n := 64) (v := 64) dd_X6_init_16 (by decide) ?_
  refine fq_newaI (M := 64) hs3 ca_191 dd_X6_init_18 (by decide) (by decide) (by decide) (fun h4 e4 hs4 => ?_)
  refine fq_putr (ci := 6) (j := 2) hs4 ca_184 (by omega) rfl dd_X6_init_20 pf_X6_18 (Or.inr ⟨_, rfl⟩) (fun h5 e5 hs5 => ?_)
  refine fv_aload_n (k0 := 0) (i := 0) dd_X6_init_23 rfl rfl ?_
  refine fv_sipush (n := 620) (v := 620) dd_X6_init_24 (by decide) ?_
  refine fq_newaI (M := 620) hs5 ca_192 dd_X6_init_27 (by decide) (by decide) (by decide) (fun h6 e6 hs6 => ?_)
  refine fq_putr (ci := 6) (j := 3) hs6 ca_184 (by omega) rfl dd_X6_init_29 pf_X6_22 (Or.inr ⟨_, rfl⟩) (fun h7 e7 hs7 => ?_)
  refine fv_aload_n (k0 := 0) (i := 0) dd_X6_init_32 rfl rfl ?_
  refine fv_iconst (n := 3) (v := 3) dd_X6_init_33 (by decide) ?_
  refine fq_newaI (M := 3) hs7 ca_193 dd_X6_init_34 (by decide) (by decide) (by decide) (fun h8 e8 hs8 => ?_)
  refine fq_putr (ci := 6) (j := 4) hs8 ca_184 (by omega) rfl dd_X6_init_36 pf_X6_25 (Or.inr ⟨_, rfl⟩) (fun h9 e9 hs9 => ?_)
  refine fv_aload_n (k0 := 0) (i := 0) dd_X6_init_39 rfl rfl ?_
  refine fv_aload_n (k0 := 1) (i := 1) dd_X6_init_40 rfl rfl ?_
  refine fq_putr (ci := 6) (j := 0) hs9 ca_184 (by omega) rfl dd_X6_init_41 pf_X6_28 (Or.inl ⟨_, rfl⟩) (fun h10 e10 hs10 => ?_)
  refine fv_vret dd_X6_init_44 rfl ?_
  subst e10
  subst e9
  subst e8
  subst e7
  subst e6
  subst e5
  subst e4
  subst e3
  subst e2
  subst e1
  exact hq hs10
theorem kp_X6_init_184 {L : Nat} {h : fz_H} (hs : fz_to L h 185) {q : Nat} (hq : q < 184) : (hc_X6_init_184 h).2.2.2 q = h.2.2.2 q := by
  unfold hc_X6_init_184 hc_X10_init
  rw [fz_sP_ne (by omega), fz_sP_ne (by omega), fz_mk_ne, fz_sP_ne (by omega), fz_mk_ne, fz_sP_ne (by omega), fz_mk_ne, fz_sP_ne (by omega), fz_sP_ne (by omega), fz_mk_ne, fz_sP_ne (by omega), fz_mk_ne, fz_sP_ne (by omega), fz_mk_ne, fz_sP_ne (by omega), fz_mk_ne, fz_sP_ne (by omega), fz_mk_ne, fz_mk_ne]
  all_goals
    simp only [fz_sP, fz_mk, fz_sI, List.length_append, List.length_cons, List.length_nil, hs.len]
    omega

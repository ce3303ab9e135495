theorem g_ne {s : fz_s} {a j b k : Nat} {v : Int32} (h : b ≠ a) : (si s a j v).1 b k = s.1 b k := by
  rw [g_si, if_neg (fun q => h q.1)]
theorem g_nj {s : fz_s} {a j k : Nat} {v : Int32} (h : k ≠ j) : (si s a j v).1 a k = s.1 a k := by
  rw [g_si, if_neg (fun q => h q.2)]
theorem g_eq {s : fz_s} {a j : Nat} {v : Int32} : (si s a j v).1 a j = v := by
  rw [g_si, if_pos ⟨rfl, rfl⟩]
theorem env_0 (T : TT) (W : WW) (p v : Nat) : env T W p v 0 = (W.1 v : Int) := by
  unfold env
  rw [if_pos rfl]
theorem env_1 (T : TT) (W : WW) (p v : Nat) : env T W p v 1 = (W.2.1 v : Int) := by
  unfold env
  rw [if_neg (by decide), if_pos rfl]
theorem env_2 (T : TT) (W : WW) (p v : Nat) : env T W p v 2 = (W.2.2.2.2.2 : Int) := by
  unfold env
  rw [if_neg (by decide), if_neg (by decide), if_pos rfl]
theorem env_3 (T : TT) (W : WW) (p v : Nat) : env T W p v 3 = (W.2.2.1 p : Int) := by
  unfold env
  rw [if_neg (by decide), if_neg (by decide), if_neg (by decide), if_pos rfl]
theorem env_4 (T : TT) (W : WW) (p v : Nat) : env T W p v 4 = (T.2.2.1 p : Int) := by
  unfold env
  rw [if_neg (by decide), if_neg (by decide), if_neg (by decide), if_neg (by decide), if_pos rfl]
theorem env_5 (T : TT) (W : WW) (p v : Nat) : env T W p v 5 = (T.2.2.2.1 p : Int) := by
  unfold env
  rw [if_neg (by decide), if_neg (by decide), if_neg (by decide), if_neg (by decide), if_neg (by decide), if_pos rfl]
theorem env_6 (T : TT) (W : WW) (p v : Nat) : env T W p v 6 = (W.2.2.2.2.1 p : Int) := by
  unfold env
  rw [if_neg (by decide), if_neg (by decide), if_neg (by decide), if_neg (by decide), if_neg (by decide), if_neg (by decide), if_pos rfl]
theorem env_7 (T : TT) (W : WW) (p v : Nat) : env T W p v 7 = (gst T W v : Int) := by
  unfold env
  rw [if_neg (by decide), if_neg (by decide), if_neg (by decide), if_neg (by decide), if_neg (by decide), if_neg (by decide), if_neg (by decide), if_pos rfl]
theorem env_8 (T : TT) (W : WW) (p v : Nat) : env T W p v 8 = (p : Int) := by
  unfold env
  rw [if_neg (by decide), if_neg (by decide), if_neg (by decide), if_neg (by decide), if_neg (by decide), if_neg (by decide), if_neg (by decide), if_neg (by decide), if_pos rfl]
theorem env_9 (T : TT) (W : WW) (p v : Nat) : env T W p v 9 = (lv T W p : Int) := by
  unfold env
  rw [if_neg (by decide), if_neg (by decide), if_neg (by decide), if_neg (by decide), if_neg (by decide), if_neg (by decide), if_neg (by decide), if_neg (by decide), if_neg (by decide), if_pos rfl]
theorem env_10 (T : TT) (W : WW) (p v : Nat) : env T W p v 10 = (T.2.1 p : Int) := by
  unfold env
  rw [if_neg (by decide), if_neg (by decide), if_neg (by decide), if_neg (by decide), if_neg (by decide), if_neg (by decide), if_neg (by decide), if_neg (by decide), if_neg (by decide), if_neg (by decide), if_pos rfl]
theorem env_11 (T : TT) (W : WW) (p v : Nat) : env T W p v 11 = (W.1 0 : Int) := by
  unfold env
  rw [if_neg (by decide), if_neg (by decide), if_neg (by decide), if_neg (by decide), if_neg (by decide), if_neg (by decide), if_neg (by decide), if_neg (by decide), if_neg (by decide), if_neg (by decide), if_neg (by decide), if_pos rfl]
theorem env_12 (T : TT) (W : WW) (p v : Nat) : env T W p v 12 = (W.1 1 : Int) := by
  unfold env
  rw [if_neg (by decide), if_neg (by decide), if_neg (by decide), if_neg (by decide), if_neg (by decide), if_neg (by decide), if_neg (by decide), if_neg (by decide), if_neg (by decide), if_neg (by decide), if_neg (by decide), if_neg (by decide), if_pos rfl]
def pE (a _j : Nat) : Bool := decide (a = 32 ∨ a = 33)
theorem pE_f {a j : Nat} (h : a ≠ 32 ∧ a ≠ 33) : pE a j = false := decide_eq_false (by omega)
theorem p33_pE {s s' : fz_s} (h : Fr p33 s s') : Fr pE s s' := h.mono fun a j q => by
  have := of_decide_eq_false q
  exact beq_eq_false_iff_ne.mpr (by omega)
theorem c_ruled {T : TT} {W : WW} {w r p v : Nat} {x : fz_s} (hT : TV T) (hW : WV T W) (cT : CT T x) (cW : CW T W w x) (hw : 35 ≤ w) (hr : r < 5) (hr3 : r ≠ 3) (hp : p < T.1) (hv : v < 2) {Q : Int32 → fz_s → Prop} (hq : ∀ x', Fr pE x x' → Q (iI (rv T W r p v)) x') : wp_X0_ruled w (nI r) (nI p) (nI v) x Q := by
  have hn := hT.1
  obtain ⟨hne, l, a, b1, b2, b3, b4, b5⟩ : T.2.1 9 ≠ 5 ∧ ∃ l a, x.1 15 r = nI a ∧ x.1 16 r = nI (a + l.length) ∧ a + l.length ≤ 1632 ∧ Seg (x.1 14) cC a l ∧ Dn (scR r) (tsR r) l (T.2.2.2.2 r) := by
    rcases cT.2.2.2.2 r hr with z | z
    · omega
    · exact z
  unfold wp_X0_ruled
  refine ⟨N_in ⟨by omega, by omega⟩, fun s1 e1 => ⟨N_in ⟨by omega, by omega⟩, fun s2 e2 s3 e3 => ⟨N_in ⟨by omega, by omega⟩, fun s4 e4 => ⟨N_in ⟨by omega, by omega⟩, fun s5 e5 => ⟨N_in ⟨by omega, by omega⟩, fun s6 e6 => ⟨N_in ⟨by omega, by omega⟩, fun s7 e7 => ⟨N_in ⟨by omega, by omega⟩, N_in ⟨by omega, by omega⟩, ?_⟩⟩⟩⟩⟩⟩⟩
  have hz : s7.1 15 r = nI a ∧ s7.1 16 r = nI (a + l.length) ∧ (∀ j, s7.1 14 j = x.1 14 j) ∧ Fr pE x s7 := by
    refine ⟨?_, ?_, ?_, ?_⟩
    · simp (disch := omega) only [e7, e6, e5, e4, e3, e2, e1, g_ne, b1]
    · simp (disch := omega) only [e7, e6, e5, e4, e3, e2, e1, g_ne, b2]
    · intro j
      simp (disch := omega) only [e7, e6, e5, e4, e3, e2, e1, g_ne]
    · rw [e7, e6, e5, e4, e3, e2, e1]
      exact (((((((Fr.rf.si (decide_eq_true (by omega))).si (decide_eq_true (by omega))).si (decide_eq_true (by omega))).si (decide_eq_true (by omega))).si (decide_eq_true (by omega))).si (decide_eq_true (by omega))).si (decide_eq_true (by omega)))
  rw [N_cl (by omega), hz.1, hz.2.1]
  have hb : ∀ k, scR r k = true → bd (env T W p v k) := fun k _ => env_bd hT hW hp hv k
  refine c_value (σ := env T W p v) (sc := scR r) (v := rv T W r p v) (by omega) ⟨b3, by omega⟩ (b4.cong (fun k _ _ => hz.2.2.1 k)) hb (fun q => ?_) (fun q => ?_) (fun k hk hs => ?_) (b5 _ hb).1 (fun s' hF => hq s' (hz.2.2.2.tr (p33_pE hF)))
  · unfold scR at q; rw [if_neg hr3] at q; exact absurd (of_decide_eq_true q) (by omega)
  · unfold scR at q; rw [if_neg hr3] at q; exact absurd (of_decide_eq_true q) (by omega)
  · unfold scR at hs
    rw [if_neg hr3] at hs
    have h6 := of_decide_eq_true hs
    rcases (show k = 0 ∨ k = 1 ∨ k = 2 ∨ k = 3 ∨ k = 4 ∨ k = 5 ∨ k = 6 by omega) with rfl | rfl | rfl | rfl | rfl | rfl | rfl
    · rw [env_0]
      simp (disch := omega) only [e7, e6, e5, e4, e3, e2, e1, g_ne, g_nj, g_eq, N_lit, N_cl, cW.1 v hv]
      exact i_nI _
    · rw [env_1]
      simp (disch := omega) only [e7, e6, e5, e4, e3, e2, e1, g_ne, g_nj, g_eq, N_lit, N_cl, cW.2.1 v hv hne]
      exact i_nI _
    · rw [env_2]
      simp (disch := omega) only [e7, e6, e5, e4, e3, e2, e1, g_ne, g_nj, g_eq, N_lit, N_cl, cW.2.2.2.2.2]
      exact i_nI _
    · rw [env_3]
      simp (disch := omega) only [e7, e6, e5, e4, e3, e2, e1, g_ne, g_nj, g_eq, N_lit, N_cl, cW.2.2.1 p hp]
      exact i_nI _
    · rw [env_4]
      simp (disch := omega) only [e7, e6, e5, e4, e3, e2, e1, g_ne, g_nj, g_eq, N_lit, N_cl, cT.2.2.1 p hp]
      exact i_nI _
    · rw [env_5]
      simp (disch := omega) only [e7, e6, e5, e4, e3, e2, e1, g_ne, g_nj, g_eq, N_lit, N_cl, cT.2.2.2.1 p hp]
      exact i_nI _
    · rw [env_6]
      simp (disch := omega) only [e7, e6, e5, e4, e3, e2, e1, g_ne, g_nj, g_eq, N_lit, N_cl, cW.2.2.2.2.1 p hp]
      exact i_nI _

/-! THE PICTURE -/
def ck (f : Nat → Nat) : Nat → Nat
  | 0 => 199
  | k + 1 => (3 * ck f k + f k) % 251
theorem ck_lt (f : Nat → Nat) : ∀ k, ck f k < 251
  | 0 => by show 199 < 251; omega
  | k + 1 => by
    show (3 * ck f k + f k) % 251 < 251
    omega
theorem c_check_lp {f : Nat → Nat} {a0 n0 N : Nat} {x : fz_s} (hN : N ≤ n0 ∧ n0 ≤ 1600) (hf : ∀ k, k < N → f k < 256 ∧ x.1 a0 k = nI (f k)) {Q : Int32 → fz_s → Prop} (hq : Q (nI (ck f N)) x) : ∀ (n k : Nat), k ≤ N → N < n + k → lp_X11_check_6 a0 n0 Q n (nI N) (nI (ck f k)) (nI k) x
  | 0, k, h1, h2 => absurd h2 (by omega)
  | n + 1, k, h1, h2 => by
    show nd_X11_check_6 a0 n0 (lp_X11_check_6 a0 n0 Q n) Q (nI N) (nI (ck f k)) (nI k) x
    unfold nd_X11_check_6
    by_cases c : k = N
    · subst c
      exact bt (by simp (disch := omega) only [N_lit, N_add, N_mul, N_sub, N_addneg, N_neg1, N_addm, N_le, N_lt, N_eq, N_in, N_cl, N_ne, N_ne', N_ltm, N_mlt, N_lem] <;> omega) hq
    have hk := hf k (by omega)
    have hc := ck_lt f k
    refine bf (by simp (disch := omega) only [N_lit, N_add, N_mul, N_sub, N_addneg, N_neg1, N_addm, N_le, N_lt, N_eq, N_in, N_cl, N_ne, N_ne', N_ltm, N_mlt, N_lem] <;> omega) (bf (by simp (disch := omega) only [N_lit, N_add, N_mul, N_sub, N_addneg, N_neg1, N_addm, N_le, N_lt, N_eq, N_in, N_cl, N_ne, N_ne', N_ltm, N_mlt, N_lem] <;> omega) ⟨N_in ⟨by omega, by omega⟩, fun x1 e1 x2 e2 => ?_⟩)
    rw [N_cl (by omega), hk.2, show (3 : Int32) * nI (ck f k) = nI (3 * ck f k) from N_mul 3 _, N_add, show nI (3 * ck f k + f k) - nI (3 * ck f k + f k) / 251 * 251 = nI ((3 * ck f k + f k) % 251) from N_mod (b := 251) ⟨by omega, by omega⟩] at e1
    rw [e1, e2, nI_1]
    exact c_check_lp hN hf hq n (k + 1) (by omega) (by omega)
theorem m_check_lp {f : Nat → Nat} {a0 n0 N : Nat} {x : fz_s} (hN : N ≤ n0 ∧ n0 ≤ 1600) (hf : ∀ k, k < N → f k < 256 ∧ x.1 a0 k = nI (f k)) {Q : Int32 → fz_s → Prop} (hq : Q (nI (ck f N)) x) : ∀ (n k : Nat), k ≤ N → N < n + k → lp_X12_checked_6 a0 n0 Q n (nI N) (nI (ck f k)) (nI k) x
  | 0, k, h1, h2 => absurd h2 (by omega)
  | n + 1, k, h1, h2 => by
    show nd_X12_checked_6 a0 n0 (lp_X12_checked_6 a0 n0 Q n) Q (nI N) (nI (ck f k)) (nI k) x
    unfold nd_X12_checked_6
    by_cases c : k = N
    · subst c
      exact bt (by simp (disch := omega) only [N_lit, N_add, N_mul, N_sub, N_addneg, N_neg1, N_addm, N_le, N_lt, N_eq, N_in, N_cl, N_ne, N_ne', N_ltm, N_mlt, N_lem] <;> omega) hq
    have hk := hf k (by omega)
    have hc := ck_lt f k
    refine bf (by simp (disch := omega) only [N_lit, N_add, N_mul, N_sub, N_addneg, N_neg1, N_addm, N_le, N_lt, N_eq, N_in, N_cl, N_ne, N_ne', N_ltm, N_mlt, N_lem] <;> omega) ⟨N_in ⟨by omega, by omega⟩, fun x1 e1 x2 e2 => ?_⟩
    rw [N_cl (by omega), hk.2, show (3 : Int32) * nI (ck f k) = nI (3 * ck f k) from N_mul 3 _, N_add, show nI (3 * ck f k + f k) - nI (3 * ck f k + f k) / 251 * 251 = nI ((3 * ck f k + f k) % 251) from N_mod (b := 251) ⟨by omega, by omega⟩] at e1
    rw [e1, e2, nI_1]
    exact m_check_lp hN hf hq n (k + 1) (by omega) (by omega)
def PicC (p : (Nat → Nat) × Nat) (x : fz_s) : Prop := p.2 ≤ 33 ∧ x.1 2 15 = nI p.2 ∧ ∀ k, k < p.2 → p.1 k < 256 ∧ x.1 194 k = nI (p.1 k)
def PicM (p : (Nat → Nat) × Nat) (m : fz_s) : Prop := p.2 ≤ 33 ∧ m.1 196 111 = nI p.2 ∧ ∀ k, k < p.2 → p.1 k < 256 ∧ m.1 272 k = nI (p.1 k)
def pti (p : (Nat → Nat) × Nat) (v : Nat) : (Nat → Nat) × Nat := (upf p.1 p.2 v, p.2 + 1)
def pPc (a j : Nat) : Bool := decide (a = 194 ∨ (a = 2 ∧ j = 15))
def pPm (a j : Nat) : Bool := decide (a = 272 ∨ (a = 196 ∧ j = 111))
theorem pPc_f {a j : Nat} (h : ¬ (a = 194 ∨ (a = 2 ∧ j = 15))) : pPc a j = false := decide_eq_false h
theorem pPm_f {a j : Nat} (h : ¬ (a = 272 ∨ (a = 196 ∧ j = 111))) : pPm a j = false := decide_eq_false h
theorem c_paint {p : (Nat → Nat) × Nat} {v : Nat} {x0 x : fz_s} (h : PicC p x) (hp : p.2 < 33) (hv : v < 256) (hF : Fr pPc x0 x) {Q : fz_s → Prop} (hq : ∀ x', PicC (pti p v) x' → Fr pPc x0 x' → Q x') : wp_X11_paint (nI v) x Q := by
  unfold wp_X11_paint
  rw [h.2.1, N_cl (by omega)]
  refine bf (by simp (disch := omega) only [N_lit, N_add, N_mul, N_sub, N_addneg, N_neg1, N_addm, N_le, N_lt, N_eq, N_in, N_cl, N_ne, N_ne', N_ltm, N_mlt, N_lem] <;> omega) ⟨N_in ⟨by omega, by omega⟩, fun s1 e1 s2 e2 => ?_⟩
  have r : s1.1 2 15 = nI p.2 := by rw [e1, g_ne (by omega)]; exact h.2.1
  rw [r, nI_1] at e2
  refine hq s2 ⟨by show p.2 + 1 ≤ 33; omega, by rw [e2]; exact g_eq, fun k hk => ?_⟩ ?_
  · have hk' : k < p.2 + 1 := hk
    show upf p.1 p.2 v k < 256 ∧ s2.1 194 k = nI (upf p.1 p.2 v k)
    rw [e2, g_ne (by omega), e1]
    by_cases c : k = p.2
    · subst c
      rw [upf_eq, g_eq]
      exact ⟨hv, rfl⟩
    · rw [upf_ne c, g_nj c]
      exact h.2.2 k (by omega)
  · rw [e2, e1]
    exact (hF.si (decide_eq_true (by omega))).si (decide_eq_true (by omega))
theorem m_write {p : (Nat → Nat) × Nat} {v : Nat} {x0 x : fz_s} (h : PicM p x) (hp : p.2 < 33) (hv : v < 256) (hF : Fr pPm x0 x) {Q : fz_s → Prop} (hq : ∀ x', PicM (pti p v) x' → Fr pPm x0 x' → Q x') : wp_X12_writes (nI v) x Q := by
  unfold wp_X12_writes
  rw [h.2.1, N_cl (by omega)]
  refine ⟨N_in ⟨by omega, by omega⟩, fun s1 e1 s2 e2 => ?_⟩
  have r : s1.1 196 111 = nI p.2 := by rw [e1, g_ne (by omega)]; exact h.2.1
  rw [r, nI_1] at e2
  refine hq s2 ⟨by show p.2 + 1 ≤ 33; omega, by rw [e2]; exact g_eq, fun k hk => ?_⟩ ?_
  · have hk' : k < p.2 + 1 := hk
    show upf p.1 p.2 v k < 256 ∧ s2.1 272 k = nI (upf p.1 p.2 v k)
    rw [e2, g_ne (by omega), e1]
    by_cases c : k = p.2
    · subst c
      rw [upf_eq, g_eq]
      exact ⟨hv, rfl⟩
    · rw [upf_ne c, g_nj c]
      exact h.2.2 k (by omega)
  · rw [e2, e1]
    exact (hF.si (decide_eq_true (by omega))).si (decide_eq_true (by omega))
theorem hi8 : ∀ y, y < 1000 → (nI y >>> (8 &&& 31)) &&& 255 = nI (y / 256) := by decide +kernel
theorem lo8 : ∀ y, y < 1000 → nI y &&& 255 = nI (y % 256) := by decide +kernel
def pt2 (p : (Nat → Nat) × Nat) (y : Nat) : (Nat → Nat) × Nat := pti (pti p (y / 256)) (y % 256)
theorem c_paint2 {p : (Nat → Nat) × Nat} {y : Nat} {x0 x : fz_s} (h : PicC p x) (hp : p.2 < 32) (hy : y < 1000) (hF : Fr pPc x0 x) {Q : fz_s → Prop} (hq : ∀ x', PicC (pt2 p y) x' → Fr pPc x0 x' → Q x') : wp_X11_paintPair (nI y) x Q := by
  unfold wp_X11_paintPair
  rw [hi8 y hy, lo8 y hy]
  exact c_paint h (by omega) (by omega) hF (fun x1 h1 hF1 => c_paint h1 (by show p.2 + 1 < 33; omega) (by omega) hF1 hq)
theorem m_write2 {p : (Nat → Nat) × Nat} {y : Nat} {x0 x : fz_s} (h : PicM p x) (hp : p.2 < 32) (hy : y < 1000) (hF : Fr pPm x0 x) {Q : fz_s → Prop} (hq : ∀ x', PicM (pt2 p y) x' → Fr pPm x0 x' → Q x') : wp_X12_writesTwo (nI y) x Q := by
  unfold wp_X12_writesTwo
  rw [show nI y / 256 = nI (y / 256) from N_div (b := 256) ⟨by omega, by omega⟩, show nI y - nI (y / 256) * 256 = nI (y % 256) by have := N_mod (a := y) (b := 256) ⟨by omega, by omega⟩; rw [N_div ⟨by omega, by omega⟩] at this; exact this]
  exact m_write h (by omega) (by omega) hF (fun x1 h1 hF1 => m_write h1 (by show p.2 + 1 < 33; omega) (by omega) hF1 hq)
def imP (W : WW) (p : (Nat → Nat) × Nat) : Nat → (Nat → Nat) × Nat
  | 0 => p
  | k + 1 => pti (pti (pti (imP W p k) (W.2.2.1 k)) (b01 (W.2.2.2.1 k))) (W.2.2.2.2.1 k)
theorem imP_n (W : WW) (p : (Nat → Nat) × Nat) : ∀ k, (imP W p k).2 = p.2 + 3 * k
  | 0 => rfl
  | k + 1 => by
    show (imP W p k).2 + 1 + 1 + 1 = _
    rw [imP_n W p k]
    omega
def imV (t : Bool) (W : WW) (p : (Nat → Nat) × Nat) : (Nat → Nat) × Nat := if t = true then pti (pt2 (pti (pt2 p (W.1 0)) (W.2.1 0)) (W.1 1)) (W.2.1 1) else p
def im0 (W : WW) : (Nat → Nat) × Nat := pt2 (fun _ => 0, 0) W.2.2.2.2.2
def imA (t : Bool) (T : TT) (W : WW) : (Nat → Nat) × Nat := imP W (imV t W (im0 W)) T.1
def imE (t : Bool) (T : TT) (W : WW) : (Nat → Nat) × Nat := pti (imA t T W) (ck (imA t T W).1 (imA t T W).2)
theorem imV_n (t : Bool) (W : WW) : (imV t W (im0 W)).2 ≤ 8 := by
  unfold imV
  split
  · exact Nat.le_refl 8
  · show 2 ≤ 8; omega
theorem CC.pPc {T : TT} {W : WW} {x x' : fz_s} (h : CC T W 35 x) (hF : Fr pPc x x') : CC T W 35 x' := h.cg (fun a j q => hF.i _ _ (pPc_f (by omega)))
theorem MM.pPm {T : TT} {W : WW} {m m' : fz_s} (h : MM T W m) (hF : Fr pPm m m') : MM T W m' := h.cg (fun a j q => hF.i _ _ (pPm_f (by omega)))
theorem c_img_lp {T : TT} {W : WW} {t : Bool} {x0 : fz_s} (h0 : CC T W 35 x0) {Q : Int32 → fz_s → Prop} (hq : ∀ x', PicC (imE t T W) x' → Fr pPc x0 x' → Q (nI (imE t T W).2) x') : ∀ (n k : Nat) (x : fz_s), PicC (imP W (imV t W (im0 W)) k) x → Fr pPc x0 x → k ≤ T.1 → T.1 < n + k → lp_X11_image_63 Q n (nI k) x
  | 0, k, x, _, _, h1, h2 => absurd h2 (by omega)
  | n + 1, k, x, hp, hF, h1, h2 => by
    have hn := h0.1.1
    have hv := imV_n t W
    have hl := imP_n W (imV t W (im0 W)) k
    have h := h0.pPc hF
    show nd_X11_image_63 (lp_X11_image_63 Q n) Q (nI k) x
    unfold nd_X11_image_63
    rw [h.2.2.1.1]
    by_cases c : k = T.1
    · subst c
      refine bt (by simp (disch := omega) only [N_lit, N_add, N_mul, N_sub, N_addneg, N_neg1, N_addm, N_le, N_lt, N_eq, N_in, N_cl, N_ne, N_ne', N_ltm, N_mlt, N_lem] <;> omega) ?_
      rw [hp.2.1]
      refine c_check_lp (f := (imA t T W).1) (N := (imA t T W).2) ⟨hp.1, by omega⟩ (fun k hk => hp.2.2 k hk) ?_ 2048 0 (by omega) (by have := hp.1; show (imA t T W).2 < 2048 + 0; unfold imA; omega)
      refine c_paint (p := imA t T W) hp (by show (imP W _ T.1).2 < 33; omega) (by have := ck_lt (imA t T W).1 (imA t T W).2; omega) hF (fun x' hp' hF' => ?_)
      rw [hp'.2.1]
      exact hq x' hp' hF'
    have hk2 : k < T.1 := by omega
    have w1 := h0.2.1.2.2.1 k hk2
    have w2 := h0.2.1.2.2.2.1 k hk2
    have hi : vp_in (nI k) 8 := N_in ⟨by omega, by omega⟩
    rw [N_cl (by omega), show x.1 38 k = nI (W.2.2.1 k) from h.2.2.2.1.2.2.1 k hk2]
    refine bf (by simp (disch := omega) only [N_lit, N_add, N_mul, N_sub, N_addneg, N_neg1, N_addm, N_le, N_lt, N_eq, N_in, N_cl, N_ne, N_ne', N_ltm, N_mlt, N_lem] <;> omega) ⟨hi, c_paint hp (by omega) (by omega) hF (fun x1 hp1 hF1 => ⟨hi, hi, ?_⟩)⟩
    have hc1 := h0.pPc hF1
    have hm := h0.1.2.1 k hk2
    have hlv := lv_le (W := W) h0.1 hk2
    rw [show x1.1 39 k = nI (lv T W k) from hc1.2.2.2.1.2.2.2.1 k hk2, show x1.1 10 k = nI (T.2.1 k) from hc1.2.2.1.2.1 k hk2, N_eq ⟨by omega, by omega⟩, lv_ne hm]
    have fin : ∀ u : Bool, u = W.2.2.2.1 k → nd_X11_image_114 (lp_X11_image_63 Q n) Q (nI k) u x1 := by
      intro u hu
      unfold nd_X11_image_114
      refine c_bit ?_
      have hb := b01_le u
      refine c_paint (v := b01 u) hp1 (by show (imP W _ k).2 + 1 < 33; omega) (by omega) hF1 (fun x2 hp2 hF2 => ⟨hi, ?_⟩)
      rw [N_cl (by omega), show x2.1 40 k = nI (W.2.2.2.2.1 k) from (h0.pPc hF2).2.2.2.1.2.2.2.2.1 k hk2]
      refine c_paint hp2 (by show (imP W _ k).2 + 1 + 1 < 33; omega) (by omega) hF2 (fun x3 hp3 hF3 => ?_)
      intro x7 e7
      rw [e7, nI_1]
      rw [hu] at hp3
      exact c_img_lp h0 hq n (k + 1) x3 hp3 hF3 (by omega) (by omega)
    exact ⟨fun q => fin false q.symm, fun q => fin true ((Bool.not_eq_false _).mp q).symm⟩
theorem m_img_lp {T : TT} {W : WW} {t : Bool} {m0 : fz_s} (h0 : MM T W m0) {Q : Int32 → fz_s → Prop} (hq : ∀ m', PicM (imE t T W) m' → Fr pPm m0 m' → Q (nI (imE t T W).2) m') : ∀ (d n k : Nat) (x : fz_s), PicM (imP W (imV t W (im0 W)) k) x → Fr pPm m0 x → k + d = T.1 → 3 * d < n → lp_X12_image_65 Q n (nI (3 * k)) x
  | _, 0, k, x, _, _, h1, h2 => absurd h2 (by omega)
  | 0, n + 1, k, x, hp, hF, h1, h2 => by
    have hn := h0.1.1
    have hv := imV_n t W
    have hl := imP_n W (imV t W (im0 W)) k
    have hk : k = T.1 := h1
    subst hk
    show nd_X12_image_65 (lp_X12_image_65 Q n) Q (nI (3 * T.1)) x
    unfold nd_X12_image_65 wp_X12_personMany
    dsimp only
    rw [(h0.pPm hF).2.2.1.1, show (3 : Int32) * nI T.1 = nI (3 * T.1) from N_mul 3 _]
    refine bt (by simp (disch := omega) only [N_lit, N_add, N_mul, N_sub, N_addneg, N_neg1, N_addm, N_le, N_lt, N_eq, N_in, N_cl, N_ne, N_ne', N_ltm, N_mlt, N_lem] <;> omega) ?_
    rw [hp.2.1]
    refine m_check_lp (f := (imA t T W).1) (N := (imA t T W).2) ⟨hp.1, by omega⟩ (fun k hk => hp.2.2 k hk) ?_ 2048 0 (by omega) (by have := hp.1; show (imA t T W).2 < 2048 + 0; unfold imA; omega)
    refine m_write (p := imA t T W) hp (by show (imP W _ T.1).2 < 33; omega) (by have := ck_lt (imA t T W).1 (imA t T W).2; omega) hF (fun x' hp' hF' => ?_)
    rw [hp'.2.1]
    exact hq x' hp' hF'
  | d + 1, n + 1, k, x, hp, hF, h1, h2 => by
    have hn := h0.1.1
    have hv := imV_n t W
    have hl := imP_n W (imV t W (im0 W)) k
    have hk2 : k < T.1 := by omega
    have w1 := h0.2.1.2.2.1 k hk2
    have w2 := h0.2.1.2.2.2.1 k hk2
    have hb := b01_le (W.2.2.2.1 k)
    obtain ⟨n, rfl⟩ : ∃ n', n = n' + 2 := ⟨n - 2, by omega⟩
    show nd_X12_image_65 (lp_X12_image_65 Q (n + 2)) Q (nI (3 * k)) x
    unfold nd_X12_image_65 wp_X12_personMany
    dsimp only
    rw [(h0.pPm hF).2.2.1.1, show (3 : Int32) * nI T.1 = nI (3 * T.1) from N_mul 3 _, show (5 : Int32) + nI (3 * k) = nI (5 + 3 * k) from N_add 5 _, N_cl (by omega), (h0.pPm hF).2.2.2.2.2.1 k hk2]
    refine bf (by simp (disch := omega) only [N_lit, N_add, N_mul, N_sub, N_addneg, N_neg1, N_addm, N_le, N_lt, N_eq, N_in, N_cl, N_ne, N_ne', N_ltm, N_mlt, N_lem] <;> omega) ⟨N_in ⟨by omega, by omega⟩, m_write hp (by omega) (by omega) hF (fun x1 hp1 hF1 => ?_)⟩
    intro y1 ey1
    rw [ey1, nI_1]
    show nd_X12_image_65 (lp_X12_image_65 Q (n + 1)) Q (nI (3 * k + 1)) x1
    unfold nd_X12_image_65 wp_X12_personMany
    dsimp only
    rw [(h0.pPm hF1).2.2.1.1, show (3 : Int32) * nI T.1 = nI (3 * T.1) from N_mul 3 _, show (5 : Int32) + nI (3 * k + 1) = nI (6 + 3 * k) by rw [show (5 : Int32) + nI (3 * k + 1) = nI (5 + (3 * k + 1)) from N_add 5 _, show 5 + (3 * k + 1) = 6 + 3 * k by omega], N_cl (by omega), (h0.pPm hF1).2.2.2.2.2.2.1 k hk2]
    refine bf (by simp (disch := omega) only [N_lit, N_add, N_mul, N_sub, N_addneg, N_neg1, N_addm, N_le, N_lt, N_eq, N_in, N_cl, N_ne, N_ne', N_ltm, N_mlt, N_lem] <;> omega) ⟨N_in ⟨by omega, by omega⟩, m_write hp1 (by show (imP W _ k).2 + 1 < 33; omega) (by omega) hF1 (fun x2 hp2 hF2 => ?_)⟩
    intro y2 ey2
    rw [ey2, nI_1]
    show nd_X12_image_65 (lp_X12_image_65 Q n) Q (nI (3 * k + 1 + 1)) x2
    unfold nd_X12_image_65 wp_X12_personMany
    dsimp only
    rw [(h0.pPm hF2).2.2.1.1, show (3 : Int32) * nI T.1 = nI (3 * T.1) from N_mul 3 _, show (5 : Int32) + nI (3 * k + 1 + 1) = nI (7 + 3 * k) by rw [show (5 : Int32) + nI (3 * k + 1 + 1) = nI (5 + (3 * k + 1 + 1)) from N_add 5 _, show 5 + (3 * k + 1 + 1) = 7 + 3 * k by omega], N_cl (by omega), (h0.pPm hF2).2.2.2.2.2.2.2.1 k hk2]
    refine bf (by simp (disch := omega) only [N_lit, N_add, N_mul, N_sub, N_addneg, N_neg1, N_addm, N_le, N_lt, N_eq, N_in, N_cl, N_ne, N_ne', N_ltm, N_mlt, N_lem] <;> omega) ⟨N_in ⟨by omega, by omega⟩, m_write hp2 (by show (imP W _ k).2 + 1 + 1 < 33; omega) (by omega) hF2 (fun x3 hp3 hF3 => ?_)⟩
    intro y3 ey3
    rw [ey3, nI_1, show 3 * k + 1 + 1 + 1 = 3 * (k + 1) by omega]
    exact m_img_lp h0 hq d n (k + 1) x3 hp3 hF3 (by omega) (by omega)
theorem INV.pic {x m x' m' : fz_s} (h : INV x m) {pn' : Nat} (h3' : I3 pn' x' m') (hx : Fr pPc x x') (hm : Fr pPm m m') : INV x' m' := by
  obtain ⟨t, T, W, kf, kn, ⟨tp, tn, h1⟩, h2, ⟨pn, h3⟩, ⟨sd, h4⟩, ⟨sn, nm, nl, h5⟩, h6, h7, ⟨us, ac, o, nw, h8⟩, ⟨rs, rn, h9⟩, h10⟩ := id h
  have ex : ∀ a j, ¬ (a = 194 ∨ (a = 2 ∧ j = 15)) → x'.1 a j = x.1 a j := fun a j ha => hx.i a j (decide_eq_false ha)
  have em : ∀ a j, ¬ (a = 272 ∨ (a = 196 ∧ j = 111)) → m'.1 a j = m.1 a j := fun a j ha => hm.i a j (decide_eq_false ha)
  have el : ∀ a j, ¬ (a = 272 ∨ (a = 196 ∧ j = 111)) → m'.2.1 a j = m.2.1 a j := fun a j ha => hm.l a j (decide_eq_false ha)
  exact ⟨t, T, W, kf, kn, ⟨tp, tn, h1.cg (fun a j q => ex a j (by omega)) (fun a j q => em a j (by omega))⟩, h2.cg (fun a j q => ex a j (by omega)) (fun a j q => em a j (by omega)), ⟨pn', h3'⟩, ⟨sd, h4.cg (fun a j q => ex a j (by omega)) (fun a j q => el a j (by omega))⟩, ⟨sn, nm, nl, h5.cg (fun a j q => ex a j (by omega)) (fun a j q => em a j (by omega)) (fun a j q => el a j (by omega))⟩, h6.cg (fun a j q => ex a j (by omega)) (fun a j q => em a j (by omega)), h7.cg (fun a j q => ex a j (by omega)) (fun a j q => em a j (by omega)), ⟨us, ac, o, nw, h8.cg h6.1.1.1 (fun a j q => ex a j (by omega)) (fun a j q => em a j (by omega))⟩, ⟨rs, rn, h9.cg (fun a j q => ex a j (by omega)) (fun a j q => em a j (by omega))⟩, h10.cg (fun a j q => em a j (by omega))⟩
theorem EQ_image_ok : EQ_image INV := by
  intro x m h
  obtain ⟨t, T, W, kf, kn, ⟨tp, tn, h1⟩, h2, ⟨pn, h3⟩, ⟨sd, h4⟩, ⟨sn, nm, nl, h5⟩, h6, h7, ⟨us, ac, o, nw, h8⟩, ⟨rs, rn, h9⟩, h10⟩ := id h
  have hn := h6.1.1.1
  have hyr := h6.2.2.1
  have hW := h6.1.2.1
  have g0 := hW.1 0 (by omega)
  have g1 := hW.1 1 (by omega)
  have q0 := hW.2.1 0 (by omega)
  have q1 := hW.2.1 1 (by omega)
  unfold wp_X11_image wp_X12_image
  intro s1 e1
  have hF1 : Fr pPc x s1 := by rw [e1]; exact Fr.rf.si (decide_eq_true (by omega))
  have hP1 : PicC (fun _ => 0, 0) s1 := ⟨by show 0 ≤ 33; omega, by rw [e1]; exact g_eq, fun k hk => absurd hk (Nat.not_lt_zero _)⟩
  rw [show s1.1 35 5 = nI W.2.2.2.2.2 from (h6.1.pPc hF1).2.2.2.1.2.2.2.2.2]
  refine c_paint2 hP1 (by show 0 < 32; omega) (by omega) hF1 (fun x2 hP2 hF2 => ?_)
  -- what the model paints
  have mod : ∀ x', PicC (imE t T W) x' → Fr pPc x x' → ∀ s1 : fz_s, s1 = si m 196 111 0 → wp_X12_writesTwo (s1.1 232 (0 : Int32).toNatClampNeg) s1 (fun s3 => lp_X12_image_17 (fun r' m' => nI (imE t T W).2 = r' ∧ INV x' m') 2048 0 s3) := by
    intro x' hP' hF' z1 f1
    have hG1 : Fr pPm m z1 := by rw [f1]; exact Fr.rf.si (decide_eq_true (by omega))
    have hM1 : PicM (fun _ => 0, 0) z1 := ⟨by show 0 ≤ 33; omega, by rw [f1]; exact g_eq, fun k hk => absurd hk (Nat.not_lt_zero _)⟩
    rw [show z1.1 232 (0 : Int32).toNatClampNeg = nI W.2.2.2.2.2 from (h6.2.1.pPm hG1).2.2.2.2.2.2.2.2]
    refine m_write2 hM1 (by show 0 < 32; omega) (by omega) hG1 (fun z2 hM2 hG2 => ?_)
    have fin : ∀ m', PicM (imE t T W) m' → Fr pPm m m' → (nI (imE t T W).2 = nI (imE t T W).2 ∧ INV x' m') := by
      intro m' hM' hG'
      refine ⟨rfl, h.pic (pn' := (imE t T W).2) ⟨hP'.1, hP'.2.1, hM'.2.1, fun k hk => ?_⟩ hF' hG'⟩
      rw [(hP'.2.2 k hk).2, (hM'.2.2 k hk).2]
    have last : ∀ z, PicM (imV t W (im0 W)) z → Fr pPm m z → lp_X12_image_65 (fun r' m' => nI (imE t T W).2 = r' ∧ INV x' m') 2048 0 z := fun z hz hG => m_img_lp (t := t) h6.2.1 (fun m' a b => fin m' a b) T.1 2048 0 z hz hG (by omega) (by omega)
    show nd_X12_image_17 (lp_X12_image_17 (fun r' m' => nI (imE t T W).2 = r' ∧ INV x' m') 2047) (fun r' m' => nI (imE t T W).2 = r' ∧ INV x' m') (nI 0) z2
    unfold nd_X12_image_17
    refine bf (by simp (disch := omega) only [N_lit, N_add, N_mul, N_sub, N_addneg, N_neg1, N_addm, N_le, N_lt, N_eq, N_in, N_cl, N_ne, N_ne', N_ltm, N_mlt, N_lem] <;> omega) ?_
    rw [show z2.1 196 52 = nI (b01 t) from (hG2.i _ _ (pPm_f (by omega))).trans h5.2.1]
    cases t with
    | false => exact bt rfl (last z2 hM2 hG2)
    | true =>
      refine bf (by show ¬ (nI 1 = 0); decide +kernel) ?_
      rw [show (1 : Int32) + 2 * nI 0 = nI (1 + 2 * 0) from rfl, show (2 : Int32) + 2 * nI 0 = nI (2 + 2 * 0) from rfl, N_cl (by omega), N_cl (by omega), (h6.2.1.pPm hG2).2.2.2.1 0 (by omega)]
      refine ⟨N_in ⟨by omega, by omega⟩, m_write2 hM2 (by show 2 < 32; omega) (by omega) hG2 (fun z3 hM3 hG3 => ⟨N_in ⟨by omega, by omega⟩, ?_⟩)⟩
      rw [(h6.2.1.pPm hG3).2.2.2.2.1 0 (by omega)]
      refine m_write hM3 (by show 4 < 33; omega) (by omega) hG3 (fun z4 hM4 hG4 => ?_)
      intro y5 ey5
      rw [ey5, nI_1]
      show nd_X12_image_17 (lp_X12_image_17 (fun r' m' => nI (imE true T W).2 = r' ∧ INV x' m') 2046) (fun r' m' => nI (imE true T W).2 = r' ∧ INV x' m') (nI 1) z4
      unfold nd_X12_image_17
      refine bf (by simp (disch := omega) only [N_lit, N_add, N_mul, N_sub, N_addneg, N_neg1, N_addm, N_le, N_lt, N_eq, N_in, N_cl, N_ne, N_ne', N_ltm, N_mlt, N_lem] <;> omega) ?_
      rw [show z4.1 196 52 = nI (b01 true) from (hG4.i _ _ (pPm_f (by omega))).trans h5.2.1]
      refine bf (by show ¬ (nI 1 = 0); decide +kernel) ?_
      rw [show (1 : Int32) + 2 * nI 1 = nI (1 + 2 * 1) from rfl, show (2 : Int32) + 2 * nI 1 = nI (2 + 2 * 1) from rfl, N_cl (by omega), N_cl (by omega), (h6.2.1.pPm hG4).2.2.2.1 1 (by omega)]
      refine ⟨N_in ⟨by omega, by omega⟩, m_write2 hM4 (by show 5 < 32; omega) (by omega) hG4 (fun z5 hM5 hG5 => ⟨N_in ⟨by omega, by omega⟩, ?_⟩)⟩
      rw [(h6.2.1.pPm hG5).2.2.2.2.1 1 (by omega)]
      refine m_write hM5 (by show 7 < 33; omega) (by omega) hG5 (fun z6 hM6 hG6 => ?_)
      intro y7 ey7
      rw [ey7, nI_1]
      show nd_X12_image_17 (lp_X12_image_17 (fun r' m' => nI (imE true T W).2 = r' ∧ INV x' m') 2045) (fun r' m' => nI (imE true T W).2 = r' ∧ INV x' m') (nI 2) z6
      unfold nd_X12_image_17
      exact bt (by simp (disch := omega) only [N_lit, N_add, N_mul, N_sub, N_addneg, N_neg1, N_addm, N_le, N_lt, N_eq, N_in, N_cl, N_ne, N_ne', N_ltm, N_mlt, N_lem] <;> omega) (last z6 hM6 hG6)
  have lastc : ∀ z, PicC (imV t W (im0 W)) z → Fr pPc x z → lp_X11_image_63 (fun r x' => ∀ s1 : fz_s, s1 = si m 196 111 0 → wp_X12_writesTwo (s1.1 232 (0 : Int32).toNatClampNeg) s1 (fun s3 => lp_X12_image_17 (fun r' m' => r = r' ∧ INV x' m') 2048 0 s3)) 2048 0 z := fun z hz hG => c_img_lp (t := t) h6.1 (fun x' a b => mod x' a b) 2048 0 z hz hG (by omega) (by omega)
  generalize (fun (r : Int32) (x' : fz_s) => ∀ s1 : fz_s, s1 = si m 196 111 0 → wp_X12_writesTwo (s1.1 232 (0 : Int32).toNatClampNeg) s1 (fun s3 => lp_X12_image_17 (fun r' m' => r = r' ∧ INV x' m') 2048 0 s3)) = Q at lastc ⊢
  show nd_X11_image_18 (lp_X11_image_18 Q 2047) Q (nI 0) x2
  unfold nd_X11_image_18
  rw [show x2.1 6 11 = nI (2 * b01 t) from (hF2.i _ _ (pPc_f (by omega))).trans h5.1]
  clear mod
  cases t with
  | false => exact bt (by show nI 0 ≤ nI 0; (simp (disch := omega) only [N_lit, N_add, N_mul, N_sub, N_addneg, N_neg1, N_addm, N_le, N_lt, N_eq, N_in, N_cl, N_ne, N_ne', N_ltm, N_mlt, N_lem] <;> omega)) (lastc x2 hP2 hF2)
  | true =>
    rw [show 2 * b01 true = 2 from rfl, N_cl (by omega), show x2.1 36 0 = nI (W.1 0) from (h6.1.pPc hF2).2.2.2.1.1 0 (by omega)]
    refine bf (by simp (disch := omega) only [N_lit, N_add, N_mul, N_sub, N_addneg, N_neg1, N_addm, N_le, N_lt, N_eq, N_in, N_cl, N_ne, N_ne', N_ltm, N_mlt, N_lem] <;> omega) ⟨N_in ⟨by omega, by omega⟩, c_paint2 hP2 (by show 2 < 32; omega) (by omega) hF2 (fun x3 hP3 hF3 => ⟨N_in ⟨by omega, by omega⟩, ?_⟩)⟩
    rw [show x3.1 37 0 = nI (W.2.1 0) from (h6.1.pPc hF3).2.2.2.1.2.1 0 (by omega) (h5.2.2.1.2 rfl)]
    refine c_paint hP3 (by show 4 < 33; omega) (by omega) hF3 (fun x4 hP4 hF4 => ?_)
    intro y5 ey5
    rw [ey5, nI_1]
    show nd_X11_image_18 (lp_X11_image_18 Q 2046) Q (nI 1) x4
    unfold nd_X11_image_18
    rw [show x4.1 6 11 = nI 2 from (hF4.i _ _ (pPc_f (by omega))).trans h5.1, N_cl (by omega), show x4.1 36 1 = nI (W.1 1) from (h6.1.pPc hF4).2.2.2.1.1 1 (by omega)]
    refine bf (by simp (disch := omega) only [N_lit, N_add, N_mul, N_sub, N_addneg, N_neg1, N_addm, N_le, N_lt, N_eq, N_in, N_cl, N_ne, N_ne', N_ltm, N_mlt, N_lem] <;> omega) ⟨N_in ⟨by omega, by omega⟩, c_paint2 hP4 (by show 5 < 32; omega) (by omega) hF4 (fun x5 hP5 hF5 => ⟨N_in ⟨by omega, by omega⟩, ?_⟩)⟩
    rw [show x5.1 37 1 = nI (W.2.1 1) from (h6.1.pPc hF5).2.2.2.1.2.1 1 (by omega) (h5.2.2.1.2 rfl)]
    refine c_paint hP5 (by show 7 < 33; omega) (by omega) hF5 (fun x6 hP6 hF6 => ?_)
    intro y7 ey7
    rw [ey7, nI_1]
    show nd_X11_image_18 (lp_X11_image_18 Q 2045) Q (nI 2) x6
    unfold nd_X11_image_18
    rw [show x6.1 6 11 = nI 2 from (hF6.i _ _ (pPc_f (by omega))).trans h5.1]
    exact bt (by simp (disch := omega) only [N_lit, N_add, N_mul, N_sub, N_addneg, N_neg1, N_addm, N_le, N_lt, N_eq, N_in, N_cl, N_ne, N_ne', N_ltm, N_mlt, N_lem] <;> omega) (lastc x6 hP6 hF6)

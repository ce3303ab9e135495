/-! the cells of the picture among the heap's -/
theorem fz_ad_ge {g : fz_G} {a : Nat} (h : 2 ≤ a) : fz_ad g a = g.2.2.2.1.size + (a - 2) := by
  unfold fz_ad
  rw [if_neg (by omega), if_neg (by omega)]
theorem fz_ws_at {g : fz_G} {h : fz_H} {a : Nat} (h2 : 2 ≤ a) (ha : a < h.1.length) : (fz_ws g h)[a - 2]? = some (fz_ad g a, fz_ce g h a) := by
  unfold fz_ws
  rw [List.getElem?_map, List.getElem?_range (by omega), fz_ad_ge h2]
  show some (_, fz_ce g h (a - 2 + 2)) = _
  rw [Nat.sub_add_cancel h2]
theorem fz_ws_set {g : fz_G} {h h' : fz_H} {a : Nat} (h2 : 2 ≤ a) (ha : a < h.1.length) (hs : h'.1 = h.1) (hce : ∀ k, k ≠ a → fz_ce g h' k = fz_ce g h k) : (fz_ws g h).set (a - 2) (fz_ad g a, fz_ce g h' a) = fz_ws g h' := by
  refine List.ext_getElem? fun i => ?_
  by_cases hi : i = a - 2
  · subst hi
    rw [List.getElem?_set_self (by unfold fz_ws; simp; omega), fz_ws_at h2 (by rw [hs]; exact ha)]
  · rw [List.getElem?_set_ne (Ne.symm hi)]
    unfold fz_ws
    rw [List.getElem?_map, List.getElem?_map, hs]
    by_cases hl : i < h.1.length - 2
    · rw [List.getElem?_range hl]
      show some (_, fz_ce g h (i + 2)) = some (_, fz_ce g h' (i + 2))
      rw [hce (i + 2) (by omega)]
    · rw [List.getElem?_eq_none (by simp; omega)]
      rfl
theorem fz_lt {h : fz_H} {a : Nat} {x : Nat × Nat} (hx : h.1[a]? = some x) : a < h.1.length := (List.getElem?_eq_some_iff.mp hx).1
theorem fz_gd {h : fz_H} {a : Nat} {x : Nat × Nat} (hx : h.1[a]? = some x) : h.1.getD a (0, 0) = x := by rw [List.getD_eq_getElem?_getD, hx]; rfl
theorem fz_ce13 {g : fz_G} {h : fz_H} {a n : Nat} (hx : h.1[a]? = some (13, n)) : fz_ce g h a = .inl (g.2.2.1 0, n, .inl (h.2.1 a)) := by unfold fz_ce; rw [fz_gd hx]; rfl
theorem fz_ce14 {g : fz_G} {h : fz_H} {a n : Nat} (hx : h.1[a]? = some (14, n)) : fz_ce g h a = .inl (g.2.2.1 1, n, .inl (h.2.1 a)) := by unfold fz_ce; rw [fz_gd hx]; rfl
theorem fz_ce15 {g : fz_G} {h : fz_H} {a n : Nat} (hx : h.1[a]? = some (15, n)) : fz_ce g h a = .inl (g.2.2.1 2, n, .inr (.inl (h.2.2.1 a))) := by unfold fz_ce; rw [fz_gd hx]; rfl
theorem fz_ce16 {g : fz_G} {h : fz_H} {a n : Nat} (hx : h.1[a]? = some (16, n)) : fz_ce g h a = .inl (g.2.2.1 3, n, .inl (h.2.1 a)) := by unfold fz_ce; rw [fz_gd hx]; rfl
theorem fz_ce17 {g : fz_G} {h : fz_H} {a n : Nat} (hx : h.1[a]? = some (17, n)) : fz_ce g h a = .inl (g.2.2.1 4, n, .inr (.inr (.inr (.inr (fun j => (h.2.2.2 a j).map (fz_ad g)))))) := by unfold fz_ce; rw [fz_gd hx]; rfl
theorem fz_ceO {g : fz_G} {h : fz_H} {a ci n : Nat} (hx : h.1[a]? = some (ci, n)) (hc : ci < 13) : fz_ce g h a = .inr (ci, (List.range n).map (fz_v g h ci a)) := by
  unfold fz_ce
  rw [fz_gd hx]
  split
  all_goals first
    | (rename_i q; have := congrArg Prod.fst q; simp at this; omega)
    | (rename_i q; cases q; rfl)
/-- a cell is written -/
theorem fz_Rel.upd {g : fz_G} {h h' : fz_H} {H H1 : Heap} {locs : List Loc} {a k : Nat} (hR : fz_Rel g h H locs) (h2 : 2 ≤ a) (ha : a < h.1.length) (hs : h'.1 = h.1) (hce : ∀ k, k ≠ a → fz_ce g h' k = fz_ce g h k) (hx : ∀ j, h'.2.1 0 j = h.2.1 0 j) (hc : va_at (fz_D g) vwCl (fz_ad g a, fz_ce g h' a) H1) (z : H1.size = H.size) (oq : ∀ q : Nat, q ≠ fz_ad g a → H1[q]? = H[q]?) : fz_Rel g h' H1 (locs ++ [⟨fz_ad g a, k⟩]) := by
  obtain ⟨hP, hD, hS, hz, h3, h4, h5, h6⟩ := hR
  refine ⟨?_, ?_, hS.put z oq ?_, by rw [z, hs]; exact hz, by rw [hs]; exact h3, by rw [hs]; exact h4, by rw [hs]; exact h5, fun j hj => by rw [hx]; exact h6 j hj⟩
  · rw [← fz_ws_set h2 ha hs hce]
    exact hP.set hD (fz_ws_at h2 ha) hc oq
  · rw [← fz_ws_set h2 ha hs hce]
    exact hD.set (fz_ws_at h2 ha)
  · show _ ≤ _
    rw [fz_ad_ge h2]
    omega
theorem fz_Rel.cell {g : fz_G} {h : fz_H} {H : Heap} {locs : List Loc} {a : Nat} (hR : fz_Rel g h H locs) (h2 : 2 ≤ a) (ha : a < h.1.length) : va_at (fz_D g) vwCl (fz_ad g a, fz_ce g h a) H := hR.1 _ _ (fz_ws_at h2 ha)
theorem fz_Rel.locs {g : fz_G} {h : fz_H} {H : Heap} {l1 l2 : List Loc} (hR : fz_Rel g h H l1) (hl : ∀ q ∈ l2, fz_A g q.base) : fz_Rel g h H l2 := ⟨hR.1, hR.2.1, ⟨hR.2.2.1.1, hR.2.2.1.2.1, hl⟩, hR.2.2.2⟩
/-- writing into the picture -/
def fz_sA (h : fz_H) (a : Nat) (f : Nat → Int32) : fz_H := (h.1, fun b => if b = a then f else h.2.1 b, h.2.2.1, h.2.2.2)
def fz_sI (h : fz_H) (a j : Nat) (x : Int32) : fz_H := (h.1, fun b => if b = a then upd (h.2.1 a) j x else h.2.1 b, h.2.2.1, h.2.2.2)
def fz_sL (h : fz_H) (a j : Nat) (x : Int64) : fz_H := (h.1, h.2.1, fun b => if b = a then vp_updL (h.2.2.1 a) j x else h.2.2.1 b, h.2.2.2)
def fz_sP (h : fz_H) (a j : Nat) (x : Option Nat) : fz_H := (h.1, h.2.1, h.2.2.1, fun b => if b = a then va_up (h.2.2.2 a) j x else h.2.2.2 b)
theorem fz_vI {g : fz_G} {h : fz_H} {ci a j : Nat} (ht : fz_ty ci j = .int ∨ fz_ty ci j = .boolean) : fz_v g h ci a j = .int (h.2.1 a j) := by unfold fz_v; rcases ht with q | q <;> rw [q]
theorem fz_vL {g : fz_G} {h : fz_H} {ci a j : Nat} (ht : fz_ty ci j = .long) : fz_v g h ci a j = .long (h.2.2.1 a j) := by unfold fz_v; rw [ht]
theorem fz_vR {g : fz_G} {h : fz_H} {ci a j : Nat} (ht : (∃ c, fz_ty ci j = .object c) ∨ ∃ t, fz_ty ci j = .array t) : fz_v g h ci a j = va_rf ((h.2.2.2 a j).map (fz_ad g)) := by unfold fz_v; rcases ht with ⟨c, q⟩ | ⟨c, q⟩ <;> rw [q]
theorem fz_vcong {g : fz_G} {h h' : fz_H} {ci a : Nat} (e1 : h'.2.1 a = h.2.1 a) (e2 : h'.2.2.1 a = h.2.2.1 a) (e3 : h'.2.2.2 a = h.2.2.2 a) (j : Nat) : fz_v g h' ci a j = fz_v g h ci a j := by unfold fz_v; rw [e1, e2, e3]
theorem fz_cecong {g : fz_G} {h h' : fz_H} {a : Nat} (e0 : h'.1 = h.1) (e1 : h'.2.1 a = h.2.1 a) (e2 : h'.2.2.1 a = h.2.2.1 a) (e3 : h'.2.2.2 a = h.2.2.2 a) : fz_ce g h' a = fz_ce g h a := by
  have ev : ∀ ci, fz_v g h' ci a = fz_v g h ci a := fun ci => funext (fz_vcong e1 e2 e3)
  unfold fz_ce
  rw [e0, e1, e2, e3]
  simp only [ev]
theorem fz_mapset {n j : Nat} {f f' : Nat → Value} {v : Value} (hv : f' j = v) (ho : ∀ i, i ≠ j → f' i = f i) : ((List.range n).map f).set j v = (List.range n).map f' := by
  refine List.ext_getElem? fun i => ?_
  by_cases hi : i = j
  · subst hi
    by_cases hl : i < n
    · rw [List.getElem?_set_self (by simpa using hl), List.getElem?_map, List.getElem?_range hl, ← hv]
      rfl
    · rw [List.getElem?_eq_none (by simpa using hl), List.getElem?_eq_none (by simpa using hl)]
  · rw [List.getElem?_set_ne (Ne.symm hi), List.getElem?_map, List.getElem?_map]
    by_cases hl : i < n
    · rw [List.getElem?_range hl]
      exact congrArg some (ho i hi).symm
    · rw [List.getElem?_eq_none (by simpa using hl)]
      rfl
theorem fz_places {ws : List Cond} (ps : List Nat) (h : ps.map (fun i => lw_tbl[i]?) = ws.map some) (hg : ws.all goodWord = true) : ∀ w ∈ ws, w ∈ fz_T := by
  intro w hw
  obtain ⟨k, hk⟩ := List.getElem?_of_mem hw
  have h1 : (ps.map (fun i => lw_tbl[i]?))[k]? = some (some w) := by rw [h, List.getElem?_map, hk]; rfl
  rw [List.getElem?_map] at h1
  cases hp : ps[k]? with
  | none => rw [hp] at h1; cases h1
  | some i => rw [hp] at h1; exact fz_in i (Option.some.inj h1) (List.all_eq_true.mp hg w hw)
theorem fz_lays0 : ∀ w ∈ u_ws RX0 TX0 3, w ∈ fz_T := fz_places [367, 369, 371] (by decide +kernel) (by decide +kernel)
theorem fz_lays1 : ∀ w ∈ u_ws RX1 TX1 6, w ∈ fz_T := fz_places [490, 492, 494, 496, 498, 500] (by decide +kernel) (by decide +kernel)
theorem fz_lays2 : ∀ w ∈ u_ws RX2 TX2 5, w ∈ fz_T := fz_places [240, 242, 244, 246, 248] (by decide +kernel) (by decide +kernel)
theorem fz_lays3 : ∀ w ∈ u_ws RX3 TX3 6, w ∈ fz_T := fz_places [464, 466, 468, 470, 472, 474] (by decide +kernel) (by decide +kernel)
theorem fz_lays4 : ∀ w ∈ u_ws RX4 TX4 6, w ∈ fz_T := fz_places [435, 437, 439, 441, 443, 445] (by decide +kernel) (by decide +kernel)
theorem fz_lays5 : ∀ w ∈ u_ws RX5 TX5 3, w ∈ fz_T := fz_places [336, 338, 340] (by decide +kernel) (by decide +kernel)
theorem fz_lays6 : ∀ w ∈ u_ws RX6 TX6 6, w ∈ fz_T := fz_places [520, 522, 524, 526, 528, 530] (by decide +kernel) (by decide +kernel)
theorem fz_lays7 : ∀ w ∈ u_ws RX7 TX7 2, w ∈ fz_T := fz_places [354, 356] (by decide +kernel) (by decide +kernel)
theorem fz_lays8 : ∀ w ∈ u_ws RX8 TX8 9, w ∈ fz_T := fz_places [207, 209, 211, 213, 215, 217, 219, 221, 223] (by decide +kernel) (by decide +kernel)
theorem fz_lays9 : ∀ w ∈ u_ws RX9 TX9 15, w ∈ fz_T := fz_places [296, 298, 300, 302, 304, 306, 308, 310, 312, 314, 316, 318, 320, 322, 324] (by decide +kernel) (by decide +kernel)
theorem fz_lays10 : ∀ w ∈ u_ws RX10 TX10 7, w ∈ fz_T := fz_places [404, 406, 408, 410, 412, 414, 416] (by decide +kernel) (by decide +kernel)
theorem fz_lays11 : ∀ w ∈ u_ws RX11 TX11 20, w ∈ fz_T := fz_places [553, 555, 557, 559, 561, 563, 565, 567, 569, 571, 573, 575, 577, 579, 581, 583, 585, 587, 589, 591] (by decide +kernel) (by decide +kernel)
theorem fz_lays12 : ∀ w ∈ u_ws RX12 TX12 112, w ∈ fz_T := fz_places [1464, 1466, 1468, 1470, 1472, 1474, 1476, 1478, 1480, 1482, 1484, 1486, 1488, 1490, 1492, 1494, 1496, 1498, 1500, 1502, 1504, 1506, 1508, 1510, 1512, 1514, 1516, 1518, 1520, 1522, 1524, 1526, 1528, 1530, 1532, 1534, 1536, 1538, 1540, 1542, 1544, 1546, 1548, 1550, 1552, 1554, 1556, 1558, 1560, 1562, 1564, 1566, 1568, 1570, 1572, 1574, 1576, 1578, 1580, 1582, 1584, 1586, 1588, 1590, 1592, 1594, 1596, 1598, 1600, 1602, 1604, 1606, 1608, 1610, 1612, 1614, 1616, 1618, 1620, 1622, 1624, 1626, 1628, 1630, 1632, 1634, 1636, 1638, 1640, 1642, 1644, 1646, 1648, 1650, 1652, 1654, 1656, 1658, 1660, 1662, 1664, 1666, 1668, 1670, 1672, 1674, 1676, 1678, 1680, 1682, 1684, 1686] (by decide +kernel) (by decide +kernel)
theorem fz_cls {ci N : Nat} {C : String} {T : u_T} (hc : vwCl[ci]? = some (C, T, N)) : ci < 13 ∧ (∀ w ∈ u_ws C T N, w ∈ fz_T) ∧ (∀ k, k < N → parseFieldDescriptor (T k).2.2.1 = some (fz_ty ci k)) ∧ (∀ a, a < N → ∀ b, b < N → a ≠ b → (T a).2.1 ≠ (T b).2.1) := by
  match ci, hc with
  | 0, hc => cases hc; exact ⟨by decide, fz_lays0, tyX0_ok, nmX0⟩
  | 1, hc => cases hc; exact ⟨by decide, fz_lays1, tyX1_ok, nmX1⟩
  | 2, hc => cases hc; exact ⟨by decide, fz_lays2, tyX2_ok, nmX2⟩
  | 3, hc => cases hc; exact ⟨by decide, fz_lays3, tyX3_ok, nmX3⟩
  | 4, hc => cases hc; exact ⟨by decide, fz_lays4, tyX4_ok, nmX4⟩
  | 5, hc => cases hc; exact ⟨by decide, fz_lays5, tyX5_ok, nmX5⟩
  | 6, hc => cases hc; exact ⟨by decide, fz_lays6, tyX6_ok, nmX6⟩
  | 7, hc => cases hc; exact ⟨by decide, fz_lays7, tyX7_ok, nmX7⟩
  | 8, hc => cases hc; exact ⟨by decide, fz_lays8, tyX8_ok, nmX8⟩
  | 9, hc => cases hc; exact ⟨by decide, fz_lays9, tyX9_ok, nmX9⟩
  | 10, hc => cases hc; exact ⟨by decide, fz_lays10, tyX10_ok, nmX10⟩
  | 11, hc => cases hc; exact ⟨by decide, fz_lays11, tyX11_ok, nmX11⟩
  | 12, hc => cases hc; exact ⟨by decide, fz_lays12, tyX12_ok, nmX12⟩
  | k + 13, hc => simp [vwCl] at hc
/-- a field's link: the class that speaks of it, the pool's number, the field's class and place -/
def fz_fl (own : String) (idx ci j : Nat) : Prop := ∃ (C : String) (T : u_T) (N : Nat), vwCl[ci]? = some (C, T, N) ∧ j < N ∧ Cond.fieldLink own idx (T j).1 (T j).2.1 (T j).2.2.1 ∈ fz_T
/-- a cell is an object of a class -/
def fz_ob (h : fz_H) (a ci : Nat) : Prop := 2 ≤ a ∧ ∃ (C : String) (T : u_T) (N : Nat), vwCl[ci]? = some (C, T, N) ∧ h.1[a]? = some (ci, N)
section FH
variable {g : fz_G} {l : Launch} {μ : fz_M} {d ra rb pc : Nat} {ls st : List Value} {h : fz_H} {Q : Option Value → fz_H → Prop}
theorem fv_get {idx ci j a : Nat} {v : Value} (hd : decode μ.2.1 pc = .ok (.getfield idx, 3)) (hf : fz_fl μ.1.cls idx ci j) (ho : fz_ob h a ci) (hv : fz_v g h ci a j = fz_tr g v) (k : fz_V g l μ d ra rb (pc + 3) ls (v :: st) h Q) : fz_V g l μ d ra rb pc ls (.ref a :: st) h Q := by
  intro p e R s m args below meth c H locs cells slots lc Mc Ms QQ C RM hl hR hE
  obtain ⟨C0, T, N, hc, hj, hlk⟩ := hf
  obtain ⟨h2, C1, T1, N1, hc1, hsh⟩ := ho
  cases hc.symm.trans hc1
  obtain ⟨q1, q2, q3, q4⟩ := fz_cls hc
  have he := fz_ws_at (g := g) h2 (fz_lt hsh)
  rw [fz_ceO hsh q1] at he
  refine va_get (D := fz_D g) (Ts := fz_T) C.1 C.2.1 C.2.2.2.2.2.1 q2 C.2.2.2.2.1 C.2.2.2.2.2.2.2.2.1 hR.1 (a - 2) he hc j hj (C.2.2.2.2.2.1 _ hlk) (fun _ h9 => h9) (v := fz_tr g v) ?_ hd (k p e R s m args below meth c H locs cells slots lc Mc Ms QQ C RM hl hR hE)
  rw [List.getElem?_map, List.getElem?_range hj]
  exact congrArg some hv
theorem fv_geti {idx ci j a : Nat} (hd : decode μ.2.1 pc = .ok (.getfield idx, 3)) (hf : fz_fl μ.1.cls idx ci j) (ho : fz_ob h a ci) (ht : fz_ty ci j = .int ∨ fz_ty ci j = .boolean) (k : fz_V g l μ d ra rb (pc + 3) ls (.int (h.2.1 a j) :: st) h Q) : fz_V g l μ d ra rb pc ls (.ref a :: st) h Q := fv_get hd hf ho (v := .int (h.2.1 a j)) (fz_vI ht) k
theorem fv_getl {idx ci j a : Nat} (hd : decode μ.2.1 pc = .ok (.getfield idx, 3)) (hf : fz_fl μ.1.cls idx ci j) (ho : fz_ob h a ci) (ht : fz_ty ci j = .long) (k : fz_V g l μ d ra rb (pc + 3) ls (.long (h.2.2.1 a j) :: st) h Q) : fz_V g l μ d ra rb pc ls (.ref a :: st) h Q := fv_get hd hf ho (v := .long (h.2.2.1 a j)) (fz_vL ht) k
theorem fv_getr {idx ci j a b : Nat} (hd : decode μ.2.1 pc = .ok (.getfield idx, 3)) (hf : fz_fl μ.1.cls idx ci j) (ho : fz_ob h a ci) (ht : (∃ c, fz_ty ci j = .object c) ∨ ∃ t, fz_ty ci j = .array t) (hp : h.2.2.2 a j = some b) (k : fz_V g l μ d ra rb (pc + 3) ls (.ref b :: st) h Q) : fz_V g l μ d ra rb pc ls (.ref a :: st) h Q := fv_get hd hf ho (v := .ref b) (by rw [fz_vR ht, hp]; rfl) k
/-- a field is written -/
theorem fv_put {idx ci j a : Nat} {v : Value} {h' : fz_H} (hd : decode μ.2.1 pc = .ok (.putfield idx, 3)) (hf : ∃ (C : String) (T : u_T) (N : Nat), vwCl[ci]? = some (C, T, N) ∧ j < N ∧ Cond.fieldLink μ.1.cls idx (T j).1 (T j).2.1 (T j).2.2.1 ∈ fz_T ∧ ((T j).2.2.2 = false ∨ ((T j).2.2.2 = true ∧ μ.1.name = "<init>" ∧ (T j).1 = μ.1.cls))) (ho : fz_ob h a ci) (hn : narrow (fz_ty ci j) (fz_tr g v) = fz_tr g v) (hfit : fits (fz_ty ci j) (fz_tr g v) = true)
    (hs : h'.1 = h.1) (hx : ∀ j, h'.2.1 0 j = h.2.1 0 j) (ho1 : ∀ k, k ≠ a → h'.2.1 k = h.2.1 k ∧ h'.2.2.1 k = h.2.2.1 k ∧ h'.2.2.2 k = h.2.2.2 k) (hv : fz_v g h' ci a j = fz_tr g v) (ho2 : ∀ i, i ≠ j → fz_v g h' ci a i = fz_v g h ci a i) (k : fz_V g l μ d ra rb (pc + 3) ls st h' Q) : fz_V g l μ d ra rb pc ls (v :: .ref a :: st) h Q := by
  intro p e R s m args below meth c H locs cells slots lc Mc Ms QQ C RM hl hR hE
  obtain ⟨C0, T, N, hc, hj, hlk, hfin⟩ := hf
  obtain ⟨h2, C1, T1, N1, hc1, hsh⟩ := ho
  cases hc.symm.trans hc1
  obtain ⟨q1, q2, q3, q4⟩ := fz_cls hc
  have hap := va_apart (own := μ.1.cls) C.2.2.2.2.2.1 q2 (fz_ty ci) q3 q4 C.2.2.2.2.2.2.2.2.1 hc
  have hat := hR.cell h2 (fz_lt hsh)
  rw [fz_ceO hsh q1] at hat
  obtain ⟨r, r1, cell, c1, c2, c3, c4⟩ := hat
  have hr : r = (C0, T, N) := Option.some.inj (r1.symm.trans hc)
  subst hr
  obtain ⟨hS, hfc, kC, hkC, hkind⟩ := C.2.2.2.2.2.2.2.2.1.1 ci _ hc
  obtain ⟨cf, kf, fi, f, hi, hsl⟩ := hS j hj
  have hst := (u_facts hfc hkC (u_lays C.2.2.2.2.2.1 q2 hj) hi).1
  have hlay := C.2.2.2.2.2.1 _ (q2 _ (u_in_lay hj))
  unfold u_lay at hlay
  have hce : ∀ k, k ≠ a → fz_ce g h' k = fz_ce g h k := fun k hk => fz_cecong hs (ho1 k hk).1 (ho1 k hk).2.1 (ho1 k hk).2.2
  have fin : ∀ H', H'[fz_ad g a]? = some (cell.setSlot f.slot (fz_tr g v)) → H'.size = H.size → (∀ q, q ≠ fz_ad g a → H'[q]? = H[q]?) → fz_Rel g h' H' (locs ++ [⟨fz_ad g a, f.slot⟩]) := by
    intro H' e1 e2 e3
    rw [hsl] at e1 ⊢
    refine hR.upd h2 (fz_lt hsh) hs hce hx ?_ e2 e3
    rw [fz_ceO (by rw [hs]; exact hsh) q1, ← fz_mapset hv ho2]
    exact ⟨_, hc, t_OB.to (V := updV (vp_V ((List.range N).map (fz_v g h ci a))) j (fz_tr g v)) ⟨_, e1, c2, c3, t_set c4 hap hj _⟩ (fun i _ => vp_updV_set (by simpa using hj) _ i)⟩
  rcases hfin with hfin | ⟨hfin, hin, hdecl⟩
  · rw [if_neg (by rw [hfin]; decide)] at hlay
    have h6 := u_store hfc hkC hkind hlay hi (q3 j hj) hn hfit
    exact W.putK C.1 C.2.1 (f := f) ⟨C.2.2.2.2.1, C.2.2.2.2.2.1 _ hlk, ⟨_, _, _, hi⟩, hst⟩ (by rw [c2]; exact h6) c1 c3 (by rw [hsl]; exact k2_hasslot (c4 j hj)) rfl rfl hd fun H' e1 e2 e3 => (k p e R s m args below meth c H' _ cells slots lc Mc Ms QQ C RM hl (fin H' e1 e2 e3) hE)
  · rw [if_pos hfin] at hlay
    have hcf : m.cls = cf := by
      obtain ⟨_, _, c', _, _, _, -, -, hf', -, -, -, hown2, -⟩ := Cond.laysFinal_spec hlay
      have e1 : c' = cf := by have := hi.symm.trans hf'; simp at this; exact this.1.symm
      rw [hdecl] at hown2
      rw [← e1]; exact Option.some.inj (C.2.2.2.2.1.symm.trans hown2)
    have h6 := u_fits hfc hkC hkind (Or.inr hlay) hi (q3 j hj) hn hfit
    exact W.putFinK C.1 C.2.1 C.2.2.2.2.1 (C.2.2.2.2.2.1 _ hlk) hi hst hcf (C.2.2.2.2.2.2.2.1 hin) (by rw [c2]; exact h6) c1 c3 (by rw [hsl]; exact k2_hasslot (c4 j hj)) rfl rfl hd fun H' e1 e2 e3 => (k p e R s m args below meth c H' _ cells slots lc Mc Ms QQ C RM hl (fin H' e1 e2 e3) hE)
end FH

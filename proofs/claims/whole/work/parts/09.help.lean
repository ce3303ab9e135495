/-! rules that the printed methods use -/
def fz_lshl (x : Int64) (y : Int32) : Int64 := x <<< (y.toInt64 &&& 63)
theorem fz_le_n {r : List Value} : fz_le [] r := by cases r <;> trivial
theorem fz_le_j {u : Value} {t r : List Value} (k : fz_le t r) : fz_le (fz_J :: t) (u :: r) := ⟨Or.inl rfl, k⟩
theorem fz_le_e {v : Value} {t r : List Value} (k : fz_le t r) : fz_le (v :: t) (v :: r) := ⟨Or.inr rfl, k⟩
section FT
variable {g : fz_G} {l : Launch} {μ y : fz_M} {d pc n idx : Nat} {b : Bool} {ls st : List Value} {s : fz_s} {Q : Option Value → fz_s → Prop}
theorem fs_lshl {x : Int64} {y : Int32} (hd : decode μ.2.1 pc = .ok (.lshl, 1)) (k : fs_V g l μ d b (pc + 1) ls (.long (fz_lshl x y) :: st) s Q) : fs_V g l μ d b pc ls (.int y :: .long x :: st) s Q := fun t p e R s0 m args below meth c H locs cells slots lc Mc Ms QQ C RM hl hR hE => lv_lshl C.1 C.2.1 hd rfl (k t p e R s0 m args below meth c H locs cells slots lc Mc Ms QQ C RM hl hR hE)
theorem fs_topi {x : Int32} (k : ∀ z : Int32, z = x → fs_V g l μ d b pc ls (.int z :: st) s Q) : fs_V g l μ d b pc ls (.int x :: st) s Q := k x rfl
theorem fs_topl {x : Int64} (k : ∀ z : Int64, z = x → fs_V g l μ d b pc ls (.long z :: st) s Q) : fs_V g l μ d b pc ls (.long x :: st) s Q := k x rfl
theorem fs_tops (k : ∀ z : fz_s, z = s → fs_V g l μ d b pc ls st z Q) : fs_V g l μ d b pc ls st s Q := k s rfl
theorem fs_iincN {i : Nat} {m : Int} {x c : Int32} (hd : decode μ.2.1 pc = .ok (.iinc i m, 3)) (hx : ls[i]? = some (.int x)) (hc : Int32.ofInt m = c) (hn : i < μ.2.2.1) (k : ∀ z : Int32, z = x + c → fs_V g l μ d b (pc + 3) (fz_st1 ls i (.int z)) st s Q) : fs_V g l μ d b pc ls st s Q := fs_iinc hd hx rfl hn (k _ (by rw [hc]))
theorem fs_tableAt {dflt lo hi : Int} {offs : Array Int} {len : Nat} {x k : Int32} {off : Int} {tgt : Nat} (hx : x = k) (hd : decode μ.2.1 pc = .ok (.tableswitch dflt lo hi offs, len)) (h1 : ¬ k.toInt < lo) (h2 : ¬ hi < k.toInt) (ho : offs[(k.toInt - lo).toNat]? = some off) (ht : (pc : Int) + off = (tgt : Int)) (kk : fs_V g l μ d b tgt ls st s Q) : fs_V g l μ d b pc ls (.int x :: st) s Q := by
  subst hx
  exact fs_tableIn hd h1 h2 ho ht kk
theorem fs_tableOut' {dflt lo hi : Int} {offs : Array Int} {len : Nat} {x : Int32} {ks : List Int32} {tgt : Nat} (hx : ∀ k ∈ ks, ¬ x = k) (hd : decode μ.2.1 pc = .ok (.tableswitch dflt lo hi offs, len)) (hk : ((List.range (hi - lo + 1).toNat).all fun i => ks.any fun k => k.toInt == lo + (i : Int)) = true) (ht : (pc : Int) + dflt = (tgt : Int)) (kk : fs_V g l μ d b tgt ls st s Q) : fs_V g l μ d b pc ls (.int x :: st) s Q := by
  refine fs_tableOut hd ?_ ht kk
  by_cases h1 : x.toInt < lo
  · exact Or.inl h1
  · refine Or.inr (Int.not_le.mp fun h2 => ?_)
    have h3 := List.all_eq_true.mp hk (x.toInt - lo).toNat (List.mem_range.mpr (by omega))
    obtain ⟨k, k1, k2⟩ := List.any_eq_true.mp h3
    have k3 : k.toInt = lo + ((x.toInt - lo).toNat : Int) := by simpa using k2
    exact hx k k1 (Int32.toInt_inj.mp (by rw [k3]; omega))
theorem fs_lookAt {dflt : Int} {ps : Array (Int × Int)} {len : Nat} {x k : Int32} {off : Int} {tgt : Nat} (hx : x = k) (hd : decode μ.2.1 pc = .ok (.lookupswitch dflt ps, len)) (hp : (ps.toList.zip (ps.toList.drop 1)).all (fun (a, next) => a.1 < next.1) = true) (ho : Op.lookupswitch.offset ps.toList dflt k.toInt = off) (ht : (pc : Int) + off = (tgt : Int)) (kk : fs_V g l μ d b tgt ls st s Q) : fs_V g l μ d b pc ls (.int x :: st) s Q := by
  subst hx
  exact fs_lookup hd hp ho ht kk
theorem fs_lookOut1 {dflt o0 : Int} {len : Nat} {x : Int32} {tgt : Nat} (h0 : ¬ x = 0) (hd : decode μ.2.1 pc = .ok (.lookupswitch dflt #[(0, o0)], len)) (ht : (pc : Int) + dflt = (tgt : Int)) (kk : fs_V g l μ d b tgt ls st s Q) : fs_V g l μ d b pc ls (.int x :: st) s Q := fs_lookup hd (by simp) (by show Op.lookupswitch.offset [(0, o0)] dflt x.toInt = dflt; rw [lv_osw h0 (by decide)]; rfl) ht kk
theorem fs_lookOut2 {dflt o0 o1 : Int} {len : Nat} {x : Int32} {tgt : Nat} (h0 : ¬ x = 0) (h1 : ¬ x = 1) (hd : decode μ.2.1 pc = .ok (.lookupswitch dflt #[(0, o0), (1, o1)], len)) (ht : (pc : Int) + dflt = (tgt : Int)) (kk : fs_V g l μ d b tgt ls st s Q) : fs_V g l μ d b pc ls (.int x :: st) s Q := fs_lookup hd (by simp) (by show Op.lookupswitch.offset [(0, o0), (1, o1)] dflt x.toInt = dflt; rw [lv_osw h0 (by decide), lv_osw h1 (by decide)]; rfl) ht kk
end FT
/-- the grammar's methods, that call each other: what each may take for given of the others, some levels below -/
def gm (i : Nat) : fz_M := match i with
  | 0 => m_X2_readTest | 1 => m_X2_both | 2 => m_X2_fact | 3 => m_X2_readSum | 4 => m_X2_product | 5 => m_X2_part | _ => m_X2_ofTwo
def OR (g : fz_G) (l : Launch) (m0 : Nat) (R : Nat → Int32 → fz_s → (Bool → fz_s → Prop) → Prop) : Prop := ∀ (i d : Nat), m0 ≤ d → ∀ (o : Int32) (s : fz_s) (Q : Bool → fz_s → Prop), R i o s Q → fs_V g l (gm i) d true 0 (fz_en [.ref 5, .int o] (gm i).2.2.1) [] s (rZ Q)
def OS (g : fz_G) (l : Launch) (m0 : Nat) (R : Int32 → Int32 → Int64 → fz_s → (Bool → fz_s → Prop) → Prop) : Prop := ∀ (d : Nat), m0 ≤ d → ∀ (o i : Int32) (j : Int64) (s : fz_s) (Q : Bool → fz_s → Prop), R o i j s Q → fs_V g l m_X1_search d true 0 (fz_en [.ref 181, .int o, .int i, .long j] m_X1_search.2.2.1) [] s (rZ Q)

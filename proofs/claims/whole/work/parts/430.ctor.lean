/-- two pictures with the same references -/
def fz_sim0 (h h' : fz_H) : Prop := h.1.length = h'.1.length ∧ h.2.2.2 = h'.2.2.2
theorem fz_sim0.mk {h h' : fz_H} {κ n : Nat} (e : fz_sim0 h h') : fz_sim0 (fz_mk h κ n) (fz_mk h' κ n) := by
  obtain ⟨e1, e2⟩ := e
  refine ⟨?_, ?_⟩
  · show (h.1 ++ [(κ, n)]).length = (h'.1 ++ [(κ, n)]).length
    rw [List.length_append, List.length_append, e1]
  · show (fun b => if b = h.1.length then _ else h.2.2.2 b) = (fun b => if b = h'.1.length then _ else h'.2.2.2 b)
    rw [e1, e2]
theorem fz_sim0.sP {h h' : fz_H} {a j : Nat} {x : Option Nat} (e : fz_sim0 h h') : fz_sim0 (fz_sP h a j x) (fz_sP h' a j x) := by
  refine ⟨e.1, ?_⟩
  show (fun b => if b = a then va_up (h.2.2.2 a) j x else h.2.2.2 b) = (fun b => if b = a then va_up (h'.2.2.2 a) j x else h'.2.2.2 b)
  rw [e.2]
theorem fz_sim0.sI {h h' : fz_H} {a j : Nat} {x : Int32} (e : fz_sim0 h h') : fz_sim0 (fz_sI h a j x) (fz_sI h' a j x) := e
theorem fz_sim0.sL {h h' : fz_H} {a j : Nat} {x : Int64} (e : fz_sim0 h h') : fz_sim0 (fz_sL h a j x) (fz_sL h' a j x) := e
theorem fq_chunk {g : fz_G} {l : Launch} {μ : fz_M} {d ra rb pc N L : Nat} {ls st : List Value} {h h' : fz_H} {Q : Option Value → fz_H → Prop} (hs : fz_to L h' N) (k : ∀ h'', h'' = h' → fz_to L h'' N → fz_V g l μ d ra rb pc ls st h'' Q) : fz_V g l μ d ra rb pc ls st h' Q := k h' rfl hs
def hm_0 (h : fz_H) : fz_H := (fz_sP (fz_mk h 14 1600) 196 0 (some 197))
set_option maxRecDepth 100000 in
set_option maxHeartbeats 4000000 in
theorem k12_0 {g : fz_G} {l : Launch} {d ra rb L : Nat} {h : fz_H} (hs : fz_to L h 197) {Q : Option Value → fz_H → Prop} (k : ∀ h', h' = hm_0 h → fz_to L h' 198 → fz_V g l m_X12_init d ra rb 13 (fz_en [.ref 196] 1) [] h' Q) : fz_V g l m_X12_init d (ra + 1) (rb + 1600) 4 (fz_en [.ref 196] 1) [] h Q := by
  refine fv_aload_n (k0 := 0) (i := 0) dd_X12_init_4 rfl rfl ?_
  refine fv_sipush (n := 1600) (v := 1600) dd_X12_init_5 (by decide) ?_
  refine fq_newaI (M := 1600) hs ca_197 dd_X12_init_8 (by decide) (by decide) (by decide) (fun h1 e1 hs1 => ?_)
  refine fq_putr (ci := 12) (j := 0) hs1 ca_196 (by omega) rfl dd_X12_init_10 pf_X12_7 (Or.inr ⟨_, rfl⟩) (fun h2 e2 hs2 => ?_)
  subst e2
  subst e1
  exact k _ rfl hs2
theorem fz_sim.m0 {h h' : fz_H} (e : fz_sim0 h h') : fz_sim0 (hm_0 h) (hm_0 h') := by
  unfold hm_0
  repeat (first | exact e | apply fz_sim0.sI | apply fz_sim0.sP | apply fz_sim0.mk | apply fz_sim0.sL)
def hm_1 (h : fz_H) : fz_H := (fz_sI h 196 8 (-1))
set_option maxRecDepth 100000 in
set_option maxHeartbeats 4000000 in
theorem k12_1 {g : fz_G} {l : Launch} {d ra rb L : Nat} {h : fz_H} (hs : fz_to L h 198) {Q : Option Value → fz_H → Prop} (k : ∀ h', h' = hm_1 h → fz_to L h' 198 → fz_V g l m_X12_init d ra rb 18 (fz_en [.ref 196] 1) [] h' Q) : fz_V g l m_X12_init d ra rb 13 (fz_en [.ref 196] 1) [] h Q := by
  refine fv_aload_n (k0 := 0) (i := 0) dd_X12_init_13 rfl rfl ?_
  refine fv_iconst (n := -1) (v := -1) dd_X12_init_14 (by decide) ?_
  refine fq_puti (ci := 12) (j := 8) hs ca_196 (by omega) rfl dd_X12_init_15 pf_X12_13 rfl (fun h1 e1 hs1 => ?_)
  subst e1
  exact k _ rfl hs1
theorem fz_sim.m1 {h h' : fz_H} (e : fz_sim0 h h') : fz_sim0 (hm_1 h) (hm_1 h') := by
  unfold hm_1
  repeat (first | exact e | apply fz_sim0.sI | apply fz_sim0.sP | apply fz_sim0.mk | apply fz_sim0.sL)
def hm_2 (h : fz_H) : fz_H := (fz_sP (fz_mk h 14 6) 196 9 (some 198))
set_option maxRecDepth 100000 in
set_option maxHeartbeats 4000000 in
theorem k12_2 {g : fz_G} {l : Launch} {d ra rb L : Nat} {h : fz_H} (hs : fz_to L h 198) {Q : Option Value → fz_H → Prop} (k : ∀ h', h' = hm_2 h → fz_to L h' 199 → fz_V g l m_X12_init d ra rb 26 (fz_en [.ref 196] 1) [] h' Q) : fz_V g l m_X12_init d (ra + 1) (rb + 6) 18 (fz_en [.ref 196] 1) [] h Q := by
  refine fv_aload_n (k0 := 0) (i := 0) dd_X12_init_18 rfl rfl ?_
  refine fv_bipush (n := 6) (v := 6) dd_X12_init_19 (by decide) ?_
  refine fq_newaI (M := 6) hs ca_198 dd_X12_init_21 (by decide) (by decide) (by decide) (fun h1 e1 hs1 => ?_)
  refine fq_putr (ci := 12) (j := 9) hs1 ca_196 (by omega) rfl dd_X12_init_23 pf_X12_17 (Or.inr ⟨_, rfl⟩) (fun h2 e2 hs2 => ?_)
  subst e2
  subst e1
  exact k _ rfl hs2
theorem fz_sim.m2 {h h' : fz_H} (e : fz_sim0 h h') : fz_sim0 (hm_2 h) (hm_2 h') := by
  unfold hm_2
  repeat (first | exact e | apply fz_sim0.sI | apply fz_sim0.sP | apply fz_sim0.mk | apply fz_sim0.sL)
def hm_3 (h : fz_H) : fz_H := (fz_sP (fz_sI (fz_sI (fz_sI (fz_sI (fz_sI (fz_sI (fz_sI (fz_mk h 13 7) 199 0 104) 199 1 97) 199 2 114) 199 3 118) 199 4 101) 199 5 115) 199 6 116) 196 11 (some 199))
set_option maxRecDepth 100000 in
set_option maxHeartbeats 4000000 in
theorem k12_3 {g : fz_G} {l : Launch} {d ra rb L : Nat} {h : fz_H} (hs : fz_to L h 199) {Q : Option Value → fz_H → Prop} (k : ∀ h', h' = hm_3 h → fz_to L h' 200 → fz_V g l m_X12_init d ra rb 70 (fz_en [.ref 196] 1) [] h' Q) : fz_V g l m_X12_init d (ra + 1) (rb + 7) 26 (fz_en [.ref 196] 1) [] h Q := by
  refine fv_aload_n (k0 := 0) (i := 0) dd_X12_init_26 rfl rfl ?_
  refine fv_bipush (n := 7) (v := 7) dd_X12_init_27 (by decide) ?_
  refine fq_newaC (M := 7) hs ca_199 dd_X12_init_29 (by decide) (by decide) (by decide) (fun h1 e1 hs1 => ?_)
  refine fv_dup dd_X12_init_31 rfl ?_
  refine fv_iconst (n := 0) (v := 0) dd_X12_init_32 (by decide) ?_
  refine fv_bipush (n := 104) (v := 104) dd_X12_init_33 (by decide) ?_
  refine fq_cast (i0 := 0) hs1 ca_199 (by omega) dd_X12_init_35 (vp_in_nI (n := 0) (by decide) (by decide)) rfl rfl (fun h2 e2 hs2 => ?_)
  refine fv_dup dd_X12_init_36 rfl ?_
  refine fv_iconst (n := 1) (v := 1) dd_X12_init_37 (by decide) ?_
  refine fv_bipush (n := 97) (v := 97) dd_X12_init_38 (by decide) ?_
  refine fq_cast (i0 := 1) hs2 ca_199 (by omega) dd_X12_init_40 (vp_in_nI (n := 1) (by decide) (by decide)) rfl rfl (fun h3 e3 hs3 => ?_)
  refine fv_dup dd_X12_init_41 rfl ?_
  refine fv_iconst (n := 2) (v := 2) dd_X12_init_42 (by decide) ?_
  refine fv_bipush (n := 114) (v := 114) dd_X12_init_43 (by decide) ?_
  refine fq_cast (i0 := 2) hs3 ca_199 (by omega) dd_X12_init_45 (vp_in_nI (n := 2) (by decide) (by decide)) rfl rfl (fun h4 e4 hs4 => ?_)
  refine fv_dup dd_X12_init_46 rfl ?_
  refine fv_iconst (n := 3) (v := 3) dd_X12_init_47 (by decide) ?_
  refine fv_bipush (n := 118) (v := 118) dd_X12_init_48 (by decide) ?_
  refine fq_cast (i0 := 3) hs4 ca_199 (by omega) dd_X12_init_50 (vp_in_nI (n := 3) (by decide) (by decide)) rfl rfl (fun h5 e5 hs5 => ?_)
  refine fv_dup dd_X12_init_51 rfl ?_
  refine fv_iconst (n := 4) (v := 4) dd_X12_init_52 (by decide) ?_
  refine fv_bipush (n := 101) (v := 101) dd_X12_init_53 (by decide) ?_
  refine fq_cast (i0 := 4) hs5 ca_199 (by omega) dd_X12_init_55 (vp_in_nI (n := 4) (by decide) (by decide)) rfl rfl (fun h6 e6 hs6 => ?_)
  refine fv_dup dd_X12_init_56 rfl ?_
  refine fv_iconst (n := 5) (v := 5) dd_X12_init_57 (by decide) ?_
  refine fv_bipush (n := 115) (v := 115) dd_X12_init_58 (by decide) ?_
  refine fq_cast (i0 := 5) hs6 ca_199 (by omega) dd_X12_init_60 (vp_in_nI (n := 5) (by decide) (by decide)) rfl rfl (fun h7 e7 hs7 => ?_)
  refine fv_dup dd_X12_init_61 rfl ?_
  refine fv_bipush (n := 6) (v := 6) dd_X12_init_62 (by decide) ?_
  refine fv_bipush (n := 116) (v := 116) dd_X12_init_64 (by decide) ?_
  refine fq_cast (i0 := 6) hs7 ca_199 (by omega) dd_X12_init_66 (vp_in_nI (n := 6) (by decide) (by decide)) rfl rfl (fun h8 e8 hs8 => ?_)
  refine fq_putr (ci := 12) (j := 11) hs8 ca_196 (by omega) rfl dd_X12_init_67 pf_X12_20 (Or.inr ⟨_, rfl⟩) (fun h9 e9 hs9 => ?_)
  subst e9
  subst e8
  subst e7
  subst e6
  subst e5
  subst e4
  subst e3
  subst e2
  subst e1
  exact k _ rfl hs9
theorem fz_sim.m3 {h h' : fz_H} (e : fz_sim0 h h') : fz_sim0 (hm_3 h) (hm_3 h') := by
  unfold hm_3
  repeat (first | exact e | apply fz_sim0.sI | apply fz_sim0.sP | apply fz_sim0.mk | apply fz_sim0.sL)
def hm_4 (h : fz_H) : fz_H := (fz_sP (fz_sI (fz_sI (fz_sI (fz_sI (fz_sI (fz_sI (fz_sI (fz_mk h 13 7) 200 0 113) 200 1 117) 200 2 97) 200 3 114) 200 4 114) 200 5 101) 200 6 108) 196 12 (some 200))
set_option maxRecDepth 100000 in
set_option maxHeartbeats 4000000 in
theorem k12_4 {g : fz_G} {l : Launch} {d ra rb L : Nat} {h : fz_H} (hs : fz_to L h 200) {Q : Option Value → fz_H → Prop} (k : ∀ h', h' = hm_4 h → fz_to L h' 201 → fz_V g l m_X12_init d ra rb 114 (fz_en [.ref 196] 1) [] h' Q) : fz_V g l m_X12_init d (ra + 1) (rb + 7) 70 (fz_en [.ref 196] 1) [] h Q := by
  refine fv_aload_n (k0 := 0) (i := 0) dd_X12_init_70 rfl rfl ?_
  refine fv_bipush (n := 7) (v := 7) dd_X12_init_71 (by decide) ?_
  refine fq_newaC (M := 7) hs ca_200 dd_X12_init_73 (by decide) (by decide) (by decide) (fun h1 e1 hs1 => ?_)
  refine fv_dup dd_X12_init_75 rfl ?_
  refine fv_iconst (n := 0) (v := 0) dd_X12_init_76 (by decide) ?_
  refine fv_bipush (n := 113) (v := 113) dd_X12_init_77 (by decide) ?_
  refine fq_cast (i0 := 0) hs1 ca_200 (by omega) dd_X12_init_79 (vp_in_nI (n := 0) (by decide) (by decide)) rfl rfl (fun h2 e2 hs2 => ?_)
  refine fv_dup dd_X12_init_80 rfl ?_
  refine fv_iconst (n := 1) (v := 1) dd_X12_init_81 (by decide) ?_
  refine fv_bipush (n := 117) (v := 117) dd_X12_init_82 (by decide) ?_
  refine fq_cast (i0 := 1) hs2 ca_200 (by omega) dd_X12_init_84 (vp_in_nI (n := 1) (by decide) (by decide)) rfl rfl (fun h3 e3 hs3 => ?_)
  refine fv_dup dd_X12_init_85 rfl ?_
  refine fv_iconst (n := 2) (v := 2) dd_X12_init_86 (by decide) ?_
  refine fv_bipush (n := 97) (v := 97) dd_X12_init_87 (by decide) ?_
  refine fq_cast (i0 := 2) hs3 ca_200 (by omega) dd_X12_init_89 (vp_in_nI (n := 2) (by decide) (by decide)) rfl rfl (fun h4 e4 hs4 => ?_)
  refine fv_dup dd_X12_init_90 rfl ?_
  refine fv_iconst (n := 3) (v := 3) dd_X12_init_91 (by decide) ?_
  refine fv_bipush (n := 114) (v := 114) dd_X12_init_92 (by decide) ?_
  refine fq_cast (i0 := 3) hs4 ca_200 (by omega) dd_X12_init_94 (vp_in_nI (n := 3) (by decide) (by decide)) rfl rfl (fun h5 e5 hs5 => ?_)
  refine fv_dup dd_X12_init_95 rfl ?_
  refine fv_iconst (n := 4) (v := 4) dd_X12_init_96 (by decide) ?_
  refine fv_bipush (n := 114) (v := 114) dd_X12_init_97 (by decide) ?_
  refine fq_cast (i0 := 4) hs5 ca_200 (by omega) dd_X12_init_99 (vp_in_nI (n := 4) (by decide) (by decide)) rfl rfl (fun h6 e6 hs6 => ?_)
  refine fv_dup dd_X12_init_100 rfl ?_
  refine fv_iconst (n := 5) (v := 5) dd_X12_init_101 (by decide) ?_
  refine fv_bipush (n := 101) (v := 101) dd_X12_init_102 (by decide) ?_
  refine fq_cast (i0 := 5) hs6 ca_200 (by omega) dd_X12_init_104 (vp_in_nI (n := 5) (by decide) (by decide)) rfl rfl (fun h7 e7 hs7 => ?_)
  refine fv_dup dd_X12_init_105 rfl ?_
  refine fv_bipush (n := 6) (v := 6) dd_X12_init_106 (by decide) ?_
  refine fv_bipush (n := 108) (v := 108) dd_X12_init_108 (by decide) ?_
  refine fq_cast (i0 := 6) hs7 ca_200 (by omega) dd_X12_init_110 (vp_in_nI (n := 6) (by decide) (by decide)) rfl rfl (fun h8 e8 hs8 => ?_)
  refine fq_putr (ci := 12) (j := 12) hs8 ca_196 (by omega) rfl dd_X12_init_111 pf_X12_24 (Or.inr ⟨_, rfl⟩) (fun h9 e9 hs9 => ?_)
  subst e9
  subst e8
  subst e7
  subst e6
  subst e5
  subst e4
  subst e3
  subst e2
  subst e1
  exact k _ rfl hs9
theorem fz_sim.m4 {h h' : fz_H} (e : fz_sim0 h h') : fz_sim0 (hm_4 h) (hm_4 h') := by
  unfold hm_4
  repeat (first | exact e | apply fz_sim0.sI | apply fz_sim0.sP | apply fz_sim0.mk | apply fz_sim0.sL)
def hm_5 (h : fz_H) : fz_H := (fz_sP (fz_sI (fz_sI (fz_sI (fz_sI (fz_sI (fz_sI (fz_sI (fz_mk h 13 7) 201 0 118) 201 1 105) 201 2 108) 201 3 108) 201 4 97) 201 5 103) 201 6 101) 196 13 (some 201))
set_option maxRecDepth 100000 in
set_option maxHeartbeats 4000000 in
theorem k12_5 {g : fz_G} {l : Launch} {d ra rb L : Nat} {h : fz_H} (hs : fz_to L h 201) {Q : Option Value → fz_H → Prop} (k : ∀ h', h' = hm_5 h → fz_to L h' 202 → fz_V g l m_X12_init d ra rb 158 (fz_en [.ref 196] 1) [] h' Q) : fz_V g l m_X12_init d (ra + 1) (rb + 7) 114 (fz_en [.ref 196] 1) [] h Q := by
  refine fv_aload_n (k0 := 0) (i := 0) dd_X12_init_114 rfl rfl ?_
  refine fv_bipush (n := 7) (v := 7) dd_X12_init_115 (by decide) ?_
  refine fq_newaC (M := 7) hs ca_201 dd_X12_init_117 (by decide) (by decide) (by decide) (fun h1 e1 hs1 => ?_)
  refine fv_dup dd_X12_init_119 rfl ?_
  refine fv_iconst (n := 0) (v := 0) dd_X12_init_120 (by decide) ?_
  refine fv_bipush (n := 118) (v := 118) dd_X12_init_121 (by decide) ?_
  refine fq_cast (i0 := 0) hs1 ca_201 (by omega) dd_X12_init_123 (vp_in_nI (n := 0) (by decide) (by decide)) rfl rfl (fun h2 e2 hs2 => ?_)
  refine fv_dup dd_X12_init_124 rfl ?_
  refine fv_iconst (n := 1) (v := 1) dd_X12_init_125 (by decide) ?_
  refine fv_bipush (n := 105) (v := 105) dd_X12_init_126 (by decide) ?_
  refine fq_cast (i0 := 1) hs2 ca_201 (by omega) dd_X12_init_128 (vp_in_nI (n := 1) (by decide) (by decide)) rfl rfl (fun h3 e3 hs3 => ?_)
  refine fv_dup dd_X12_init_129 rfl ?_
  refine fv_iconst (n := 2) (v := 2) dd_X12_init_130 (by decide) ?_
  refine fv_bipush (n := 108) (v := 108) dd_X12_init_131 (by decide) ?_
  refine fq_cast (i0 := 2) hs3 ca_201 (by omega) dd_X12_init_133 (vp_in_nI (n := 2) (by decide) (by decide)) rfl rfl (fun h4 e4 hs4 => ?_)
  refine fv_dup dd_X12_init_134 rfl ?_
  refine fv_iconst (n := 3) (v := 3) dd_X12_init_135 (by decide) ?_
  refine fv_bipush (n := 108) (v := 108) dd_X12_init_136 (by decide) ?_
  refine fq_cast (i0 := 3) hs4 ca_201 (by omega) dd_X12_init_138 (vp_in_nI (n := 3) (by decide) (by decide)) rfl rfl (fun h5 e5 hs5 => ?_)
  refine fv_dup dd_X12_init_139 rfl ?_
  refine fv_iconst (n := 4) (v := 4) dd_X12_init_140 (by decide) ?_
  refine fv_bipush (n := 97) (v := 97) dd_X12_init_141 (by decide) ?_
  refine fq_cast (i0 := 4) hs5 ca_201 (by omega) dd_X12_init_143 (vp_in_nI (n := 4) (by decide) (by decide)) rfl rfl (fun h6 e6 hs6 => ?_)
  refine fv_dup dd_X12_init_144 rfl ?_
  refine fv_iconst (n := 5) (v := 5) dd_X12_init_145 (by decide) ?_
  refine fv_bipush (n := 103) (v := 103) dd_X12_init_146 (by decide) ?_
  refine fq_cast (i0 := 5) hs6 ca_201 (by omega) dd_X12_init_148 (vp_in_nI (n := 5) (by decide) (by decide)) rfl rfl (fun h7 e7 hs7 => ?_)
  refine fv_dup dd_X12_init_149 rfl ?_
  refine fv_bipush (n := 6) (v := 6) dd_X12_init_150 (by decide) ?_
  refine fv_bipush (n := 101) (v := 101) dd_X12_init_152 (by decide) ?_
  refine fq_cast (i0 := 6) hs7 ca_201 (by omega) dd_X12_init_154 (vp_in_nI (n := 6) (by decide) (by decide)) rfl rfl (fun h8 e8 hs8 => ?_)
  refine fq_putr (ci := 12) (j := 13) hs8 ca_196 (by omega) rfl dd_X12_init_155 pf_X12_27 (Or.inr ⟨_, rfl⟩) (fun h9 e9 hs9 => ?_)
  subst e9
  subst e8
  subst e7
  subst e6
  subst e5
  subst e4
  subst e3
  subst e2
  subst e1
  exact k _ rfl hs9
theorem fz_sim.m5 {h h' : fz_H} (e : fz_sim0 h h') : fz_sim0 (hm_5 h) (hm_5 h') := by
  unfold hm_5
  repeat (first | exact e | apply fz_sim0.sI | apply fz_sim0.sP | apply fz_sim0.mk | apply fz_sim0.sL)
def hm_6 (h : fz_H) : fz_H := (fz_sP (fz_sI (fz_sI (fz_sI (fz_sI (fz_sI (fz_sI (fz_mk h 13 6) 202 0 112) 202 1 101) 202 2 114) 202 3 115) 202 4 111) 202 5 110) 196 14 (some 202))
set_option maxRecDepth 100000 in
set_option maxHeartbeats 4000000 in
theorem k12_6 {g : fz_G} {l : Launch} {d ra rb L : Nat} {h : fz_H} (hs : fz_to L h 202) {Q : Option Value → fz_H → Prop} (k : ∀ h', h' = hm_6 h → fz_to L h' 203 → fz_V g l m_X12_init d ra rb 196 (fz_en [.ref 196] 1) [] h' Q) : fz_V g l m_X12_init d (ra + 1) (rb + 6) 158 (fz_en [.ref 196] 1) [] h Q := by
  refine fv_aload_n (k0 := 0) (i := 0) dd_X12_init_158 rfl rfl ?_
  refine fv_bipush (n := 6) (v := 6) dd_X12_init_159 (by decide) ?_
  refine fq_newaC (M := 6) hs ca_202 dd_X12_init_161 (by decide) (by decide) (by decide) (fun h1 e1 hs1 => ?_)
  refine fv_dup dd_X12_init_163 rfl ?_
  refine fv_iconst (n := 0) (v := 0) dd_X12_init_164 (by decide) ?_
  refine fv_bipush (n := 112) (v := 112) dd_X12_init_165 (by decide) ?_
  refine fq_cast (i0 := 0) hs1 ca_202 (by omega) dd_X12_init_167 (vp_in_nI (n := 0) (by decide) (by decide)) rfl rfl (fun h2 e2 hs2 => ?_)
  refine fv_dup dd_X12_init_168 rfl ?_
  refine fv_iconst (n := 1) (v := 1) dd_X12_init_169 (by decide) ?_
  refine fv_bipush (n := 101) (v := 101) dd_X12_init_170 (by decide) ?_
  refine fq_cast (i0 := 1) hs2 ca_202 (by omega) dd_X12_init_172 (vp_in_nI (n := 1) (by decide) (by decide)) rfl rfl (fun h3 e3 hs3 => ?_)
  refine fv_dup dd_X12_init_173 rfl ?_
  refine fv_iconst (n := 2) (v := 2) dd_X12_init_174 (by decide) ?_
  refine fv_bipush (n := 114) (v := 114) dd_X12_init_175 (by decide) ?_
  refine fq_cast (i0 := 2) hs3 ca_202 (by omega) dd_X12_init_177 (vp_in_nI (n := 2) (by decide) (by decide)) rfl rfl (fun h4 e4 hs4 => ?_)
  refine fv_dup dd_X12_init_178 rfl ?_
  refine fv_iconst (n := 3) (v := 3) dd_X12_init_179 (by decide) ?_
  refine fv_bipush (n := 115) (v := 115) dd_X12_init_180 (by decide) ?_
  refine fq_cast (i0 := 3) hs4 ca_202 (by omega) dd_X12_init_182 (vp_in_nI (n := 3) (by decide) (by decide)) rfl rfl (fun h5 e5 hs5 => ?_)
  refine fv_dup dd_X12_init_183 rfl ?_
  refine fv_iconst (n := 4) (v := 4) dd_X12_init_184 (by decide) ?_
  refine fv_bipush (n := 111) (v := 111) dd_X12_init_185 (by decide) ?_
  refine fq_cast (i0 := 4) hs5 ca_202 (by omega) dd_X12_init_187 (vp_in_nI (n := 4) (by decide) (by decide)) rfl rfl (fun h6 e6 hs6 => ?_)
  refine fv_dup dd_X12_init_188 rfl ?_
  refine fv_iconst (n := 5) (v := 5) dd_X12_init_189 (by decide) ?_
  refine fv_bipush (n := 110) (v := 110) dd_X12_init_190 (by decide) ?_
  refine fq_cast (i0 := 5) hs6 ca_202 (by omega) dd_X12_init_192 (vp_in_nI (n := 5) (by decide) (by decide)) rfl rfl (fun h7 e7 hs7 => ?_)
  refine fq_putr (ci := 12) (j := 14) hs7 ca_196 (by omega) rfl dd_X12_init_193 pf_X12_30 (Or.inr ⟨_, rfl⟩) (fun h8 e8 hs8 => ?_)
  subst e8
  subst e7
  subst e6
  subst e5
  subst e4
  subst e3
  subst e2
  subst e1
  exact k _ rfl hs8
theorem fz_sim.m6 {h h' : fz_H} (e : fz_sim0 h h') : fz_sim0 (hm_6 h) (hm_6 h') := by
  unfold hm_6
  repeat (first | exact e | apply fz_sim0.sI | apply fz_sim0.sP | apply fz_sim0.mk | apply fz_sim0.sL)
def hm_7 (h : fz_H) : fz_H := (fz_sP (fz_sI (fz_sI (fz_mk h 13 2) 203 0 111) 203 1 102) 196 15 (some 203))
set_option maxRecDepth 100000 in
set_option maxHeartbeats 4000000 in
theorem k12_7 {g : fz_G} {l : Launch} {d ra rb L : Nat} {h : fz_H} (hs : fz_to L h 203) {Q : Option Value → fz_H → Prop} (k : ∀ h', h' = hm_7 h → fz_to L h' 204 → fz_V g l m_X12_init d ra rb 213 (fz_en [.ref 196] 1) [] h' Q) : fz_V g l m_X12_init d (ra + 1) (rb + 2) 196 (fz_en [.ref 196] 1) [] h Q := by
  refine fv_aload_n (k0 := 0) (i := 0) dd_X12_init_196 rfl rfl ?_
  refine fv_iconst (n := 2) (v := 2) dd_X12_init_197 (by decide) ?_
  refine fq_newaC (M := 2) hs ca_203 dd_X12_init_198 (by decide) (by decide) (by decide) (fun h1 e1 hs1 => ?_)
  refine fv_dup dd_X12_init_200 rfl ?_
  refine fv_iconst (n := 0) (v := 0) dd_X12_init_201 (by decide) ?_
  refine fv_bipush (n := 111) (v := 111) dd_X12_init_202 (by decide) ?_
  refine fq_cast (i0 := 0) hs1 ca_203 (by omega) dd_X12_init_204 (vp_in_nI (n := 0) (by decide) (by decide)) rfl rfl (fun h2 e2 hs2 => ?_)
  refine fv_dup dd_X12_init_205 rfl ?_
  refine fv_iconst (n := 1) (v := 1) dd_X12_init_206 (by decide) ?_
  refine fv_bipush (n := 102) (v := 102) dd_X12_init_207 (by decide) ?_
  refine fq_cast (i0 := 1) hs2 ca_203 (by omega) dd_X12_init_209 (vp_in_nI (n := 1) (by decide) (by decide)) rfl rfl (fun h3 e3 hs3 => ?_)
  refine fq_putr (ci := 12) (j := 15) hs3 ca_196 (by omega) rfl dd_X12_init_210 pf_X12_33 (Or.inr ⟨_, rfl⟩) (fun h4 e4 hs4 => ?_)
  subst e4
  subst e3
  subst e2
  subst e1
  exact k _ rfl hs4
theorem fz_sim.m7 {h h' : fz_H} (e : fz_sim0 h h') : fz_sim0 (hm_7 h) (hm_7 h') := by
  unfold hm_7
  repeat (first | exact e | apply fz_sim0.sI | apply fz_sim0.sP | apply fz_sim0.mk | apply fz_sim0.sL)
def hm_8 (h : fz_H) : fz_H := (fz_sP (fz_sI (fz_sI (fz_sI (fz_sI (fz_mk h 13 4) 204 0 119) 204 1 105) 204 2 116) 204 3 115) 196 16 (some 204))
set_option maxRecDepth 100000 in
set_option maxHeartbeats 4000000 in
theorem k12_8 {g : fz_G} {l : Launch} {d ra rb L : Nat} {h : fz_H} (hs : fz_to L h 204) {Q : Option Value → fz_H → Prop} (k : ∀ h', h' = hm_8 h → fz_to L h' 205 → fz_V g l m_X12_init d ra rb 240 (fz_en [.ref 196] 1) [] h' Q) : fz_V g l m_X12_init d (ra + 1) (rb + 4) 213 (fz_en [.ref 196] 1) [] h Q := by
  refine fv_aload_n (k0 := 0) (i := 0) dd_X12_init_213 rfl rfl ?_
  refine fv_iconst (n := 4) (v := 4) dd_X12_init_214 (by decide) ?_
  refine fq_newaC (M := 4) hs ca_204 dd_X12_init_215 (by decide) (by decide) (by decide) (fun h1 e1 hs1 => ?_)
  refine fv_dup dd_X12_init_217 rfl ?_
  refine fv_iconst (n := 0) (v := 0) dd_X12_init_218 (by decide) ?_
  refine fv_bipush (n := 119) (v := 119) dd_X12_init_219 (by decide) ?_
  refine fq_cast (i0 := 0) hs1 ca_204 (by omega) dd_X12_init_221 (vp_in_nI (n := 0) (by decide) (by decide)) rfl rfl (fun h2 e2 hs2 => ?_)
  refine fv_dup dd_X12_init_222 rfl ?_
  refine fv_iconst (n := 1) (v := 1) dd_X12_init_223 (by decide) ?_
  refine fv_bipush (n := 105) (v := 105) dd_X12_init_224 (by decide) ?_
  refine fq_cast (i0 := 1) hs2 ca_204 (by omega) dd_X12_init_226 (vp_in_nI (n := 1) (by decide) (by decide)) rfl rfl (fun h3 e3 hs3 => ?_)
  refine fv_dup dd_X12_init_227 rfl ?_
  refine fv_iconst (n := 2) (v := 2) dd_X12_init_228 (by decide) ?_
  refine fv_bipush (n := 116) (v := 116) dd_X12_init_229 (by decide) ?_
  refine fq_cast (i0 := 2) hs3 ca_204 (by omega) dd_X12_init_231 (vp_in_nI (n := 2) (by decide) (by decide)) rfl rfl (fun h4 e4 hs4 => ?_)
  refine fv_dup dd_X12_init_232 rfl ?_
  refine fv_iconst (n := 3) (v := 3) dd_X12_init_233 (by decide) ?_
  refine fv_bipush (n := 115) (v := 115) dd_X12_init_234 (by decide) ?_
  refine fq_cast (i0 := 3) hs4 ca_204 (by omega) dd_X12_init_236 (vp_in_nI (n := 3) (by decide) (by decide)) rfl rfl (fun h5 e5 hs5 => ?_)
  refine fq_putr (ci := 12) (j := 16) hs5 ca_196 (by omega) rfl dd_X12_init_237 pf_X12_36 (Or.inr ⟨_, rfl⟩) (fun h6 e6 hs6 => ?_)
  subst e6
  subst e5
  subst e4
  subst e3
  subst e2
  subst e1
  exact k _ rfl hs6
theorem fz_sim.m8 {h h' : fz_H} (e : fz_sim0 h h') : fz_sim0 (hm_8 h) (hm_8 h') := by
  unfold hm_8
  repeat (first | exact e | apply fz_sim0.sI | apply fz_sim0.sP | apply fz_sim0.mk | apply fz_sim0.sL)
def hm_9 (h : fz_H) : fz_H := (fz_sP (fz_sI (fz_sI (fz_sI (fz_sI (fz_mk h 13 4) 205 0 111) 205 1 97) 205 2 116) 205 3 104) 196 17 (some 205))
set_option maxRecDepth 100000 in
set_option maxHeartbeats 4000000 in
theorem k12_9 {g : fz_G} {l : Launch} {d ra rb L : Nat} {h : fz_H} (hs : fz_to L h 205) {Q : Option Value → fz_H → Prop} (k : ∀ h', h' = hm_9 h → fz_to L h' 206 → fz_V g l m_X12_init d ra rb 267 (fz_en [.ref 196] 1) [] h' Q) : fz_V g l m_X12_init d (ra + 1) (rb + 4) 240 (fz_en [.ref 196] 1) [] h Q := by
  refine fv_aload_n (k0 := 0) (i := 0) dd_X12_init_240 rfl rfl ?_
  refine fv_iconst (n := 4) (v := 4) dd_X12_init_241 (by decide) ?_
  refine fq_newaC (M := 4) hs ca_205 dd_X12_init_242 (by decide) (by decide) (by decide) (fun h1 e1 hs1 => ?_)
  refine fv_dup dd_X12_init_244 rfl ?_
  refine fv_iconst (n := 0) (v := 0) dd_X12_init_245 (by decide) ?_
  refine fv_bipush (n := 111) (v := 111) dd_X12_init_246 (by decide) ?_
  refine fq_cast (i0 := 0) hs1 ca_205 (by omega) dd_X12_init_248 (vp_in_nI (n := 0) (by decide) (by decide)) rfl rfl (fun h2 e2 hs2 => ?_)
  refine fv_dup dd_X12_init_249 rfl ?_
  refine fv_iconst (n := 1) (v := 1) dd_X12_init_250 (by decide) ?_
  refine fv_bipush (n := 97) (v := 97) dd_X12_init_251 (by decide) ?_
  refine fq_cast (i0 := 1) hs2 ca_205 (by omega) dd_X12_init_253 (vp_in_nI (n := 1) (by decide) (by decide)) rfl rfl (fun h3 e3 hs3 => ?_)
  refine fv_dup dd_X12_init_254 rfl ?_
  refine fv_iconst (n := 2) (v := 2) dd_X12_init_255 (by decide) ?_
  refine fv_bipush (n := 116) (v := 116) dd_X12_init_256 (by decide) ?_
  refine fq_cast (i0 := 2) hs3 ca_205 (by omega) dd_X12_init_258 (vp_in_nI (n := 2) (by decide) (by decide)) rfl rfl (fun h4 e4 hs4 => ?_)
  refine fv_dup dd_X12_init_259 rfl ?_
  refine fv_iconst (n := 3) (v := 3) dd_X12_init_260 (by decide) ?_
  refine fv_bipush (n := 104) (v := 104) dd_X12_init_261 (by decide) ?_
  refine fq_cast (i0 := 3) hs4 ca_205 (by omega) dd_X12_init_263 (vp_in_nI (n := 3) (by decide) (by decide)) rfl rfl (fun h5 e5 hs5 => ?_)
  refine fq_putr (ci := 12) (j := 17) hs5 ca_196 (by omega) rfl dd_X12_init_264 pf_X12_39 (Or.inr ⟨_, rfl⟩) (fun h6 e6 hs6 => ?_)
  subst e6
  subst e5
  subst e4
  subst e3
  subst e2
  subst e1
  exact k _ rfl hs6
theorem fz_sim.m9 {h h' : fz_H} (e : fz_sim0 h h') : fz_sim0 (hm_9 h) (hm_9 h') := by
  unfold hm_9
  repeat (first | exact e | apply fz_sim0.sI | apply fz_sim0.sP | apply fz_sim0.mk | apply fz_sim0.sL)
def hm_10 (h : fz_H) : fz_H := (fz_sP (fz_sI (fz_sI (fz_sI (fz_sI (fz_sI (fz_mk h 13 5) 206 0 99) 206 1 104) 206 2 101) 206 3 101) 206 4 114) 196 18 (some 206))
set_option maxRecDepth 100000 in
set_option maxHeartbeats 4000000 in
theorem k12_10 {g : fz_G} {l : Launch} {d ra rb L : Nat} {h : fz_H} (hs : fz_to L h 206) {Q : Option Value → fz_H → Prop} (k : ∀ h', h' = hm_10 h → fz_to L h' 207 → fz_V g l m_X12_init d ra rb 299 (fz_en [.ref 196] 1) [] h' Q) : fz_V g l m_X12_init d (ra + 1) (rb + 5) 267 (fz_en [.ref 196] 1) [] h Q := by
  refine fv_aload_n (k0 := 0) (i := 0) dd_X12_init_267 rfl rfl ?_
  refine fv_iconst (n := 5) (v := 5) dd_X12_init_268 (by decide) ?_
  refine fq_newaC (M := 5) hs ca_206 dd_X12_init_269 (by decide) (by decide) (by decide) (fun h1 e1 hs1 => ?_)
  refine fv_dup dd_X12_init_271 rfl ?_
  refine fv_iconst (n := 0) (v := 0) dd_X12_init_272 (by decide) ?_
  refine fv_bipush (n := 99) (v := 99) dd_X12_init_273 (by decide) ?_
  refine fq_cast (i0 := 0) hs1 ca_206 (by omega) dd_X12_init_275 (vp_in_nI (n := 0) (by decide) (by decide)) rfl rfl (fun h2 e2 hs2 => ?_)
  refine fv_dup dd_X12_init_276 rfl ?_
  refine fv_iconst (n := 1) (v := 1) dd_X12_init_277 (by decide) ?_
  refine fv_bipush (n := 104) (v := 104) dd_X12_init_278 (by decide) ?_
  refine fq_cast (i0 := 1) hs2 ca_206 (by omega) dd_X12_init_280 (vp_in_nI (n := 1) (by decide) (by decide)) rfl rfl (fun h3 e3 hs3 => ?_)
  refine fv_dup dd_X12_init_281 rfl ?_
  refine fv_iconst (n := 2) (v := 2) dd_X12_init_282 (by decide) ?_
  refine fv_bipush (n := 101) (v := 101) dd_X12_init_283 (by decide) ?_
  refine fq_cast (i0 := 2) hs3 ca_206 (by omega) dd_X12_init_285 (vp_in_nI (n := 2) (by decide) (by decide)) rfl rfl (fun h4 e4 hs4 => ?_)
  refine fv_dup dd_X12_init_286 rfl ?_
  refine fv_iconst (n := 3) (v := 3) dd_X12_init_287 (by decide) ?_
  refine fv_bipush (n := 101) (v := 101) dd_X12_init_288 (by decide) ?_
  refine fq_cast (i0 := 3) hs4 ca_206 (by omega) dd_X12_init_290 (vp_in_nI (n := 3) (by decide) (by decide)) rfl rfl (fun h5 e5 hs5 => ?_)
  refine fv_dup dd_X12_init_291 rfl ?_
  refine fv_iconst (n := 4) (v := 4) dd_X12_init_292 (by decide) ?_
  refine fv_bipush (n := 114) (v := 114) dd_X12_init_293 (by decide) ?_
  refine fq_cast (i0 := 4) hs5 ca_206 (by omega) dd_X12_init_295 (vp_in_nI (n := 4) (by decide) (by decide)) rfl rfl (fun h6 e6 hs6 => ?_)
  refine fq_putr (ci := 12) (j := 18) hs6 ca_196 (by omega) rfl dd_X12_init_296 pf_X12_42 (Or.inr ⟨_, rfl⟩) (fun h7 e7 hs7 => ?_)
  subst e7
  subst e6
  subst e5
  subst e4
  subst e3
  subst e2
  subst e1
  exact k _ rfl hs7
theorem fz_sim.m10 {h h' : fz_H} (e : fz_sim0 h h') : fz_sim0 (hm_10 h) (hm_10 h') := by
  unfold hm_10
  repeat (first | exact e | apply fz_sim0.sI | apply fz_sim0.sP | apply fz_sim0.mk | apply fz_sim0.sL)
def hm_11 (h : fz_H) : fz_H := (fz_sP (fz_sI (fz_sI (fz_sI (fz_sI (fz_sI (fz_mk h 13 5) 207 0 115) 207 1 101) 207 2 110) 207 3 100) 207 4 115) 196 19 (some 207))
set_option maxRecDepth 100000 in
set_option maxHeartbeats 4000000 in
theorem k12_11 {g : fz_G} {l : Launch} {d ra rb L : Nat} {h : fz_H} (hs : fz_to L h 207) {Q : Option Value → fz_H → Prop} (k : ∀ h', h' = hm_11 h → fz_to L h' 208 → fz_V g l m_X12_init d ra rb 331 (fz_en [.ref 196] 1) [] h' Q) : fz_V g l m_X12_init d (ra + 1) (rb + 5) 299 (fz_en [.ref 196] 1) [] h Q := by
  refine fv_aload_n (k0 := 0) (i := 0) dd_X12_init_299 rfl rfl ?_
  refine fv_iconst (n := 5) (v := 5) dd_X12_init_300 (by decide) ?_
  refine fq_newaC (M := 5) hs ca_207 dd_X12_init_301 (by decide) (by decide) (by decide) (fun h1 e1 hs1 => ?_)
  refine fv_dup dd_X12_init_303 rfl ?_
  refine fv_iconst (n := 0) (v := 0) dd_X12_init_304 (by decide) ?_
  refine fv_bipush (n := 115) (v := 115) dd_X12_init_305 (by decide) ?_
  refine fq_cast (i0 := 0) hs1 ca_207 (by omega) dd_X12_init_307 (vp_in_nI (n := 0) (by decide) (by decide)) rfl rfl (fun h2 e2 hs2 => ?_)
  refine fv_dup dd_X12_init_308 rfl ?_
  refine fv_iconst (n := 1) (v := 1) dd_X12_init_309 (by decide) ?_
  refine fv_bipush (n := 101) (v := 101) dd_X12_init_310 (by decide) ?_
  refine fq_cast (i0 := 1) hs2 ca_207 (by omega) dd_X12_init_312 (vp_in_nI (n := 1) (by decide) (by decide)) rfl rfl (fun h3 e3 hs3 => ?_)
  refine fv_dup dd_X12_init_313 rfl ?_
  refine fv_iconst (n := 2) (v := 2) dd_X12_init_314 (by decide) ?_
  refine fv_bipush (n := 110) (v := 110) dd_X12_init_315 (by decide) ?_
  refine fq_cast (i0 := 2) hs3 ca_207 (by omega) dd_X12_init_317 (vp_in_nI (n := 2) (by decide) (by decide)) rfl rfl (fun h4 e4 hs4 => ?_)
  refine fv_dup dd_X12_init_318 rfl ?_
  refine fv_iconst (n := 3) (v := 3) dd_X12_init_319 (by decide) ?_
  refine fv_bipush (n := 100) (v := 100) dd_X12_init_320 (by decide) ?_
  refine fq_cast (i0 := 3) hs4 ca_207 (by omega) dd_X12_init_322 (vp_in_nI (n := 3) (by decide) (by decide)) rfl rfl (fun h5 e5 hs5 => ?_)
  refine fv_dup dd_X12_init_323 rfl ?_
  refine fv_iconst (n := 4) (v := 4) dd_X12_init_324 (by decide) ?_
  refine fv_bipush (n := 115) (v := 115) dd_X12_init_325 (by decide) ?_
  refine fq_cast (i0 := 4) hs5 ca_207 (by omega) dd_X12_init_327 (vp_in_nI (n := 4) (by decide) (by decide)) rfl rfl (fun h6 e6 hs6 => ?_)
  refine fq_putr (ci := 12) (j := 19) hs6 ca_196 (by omega) rfl dd_X12_init_328 pf_X12_45 (Or.inr ⟨_, rfl⟩) (fun h7 e7 hs7 => ?_)
  subst e7
  subst e6
  subst e5
  subst e4
  subst e3
  subst e2
  subst e1
  exact k _ rfl hs7
theorem fz_sim.m11 {h h' : fz_H} (e : fz_sim0 h h') : fz_sim0 (hm_11 h) (hm_11 h') := by
  unfold hm_11
  repeat (first | exact e | apply fz_sim0.sI | apply fz_sim0.sP | apply fz_sim0.mk | apply fz_sim0.sL)
def hm_12 (h : fz_H) : fz_H := (fz_sP (fz_sI (fz_sI (fz_sI (fz_sI (fz_sI (fz_mk h 13 5) 208 0 103) 208 1 111) 208 2 111) 208 3 115) 208 4 101) 196 20 (some 208))
set_option maxRecDepth 100000 in
set_option maxHeartbeats 4000000 in
theorem k12_12 {g : fz_G} {l : Launch} {d ra rb L : Nat} {h : fz_H} (hs : fz_to L h 208) {Q : Option Value → fz_H → Prop} (k : ∀ h', h' = hm_12 h → fz_to L h' 209 → fz_V g l m_X12_init d ra rb 363 (fz_en [.ref 196] 1) [] h' Q) : fz_V g l m_X12_init d (ra + 1) (rb + 5) 331 (fz_en [.ref 196] 1) [] h Q := by
  refine fv_aload_n (k0 := 0) (i := 0) dd_X12_init_331 rfl rfl ?_
  refine fv_iconst (n := 5) (v := 5) dd_X12_init_332 (by decide) ?_
  refine fq_newaC (M := 5) hs ca_208 dd_X12_init_333 (by decide) (by decide) (by decide) (fun h1 e1 hs1 => ?_)
  refine fv_dup dd_X12_init_335 rfl ?_
  refine fv_iconst (n := 0) (v := 0) dd_X12_init_336 (by decide) ?_
  refine fv_bipush (n := 103) (v := 103) dd_X12_init_337 (by decide) ?_
  refine fq_cast (i0 := 0) hs1 ca_208 (by omega) dd_X12_init_339 (vp_in_nI (n := 0) (by decide) (by decide)) rfl rfl (fun h2 e2 hs2 => ?_)
  refine fv_dup dd_X12_init_340 rfl ?_
  refine fv_iconst (n := 1) (v := 1) dd_X12_init_341 (by decide) ?_
  refine fv_bipush (n := 111) (v := 111) dd_X12_init_342 (by decide) ?_
  refine fq_cast (i0 := 1) hs2 ca_208 (by omega) dd_X12_init_344 (vp_in_nI (n := 1) (by decide) (by decide)) rfl rfl (fun h3 e3 hs3 => ?_)
  refine fv_dup dd_X12_init_345 rfl ?_
  refine fv_iconst (n := 2) (v := 2) dd_X12_init_346 (by decide) ?_
  refine fv_bipush (n := 111) (v := 111) dd_X12_init_347 (by decide) ?_
  refine fq_cast (i0 := 2) hs3 ca_208 (by omega) dd_X12_init_349 (vp_in_nI (n := 2) (by decide) (by decide)) rfl rfl (fun h4 e4 hs4 => ?_)
  refine fv_dup dd_X12_init_350 rfl ?_
  refine fv_iconst (n := 3) (v := 3) dd_X12_init_351 (by decide) ?_
  refine fv_bipush (n := 115) (v := 115) dd_X12_init_352 (by decide) ?_
  refine fq_cast (i0 := 3) hs4 ca_208 (by omega) dd_X12_init_354 (vp_in_nI (n := 3) (by decide) (by decide)) rfl rfl (fun h5 e5 hs5 => ?_)
  refine fv_dup dd_X12_init_355 rfl ?_
  refine fv_iconst (n := 4) (v := 4) dd_X12_init_356 (by decide) ?_
  refine fv_bipush (n := 101) (v := 101) dd_X12_init_357 (by decide) ?_
  refine fq_cast (i0 := 4) hs5 ca_208 (by omega) dd_X12_init_359 (vp_in_nI (n := 4) (by decide) (by decide)) rfl rfl (fun h6 e6 hs6 => ?_)
  refine fq_putr (ci := 12) (j := 20) hs6 ca_196 (by omega) rfl dd_X12_init_360 pf_X12_48 (Or.inr ⟨_, rfl⟩) (fun h7 e7 hs7 => ?_)
  subst e7
  subst e6
  subst e5
  subst e4
  subst e3
  subst e2
  subst e1
  exact k _ rfl hs7
theorem fz_sim.m12 {h h' : fz_H} (e : fz_sim0 h h') : fz_sim0 (hm_12 h) (hm_12 h') := by
  unfold hm_12
  repeat (first | exact e | apply fz_sim0.sI | apply fz_sim0.sP | apply fz_sim0.mk | apply fz_sim0.sL)
def hm_13 (h : fz_H) : fz_H := (fz_sP (fz_sI (fz_sI (fz_sI (fz_sI (fz_mk h 13 4) 209 0 100) 209 1 111) 209 2 101) 209 3 115) 196 21 (some 209))
set_option maxRecDepth 100000 in
set_option maxHeartbeats 4000000 in
theorem k12_13 {g : fz_G} {l : Launch} {d ra rb L : Nat} {h : fz_H} (hs : fz_to L h 209) {Q : Option Value → fz_H → Prop} (k : ∀ h', h' = hm_13 h → fz_to L h' 210 → fz_V g l m_X12_init d ra rb 390 (fz_en [.ref 196] 1) [] h' Q) : fz_V g l m_X12_init d (ra + 1) (rb + 4) 363 (fz_en [.ref 196] 1) [] h Q := by
  refine fv_aload_n (k0 := 0) (i := 0) dd_X12_init_363 rfl rfl ?_
  refine fv_iconst (n := 4) (v := 4) dd_X12_init_364 (by decide) ?_
  refine fq_newaC (M := 4) hs ca_209 dd_X12_init_365 (by decide) (by decide) (by decide) (fun h1 e1 hs1 => ?_)
  refine fv_dup dd_X12_init_367 rfl ?_
  refine fv_iconst (n := 0) (v := 0) dd_X12_init_368 (by decide) ?_
  refine fv_bipush (n := 100) (v := 100) dd_X12_init_369 (by decide) ?_
  refine fq_cast (i0 := 0) hs1 ca_209 (by omega) dd_X12_init_371 (vp_in_nI (n := 0) (by decide) (by decide)) rfl rfl (fun h2 e2 hs2 => ?_)
  refine fv_dup dd_X12_init_372 rfl ?_
  refine fv_iconst (n := 1) (v := 1) dd_X12_init_373 (by decide) ?_
  refine fv_bipush (n := 111) (v := 111) dd_X12_init_374 (by decide) ?_
  refine fq_cast (i0 := 1) hs2 ca_209 (by omega) dd_X12_init_376 (vp_in_nI (n := 1) (by decide) (by decide)) rfl rfl (fun h3 e3 hs3 => ?_)
  refine fv_dup dd_X12_init_377 rfl ?_
  refine fv_iconst (n := 2) (v := 2) dd_X12_init_378 (by decide) ?_
  refine fv_bipush (n := 101) (v := 101) dd_X12_init_379 (by decide) ?_
  refine fq_cast (i0 := 2) hs3 ca_209 (by omega) dd_X12_init_381 (vp_in_nI (n := 2) (by decide) (by decide)) rfl rfl (fun h4 e4 hs4 => ?_)
  refine fv_dup dd_X12_init_382 rfl ?_
  refine fv_iconst (n := 3) (v := 3) dd_X12_init_383 (by decide) ?_
  refine fv_bipush (n := 115) (v := 115) dd_X12_init_384 (by decide) ?_
  refine fq_cast (i0 := 3) hs4 ca_209 (by omega) dd_X12_init_386 (vp_in_nI (n := 3) (by decide) (by decide)) rfl rfl (fun h5 e5 hs5 => ?_)
  refine fq_putr (ci := 12) (j := 21) hs5 ca_196 (by omega) rfl dd_X12_init_387 pf_X12_51 (Or.inr ⟨_, rfl⟩) (fun h6 e6 hs6 => ?_)
  subst e6
  subst e5
  subst e4
  subst e3
  subst e2
  subst e1
  exact k _ rfl hs6
theorem fz_sim.m13 {h h' : fz_H} (e : fz_sim0 h h') : fz_sim0 (hm_13 h) (hm_13 h') := by
  unfold hm_13
  repeat (first | exact e | apply fz_sim0.sI | apply fz_sim0.sP | apply fz_sim0.mk | apply fz_sim0.sL)
def hm_14 (h : fz_H) : fz_H := (fz_sP (fz_sI (fz_sI (fz_sI (fz_sI (fz_sI (fz_sI (fz_mk h 13 6) 210 0 102) 210 1 105) 210 2 103) 210 3 104) 210 4 116) 210 5 115) 196 22 (some 210))
set_option maxRecDepth 100000 in
set_option maxHeartbeats 4000000 in
theorem k12_14 {g : fz_G} {l : Launch} {d ra rb L : Nat} {h : fz_H} (hs : fz_to L h 210) {Q : Option Value → fz_H → Prop} (k : ∀ h', h' = hm_14 h → fz_to L h' 211 → fz_V g l m_X12_init d ra rb 428 (fz_en [.ref 196] 1) [] h' Q) : fz_V g l m_X12_init d (ra + 1) (rb + 6) 390 (fz_en [.ref 196] 1) [] h Q := by
  refine fv_aload_n (k0 := 0) (i := 0) dd_X12_init_390 rfl rfl ?_
  refine fv_bipush (n := 6) (v := 6) dd_X12_init_391 (by decide) ?_
  refine fq_newaC (M := 6) hs ca_210 dd_X12_init_393 (by decide) (by decide) (by decide) (fun h1 e1 hs1 => ?_)
  refine fv_dup dd_X12_init_395 rfl ?_
  refine fv_iconst (n := 0) (v := 0) dd_X12_init_396 (by decide) ?_
  refine fv_bipush (n := 102) (v := 102) dd_X12_init_397 (by decide) ?_
  refine fq_cast (i0 := 0) hs1 ca_210 (by omega) dd_X12_init_399 (vp_in_nI (n := 0) (by decide) (by decide)) rfl rfl (fun h2 e2 hs2 => ?_)
  refine fv_dup dd_X12_init_400 rfl ?_
  refine fv_iconst (n := 1) (v := 1) dd_X12_init_401 (by decide) ?_
  refine fv_bipush (n := 105) (v := 105) dd_X12_init_402 (by decide) ?_
  refine fq_cast (i0 := 1) hs2 ca_210 (by omega) dd_X12_init_404 (vp_in_nI (n := 1) (by decide) (by decide)) rfl rfl (fun h3 e3 hs3 => ?_)
  refine fv_dup dd_X12_init_405 rfl ?_
  refine fv_iconst (n := 2) (v := 2) dd_X12_init_406 (by decide) ?_
  refine fv_bipush (n := 103) (v := 103) dd_X12_init_407 (by decide) ?_
  refine fq_cast (i0 := 2) hs3 ca_210 (by omega) dd_X12_init_409 (vp_in_nI (n := 2) (by decide) (by decide)) rfl rfl (fun h4 e4 hs4 => ?_)
  refine fv_dup dd_X12_init_410 rfl ?_
  refine fv_iconst (n := 3) (v := 3) dd_X12_init_411 (by decide) ?_
  refine fv_bipush (n := 104) (v := 104) dd_X12_init_412 (by decide) ?_
  refine fq_cast (i0 := 3) hs4 ca_210 (by omega) dd_X12_init_414 (vp_in_nI (n := 3) (by decide) (by decide)) rfl rfl (fun h5 e5 hs5 => ?_)
  refine fv_dup dd_X12_init_415 rfl ?_
  refine fv_iconst (n := 4) (v := 4) dd_X12_init_416 (by decide) ?_
  refine fv_bipush (n := 116) (v := 116) dd_X12_init_417 (by decide) ?_
  refine fq_cast (i0 := 4) hs5 ca_210 (by omega) dd_X12_init_419 (vp_in_nI (n := 4) (by decide) (by decide)) rfl rfl (fun h6 e6 hs6 => ?_)
  refine fv_dup dd_X12_init_420 rfl ?_
  refine fv_iconst (n := 5) (v := 5) dd_X12_init_421 (by decide) ?_
  refine fv_bipush (n := 115) (v := 115) dd_X12_init_422 (by decide) ?_
  refine fq_cast (i0 := 5) hs6 ca_210 (by omega) dd_X12_init_424 (vp_in_nI (n := 5) (by decide) (by decide)) rfl rfl (fun h7 e7 hs7 => ?_)
  refine fq_putr (ci := 12) (j := 22) hs7 ca_196 (by omega) rfl dd_X12_init_425 pf_X12_54 (Or.inr ⟨_, rfl⟩) (fun h8 e8 hs8 => ?_)
  subst e8
  subst e7
  subst e6
  subst e5
  subst e4
  subst e3
  subst e2
  subst e1
  exact k _ rfl hs8
theorem fz_sim.m14 {h h' : fz_H} (e : fz_sim0 h h') : fz_sim0 (hm_14 h) (hm_14 h') := by
  unfold hm_14
  repeat (first | exact e | apply fz_sim0.sI | apply fz_sim0.sP | apply fz_sim0.mk | apply fz_sim0.sL)
def hm_15 (h : fz_H) : fz_H := (fz_sP (fz_sI (fz_sI (fz_sI (fz_sI (fz_sI (fz_mk h 13 5) 211 0 115) 211 1 116) 211 2 97) 211 3 121) 211 4 115) 196 23 (some 211))
set_option maxRecDepth 100000 in
set_option maxHeartbeats 4000000 in
theorem k12_15 {g : fz_G} {l : Launch} {d ra rb L : Nat} {h : fz_H} (hs : fz_to L h 211) {Q : Option Value → fz_H → Prop} (k : ∀ h', h' = hm_15 h → fz_to L h' 212 → fz_V g l m_X12_init d ra rb 460 (fz_en [.ref 196] 1) [] h' Q) : fz_V g l m_X12_init d (ra + 1) (rb + 5) 428 (fz_en [.ref 196] 1) [] h Q := by
  refine fv_aload_n (k0 := 0) (i := 0) dd_X12_init_428 rfl rfl ?_
  refine fv_iconst (n := 5) (v := 5) dd_X12_init_429 (by decide) ?_
  refine fq_newaC (M := 5) hs ca_211 dd_X12_init_430 (by decide) (by decide) (by decide) (fun h1 e1 hs1 => ?_)
  refine fv_dup dd_X12_init_432 rfl ?_
  refine fv_iconst (n := 0) (v := 0) dd_X12_init_433 (by decide) ?_
  refine fv_bipush (n := 115) (v := 115) dd_X12_init_434 (by decide) ?_
  refine fq_cast (i0 := 0) hs1 ca_211 (by omega) dd_X12_init_436 (vp_in_nI (n := 0) (by decide) (by decide)) rfl rfl (fun h2 e2 hs2 => ?_)
  refine fv_dup dd_X12_init_437 rfl ?_
  refine fv_iconst (n := 1) (v := 1) dd_X12_init_438 (by decide) ?_
  refine fv_bipush (n := 116) (v := 116) dd_X12_init_439 (by decide) ?_
  refine fq_cast (i0 := 1) hs2 ca_211 (by omega) dd_X12_init_441 (vp_in_nI (n := 1) (by decide) (by decide)) rfl rfl (fun h3 e3 hs3 => ?_)
  refine fv_dup dd_X12_init_442 rfl ?_
  refine fv_iconst (n := 2) (v := 2) dd_X12_init_443 (by decide) ?_
  refine fv_bipush (n := 97) (v := 97) dd_X12_init_444 (by decide) ?_
  refine fq_cast (i0 := 2) hs3 ca_211 (by omega) dd_X12_init_446 (vp_in_nI (n := 2) (by decide) (by decide)) rfl rfl (fun h4 e4 hs4 => ?_)
  refine fv_dup dd_X12_init_447 rfl ?_
  refine fv_iconst (n := 3) (v := 3) dd_X12_init_448 (by decide) ?_
  refine fv_bipush (n := 121) (v := 121) dd_X12_init_449 (by decide) ?_
  refine fq_cast (i0 := 3) hs4 ca_211 (by omega) dd_X12_init_451 (vp_in_nI (n := 3) (by decide) (by decide)) rfl rfl (fun h5 e5 hs5 => ?_)
  refine fv_dup dd_X12_init_452 rfl ?_
  refine fv_iconst (n := 4) (v := 4) dd_X12_init_453 (by decide) ?_
  refine fv_bipush (n := 115) (v := 115) dd_X12_init_454 (by decide) ?_
  refine fq_cast (i0 := 4) hs5 ca_211 (by omega) dd_X12_init_456 (vp_in_nI (n := 4) (by decide) (by decide)) rfl rfl (fun h6 e6 hs6 => ?_)
  refine fq_putr (ci := 12) (j := 23) hs6 ca_196 (by omega) rfl dd_X12_init_457 pf_X12_57 (Or.inr ⟨_, rfl⟩) (fun h7 e7 hs7 => ?_)
  subst e7
  subst e6
  subst e5
  subst e4
  subst e3
  subst e2
  subst e1
  exact k _ rfl hs7
theorem fz_sim.m15 {h h' : fz_H} (e : fz_sim0 h h') : fz_sim0 (hm_15 h) (hm_15 h') := by
  unfold hm_15
  repeat (first | exact e | apply fz_sim0.sI | apply fz_sim0.sP | apply fz_sim0.mk | apply fz_sim0.sL)
def hm_16 (h : fz_H) : fz_H := (fz_sP (fz_sI (fz_sI (fz_sI (fz_sI (fz_mk h 13 4) 212 0 115) 212 1 110) 212 2 111) 212 3 119) 196 24 (some 212))
set_option maxRecDepth 100000 in
set_option maxHeartbeats 4000000 in
theorem k12_16 {g : fz_G} {l : Launch} {d ra rb L : Nat} {h : fz_H} (hs : fz_to L h 212) {Q : Option Value → fz_H → Prop} (k : ∀ h', h' = hm_16 h → fz_to L h' 213 → fz_V g l m_X12_init d ra rb 487 (fz_en [.ref 196] 1) [] h' Q) : fz_V g l m_X12_init d (ra + 1) (rb + 4) 460 (fz_en [.ref 196] 1) [] h Q := by
  refine fv_aload_n (k0 := 0) (i := 0) dd_X12_init_460 rfl rfl ?_
  refine fv_iconst (n := 4) (v := 4) dd_X12_init_461 (by decide) ?_
  refine fq_newaC (M := 4) hs ca_212 dd_X12_init_462 (by decide) (by decide) (by decide) (fun h1 e1 hs1 => ?_)
  refine fv_dup dd_X12_init_464 rfl ?_
  refine fv_iconst (n := 0) (v := 0) dd_X12_init_465 (by decide) ?_
  refine fv_bipush (n := 115) (v := 115) dd_X12_init_466 (by decide) ?_
  refine fq_cast (i0 := 0) hs1 ca_212 (by omega) dd_X12_init_468 (vp_in_nI (n := 0) (by decide) (by decide)) rfl rfl (fun h2 e2 hs2 => ?_)
  refine fv_dup dd_X12_init_469 rfl ?_
  refine fv_iconst (n := 1) (v := 1) dd_X12_init_470 (by decide) ?_
  refine fv_bipush (n := 110) (v := 110) dd_X12_init_471 (by decide) ?_
  refine fq_cast (i0 := 1) hs2 ca_212 (by omega) dd_X12_init_473 (vp_in_nI (n := 1) (by decide) (by decide)) rfl rfl (fun h3 e3 hs3 => ?_)
  refine fv_dup dd_X12_init_474 rfl ?_
  refine fv_iconst (n := 2) (v := 2) dd_X12_init_475 (by decide) ?_
  refine fv_bipush (n := 111) (v := 111) dd_X12_init_476 (by decide) ?_
  refine fq_cast (i0 := 2) hs3 ca_212 (by omega) dd_X12_init_478 (vp_in_nI (n := 2) (by decide) (by decide)) rfl rfl (fun h4 e4 hs4 => ?_)
  refine fv_dup dd_X12_init_479 rfl ?_
  refine fv_iconst (n := 3) (v := 3) dd_X12_init_480 (by decide) ?_
  refine fv_bipush (n := 119) (v := 119) dd_X12_init_481 (by decide) ?_
  refine fq_cast (i0 := 3) hs4 ca_212 (by omega) dd_X12_init_483 (vp_in_nI (n := 3) (by decide) (by decide)) rfl rfl (fun h5 e5 hs5 => ?_)
  refine fq_putr (ci := 12) (j := 24) hs5 ca_196 (by omega) rfl dd_X12_init_484 pf_X12_60 (Or.inr ⟨_, rfl⟩) (fun h6 e6 hs6 => ?_)
  subst e6
  subst e5
  subst e4
  subst e3
  subst e2
  subst e1
  exact k _ rfl hs6
theorem fz_sim.m16 {h h' : fz_H} (e : fz_sim0 h h') : fz_sim0 (hm_16 h) (hm_16 h') := by
  unfold hm_16
  repeat (first | exact e | apply fz_sim0.sI | apply fz_sim0.sP | apply fz_sim0.mk | apply fz_sim0.sL)
def hm_17 (h : fz_H) : fz_H := (fz_sP (fz_sI (fz_sI (fz_sI (fz_sI (fz_mk h 13 4) 213 0 121) 213 1 101) 213 2 97) 213 3 114) 196 25 (some 213))
set_option maxRecDepth 100000 in
set_option maxHeartbeats 4000000 in
theorem k12_17 {g : fz_G} {l : Launch} {d ra rb L : Nat} {h : fz_H} (hs : fz_to L h 213) {Q : Option Value → fz_H → Prop} (k : ∀ h', h' = hm_17 h → fz_to L h' 214 → fz_V g l m_X12_init d ra rb 514 (fz_en [.ref 196] 1) [] h' Q) : fz_V g l m_X12_init d (ra + 1) (rb + 4) 487 (fz_en [.ref 196] 1) [] h Q := by
  refine fv_aload_n (k0 := 0) (i := 0) dd_X12_init_487 rfl rfl ?_
  refine fv_iconst (n := 4) (v := 4) dd_X12_init_488 (by decide) ?_
  refine fq_newaC (M := 4) hs ca_213 dd_X12_init_489 (by decide) (by decide) (by decide) (fun h1 e1 hs1 => ?_)
  refine fv_dup dd_X12_init_491 rfl ?_
  refine fv_iconst (n := 0) (v := 0) dd_X12_init_492 (by decide) ?_
  refine fv_bipush (n := 121) (v := 121) dd_X12_init_493 (by decide) ?_
  refine fq_cast (i0 := 0) hs1 ca_213 (by omega) dd_X12_init_495 (vp_in_nI (n := 0) (by decide) (by decide)) rfl rfl (fun h2 e2 hs2 => ?_)
  refine fv_dup dd_X12_init_496 rfl ?_
  refine fv_iconst (n := 1) (v := 1) dd_X12_init_497 (by decide) ?_
  refine fv_bipush (n := 101) (v := 101) dd_X12_init_498 (by decide) ?_
  refine fq_cast (i0 := 1) hs2 ca_213 (by omega) dd_X12_init_500 (vp_in_nI (n := 1) (by decide) (by decide)) rfl rfl (fun h3 e3 hs3 => ?_)
  refine fv_dup dd_X12_init_501 rfl ?_
  refine fv_iconst (n := 2) (v := 2) dd_X12_init_502 (by decide) ?_
  refine fv_bipush (n := 97) (v := 97) dd_X12_init_503 (by decide) ?_
  refine fq_cast (i0 := 2) hs3 ca_213 (by omega) dd_X12_init_505 (vp_in_nI (n := 2) (by decide) (by decide)) rfl rfl (fun h4 e4 hs4 => ?_)
  refine fv_dup dd_X12_init_506 rfl ?_
  refine fv_iconst (n := 3) (v := 3) dd_X12_init_507 (by decide) ?_
  refine fv_bipush (n := 114) (v := 114) dd_X12_init_508 (by decide) ?_
  refine fq_cast (i0 := 3) hs4 ca_213 (by omega) dd_X12_init_510 (vp_in_nI (n := 3) (by decide) (by decide)) rfl rfl (fun h5 e5 hs5 => ?_)
  refine fq_putr (ci := 12) (j := 25) hs5 ca_196 (by omega) rfl dd_X12_init_511 pf_X12_63 (Or.inr ⟨_, rfl⟩) (fun h6 e6 hs6 => ?_)
  subst e6
  subst e5
  subst e4
  subst e3
  subst e2
  subst e1
  exact k _ rfl hs6
theorem fz_sim.m17 {h h' : fz_H} (e : fz_sim0 h h') : fz_sim0 (hm_17 h) (hm_17 h') := by
  unfold hm_17
  repeat (first | exact e | apply fz_sim0.sI | apply fz_sim0.sP | apply fz_sim0.mk | apply fz_sim0.sL)
def hm_18 (h : fz_H) : fz_H := (fz_sP (fz_sI (fz_sI (fz_sI (fz_sI (fz_mk h 13 4) 214 0 97) 214 1 119) 214 2 97) 214 3 121) 196 26 (some 214))
set_option maxRecDepth 100000 in
set_option maxHeartbeats 4000000 in
theorem k12_18 {g : fz_G} {l : Launch} {d ra rb L : Nat} {h : fz_H} (hs : fz_to L h 214) {Q : Option Value → fz_H → Prop} (k : ∀ h', h' = hm_18 h → fz_to L h' 215 → fz_V g l m_X12_init d ra rb 541 (fz_en [.ref 196] 1) [] h' Q) : fz_V g l m_X12_init d (ra + 1) (rb + 4) 514 (fz_en [.ref 196] 1) [] h Q := by
  refine fv_aload_n (k0 := 0) (i := 0) dd_X12_init_514 rfl rfl ?_
  refine fv_iconst (n := 4) (v := 4) dd_X12_init_515 (by decide) ?_
  refine fq_newaC (M := 4) hs ca_214 dd_X12_init_516 (by decide) (by decide) (by decide) (fun h1 e1 hs1 => ?_)
  refine fv_dup dd_X12_init_518 rfl ?_
  refine fv_iconst (n := 0) (v := 0) dd_X12_init_519 (by decide) ?_
  refine fv_bipush (n := 97) (v := 97) dd_X12_init_520 (by decide) ?_
  refine fq_cast (i0 := 0) hs1 ca_214 (by omega) dd_X12_init_522 (vp_in_nI (n := 0) (by decide) (by decide)) rfl rfl (fun h2 e2 hs2 => ?_)
  refine fv_dup dd_X12_init_523 rfl ?_
  refine fv_iconst (n := 1) (v := 1) dd_X12_init_524 (by decide) ?_
  refine fv_bipush (n := 119) (v := 119) dd_X12_init_525 (by decide) ?_
  refine fq_cast (i0 := 1) hs2 ca_214 (by omega) dd_X12_init_527 (vp_in_nI (n := 1) (by decide) (by decide)) rfl rfl (fun h3 e3 hs3 => ?_)
  refine fv_dup dd_X12_init_528 rfl ?_
  refine fv_iconst (n := 2) (v := 2) dd_X12_init_529 (by decide) ?_
  refine fv_bipush (n := 97) (v := 97) dd_X12_init_530 (by decide) ?_
  refine fq_cast (i0 := 2) hs3 ca_214 (by omega) dd_X12_init_532 (vp_in_nI (n := 2) (by decide) (by decide)) rfl rfl (fun h4 e4 hs4 => ?_)
  refine fv_dup dd_X12_init_533 rfl ?_
  refine fv_iconst (n := 3) (v := 3) dd_X12_init_534 (by decide) ?_
  refine fv_bipush (n := 121) (v := 121) dd_X12_init_535 (by decide) ?_
  refine fq_cast (i0 := 3) hs4 ca_214 (by omega) dd_X12_init_537 (vp_in_nI (n := 3) (by decide) (by decide)) rfl rfl (fun h5 e5 hs5 => ?_)
  refine fq_putr (ci := 12) (j := 26) hs5 ca_196 (by omega) rfl dd_X12_init_538 pf_X12_66 (Or.inr ⟨_, rfl⟩) (fun h6 e6 hs6 => ?_)
  subst e6
  subst e5
  subst e4
  subst e3
  subst e2
  subst e1
  exact k _ rfl hs6
theorem fz_sim.m18 {h h' : fz_H} (e : fz_sim0 h h') : fz_sim0 (hm_18 h) (hm_18 h') := by
  unfold hm_18
  repeat (first | exact e | apply fz_sim0.sI | apply fz_sim0.sP | apply fz_sim0.mk | apply fz_sim0.sL)
def hm_19 (h : fz_H) : fz_H := (fz_sP (fz_sI (fz_sI (fz_sI (fz_sI (fz_sI (fz_sI (fz_mk h 13 6) 215 0 103) 215 1 117) 215 2 101) 215 3 115) 215 4 116) 215 5 115) 196 27 (some 215))
set_option maxRecDepth 100000 in
set_option maxHeartbeats 4000000 in
theorem k12_19 {g : fz_G} {l : Launch} {d ra rb L : Nat} {h : fz_H} (hs : fz_to L h 215) {Q : Option Value → fz_H → Prop} (k : ∀ h', h' = hm_19 h → fz_to L h' 216 → fz_V g l m_X12_init d ra rb 579 (fz_en [.ref 196] 1) [] h' Q) : fz_V g l m_X12_init d (ra + 1) (rb + 6) 541 (fz_en [.ref 196] 1) [] h Q := by
  refine fv_aload_n (k0 := 0) (i := 0) dd_X12_init_541 rfl rfl ?_
  refine fv_bipush (n := 6) (v := 6) dd_X12_init_542 (by decide) ?_
  refine fq_newaC (M := 6) hs ca_215 dd_X12_init_544 (by decide) (by decide) (by decide) (fun h1 e1 hs1 => ?_)
  refine fv_dup dd_X12_init_546 rfl ?_
  refine fv_iconst (n := 0) (v := 0) dd_X12_init_547 (by decide) ?_
  refine fv_bipush (n := 103) (v := 103) dd_X12_init_548 (by decide) ?_
  refine fq_cast (i0 := 0) hs1 ca_215 (by omega) dd_X12_init_550 (vp_in_nI (n := 0) (by decide) (by decide)) rfl rfl (fun h2 e2 hs2 => ?_)
  refine fv_dup dd_X12_init_551 rfl ?_
  refine fv_iconst (n := 1) (v := 1) dd_X12_init_552 (by decide) ?_
  refine fv_bipush (n := 117) (v := 117) dd_X12_init_553 (by decide) ?_
  refine fq_cast (i0 := 1) hs2 ca_215 (by omega) dd_X12_init_555 (vp_in_nI (n := 1) (by decide) (by decide)) rfl rfl (fun h3 e3 hs3 => ?_)
  refine fv_dup dd_X12_init_556 rfl ?_
  refine fv_iconst (n := 2) (v := 2) dd_X12_init_557 (by decide) ?_
  refine fv_bipush (n := 101) (v := 101) dd_X12_init_558 (by decide) ?_
  refine fq_cast (i0 := 2) hs3 ca_215 (by omega) dd_X12_init_560 (vp_in_nI (n := 2) (by decide) (by decide)) rfl rfl (fun h4 e4 hs4 => ?_)
  refine fv_dup dd_X12_init_561 rfl ?_
  refine fv_iconst (n := 3) (v := 3) dd_X12_init_562 (by decide) ?_
  refine fv_bipush (n := 115) (v := 115) dd_X12_init_563 (by decide) ?_
  refine fq_cast (i0 := 3) hs4 ca_215 (by omega) dd_X12_init_565 (vp_in_nI (n := 3) (by decide) (by decide)) rfl rfl (fun h5 e5 hs5 => ?_)
  refine fv_dup dd_X12_init_566 rfl ?_
  refine fv_iconst (n := 4) (v := 4) dd_X12_init_567 (by decide) ?_
  refine fv_bipush (n := 116) (v := 116) dd_X12_init_568 (by decide) ?_
  refine fq_cast (i0 := 4) hs5 ca_215 (by omega) dd_X12_init_570 (vp_in_nI (n := 4) (by decide) (by decide)) rfl rfl (fun h6 e6 hs6 => ?_)
  refine fv_dup dd_X12_init_571 rfl ?_
  refine fv_iconst (n := 5) (v := 5) dd_X12_init_572 (by decide) ?_
  refine fv_bipush (n := 115) (v := 115) dd_X12_init_573 (by decide) ?_
  refine fq_cast (i0 := 5) hs6 ca_215 (by omega) dd_X12_init_575 (vp_in_nI (n := 5) (by decide) (by decide)) rfl rfl (fun h7 e7 hs7 => ?_)
  refine fq_putr (ci := 12) (j := 27) hs7 ca_196 (by omega) rfl dd_X12_init_576 pf_X12_69 (Or.inr ⟨_, rfl⟩) (fun h8 e8 hs8 => ?_)
  subst e8
  subst e7
  subst e6
  subst e5
  subst e4
  subst e3
  subst e2
  subst e1
  exact k _ rfl hs8
theorem fz_sim.m19 {h h' : fz_H} (e : fz_sim0 h h') : fz_sim0 (hm_19 h) (hm_19 h') := by
  unfold hm_19
  repeat (first | exact e | apply fz_sim0.sI | apply fz_sim0.sP | apply fz_sim0.mk | apply fz_sim0.sL)
def hm_20 (h : fz_H) : fz_H := (fz_sP (fz_sI (fz_sI (fz_sI (fz_sI (fz_sI (fz_sI (fz_mk h 13 6) 216 0 110) 216 1 117) 216 2 109) 216 3 98) 216 4 101) 216 5 114) 196 28 (some 216))
set_option maxRecDepth 100000 in
set_option maxHeartbeats 4000000 in
theorem k12_20 {g : fz_G} {l : Launch} {d ra rb L : Nat} {h : fz_H} (hs : fz_to L h 216) {Q : Option Value → fz_H → Prop} (k : ∀ h', h' = hm_20 h → fz_to L h' 217 → fz_V g l m_X12_init d ra rb 617 (fz_en [.ref 196] 1) [] h' Q) : fz_V g l m_X12_init d (ra + 1) (rb + 6) 579 (fz_en [.ref 196] 1) [] h Q := by
  refine fv_aload_n (k0 := 0) (i := 0) dd_X12_init_579 rfl rfl ?_
  refine fv_bipush (n := 6) (v := 6) dd_X12_init_580 (by decide) ?_
  refine fq_newaC (M := 6) hs ca_216 dd_X12_init_582 (by decide) (by decide) (by decide) (fun h1 e1 hs1 => ?_)
  refine fv_dup dd_X12_init_584 rfl ?_
  refine fv_iconst (n := 0) (v := 0) dd_X12_init_585 (by decide) ?_
  refine fv_bipush (n := 110) (v := 110) dd_X12_init_586 (by decide) ?_
  refine fq_cast (i0 := 0) hs1 ca_216 (by omega) dd_X12_init_588 (vp_in_nI (n := 0) (by decide) (by decide)) rfl rfl (fun h2 e2 hs2 => ?_)
  refine fv_dup dd_X12_init_589 rfl ?_
  refine fv_iconst (n := 1) (v := 1) dd_X12_init_590 (by decide) ?_
  refine fv_bipush (n := 117) (v := 117) dd_X12_init_591 (by decide) ?_
  refine fq_cast (i0 := 1) hs2 ca_216 (by omega) dd_X12_init_593 (vp_in_nI (n := 1) (by decide) (by decide)) rfl rfl (fun h3 e3 hs3 => ?_)
  refine fv_dup dd_X12_init_594 rfl ?_
  refine fv_iconst (n := 2) (v := 2) dd_X12_init_595 (by decide) ?_
  refine fv_bipush (n := 109) (v := 109) dd_X12_init_596 (by decide) ?_
  refine fq_cast (i0 := 2) hs3 ca_216 (by omega) dd_X12_init_598 (vp_in_nI (n := 2) (by decide) (by decide)) rfl rfl (fun h4 e4 hs4 => ?_)
  refine fv_dup dd_X12_init_599 rfl ?_
  refine fv_iconst (n := 3) (v := 3) dd_X12_init_600 (by decide) ?_
  refine fv_bipush (n := 98) (v := 98) dd_X12_init_601 (by decide) ?_
  refine fq_cast (i0 := 3) hs4 ca_216 (by omega) dd_X12_init_603 (vp_in_nI (n := 3) (by decide) (by decide)) rfl rfl (fun h5 e5 hs5 => ?_)
  refine fv_dup dd_X12_init_604 rfl ?_
  refine fv_iconst (n := 4) (v := 4) dd_X12_init_605 (by decide) ?_
  refine fv_bipush (n := 101) (v := 101) dd_X12_init_606 (by decide) ?_
  refine fq_cast (i0 := 4) hs5 ca_216 (by omega) dd_X12_init_608 (vp_in_nI (n := 4) (by decide) (by decide)) rfl rfl (fun h6 e6 hs6 => ?_)
  refine fv_dup dd_X12_init_609 rfl ?_
  refine fv_iconst (n := 5) (v := 5) dd_X12_init_610 (by decide) ?_
  refine fv_bipush (n := 114) (v := 114) dd_X12_init_611 (by decide) ?_
  refine fq_cast (i0 := 5) hs6 ca_216 (by omega) dd_X12_init_613 (vp_in_nI (n := 5) (by decide) (by decide)) rfl rfl (fun h7 e7 hs7 => ?_)
  refine fq_putr (ci := 12) (j := 28) hs7 ca_196 (by omega) rfl dd_X12_init_614 pf_X12_72 (Or.inr ⟨_, rfl⟩) (fun h8 e8 hs8 => ?_)
  subst e8
  subst e7
  subst e6
  subst e5
  subst e4
  subst e3
  subst e2
  subst e1
  exact k _ rfl hs8
theorem fz_sim.m20 {h h' : fz_H} (e : fz_sim0 h h') : fz_sim0 (hm_20 h) (hm_20 h') := by
  unfold hm_20
  repeat (first | exact e | apply fz_sim0.sI | apply fz_sim0.sP | apply fz_sim0.mk | apply fz_sim0.sL)
def hm_21 (h : fz_H) : fz_H := (fz_sP (fz_sI (fz_sI (fz_sI (fz_sI (fz_sI (fz_mk h 13 5) 217 0 108) 217 1 105) 217 2 118) 217 3 101) 217 4 115) 196 29 (some 217))
set_option maxRecDepth 100000 in
set_option maxHeartbeats 4000000 in
theorem k12_21 {g : fz_G} {l : Launch} {d ra rb L : Nat} {h : fz_H} (hs : fz_to L h 217) {Q : Option Value → fz_H → Prop} (k : ∀ h', h' = hm_21 h → fz_to L h' 218 → fz_V g l m_X12_init d ra rb 649 (fz_en [.ref 196] 1) [] h' Q) : fz_V g l m_X12_init d (ra + 1) (rb + 5) 617 (fz_en [.ref 196] 1) [] h Q := by
  refine fv_aload_n (k0 := 0) (i := 0) dd_X12_init_617 rfl rfl ?_
  refine fv_iconst (n := 5) (v := 5) dd_X12_init_618 (by decide) ?_
  refine fq_newaC (M := 5) hs ca_217 dd_X12_init_619 (by decide) (by decide) (by decide) (fun h1 e1 hs1 => ?_)
  refine fv_dup dd_X12_init_621 rfl ?_
  refine fv_iconst (n := 0) (v := 0) dd_X12_init_622 (by decide) ?_
  refine fv_bipush (n := 108) (v := 108) dd_X12_init_623 (by decide) ?_
  refine fq_cast (i0 := 0) hs1 ca_217 (by omega) dd_X12_init_625 (vp_in_nI (n := 0) (by decide) (by decide)) rfl rfl (fun h2 e2 hs2 => ?_)
  refine fv_dup dd_X12_init_626 rfl ?_
  refine fv_iconst (n := 1) (v := 1) dd_X12_init_627 (by decide) ?_
  refine fv_bipush (n := 105) (v := 105) dd_X12_init_628 (by decide) ?_
  refine fq_cast (i0 := 1) hs2 ca_217 (by omega) dd_X12_init_630 (vp_in_nI (n := 1) (by decide) (by decide)) rfl rfl (fun h3 e3 hs3 => ?_)
  refine fv_dup dd_X12_init_631 rfl ?_
  refine fv_iconst (n := 2) (v := 2) dd_X12_init_632 (by decide) ?_
  refine fv_bipush (n := 118) (v := 118) dd_X12_init_633 (by decide) ?_
  refine fq_cast (i0 := 2) hs3 ca_217 (by omega) dd_X12_init_635 (vp_in_nI (n := 2) (by decide) (by decide)) rfl rfl (fun h4 e4 hs4 => ?_)
  refine fv_dup dd_X12_init_636 rfl ?_
  refine fv_iconst (n := 3) (v := 3) dd_X12_init_637 (by decide) ?_
  refine fv_bipush (n := 101) (v := 101) dd_X12_init_638 (by decide) ?_
  refine fq_cast (i0 := 3) hs4 ca_217 (by omega) dd_X12_init_640 (vp_in_nI (n := 3) (by decide) (by decide)) rfl rfl (fun h5 e5 hs5 => ?_)
  refine fv_dup dd_X12_init_641 rfl ?_
  refine fv_iconst (n := 4) (v := 4) dd_X12_init_642 (by decide) ?_
  refine fv_bipush (n := 115) (v := 115) dd_X12_init_643 (by decide) ?_
  refine fq_cast (i0 := 4) hs5 ca_217 (by omega) dd_X12_init_645 (vp_in_nI (n := 4) (by decide) (by decide)) rfl rfl (fun h6 e6 hs6 => ?_)
  refine fq_putr (ci := 12) (j := 29) hs6 ca_196 (by omega) rfl dd_X12_init_646 pf_X12_75 (Or.inr ⟨_, rfl⟩) (fun h7 e7 hs7 => ?_)
  subst e7
  subst e6
  subst e5
  subst e4
  subst e3
  subst e2
  subst e1
  exact k _ rfl hs7
theorem fz_sim.m21 {h h' : fz_H} (e : fz_sim0 h h') : fz_sim0 (hm_21 h) (hm_21 h') := by
  unfold hm_21
  repeat (first | exact e | apply fz_sim0.sI | apply fz_sim0.sP | apply fz_sim0.mk | apply fz_sim0.sL)
def hm_22 (h : fz_H) : fz_H := (fz_sP (fz_sI (fz_sI (fz_sI (fz_sI (fz_mk h 13 4) 218 0 104) 218 1 111) 218 2 109) 218 3 101) 196 30 (some 218))
set_option maxRecDepth 100000 in
set_option maxHeartbeats 4000000 in
theorem k12_22 {g : fz_G} {l : Launch} {d ra rb L : Nat} {h : fz_H} (hs : fz_to L h 218) {Q : Option Value → fz_H → Prop} (k : ∀ h', h' = hm_22 h → fz_to L h' 219 → fz_V g l m_X12_init d ra rb 676 (fz_en [.ref 196] 1) [] h' Q) : fz_V g l m_X12_init d (ra + 1) (rb + 4) 649 (fz_en [.ref 196] 1) [] h Q := by
  refine fv_aload_n (k0 := 0) (i := 0) dd_X12_init_649 rfl rfl ?_
  refine fv_iconst (n := 4) (v := 4) dd_X12_init_650 (by decide) ?_
  refine fq_newaC (M := 4) hs ca_218 dd_X12_init_651 (by decide) (by decide) (by decide) (fun h1 e1 hs1 => ?_)
  refine fv_dup dd_X12_init_653 rfl ?_
  refine fv_iconst (n := 0) (v := 0) dd_X12_init_654 (by decide) ?_
  refine fv_bipush (n := 104) (v := 104) dd_X12_init_655 (by decide) ?_
  refine fq_cast (i0 := 0) hs1 ca_218 (by omega) dd_X12_init_657 (vp_in_nI (n := 0) (by decide) (by decide)) rfl rfl (fun h2 e2 hs2 => ?_)
  refine fv_dup dd_X12_init_658 rfl ?_
  refine fv_iconst (n := 1) (v := 1) dd_X12_init_659 (by decide) ?_
  refine fv_bipush (n := 111) (v := 111) dd_X12_init_660 (by decide) ?_
  refine fq_cast (i0 := 1) hs2 ca_218 (by omega) dd_X12_init_662 (vp_in_nI (n := 1) (by decide) (by decide)) rfl rfl (fun h3 e3 hs3 => ?_)
  refine fv_dup dd_X12_init_663 rfl ?_
  refine fv_iconst (n := 2) (v := 2) dd_X12_init_664 (by decide) ?_
  refine fv_bipush (n := 109) (v := 109) dd_X12_init_665 (by decide) ?_
  refine fq_cast (i0 := 2) hs3 ca_218 (by omega) dd_X12_init_667 (vp_in_nI (n := 2) (by decide) (by decide)) rfl rfl (fun h4 e4 hs4 => ?_)
  refine fv_dup dd_X12_init_668 rfl ?_
  refine fv_iconst (n := 3) (v := 3) dd_X12_init_669 (by decide) ?_
  refine fv_bipush (n := 101) (v := 101) dd_X12_init_670 (by decide) ?_
  refine fq_cast (i0 := 3) hs4 ca_218 (by omega) dd_X12_init_672 (vp_in_nI (n := 3) (by decide) (by decide)) rfl rfl (fun h5 e5 hs5 => ?_)
  refine fq_putr (ci := 12) (j := 30) hs5 ca_196 (by omega) rfl dd_X12_init_673 pf_X12_78 (Or.inr ⟨_, rfl⟩) (fun h6 e6 hs6 => ?_)
  subst e6
  subst e5
  subst e4
  subst e3
  subst e2
  subst e1
  exact k _ rfl hs6
theorem fz_sim.m22 {h h' : fz_H} (e : fz_sim0 h h') : fz_sim0 (hm_22 h) (hm_22 h') := by
  unfold hm_22
  repeat (first | exact e | apply fz_sim0.sI | apply fz_sim0.sP | apply fz_sim0.mk | apply fz_sim0.sL)
def hm_23 (h : fz_H) : fz_H := (fz_sP (fz_sI (fz_sI (fz_mk h 13 2) 219 0 111) 219 1 114) 196 31 (some 219))
set_option maxRecDepth 100000 in
set_option maxHeartbeats 4000000 in
theorem k12_23 {g : fz_G} {l : Launch} {d ra rb L : Nat} {h : fz_H} (hs : fz_to L h 219) {Q : Option Value → fz_H → Prop} (k : ∀ h', h' = hm_23 h → fz_to L h' 220 → fz_V g l m_X12_init d ra rb 693 (fz_en [.ref 196] 1) [] h' Q) : fz_V g l m_X12_init d (ra + 1) (rb + 2) 676 (fz_en [.ref 196] 1) [] h Q := by
  refine fv_aload_n (k0 := 0) (i := 0) dd_X12_init_676 rfl rfl ?_
  refine fv_iconst (n := 2) (v := 2) dd_X12_init_677 (by decide) ?_
  refine fq_newaC (M := 2) hs ca_219 dd_X12_init_678 (by decide) (by decide) (by decide) (fun h1 e1 hs1 => ?_)
  refine fv_dup dd_X12_init_680 rfl ?_
  refine fv_iconst (n := 0) (v := 0) dd_X12_init_681 (by decide) ?_
  refine fv_bipush (n := 111) (v := 111) dd_X12_init_682 (by decide) ?_
  refine fq_cast (i0 := 0) hs1 ca_219 (by omega) dd_X12_init_684 (vp_in_nI (n := 0) (by decide) (by decide)) rfl rfl (fun h2 e2 hs2 => ?_)
  refine fv_dup dd_X12_init_685 rfl ?_
  refine fv_iconst (n := 1) (v := 1) dd_X12_init_686 (by decide) ?_
  refine fv_bipush (n := 114) (v := 114) dd_X12_init_687 (by decide) ?_
  refine fq_cast (i0 := 1) hs2 ca_219 (by omega) dd_X12_init_689 (vp_in_nI (n := 1) (by decide) (by decide)) rfl rfl (fun h3 e3 hs3 => ?_)
  refine fq_putr (ci := 12) (j := 31) hs3 ca_196 (by omega) rfl dd_X12_init_690 pf_X12_81 (Or.inr ⟨_, rfl⟩) (fun h4 e4 hs4 => ?_)
  subst e4
  subst e3
  subst e2
  subst e1
  exact k _ rfl hs4
theorem fz_sim.m23 {h h' : fz_H} (e : fz_sim0 h h') : fz_sim0 (hm_23 h) (hm_23 h') := by
  unfold hm_23
  repeat (first | exact e | apply fz_sim0.sI | apply fz_sim0.sP | apply fz_sim0.mk | apply fz_sim0.sL)
def hm_24 (h : fz_H) : fz_H := (fz_sP (fz_sI (fz_sI (fz_sI (fz_mk h 13 3) 220 0 97) 220 1 110) 220 2 100) 196 32 (some 220))
set_option maxRecDepth 100000 in
set_option maxHeartbeats 4000000 in
theorem k12_24 {g : fz_G} {l : Launch} {d ra rb L : Nat} {h : fz_H} (hs : fz_to L h 220) {Q : Option Value → fz_H → Prop} (k : ∀ h', h' = hm_24 h → fz_to L h' 221 → fz_V g l m_X12_init d ra rb 715 (fz_en [.ref 196] 1) [] h' Q) : fz_V g l m_X12_init d (ra + 1) (rb + 3) 693 (fz_en [.ref 196] 1) [] h Q := by
  refine fv_aload_n (k0 := 0) (i := 0) dd_X12_init_693 rfl rfl ?_
  refine fv_iconst (n := 3) (v := 3) dd_X12_init_694 (by decide) ?_
  refine fq_newaC (M := 3) hs ca_220 dd_X12_init_695 (by decide) (by decide) (by decide) (fun h1 e1 hs1 => ?_)
  refine fv_dup dd_X12_init_697 rfl ?_
  refine fv_iconst (n := 0) (v := 0) dd_X12_init_698 (by decide) ?_
  refine fv_bipush (n := 97) (v := 97) dd_X12_init_699 (by decide) ?_
  refine fq_cast (i0 := 0) hs1 ca_220 (by omega) dd_X12_init_701 (vp_in_nI (n := 0) (by decide) (by decide)) rfl rfl (fun h2 e2 hs2 => ?_)
  refine fv_dup dd_X12_init_702 rfl ?_
  refine fv_iconst (n := 1) (v := 1) dd_X12_init_703 (by decide) ?_
  refine fv_bipush (n := 110) (v := 110) dd_X12_init_704 (by decide) ?_
  refine fq_cast (i0 := 1) hs2 ca_220 (by omega) dd_X12_init_706 (vp_in_nI (n := 1) (by decide) (by decide)) rfl rfl (fun h3 e3 hs3 => ?_)
  refine fv_dup dd_X12_init_707 rfl ?_
  refine fv_iconst (n := 2) (v := 2) dd_X12_init_708 (by decide) ?_
  refine fv_bipush (n := 100) (v := 100) dd_X12_init_709 (by decide) ?_
  refine fq_cast (i0 := 2) hs3 ca_220 (by omega) dd_X12_init_711 (vp_in_nI (n := 2) (by decide) (by decide)) rfl rfl (fun h4 e4 hs4 => ?_)
  refine fq_putr (ci := 12) (j := 32) hs4 ca_196 (by omega) rfl dd_X12_init_712 pf_X12_84 (Or.inr ⟨_, rfl⟩) (fun h5 e5 hs5 => ?_)
  subst e5
  subst e4
  subst e3
  subst e2
  subst e1
  exact k _ rfl hs5
theorem fz_sim.m24 {h h' : fz_H} (e : fz_sim0 h h') : fz_sim0 (hm_24 h) (hm_24 h') := by
  unfold hm_24
  repeat (first | exact e | apply fz_sim0.sI | apply fz_sim0.sP | apply fz_sim0.mk | apply fz_sim0.sL)
def hm_25 (h : fz_H) : fz_H := (fz_sP (fz_sI (fz_sI (fz_sI (fz_mk h 13 3) 221 0 110) 221 1 111) 221 2 116) 196 33 (some 221))
set_option maxRecDepth 100000 in
set_option maxHeartbeats 4000000 in
theorem k12_25 {g : fz_G} {l : Launch} {d ra rb L : Nat} {h : fz_H} (hs : fz_to L h 221) {Q : Option Value → fz_H → Prop} (k : ∀ h', h' = hm_25 h → fz_to L h' 222 → fz_V g l m_X12_init d ra rb 737 (fz_en [.ref 196] 1) [] h' Q) : fz_V g l m_X12_init d (ra + 1) (rb + 3) 715 (fz_en [.ref 196] 1) [] h Q := by
  refine fv_aload_n (k0 := 0) (i := 0) dd_X12_init_715 rfl rfl ?_
  refine fv_iconst (n := 3) (v := 3) dd_X12_init_716 (by decide) ?_
  refine fq_newaC (M := 3) hs ca_221 dd_X12_init_717 (by decide) (by decide) (by decide) (fun h1 e1 hs1 => ?_)
  refine fv_dup dd_X12_init_719 rfl ?_
  refine fv_iconst (n := 0) (v := 0) dd_X12_init_720 (by decide) ?_
  refine fv_bipush (n := 110) (v := 110) dd_X12_init_721 (by decide) ?_
  refine fq_cast (i0 := 0) hs1 ca_221 (by omega) dd_X12_init_723 (vp_in_nI (n := 0) (by decide) (by decide)) rfl rfl (fun h2 e2 hs2 => ?_)
  refine fv_dup dd_X12_init_724 rfl ?_
  refine fv_iconst (n := 1) (v := 1) dd_X12_init_725 (by decide) ?_
  refine fv_bipush (n := 111) (v := 111) dd_X12_init_726 (by decide) ?_
  refine fq_cast (i0 := 1) hs2 ca_221 (by omega) dd_X12_init_728 (vp_in_nI (n := 1) (by decide) (by decide)) rfl rfl (fun h3 e3 hs3 => ?_)
  refine fv_dup dd_X12_init_729 rfl ?_
  refine fv_iconst (n := 2) (v := 2) dd_X12_init_730 (by decide) ?_
  refine fv_bipush (n := 116) (v := 116) dd_X12_init_731 (by decide) ?_
  refine fq_cast (i0 := 2) hs3 ca_221 (by omega) dd_X12_init_733 (vp_in_nI (n := 2) (by decide) (by decide)) rfl rfl (fun h4 e4 hs4 => ?_)
  refine fq_putr (ci := 12) (j := 33) hs4 ca_196 (by omega) rfl dd_X12_init_734 pf_X12_87 (Or.inr ⟨_, rfl⟩) (fun h5 e5 hs5 => ?_)
  subst e5
  subst e4
  subst e3
  subst e2
  subst e1
  exact k _ rfl hs5
theorem fz_sim.m25 {h h' : fz_H} (e : fz_sim0 h h') : fz_sim0 (hm_25 h) (hm_25 h') := by
  unfold hm_25
  repeat (first | exact e | apply fz_sim0.sI | apply fz_sim0.sP | apply fz_sim0.mk | apply fz_sim0.sL)
def hm_26 (h : fz_H) : fz_H := (fz_sP (fz_sI (fz_sI (fz_sI (fz_mk h 13 3) 222 0 97) 222 1 108) 222 2 108) 196 34 (some 222))
set_option maxRecDepth 100000 in
set_option maxHeartbeats 4000000 in
theorem k12_26 {g : fz_G} {l : Launch} {d ra rb L : Nat} {h : fz_H} (hs : fz_to L h 222) {Q : Option Value → fz_H → Prop} (k : ∀ h', h' = hm_26 h → fz_to L h' 223 → fz_V g l m_X12_init d ra rb 759 (fz_en [.ref 196] 1) [] h' Q) : fz_V g l m_X12_init d (ra + 1) (rb + 3) 737 (fz_en [.ref 196] 1) [] h Q := by
  refine fv_aload_n (k0 := 0) (i := 0) dd_X12_init_737 rfl rfl ?_
  refine fv_iconst (n := 3) (v := 3) dd_X12_init_738 (by decide) ?_
  refine fq_newaC (M := 3) hs ca_222 dd_X12_init_739 (by decide) (by decide) (by decide) (fun h1 e1 hs1 => ?_)
  refine fv_dup dd_X12_init_741 rfl ?_
  refine fv_iconst (n := 0) (v := 0) dd_X12_init_742 (by decide) ?_
  refine fv_bipush (n := 97) (v := 97) dd_X12_init_743 (by decide) ?_
  refine fq_cast (i0 := 0) hs1 ca_222 (by omega) dd_X12_init_745 (vp_in_nI (n := 0) (by decide) (by decide)) rfl rfl (fun h2 e2 hs2 => ?_)
  refine fv_dup dd_X12_init_746 rfl ?_
  refine fv_iconst (n := 1) (v := 1) dd_X12_init_747 (by decide) ?_
  refine fv_bipush (n := 108) (v := 108) dd_X12_init_748 (by decide) ?_
  refine fq_cast (i0 := 1) hs2 ca_222 (by omega) dd_X12_init_750 (vp_in_nI (n := 1) (by decide) (by decide)) rfl rfl (fun h3 e3 hs3 => ?_)
  refine fv_dup dd_X12_init_751 rfl ?_
  refine fv_iconst (n := 2) (v := 2) dd_X12_init_752 (by decide) ?_
  refine fv_bipush (n := 108) (v := 108) dd_X12_init_753 (by decide) ?_
  refine fq_cast (i0 := 2) hs3 ca_222 (by omega) dd_X12_init_755 (vp_in_nI (n := 2) (by decide) (by decide)) rfl rfl (fun h4 e4 hs4 => ?_)
  refine fq_putr (ci := 12) (j := 34) hs4 ca_196 (by omega) rfl dd_X12_init_756 pf_X12_90 (Or.inr ⟨_, rfl⟩) (fun h5 e5 hs5 => ?_)
  subst e5
  subst e4
  subst e3
  subst e2
  subst e1
  exact k _ rfl hs5
theorem fz_sim.m26 {h h' : fz_H} (e : fz_sim0 h h') : fz_sim0 (hm_26 h) (hm_26 h') := by
  unfold hm_26
  repeat (first | exact e | apply fz_sim0.sI | apply fz_sim0.sP | apply fz_sim0.mk | apply fz_sim0.sL)
def hm_27 (h : fz_H) : fz_H := (fz_sP (fz_sI (fz_sI (fz_sI (fz_mk h 13 3) 223 0 109) 223 1 105) 223 2 110) 196 35 (some 223))
set_option maxRecDepth 100000 in
set_option maxHeartbeats 4000000 in
theorem k12_27 {g : fz_G} {l : Launch} {d ra rb L : Nat} {h : fz_H} (hs : fz_to L h 223) {Q : Option Value → fz_H → Prop} (k : ∀ h', h' = hm_27 h → fz_to L h' 224 → fz_V g l m_X12_init d ra rb 781 (fz_en [.ref 196] 1) [] h' Q) : fz_V g l m_X12_init d (ra + 1) (rb + 3) 759 (fz_en [.ref 196] 1) [] h Q := by
  refine fv_aload_n (k0 := 0) (i := 0) dd_X12_init_759 rfl rfl ?_
  refine fv_iconst (n := 3) (v := 3) dd_X12_init_760 (by decide) ?_
  refine fq_newaC (M := 3) hs ca_223 dd_X12_init_761 (by decide) (by decide) (by decide) (fun h1 e1 hs1 => ?_)
  refine fv_dup dd_X12_init_763 rfl ?_
  refine fv_iconst (n := 0) (v := 0) dd_X12_init_764 (by decide) ?_
  refine fv_bipush (n := 109) (v := 109) dd_X12_init_765 (by decide) ?_
  refine fq_cast (i0 := 0) hs1 ca_223 (by omega) dd_X12_init_767 (vp_in_nI (n := 0) (by decide) (by decide)) rfl rfl (fun h2 e2 hs2 => ?_)
  refine fv_dup dd_X12_init_768 rfl ?_
  refine fv_iconst (n := 1) (v := 1) dd_X12_init_769 (by decide) ?_
  refine fv_bipush (n := 105) (v := 105) dd_X12_init_770 (by decide) ?_
  refine fq_cast (i0 := 1) hs2 ca_223 (by omega) dd_X12_init_772 (vp_in_nI (n := 1) (by decide) (by decide)) rfl rfl (fun h3 e3 hs3 => ?_)
  refine fv_dup dd_X12_init_773 rfl ?_
  refine fv_iconst (n := 2) (v := 2) dd_X12_init_774 (by decide) ?_
  refine fv_bipush (n := 110) (v := 110) dd_X12_init_775 (by decide) ?_
  refine fq_cast (i0 := 2) hs3 ca_223 (by omega) dd_X12_init_777 (vp_in_nI (n := 2) (by decide) (by decide)) rfl rfl (fun h4 e4 hs4 => ?_)
  refine fq_putr (ci := 12) (j := 35) hs4 ca_196 (by omega) rfl dd_X12_init_778 pf_X12_93 (Or.inr ⟨_, rfl⟩) (fun h5 e5 hs5 => ?_)
  subst e5
  subst e4
  subst e3
  subst e2
  subst e1
  exact k _ rfl hs5
theorem fz_sim.m27 {h h' : fz_H} (e : fz_sim0 h h') : fz_sim0 (hm_27 h) (hm_27 h') := by
  unfold hm_27
  repeat (first | exact e | apply fz_sim0.sI | apply fz_sim0.sP | apply fz_sim0.mk | apply fz_sim0.sL)
def hm_28 (h : fz_H) : fz_H := (fz_sP (fz_sI (fz_sI (fz_sI (fz_mk h 13 3) 224 0 109) 224 1 97) 224 2 120) 196 36 (some 224))
set_option maxRecDepth 100000 in
set_option maxHeartbeats 4000000 in
theorem k12_28 {g : fz_G} {l : Launch} {d ra rb L : Nat} {h : fz_H} (hs : fz_to L h 224) {Q : Option Value → fz_H → Prop} (k : ∀ h', h' = hm_28 h → fz_to L h' 225 → fz_V g l m_X12_init d ra rb 803 (fz_en [.ref 196] 1) [] h' Q) : fz_V g l m_X12_init d (ra + 1) (rb + 3) 781 (fz_en [.ref 196] 1) [] h Q := by
  refine fv_aload_n (k0 := 0) (i := 0) dd_X12_init_781 rfl rfl ?_
  refine fv_iconst (n := 3) (v := 3) dd_X12_init_782 (by decide) ?_
  refine fq_newaC (M := 3) hs ca_224 dd_X12_init_783 (by decide) (by decide) (by decide) (fun h1 e1 hs1 => ?_)
  refine fv_dup dd_X12_init_785 rfl ?_
  refine fv_iconst (n := 0) (v := 0) dd_X12_init_786 (by decide) ?_
  refine fv_bipush (n := 109) (v := 109) dd_X12_init_787 (by decide) ?_
  refine fq_cast (i0 := 0) hs1 ca_224 (by omega) dd_X12_init_789 (vp_in_nI (n := 0) (by decide) (by decide)) rfl rfl (fun h2 e2 hs2 => ?_)
  refine fv_dup dd_X12_init_790 rfl ?_
  refine fv_iconst (n := 1) (v := 1) dd_X12_init_791 (by decide) ?_
  refine fv_bipush (n := 97) (v := 97) dd_X12_init_792 (by decide) ?_
  refine fq_cast (i0 := 1) hs2 ca_224 (by omega) dd_X12_init_794 (vp_in_nI (n := 1) (by decide) (by decide)) rfl rfl (fun h3 e3 hs3 => ?_)
  refine fv_dup dd_X12_init_795 rfl ?_
  refine fv_iconst (n := 2) (v := 2) dd_X12_init_796 (by decide) ?_
  refine fv_bipush (n := 120) (v := 120) dd_X12_init_797 (by decide) ?_
  refine fq_cast (i0 := 2) hs3 ca_224 (by omega) dd_X12_init_799 (vp_in_nI (n := 2) (by decide) (by decide)) rfl rfl (fun h4 e4 hs4 => ?_)
  refine fq_putr (ci := 12) (j := 36) hs4 ca_196 (by omega) rfl dd_X12_init_800 pf_X12_96 (Or.inr ⟨_, rfl⟩) (fun h5 e5 hs5 => ?_)
  subst e5
  subst e4
  subst e3
  subst e2
  subst e1
  exact k _ rfl hs5
theorem fz_sim.m28 {h h' : fz_H} (e : fz_sim0 h h') : fz_sim0 (hm_28 h) (hm_28 h') := by
  unfold hm_28
  repeat (first | exact e | apply fz_sim0.sI | apply fz_sim0.sP | apply fz_sim0.mk | apply fz_sim0.sL)
def hm_29 (h : fz_H) : fz_H := (fz_sP (fz_mk h 15 20) 196 41 (some 225))
set_option maxRecDepth 100000 in
set_option maxHeartbeats 4000000 in
theorem k12_29 {g : fz_G} {l : Launch} {d ra rb L : Nat} {h : fz_H} (hs : fz_to L h 225) {Q : Option Value → fz_H → Prop} (k : ∀ h', h' = hm_29 h → fz_to L h' 226 → fz_V g l m_X12_init d ra rb 811 (fz_en [.ref 196] 1) [] h' Q) : fz_V g l m_X12_init d (ra + 1) (rb + 20) 803 (fz_en [.ref 196] 1) [] h Q := by
  refine fv_aload_n (k0 := 0) (i := 0) dd_X12_init_803 rfl rfl ?_
  refine fv_bipush (n := 20) (v := 20) dd_X12_init_804 (by decide) ?_
  refine fq_newaJ (M := 20) hs ca_225 dd_X12_init_806 (by decide) (by decide) (by decide) (fun h1 e1 hs1 => ?_)
  refine fq_putr (ci := 12) (j := 41) hs1 ca_196 (by omega) rfl dd_X12_init_808 pf_X12_99 (Or.inr ⟨_, rfl⟩) (fun h2 e2 hs2 => ?_)
  subst e2
  subst e1
  exact k _ rfl hs2
theorem fz_sim.m29 {h h' : fz_H} (e : fz_sim0 h h') : fz_sim0 (hm_29 h) (hm_29 h') := by
  unfold hm_29
  repeat (first | exact e | apply fz_sim0.sI | apply fz_sim0.sP | apply fz_sim0.mk | apply fz_sim0.sL)
def hm_30 (h : fz_H) : fz_H := (fz_sP (fz_mk h 14 4) 196 42 (some 226))
set_option maxRecDepth 100000 in
set_option maxHeartbeats 4000000 in
theorem k12_30 {g : fz_G} {l : Launch} {d ra rb L : Nat} {h : fz_H} (hs : fz_to L h 226) {Q : Option Value → fz_H → Prop} (k : ∀ h', h' = hm_30 h → fz_to L h' 227 → fz_V g l m_X12_init d ra rb 818 (fz_en [.ref 196] 1) [] h' Q) : fz_V g l m_X12_init d (ra + 1) (rb + 4) 811 (fz_en [.ref 196] 1) [] h Q := by
  refine fv_aload_n (k0 := 0) (i := 0) dd_X12_init_811 rfl rfl ?_
  refine fv_iconst (n := 4) (v := 4) dd_X12_init_812 (by decide) ?_
  refine fq_newaI (M := 4) hs ca_226 dd_X12_init_813 (by decide) (by decide) (by decide) (fun h1 e1 hs1 => ?_)
  refine fq_putr (ci := 12) (j := 42) hs1 ca_196 (by omega) rfl dd_X12_init_815 pf_X12_103 (Or.inr ⟨_, rfl⟩) (fun h2 e2 hs2 => ?_)
  subst e2
  subst e1
  exact k _ rfl hs2
theorem fz_sim.m30 {h h' : fz_H} (e : fz_sim0 h h') : fz_sim0 (hm_30 h) (hm_30 h') := by
  unfold hm_30
  repeat (first | exact e | apply fz_sim0.sI | apply fz_sim0.sP | apply fz_sim0.mk | apply fz_sim0.sL)
def hm_31 (h : fz_H) : fz_H := (fz_sP (fz_mk h 14 48) 196 43 (some 227))
set_option maxRecDepth 100000 in
set_option maxHeartbeats 4000000 in
theorem k12_31 {g : fz_G} {l : Launch} {d ra rb L : Nat} {h : fz_H} (hs : fz_to L h 227) {Q : Option Value → fz_H → Prop} (k : ∀ h', h' = hm_31 h → fz_to L h' 228 → fz_V g l m_X12_init d ra rb 826 (fz_en [.ref 196] 1) [] h' Q) : fz_V g l m_X12_init d (ra + 1) (rb + 48) 818 (fz_en [.ref 196] 1) [] h Q := by
  refine fv_aload_n (k0 := 0) (i := 0) dd_X12_init_818 rfl rfl ?_
  refine fv_bipush (n := 48) (v := 48) dd_X12_init_819 (by decide) ?_
  refine fq_newaI (M := 48) hs ca_227 dd_X12_init_821 (by decide) (by decide) (by decide) (fun h1 e1 hs1 => ?_)
  refine fq_putr (ci := 12) (j := 43) hs1 ca_196 (by omega) rfl dd_X12_init_823 pf_X12_106 (Or.inr ⟨_, rfl⟩) (fun h2 e2 hs2 => ?_)
  subst e2
  subst e1
  exact k _ rfl hs2
theorem fz_sim.m31 {h h' : fz_H} (e : fz_sim0 h h') : fz_sim0 (hm_31 h) (hm_31 h') := by
  unfold hm_31
  repeat (first | exact e | apply fz_sim0.sI | apply fz_sim0.sP | apply fz_sim0.mk | apply fz_sim0.sL)
def hm_32 (h : fz_H) : fz_H := (fz_sP (fz_mk h 14 8) 196 44 (some 228))
set_option maxRecDepth 100000 in
set_option maxHeartbeats 4000000 in
theorem k12_32 {g : fz_G} {l : Launch} {d ra rb L : Nat} {h : fz_H} (hs : fz_to L h 228) {Q : Option Value → fz_H → Prop} (k : ∀ h', h' = hm_32 h → fz_to L h' 229 → fz_V g l m_X12_init d ra rb 834 (fz_en [.ref 196] 1) [] h' Q) : fz_V g l m_X12_init d (ra + 1) (rb + 8) 826 (fz_en [.ref 196] 1) [] h Q := by
  refine fv_aload_n (k0 := 0) (i := 0) dd_X12_init_826 rfl rfl ?_
  refine fv_bipush (n := 8) (v := 8) dd_X12_init_827 (by decide) ?_
  refine fq_newaI (M := 8) hs ca_228 dd_X12_init_829 (by decide) (by decide) (by decide) (fun h1 e1 hs1 => ?_)
  refine fq_putr (ci := 12) (j := 44) hs1 ca_196 (by omega) rfl dd_X12_init_831 pf_X12_109 (Or.inr ⟨_, rfl⟩) (fun h2 e2 hs2 => ?_)
  subst e2
  subst e1
  exact k _ rfl hs2
theorem fz_sim.m32 {h h' : fz_H} (e : fz_sim0 h h') : fz_sim0 (hm_32 h) (hm_32 h') := by
  unfold hm_32
  repeat (first | exact e | apply fz_sim0.sI | apply fz_sim0.sP | apply fz_sim0.mk | apply fz_sim0.sL)
def hm_33 (h : fz_H) : fz_H := (fz_sP (fz_sI (fz_sI (fz_sI (fz_sI (fz_sI (fz_sI (fz_sI (fz_sI (fz_sI (fz_sI (fz_mk h 14 10) 229 0 (-1)) 229 1 (-1)) 229 2 (-1)) 229 3 (-1)) 229 4 (-1)) 229 5 (-1)) 229 6 (-1)) 229 7 (-1)) 229 8 (-1)) 229 9 (-1)) 196 47 (some 229))
set_option maxRecDepth 100000 in
set_option maxHeartbeats 4000000 in
theorem k12_33 {g : fz_G} {l : Launch} {d ra rb L : Nat} {h : fz_H} (hs : fz_to L h 229) {Q : Option Value → fz_H → Prop} (k : ∀ h', h' = hm_33 h → fz_to L h' 230 → fz_V g l m_X12_init d ra rb 886 (fz_en [.ref 196] 1) [] h' Q) : fz_V g l m_X12_init d (ra + 1) (rb + 10) 834 (fz_en [.ref 196] 1) [] h Q := by
  refine fv_aload_n (k0 := 0) (i := 0) dd_X12_init_834 rfl rfl ?_
  refine fv_bipush (n := 10) (v := 10) dd_X12_init_835 (by decide) ?_
  refine fq_newaI (M := 10) hs ca_229 dd_X12_init_837 (by decide) (by decide) (by decide) (fun h1 e1 hs1 => ?_)
  refine fv_dup dd_X12_init_839 rfl ?_
  refine fv_iconst (n := 0) (v := 0) dd_X12_init_840 (by decide) ?_
  refine fv_iconst (n := -1) (v := -1) dd_X12_init_841 (by decide) ?_
  refine fq_iast (i0 := 0) hs1 ca_229 (by omega) dd_X12_init_842 (vp_in_nI (n := 0) (by decide) (by decide)) rfl (fun h2 e2 hs2 => ?_)
  refine fv_dup dd_X12_init_843 rfl ?_
  refine fv_iconst (n := 1) (v := 1) dd_X12_init_844 (by decide) ?_
  refine fv_iconst (n := -1) (v := -1) dd_X12_init_845 (by decide) ?_
  refine fq_iast (i0 := 1) hs2 ca_229 (by omega) dd_X12_init_846 (vp_in_nI (n := 1) (by decide) (by decide)) rfl (fun h3 e3 hs3 => ?_)
  refine fv_dup dd_X12_init_847 rfl ?_
  refine fv_iconst (n := 2) (v := 2) dd_X12_init_848 (by decide) ?_
  refine fv_iconst (n := -1) (v := -1) dd_X12_init_849 (by decide) ?_
  refine fq_iast (i0 := 2) hs3 ca_229 (by omega) dd_X12_init_850 (vp_in_nI (n := 2) (by decide) (by decide)) rfl (fun h4 e4 hs4 => ?_)
  refine fv_dup dd_X12_init_851 rfl ?_
  refine fv_iconst (n := 3) (v := 3) dd_X12_init_852 (by decide) ?_
  refine fv_iconst (n := -1) (v := -1) dd_X12_init_853 (by decide) ?_
  refine fq_iast (i0 := 3) hs4 ca_229 (by omega) dd_X12_init_854 (vp_in_nI (n := 3) (by decide) (by decide)) rfl (fun h5 e5 hs5 => ?_)
  refine fv_dup dd_X12_init_855 rfl ?_
  refine fv_iconst (n := 4) (v := 4) dd_X12_init_856 (by decide) ?_
  refine fv_iconst (n := -1) (v := -1) dd_X12_init_857 (by decide) ?_
  refine fq_iast (i0 := 4) hs5 ca_229 (by omega) dd_X12_init_858 (vp_in_nI (n := 4) (by decide) (by decide)) rfl (fun h6 e6 hs6 => ?_)
  refine fv_dup dd_X12_init_859 rfl ?_
  refine fv_iconst (n := 5) (v := 5) dd_X12_init_860 (by decide) ?_
  refine fv_iconst (n := -1) (v := -1) dd_X12_init_861 (by decide) ?_
  refine fq_iast (i0 := 5) hs6 ca_229 (by omega) dd_X12_init_862 (vp_in_nI (n := 5) (by decide) (by decide)) rfl (fun h7 e7 hs7 => ?_)
  refine fv_dup dd_X12_init_863 rfl ?_
  refine fv_bipush (n := 6) (v := 6) dd_X12_init_864 (by decide) ?_
  refine fv_iconst (n := -1) (v := -1) dd_X12_init_866 (by decide) ?_
  refine fq_iast (i0 := 6) hs7 ca_229 (by omega) dd_X12_init_867 (vp_in_nI (n := 6) (by decide) (by decide)) rfl (fun h8 e8 hs8 => ?_)
  refine fv_dup dd_X12_init_868 rfl ?_
  refine fv_bipush (n := 7) (v := 7) dd_X12_init_869 (by decide) ?_
  refine fv_iconst (n := -1) (v := -1) dd_X12_init_871 (by decide) ?_
  refine fq_iast (i0 := 7) hs8 ca_229 (by omega) dd_X12_init_872 (vp_in_nI (n := 7) (by decide) (by decide)) rfl (fun h9 e9 hs9 => ?_)
  refine fv_dup dd_X12_init_873 rfl ?_
  refine fv_bipush (n := 8) (v := 8) dd_X12_init_874 (by decide) ?_
  refine fv_iconst (n := -1) (v := -1) dd_X12_init_876 (by decide) ?_
  refine fq_iast (i0 := 8) hs9 ca_229 (by omega) dd_X12_init_877 (vp_in_nI (n := 8) (by decide) (by decide)) rfl (fun h10 e10 hs10 => ?_)
  refine fv_dup dd_X12_init_878 rfl ?_
  refine fv_bipush (n := 9) (v := 9) dd_X12_init_879 (by decide) ?_
  refine fv_iconst (n := -1) (v := -1) dd_X12_init_881 (by decide) ?_
  refine fq_iast (i0 := 9) hs10 ca_229 (by omega) dd_X12_init_882 (vp_in_nI (n := 9) (by decide) (by decide)) rfl (fun h11 e11 hs11 => ?_)
  refine fq_putr (ci := 12) (j := 47) hs11 ca_196 (by omega) rfl dd_X12_init_883 pf_X12_112 (Or.inr ⟨_, rfl⟩) (fun h12 e12 hs12 => ?_)
  subst e12
  subst e11
  subst e10
  subst e9
  subst e8
  subst e7
  subst e6
  subst e5
  subst e4
  subst e3
  subst e2
  subst e1
  exact k _ rfl hs12
theorem fz_sim.m33 {h h' : fz_H} (e : fz_sim0 h h') : fz_sim0 (hm_33 h) (hm_33 h') := by
  unfold hm_33
  repeat (first | exact e | apply fz_sim0.sI | apply fz_sim0.sP | apply fz_sim0.mk | apply fz_sim0.sL)
def hm_34 (h : fz_H) : fz_H := (fz_sP (fz_mk h 14 10) 196 48 (some 230))
set_option maxRecDepth 100000 in
set_option maxHeartbeats 4000000 in
theorem k12_34 {g : fz_G} {l : Launch} {d ra rb L : Nat} {h : fz_H} (hs : fz_to L h 230) {Q : Option Value → fz_H → Prop} (k : ∀ h', h' = hm_34 h → fz_to L h' 231 → fz_V g l m_X12_init d ra rb 894 (fz_en [.ref 196] 1) [] h' Q) : fz_V g l m_X12_init d (ra + 1) (rb + 10) 886 (fz_en [.ref 196] 1) [] h Q := by
  refine fv_aload_n (k0 := 0) (i := 0) dd_X12_init_886 rfl rfl ?_
  refine fv_bipush (n := 10) (v := 10) dd_X12_init_887 (by decide) ?_
  refine fq_newaI (M := 10) hs ca_230 dd_X12_init_889 (by decide) (by decide) (by decide) (fun h1 e1 hs1 => ?_)
  refine fq_putr (ci := 12) (j := 48) hs1 ca_196 (by omega) rfl dd_X12_init_891 pf_X12_115 (Or.inr ⟨_, rfl⟩) (fun h2 e2 hs2 => ?_)
  subst e2
  subst e1
  exact k _ rfl hs2
theorem fz_sim.m34 {h h' : fz_H} (e : fz_sim0 h h') : fz_sim0 (hm_34 h) (hm_34 h') := by
  unfold hm_34
  repeat (first | exact e | apply fz_sim0.sI | apply fz_sim0.sP | apply fz_sim0.mk | apply fz_sim0.sL)
def hm_35 (h : fz_H) : fz_H := (fz_sP (fz_mk h 14 3200) 196 49 (some 231))
set_option maxRecDepth 100000 in
set_option maxHeartbeats 4000000 in
theorem k12_35 {g : fz_G} {l : Launch} {d ra rb L : Nat} {h : fz_H} (hs : fz_to L h 231) {Q : Option Value → fz_H → Prop} (k : ∀ h', h' = hm_35 h → fz_to L h' 232 → fz_V g l m_X12_init d ra rb 903 (fz_en [.ref 196] 1) [] h' Q) : fz_V g l m_X12_init d (ra + 1) (rb + 3200) 894 (fz_en [.ref 196] 1) [] h Q := by
  refine fv_aload_n (k0 := 0) (i := 0) dd_X12_init_894 rfl rfl ?_
  refine fv_sipush (n := 3200) (v := 3200) dd_X12_init_895 (by decide) ?_
  refine fq_newaI (M := 3200) hs ca_231 dd_X12_init_898 (by decide) (by decide) (by decide) (fun h1 e1 hs1 => ?_)
  refine fq_putr (ci := 12) (j := 49) hs1 ca_196 (by omega) rfl dd_X12_init_900 pf_X12_118 (Or.inr ⟨_, rfl⟩) (fun h2 e2 hs2 => ?_)
  subst e2
  subst e1
  exact k _ rfl hs2
theorem fz_sim.m35 {h h' : fz_H} (e : fz_sim0 h h') : fz_sim0 (hm_35 h) (hm_35 h') := by
  unfold hm_35
  repeat (first | exact e | apply fz_sim0.sI | apply fz_sim0.sP | apply fz_sim0.mk | apply fz_sim0.sL)
def hm_36 (h : fz_H) : fz_H := (fz_sP (fz_mk h 14 150) 196 54 (some 232))
set_option maxRecDepth 100000 in
set_option maxHeartbeats 4000000 in
theorem k12_36 {g : fz_G} {l : Launch} {d ra rb L : Nat} {h : fz_H} (hs : fz_to L h 232) {Q : Option Value → fz_H → Prop} (k : ∀ h', h' = hm_36 h → fz_to L h' 233 → fz_V g l m_X12_init d ra rb 912 (fz_en [.ref 196] 1) [] h' Q) : fz_V g l m_X12_init d (ra + 1) (rb + 150) 903 (fz_en [.ref 196] 1) [] h Q := by
  refine fv_aload_n (k0 := 0) (i := 0) dd_X12_init_903 rfl rfl ?_
  refine fv_sipush (n := 150) (v := 150) dd_X12_init_904 (by decide) ?_
  refine fq_newaI (M := 150) hs ca_232 dd_X12_init_907 (by decide) (by decide) (by decide) (fun h1 e1 hs1 => ?_)
  refine fq_putr (ci := 12) (j := 54) hs1 ca_196 (by omega) rfl dd_X12_init_909 pf_X12_121 (Or.inr ⟨_, rfl⟩) (fun h2 e2 hs2 => ?_)
  subst e2
  subst e1
  exact k _ rfl hs2
theorem fz_sim.m36 {h h' : fz_H} (e : fz_sim0 h h') : fz_sim0 (hm_36 h) (hm_36 h') := by
  unfold hm_36
  repeat (first | exact e | apply fz_sim0.sI | apply fz_sim0.sP | apply fz_sim0.mk | apply fz_sim0.sL)
def hm_37 (h : fz_H) : fz_H := (fz_sP (fz_mk h 14 29) 196 55 (some 233))
set_option maxRecDepth 100000 in
set_option maxHeartbeats 4000000 in
theorem k12_37 {g : fz_G} {l : Launch} {d ra rb L : Nat} {h : fz_H} (hs : fz_to L h 233) {Q : Option Value → fz_H → Prop} (k : ∀ h', h' = hm_37 h → fz_to L h' 234 → fz_V g l m_X12_init d ra rb 920 (fz_en [.ref 196] 1) [] h' Q) : fz_V g l m_X12_init d (ra + 1) (rb + 29) 912 (fz_en [.ref 196] 1) [] h Q := by
  refine fv_aload_n (k0 := 0) (i := 0) dd_X12_init_912 rfl rfl ?_
  refine fv_bipush (n := 29) (v := 29) dd_X12_init_913 (by decide) ?_
  refine fq_newaI (M := 29) hs ca_233 dd_X12_init_915 (by decide) (by decide) (by decide) (fun h1 e1 hs1 => ?_)
  refine fq_putr (ci := 12) (j := 55) hs1 ca_196 (by omega) rfl dd_X12_init_917 pf_X12_124 (Or.inr ⟨_, rfl⟩) (fun h2 e2 hs2 => ?_)
  subst e2
  subst e1
  exact k _ rfl hs2
theorem fz_sim.m37 {h h' : fz_H} (e : fz_sim0 h h') : fz_sim0 (hm_37 h) (hm_37 h') := by
  unfold hm_37
  repeat (first | exact e | apply fz_sim0.sI | apply fz_sim0.sP | apply fz_sim0.mk | apply fz_sim0.sL)
def hm_38 (h : fz_H) : fz_H := (fz_sP (fz_mk h 15 16) 196 57 (some 234))
set_option maxRecDepth 100000 in
set_option maxHeartbeats 4000000 in
theorem k12_38 {g : fz_G} {l : Launch} {d ra rb L : Nat} {h : fz_H} (hs : fz_to L h 234) {Q : Option Value → fz_H → Prop} (k : ∀ h', h' = hm_38 h → fz_to L h' 235 → fz_V g l m_X12_init d ra rb 928 (fz_en [.ref 196] 1) [] h' Q) : fz_V g l m_X12_init d (ra + 1) (rb + 16) 920 (fz_en [.ref 196] 1) [] h Q := by
  refine fv_aload_n (k0 := 0) (i := 0) dd_X12_init_920 rfl rfl ?_
  refine fv_bipush (n := 16) (v := 16) dd_X12_init_921 (by decide) ?_
  refine fq_newaJ (M := 16) hs ca_234 dd_X12_init_923 (by decide) (by decide) (by decide) (fun h1 e1 hs1 => ?_)
  refine fq_putr (ci := 12) (j := 57) hs1 ca_196 (by omega) rfl dd_X12_init_925 pf_X12_127 (Or.inr ⟨_, rfl⟩) (fun h2 e2 hs2 => ?_)
  subst e2
  subst e1
  exact k _ rfl hs2
theorem fz_sim.m38 {h h' : fz_H} (e : fz_sim0 h h') : fz_sim0 (hm_38 h) (hm_38 h') := by
  unfold hm_38
  repeat (first | exact e | apply fz_sim0.sI | apply fz_sim0.sP | apply fz_sim0.mk | apply fz_sim0.sL)
def hm_39 (h : fz_H) : fz_H := (fz_sP (fz_mk h 14 2) 196 60 (some 235))
set_option maxRecDepth 100000 in
set_option maxHeartbeats 4000000 in
theorem k12_39 {g : fz_G} {l : Launch} {d ra rb L : Nat} {h : fz_H} (hs : fz_to L h 235) {Q : Option Value → fz_H → Prop} (k : ∀ h', h' = hm_39 h → fz_to L h' 236 → fz_V g l m_X12_init d ra rb 935 (fz_en [.ref 196] 1) [] h' Q) : fz_V g l m_X12_init d (ra + 1) (rb + 2) 928 (fz_en [.ref 196] 1) [] h Q := by
  refine fv_aload_n (k0 := 0) (i := 0) dd_X12_init_928 rfl rfl ?_
  refine fv_iconst (n := 2) (v := 2) dd_X12_init_929 (by decide) ?_
  refine fq_newaI (M := 2) hs ca_235 dd_X12_init_930 (by decide) (by decide) (by decide) (fun h1 e1 hs1 => ?_)
  refine fq_putr (ci := 12) (j := 60) hs1 ca_196 (by omega) rfl dd_X12_init_932 pf_X12_130 (Or.inr ⟨_, rfl⟩) (fun h2 e2 hs2 => ?_)
  subst e2
  subst e1
  exact k _ rfl hs2
theorem fz_sim.m39 {h h' : fz_H} (e : fz_sim0 h h') : fz_sim0 (hm_39 h) (hm_39 h') := by
  unfold hm_39
  repeat (first | exact e | apply fz_sim0.sI | apply fz_sim0.sP | apply fz_sim0.mk | apply fz_sim0.sL)
def hm_40 (h : fz_H) : fz_H := (fz_sP (fz_mk h 14 128) 196 61 (some 236))
set_option maxRecDepth 100000 in
set_option maxHeartbeats 4000000 in
theorem k12_40 {g : fz_G} {l : Launch} {d ra rb L : Nat} {h : fz_H} (hs : fz_to L h 236) {Q : Option Value → fz_H → Prop} (k : ∀ h', h' = hm_40 h → fz_to L h' 237 → fz_V g l m_X12_init d ra rb 944 (fz_en [.ref 196] 1) [] h' Q) : fz_V g l m_X12_init d (ra + 1) (rb + 128) 935 (fz_en [.ref 196] 1) [] h Q := by
  refine fv_aload_n (k0 := 0) (i := 0) dd_X12_init_935 rfl rfl ?_
  refine fv_sipush (n := 128) (v := 128) dd_X12_init_936 (by decide) ?_
  refine fq_newaI (M := 128) hs ca_236 dd_X12_init_939 (by decide) (by decide) (by decide) (fun h1 e1 hs1 => ?_)
  refine fq_putr (ci := 12) (j := 61) hs1 ca_196 (by omega) rfl dd_X12_init_941 pf_X12_133 (Or.inr ⟨_, rfl⟩) (fun h2 e2 hs2 => ?_)
  subst e2
  subst e1
  exact k _ rfl hs2
theorem fz_sim.m40 {h h' : fz_H} (e : fz_sim0 h h') : fz_sim0 (hm_40 h) (hm_40 h') := by
  unfold hm_40
  repeat (first | exact e | apply fz_sim0.sI | apply fz_sim0.sP | apply fz_sim0.mk | apply fz_sim0.sL)
def hm_41 (h : fz_H) : fz_H := (fz_sP (fz_mk h 14 2) 196 62 (some 237))
set_option maxRecDepth 100000 in
set_option maxHeartbeats 4000000 in
theorem k12_41 {g : fz_G} {l : Launch} {d ra rb L : Nat} {h : fz_H} (hs : fz_to L h 237) {Q : Option Value → fz_H → Prop} (k : ∀ h', h' = hm_41 h → fz_to L h' 238 → fz_V g l m_X12_init d ra rb 951 (fz_en [.ref 196] 1) [] h' Q) : fz_V g l m_X12_init d (ra + 1) (rb + 2) 944 (fz_en [.ref 196] 1) [] h Q := by
  refine fv_aload_n (k0 := 0) (i := 0) dd_X12_init_944 rfl rfl ?_
  refine fv_iconst (n := 2) (v := 2) dd_X12_init_945 (by decide) ?_
  refine fq_newaI (M := 2) hs ca_237 dd_X12_init_946 (by decide) (by decide) (by decide) (fun h1 e1 hs1 => ?_)
  refine fq_putr (ci := 12) (j := 62) hs1 ca_196 (by omega) rfl dd_X12_init_948 pf_X12_136 (Or.inr ⟨_, rfl⟩) (fun h2 e2 hs2 => ?_)
  subst e2
  subst e1
  exact k _ rfl hs2
theorem fz_sim.m41 {h h' : fz_H} (e : fz_sim0 h h') : fz_sim0 (hm_41 h) (hm_41 h') := by
  unfold hm_41
  repeat (first | exact e | apply fz_sim0.sI | apply fz_sim0.sP | apply fz_sim0.mk | apply fz_sim0.sL)
def hm_42 (h : fz_H) : fz_H := (fz_sP (fz_mk h 14 27) 196 63 (some 238))
set_option maxRecDepth 100000 in
set_option maxHeartbeats 4000000 in
theorem k12_42 {g : fz_G} {l : Launch} {d ra rb L : Nat} {h : fz_H} (hs : fz_to L h 238) {Q : Option Value → fz_H → Prop} (k : ∀ h', h' = hm_42 h → fz_to L h' 239 → fz_V g l m_X12_init d ra rb 959 (fz_en [.ref 196] 1) [] h' Q) : fz_V g l m_X12_init d (ra + 1) (rb + 27) 951 (fz_en [.ref 196] 1) [] h Q := by
  refine fv_aload_n (k0 := 0) (i := 0) dd_X12_init_951 rfl rfl ?_
  refine fv_bipush (n := 27) (v := 27) dd_X12_init_952 (by decide) ?_
  refine fq_newaI (M := 27) hs ca_238 dd_X12_init_954 (by decide) (by decide) (by decide) (fun h1 e1 hs1 => ?_)
  refine fq_putr (ci := 12) (j := 63) hs1 ca_196 (by omega) rfl dd_X12_init_956 pf_X12_139 (Or.inr ⟨_, rfl⟩) (fun h2 e2 hs2 => ?_)
  subst e2
  subst e1
  exact k _ rfl hs2
theorem fz_sim.m42 {h h' : fz_H} (e : fz_sim0 h h') : fz_sim0 (hm_42 h) (hm_42 h') := by
  unfold hm_42
  repeat (first | exact e | apply fz_sim0.sI | apply fz_sim0.sP | apply fz_sim0.mk | apply fz_sim0.sL)
def hm_43 (h : fz_H) : fz_H := (fz_sP (fz_mk h 14 3) 196 65 (some 239))
set_option maxRecDepth 100000 in
set_option maxHeartbeats 4000000 in
theorem k12_43 {g : fz_G} {l : Launch} {d ra rb L : Nat} {h : fz_H} (hs : fz_to L h 239) {Q : Option Value → fz_H → Prop} (k : ∀ h', h' = hm_43 h → fz_to L h' 240 → fz_V g l m_X12_init d ra rb 966 (fz_en [.ref 196] 1) [] h' Q) : fz_V g l m_X12_init d (ra + 1) (rb + 3) 959 (fz_en [.ref 196] 1) [] h Q := by
  refine fv_aload_n (k0 := 0) (i := 0) dd_X12_init_959 rfl rfl ?_
  refine fv_iconst (n := 3) (v := 3) dd_X12_init_960 (by decide) ?_
  refine fq_newaI (M := 3) hs ca_239 dd_X12_init_961 (by decide) (by decide) (by decide) (fun h1 e1 hs1 => ?_)
  refine fq_putr (ci := 12) (j := 65) hs1 ca_196 (by omega) rfl dd_X12_init_963 pf_X12_142 (Or.inr ⟨_, rfl⟩) (fun h2 e2 hs2 => ?_)
  subst e2
  subst e1
  exact k _ rfl hs2
theorem fz_sim.m43 {h h' : fz_H} (e : fz_sim0 h h') : fz_sim0 (hm_43 h) (hm_43 h') := by
  unfold hm_43
  repeat (first | exact e | apply fz_sim0.sI | apply fz_sim0.sP | apply fz_sim0.mk | apply fz_sim0.sL)
def hm_44 (h : fz_H) : fz_H := (fz_sP (fz_mk h 14 48) 196 67 (some 240))
set_option maxRecDepth 100000 in
set_option maxHeartbeats 4000000 in
theorem k12_44 {g : fz_G} {l : Launch} {d ra rb L : Nat} {h : fz_H} (hs : fz_to L h 240) {Q : Option Value → fz_H → Prop} (k : ∀ h', h' = hm_44 h → fz_to L h' 241 → fz_V g l m_X12_init d ra rb 974 (fz_en [.ref 196] 1) [] h' Q) : fz_V g l m_X12_init d (ra + 1) (rb + 48) 966 (fz_en [.ref 196] 1) [] h Q := by
  refine fv_aload_n (k0 := 0) (i := 0) dd_X12_init_966 rfl rfl ?_
  refine fv_bipush (n := 48) (v := 48) dd_X12_init_967 (by decide) ?_
  refine fq_newaI (M := 48) hs ca_240 dd_X12_init_969 (by decide) (by decide) (by decide) (fun h1 e1 hs1 => ?_)
  refine fq_putr (ci := 12) (j := 67) hs1 ca_196 (by omega) rfl dd_X12_init_971 pf_X12_145 (Or.inr ⟨_, rfl⟩) (fun h2 e2 hs2 => ?_)
  subst e2
  subst e1
  exact k _ rfl hs2
theorem fz_sim.m44 {h h' : fz_H} (e : fz_sim0 h h') : fz_sim0 (hm_44 h) (hm_44 h') := by
  unfold hm_44
  repeat (first | exact e | apply fz_sim0.sI | apply fz_sim0.sP | apply fz_sim0.mk | apply fz_sim0.sL)
def hm_45 (h : fz_H) : fz_H := (fz_sP (fz_mk h 14 620) 196 68 (some 241))
set_option maxRecDepth 100000 in
set_option maxHeartbeats 4000000 in
theorem k12_45 {g : fz_G} {l : Launch} {d ra rb L : Nat} {h : fz_H} (hs : fz_to L h 241) {Q : Option Value → fz_H → Prop} (k : ∀ h', h' = hm_45 h → fz_to L h' 242 → fz_V g l m_X12_init d ra rb 983 (fz_en [.ref 196] 1) [] h' Q) : fz_V g l m_X12_init d (ra + 1) (rb + 620) 974 (fz_en [.ref 196] 1) [] h Q := by
  refine fv_aload_n (k0 := 0) (i := 0) dd_X12_init_974 rfl rfl ?_
  refine fv_sipush (n := 620) (v := 620) dd_X12_init_975 (by decide) ?_
  refine fq_newaI (M := 620) hs ca_241 dd_X12_init_978 (by decide) (by decide) (by decide) (fun h1 e1 hs1 => ?_)
  refine fq_putr (ci := 12) (j := 68) hs1 ca_196 (by omega) rfl dd_X12_init_980 pf_X12_148 (Or.inr ⟨_, rfl⟩) (fun h2 e2 hs2 => ?_)
  subst e2
  subst e1
  exact k _ rfl hs2
theorem fz_sim.m45 {h h' : fz_H} (e : fz_sim0 h h') : fz_sim0 (hm_45 h) (hm_45 h') := by
  unfold hm_45
  repeat (first | exact e | apply fz_sim0.sI | apply fz_sim0.sP | apply fz_sim0.mk | apply fz_sim0.sL)
def hm_46 (h : fz_H) : fz_H := (fz_sP (fz_mk h 16 10) 196 69 (some 242))
set_option maxRecDepth 100000 in
set_option maxHeartbeats 4000000 in
theorem k12_46 {g : fz_G} {l : Launch} {d ra rb L : Nat} {h : fz_H} (hs : fz_to L h 242) {Q : Option Value → fz_H → Prop} (k : ∀ h', h' = hm_46 h → fz_to L h' 243 → fz_V g l m_X12_init d ra rb 991 (fz_en [.ref 196] 1) [] h' Q) : fz_V g l m_X12_init d (ra + 1) (rb + 10) 983 (fz_en [.ref 196] 1) [] h Q := by
  refine fv_aload_n (k0 := 0) (i := 0) dd_X12_init_983 rfl rfl ?_
  refine fv_bipush (n := 10) (v := 10) dd_X12_init_984 (by decide) ?_
  refine fq_newaZ (M := 10) hs ca_242 dd_X12_init_986 (by decide) (by decide) (by decide) (fun h1 e1 hs1 => ?_)
  refine fq_putr (ci := 12) (j := 69) hs1 ca_196 (by omega) rfl dd_X12_init_988 pf_X12_151 (Or.inr ⟨_, rfl⟩) (fun h2 e2 hs2 => ?_)
  subst e2
  subst e1
  exact k _ rfl hs2
theorem fz_sim.m46 {h h' : fz_H} (e : fz_sim0 h h') : fz_sim0 (hm_46 h) (hm_46 h') := by
  unfold hm_46
  repeat (first | exact e | apply fz_sim0.sI | apply fz_sim0.sP | apply fz_sim0.mk | apply fz_sim0.sL)
def hm_47 (h : fz_H) : fz_H := (fz_sP (fz_mk h 14 3000) 196 71 (some 243))
set_option maxRecDepth 100000 in
set_option maxHeartbeats 4000000 in
theorem k12_47 {g : fz_G} {l : Launch} {d ra rb L : Nat} {h : fz_H} (hs : fz_to L h 243) {Q : Option Value → fz_H → Prop} (k : ∀ h', h' = hm_47 h → fz_to L h' 244 → fz_V g l m_X12_init d ra rb 1000 (fz_en [.ref 196] 1) [] h' Q) : fz_V g l m_X12_init d (ra + 1) (rb + 3000) 991 (fz_en [.ref 196] 1) [] h Q := by
  refine fv_aload_n (k0 := 0) (i := 0) dd_X12_init_991 rfl rfl ?_
  refine fv_sipush (n := 3000) (v := 3000) dd_X12_init_992 (by decide) ?_
  refine fq_newaI (M := 3000) hs ca_243 dd_X12_init_995 (by decide) (by decide) (by decide) (fun h1 e1 hs1 => ?_)
  refine fq_putr (ci := 12) (j := 71) hs1 ca_196 (by omega) rfl dd_X12_init_997 pf_X12_155 (Or.inr ⟨_, rfl⟩) (fun h2 e2 hs2 => ?_)
  subst e2
  subst e1
  exact k _ rfl hs2
theorem fz_sim.m47 {h h' : fz_H} (e : fz_sim0 h h') : fz_sim0 (hm_47 h) (hm_47 h') := by
  unfold hm_47
  repeat (first | exact e | apply fz_sim0.sI | apply fz_sim0.sP | apply fz_sim0.mk | apply fz_sim0.sL)
def hm_48 (h : fz_H) : fz_H := (fz_sL h 196 74 1)
set_option maxRecDepth 100000 in
set_option maxHeartbeats 4000000 in
theorem k12_48 {g : fz_G} {l : Launch} {d ra rb L : Nat} {h : fz_H} (hs : fz_to L h 244) {Q : Option Value → fz_H → Prop} (k : ∀ h', h' = hm_48 h → fz_to L h' 244 → fz_V g l m_X12_init d ra rb 1005 (fz_en [.ref 196] 1) [] h' Q) : fz_V g l m_X12_init d ra rb 1000 (fz_en [.ref 196] 1) [] h Q := by
  refine fv_aload_n (k0 := 0) (i := 0) dd_X12_init_1000 rfl rfl ?_
  refine fv_lconst (n := 1) (v := 1) dd_X12_init_1001 (by decide) ?_
  refine fq_putl (ci := 12) (j := 74) hs ca_196 (by omega) rfl dd_X12_init_1002 pf_X12_158 rfl (fun h1 e1 hs1 => ?_)
  subst e1
  exact k _ rfl hs1
theorem fz_sim.m48 {h h' : fz_H} (e : fz_sim0 h h') : fz_sim0 (hm_48 h) (hm_48 h') := by
  unfold hm_48
  repeat (first | exact e | apply fz_sim0.sI | apply fz_sim0.sP | apply fz_sim0.mk | apply fz_sim0.sL)
def hm_49 (h : fz_H) : fz_H := (fz_sP (fz_sI (fz_sI (fz_sI (fz_sI (fz_sI (fz_mk h 13 5) 244 0 102) 244 1 105) 244 2 114) 244 3 115) 244 4 116) 196 75 (some 244))
set_option maxRecDepth 100000 in
set_option maxHeartbeats 4000000 in
theorem k12_49 {g : fz_G} {l : Launch} {d ra rb L : Nat} {h : fz_H} (hs : fz_to L h 244) {Q : Option Value → fz_H → Prop} (k : ∀ h', h' = hm_49 h → fz_to L h' 245 → fz_V g l m_X12_init d ra rb 1037 (fz_en [.ref 196] 1) [] h' Q) : fz_V g l m_X12_init d (ra + 1) (rb + 5) 1005 (fz_en [.ref 196] 1) [] h Q := by
  refine fv_aload_n (k0 := 0) (i := 0) dd_X12_init_1005 rfl rfl ?_
  refine fv_iconst (n := 5) (v := 5) dd_X12_init_1006 (by decide) ?_
  refine fq_newaC (M := 5) hs ca_244 dd_X12_init_1007 (by decide) (by decide) (by decide) (fun h1 e1 hs1 => ?_)
  refine fv_dup dd_X12_init_1009 rfl ?_
  refine fv_iconst (n := 0) (v := 0) dd_X12_init_1010 (by decide) ?_
  refine fv_bipush (n := 102) (v := 102) dd_X12_init_1011 (by decide) ?_
  refine fq_cast (i0 := 0) hs1 ca_244 (by omega) dd_X12_init_1013 (vp_in_nI (n := 0) (by decide) (by decide)) rfl rfl (fun h2 e2 hs2 => ?_)
  refine fv_dup dd_X12_init_1014 rfl ?_
  refine fv_iconst (n := 1) (v := 1) dd_X12_init_1015 (by decide) ?_
  refine fv_bipush (n := 105) (v := 105) dd_X12_init_1016 (by decide) ?_
  refine fq_cast (i0 := 1) hs2 ca_244 (by omega) dd_X12_init_1018 (vp_in_nI (n := 1) (by decide) (by decide)) rfl rfl (fun h3 e3 hs3 => ?_)
  refine fv_dup dd_X12_init_1019 rfl ?_
  refine fv_iconst (n := 2) (v := 2) dd_X12_init_1020 (by decide) ?_
  refine fv_bipush (n := 114) (v := 114) dd_X12_init_1021 (by decide) ?_
  refine fq_cast (i0 := 2) hs3 ca_244 (by omega) dd_X12_init_1023 (vp_in_nI (n := 2) (by decide) (by decide)) rfl rfl (fun h4 e4 hs4 => ?_)
  refine fv_dup dd_X12_init_1024 rfl ?_
  refine fv_iconst (n := 3) (v := 3) dd_X12_init_1025 (by decide) ?_
  refine fv_bipush (n := 115) (v := 115) dd_X12_init_1026 (by decide) ?_
  refine fq_cast (i0 := 3) hs4 ca_244 (by omega) dd_X12_init_1028 (vp_in_nI (n := 3) (by decide) (by decide)) rfl rfl (fun h5 e5 hs5 => ?_)
  refine fv_dup dd_X12_init_1029 rfl ?_
  refine fv_iconst (n := 4) (v := 4) dd_X12_init_1030 (by decide) ?_
  refine fv_bipush (n := 116) (v := 116) dd_X12_init_1031 (by decide) ?_
  refine fq_cast (i0 := 4) hs5 ca_244 (by omega) dd_X12_init_1033 (vp_in_nI (n := 4) (by decide) (by decide)) rfl rfl (fun h6 e6 hs6 => ?_)
  refine fq_putr (ci := 12) (j := 75) hs6 ca_196 (by omega) rfl dd_X12_init_1034 pf_X12_162 (Or.inr ⟨_, rfl⟩) (fun h7 e7 hs7 => ?_)
  subst e7
  subst e6
  subst e5
  subst e4
  subst e3
  subst e2
  subst e1
  exact k _ rfl hs7
theorem fz_sim.m49 {h h' : fz_H} (e : fz_sim0 h h') : fz_sim0 (hm_49 h) (hm_49 h') := by
  unfold hm_49
  repeat (first | exact e | apply fz_sim0.sI | apply fz_sim0.sP | apply fz_sim0.mk | apply fz_sim0.sL)
def hm_50 (h : fz_H) : fz_H := (fz_sP (fz_sI (fz_sI (fz_sI (fz_sI (fz_mk h 13 4) 245 0 108) 245 1 97) 245 2 115) 245 3 116) 196 76 (some 245))
set_option maxRecDepth 100000 in
set_option maxHeartbeats 4000000 in
theorem k12_50 {g : fz_G} {l : Launch} {d ra rb L : Nat} {h : fz_H} (hs : fz_to L h 245) {Q : Option Value → fz_H → Prop} (k : ∀ h', h' = hm_50 h → fz_to L h' 246 → fz_V g l m_X12_init d ra rb 1064 (fz_en [.ref 196] 1) [] h' Q) : fz_V g l m_X12_init d (ra + 1) (rb + 4) 1037 (fz_en [.ref 196] 1) [] h Q := by
  refine fv_aload_n (k0 := 0) (i := 0) dd_X12_init_1037 rfl rfl ?_
  refine fv_iconst (n := 4) (v := 4) dd_X12_init_1038 (by decide) ?_
  refine fq_newaC (M := 4) hs ca_245 dd_X12_init_1039 (by decide) (by decide) (by decide) (fun h1 e1 hs1 => ?_)
  refine fv_dup dd_X12_init_1041 rfl ?_
  refine fv_iconst (n := 0) (v := 0) dd_X12_init_1042 (by decide) ?_
  refine fv_bipush (n := 108) (v := 108) dd_X12_init_1043 (by decide) ?_
  refine fq_cast (i0 := 0) hs1 ca_245 (by omega) dd_X12_init_1045 (vp_in_nI (n := 0) (by decide) (by decide)) rfl rfl (fun h2 e2 hs2 => ?_)
  refine fv_dup dd_X12_init_1046 rfl ?_
  refine fv_iconst (n := 1) (v := 1) dd_X12_init_1047 (by decide) ?_
  refine fv_bipush (n := 97) (v := 97) dd_X12_init_1048 (by decide) ?_
  refine fq_cast (i0 := 1) hs2 ca_245 (by omega) dd_X12_init_1050 (vp_in_nI (n := 1) (by decide) (by decide)) rfl rfl (fun h3 e3 hs3 => ?_)
  refine fv_dup dd_X12_init_1051 rfl ?_
  refine fv_iconst (n := 2) (v := 2) dd_X12_init_1052 (by decide) ?_
  refine fv_bipush (n := 115) (v := 115) dd_X12_init_1053 (by decide) ?_
  refine fq_cast (i0 := 2) hs3 ca_245 (by omega) dd_X12_init_1055 (vp_in_nI (n := 2) (by decide) (by decide)) rfl rfl (fun h4 e4 hs4 => ?_)
  refine fv_dup dd_X12_init_1056 rfl ?_
  refine fv_iconst (n := 3) (v := 3) dd_X12_init_1057 (by decide) ?_
  refine fv_bipush (n := 116) (v := 116) dd_X12_init_1058 (by decide) ?_
  refine fq_cast (i0 := 3) hs4 ca_245 (by omega) dd_X12_init_1060 (vp_in_nI (n := 3) (by decide) (by decide)) rfl rfl (fun h5 e5 hs5 => ?_)
  refine fq_putr (ci := 12) (j := 76) hs5 ca_196 (by omega) rfl dd_X12_init_1061 pf_X12_165 (Or.inr ⟨_, rfl⟩) (fun h6 e6 hs6 => ?_)
  subst e6
  subst e5
  subst e4
  subst e3
  subst e2
  subst e1
  exact k _ rfl hs6
theorem fz_sim.m50 {h h' : fz_H} (e : fz_sim0 h h') : fz_sim0 (hm_50 h) (hm_50 h') := by
  unfold hm_50
  repeat (first | exact e | apply fz_sim0.sI | apply fz_sim0.sP | apply fz_sim0.mk | apply fz_sim0.sL)
def hm_51 (h : fz_H) : fz_H := (fz_sP (fz_sI (fz_sI (fz_sI (fz_sI (fz_sI (fz_mk h 13 5) 246 0 111) 246 1 102) 246 2 116) 246 3 101) 246 4 110) 196 77 (some 246))
set_option maxRecDepth 100000 in
set_option maxHeartbeats 4000000 in
theorem k12_51 {g : fz_G} {l : Launch} {d ra rb L : Nat} {h : fz_H} (hs : fz_to L h 246) {Q : Option Value → fz_H → Prop} (k : ∀ h', h' = hm_51 h → fz_to L h' 247 → fz_V g l m_X12_init d ra rb 1096 (fz_en [.ref 196] 1) [] h' Q) : fz_V g l m_X12_init d (ra + 1) (rb + 5) 1064 (fz_en [.ref 196] 1) [] h Q := by
  refine fv_aload_n (k0 := 0) (i := 0) dd_X12_init_1064 rfl rfl ?_
  refine fv_iconst (n := 5) (v := 5) dd_X12_init_1065 (by decide) ?_
  refine fq_newaC (M := 5) hs ca_246 dd_X12_init_1066 (by decide) (by decide) (by decide) (fun h1 e1 hs1 => ?_)
  refine fv_dup dd_X12_init_1068 rfl ?_
  refine fv_iconst (n := 0) (v := 0) dd_X12_init_1069 (by decide) ?_
  refine fv_bipush (n := 111) (v := 111) dd_X12_init_1070 (by decide) ?_
  refine fq_cast (i0 := 0) hs1 ca_246 (by omega) dd_X12_init_1072 (vp_in_nI (n := 0) (by decide) (by decide)) rfl rfl (fun h2 e2 hs2 => ?_)
  refine fv_dup dd_X12_init_1073 rfl ?_
  refine fv_iconst (n := 1) (v := 1) dd_X12_init_1074 (by decide) ?_
  refine fv_bipush (n := 102) (v := 102) dd_X12_init_1075 (by decide) ?_
  refine fq_cast (i0 := 1) hs2 ca_246 (by omega) dd_X12_init_1077 (vp_in_nI (n := 1) (by decide) (by decide)) rfl rfl (fun h3 e3 hs3 => ?_)
  refine fv_dup dd_X12_init_1078 rfl ?_
  refine fv_iconst (n := 2) (v := 2) dd_X12_init_1079 (by decide) ?_
  refine fv_bipush (n := 116) (v := 116) dd_X12_init_1080 (by decide) ?_
  refine fq_cast (i0 := 2) hs3 ca_246 (by omega) dd_X12_init_1082 (vp_in_nI (n := 2) (by decide) (by decide)) rfl rfl (fun h4 e4 hs4 => ?_)
  refine fv_dup dd_X12_init_1083 rfl ?_
  refine fv_iconst (n := 3) (v := 3) dd_X12_init_1084 (by decide) ?_
  refine fv_bipush (n := 101) (v := 101) dd_X12_init_1085 (by decide) ?_
  refine fq_cast (i0 := 3) hs4 ca_246 (by omega) dd_X12_init_1087 (vp_in_nI (n := 3) (by decide) (by decide)) rfl rfl (fun h5 e5 hs5 => ?_)
  refine fv_dup dd_X12_init_1088 rfl ?_
  refine fv_iconst (n := 4) (v := 4) dd_X12_init_1089 (by decide) ?_
  refine fv_bipush (n := 110) (v := 110) dd_X12_init_1090 (by decide) ?_
  refine fq_cast (i0 := 4) hs5 ca_246 (by omega) dd_X12_init_1092 (vp_in_nI (n := 4) (by decide) (by decide)) rfl rfl (fun h6 e6 hs6 => ?_)
  refine fq_putr (ci := 12) (j := 77) hs6 ca_196 (by omega) rfl dd_X12_init_1093 pf_X12_168 (Or.inr ⟨_, rfl⟩) (fun h7 e7 hs7 => ?_)
  subst e7
  subst e6
  subst e5
  subst e4
  subst e3
  subst e2
  subst e1
  exact k _ rfl hs7
theorem fz_sim.m51 {h h' : fz_H} (e : fz_sim0 h h') : fz_sim0 (hm_51 h) (hm_51 h') := by
  unfold hm_51
  repeat (first | exact e | apply fz_sim0.sI | apply fz_sim0.sP | apply fz_sim0.mk | apply fz_sim0.sL)
def hm_52 (h : fz_H) : fz_H := (fz_sP (fz_sI (fz_sI (fz_sI (fz_sI (fz_sI (fz_mk h 13 5) 247 0 116) 247 1 111) 247 2 116) 247 3 97) 247 4 108) 196 78 (some 247))
set_option maxRecDepth 100000 in
set_option maxHeartbeats 4000000 in
theorem k12_52 {g : fz_G} {l : Launch} {d ra rb L : Nat} {h : fz_H} (hs : fz_to L h 247) {Q : Option Value → fz_H → Prop} (k : ∀ h', h' = hm_52 h → fz_to L h' 248 → fz_V g l m_X12_init d ra rb 1128 (fz_en [.ref 196] 1) [] h' Q) : fz_V g l m_X12_init d (ra + 1) (rb + 5) 1096 (fz_en [.ref 196] 1) [] h Q := by
  refine fv_aload_n (k0 := 0) (i := 0) dd_X12_init_1096 rfl rfl ?_
  refine fv_iconst (n := 5) (v := 5) dd_X12_init_1097 (by decide) ?_
  refine fq_newaC (M := 5) hs ca_247 dd_X12_init_1098 (by decide) (by decide) (by decide) (fun h1 e1 hs1 => ?_)
  refine fv_dup dd_X12_init_1100 rfl ?_
  refine fv_iconst (n := 0) (v := 0) dd_X12_init_1101 (by decide) ?_
  refine fv_bipush (n := 116) (v := 116) dd_X12_init_1102 (by decide) ?_
  refine fq_cast (i0 := 0) hs1 ca_247 (by omega) dd_X12_init_1104 (vp_in_nI (n := 0) (by decide) (by decide)) rfl rfl (fun h2 e2 hs2 => ?_)
  refine fv_dup dd_X12_init_1105 rfl ?_
  refine fv_iconst (n := 1) (v := 1) dd_X12_init_1106 (by decide) ?_
  refine fv_bipush (n := 111) (v := 111) dd_X12_init_1107 (by decide) ?_
  refine fq_cast (i0 := 1) hs2 ca_247 (by omega) dd_X12_init_1109 (vp_in_nI (n := 1) (by decide) (by decide)) rfl rfl (fun h3 e3 hs3 => ?_)
  refine fv_dup dd_X12_init_1110 rfl ?_
  refine fv_iconst (n := 2) (v := 2) dd_X12_init_1111 (by decide) ?_
  refine fv_bipush (n := 116) (v := 116) dd_X12_init_1112 (by decide) ?_
  refine fq_cast (i0 := 2) hs3 ca_247 (by omega) dd_X12_init_1114 (vp_in_nI (n := 2) (by decide) (by decide)) rfl rfl (fun h4 e4 hs4 => ?_)
  refine fv_dup dd_X12_init_1115 rfl ?_
  refine fv_iconst (n := 3) (v := 3) dd_X12_init_1116 (by decide) ?_
  refine fv_bipush (n := 97) (v := 97) dd_X12_init_1117 (by decide) ?_
  refine fq_cast (i0 := 3) hs4 ca_247 (by omega) dd_X12_init_1119 (vp_in_nI (n := 3) (by decide) (by decide)) rfl rfl (fun h5 e5 hs5 => ?_)
  refine fv_dup dd_X12_init_1120 rfl ?_
  refine fv_iconst (n := 4) (v := 4) dd_X12_init_1121 (by decide) ?_
  refine fv_bipush (n := 108) (v := 108) dd_X12_init_1122 (by decide) ?_
  refine fq_cast (i0 := 4) hs5 ca_247 (by omega) dd_X12_init_1124 (vp_in_nI (n := 4) (by decide) (by decide)) rfl rfl (fun h6 e6 hs6 => ?_)
  refine fq_putr (ci := 12) (j := 78) hs6 ca_196 (by omega) rfl dd_X12_init_1125 pf_X12_171 (Or.inr ⟨_, rfl⟩) (fun h7 e7 hs7 => ?_)
  subst e7
  subst e6
  subst e5
  subst e4
  subst e3
  subst e2
  subst e1
  exact k _ rfl hs7
theorem fz_sim.m52 {h h' : fz_H} (e : fz_sim0 h h') : fz_sim0 (hm_52 h) (hm_52 h') := by
  unfold hm_52
  repeat (first | exact e | apply fz_sim0.sI | apply fz_sim0.sP | apply fz_sim0.mk | apply fz_sim0.sL)
def hm_53 (h : fz_H) : fz_H := (fz_sP (fz_sI (fz_sI (fz_sI (fz_sI (fz_mk h 13 4) 248 0 109) 248 1 111) 248 2 115) 248 3 116) 196 79 (some 248))
set_option maxRecDepth 100000 in
set_option maxHeartbeats 4000000 in
theorem k12_53 {g : fz_G} {l : Launch} {d ra rb L : Nat} {h : fz_H} (hs : fz_to L h 248) {Q : Option Value → fz_H → Prop} (k : ∀ h', h' = hm_53 h → fz_to L h' 249 → fz_V g l m_X12_init d ra rb 1155 (fz_en [.ref 196] 1) [] h' Q) : fz_V g l m_X12_init d (ra + 1) (rb + 4) 1128 (fz_en [.ref 196] 1) [] h Q := by
  refine fv_aload_n (k0 := 0) (i := 0) dd_X12_init_1128 rfl rfl ?_
  refine fv_iconst (n := 4) (v := 4) dd_X12_init_1129 (by decide) ?_
  refine fq_newaC (M := 4) hs ca_248 dd_X12_init_1130 (by decide) (by decide) (by decide) (fun h1 e1 hs1 => ?_)
  refine fv_dup dd_X12_init_1132 rfl ?_
  refine fv_iconst (n := 0) (v := 0) dd_X12_init_1133 (by decide) ?_
  refine fv_bipush (n := 109) (v := 109) dd_X12_init_1134 (by decide) ?_
  refine fq_cast (i0 := 0) hs1 ca_248 (by omega) dd_X12_init_1136 (vp_in_nI (n := 0) (by decide) (by decide)) rfl rfl (fun h2 e2 hs2 => ?_)
  refine fv_dup dd_X12_init_1137 rfl ?_
  refine fv_iconst (n := 1) (v := 1) dd_X12_init_1138 (by decide) ?_
  refine fv_bipush (n := 111) (v := 111) dd_X12_init_1139 (by decide) ?_
  refine fq_cast (i0 := 1) hs2 ca_248 (by omega) dd_X12_init_1141 (vp_in_nI (n := 1) (by decide) (by decide)) rfl rfl (fun h3 e3 hs3 => ?_)
  refine fv_dup dd_X12_init_1142 rfl ?_
  refine fv_iconst (n := 2) (v := 2) dd_X12_init_1143 (by decide) ?_
  refine fv_bipush (n := 115) (v := 115) dd_X12_init_1144 (by decide) ?_
  refine fq_cast (i0 := 2) hs3 ca_248 (by omega) dd_X12_init_1146 (vp_in_nI (n := 2) (by decide) (by decide)) rfl rfl (fun h4 e4 hs4 => ?_)
  refine fv_dup dd_X12_init_1147 rfl ?_
  refine fv_iconst (n := 3) (v := 3) dd_X12_init_1148 (by decide) ?_
  refine fv_bipush (n := 116) (v := 116) dd_X12_init_1149 (by decide) ?_
  refine fq_cast (i0 := 3) hs4 ca_248 (by omega) dd_X12_init_1151 (vp_in_nI (n := 3) (by decide) (by decide)) rfl rfl (fun h5 e5 hs5 => ?_)
  refine fq_putr (ci := 12) (j := 79) hs5 ca_196 (by omega) rfl dd_X12_init_1152 pf_X12_174 (Or.inr ⟨_, rfl⟩) (fun h6 e6 hs6 => ?_)
  subst e6
  subst e5
  subst e4
  subst e3
  subst e2
  subst e1
  exact k _ rfl hs6
theorem fz_sim.m53 {h h' : fz_H} (e : fz_sim0 h h') : fz_sim0 (hm_53 h) (hm_53 h') := by
  unfold hm_53
  repeat (first | exact e | apply fz_sim0.sI | apply fz_sim0.sP | apply fz_sim0.mk | apply fz_sim0.sL)
def hm_54 (h : fz_H) : fz_H := (fz_sP (fz_sI (fz_sI (fz_sI (fz_sI (fz_sI (fz_mk h 13 5) 249 0 108) 249 1 101) 249 2 97) 249 3 115) 249 4 116) 196 80 (some 249))
set_option maxRecDepth 100000 in
set_option maxHeartbeats 4000000 in
theorem k12_54 {g : fz_G} {l : Launch} {d ra rb L : Nat} {h : fz_H} (hs : fz_to L h 249) {Q : Option Value → fz_H → Prop} (k : ∀ h', h' = hm_54 h → fz_to L h' 250 → fz_V g l m_X12_init d ra rb 1187 (fz_en [.ref 196] 1) [] h' Q) : fz_V g l m_X12_init d (ra + 1) (rb + 5) 1155 (fz_en [.ref 196] 1) [] h Q := by
  refine fv_aload_n (k0 := 0) (i := 0) dd_X12_init_1155 rfl rfl ?_
  refine fv_iconst (n := 5) (v := 5) dd_X12_init_1156 (by decide) ?_
  refine fq_newaC (M := 5) hs ca_249 dd_X12_init_1157 (by decide) (by decide) (by decide) (fun h1 e1 hs1 => ?_)
  refine fv_dup dd_X12_init_1159 rfl ?_
  refine fv_iconst (n := 0) (v := 0) dd_X12_init_1160 (by decide) ?_
  refine fv_bipush (n := 108) (v := 108) dd_X12_init_1161 (by decide) ?_
  refine fq_cast (i0 := 0) hs1 ca_249 (by omega) dd_X12_init_1163 (vp_in_nI (n := 0) (by decide) (by decide)) rfl rfl (fun h2 e2 hs2 => ?_)
  refine fv_dup dd_X12_init_1164 rfl ?_
  refine fv_iconst (n := 1) (v := 1) dd_X12_init_1165 (by decide) ?_
  refine fv_bipush (n := 101) (v := 101) dd_X12_init_1166 (by decide) ?_
  refine fq_cast (i0 := 1) hs2 ca_249 (by omega) dd_X12_init_1168 (vp_in_nI (n := 1) (by decide) (by decide)) rfl rfl (fun h3 e3 hs3 => ?_)
  refine fv_dup dd_X12_init_1169 rfl ?_
  refine fv_iconst (n := 2) (v := 2) dd_X12_init_1170 (by decide) ?_
  refine fv_bipush (n := 97) (v := 97) dd_X12_init_1171 (by decide) ?_
  refine fq_cast (i0 := 2) hs3 ca_249 (by omega) dd_X12_init_1173 (vp_in_nI (n := 2) (by decide) (by decide)) rfl rfl (fun h4 e4 hs4 => ?_)
  refine fv_dup dd_X12_init_1174 rfl ?_
  refine fv_iconst (n := 3) (v := 3) dd_X12_init_1175 (by decide) ?_
  refine fv_bipush (n := 115) (v := 115) dd_X12_init_1176 (by decide) ?_
  refine fq_cast (i0 := 3) hs4 ca_249 (by omega) dd_X12_init_1178 (vp_in_nI (n := 3) (by decide) (by decide)) rfl rfl (fun h5 e5 hs5 => ?_)
  refine fv_dup dd_X12_init_1179 rfl ?_
  refine fv_iconst (n := 4) (v := 4) dd_X12_init_1180 (by decide) ?_
  refine fv_bipush (n := 116) (v := 116) dd_X12_init_1181 (by decide) ?_
  refine fq_cast (i0 := 4) hs5 ca_249 (by omega) dd_X12_init_1183 (vp_in_nI (n := 4) (by decide) (by decide)) rfl rfl (fun h6 e6 hs6 => ?_)
  refine fq_putr (ci := 12) (j := 80) hs6 ca_196 (by omega) rfl dd_X12_init_1184 pf_X12_177 (Or.inr ⟨_, rfl⟩) (fun h7 e7 hs7 => ?_)
  subst e7
  subst e6
  subst e5
  subst e4
  subst e3
  subst e2
  subst e1
  exact k _ rfl hs7
theorem fz_sim.m54 {h h' : fz_H} (e : fz_sim0 h h') : fz_sim0 (hm_54 h) (hm_54 h') := by
  unfold hm_54
  repeat (first | exact e | apply fz_sim0.sI | apply fz_sim0.sP | apply fz_sim0.mk | apply fz_sim0.sL)
def hm_55 (h : fz_H) : fz_H := (fz_sP (fz_sI (fz_sI (fz_sI (fz_mk h 13 3) 250 0 110) 250 1 111) 250 2 116) 196 81 (some 250))
set_option maxRecDepth 100000 in
set_option maxHeartbeats 4000000 in
theorem k12_55 {g : fz_G} {l : Launch} {d ra rb L : Nat} {h : fz_H} (hs : fz_to L h 250) {Q : Option Value → fz_H → Prop} (k : ∀ h', h' = hm_55 h → fz_to L h' 251 → fz_V g l m_X12_init d ra rb 1209 (fz_en [.ref 196] 1) [] h' Q) : fz_V g l m_X12_init d (ra + 1) (rb + 3) 1187 (fz_en [.ref 196] 1) [] h Q := by
  refine fv_aload_n (k0 := 0) (i := 0) dd_X12_init_1187 rfl rfl ?_
  refine fv_iconst (n := 3) (v := 3) dd_X12_init_1188 (by decide) ?_
  refine fq_newaC (M := 3) hs ca_250 dd_X12_init_1189 (by decide) (by decide) (by decide) (fun h1 e1 hs1 => ?_)
  refine fv_dup dd_X12_init_1191 rfl ?_
  refine fv_iconst (n := 0) (v := 0) dd_X12_init_1192 (by decide) ?_
  refine fv_bipush (n := 110) (v := 110) dd_X12_init_1193 (by decide) ?_
  refine fq_cast (i0 := 0) hs1 ca_250 (by omega) dd_X12_init_1195 (vp_in_nI (n := 0) (by decide) (by decide)) rfl rfl (fun h2 e2 hs2 => ?_)
  refine fv_dup dd_X12_init_1196 rfl ?_
  refine fv_iconst (n := 1) (v := 1) dd_X12_init_1197 (by decide) ?_
  refine fv_bipush (n := 111) (v := 111) dd_X12_init_1198 (by decide) ?_
  refine fq_cast (i0 := 1) hs2 ca_250 (by omega) dd_X12_init_1200 (vp_in_nI (n := 1) (by decide) (by decide)) rfl rfl (fun h3 e3 hs3 => ?_)
  refine fv_dup dd_X12_init_1201 rfl ?_
  refine fv_iconst (n := 2) (v := 2) dd_X12_init_1202 (by decide) ?_
  refine fv_bipush (n := 116) (v := 116) dd_X12_init_1203 (by decide) ?_
  refine fq_cast (i0 := 2) hs3 ca_250 (by omega) dd_X12_init_1205 (vp_in_nI (n := 2) (by decide) (by decide)) rfl rfl (fun h4 e4 hs4 => ?_)
  refine fq_putr (ci := 12) (j := 81) hs4 ca_196 (by omega) rfl dd_X12_init_1206 pf_X12_180 (Or.inr ⟨_, rfl⟩) (fun h5 e5 hs5 => ?_)
  subst e5
  subst e4
  subst e3
  subst e2
  subst e1
  exact k _ rfl hs5
theorem fz_sim.m55 {h h' : fz_H} (e : fz_sim0 h h') : fz_sim0 (hm_55 h) (hm_55 h') := by
  unfold hm_55
  repeat (first | exact e | apply fz_sim0.sI | apply fz_sim0.sP | apply fz_sim0.mk | apply fz_sim0.sL)
def hm_56 (h : fz_H) : fz_H := (fz_sP (fz_sI (fz_sI (fz_sI (fz_mk h 13 3) 251 0 97) 251 1 110) 251 2 100) 196 82 (some 251))
set_option maxRecDepth 100000 in
set_option maxHeartbeats 4000000 in
theorem k12_56 {g : fz_G} {l : Launch} {d ra rb L : Nat} {h : fz_H} (hs : fz_to L h 251) {Q : Option Value → fz_H → Prop} (k : ∀ h', h' = hm_56 h → fz_to L h' 252 → fz_V g l m_X12_init d ra rb 1231 (fz_en [.ref 196] 1) [] h' Q) : fz_V g l m_X12_init d (ra + 1) (rb + 3) 1209 (fz_en [.ref 196] 1) [] h Q := by
  refine fv_aload_n (k0 := 0) (i := 0) dd_X12_init_1209 rfl rfl ?_
  refine fv_iconst (n := 3) (v := 3) dd_X12_init_1210 (by decide) ?_
  refine fq_newaC (M := 3) hs ca_251 dd_X12_init_1211 (by decide) (by decide) (by decide) (fun h1 e1 hs1 => ?_)
  refine fv_dup dd_X12_init_1213 rfl ?_
  refine fv_iconst (n := 0) (v := 0) dd_X12_init_1214 (by decide) ?_
  refine fv_bipush (n := 97) (v := 97) dd_X12_init_1215 (by decide) ?_
  refine fq_cast (i0 := 0) hs1 ca_251 (by omega) dd_X12_init_1217 (vp_in_nI (n := 0) (by decide) (by decide)) rfl rfl (fun h2 e2 hs2 => ?_)
  refine fv_dup dd_X12_init_1218 rfl ?_
  refine fv_iconst (n := 1) (v := 1) dd_X12_init_1219 (by decide) ?_
  refine fv_bipush (n := 110) (v := 110) dd_X12_init_1220 (by decide) ?_
  refine fq_cast (i0 := 1) hs2 ca_251 (by omega) dd_X12_init_1222 (vp_in_nI (n := 1) (by decide) (by decide)) rfl rfl (fun h3 e3 hs3 => ?_)
  refine fv_dup dd_X12_init_1223 rfl ?_
  refine fv_iconst (n := 2) (v := 2) dd_X12_init_1224 (by decide) ?_
  refine fv_bipush (n := 100) (v := 100) dd_X12_init_1225 (by decide) ?_
  refine fq_cast (i0 := 2) hs3 ca_251 (by omega) dd_X12_init_1227 (vp_in_nI (n := 2) (by decide) (by decide)) rfl rfl (fun h4 e4 hs4 => ?_)
  refine fq_putr (ci := 12) (j := 82) hs4 ca_196 (by omega) rfl dd_X12_init_1228 pf_X12_183 (Or.inr ⟨_, rfl⟩) (fun h5 e5 hs5 => ?_)
  subst e5
  subst e4
  subst e3
  subst e2
  subst e1
  exact k _ rfl hs5
theorem fz_sim.m56 {h h' : fz_H} (e : fz_sim0 h h') : fz_sim0 (hm_56 h) (hm_56 h') := by
  unfold hm_56
  repeat (first | exact e | apply fz_sim0.sI | apply fz_sim0.sP | apply fz_sim0.mk | apply fz_sim0.sL)
def hm_57 (h : fz_H) : fz_H := (fz_sP (fz_sI (fz_sI (fz_mk h 13 2) 252 0 111) 252 1 114) 196 83 (some 252))
set_option maxRecDepth 100000 in
set_option maxHeartbeats 4000000 in
theorem k12_57 {g : fz_G} {l : Launch} {d ra rb L : Nat} {h : fz_H} (hs : fz_to L h 252) {Q : Option Value → fz_H → Prop} (k : ∀ h', h' = hm_57 h → fz_to L h' 253 → fz_V g l m_X12_init d ra rb 1248 (fz_en [.ref 196] 1) [] h' Q) : fz_V g l m_X12_init d (ra + 1) (rb + 2) 1231 (fz_en [.ref 196] 1) [] h Q := by
  refine fv_aload_n (k0 := 0) (i := 0) dd_X12_init_1231 rfl rfl ?_
  refine fv_iconst (n := 2) (v := 2) dd_X12_init_1232 (by decide) ?_
  refine fq_newaC (M := 2) hs ca_252 dd_X12_init_1233 (by decide) (by decide) (by decide) (fun h1 e1 hs1 => ?_)
  refine fv_dup dd_X12_init_1235 rfl ?_
  refine fv_iconst (n := 0) (v := 0) dd_X12_init_1236 (by decide) ?_
  refine fv_bipush (n := 111) (v := 111) dd_X12_init_1237 (by decide) ?_
  refine fq_cast (i0 := 0) hs1 ca_252 (by omega) dd_X12_init_1239 (vp_in_nI (n := 0) (by decide) (by decide)) rfl rfl (fun h2 e2 hs2 => ?_)
  refine fv_dup dd_X12_init_1240 rfl ?_
  refine fv_iconst (n := 1) (v := 1) dd_X12_init_1241 (by decide) ?_
  refine fv_bipush (n := 114) (v := 114) dd_X12_init_1242 (by decide) ?_
  refine fq_cast (i0 := 1) hs2 ca_252 (by omega) dd_X12_init_1244 (vp_in_nI (n := 1) (by decide) (by decide)) rfl rfl (fun h3 e3 hs3 => ?_)
  refine fq_putr (ci := 12) (j := 83) hs3 ca_196 (by omega) rfl dd_X12_init_1245 pf_X12_186 (Or.inr ⟨_, rfl⟩) (fun h4 e4 hs4 => ?_)
  subst e4
  subst e3
  subst e2
  subst e1
  exact k _ rfl hs4
theorem fz_sim.m57 {h h' : fz_H} (e : fz_sim0 h h') : fz_sim0 (hm_57 h) (hm_57 h') := by
  unfold hm_57
  repeat (first | exact e | apply fz_sim0.sI | apply fz_sim0.sP | apply fz_sim0.mk | apply fz_sim0.sL)
def hm_58 (h : fz_H) : fz_H := (fz_sP (fz_sI (fz_sI (fz_sI (fz_mk h 13 3) 253 0 97) 253 1 108) 253 2 108) 196 84 (some 253))
set_option maxRecDepth 100000 in
set_option maxHeartbeats 4000000 in
theorem k12_58 {g : fz_G} {l : Launch} {d ra rb L : Nat} {h : fz_H} (hs : fz_to L h 253) {Q : Option Value → fz_H → Prop} (k : ∀ h', h' = hm_58 h → fz_to L h' 254 → fz_V g l m_X12_init d ra rb 1270 (fz_en [.ref 196] 1) [] h' Q) : fz_V g l m_X12_init d (ra + 1) (rb + 3) 1248 (fz_en [.ref 196] 1) [] h Q := by
  refine fv_aload_n (k0 := 0) (i := 0) dd_X12_init_1248 rfl rfl ?_
  refine fv_iconst (n := 3) (v := 3) dd_X12_init_1249 (by decide) ?_
  refine fq_newaC (M := 3) hs ca_253 dd_X12_init_1250 (by decide) (by decide) (by decide) (fun h1 e1 hs1 => ?_)
  refine fv_dup dd_X12_init_1252 rfl ?_
  refine fv_iconst (n := 0) (v := 0) dd_X12_init_1253 (by decide) ?_
  refine fv_bipush (n := 97) (v := 97) dd_X12_init_1254 (by decide) ?_
  refine fq_cast (i0 := 0) hs1 ca_253 (by omega) dd_X12_init_1256 (vp_in_nI (n := 0) (by decide) (by decide)) rfl rfl (fun h2 e2 hs2 => ?_)
  refine fv_dup dd_X12_init_1257 rfl ?_
  refine fv_iconst (n := 1) (v := 1) dd_X12_init_1258 (by decide) ?_
  refine fv_bipush (n := 108) (v := 108) dd_X12_init_1259 (by decide) ?_
  refine fq_cast (i0 := 1) hs2 ca_253 (by omega) dd_X12_init_1261 (vp_in_nI (n := 1) (by decide) (by decide)) rfl rfl (fun h3 e3 hs3 => ?_)
  refine fv_dup dd_X12_init_1262 rfl ?_
  refine fv_iconst (n := 2) (v := 2) dd_X12_init_1263 (by decide) ?_
  refine fv_bipush (n := 108) (v := 108) dd_X12_init_1264 (by decide) ?_
  refine fq_cast (i0 := 2) hs3 ca_253 (by omega) dd_X12_init_1266 (vp_in_nI (n := 2) (by decide) (by decide)) rfl rfl (fun h4 e4 hs4 => ?_)
  refine fq_putr (ci := 12) (j := 84) hs4 ca_196 (by omega) rfl dd_X12_init_1267 pf_X12_189 (Or.inr ⟨_, rfl⟩) (fun h5 e5 hs5 => ?_)
  subst e5
  subst e4
  subst e3
  subst e2
  subst e1
  exact k _ rfl hs5
theorem fz_sim.m58 {h h' : fz_H} (e : fz_sim0 h h') : fz_sim0 (hm_58 h) (hm_58 h') := by
  unfold hm_58
  repeat (first | exact e | apply fz_sim0.sI | apply fz_sim0.sP | apply fz_sim0.mk | apply fz_sim0.sL)
def hm_59 (h : fz_H) : fz_H := (fz_sP (fz_sI (fz_sI (fz_sI (fz_mk h 13 3) 254 0 109) 254 1 105) 254 2 110) 196 85 (some 254))
set_option maxRecDepth 100000 in
set_option maxHeartbeats 4000000 in
theorem k12_59 {g : fz_G} {l : Launch} {d ra rb L : Nat} {h : fz_H} (hs : fz_to L h 254) {Q : Option Value → fz_H → Prop} (k : ∀ h', h' = hm_59 h → fz_to L h' 255 → fz_V g l m_X12_init d ra rb 1292 (fz_en [.ref 196] 1) [] h' Q) : fz_V g l m_X12_init d (ra + 1) (rb + 3) 1270 (fz_en [.ref 196] 1) [] h Q := by
  refine fv_aload_n (k0 := 0) (i := 0) dd_X12_init_1270 rfl rfl ?_
  refine fv_iconst (n := 3) (v := 3) dd_X12_init_1271 (by decide) ?_
  refine fq_newaC (M := 3) hs ca_254 dd_X12_init_1272 (by decide) (by decide) (by decide) (fun h1 e1 hs1 => ?_)
  refine fv_dup dd_X12_init_1274 rfl ?_
  refine fv_iconst (n := 0) (v := 0) dd_X12_init_1275 (by decide) ?_
  refine fv_bipush (n := 109) (v := 109) dd_X12_init_1276 (by decide) ?_
  refine fq_cast (i0 := 0) hs1 ca_254 (by omega) dd_X12_init_1278 (vp_in_nI (n := 0) (by decide) (by decide)) rfl rfl (fun h2 e2 hs2 => ?_)
  refine fv_dup dd_X12_init_1279 rfl ?_
  refine fv_iconst (n := 1) (v := 1) dd_X12_init_1280 (by decide) ?_
  refine fv_bipush (n := 105) (v := 105) dd_X12_init_1281 (by decide) ?_
  refine fq_cast (i0 := 1) hs2 ca_254 (by omega) dd_X12_init_1283 (vp_in_nI (n := 1) (by decide) (by decide)) rfl rfl (fun h3 e3 hs3 => ?_)
  refine fv_dup dd_X12_init_1284 rfl ?_
  refine fv_iconst (n := 2) (v := 2) dd_X12_init_1285 (by decide) ?_
  refine fv_bipush (n := 110) (v := 110) dd_X12_init_1286 (by decide) ?_
  refine fq_cast (i0 := 2) hs3 ca_254 (by omega) dd_X12_init_1288 (vp_in_nI (n := 2) (by decide) (by decide)) rfl rfl (fun h4 e4 hs4 => ?_)
  refine fq_putr (ci := 12) (j := 85) hs4 ca_196 (by omega) rfl dd_X12_init_1289 pf_X12_192 (Or.inr ⟨_, rfl⟩) (fun h5 e5 hs5 => ?_)
  subst e5
  subst e4
  subst e3
  subst e2
  subst e1
  exact k _ rfl hs5
theorem fz_sim.m59 {h h' : fz_H} (e : fz_sim0 h h') : fz_sim0 (hm_59 h) (hm_59 h') := by
  unfold hm_59
  repeat (first | exact e | apply fz_sim0.sI | apply fz_sim0.sP | apply fz_sim0.mk | apply fz_sim0.sL)
def hm_60 (h : fz_H) : fz_H := (fz_sP (fz_sI (fz_sI (fz_sI (fz_mk h 13 3) 255 0 109) 255 1 97) 255 2 120) 196 86 (some 255))
set_option maxRecDepth 100000 in
set_option maxHeartbeats 4000000 in
theorem k12_60 {g : fz_G} {l : Launch} {d ra rb L : Nat} {h : fz_H} (hs : fz_to L h 255) {Q : Option Value → fz_H → Prop} (k : ∀ h', h' = hm_60 h → fz_to L h' 256 → fz_V g l m_X12_init d ra rb 1314 (fz_en [.ref 196] 1) [] h' Q) : fz_V g l m_X12_init d (ra + 1) (rb + 3) 1292 (fz_en [.ref 196] 1) [] h Q := by
  refine fv_aload_n (k0 := 0) (i := 0) dd_X12_init_1292 rfl rfl ?_
  refine fv_iconst (n := 3) (v := 3) dd_X12_init_1293 (by decide) ?_
  refine fq_newaC (M := 3) hs ca_255 dd_X12_init_1294 (by decide) (by decide) (by decide) (fun h1 e1 hs1 => ?_)
  refine fv_dup dd_X12_init_1296 rfl ?_
  refine fv_iconst (n := 0) (v := 0) dd_X12_init_1297 (by decide) ?_
  refine fv_bipush (n := 109) (v := 109) dd_X12_init_1298 (by decide) ?_
  refine fq_cast (i0 := 0) hs1 ca_255 (by omega) dd_X12_init_1300 (vp_in_nI (n := 0) (by decide) (by decide)) rfl rfl (fun h2 e2 hs2 => ?_)
  refine fv_dup dd_X12_init_1301 rfl ?_
  refine fv_iconst (n := 1) (v := 1) dd_X12_init_1302 (by decide) ?_
  refine fv_bipush (n := 97) (v := 97) dd_X12_init_1303 (by decide) ?_
  refine fq_cast (i0 := 1) hs2 ca_255 (by omega) dd_X12_init_1305 (vp_in_nI (n := 1) (by decide) (by decide)) rfl rfl (fun h3 e3 hs3 => ?_)
  refine fv_dup dd_X12_init_1306 rfl ?_
  refine fv_iconst (n := 2) (v := 2) dd_X12_init_1307 (by decide) ?_
  refine fv_bipush (n := 120) (v := 120) dd_X12_init_1308 (by decide) ?_
  refine fq_cast (i0 := 2) hs3 ca_255 (by omega) dd_X12_init_1310 (vp_in_nI (n := 2) (by decide) (by decide)) rfl rfl (fun h4 e4 hs4 => ?_)
  refine fq_putr (ci := 12) (j := 86) hs4 ca_196 (by omega) rfl dd_X12_init_1311 pf_X12_195 (Or.inr ⟨_, rfl⟩) (fun h5 e5 hs5 => ?_)
  subst e5
  subst e4
  subst e3
  subst e2
  subst e1
  exact k _ rfl hs5
theorem fz_sim.m60 {h h' : fz_H} (e : fz_sim0 h h') : fz_sim0 (hm_60 h) (hm_60 h') := by
  unfold hm_60
  repeat (first | exact e | apply fz_sim0.sI | apply fz_sim0.sP | apply fz_sim0.mk | apply fz_sim0.sL)
def hm_61 (h : fz_H) : fz_H := (fz_sP (fz_sI (fz_sI (fz_sI (fz_sI (fz_sI (fz_sI (fz_sI (fz_mk h 13 7) 256 0 104) 256 1 97) 256 2 114) 256 3 118) 256 4 101) 256 5 115) 256 6 116) 196 87 (some 256))
set_option maxRecDepth 100000 in
set_option maxHeartbeats 4000000 in
theorem k12_61 {g : fz_G} {l : Launch} {d ra rb L : Nat} {h : fz_H} (hs : fz_to L h 256) {Q : Option Value → fz_H → Prop} (k : ∀ h', h' = hm_61 h → fz_to L h' 257 → fz_V g l m_X12_init d ra rb 1358 (fz_en [.ref 196] 1) [] h' Q) : fz_V g l m_X12_init d (ra + 1) (rb + 7) 1314 (fz_en [.ref 196] 1) [] h Q := by
  refine fv_aload_n (k0 := 0) (i := 0) dd_X12_init_1314 rfl rfl ?_
  refine fv_bipush (n := 7) (v := 7) dd_X12_init_1315 (by decide) ?_
  refine fq_newaC (M := 7) hs ca_256 dd_X12_init_1317 (by decide) (by decide) (by decide) (fun h1 e1 hs1 => ?_)
  refine fv_dup dd_X12_init_1319 rfl ?_
  refine fv_iconst (n := 0) (v := 0) dd_X12_init_1320 (by decide) ?_
  refine fv_bipush (n := 104) (v := 104) dd_X12_init_1321 (by decide) ?_
  refine fq_cast (i0 := 0) hs1 ca_256 (by omega) dd_X12_init_1323 (vp_in_nI (n := 0) (by decide) (by decide)) rfl rfl (fun h2 e2 hs2 => ?_)
  refine fv_dup dd_X12_init_1324 rfl ?_
  refine fv_iconst (n := 1) (v := 1) dd_X12_init_1325 (by decide) ?_
  refine fv_bipush (n := 97) (v := 97) dd_X12_init_1326 (by decide) ?_
  refine fq_cast (i0 := 1) hs2 ca_256 (by omega) dd_X12_init_1328 (vp_in_nI (n := 1) (by decide) (by decide)) rfl rfl (fun h3 e3 hs3 => ?_)
  refine fv_dup dd_X12_init_1329 rfl ?_
  refine fv_iconst (n := 2) (v := 2) dd_X12_init_1330 (by decide) ?_
  refine fv_bipush (n := 114) (v := 114) dd_X12_init_1331 (by decide) ?_
  refine fq_cast (i0 := 2) hs3 ca_256 (by omega) dd_X12_init_1333 (vp_in_nI (n := 2) (by decide) (by decide)) rfl rfl (fun h4 e4 hs4 => ?_)
  refine fv_dup dd_X12_init_1334 rfl ?_
  refine fv_iconst (n := 3) (v := 3) dd_X12_init_1335 (by decide) ?_
  refine fv_bipush (n := 118) (v := 118) dd_X12_init_1336 (by decide) ?_
  refine fq_cast (i0 := 3) hs4 ca_256 (by omega) dd_X12_init_1338 (vp_in_nI (n := 3) (by decide) (by decide)) rfl rfl (fun h5 e5 hs5 => ?_)
  refine fv_dup dd_X12_init_1339 rfl ?_
  refine fv_iconst (n := 4) (v := 4) dd_X12_init_1340 (by decide) ?_
  refine fv_bipush (n := 101) (v := 101) dd_X12_init_1341 (by decide) ?_
  refine fq_cast (i0 := 4) hs5 ca_256 (by omega) dd_X12_init_1343 (vp_in_nI (n := 4) (by decide) (by decide)) rfl rfl (fun h6 e6 hs6 => ?_)
  refine fv_dup dd_X12_init_1344 rfl ?_
  refine fv_iconst (n := 5) (v := 5) dd_X12_init_1345 (by decide) ?_
  refine fv_bipush (n := 115) (v := 115) dd_X12_init_1346 (by decide) ?_
  refine fq_cast (i0 := 5) hs6 ca_256 (by omega) dd_X12_init_1348 (vp_in_nI (n := 5) (by decide) (by decide)) rfl rfl (fun h7 e7 hs7 => ?_)
  refine fv_dup dd_X12_init_1349 rfl ?_
  refine fv_bipush (n := 6) (v := 6) dd_X12_init_1350 (by decide) ?_
  refine fv_bipush (n := 116) (v := 116) dd_X12_init_1352 (by decide) ?_
  refine fq_cast (i0 := 6) hs7 ca_256 (by omega) dd_X12_init_1354 (vp_in_nI (n := 6) (by decide) (by decide)) rfl rfl (fun h8 e8 hs8 => ?_)
  refine fq_putr (ci := 12) (j := 87) hs8 ca_196 (by omega) rfl dd_X12_init_1355 pf_X12_198 (Or.inr ⟨_, rfl⟩) (fun h9 e9 hs9 => ?_)
  subst e9
  subst e8
  subst e7
  subst e6
  subst e5
  subst e4
  subst e3
  subst e2
  subst e1
  exact k _ rfl hs9
theorem fz_sim.m61 {h h' : fz_H} (e : fz_sim0 h h') : fz_sim0 (hm_61 h) (hm_61 h') := by
  unfold hm_61
  repeat (first | exact e | apply fz_sim0.sI | apply fz_sim0.sP | apply fz_sim0.mk | apply fz_sim0.sL)
def hm_62 (h : fz_H) : fz_H := (fz_sP (fz_sI (fz_sI (fz_sI (fz_sI (fz_sI (fz_sI (fz_sI (fz_mk h 13 7) 257 0 113) 257 1 117) 257 2 97) 257 3 114) 257 4 114) 257 5 101) 257 6 108) 196 88 (some 257))
set_option maxRecDepth 100000 in
set_option maxHeartbeats 4000000 in
theorem k12_62 {g : fz_G} {l : Launch} {d ra rb L : Nat} {h : fz_H} (hs : fz_to L h 257) {Q : Option Value → fz_H → Prop} (k : ∀ h', h' = hm_62 h → fz_to L h' 258 → fz_V g l m_X12_init d ra rb 1402 (fz_en [.ref 196] 1) [] h' Q) : fz_V g l m_X12_init d (ra + 1) (rb + 7) 1358 (fz_en [.ref 196] 1) [] h Q := by
  refine fv_aload_n (k0 := 0) (i := 0) dd_X12_init_1358 rfl rfl ?_
  refine fv_bipush (n := 7) (v := 7) dd_X12_init_1359 (by decide) ?_
  refine fq_newaC (M := 7) hs ca_257 dd_X12_init_1361 (by decide) (by decide) (by decide) (fun h1 e1 hs1 => ?_)
  refine fv_dup dd_X12_init_1363 rfl ?_
  refine fv_iconst (n := 0) (v := 0) dd_X12_init_1364 (by decide) ?_
  refine fv_bipush (n := 113) (v := 113) dd_X12_init_1365 (by decide) ?_
  refine fq_cast (i0 := 0) hs1 ca_257 (by omega) dd_X12_init_1367 (vp_in_nI (n := 0) (by decide) (by decide)) rfl rfl (fun h2 e2 hs2 => ?_)
  refine fv_dup dd_X12_init_1368 rfl ?_
  refine fv_iconst (n := 1) (v := 1) dd_X12_init_1369 (by decide) ?_
  refine fv_bipush (n := 117) (v := 117) dd_X12_init_1370 (by decide) ?_
  refine fq_cast (i0 := 1) hs2 ca_257 (by omega) dd_X12_init_1372 (vp_in_nI (n := 1) (by decide) (by decide)) rfl rfl (fun h3 e3 hs3 => ?_)
  refine fv_dup dd_X12_init_1373 rfl ?_
  refine fv_iconst (n := 2) (v := 2) dd_X12_init_1374 (by decide) ?_
  refine fv_bipush (n := 97) (v := 97) dd_X12_init_1375 (by decide) ?_
  refine fq_cast (i0 := 2) hs3 ca_257 (by omega) dd_X12_init_1377 (vp_in_nI (n := 2) (by decide) (by decide)) rfl rfl (fun h4 e4 hs4 => ?_)
  refine fv_dup dd_X12_init_1378 rfl ?_
  refine fv_iconst (n := 3) (v := 3) dd_X12_init_1379 (by decide) ?_
  refine fv_bipush (n := 114) (v := 114) dd_X12_init_1380 (by decide) ?_
  refine fq_cast (i0 := 3) hs4 ca_257 (by omega) dd_X12_init_1382 (vp_in_nI (n := 3) (by decide) (by decide)) rfl rfl (fun h5 e5 hs5 => ?_)
  refine fv_dup dd_X12_init_1383 rfl ?_
  refine fv_iconst (n := 4) (v := 4) dd_X12_init_1384 (by decide) ?_
  refine fv_bipush (n := 114) (v := 114) dd_X12_init_1385 (by decide) ?_
  refine fq_cast (i0 := 4) hs5 ca_257 (by omega) dd_X12_init_1387 (vp_in_nI (n := 4) (by decide) (by decide)) rfl rfl (fun h6 e6 hs6 => ?_)
  refine fv_dup dd_X12_init_1388 rfl ?_
  refine fv_iconst (n := 5) (v := 5) dd_X12_init_1389 (by decide) ?_
  refine fv_bipush (n := 101) (v := 101) dd_X12_init_1390 (by decide) ?_
  refine fq_cast (i0 := 5) hs6 ca_257 (by omega) dd_X12_init_1392 (vp_in_nI (n := 5) (by decide) (by decide)) rfl rfl (fun h7 e7 hs7 => ?_)
  refine fv_dup dd_X12_init_1393 rfl ?_
  refine fv_bipush (n := 6) (v := 6) dd_X12_init_1394 (by decide) ?_
  refine fv_bipush (n := 108) (v := 108) dd_X12_init_1396 (by decide) ?_
  refine fq_cast (i0 := 6) hs7 ca_257 (by omega) dd_X12_init_1398 (vp_in_nI (n := 6) (by decide) (by decide)) rfl rfl (fun h8 e8 hs8 => ?_)
  refine fq_putr (ci := 12) (j := 88) hs8 ca_196 (by omega) rfl dd_X12_init_1399 pf_X12_201 (Or.inr ⟨_, rfl⟩) (fun h9 e9 hs9 => ?_)
  subst e9
  subst e8
  subst e7
  subst e6
  subst e5
  subst e4
  subst e3
  subst e2
  subst e1
  exact k _ rfl hs9
theorem fz_sim.m62 {h h' : fz_H} (e : fz_sim0 h h') : fz_sim0 (hm_62 h) (hm_62 h') := by
  unfold hm_62
  repeat (first | exact e | apply fz_sim0.sI | apply fz_sim0.sP | apply fz_sim0.mk | apply fz_sim0.sL)
def hm_63 (h : fz_H) : fz_H := (fz_sP (fz_sI (fz_sI (fz_sI (fz_sI (fz_mk h 13 4) 258 0 121) 258 1 101) 258 2 97) 258 3 114) 196 89 (some 258))
set_option maxRecDepth 100000 in
set_option maxHeartbeats 4000000 in
theorem k12_63 {g : fz_G} {l : Launch} {d ra rb L : Nat} {h : fz_H} (hs : fz_to L h 258) {Q : Option Value → fz_H → Prop} (k : ∀ h', h' = hm_63 h → fz_to L h' 259 → fz_V g l m_X12_init d ra rb 1429 (fz_en [.ref 196] 1) [] h' Q) : fz_V g l m_X12_init d (ra + 1) (rb + 4) 1402 (fz_en [.ref 196] 1) [] h Q := by
  refine fv_aload_n (k0 := 0) (i := 0) dd_X12_init_1402 rfl rfl ?_
  refine fv_iconst (n := 4) (v := 4) dd_X12_init_1403 (by decide) ?_
  refine fq_newaC (M := 4) hs ca_258 dd_X12_init_1404 (by decide) (by decide) (by decide) (fun h1 e1 hs1 => ?_)
  refine fv_dup dd_X12_init_1406 rfl ?_
  refine fv_iconst (n := 0) (v := 0) dd_X12_init_1407 (by decide) ?_
  refine fv_bipush (n := 121) (v := 121) dd_X12_init_1408 (by decide) ?_
  refine fq_cast (i0 := 0) hs1 ca_258 (by omega) dd_X12_init_1410 (vp_in_nI (n := 0) (by decide) (by decide)) rfl rfl (fun h2 e2 hs2 => ?_)
  refine fv_dup dd_X12_init_1411 rfl ?_
  refine fv_iconst (n := 1) (v := 1) dd_X12_init_1412 (by decide) ?_
  refine fv_bipush (n := 101) (v := 101) dd_X12_init_1413 (by decide) ?_
  refine fq_cast (i0 := 1) hs2 ca_258 (by omega) dd_X12_init_1415 (vp_in_nI (n := 1) (by decide) (by decide)) rfl rfl (fun h3 e3 hs3 => ?_)
  refine fv_dup dd_X12_init_1416 rfl ?_
  refine fv_iconst (n := 2) (v := 2) dd_X12_init_1417 (by decide) ?_
  refine fv_bipush (n := 97) (v := 97) dd_X12_init_1418 (by decide) ?_
  refine fq_cast (i0 := 2) hs3 ca_258 (by omega) dd_X12_init_1420 (vp_in_nI (n := 2) (by decide) (by decide)) rfl rfl (fun h4 e4 hs4 => ?_)
  refine fv_dup dd_X12_init_1421 rfl ?_
  refine fv_iconst (n := 3) (v := 3) dd_X12_init_1422 (by decide) ?_
  refine fv_bipush (n := 114) (v := 114) dd_X12_init_1423 (by decide) ?_
  refine fq_cast (i0 := 3) hs4 ca_258 (by omega) dd_X12_init_1425 (vp_in_nI (n := 3) (by decide) (by decide)) rfl rfl (fun h5 e5 hs5 => ?_)
  refine fq_putr (ci := 12) (j := 89) hs5 ca_196 (by omega) rfl dd_X12_init_1426 pf_X12_204 (Or.inr ⟨_, rfl⟩) (fun h6 e6 hs6 => ?_)
  subst e6
  subst e5
  subst e4
  subst e3
  subst e2
  subst e1
  exact k _ rfl hs6
theorem fz_sim.m63 {h h' : fz_H} (e : fz_sim0 h h') : fz_sim0 (hm_63 h) (hm_63 h') := by
  unfold hm_63
  repeat (first | exact e | apply fz_sim0.sI | apply fz_sim0.sP | apply fz_sim0.mk | apply fz_sim0.sL)
def hm_64 (h : fz_H) : fz_H := (fz_sP (fz_sI (fz_sI (fz_sI (fz_sI (fz_mk h 13 4) 259 0 119) 259 1 105) 259 2 116) 259 3 115) 196 90 (some 259))
set_option maxRecDepth 100000 in
set_option maxHeartbeats 4000000 in
theorem k12_64 {g : fz_G} {l : Launch} {d ra rb L : Nat} {h : fz_H} (hs : fz_to L h 259) {Q : Option Value → fz_H → Prop} (k : ∀ h', h' = hm_64 h → fz_to L h' 260 → fz_V g l m_X12_init d ra rb 1456 (fz_en [.ref 196] 1) [] h' Q) : fz_V g l m_X12_init d (ra + 1) (rb + 4) 1429 (fz_en [.ref 196] 1) [] h Q := by
  refine fv_aload_n (k0 := 0) (i := 0) dd_X12_init_1429 rfl rfl ?_
  refine fv_iconst (n := 4) (v := 4) dd_X12_init_1430 (by decide) ?_
  refine fq_newaC (M := 4) hs ca_259 dd_X12_init_1431 (by decide) (by decide) (by decide) (fun h1 e1 hs1 => ?_)
  refine fv_dup dd_X12_init_1433 rfl ?_
  refine fv_iconst (n := 0) (v := 0) dd_X12_init_1434 (by decide) ?_
  refine fv_bipush (n := 119) (v := 119) dd_X12_init_1435 (by decide) ?_
  refine fq_cast (i0 := 0) hs1 ca_259 (by omega) dd_X12_init_1437 (vp_in_nI (n := 0) (by decide) (by decide)) rfl rfl (fun h2 e2 hs2 => ?_)
  refine fv_dup dd_X12_init_1438 rfl ?_
  refine fv_iconst (n := 1) (v := 1) dd_X12_init_1439 (by decide) ?_
  refine fv_bipush (n := 105) (v := 105) dd_X12_init_1440 (by decide) ?_
  refine fq_cast (i0 := 1) hs2 ca_259 (by omega) dd_X12_init_1442 (vp_in_nI (n := 1) (by decide) (by decide)) rfl rfl (fun h3 e3 hs3 => ?_)
  refine fv_dup dd_X12_init_1443 rfl ?_
  refine fv_iconst (n := 2) (v := 2) dd_X12_init_1444 (by decide) ?_
  refine fv_bipush (n := 116) (v := 116) dd_X12_init_1445 (by decide) ?_
  refine fq_cast (i0 := 2) hs3 ca_259 (by omega) dd_X12_init_1447 (vp_in_nI (n := 2) (by decide) (by decide)) rfl rfl (fun h4 e4 hs4 => ?_)
  refine fv_dup dd_X12_init_1448 rfl ?_
  refine fv_iconst (n := 3) (v := 3) dd_X12_init_1449 (by decide) ?_
  refine fv_bipush (n := 115) (v := 115) dd_X12_init_1450 (by decide) ?_
  refine fq_cast (i0 := 3) hs4 ca_259 (by omega) dd_X12_init_1452 (vp_in_nI (n := 3) (by decide) (by decide)) rfl rfl (fun h5 e5 hs5 => ?_)
  refine fq_putr (ci := 12) (j := 90) hs5 ca_196 (by omega) rfl dd_X12_init_1453 pf_X12_207 (Or.inr ⟨_, rfl⟩) (fun h6 e6 hs6 => ?_)
  subst e6
  subst e5
  subst e4
  subst e3
  subst e2
  subst e1
  exact k _ rfl hs6
theorem fz_sim.m64 {h h' : fz_H} (e : fz_sim0 h h') : fz_sim0 (hm_64 h) (hm_64 h') := by
  unfold hm_64
  repeat (first | exact e | apply fz_sim0.sI | apply fz_sim0.sP | apply fz_sim0.mk | apply fz_sim0.sL)
def hm_65 (h : fz_H) : fz_H := (fz_sP (fz_sI (fz_sI (fz_sI (fz_sI (fz_mk h 13 4) 260 0 111) 260 1 97) 260 2 116) 260 3 104) 196 91 (some 260))
set_option maxRecDepth 100000 in
set_option maxHeartbeats 4000000 in
theorem k12_65 {g : fz_G} {l : Launch} {d ra rb L : Nat} {h : fz_H} (hs : fz_to L h 260) {Q : Option Value → fz_H → Prop} (k : ∀ h', h' = hm_65 h → fz_to L h' 261 → fz_V g l m_X12_init d ra rb 1483 (fz_en [.ref 196] 1) [] h' Q) : fz_V g l m_X12_init d (ra + 1) (rb + 4) 1456 (fz_en [.ref 196] 1) [] h Q := by
  refine fv_aload_n (k0 := 0) (i := 0) dd_X12_init_1456 rfl rfl ?_
  refine fv_iconst (n := 4) (v := 4) dd_X12_init_1457 (by decide) ?_
  refine fq_newaC (M := 4) hs ca_260 dd_X12_init_1458 (by decide) (by decide) (by decide) (fun h1 e1 hs1 => ?_)
  refine fv_dup dd_X12_init_1460 rfl ?_
  refine fv_iconst (n := 0) (v := 0) dd_X12_init_1461 (by decide) ?_
  refine fv_bipush (n := 111) (v := 111) dd_X12_init_1462 (by decide) ?_
  refine fq_cast (i0 := 0) hs1 ca_260 (by omega) dd_X12_init_1464 (vp_in_nI (n := 0) (by decide) (by decide)) rfl rfl (fun h2 e2 hs2 => ?_)
  refine fv_dup dd_X12_init_1465 rfl ?_
  refine fv_iconst (n := 1) (v := 1) dd_X12_init_1466 (by decide) ?_
  refine fv_bipush (n := 97) (v := 97) dd_X12_init_1467 (by decide) ?_
  refine fq_cast (i0 := 1) hs2 ca_260 (by omega) dd_X12_init_1469 (vp_in_nI (n := 1) (by decide) (by decide)) rfl rfl (fun h3 e3 hs3 => ?_)
  refine fv_dup dd_X12_init_1470 rfl ?_
  refine fv_iconst (n := 2) (v := 2) dd_X12_init_1471 (by decide) ?_
  refine fv_bipush (n := 116) (v := 116) dd_X12_init_1472 (by decide) ?_
  refine fq_cast (i0 := 2) hs3 ca_260 (by omega) dd_X12_init_1474 (vp_in_nI (n := 2) (by decide) (by decide)) rfl rfl (fun h4 e4 hs4 => ?_)
  refine fv_dup dd_X12_init_1475 rfl ?_
  refine fv_iconst (n := 3) (v := 3) dd_X12_init_1476 (by decide) ?_
  refine fv_bipush (n := 104) (v := 104) dd_X12_init_1477 (by decide) ?_
  refine fq_cast (i0 := 3) hs4 ca_260 (by omega) dd_X12_init_1479 (vp_in_nI (n := 3) (by decide) (by decide)) rfl rfl (fun h5 e5 hs5 => ?_)
  refine fq_putr (ci := 12) (j := 91) hs5 ca_196 (by omega) rfl dd_X12_init_1480 pf_X12_210 (Or.inr ⟨_, rfl⟩) (fun h6 e6 hs6 => ?_)
  subst e6
  subst e5
  subst e4
  subst e3
  subst e2
  subst e1
  exact k _ rfl hs6
theorem fz_sim.m65 {h h' : fz_H} (e : fz_sim0 h h') : fz_sim0 (hm_65 h) (hm_65 h') := by
  unfold hm_65
  repeat (first | exact e | apply fz_sim0.sI | apply fz_sim0.sP | apply fz_sim0.mk | apply fz_sim0.sL)
def hm_66 (h : fz_H) : fz_H := (fz_sP (fz_sI (fz_sI (fz_sI (fz_sI (fz_sI (fz_mk h 13 5) 261 0 99) 261 1 104) 261 2 101) 261 3 101) 261 4 114) 196 92 (some 261))
set_option maxRecDepth 100000 in
set_option maxHeartbeats 4000000 in
theorem k12_66 {g : fz_G} {l : Launch} {d ra rb L : Nat} {h : fz_H} (hs : fz_to L h 261) {Q : Option Value → fz_H → Prop} (k : ∀ h', h' = hm_66 h → fz_to L h' 262 → fz_V g l m_X12_init d ra rb 1515 (fz_en [.ref 196] 1) [] h' Q) : fz_V g l m_X12_init d (ra + 1) (rb + 5) 1483 (fz_en [.ref 196] 1) [] h Q := by
  refine fv_aload_n (k0 := 0) (i := 0) dd_X12_init_1483 rfl rfl ?_
  refine fv_iconst (n := 5) (v := 5) dd_X12_init_1484 (by decide) ?_
  refine fq_newaC (M := 5) hs ca_261 dd_X12_init_1485 (by decide) (by decide) (by decide) (fun h1 e1 hs1 => ?_)
  refine fv_dup dd_X12_init_1487 rfl ?_
  refine fv_iconst (n := 0) (v := 0) dd_X12_init_1488 (by decide) ?_
  refine fv_bipush (n := 99) (v := 99) dd_X12_init_1489 (by decide) ?_
  refine fq_cast (i0 := 0) hs1 ca_261 (by omega) dd_X12_init_1491 (vp_in_nI (n := 0) (by decide) (by decide)) rfl rfl (fun h2 e2 hs2 => ?_)
  refine fv_dup dd_X12_init_1492 rfl ?_
  refine fv_iconst (n := 1) (v := 1) dd_X12_init_1493 (by decide) ?_
  refine fv_bipush (n := 104) (v := 104) dd_X12_init_1494 (by decide) ?_
  refine fq_cast (i0 := 1) hs2 ca_261 (by omega) dd_X12_init_1496 (vp_in_nI (n := 1) (by decide) (by decide)) rfl rfl (fun h3 e3 hs3 => ?_)
  refine fv_dup dd_X12_init_1497 rfl ?_
  refine fv_iconst (n := 2) (v := 2) dd_X12_init_1498 (by decide) ?_
  refine fv_bipush (n := 101) (v := 101) dd_X12_init_1499 (by decide) ?_
  refine fq_cast (i0 := 2) hs3 ca_261 (by omega) dd_X12_init_1501 (vp_in_nI (n := 2) (by decide) (by decide)) rfl rfl (fun h4 e4 hs4 => ?_)
  refine fv_dup dd_X12_init_1502 rfl ?_
  refine fv_iconst (n := 3) (v := 3) dd_X12_init_1503 (by decide) ?_
  refine fv_bipush (n := 101) (v := 101) dd_X12_init_1504 (by decide) ?_
  refine fq_cast (i0 := 3) hs4 ca_261 (by omega) dd_X12_init_1506 (vp_in_nI (n := 3) (by decide) (by decide)) rfl rfl (fun h5 e5 hs5 => ?_)
  refine fv_dup dd_X12_init_1507 rfl ?_
  refine fv_iconst (n := 4) (v := 4) dd_X12_init_1508 (by decide) ?_
  refine fv_bipush (n := 114) (v := 114) dd_X12_init_1509 (by decide) ?_
  refine fq_cast (i0 := 4) hs5 ca_261 (by omega) dd_X12_init_1511 (vp_in_nI (n := 4) (by decide) (by decide)) rfl rfl (fun h6 e6 hs6 => ?_)
  refine fq_putr (ci := 12) (j := 92) hs6 ca_196 (by omega) rfl dd_X12_init_1512 pf_X12_213 (Or.inr ⟨_, rfl⟩) (fun h7 e7 hs7 => ?_)
  subst e7
  subst e6
  subst e5
  subst e4
  subst e3
  subst e2
  subst e1
  exact k _ rfl hs7
theorem fz_sim.m66 {h h' : fz_H} (e : fz_sim0 h h') : fz_sim0 (hm_66 h) (hm_66 h') := by
  unfold hm_66
  repeat (first | exact e | apply fz_sim0.sI | apply fz_sim0.sP | apply fz_sim0.mk | apply fz_sim0.sL)
def hm_67 (h : fz_H) : fz_H := (fz_sP (fz_sI (fz_sI (fz_sI (fz_sI (fz_mk h 13 4) 262 0 97) 262 1 119) 262 2 97) 262 3 121) 196 93 (some 262))
set_option maxRecDepth 100000 in
set_option maxHeartbeats 4000000 in
theorem k12_67 {g : fz_G} {l : Launch} {d ra rb L : Nat} {h : fz_H} (hs : fz_to L h 262) {Q : Option Value → fz_H → Prop} (k : ∀ h', h' = hm_67 h → fz_to L h' 263 → fz_V g l m_X12_init d ra rb 1542 (fz_en [.ref 196] 1) [] h' Q) : fz_V g l m_X12_init d (ra + 1) (rb + 4) 1515 (fz_en [.ref 196] 1) [] h Q := by
  refine fv_aload_n (k0 := 0) (i := 0) dd_X12_init_1515 rfl rfl ?_
  refine fv_iconst (n := 4) (v := 4) dd_X12_init_1516 (by decide) ?_
  refine fq_newaC (M := 4) hs ca_262 dd_X12_init_1517 (by decide) (by decide) (by decide) (fun h1 e1 hs1 => ?_)
  refine fv_dup dd_X12_init_1519 rfl ?_
  refine fv_iconst (n := 0) (v := 0) dd_X12_init_1520 (by decide) ?_
  refine fv_bipush (n := 97) (v := 97) dd_X12_init_1521 (by decide) ?_
  refine fq_cast (i0 := 0) hs1 ca_262 (by omega) dd_X12_init_1523 (vp_in_nI (n := 0) (by decide) (by decide)) rfl rfl (fun h2 e2 hs2 => ?_)
  refine fv_dup dd_X12_init_1524 rfl ?_
  refine fv_iconst (n := 1) (v := 1) dd_X12_init_1525 (by decide) ?_
  refine fv_bipush (n := 119) (v := 119) dd_X12_init_1526 (by decide) ?_
  refine fq_cast (i0 := 1) hs2 ca_262 (by omega) dd_X12_init_1528 (vp_in_nI (n := 1) (by decide) (by decide)) rfl rfl (fun h3 e3 hs3 => ?_)
  refine fv_dup dd_X12_init_1529 rfl ?_
  refine fv_iconst (n := 2) (v := 2) dd_X12_init_1530 (by decide) ?_
  refine fv_bipush (n := 97) (v := 97) dd_X12_init_1531 (by decide) ?_
  refine fq_cast (i0 := 2) hs3 ca_262 (by omega) dd_X12_init_1533 (vp_in_nI (n := 2) (by decide) (by decide)) rfl rfl (fun h4 e4 hs4 => ?_)
  refine fv_dup dd_X12_init_1534 rfl ?_
  refine fv_iconst (n := 3) (v := 3) dd_X12_init_1535 (by decide) ?_
  refine fv_bipush (n := 121) (v := 121) dd_X12_init_1536 (by decide) ?_
  refine fq_cast (i0 := 3) hs4 ca_262 (by omega) dd_X12_init_1538 (vp_in_nI (n := 3) (by decide) (by decide)) rfl rfl (fun h5 e5 hs5 => ?_)
  refine fq_putr (ci := 12) (j := 93) hs5 ca_196 (by omega) rfl dd_X12_init_1539 pf_X12_216 (Or.inr ⟨_, rfl⟩) (fun h6 e6 hs6 => ?_)
  subst e6
  subst e5
  subst e4
  subst e3
  subst e2
  subst e1
  exact k _ rfl hs6
theorem fz_sim.m67 {h h' : fz_H} (e : fz_sim0 h h') : fz_sim0 (hm_67 h) (hm_67 h') := by
  unfold hm_67
  repeat (first | exact e | apply fz_sim0.sI | apply fz_sim0.sP | apply fz_sim0.mk | apply fz_sim0.sL)
def hm_68 (h : fz_H) : fz_H := (fz_sP (fz_sI (fz_sI (fz_sI (fz_sI (fz_sI (fz_sI (fz_mk h 13 6) 263 0 103) 263 1 117) 263 2 101) 263 3 115) 263 4 116) 263 5 115) 196 94 (some 263))
set_option maxRecDepth 100000 in
set_option maxHeartbeats 4000000 in
theorem k12_68 {g : fz_G} {l : Launch} {d ra rb L : Nat} {h : fz_H} (hs : fz_to L h 263) {Q : Option Value → fz_H → Prop} (k : ∀ h', h' = hm_68 h → fz_to L h' 264 → fz_V g l m_X12_init d ra rb 1580 (fz_en [.ref 196] 1) [] h' Q) : fz_V g l m_X12_init d (ra + 1) (rb + 6) 1542 (fz_en [.ref 196] 1) [] h Q := by
  refine fv_aload_n (k0 := 0) (i := 0) dd_X12_init_1542 rfl rfl ?_
  refine fv_bipush (n := 6) (v := 6) dd_X12_init_1543 (by decide) ?_
  refine fq_newaC (M := 6) hs ca_263 dd_X12_init_1545 (by decide) (by decide) (by decide) (fun h1 e1 hs1 => ?_)
  refine fv_dup dd_X12_init_1547 rfl ?_
  refine fv_iconst (n := 0) (v := 0) dd_X12_init_1548 (by decide) ?_
  refine fv_bipush (n := 103) (v := 103) dd_X12_init_1549 (by decide) ?_
  refine fq_cast (i0 := 0) hs1 ca_263 (by omega) dd_X12_init_1551 (vp_in_nI (n := 0) (by decide) (by decide)) rfl rfl (fun h2 e2 hs2 => ?_)
  refine fv_dup dd_X12_init_1552 rfl ?_
  refine fv_iconst (n := 1) (v := 1) dd_X12_init_1553 (by decide) ?_
  refine fv_bipush (n := 117) (v := 117) dd_X12_init_1554 (by decide) ?_
  refine fq_cast (i0 := 1) hs2 ca_263 (by omega) dd_X12_init_1556 (vp_in_nI (n := 1) (by decide) (by decide)) rfl rfl (fun h3 e3 hs3 => ?_)
  refine fv_dup dd_X12_init_1557 rfl ?_
  refine fv_iconst (n := 2) (v := 2) dd_X12_init_1558 (by decide) ?_
  refine fv_bipush (n := 101) (v := 101) dd_X12_init_1559 (by decide) ?_
  refine fq_cast (i0 := 2) hs3 ca_263 (by omega) dd_X12_init_1561 (vp_in_nI (n := 2) (by decide) (by decide)) rfl rfl (fun h4 e4 hs4 => ?_)
  refine fv_dup dd_X12_init_1562 rfl ?_
  refine fv_iconst (n := 3) (v := 3) dd_X12_init_1563 (by decide) ?_
  refine fv_bipush (n := 115) (v := 115) dd_X12_init_1564 (by decide) ?_
  refine fq_cast (i0 := 3) hs4 ca_263 (by omega) dd_X12_init_1566 (vp_in_nI (n := 3) (by decide) (by decide)) rfl rfl (fun h5 e5 hs5 => ?_)
  refine fv_dup dd_X12_init_1567 rfl ?_
  refine fv_iconst (n := 4) (v := 4) dd_X12_init_1568 (by decide) ?_
  refine fv_bipush (n := 116) (v := 116) dd_X12_init_1569 (by decide) ?_
  refine fq_cast (i0 := 4) hs5 ca_263 (by omega) dd_X12_init_1571 (vp_in_nI (n := 4) (by decide) (by decide)) rfl rfl (fun h6 e6 hs6 => ?_)
  refine fv_dup dd_X12_init_1572 rfl ?_
  refine fv_iconst (n := 5) (v := 5) dd_X12_init_1573 (by decide) ?_
  refine fv_bipush (n := 115) (v := 115) dd_X12_init_1574 (by decide) ?_
  refine fq_cast (i0 := 5) hs6 ca_263 (by omega) dd_X12_init_1576 (vp_in_nI (n := 5) (by decide) (by decide)) rfl rfl (fun h7 e7 hs7 => ?_)
  refine fq_putr (ci := 12) (j := 94) hs7 ca_196 (by omega) rfl dd_X12_init_1577 pf_X12_219 (Or.inr ⟨_, rfl⟩) (fun h8 e8 hs8 => ?_)
  subst e8
  subst e7
  subst e6
  subst e5
  subst e4
  subst e3
  subst e2
  subst e1
  exact k _ rfl hs8
theorem fz_sim.m68 {h h' : fz_H} (e : fz_sim0 h h') : fz_sim0 (hm_68 h) (hm_68 h') := by
  unfold hm_68
  repeat (first | exact e | apply fz_sim0.sI | apply fz_sim0.sP | apply fz_sim0.mk | apply fz_sim0.sL)
def hm_69 (h : fz_H) : fz_H := (fz_sP (fz_sI (fz_sI (fz_sI (fz_sI (fz_sI (fz_sI (fz_mk h 13 6) 264 0 110) 264 1 117) 264 2 109) 264 3 98) 264 4 101) 264 5 114) 196 95 (some 264))
set_option maxRecDepth 100000 in
set_option maxHeartbeats 4000000 in
theorem k12_69 {g : fz_G} {l : Launch} {d ra rb L : Nat} {h : fz_H} (hs : fz_to L h 264) {Q : Option Value → fz_H → Prop} (k : ∀ h', h' = hm_69 h → fz_to L h' 265 → fz_V g l m_X12_init d ra rb 1618 (fz_en [.ref 196] 1) [] h' Q) : fz_V g l m_X12_init d (ra + 1) (rb + 6) 1580 (fz_en [.ref 196] 1) [] h Q := by
  refine fv_aload_n (k0 := 0) (i := 0) dd_X12_init_1580 rfl rfl ?_
  refine fv_bipush (n := 6) (v := 6) dd_X12_init_1581 (by decide) ?_
  refine fq_newaC (M := 6) hs ca_264 dd_X12_init_1583 (by decide) (by decide) (by decide) (fun h1 e1 hs1 => ?_)
  refine fv_dup dd_X12_init_1585 rfl ?_
  refine fv_iconst (n := 0) (v := 0) dd_X12_init_1586 (by decide) ?_
  refine fv_bipush (n := 110) (v := 110) dd_X12_init_1587 (by decide) ?_
  refine fq_cast (i0 := 0) hs1 ca_264 (by omega) dd_X12_init_1589 (vp_in_nI (n := 0) (by decide) (by decide)) rfl rfl (fun h2 e2 hs2 => ?_)
  refine fv_dup dd_X12_init_1590 rfl ?_
  refine fv_iconst (n := 1) (v := 1) dd_X12_init_1591 (by decide) ?_
  refine fv_bipush (n := 117) (v := 117) dd_X12_init_1592 (by decide) ?_
  refine fq_cast (i0 := 1) hs2 ca_264 (by omega) dd_X12_init_1594 (vp_in_nI (n := 1) (by decide) (by decide)) rfl rfl (fun h3 e3 hs3 => ?_)
  refine fv_dup dd_X12_init_1595 rfl ?_
  refine fv_iconst (n := 2) (v := 2) dd_X12_init_1596 (by decide) ?_
  refine fv_bipush (n := 109) (v := 109) dd_X12_init_1597 (by decide) ?_
  refine fq_cast (i0 := 2) hs3 ca_264 (by omega) dd_X12_init_1599 (vp_in_nI (n := 2) (by decide) (by decide)) rfl rfl (fun h4 e4 hs4 => ?_)
  refine fv_dup dd_X12_init_1600 rfl ?_
  refine fv_iconst (n := 3) (v := 3) dd_X12_init_1601 (by decide) ?_
  refine fv_bipush (n := 98) (v := 98) dd_X12_init_1602 (by decide) ?_
  refine fq_cast (i0 := 3) hs4 ca_264 (by omega) dd_X12_init_1604 (vp_in_nI (n := 3) (by decide) (by decide)) rfl rfl (fun h5 e5 hs5 => ?_)
  refine fv_dup dd_X12_init_1605 rfl ?_
  refine fv_iconst (n := 4) (v := 4) dd_X12_init_1606 (by decide) ?_
  refine fv_bipush (n := 101) (v := 101) dd_X12_init_1607 (by decide) ?_
  refine fq_cast (i0 := 4) hs5 ca_264 (by omega) dd_X12_init_1609 (vp_in_nI (n := 4) (by decide) (by decide)) rfl rfl (fun h6 e6 hs6 => ?_)
  refine fv_dup dd_X12_init_1610 rfl ?_
  refine fv_iconst (n := 5) (v := 5) dd_X12_init_1611 (by decide) ?_
  refine fv_bipush (n := 114) (v := 114) dd_X12_init_1612 (by decide) ?_
  refine fq_cast (i0 := 5) hs6 ca_264 (by omega) dd_X12_init_1614 (vp_in_nI (n := 5) (by decide) (by decide)) rfl rfl (fun h7 e7 hs7 => ?_)
  refine fq_putr (ci := 12) (j := 95) hs7 ca_196 (by omega) rfl dd_X12_init_1615 pf_X12_222 (Or.inr ⟨_, rfl⟩) (fun h8 e8 hs8 => ?_)
  subst e8
  subst e7
  subst e6
  subst e5
  subst e4
  subst e3
  subst e2
  subst e1
  exact k _ rfl hs8
theorem fz_sim.m69 {h h' : fz_H} (e : fz_sim0 h h') : fz_sim0 (hm_69 h) (hm_69 h') := by
  unfold hm_69
  repeat (first | exact e | apply fz_sim0.sI | apply fz_sim0.sP | apply fz_sim0.mk | apply fz_sim0.sL)
def hm_70 (h : fz_H) : fz_H := (fz_sP (fz_sI (fz_sI (fz_sI (fz_sI (fz_sI (fz_mk h 13 5) 265 0 108) 265 1 105) 265 2 118) 265 3 101) 265 4 115) 196 96 (some 265))
set_option maxRecDepth 100000 in
set_option maxHeartbeats 4000000 in
theorem k12_70 {g : fz_G} {l : Launch} {d ra rb L : Nat} {h : fz_H} (hs : fz_to L h 265) {Q : Option Value → fz_H → Prop} (k : ∀ h', h' = hm_70 h → fz_to L h' 266 → fz_V g l m_X12_init d ra rb 1650 (fz_en [.ref 196] 1) [] h' Q) : fz_V g l m_X12_init d (ra + 1) (rb + 5) 1618 (fz_en [.ref 196] 1) [] h Q := by
  refine fv_aload_n (k0 := 0) (i := 0) dd_X12_init_1618 rfl rfl ?_
  refine fv_iconst (n := 5) (v := 5) dd_X12_init_1619 (by decide) ?_
  refine fq_newaC (M := 5) hs ca_265 dd_X12_init_1620 (by decide) (by decide) (by decide) (fun h1 e1 hs1 => ?_)
  refine fv_dup dd_X12_init_1622 rfl ?_
  refine fv_iconst (n := 0) (v := 0) dd_X12_init_1623 (by decide) ?_
  refine fv_bipush (n := 108) (v := 108) dd_X12_init_1624 (by decide) ?_
  refine fq_cast (i0 := 0) hs1 ca_265 (by omega) dd_X12_init_1626 (vp_in_nI (n := 0) (by decide) (by decide)) rfl rfl (fun h2 e2 hs2 => ?_)
  refine fv_dup dd_X12_init_1627 rfl ?_
  refine fv_iconst (n := 1) (v := 1) dd_X12_init_1628 (by decide) ?_
  refine fv_bipush (n := 105) (v := 105) dd_X12_init_1629 (by decide) ?_
  refine fq_cast (i0 := 1) hs2 ca_265 (by omega) dd_X12_init_1631 (vp_in_nI (n := 1) (by decide) (by decide)) rfl rfl (fun h3 e3 hs3 => ?_)
  refine fv_dup dd_X12_init_1632 rfl ?_
  refine fv_iconst (n := 2) (v := 2) dd_X12_init_1633 (by decide) ?_
  refine fv_bipush (n := 118) (v := 118) dd_X12_init_1634 (by decide) ?_
  refine fq_cast (i0 := 2) hs3 ca_265 (by omega) dd_X12_init_1636 (vp_in_nI (n := 2) (by decide) (by decide)) rfl rfl (fun h4 e4 hs4 => ?_)
  refine fv_dup dd_X12_init_1637 rfl ?_
  refine fv_iconst (n := 3) (v := 3) dd_X12_init_1638 (by decide) ?_
  refine fv_bipush (n := 101) (v := 101) dd_X12_init_1639 (by decide) ?_
  refine fq_cast (i0 := 3) hs4 ca_265 (by omega) dd_X12_init_1641 (vp_in_nI (n := 3) (by decide) (by decide)) rfl rfl (fun h5 e5 hs5 => ?_)
  refine fv_dup dd_X12_init_1642 rfl ?_
  refine fv_iconst (n := 4) (v := 4) dd_X12_init_1643 (by decide) ?_
  refine fv_bipush (n := 115) (v := 115) dd_X12_init_1644 (by decide) ?_
  refine fq_cast (i0 := 4) hs5 ca_265 (by omega) dd_X12_init_1646 (vp_in_nI (n := 4) (by decide) (by decide)) rfl rfl (fun h6 e6 hs6 => ?_)
  refine fq_putr (ci := 12) (j := 96) hs6 ca_196 (by omega) rfl dd_X12_init_1647 pf_X12_225 (Or.inr ⟨_, rfl⟩) (fun h7 e7 hs7 => ?_)
  subst e7
  subst e6
  subst e5
  subst e4
  subst e3
  subst e2
  subst e1
  exact k _ rfl hs7
theorem fz_sim.m70 {h h' : fz_H} (e : fz_sim0 h h') : fz_sim0 (hm_70 h) (hm_70 h') := by
  unfold hm_70
  repeat (first | exact e | apply fz_sim0.sI | apply fz_sim0.sP | apply fz_sim0.mk | apply fz_sim0.sL)
def hm_71 (h : fz_H) : fz_H := (fz_sP (fz_sI (fz_sI (fz_sI (fz_sI (fz_mk h 13 4) 266 0 104) 266 1 111) 266 2 109) 266 3 101) 196 97 (some 266))
set_option maxRecDepth 100000 in
set_option maxHeartbeats 4000000 in
theorem k12_71 {g : fz_G} {l : Launch} {d ra rb L : Nat} {h : fz_H} (hs : fz_to L h 266) {Q : Option Value → fz_H → Prop} (k : ∀ h', h' = hm_71 h → fz_to L h' 267 → fz_V g l m_X12_init d ra rb 1677 (fz_en [.ref 196] 1) [] h' Q) : fz_V g l m_X12_init d (ra + 1) (rb + 4) 1650 (fz_en [.ref 196] 1) [] h Q := by
  refine fv_aload_n (k0 := 0) (i := 0) dd_X12_init_1650 rfl rfl ?_
  refine fv_iconst (n := 4) (v := 4) dd_X12_init_1651 (by decide) ?_
  refine fq_newaC (M := 4) hs ca_266 dd_X12_init_1652 (by decide) (by decide) (by decide) (fun h1 e1 hs1 => ?_)
  refine fv_dup dd_X12_init_1654 rfl ?_
  refine fv_iconst (n := 0) (v := 0) dd_X12_init_1655 (by decide) ?_
  refine fv_bipush (n := 104) (v := 104) dd_X12_init_1656 (by decide) ?_
  refine fq_cast (i0 := 0) hs1 ca_266 (by omega) dd_X12_init_1658 (vp_in_nI (n := 0) (by decide) (by decide)) rfl rfl (fun h2 e2 hs2 => ?_)
  refine fv_dup dd_X12_init_1659 rfl ?_
  refine fv_iconst (n := 1) (v := 1) dd_X12_init_1660 (by decide) ?_
  refine fv_bipush (n := 111) (v := 111) dd_X12_init_1661 (by decide) ?_
  refine fq_cast (i0 := 1) hs2 ca_266 (by omega) dd_X12_init_1663 (vp_in_nI (n := 1) (by decide) (by decide)) rfl rfl (fun h3 e3 hs3 => ?_)
  refine fv_dup dd_X12_init_1664 rfl ?_
  refine fv_iconst (n := 2) (v := 2) dd_X12_init_1665 (by decide) ?_
  refine fv_bipush (n := 109) (v := 109) dd_X12_init_1666 (by decide) ?_
  refine fq_cast (i0 := 2) hs3 ca_266 (by omega) dd_X12_init_1668 (vp_in_nI (n := 2) (by decide) (by decide)) rfl rfl (fun h4 e4 hs4 => ?_)
  refine fv_dup dd_X12_init_1669 rfl ?_
  refine fv_iconst (n := 3) (v := 3) dd_X12_init_1670 (by decide) ?_
  refine fv_bipush (n := 101) (v := 101) dd_X12_init_1671 (by decide) ?_
  refine fq_cast (i0 := 3) hs4 ca_266 (by omega) dd_X12_init_1673 (vp_in_nI (n := 3) (by decide) (by decide)) rfl rfl (fun h5 e5 hs5 => ?_)
  refine fq_putr (ci := 12) (j := 97) hs5 ca_196 (by omega) rfl dd_X12_init_1674 pf_X12_228 (Or.inr ⟨_, rfl⟩) (fun h6 e6 hs6 => ?_)
  subst e6
  subst e5
  subst e4
  subst e3
  subst e2
  subst e1
  exact k _ rfl hs6
theorem fz_sim.m71 {h h' : fz_H} (e : fz_sim0 h h') : fz_sim0 (hm_71 h) (hm_71 h') := by
  unfold hm_71
  repeat (first | exact e | apply fz_sim0.sI | apply fz_sim0.sP | apply fz_sim0.mk | apply fz_sim0.sL)
def hm_72 (h : fz_H) : fz_H := (fz_sP (fz_sI (fz_sI (fz_sI (fz_sI (fz_sI (fz_sI (fz_sI (fz_mk h 13 7) 267 0 104) 267 1 97) 267 2 114) 267 3 118) 267 4 101) 267 5 115) 267 6 116) 196 98 (some 267))
set_option maxRecDepth 100000 in
set_option maxHeartbeats 4000000 in
theorem k12_72 {g : fz_G} {l : Launch} {d ra rb L : Nat} {h : fz_H} (hs : fz_to L h 267) {Q : Option Value → fz_H → Prop} (k : ∀ h', h' = hm_72 h → fz_to L h' 268 → fz_V g l m_X12_init d ra rb 1721 (fz_en [.ref 196] 1) [] h' Q) : fz_V g l m_X12_init d (ra + 1) (rb + 7) 1677 (fz_en [.ref 196] 1) [] h Q := by
  refine fv_aload_n (k0 := 0) (i := 0) dd_X12_init_1677 rfl rfl ?_
  refine fv_bipush (n := 7) (v := 7) dd_X12_init_1678 (by decide) ?_
  refine fq_newaC (M := 7) hs ca_267 dd_X12_init_1680 (by decide) (by decide) (by decide) (fun h1 e1 hs1 => ?_)
  refine fv_dup dd_X12_init_1682 rfl ?_
  refine fv_iconst (n := 0) (v := 0) dd_X12_init_1683 (by decide) ?_
  refine fv_bipush (n := 104) (v := 104) dd_X12_init_1684 (by decide) ?_
  refine fq_cast (i0 := 0) hs1 ca_267 (by omega) dd_X12_init_1686 (vp_in_nI (n := 0) (by decide) (by decide)) rfl rfl (fun h2 e2 hs2 => ?_)
  refine fv_dup dd_X12_init_1687 rfl ?_
  refine fv_iconst (n := 1) (v := 1) dd_X12_init_1688 (by decide) ?_
  refine fv_bipush (n := 97) (v := 97) dd_X12_init_1689 (by decide) ?_
  refine fq_cast (i0 := 1) hs2 ca_267 (by omega) dd_X12_init_1691 (vp_in_nI (n := 1) (by decide) (by decide)) rfl rfl (fun h3 e3 hs3 => ?_)
  refine fv_dup dd_X12_init_1692 rfl ?_
  refine fv_iconst (n := 2) (v := 2) dd_X12_init_1693 (by decide) ?_
  refine fv_bipush (n := 114) (v := 114) dd_X12_init_1694 (by decide) ?_
  refine fq_cast (i0 := 2) hs3 ca_267 (by omega) dd_X12_init_1696 (vp_in_nI (n := 2) (by decide) (by decide)) rfl rfl (fun h4 e4 hs4 => ?_)
  refine fv_dup dd_X12_init_1697 rfl ?_
  refine fv_iconst (n := 3) (v := 3) dd_X12_init_1698 (by decide) ?_
  refine fv_bipush (n := 118) (v := 118) dd_X12_init_1699 (by decide) ?_
  refine fq_cast (i0 := 3) hs4 ca_267 (by omega) dd_X12_init_1701 (vp_in_nI (n := 3) (by decide) (by decide)) rfl rfl (fun h5 e5 hs5 => ?_)
  refine fv_dup dd_X12_init_1702 rfl ?_
  refine fv_iconst (n := 4) (v := 4) dd_X12_init_1703 (by decide) ?_
  refine fv_bipush (n := 101) (v := 101) dd_X12_init_1704 (by decide) ?_
  refine fq_cast (i0 := 4) hs5 ca_267 (by omega) dd_X12_init_1706 (vp_in_nI (n := 4) (by decide) (by decide)) rfl rfl (fun h6 e6 hs6 => ?_)
  refine fv_dup dd_X12_init_1707 rfl ?_
  refine fv_iconst (n := 5) (v := 5) dd_X12_init_1708 (by decide) ?_
  refine fv_bipush (n := 115) (v := 115) dd_X12_init_1709 (by decide) ?_
  refine fq_cast (i0 := 5) hs6 ca_267 (by omega) dd_X12_init_1711 (vp_in_nI (n := 5) (by decide) (by decide)) rfl rfl (fun h7 e7 hs7 => ?_)
  refine fv_dup dd_X12_init_1712 rfl ?_
  refine fv_bipush (n := 6) (v := 6) dd_X12_init_1713 (by decide) ?_
  refine fv_bipush (n := 116) (v := 116) dd_X12_init_1715 (by decide) ?_
  refine fq_cast (i0 := 6) hs7 ca_267 (by omega) dd_X12_init_1717 (vp_in_nI (n := 6) (by decide) (by decide)) rfl rfl (fun h8 e8 hs8 => ?_)
  refine fq_putr (ci := 12) (j := 98) hs8 ca_196 (by omega) rfl dd_X12_init_1718 pf_X12_231 (Or.inr ⟨_, rfl⟩) (fun h9 e9 hs9 => ?_)
  subst e9
  subst e8
  subst e7
  subst e6
  subst e5
  subst e4
  subst e3
  subst e2
  subst e1
  exact k _ rfl hs9
theorem fz_sim.m72 {h h' : fz_H} (e : fz_sim0 h h') : fz_sim0 (hm_72 h) (hm_72 h') := by
  unfold hm_72
  repeat (first | exact e | apply fz_sim0.sI | apply fz_sim0.sP | apply fz_sim0.mk | apply fz_sim0.sL)
def hm_73 (h : fz_H) : fz_H := (fz_sP (fz_sI (fz_sI (fz_sI (fz_sI (fz_mk h 13 4) 268 0 100) 268 1 111) 268 2 101) 268 3 115) 196 99 (some 268))
set_option maxRecDepth 100000 in
set_option maxHeartbeats 4000000 in
theorem k12_73 {g : fz_G} {l : Launch} {d ra rb L : Nat} {h : fz_H} (hs : fz_to L h 268) {Q : Option Value → fz_H → Prop} (k : ∀ h', h' = hm_73 h → fz_to L h' 269 → fz_V g l m_X12_init d ra rb 1748 (fz_en [.ref 196] 1) [] h' Q) : fz_V g l m_X12_init d (ra + 1) (rb + 4) 1721 (fz_en [.ref 196] 1) [] h Q := by
  refine fv_aload_n (k0 := 0) (i := 0) dd_X12_init_1721 rfl rfl ?_
  refine fv_iconst (n := 4) (v := 4) dd_X12_init_1722 (by decide) ?_
  refine fq_newaC (M := 4) hs ca_268 dd_X12_init_1723 (by decide) (by decide) (by decide) (fun h1 e1 hs1 => ?_)
  refine fv_dup dd_X12_init_1725 rfl ?_
  refine fv_iconst (n := 0) (v := 0) dd_X12_init_1726 (by decide) ?_
  refine fv_bipush (n := 100) (v := 100) dd_X12_init_1727 (by decide) ?_
  refine fq_cast (i0 := 0) hs1 ca_268 (by omega) dd_X12_init_1729 (vp_in_nI (n := 0) (by decide) (by decide)) rfl rfl (fun h2 e2 hs2 => ?_)
  refine fv_dup dd_X12_init_1730 rfl ?_
  refine fv_iconst (n := 1) (v := 1) dd_X12_init_1731 (by decide) ?_
  refine fv_bipush (n := 111) (v := 111) dd_X12_init_1732 (by decide) ?_
  refine fq_cast (i0 := 1) hs2 ca_268 (by omega) dd_X12_init_1734 (vp_in_nI (n := 1) (by decide) (by decide)) rfl rfl (fun h3 e3 hs3 => ?_)
  refine fv_dup dd_X12_init_1735 rfl ?_
  refine fv_iconst (n := 2) (v := 2) dd_X12_init_1736 (by decide) ?_
  refine fv_bipush (n := 101) (v := 101) dd_X12_init_1737 (by decide) ?_
  refine fq_cast (i0 := 2) hs3 ca_268 (by omega) dd_X12_init_1739 (vp_in_nI (n := 2) (by decide) (by decide)) rfl rfl (fun h4 e4 hs4 => ?_)
  refine fv_dup dd_X12_init_1740 rfl ?_
  refine fv_iconst (n := 3) (v := 3) dd_X12_init_1741 (by decide) ?_
  refine fv_bipush (n := 115) (v := 115) dd_X12_init_1742 (by decide) ?_
  refine fq_cast (i0 := 3) hs4 ca_268 (by omega) dd_X12_init_1744 (vp_in_nI (n := 3) (by decide) (by decide)) rfl rfl (fun h5 e5 hs5 => ?_)
  refine fq_putr (ci := 12) (j := 99) hs5 ca_196 (by omega) rfl dd_X12_init_1745 pf_X12_234 (Or.inr ⟨_, rfl⟩) (fun h6 e6 hs6 => ?_)
  subst e6
  subst e5
  subst e4
  subst e3
  subst e2
  subst e1
  exact k _ rfl hs6
theorem fz_sim.m73 {h h' : fz_H} (e : fz_sim0 h h') : fz_sim0 (hm_73 h) (hm_73 h') := by
  unfold hm_73
  repeat (first | exact e | apply fz_sim0.sI | apply fz_sim0.sP | apply fz_sim0.mk | apply fz_sim0.sL)
def hm_74 (h : fz_H) : fz_H := (fz_sP (fz_mk h 14 1700) 196 100 (some 269))
set_option maxRecDepth 100000 in
set_option maxHeartbeats 4000000 in
theorem k12_74 {g : fz_G} {l : Launch} {d ra rb L : Nat} {h : fz_H} (hs : fz_to L h 269) {Q : Option Value → fz_H → Prop} (k : ∀ h', h' = hm_74 h → fz_to L h' 270 → fz_V g l m_X12_init d ra rb 1757 (fz_en [.ref 196] 1) [] h' Q) : fz_V g l m_X12_init d (ra + 1) (rb + 1700) 1748 (fz_en [.ref 196] 1) [] h Q := by
  refine fv_aload_n (k0 := 0) (i := 0) dd_X12_init_1748 rfl rfl ?_
  refine fv_sipush (n := 1700) (v := 1700) dd_X12_init_1749 (by decide) ?_
  refine fq_newaI (M := 1700) hs ca_269 dd_X12_init_1752 (by decide) (by decide) (by decide) (fun h1 e1 hs1 => ?_)
  refine fq_putr (ci := 12) (j := 100) hs1 ca_196 (by omega) rfl dd_X12_init_1754 pf_X12_237 (Or.inr ⟨_, rfl⟩) (fun h2 e2 hs2 => ?_)
  subst e2
  subst e1
  exact k _ rfl hs2
theorem fz_sim.m74 {h h' : fz_H} (e : fz_sim0 h h') : fz_sim0 (hm_74 h) (hm_74 h') := by
  unfold hm_74
  repeat (first | exact e | apply fz_sim0.sI | apply fz_sim0.sP | apply fz_sim0.mk | apply fz_sim0.sL)
def hm_75 (h : fz_H) : fz_H := (fz_sP (fz_mk h 14 1700) 196 102 (some 270))
set_option maxRecDepth 100000 in
set_option maxHeartbeats 4000000 in
theorem k12_75 {g : fz_G} {l : Launch} {d ra rb L : Nat} {h : fz_H} (hs : fz_to L h 270) {Q : Option Value → fz_H → Prop} (k : ∀ h', h' = hm_75 h → fz_to L h' 271 → fz_V g l m_X12_init d ra rb 1766 (fz_en [.ref 196] 1) [] h' Q) : fz_V g l m_X12_init d (ra + 1) (rb + 1700) 1757 (fz_en [.ref 196] 1) [] h Q := by
  refine fv_aload_n (k0 := 0) (i := 0) dd_X12_init_1757 rfl rfl ?_
  refine fv_sipush (n := 1700) (v := 1700) dd_X12_init_1758 (by decide) ?_
  refine fq_newaI (M := 1700) hs ca_270 dd_X12_init_1761 (by decide) (by decide) (by decide) (fun h1 e1 hs1 => ?_)
  refine fq_putr (ci := 12) (j := 102) hs1 ca_196 (by omega) rfl dd_X12_init_1763 pf_X12_240 (Or.inr ⟨_, rfl⟩) (fun h2 e2 hs2 => ?_)
  subst e2
  subst e1
  exact k _ rfl hs2
theorem fz_sim.m75 {h h' : fz_H} (e : fz_sim0 h h') : fz_sim0 (hm_75 h) (hm_75 h') := by
  unfold hm_75
  repeat (first | exact e | apply fz_sim0.sI | apply fz_sim0.sP | apply fz_sim0.mk | apply fz_sim0.sL)
def hm_76 (h : fz_H) : fz_H := (fz_sP (fz_mk h 15 1700) 196 106 (some 271))
set_option maxRecDepth 100000 in
set_option maxHeartbeats 4000000 in
theorem k12_76 {g : fz_G} {l : Launch} {d ra rb L : Nat} {h : fz_H} (hs : fz_to L h 271) {Q : Option Value → fz_H → Prop} (k : ∀ h', h' = hm_76 h → fz_to L h' 272 → fz_V g l m_X12_init d ra rb 1775 (fz_en [.ref 196] 1) [] h' Q) : fz_V g l m_X12_init d (ra + 1) (rb + 1700) 1766 (fz_en [.ref 196] 1) [] h Q := by
  refine fv_aload_n (k0 := 0) (i := 0) dd_X12_init_1766 rfl rfl ?_
  refine fv_sipush (n := 1700) (v := 1700) dd_X12_init_1767 (by decide) ?_
  refine fq_newaJ (M := 1700) hs ca_271 dd_X12_init_1770 (by decide) (by decide) (by decide) (fun h1 e1 hs1 => ?_)
  refine fq_putr (ci := 12) (j := 106) hs1 ca_196 (by omega) rfl dd_X12_init_1772 pf_X12_243 (Or.inr ⟨_, rfl⟩) (fun h2 e2 hs2 => ?_)
  subst e2
  subst e1
  exact k _ rfl hs2
theorem fz_sim.m76 {h h' : fz_H} (e : fz_sim0 h h') : fz_sim0 (hm_76 h) (hm_76 h') := by
  unfold hm_76
  repeat (first | exact e | apply fz_sim0.sI | apply fz_sim0.sP | apply fz_sim0.mk | apply fz_sim0.sL)
def hm_77 (h : fz_H) : fz_H := (fz_sP (fz_mk h 14 33) 196 110 (some 272))
set_option maxRecDepth 100000 in
set_option maxHeartbeats 4000000 in
theorem k12_77 {g : fz_G} {l : Launch} {d ra rb L : Nat} {h : fz_H} (hs : fz_to L h 272) {Q : Option Value → fz_H → Prop} (k : ∀ h', h' = hm_77 h → fz_to L h' 273 → fz_V g l m_X12_init d ra rb 1783 (fz_en [.ref 196] 1) [] h' Q) : fz_V g l m_X12_init d (ra + 1) (rb + 33) 1775 (fz_en [.ref 196] 1) [] h Q := by
  refine fv_aload_n (k0 := 0) (i := 0) dd_X12_init_1775 rfl rfl ?_
  refine fv_bipush (n := 33) (v := 33) dd_X12_init_1776 (by decide) ?_
  refine fq_newaI (M := 33) hs ca_272 dd_X12_init_1778 (by decide) (by decide) (by decide) (fun h1 e1 hs1 => ?_)
  refine fq_putr (ci := 12) (j := 110) hs1 ca_196 (by omega) rfl dd_X12_init_1780 pf_X12_246 (Or.inr ⟨_, rfl⟩) (fun h2 e2 hs2 => ?_)
  subst e2
  subst e1
  exact k _ rfl hs2
theorem fz_sim.m77 {h h' : fz_H} (e : fz_sim0 h h') : fz_sim0 (hm_77 h) (hm_77 h') := by
  unfold hm_77
  repeat (first | exact e | apply fz_sim0.sI | apply fz_sim0.sP | apply fz_sim0.mk | apply fz_sim0.sL)
def hc_X12_init_196 (h : fz_H) : fz_H := (hm_77 (hm_76 (hm_75 (hm_74 (hm_73 (hm_72 (hm_71 (hm_70 (hm_69 (hm_68 (hm_67 (hm_66 (hm_65 (hm_64 (hm_63 (hm_62 (hm_61 (hm_60 (hm_59 (hm_58 (hm_57 (hm_56 (hm_55 (hm_54 (hm_53 (hm_52 (hm_51 (hm_50 (hm_49 (hm_48 (hm_47 (hm_46 (hm_45 (hm_44 (hm_43 (hm_42 (hm_41 (hm_40 (hm_39 (hm_38 (hm_37 (hm_36 (hm_35 (hm_34 (hm_33 (hm_32 (hm_31 (hm_30 (hm_29 (hm_28 (hm_27 (hm_26 (hm_25 (hm_24 (hm_23 (hm_22 (hm_21 (hm_20 (hm_19 (hm_18 (hm_17 (hm_16 (hm_15 (hm_14 (hm_13 (hm_12 (hm_11 (hm_10 (hm_9 (hm_8 (hm_7 (hm_6 (hm_5 (hm_4 (hm_3 (hm_2 (hm_1 (hm_0 h))))))))))))))))))))))))))))))))))))))))))))))))))))))))))))))))))))))))))))))
set_option maxRecDepth 100000 in
set_option maxHeartbeats 4000000 in
theorem V_cX12_init_196 {g : fz_G} {l : Launch} {d L : Nat} (hd : 1 ≤ d) {h : fz_H} (hs : fz_to L h 197) {Q : Option Value → fz_H → Prop} (hq : fz_to L (hc_X12_init_196 h) 273 → Q none (hc_X12_init_196 h)) : fz_V g l m_X12_init d 76 14303 0 (fz_en [.ref 196] 1) [] h Q := by
  obtain ⟨d, rfl⟩ : ∃ e, d = e + 1 := ⟨d - 1, by omega⟩
  refine fv_aload_n (k0 := 0) (i := 0) dd_X12_init_0 rfl rfl ?_
  refine fv_objInit dd_X12_init_1 lk_X12_1 oi_i oi_c (Nat.le_of_ble_eq_true rfl) ?_
  refine k12_0 hs (fun h1 e1 hs1 => ?_)
  refine k12_1 hs1 (fun h2 e2 hs2 => ?_)
  refine k12_2 hs2 (fun h3 e3 hs3 => ?_)
  refine k12_3 hs3 (fun h4 e4 hs4 => ?_)
  refine k12_4 hs4 (fun h5 e5 hs5 => ?_)
  refine k12_5 hs5 (fun h6 e6 hs6 => ?_)
  refine k12_6 hs6 (fun h7 e7 hs7 => ?_)
  refine k12_7 hs7 (fun h8 e8 hs8 => ?_)
  refine k12_8 hs8 (fun h9 e9 hs9 => ?_)
  refine k12_9 hs9 (fun h10 e10 hs10 => ?_)
  refine k12_10 hs10 (fun h11 e11 hs11 => ?_)
  refine k12_11 hs11 (fun h12 e12 hs12 => ?_)
  refine k12_12 hs12 (fun h13 e13 hs13 => ?_)
  refine k12_13 hs13 (fun h14 e14 hs14 => ?_)
  refine k12_14 hs14 (fun h15 e15 hs15 => ?_)
  refine k12_15 hs15 (fun h16 e16 hs16 => ?_)
  refine k12_16 hs16 (fun h17 e17 hs17 => ?_)
  refine k12_17 hs17 (fun h18 e18 hs18 => ?_)
  refine k12_18 hs18 (fun h19 e19 hs19 => ?_)
  refine k12_19 hs19 (fun h20 e20 hs20 => ?_)
  refine k12_20 hs20 (fun h21 e21 hs21 => ?_)
  refine k12_21 hs21 (fun h22 e22 hs22 => ?_)
  refine k12_22 hs22 (fun h23 e23 hs23 => ?_)
  refine k12_23 hs23 (fun h24 e24 hs24 => ?_)
  refine k12_24 hs24 (fun h25 e25 hs25 => ?_)
  refine k12_25 hs25 (fun h26 e26 hs26 => ?_)
  refine k12_26 hs26 (fun h27 e27 hs27 => ?_)
  refine k12_27 hs27 (fun h28 e28 hs28 => ?_)
  refine k12_28 hs28 (fun h29 e29 hs29 => ?_)
  refine k12_29 hs29 (fun h30 e30 hs30 => ?_)
  refine k12_30 hs30 (fun h31 e31 hs31 => ?_)
  refine k12_31 hs31 (fun h32 e32 hs32 => ?_)
  refine k12_32 hs32 (fun h33 e33 hs33 => ?_)
  refine k12_33 hs33 (fun h34 e34 hs34 => ?_)
  refine k12_34 hs34 (fun h35 e35 hs35 => ?_)
  refine k12_35 hs35 (fun h36 e36 hs36 => ?_)
  refine k12_36 hs36 (fun h37 e37 hs37 => ?_)
  refine k12_37 hs37 (fun h38 e38 hs38 => ?_)
  refine k12_38 hs38 (fun h39 e39 hs39 => ?_)
  refine k12_39 hs39 (fun h40 e40 hs40 => ?_)
  refine k12_40 hs40 (fun h41 e41 hs41 => ?_)
  refine k12_41 hs41 (fun h42 e42 hs42 => ?_)
  refine k12_42 hs42 (fun h43 e43 hs43 => ?_)
  refine k12_43 hs43 (fun h44 e44 hs44 => ?_)
  refine k12_44 hs44 (fun h45 e45 hs45 => ?_)
  refine k12_45 hs45 (fun h46 e46 hs46 => ?_)
  refine k12_46 hs46 (fun h47 e47 hs47 => ?_)
  refine k12_47 hs47 (fun h48 e48 hs48 => ?_)
  refine k12_48 hs48 (fun h49 e49 hs49 => ?_)
  refine k12_49 hs49 (fun h50 e50 hs50 => ?_)
  refine k12_50 hs50 (fun h51 e51 hs51 => ?_)
  refine k12_51 hs51 (fun h52 e52 hs52 => ?_)
  refine k12_52 hs52 (fun h53 e53 hs53 => ?_)
  refine k12_53 hs53 (fun h54 e54 hs54 => ?_)
  refine k12_54 hs54 (fun h55 e55 hs55 => ?_)
  refine k12_55 hs55 (fun h56 e56 hs56 => ?_)
  refine k12_56 hs56 (fun h57 e57 hs57 => ?_)
  refine k12_57 hs57 (fun h58 e58 hs58 => ?_)
  refine k12_58 hs58 (fun h59 e59 hs59 => ?_)
  refine k12_59 hs59 (fun h60 e60 hs60 => ?_)
  refine k12_60 hs60 (fun h61 e61 hs61 => ?_)
  refine k12_61 hs61 (fun h62 e62 hs62 => ?_)
  refine k12_62 hs62 (fun h63 e63 hs63 => ?_)
  refine k12_63 hs63 (fun h64 e64 hs64 => ?_)
  refine k12_64 hs64 (fun h65 e65 hs65 => ?_)
  refine k12_65 hs65 (fun h66 e66 hs66 => ?_)
  refine k12_66 hs66 (fun h67 e67 hs67 => ?_)
  refine k12_67 hs67 (fun h68 e68 hs68 => ?_)
  refine k12_68 hs68 (fun h69 e69 hs69 => ?_)
  refine k12_69 hs69 (fun h70 e70 hs70 => ?_)
  refine k12_70 hs70 (fun h71 e71 hs71 => ?_)
  refine k12_71 hs71 (fun h72 e72 hs72 => ?_)
  refine k12_72 hs72 (fun h73 e73 hs73 => ?_)
  refine k12_73 hs73 (fun h74 e74 hs74 => ?_)
  refine k12_74 hs74 (fun h75 e75 hs75 => ?_)
  refine k12_75 hs75 (fun h76 e76 hs76 => ?_)
  refine k12_76 hs76 (fun h77 e77 hs77 => ?_)
  refine k12_77 hs77 (fun h78 e78 hs78 => ?_)
  refine fv_vret dd_X12_init_1783 rfl ?_
  subst e78
  subst e77
  subst e76
  subst e75
  subst e74
  subst e73
  subst e72
  subst e71
  subst e70
  subst e69
  subst e68
  subst e67
  subst e66
  subst e65
  subst e64
  subst e63
  subst e62
  subst e61
  subst e60
  subst e59
  subst e58
  subst e57
  subst e56
  subst e55
  subst e54
  subst e53
  subst e52
  subst e51
  subst e50
  subst e49
  subst e48
  subst e47
  subst e46
  subst e45
  subst e44
  subst e43
  subst e42
  subst e41
  subst e40
  subst e39
  subst e38
  subst e37
  subst e36
  subst e35
  subst e34
  subst e33
  subst e32
  subst e31
  subst e30
  subst e29
  subst e28
  subst e27
  subst e26
  subst e25
  subst e24
  subst e23
  subst e22
  subst e21
  subst e20
  subst e19
  subst e18
  subst e17
  subst e16
  subst e15
  subst e14
  subst e13
  subst e12
  subst e11
  subst e10
  subst e9
  subst e8
  subst e7
  subst e6
  subst e5
  subst e4
  subst e3
  subst e2
  subst e1
  exact hq hs78

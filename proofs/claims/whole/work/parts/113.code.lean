theorem dd_X12_qGoesOnTest_0 : decode m_X12_qGoesOnTest.2.1 0 = .ok (.aload_n 0, 1) := by decide +kernel
theorem dd_X12_qGoesOnTest_1 : decode m_X12_qGoesOnTest.2.1 1 = .ok (.getfield 252, 3) := by decide +kernel
theorem dd_X12_qGoesOnTest_4 : decode m_X12_qGoesOnTest.2.1 4 = .ok (.ifCond .ne 72, 3) := by decide +kernel
theorem dd_X12_qGoesOnTest_7 : decode m_X12_qGoesOnTest.2.1 7 = .ok (.aload_n 0, 1) := by decide +kernel
theorem dd_X12_qGoesOnTest_8 : decode m_X12_qGoesOnTest.2.1 8 = .ok (.invokevirtual 264, 3) := by decide +kernel
theorem dd_X12_qGoesOnTest_11 : decode m_X12_qGoesOnTest.2.1 11 = .ok (.bipush 93, 2) := by decide +kernel
theorem dd_X12_qGoesOnTest_13 : decode m_X12_qGoesOnTest.2.1 13 = .ok (.if_icmp .ne 63, 3) := by decide +kernel
theorem dd_X12_qGoesOnTest_16 : decode m_X12_qGoesOnTest.2.1 16 = .ok (.aload_n 0, 1) := by decide +kernel
theorem dd_X12_qGoesOnTest_17 : decode m_X12_qGoesOnTest.2.1 17 = .ok (.invokevirtual 659, 3) := by decide +kernel
theorem dd_X12_qGoesOnTest_20 : decode m_X12_qGoesOnTest.2.1 20 = .ok (.ifCond .eq 56, 3) := by decide +kernel
theorem dd_X12_qGoesOnTest_23 : decode m_X12_qGoesOnTest.2.1 23 = .ok (.aload_n 0, 1) := by decide +kernel
theorem dd_X12_qGoesOnTest_24 : decode m_X12_qGoesOnTest.2.1 24 = .ok (.dup, 1) := by decide +kernel
theorem dd_X12_qGoesOnTest_25 : decode m_X12_qGoesOnTest.2.1 25 = .ok (.getfield 258, 3) := by decide +kernel
theorem dd_X12_qGoesOnTest_28 : decode m_X12_qGoesOnTest.2.1 28 = .ok (.iconst 1, 1) := by decide +kernel
theorem dd_X12_qGoesOnTest_29 : decode m_X12_qGoesOnTest.2.1 29 = .ok (.iadd, 1) := by decide +kernel
theorem dd_X12_qGoesOnTest_30 : decode m_X12_qGoesOnTest.2.1 30 = .ok (.putfield 258, 3) := by decide +kernel
theorem dd_X12_qGoesOnTest_33 : decode m_X12_qGoesOnTest.2.1 33 = .ok (.aload_n 0, 1) := by decide +kernel
theorem dd_X12_qGoesOnTest_34 : decode m_X12_qGoesOnTest.2.1 34 = .ok (.bipush 25, 2) := by decide +kernel
theorem dd_X12_qGoesOnTest_36 : decode m_X12_qGoesOnTest.2.1 36 = .ok (.invokevirtual 641, 3) := by decide +kernel
theorem dd_X12_qGoesOnTest_39 : decode m_X12_qGoesOnTest.2.1 39 = .ok (.ifCond .ne 10, 3) := by decide +kernel
theorem dd_X12_qGoesOnTest_42 : decode m_X12_qGoesOnTest.2.1 42 = .ok (.aload_n 0, 1) := by decide +kernel
theorem dd_X12_qGoesOnTest_43 : decode m_X12_qGoesOnTest.2.1 43 = .ok (.invokevirtual 614, 3) := by decide +kernel
theorem dd_X12_qGoesOnTest_46 : decode m_X12_qGoesOnTest.2.1 46 = .ok (.goto (-13), 3) := by decide +kernel
theorem dd_X12_qGoesOnTest_49 : decode m_X12_qGoesOnTest.2.1 49 = .ok (.aload_n 0, 1) := by decide +kernel
theorem dd_X12_qGoesOnTest_50 : decode m_X12_qGoesOnTest.2.1 50 = .ok (.dup, 1) := by decide +kernel
theorem dd_X12_qGoesOnTest_51 : decode m_X12_qGoesOnTest.2.1 51 = .ok (.getfield 341, 3) := by decide +kernel
theorem dd_X12_qGoesOnTest_54 : decode m_X12_qGoesOnTest.2.1 54 = .ok (.iconst 1, 1) := by decide +kernel
theorem dd_X12_qGoesOnTest_55 : decode m_X12_qGoesOnTest.2.1 55 = .ok (.isub, 1) := by decide +kernel
theorem dd_X12_qGoesOnTest_56 : decode m_X12_qGoesOnTest.2.1 56 = .ok (.putfield 341, 3) := by decide +kernel
theorem dd_X12_qGoesOnTest_59 : decode m_X12_qGoesOnTest.2.1 59 = .ok (.aload_n 0, 1) := by decide +kernel
theorem dd_X12_qGoesOnTest_60 : decode m_X12_qGoesOnTest.2.1 60 = .ok (.dup, 1) := by decide +kernel
theorem dd_X12_qGoesOnTest_61 : decode m_X12_qGoesOnTest.2.1 61 = .ok (.getfield 344, 3) := by decide +kernel
theorem dd_X12_qGoesOnTest_64 : decode m_X12_qGoesOnTest.2.1 64 = .ok (.iconst 1, 1) := by decide +kernel
theorem dd_X12_qGoesOnTest_65 : decode m_X12_qGoesOnTest.2.1 65 = .ok (.isub, 1) := by decide +kernel
theorem dd_X12_qGoesOnTest_66 : decode m_X12_qGoesOnTest.2.1 66 = .ok (.putfield 344, 3) := by decide +kernel
theorem dd_X12_qGoesOnTest_69 : decode m_X12_qGoesOnTest.2.1 69 = .ok (.aload_n 0, 1) := by decide +kernel
theorem dd_X12_qGoesOnTest_70 : decode m_X12_qGoesOnTest.2.1 70 = .ok (.invokevirtual 653, 3) := by decide +kernel
theorem dd_X12_qGoesOnTest_73 : decode m_X12_qGoesOnTest.2.1 73 = .ok (.goto (-73), 3) := by decide +kernel
theorem dd_X12_qGoesOnTest_76 : decode m_X12_qGoesOnTest.2.1 76 = .ok (.aload_n 0, 1) := by decide +kernel
theorem dd_X12_qGoesOnTest_77 : decode m_X12_qGoesOnTest.2.1 77 = .ok (.aload_n 0, 1) := by decide +kernel
theorem dd_X12_qGoesOnTest_78 : decode m_X12_qGoesOnTest.2.1 78 = .ok (.getfield 183, 3) := by decide +kernel
theorem dd_X12_qGoesOnTest_81 : decode m_X12_qGoesOnTest.2.1 81 = .ok (.invokevirtual 279, 3) := by decide +kernel
theorem dd_X12_qGoesOnTest_84 : decode m_X12_qGoesOnTest.2.1 84 = .ok (.ifCond .eq 42, 3) := by decide +kernel
theorem dd_X12_qGoesOnTest_87 : decode m_X12_qGoesOnTest.2.1 87 = .ok (.aload_n 0, 1) := by decide +kernel
theorem dd_X12_qGoesOnTest_88 : decode m_X12_qGoesOnTest.2.1 88 = .ok (.bipush 10, 2) := by decide +kernel
theorem dd_X12_qGoesOnTest_90 : decode m_X12_qGoesOnTest.2.1 90 = .ok (.invokevirtual 641, 3) := by decide +kernel
theorem dd_X12_qGoesOnTest_93 : decode m_X12_qGoesOnTest.2.1 93 = .ok (.ifCond .eq 10, 3) := by decide +kernel
theorem dd_X12_qGoesOnTest_96 : decode m_X12_qGoesOnTest.2.1 96 = .ok (.aload_n 0, 1) := by decide +kernel
theorem dd_X12_qGoesOnTest_97 : decode m_X12_qGoesOnTest.2.1 97 = .ok (.invokevirtual 614, 3) := by decide +kernel
theorem dd_X12_qGoesOnTest_100 : decode m_X12_qGoesOnTest.2.1 100 = .ok (.goto (-13), 3) := by decide +kernel
theorem dd_X12_qGoesOnTest_103 : decode m_X12_qGoesOnTest.2.1 103 = .ok (.aload_n 0, 1) := by decide +kernel
theorem dd_X12_qGoesOnTest_104 : decode m_X12_qGoesOnTest.2.1 104 = .ok (.getfield 240, 3) := by decide +kernel
theorem dd_X12_qGoesOnTest_107 : decode m_X12_qGoesOnTest.2.1 107 = .ok (.aload_n 0, 1) := by decide +kernel
theorem dd_X12_qGoesOnTest_108 : decode m_X12_qGoesOnTest.2.1 108 = .ok (.getfield 341, 3) := by decide +kernel
theorem dd_X12_qGoesOnTest_111 : decode m_X12_qGoesOnTest.2.1 111 = .ok (.bipush 10, 2) := by decide +kernel
theorem dd_X12_qGoesOnTest_113 : decode m_X12_qGoesOnTest.2.1 113 = .ok (.iastore, 1) := by decide +kernel
theorem dd_X12_qGoesOnTest_114 : decode m_X12_qGoesOnTest.2.1 114 = .ok (.aload_n 0, 1) := by decide +kernel
theorem dd_X12_qGoesOnTest_115 : decode m_X12_qGoesOnTest.2.1 115 = .ok (.dup, 1) := by decide +kernel
theorem dd_X12_qGoesOnTest_116 : decode m_X12_qGoesOnTest.2.1 116 = .ok (.getfield 341, 3) := by decide +kernel
theorem dd_X12_qGoesOnTest_119 : decode m_X12_qGoesOnTest.2.1 119 = .ok (.iconst 1, 1) := by decide +kernel
theorem dd_X12_qGoesOnTest_120 : decode m_X12_qGoesOnTest.2.1 120 = .ok (.iadd, 1) := by decide +kernel
theorem dd_X12_qGoesOnTest_121 : decode m_X12_qGoesOnTest.2.1 121 = .ok (.putfield 341, 3) := by decide +kernel
theorem dd_X12_qGoesOnTest_124 : decode m_X12_qGoesOnTest.2.1 124 = .ok (.iconst 1, 1) := by decide +kernel
theorem dd_X12_qGoesOnTest_125 : decode m_X12_qGoesOnTest.2.1 125 = .ok (.ireturn, 1) := by decide +kernel
theorem dd_X12_qGoesOnTest_126 : decode m_X12_qGoesOnTest.2.1 126 = .ok (.aload_n 0, 1) := by decide +kernel
theorem dd_X12_qGoesOnTest_127 : decode m_X12_qGoesOnTest.2.1 127 = .ok (.aload_n 0, 1) := by decide +kernel
theorem dd_X12_qGoesOnTest_128 : decode m_X12_qGoesOnTest.2.1 128 = .ok (.getfield 186, 3) := by decide +kernel
theorem dd_X12_qGoesOnTest_131 : decode m_X12_qGoesOnTest.2.1 131 = .ok (.invokevirtual 279, 3) := by decide +kernel
theorem dd_X12_qGoesOnTest_134 : decode m_X12_qGoesOnTest.2.1 134 = .ok (.ifCond .eq 51, 3) := by decide +kernel
theorem dd_X12_qGoesOnTest_137 : decode m_X12_qGoesOnTest.2.1 137 = .ok (.aload_n 0, 1) := by decide +kernel
theorem dd_X12_qGoesOnTest_138 : decode m_X12_qGoesOnTest.2.1 138 = .ok (.bipush 10, 2) := by decide +kernel
theorem dd_X12_qGoesOnTest_140 : decode m_X12_qGoesOnTest.2.1 140 = .ok (.invokevirtual 641, 3) := by decide +kernel
theorem dd_X12_qGoesOnTest_143 : decode m_X12_qGoesOnTest.2.1 143 = .ok (.ifCond .ne 12, 3) := by decide +kernel
theorem dd_X12_qGoesOnTest_146 : decode m_X12_qGoesOnTest.2.1 146 = .ok (.aload_n 0, 1) := by decide +kernel
theorem dd_X12_qGoesOnTest_147 : decode m_X12_qGoesOnTest.2.1 147 = .ok (.bipush 11, 2) := by decide +kernel
theorem dd_X12_qGoesOnTest_149 : decode m_X12_qGoesOnTest.2.1 149 = .ok (.invokevirtual 641, 3) := by decide +kernel
theorem dd_X12_qGoesOnTest_152 : decode m_X12_qGoesOnTest.2.1 152 = .ok (.ifCond .eq 10, 3) := by decide +kernel
theorem dd_X12_qGoesOnTest_155 : decode m_X12_qGoesOnTest.2.1 155 = .ok (.aload_n 0, 1) := by decide +kernel
theorem dd_X12_qGoesOnTest_156 : decode m_X12_qGoesOnTest.2.1 156 = .ok (.invokevirtual 614, 3) := by decide +kernel
theorem dd_X12_qGoesOnTest_159 : decode m_X12_qGoesOnTest.2.1 159 = .ok (.goto (-22), 3) := by decide +kernel
theorem dd_X12_qGoesOnTest_162 : decode m_X12_qGoesOnTest.2.1 162 = .ok (.aload_n 0, 1) := by decide +kernel
theorem dd_X12_qGoesOnTest_163 : decode m_X12_qGoesOnTest.2.1 163 = .ok (.getfield 240, 3) := by decide +kernel
theorem dd_X12_qGoesOnTest_166 : decode m_X12_qGoesOnTest.2.1 166 = .ok (.aload_n 0, 1) := by decide +kernel
theorem dd_X12_qGoesOnTest_167 : decode m_X12_qGoesOnTest.2.1 167 = .ok (.getfield 341, 3) := by decide +kernel
theorem dd_X12_qGoesOnTest_170 : decode m_X12_qGoesOnTest.2.1 170 = .ok (.bipush 11, 2) := by decide +kernel
theorem dd_X12_qGoesOnTest_172 : decode m_X12_qGoesOnTest.2.1 172 = .ok (.iastore, 1) := by decide +kernel
theorem dd_X12_qGoesOnTest_173 : decode m_X12_qGoesOnTest.2.1 173 = .ok (.aload_n 0, 1) := by decide +kernel
theorem dd_X12_qGoesOnTest_174 : decode m_X12_qGoesOnTest.2.1 174 = .ok (.dup, 1) := by decide +kernel
theorem dd_X12_qGoesOnTest_175 : decode m_X12_qGoesOnTest.2.1 175 = .ok (.getfield 341, 3) := by decide +kernel
theorem dd_X12_qGoesOnTest_178 : decode m_X12_qGoesOnTest.2.1 178 = .ok (.iconst 1, 1) := by decide +kernel
theorem dd_X12_qGoesOnTest_179 : decode m_X12_qGoesOnTest.2.1 179 = .ok (.iadd, 1) := by decide +kernel
theorem dd_X12_qGoesOnTest_180 : decode m_X12_qGoesOnTest.2.1 180 = .ok (.putfield 341, 3) := by decide +kernel
theorem dd_X12_qGoesOnTest_183 : decode m_X12_qGoesOnTest.2.1 183 = .ok (.iconst 1, 1) := by decide +kernel
theorem dd_X12_qGoesOnTest_184 : decode m_X12_qGoesOnTest.2.1 184 = .ok (.ireturn, 1) := by decide +kernel
theorem dd_X12_qGoesOnTest_185 : decode m_X12_qGoesOnTest.2.1 185 = .ok (.aload_n 0, 1) := by decide +kernel
theorem dd_X12_qGoesOnTest_186 : decode m_X12_qGoesOnTest.2.1 186 = .ok (.getfield 252, 3) := by decide +kernel
theorem dd_X12_qGoesOnTest_189 : decode m_X12_qGoesOnTest.2.1 189 = .ok (.ifCond .ne 19, 3) := by decide +kernel
theorem dd_X12_qGoesOnTest_192 : decode m_X12_qGoesOnTest.2.1 192 = .ok (.aload_n 0, 1) := by decide +kernel
theorem dd_X12_qGoesOnTest_193 : decode m_X12_qGoesOnTest.2.1 193 = .ok (.invokevirtual 659, 3) := by decide +kernel
theorem dd_X12_qGoesOnTest_196 : decode m_X12_qGoesOnTest.2.1 196 = .ok (.ifCond .eq 12, 3) := by decide +kernel
theorem dd_X12_qGoesOnTest_199 : decode m_X12_qGoesOnTest.2.1 199 = .ok (.aload_n 0, 1) := by decide +kernel
theorem dd_X12_qGoesOnTest_200 : decode m_X12_qGoesOnTest.2.1 200 = .ok (.iconst 1, 1) := by decide +kernel
theorem dd_X12_qGoesOnTest_201 : decode m_X12_qGoesOnTest.2.1 201 = .ok (.aload_n 0, 1) := by decide +kernel
theorem dd_X12_qGoesOnTest_202 : decode m_X12_qGoesOnTest.2.1 202 = .ok (.getfield 258, 3) := by decide +kernel
theorem dd_X12_qGoesOnTest_205 : decode m_X12_qGoesOnTest.2.1 205 = .ok (.invokevirtual 282, 3) := by decide +kernel
theorem dd_X12_qGoesOnTest_208 : decode m_X12_qGoesOnTest.2.1 208 = .ok (.iconst 0, 1) := by decide +kernel
theorem dd_X12_qGoesOnTest_209 : decode m_X12_qGoesOnTest.2.1 209 = .ok (.ireturn, 1) := by decide +kernel
def nd_X12_qGoesOnTest_155  (K137 : fz_s → Prop) (Q : Bool → fz_s → Prop)  (s : fz_s) : Prop :=
  wp_X12_qDrops  s (fun s2 => K137  s2)
def nd_X12_qGoesOnTest_137  (K137 : fz_s → Prop) (Q : Bool → fz_s → Prop)  (s : fz_s) : Prop :=
  wp_X12_qIsOn 10 s (fun r1 s2 => ((r1 = true → nd_X12_qGoesOnTest_155  K137 Q  s2) ∧ (r1 = false → wp_X12_qIsOn 11 s2 (fun r3 s4 => ((r3 = false → vp_in (s4.1 196 103) 1700 ∧ ∀ s5 : fz_s, s5 = si s4 270 (s4.1 196 103).toNatClampNeg 11 → ∀ s6 : fz_s, s6 = si s5 196 103 ((s5.1 196 103) + 1) → Q true s6) ∧ (r3 = true → nd_X12_qGoesOnTest_155  K137 Q  s4))))))
def lp_X12_qGoesOnTest_137   (Q : Bool → fz_s → Prop) : Nat → fz_s → Prop
  | 0 => fun  _ => False
  | n + 1 => nd_X12_qGoesOnTest_137  (lp_X12_qGoesOnTest_137   Q n) Q
def nd_X12_qGoesOnTest_87  (K87 : fz_s → Prop) (Q : Bool → fz_s → Prop)  (s : fz_s) : Prop :=
  wp_X12_qIsOn 10 s (fun r1 s2 => ((r1 = false → vp_in (s2.1 196 103) 1700 ∧ ∀ s3 : fz_s, s3 = si s2 270 (s2.1 196 103).toNatClampNeg 10 → ∀ s4 : fz_s, s4 = si s3 196 103 ((s3.1 196 103) + 1) → Q true s4) ∧ (r1 = true → wp_X12_qDrops  s2 (fun s6 => K87  s6))))
def lp_X12_qGoesOnTest_87   (Q : Bool → fz_s → Prop) : Nat → fz_s → Prop
  | 0 => fun  _ => False
  | n + 1 => nd_X12_qGoesOnTest_87  (lp_X12_qGoesOnTest_87   Q n) Q
def nd_X12_qGoesOnTest_76   (Q : Bool → fz_s → Prop)  (s : fz_s) : Prop :=
  wp_X12_takes 251 3 s (fun r1 s2 => ((r1 = false → wp_X12_takes 252 2 s2 (fun r3 s4 => ((r3 = false → ((¬ (s4.1 196 5) = 0 → Q false s4) ∧ ((s4.1 196 5) = 0 → wp_X12_qHasSquare  s4 (fun r5 s6 => ((r5 = false → Q false s6) ∧ (r5 = true → wp_X12_fail 1 (s6.1 196 2) s6 (fun s8 => Q false s8))))))) ∧ (r3 = true → lp_X12_qGoesOnTest_137   Q 2048  s4)))) ∧ (r1 = true → lp_X12_qGoesOnTest_87   Q 2048  s2)))
def nd_X12_qGoesOnTest_33  (K0 : fz_s → Prop) (K33 : fz_s → Prop) (Q : Bool → fz_s → Prop)  (s : fz_s) : Prop :=
  wp_X12_qIsOn 25 s (fun r1 s2 => ((r1 = true → ∀ s3 : fz_s, s3 = si s2 196 103 ((s2.1 196 103) - 1) → ∀ s4 : fz_s, s4 = si s3 196 104 ((s3.1 196 104) - 1) → wp_X12_qDropsNots  s4 (fun s6 => K0  s6)) ∧ (r1 = false → wp_X12_qDrops  s2 (fun s8 => K33  s8))))
def lp_X12_qGoesOnTest_33  (K0 : fz_s → Prop) (Q : Bool → fz_s → Prop) : Nat → fz_s → Prop
  | 0 => fun  _ => False
  | n + 1 => nd_X12_qGoesOnTest_33  K0 (lp_X12_qGoesOnTest_33  K0 Q n) Q
def nd_X12_qGoesOnTest_0  (K0 : fz_s → Prop) (Q : Bool → fz_s → Prop)  (s : fz_s) : Prop :=
  ((¬ (s.1 196 5) = 0 → nd_X12_qGoesOnTest_76   Q  s) ∧ ((s.1 196 5) = 0 → wp_X12_look  s (fun r1 s2 => ((¬ r1 = 93 → nd_X12_qGoesOnTest_76   Q  s2) ∧ (r1 = 93 → wp_X12_qHasSquare  s2 (fun r3 s4 => ((r3 = false → nd_X12_qGoesOnTest_76   Q  s4) ∧ (r3 = true → ∀ s5 : fz_s, s5 = si s4 196 2 ((s4.1 196 2) + 1) → lp_X12_qGoesOnTest_33  K0 Q 2048  s5))))))))
def lp_X12_qGoesOnTest_0   (Q : Bool → fz_s → Prop) : Nat → fz_s → Prop
  | 0 => fun  _ => False
  | n + 1 => nd_X12_qGoesOnTest_0  (lp_X12_qGoesOnTest_0   Q n) Q
def wp_X12_qGoesOnTest  (s : fz_s) (Q : Bool → fz_s → Prop) : Prop :=
  lp_X12_qGoesOnTest_0   Q 2048  s
set_option maxRecDepth 100000 in
set_option maxHeartbeats 4000000 in
theorem V_nd_X12_qGoesOnTest_155 {g : fz_G} {l : Launch} {d : Nat} (hD : 3 ≤ d)   {K137 : fz_s → Prop} {Q : Bool → fz_s → Prop}  {s : fz_s} (hK137 : ∀ {s : fz_s}, K137 s → fs_V g l m_X12_qGoesOnTest d false 137 [.ref 196] [] s (rZ Q)) (H : nd_X12_qGoesOnTest_155  K137 Q  s) : fs_V g l m_X12_qGoesOnTest d false 155 [.ref 196] [] s (rZ Q) := by
  obtain ⟨d, rfl⟩ : ∃ e, d = e + 1 := ⟨d - 1, by omega⟩
  unfold nd_X12_qGoesOnTest_155 at H
  refine fs_aload_n (k0 := 0) (i := 0) dd_X12_qGoesOnTest_155 rfl rfl ?_
  refine fs_callV (y := m_X12_qDrops) (as := []) dd_X12_qGoesOnTest_156 me_X12_qDrops lk_X12_614 in_X12_qDrops se_X12_qDrops ca_196 rfl rfl rfl (Nat.le_of_ble_eq_true rfl) (Nat.le_of_ble_eq_true rfl) rfl (V_X12_qDrops (by omega)  H) (k2_V fun s2 H => ?_)
  refine fs_goto (tgt := 137) dd_X12_qGoesOnTest_159 (by decide) ?_
  refine fs_weak (ls2 := [.ref 196]) (fz_le_e fz_le_n) ?_
  exact hK137 H
set_option maxRecDepth 100000 in
set_option maxHeartbeats 4000000 in
theorem V_nd_X12_qGoesOnTest_137 {g : fz_G} {l : Launch} {d : Nat} (hD : 3 ≤ d)   {K137 : fz_s → Prop} {Q : Bool → fz_s → Prop}  {s : fz_s} (hK137 : ∀ {s : fz_s}, K137 s → fs_V g l m_X12_qGoesOnTest d false 137 [.ref 196] [] s (rZ Q)) (H : nd_X12_qGoesOnTest_137  K137 Q  s) : fs_V g l m_X12_qGoesOnTest d false 137 [.ref 196] [] s (rZ Q) := by
  obtain ⟨d, rfl⟩ : ∃ e, d = e + 1 := ⟨d - 1, by omega⟩
  unfold nd_X12_qGoesOnTest_137 at H
  refine fs_aload_n (k0 := 0) (i := 0) dd_X12_qGoesOnTest_137 rfl rfl ?_
  refine fs_bipush (n := 10) (v := 10) dd_X12_qGoesOnTest_138 (by decide) ?_
  refine fs_callV (y := m_X12_qIsOn) (as := [.int 10]) dd_X12_qGoesOnTest_140 me_X12_qIsOn lk_X12_641 in_X12_qIsOn se_X12_qIsOn ca_196 rfl rfl rfl (Nat.le_of_ble_eq_true rfl) (Nat.le_of_ble_eq_true rfl) rfl (V_X12_qIsOn (by omega)  H) (k2_Z fun r1 s2 H => ?_)
  refine fs_if_ne (tgt := 155) dd_X12_qGoesOnTest_143 (by decide) (fun hc => ?_) (fun hc => ?_)
  · replace H := H.1 (bi_1 hc)
    refine fs_weak (ls2 := [.ref 196]) (fz_le_e fz_le_n) ?_
    exact V_nd_X12_qGoesOnTest_155 hD   hK137 H
  · replace H := H.2 (bi_0 hc)
    refine fs_aload_n (k0 := 0) (i := 0) dd_X12_qGoesOnTest_146 rfl rfl ?_
    refine fs_bipush (n := 11) (v := 11) dd_X12_qGoesOnTest_147 (by decide) ?_
    refine fs_callV (y := m_X12_qIsOn) (as := [.int 11]) dd_X12_qGoesOnTest_149 me_X12_qIsOn lk_X12_641 in_X12_qIsOn se_X12_qIsOn ca_196 rfl rfl rfl (Nat.le_of_ble_eq_true rfl) (Nat.le_of_ble_eq_true rfl) rfl (V_X12_qIsOn (by omega)  H) (k2_Z fun r3 s4 H => ?_)
    refine fs_if_eq (tgt := 162) dd_X12_qGoesOnTest_152 (by decide) (fun hc => ?_) (fun hc => ?_)
    · replace H := H.1 (bi_0 hc)
      refine fs_aload_n (k0 := 0) (i := 0) dd_X12_qGoesOnTest_162 rfl rfl ?_
      refine fs_getr (ci := 12) (j := 102) (q := 270) dd_X12_qGoesOnTest_163 fl_X12_240 ca_196 rfl (Or.inr ⟨_, rfl⟩) rfl (by decide) ?_
      refine fs_aload_n (k0 := 0) (i := 0) dd_X12_qGoesOnTest_166 rfl rfl ?_
      refine fs_geti (ci := 12) (j := 103) dd_X12_qGoesOnTest_167 fl_X12_341 ca_196 rfl (Or.inl rfl) ?_
      refine fs_bipush (n := 11) (v := 11) dd_X12_qGoesOnTest_170 (by decide) ?_
      have hb := H.1
      replace H := H.2
      refine fs_iast dd_X12_qGoesOnTest_172 ca_270 hb ?_
      refine fs_tops (fun s5 hs5 => ?_)
      replace H := H s5 hs5
      refine fs_aload_n (k0 := 0) (i := 0) dd_X12_qGoesOnTest_173 rfl rfl ?_
      refine fs_dup dd_X12_qGoesOnTest_174 rfl ?_
      refine fs_geti (ci := 12) (j := 103) dd_X12_qGoesOnTest_175 fl_X12_341 ca_196 rfl (Or.inl rfl) ?_
      refine fs_iconst (n := 1) (v := 1) dd_X12_qGoesOnTest_178 (by decide) ?_
      refine fs_iadd dd_X12_qGoesOnTest_179 ?_
      refine fs_puti (ci := 12) (j := 103) dd_X12_qGoesOnTest_180 fl_X12_341 (fun _ _ _ h => by cases h; rfl) ca_196 rfl (Or.inl rfl) ?_
      refine fs_tops (fun s6 hs6 => ?_)
      replace H := H s6 hs6
      refine fs_iconst (n := 1) (v := 1) dd_X12_qGoesOnTest_183 (by decide) ?_
      exact fs_zret true dd_X12_qGoesOnTest_184 rfl rfl H
    · replace H := H.2 (bi_1 hc)
      refine fs_weak (ls2 := [.ref 196]) (fz_le_e fz_le_n) ?_
      exact V_nd_X12_qGoesOnTest_155 hD   hK137 H
set_option maxRecDepth 100000 in
set_option maxHeartbeats 4000000 in
theorem V_lp_X12_qGoesOnTest_137 {g : fz_G} {l : Launch} {d : Nat} (hD : 3 ≤ d)    {Q : Bool → fz_s → Prop}  (n : Nat) : ∀ {s : fz_s}, lp_X12_qGoesOnTest_137   Q n  s → fs_V g l m_X12_qGoesOnTest d false 137 [.ref 196] [] s (rZ Q) := by
  induction n with
  | zero => intro  s H; exact H.elim
  | succ n ih => intro  s H; exact V_nd_X12_qGoesOnTest_137 hD  (fun H => ih H) H
set_option maxRecDepth 100000 in
set_option maxHeartbeats 4000000 in
theorem V_nd_X12_qGoesOnTest_87 {g : fz_G} {l : Launch} {d : Nat} (hD : 3 ≤ d)   {K87 : fz_s → Prop} {Q : Bool → fz_s → Prop}  {s : fz_s} (hK87 : ∀ {s : fz_s}, K87 s → fs_V g l m_X12_qGoesOnTest d false 87 [.ref 196] [] s (rZ Q)) (H : nd_X12_qGoesOnTest_87  K87 Q  s) : fs_V g l m_X12_qGoesOnTest d false 87 [.ref 196] [] s (rZ Q) := by
  obtain ⟨d, rfl⟩ : ∃ e, d = e + 1 := ⟨d - 1, by omega⟩
  unfold nd_X12_qGoesOnTest_87 at H
  refine fs_aload_n (k0 := 0) (i := 0) dd_X12_qGoesOnTest_87 rfl rfl ?_
  refine fs_bipush (n := 10) (v := 10) dd_X12_qGoesOnTest_88 (by decide) ?_
  refine fs_callV (y := m_X12_qIsOn) (as := [.int 10]) dd_X12_qGoesOnTest_90 me_X12_qIsOn lk_X12_641 in_X12_qIsOn se_X12_qIsOn ca_196 rfl rfl rfl (Nat.le_of_ble_eq_true rfl) (Nat.le_of_ble_eq_true rfl) rfl (V_X12_qIsOn (by omega)  H) (k2_Z fun r1 s2 H => ?_)
  refine fs_if_eq (tgt := 103) dd_X12_qGoesOnTest_93 (by decide) (fun hc => ?_) (fun hc => ?_)
  · replace H := H.1 (bi_0 hc)
    refine fs_aload_n (k0 := 0) (i := 0) dd_X12_qGoesOnTest_103 rfl rfl ?_
    refine fs_getr (ci := 12) (j := 102) (q := 270) dd_X12_qGoesOnTest_104 fl_X12_240 ca_196 rfl (Or.inr ⟨_, rfl⟩) rfl (by decide) ?_
    refine fs_aload_n (k0 := 0) (i := 0) dd_X12_qGoesOnTest_107 rfl rfl ?_
    refine fs_geti (ci := 12) (j := 103) dd_X12_qGoesOnTest_108 fl_X12_341 ca_196 rfl (Or.inl rfl) ?_
    refine fs_bipush (n := 10) (v := 10) dd_X12_qGoesOnTest_111 (by decide) ?_
    have hb := H.1
    replace H := H.2
    refine fs_iast dd_X12_qGoesOnTest_113 ca_270 hb ?_
    refine fs_tops (fun s3 hs3 => ?_)
    replace H := H s3 hs3
    refine fs_aload_n (k0 := 0) (i := 0) dd_X12_qGoesOnTest_114 rfl rfl ?_
    refine fs_dup dd_X12_qGoesOnTest_115 rfl ?_
    refine fs_geti (ci := 12) (j := 103) dd_X12_qGoesOnTest_116 fl_X12_341 ca_196 rfl (Or.inl rfl) ?_
    refine fs_iconst (n := 1) (v := 1) dd_X12_qGoesOnTest_119 (by decide) ?_
    refine fs_iadd dd_X12_qGoesOnTest_120 ?_
    refine fs_puti (ci := 12) (j := 103) dd_X12_qGoesOnTest_121 fl_X12_341 (fun _ _ _ h => by cases h; rfl) ca_196 rfl (Or.inl rfl) ?_
    refine fs_tops (fun s4 hs4 => ?_)
    replace H := H s4 hs4
    refine fs_iconst (n := 1) (v := 1) dd_X12_qGoesOnTest_124 (by decide) ?_
    exact fs_zret true dd_X12_qGoesOnTest_125 rfl rfl H
  · replace H := H.2 (bi_1 hc)
    refine fs_aload_n (k0 := 0) (i := 0) dd_X12_qGoesOnTest_96 rfl rfl ?_
    refine fs_callV (y := m_X12_qDrops) (as := []) dd_X12_qGoesOnTest_97 me_X12_qDrops lk_X12_614 in_X12_qDrops se_X12_qDrops ca_196 rfl rfl rfl (Nat.le_of_ble_eq_true rfl) (Nat.le_of_ble_eq_true rfl) rfl (V_X12_qDrops (by omega)  H) (k2_V fun s6 H => ?_)
    refine fs_goto (tgt := 87) dd_X12_qGoesOnTest_100 (by decide) ?_
    refine fs_weak (ls2 := [.ref 196]) (fz_le_e fz_le_n) ?_
    exact hK87 H
set_option maxRecDepth 100000 in
set_option maxHeartbeats 4000000 in
theorem V_lp_X12_qGoesOnTest_87 {g : fz_G} {l : Launch} {d : Nat} (hD : 3 ≤ d)    {Q : Bool → fz_s → Prop}  (n : Nat) : ∀ {s : fz_s}, lp_X12_qGoesOnTest_87   Q n  s → fs_V g l m_X12_qGoesOnTest d false 87 [.ref 196] [] s (rZ Q) := by
  induction n with
  | zero => intro  s H; exact H.elim
  | succ n ih => intro  s H; exact V_nd_X12_qGoesOnTest_87 hD  (fun H => ih H) H
set_option maxRecDepth 100000 in
set_option maxHeartbeats 4000000 in
theorem V_nd_X12_qGoesOnTest_76 {g : fz_G} {l : Launch} {d : Nat} (hD : 3 ≤ d)    {Q : Bool → fz_s → Prop}  {s : fz_s}  (H : nd_X12_qGoesOnTest_76   Q  s) : fs_V g l m_X12_qGoesOnTest d false 76 [.ref 196] [] s (rZ Q) := by
  obtain ⟨d, rfl⟩ : ∃ e, d = e + 1 := ⟨d - 1, by omega⟩
  unfold nd_X12_qGoesOnTest_76 at H
  refine fs_aload_n (k0 := 0) (i := 0) dd_X12_qGoesOnTest_76 rfl rfl ?_
  refine fs_aload_n (k0 := 0) (i := 0) dd_X12_qGoesOnTest_77 rfl rfl ?_
  refine fs_getr (ci := 12) (j := 82) (q := 251) dd_X12_qGoesOnTest_78 fl_X12_183 ca_196 rfl (Or.inr ⟨_, rfl⟩) rfl (by decide) ?_
  refine fs_callV (y := m_X12_takes) (as := [.ref 251]) dd_X12_qGoesOnTest_81 me_X12_takes lk_X12_279 in_X12_takes se_X12_takes ca_196 rfl rfl rfl (Nat.le_of_ble_eq_true rfl) (Nat.le_of_ble_eq_true rfl) rfl (V_X12_takes (by omega) ca_251 H) (k2_Z fun r1 s2 H => ?_)
  refine fs_if_eq (tgt := 126) dd_X12_qGoesOnTest_84 (by decide) (fun hc => ?_) (fun hc => ?_)
  · replace H := H.1 (bi_0 hc)
    refine fs_aload_n (k0 := 0) (i := 0) dd_X12_qGoesOnTest_126 rfl rfl ?_
    refine fs_aload_n (k0 := 0) (i := 0) dd_X12_qGoesOnTest_127 rfl rfl ?_
    refine fs_getr (ci := 12) (j := 83) (q := 252) dd_X12_qGoesOnTest_128 fl_X12_186 ca_196 rfl (Or.inr ⟨_, rfl⟩) rfl (by decide) ?_
    refine fs_callV (y := m_X12_takes) (as := [.ref 252]) dd_X12_qGoesOnTest_131 me_X12_takes lk_X12_279 in_X12_takes se_X12_takes ca_196 rfl rfl rfl (Nat.le_of_ble_eq_true rfl) (Nat.le_of_ble_eq_true rfl) rfl (V_X12_takes (by omega) ca_252 H) (k2_Z fun r3 s4 H => ?_)
    refine fs_if_eq (tgt := 185) dd_X12_qGoesOnTest_134 (by decide) (fun hc => ?_) (fun hc => ?_)
    · replace H := H.1 (bi_0 hc)
      refine fs_aload_n (k0 := 0) (i := 0) dd_X12_qGoesOnTest_185 rfl rfl ?_
      refine fs_geti (ci := 12) (j := 5) dd_X12_qGoesOnTest_186 fl_X12_252 ca_196 rfl (Or.inl rfl) ?_
      refine fs_if_ne (tgt := 208) dd_X12_qGoesOnTest_189 (by decide) (fun hc => ?_) (fun hc => ?_)
      · replace H := H.1 hc
        refine fs_iconst (n := 0) (v := 0) dd_X12_qGoesOnTest_208 (by decide) ?_
        exact fs_zret false dd_X12_qGoesOnTest_209 rfl rfl H
      · replace H := H.2 hc
        refine fs_aload_n (k0 := 0) (i := 0) dd_X12_qGoesOnTest_192 rfl rfl ?_
        refine fs_callV (y := m_X12_qHasSquare) (as := []) dd_X12_qGoesOnTest_193 me_X12_qHasSquare lk_X12_659 in_X12_qHasSquare se_X12_qHasSquare ca_196 rfl rfl rfl (Nat.le_of_ble_eq_true rfl) (Nat.le_of_ble_eq_true rfl) rfl (V_X12_qHasSquare (by omega)  H) (k2_Z fun r5 s6 H => ?_)
        refine fs_if_eq (tgt := 208) dd_X12_qGoesOnTest_196 (by decide) (fun hc => ?_) (fun hc => ?_)
        · replace H := H.1 (bi_0 hc)
          refine fs_iconst (n := 0) (v := 0) dd_X12_qGoesOnTest_208 (by decide) ?_
          exact fs_zret false dd_X12_qGoesOnTest_209 rfl rfl H
        · replace H := H.2 (bi_1 hc)
          refine fs_aload_n (k0 := 0) (i := 0) dd_X12_qGoesOnTest_199 rfl rfl ?_
          refine fs_iconst (n := 1) (v := 1) dd_X12_qGoesOnTest_200 (by decide) ?_
          refine fs_aload_n (k0 := 0) (i := 0) dd_X12_qGoesOnTest_201 rfl rfl ?_
          refine fs_geti (ci := 12) (j := 2) dd_X12_qGoesOnTest_202 fl_X12_258 ca_196 rfl (Or.inl rfl) ?_
          refine fs_callV (y := m_X12_fail) (as := [.int 1, .int (s6.1 196 2)]) dd_X12_qGoesOnTest_205 me_X12_fail lk_X12_282 in_X12_fail se_X12_fail ca_196 rfl rfl rfl (Nat.le_of_ble_eq_true rfl) (Nat.le_of_ble_eq_true rfl) rfl (V_X12_fail (by omega)  H) (k2_V fun s8 H => ?_)
          refine fs_iconst (n := 0) (v := 0) dd_X12_qGoesOnTest_208 (by decide) ?_
          exact fs_zret false dd_X12_qGoesOnTest_209 rfl rfl H
    · replace H := H.2 (bi_1 hc)
      refine fs_weak (ls2 := [.ref 196]) (fz_le_e fz_le_n) ?_
      exact V_lp_X12_qGoesOnTest_137 hD    2048 H
  · replace H := H.2 (bi_1 hc)
    refine fs_weak (ls2 := [.ref 196]) (fz_le_e fz_le_n) ?_
    exact V_lp_X12_qGoesOnTest_87 hD    2048 H
set_option maxRecDepth 100000 in
set_option maxHeartbeats 4000000 in
theorem V_nd_X12_qGoesOnTest_33 {g : fz_G} {l : Launch} {d : Nat} (hD : 3 ≤ d)   {K0 : fz_s → Prop} {K33 : fz_s → Prop} {Q : Bool → fz_s → Prop}  {s : fz_s} (hK0 : ∀ {s : fz_s}, K0 s → fs_V g l m_X12_qGoesOnTest d false 0 [.ref 196] [] s (rZ Q)) (hK33 : ∀ {s : fz_s}, K33 s → fs_V g l m_X12_qGoesOnTest d false 33 [.ref 196] [] s (rZ Q)) (H : nd_X12_qGoesOnTest_33  K0 K33 Q  s) : fs_V g l m_X12_qGoesOnTest d false 33 [.ref 196] [] s (rZ Q) := by
  obtain ⟨d, rfl⟩ : ∃ e, d = e + 1 := ⟨d - 1, by omega⟩
  unfold nd_X12_qGoesOnTest_33 at H
  refine fs_aload_n (k0 := 0) (i := 0) dd_X12_qGoesOnTest_33 rfl rfl ?_
  refine fs_bipush (n := 25) (v := 25) dd_X12_qGoesOnTest_34 (by decide) ?_
  refine fs_callV (y := m_X12_qIsOn) (as := [.int 25]) dd_X12_qGoesOnTest_36 me_X12_qIsOn lk_X12_641 in_X12_qIsOn se_X12_qIsOn ca_196 rfl rfl rfl (Nat.le_of_ble_eq_true rfl) (Nat.le_of_ble_eq_true rfl) rfl (V_X12_qIsOn (by omega)  H) (k2_Z fun r1 s2 H => ?_)
  refine fs_if_ne (tgt := 49) dd_X12_qGoesOnTest_39 (by decide) (fun hc => ?_) (fun hc => ?_)
  · replace H := H.1 (bi_1 hc)
    refine fs_aload_n (k0 := 0) (i := 0) dd_X12_qGoesOnTest_49 rfl rfl ?_
    refine fs_dup dd_X12_qGoesOnTest_50 rfl ?_
    refine fs_geti (ci := 12) (j := 103) dd_X12_qGoesOnTest_51 fl_X12_341 ca_196 rfl (Or.inl rfl) ?_
    refine fs_iconst (n := 1) (v := 1) dd_X12_qGoesOnTest_54 (by decide) ?_
    refine fs_isub dd_X12_qGoesOnTest_55 ?_
    refine fs_puti (ci := 12) (j := 103) dd_X12_qGoesOnTest_56 fl_X12_341 (fun _ _ _ h => by cases h; rfl) ca_196 rfl (Or.inl rfl) ?_
    refine fs_tops (fun s3 hs3 => ?_)
    replace H := H s3 hs3
    refine fs_aload_n (k0 := 0) (i := 0) dd_X12_qGoesOnTest_59 rfl rfl ?_
    refine fs_dup dd_X12_qGoesOnTest_60 rfl ?_
    refine fs_geti (ci := 12) (j := 104) dd_X12_qGoesOnTest_61 fl_X12_344 ca_196 rfl (Or.inl rfl) ?_
    refine fs_iconst (n := 1) (v := 1) dd_X12_qGoesOnTest_64 (by decide) ?_
    refine fs_isub dd_X12_qGoesOnTest_65 ?_
    refine fs_puti (ci := 12) (j := 104) dd_X12_qGoesOnTest_66 fl_X12_344 (fun _ _ _ h => by cases h; rfl) ca_196 rfl (Or.inl rfl) ?_
    refine fs_tops (fun s4 hs4 => ?_)
    replace H := H s4 hs4
    refine fs_aload_n (k0 := 0) (i := 0) dd_X12_qGoesOnTest_69 rfl rfl ?_
    refine fs_callV (y := m_X12_qDropsNots) (as := []) dd_X12_qGoesOnTest_70 me_X12_qDropsNots lk_X12_653 in_X12_qDropsNots se_X12_qDropsNots ca_196 rfl rfl rfl (Nat.le_of_ble_eq_true rfl) (Nat.le_of_ble_eq_true rfl) rfl (V_X12_qDropsNots (by omega)  H) (k2_V fun s6 H => ?_)
    refine fs_goto (tgt := 0) dd_X12_qGoesOnTest_73 (by decide) ?_
    refine fs_weak (ls2 := [.ref 196]) (fz_le_e fz_le_n) ?_
    exact hK0 H
  · replace H := H.2 (bi_0 hc)
    refine fs_aload_n (k0 := 0) (i := 0) dd_X12_qGoesOnTest_42 rfl rfl ?_
    refine fs_callV (y := m_X12_qDrops) (as := []) dd_X12_qGoesOnTest_43 me_X12_qDrops lk_X12_614 in_X12_qDrops se_X12_qDrops ca_196 rfl rfl rfl (Nat.le_of_ble_eq_true rfl) (Nat.le_of_ble_eq_true rfl) rfl (V_X12_qDrops (by omega)  H) (k2_V fun s8 H => ?_)
    refine fs_goto (tgt := 33) dd_X12_qGoesOnTest_46 (by decide) ?_
    refine fs_weak (ls2 := [.ref 196]) (fz_le_e fz_le_n) ?_
    exact hK33 H
set_option maxRecDepth 100000 in
set_option maxHeartbeats 4000000 in
theorem V_lp_X12_qGoesOnTest_33 {g : fz_G} {l : Launch} {d : Nat} (hD : 3 ≤ d)   {K0 : fz_s → Prop} {Q : Bool → fz_s → Prop} (hK0 : ∀ {s : fz_s}, K0 s → fs_V g l m_X12_qGoesOnTest d false 0 [.ref 196] [] s (rZ Q)) (n : Nat) : ∀ {s : fz_s}, lp_X12_qGoesOnTest_33  K0 Q n  s → fs_V g l m_X12_qGoesOnTest d false 33 [.ref 196] [] s (rZ Q) := by
  induction n with
  | zero => intro  s H; exact H.elim
  | succ n ih => intro  s H; exact V_nd_X12_qGoesOnTest_33 hD  hK0 (fun H => ih H) H
set_option maxRecDepth 100000 in
set_option maxHeartbeats 4000000 in
theorem V_nd_X12_qGoesOnTest_0 {g : fz_G} {l : Launch} {d : Nat} (hD : 3 ≤ d)   {K0 : fz_s → Prop} {Q : Bool → fz_s → Prop}  {s : fz_s} (hK0 : ∀ {s : fz_s}, K0 s → fs_V g l m_X12_qGoesOnTest d false 0 [.ref 196] [] s (rZ Q)) (H : nd_X12_qGoesOnTest_0  K0 Q  s) : fs_V g l m_X12_qGoesOnTest d false 0 [.ref 196] [] s (rZ Q) := by
  obtain ⟨d, rfl⟩ : ∃ e, d = e + 1 := ⟨d - 1, by omega⟩
  unfold nd_X12_qGoesOnTest_0 at H
  refine fs_aload_n (k0 := 0) (i := 0) dd_X12_qGoesOnTest_0 rfl rfl ?_
  refine fs_geti (ci := 12) (j := 5) dd_X12_qGoesOnTest_1 fl_X12_252 ca_196 rfl (Or.inl rfl) ?_
  refine fs_if_ne (tgt := 76) dd_X12_qGoesOnTest_4 (by decide) (fun hc => ?_) (fun hc => ?_)
  · replace H := H.1 hc
    refine fs_weak (ls2 := [.ref 196]) (fz_le_e fz_le_n) ?_
    exact V_nd_X12_qGoesOnTest_76 hD    H
  · replace H := H.2 hc
    refine fs_aload_n (k0 := 0) (i := 0) dd_X12_qGoesOnTest_7 rfl rfl ?_
    refine fs_callV (y := m_X12_look) (as := []) dd_X12_qGoesOnTest_8 me_X12_look lk_X12_264 in_X12_look se_X12_look ca_196 rfl rfl rfl (Nat.le_of_ble_eq_true rfl) (Nat.le_of_ble_eq_true rfl) rfl (V_X12_look (by omega)  H) (k2_I fun r1 s2 H => ?_)
    refine fs_bipush (n := 93) (v := 93) dd_X12_qGoesOnTest_11 (by decide) ?_
    refine fs_icmp_ne (tgt := 76) dd_X12_qGoesOnTest_13 (by decide) (fun hc => ?_) (fun hc => ?_)
    · replace H := H.1 hc
      refine fs_weak (ls2 := [.ref 196]) (fz_le_e fz_le_n) ?_
      exact V_nd_X12_qGoesOnTest_76 hD    H
    · replace H := H.2 hc
      refine fs_aload_n (k0 := 0) (i := 0) dd_X12_qGoesOnTest_16 rfl rfl ?_
      refine fs_callV (y := m_X12_qHasSquare) (as := []) dd_X12_qGoesOnTest_17 me_X12_qHasSquare lk_X12_659 in_X12_qHasSquare se_X12_qHasSquare ca_196 rfl rfl rfl (Nat.le_of_ble_eq_true rfl) (Nat.le_of_ble_eq_true rfl) rfl (V_X12_qHasSquare (by omega)  H) (k2_Z fun r3 s4 H => ?_)
      refine fs_if_eq (tgt := 76) dd_X12_qGoesOnTest_20 (by decide) (fun hc => ?_) (fun hc => ?_)
      · replace H := H.1 (bi_0 hc)
        refine fs_weak (ls2 := [.ref 196]) (fz_le_e fz_le_n) ?_
        exact V_nd_X12_qGoesOnTest_76 hD    H
      · replace H := H.2 (bi_1 hc)
        refine fs_aload_n (k0 := 0) (i := 0) dd_X12_qGoesOnTest_23 rfl rfl ?_
        refine fs_dup dd_X12_qGoesOnTest_24 rfl ?_
        refine fs_geti (ci := 12) (j := 2) dd_X12_qGoesOnTest_25 fl_X12_258 ca_196 rfl (Or.inl rfl) ?_
        refine fs_iconst (n := 1) (v := 1) dd_X12_qGoesOnTest_28 (by decide) ?_
        refine fs_iadd dd_X12_qGoesOnTest_29 ?_
        refine fs_puti (ci := 12) (j := 2) dd_X12_qGoesOnTest_30 fl_X12_258 (fun _ _ _ h => by cases h; rfl) ca_196 rfl (Or.inl rfl) ?_
        refine fs_tops (fun s5 hs5 => ?_)
        replace H := H s5 hs5
        refine fs_weak (ls2 := [.ref 196]) (fz_le_e fz_le_n) ?_
        exact V_lp_X12_qGoesOnTest_33 hD   hK0 2048 H
set_option maxRecDepth 100000 in
set_option maxHeartbeats 4000000 in
theorem V_lp_X12_qGoesOnTest_0 {g : fz_G} {l : Launch} {d : Nat} (hD : 3 ≤ d)    {Q : Bool → fz_s → Prop}  (n : Nat) : ∀ {s : fz_s}, lp_X12_qGoesOnTest_0   Q n  s → fs_V g l m_X12_qGoesOnTest d false 0 [.ref 196] [] s (rZ Q) := by
  induction n with
  | zero => intro  s H; exact H.elim
  | succ n ih => intro  s H; exact V_nd_X12_qGoesOnTest_0 hD  (fun H => ih H) H
set_option maxRecDepth 100000 in
set_option maxHeartbeats 4000000 in
theorem V_X12_qGoesOnTest {g : fz_G} {l : Launch} {d : Nat} (hD : 3 ≤ d)   {s : fz_s} {Q : Bool → fz_s → Prop} (H : wp_X12_qGoesOnTest  s Q) : fs_V g l m_X12_qGoesOnTest d false 0 (fz_en [.ref 196] 1) [] s (rZ Q) := by
  obtain ⟨d, rfl⟩ : ∃ e, d = e + 1 := ⟨d - 1, by omega⟩
  unfold wp_X12_qGoesOnTest at H
  refine fs_weak (ls2 := [.ref 196]) (fz_le_e fz_le_n) ?_
  exact V_lp_X12_qGoesOnTest_0 hD    2048 H
theorem dd_X12_qTest_0 : decode m_X12_qTest.2.1 0 = .ok (.iconst 1, 1) := by decide +kernel
theorem dd_X12_qTest_1 : decode m_X12_qTest.2.1 1 = .ok (.istore_n 1, 1) := by decide +kernel
theorem dd_X12_qTest_2 : decode m_X12_qTest.2.1 2 = .ok (.iload_n 1, 1) := by decide +kernel
theorem dd_X12_qTest_3 : decode m_X12_qTest.2.1 3 = .ok (.ifCond .eq 107, 3) := by decide +kernel
theorem dd_X12_qTest_6 : decode m_X12_qTest.2.1 6 = .ok (.aload_n 0, 1) := by decide +kernel
theorem dd_X12_qTest_7 : decode m_X12_qTest.2.1 7 = .ok (.getfield 252, 3) := by decide +kernel
theorem dd_X12_qTest_10 : decode m_X12_qTest.2.1 10 = .ok (.ifCond .ne 100, 3) := by decide +kernel
theorem dd_X12_qTest_13 : decode m_X12_qTest.2.1 13 = .ok (.aload_n 0, 1) := by decide +kernel
theorem dd_X12_qTest_14 : decode m_X12_qTest.2.1 14 = .ok (.invokevirtual 264, 3) := by decide +kernel
theorem dd_X12_qTest_17 : decode m_X12_qTest.2.1 17 = .ok (.istore_n 2, 1) := by decide +kernel
theorem dd_X12_qTest_18 : decode m_X12_qTest.2.1 18 = .ok (.iload_n 2, 1) := by decide +kernel
theorem dd_X12_qTest_19 : decode m_X12_qTest.2.1 19 = .ok (.bipush 91, 2) := by decide +kernel
theorem dd_X12_qTest_21 : decode m_X12_qTest.2.1 21 = .ok (.if_icmp .ne 26, 3) := by decide +kernel
theorem dd_X12_qTest_24 : decode m_X12_qTest.2.1 24 = .ok (.aload_n 0, 1) := by decide +kernel
theorem dd_X12_qTest_25 : decode m_X12_qTest.2.1 25 = .ok (.bipush 25, 2) := by decide +kernel
theorem dd_X12_qTest_27 : decode m_X12_qTest.2.1 27 = .ok (.aload_n 0, 1) := by decide +kernel
theorem dd_X12_qTest_28 : decode m_X12_qTest.2.1 28 = .ok (.getfield 258, 3) := by decide +kernel
theorem dd_X12_qTest_31 : decode m_X12_qTest.2.1 31 = .ok (.invokevirtual 626, 3) := by decide +kernel
theorem dd_X12_qTest_34 : decode m_X12_qTest.2.1 34 = .ok (.aload_n 0, 1) := by decide +kernel
theorem dd_X12_qTest_35 : decode m_X12_qTest.2.1 35 = .ok (.dup, 1) := by decide +kernel
theorem dd_X12_qTest_36 : decode m_X12_qTest.2.1 36 = .ok (.getfield 258, 3) := by decide +kernel
theorem dd_X12_qTest_39 : decode m_X12_qTest.2.1 39 = .ok (.iconst 1, 1) := by decide +kernel
theorem dd_X12_qTest_40 : decode m_X12_qTest.2.1 40 = .ok (.iadd, 1) := by decide +kernel
theorem dd_X12_qTest_41 : decode m_X12_qTest.2.1 41 = .ok (.putfield 258, 3) := by decide +kernel
theorem dd_X12_qTest_44 : decode m_X12_qTest.2.1 44 = .ok (.goto (-42), 3) := by decide +kernel
theorem dd_X12_qTest_47 : decode m_X12_qTest.2.1 47 = .ok (.aload_n 0, 1) := by decide +kernel
theorem dd_X12_qTest_48 : decode m_X12_qTest.2.1 48 = .ok (.aload_n 0, 1) := by decide +kernel
theorem dd_X12_qTest_49 : decode m_X12_qTest.2.1 49 = .ok (.getfield 180, 3) := by decide +kernel
theorem dd_X12_qTest_52 : decode m_X12_qTest.2.1 52 = .ok (.invokevirtual 275, 3) := by decide +kernel
theorem dd_X12_qTest_55 : decode m_X12_qTest.2.1 55 = .ok (.ifCond .eq 24, 3) := by decide +kernel
theorem dd_X12_qTest_58 : decode m_X12_qTest.2.1 58 = .ok (.aload_n 0, 1) := by decide +kernel
theorem dd_X12_qTest_59 : decode m_X12_qTest.2.1 59 = .ok (.bipush 12, 2) := by decide +kernel
theorem dd_X12_qTest_61 : decode m_X12_qTest.2.1 61 = .ok (.aload_n 0, 1) := by decide +kernel
theorem dd_X12_qTest_62 : decode m_X12_qTest.2.1 62 = .ok (.getfield 258, 3) := by decide +kernel
theorem dd_X12_qTest_65 : decode m_X12_qTest.2.1 65 = .ok (.invokevirtual 626, 3) := by decide +kernel
theorem dd_X12_qTest_68 : decode m_X12_qTest.2.1 68 = .ok (.aload_n 0, 1) := by decide +kernel
theorem dd_X12_qTest_69 : decode m_X12_qTest.2.1 69 = .ok (.aload_n 0, 1) := by decide +kernel
theorem dd_X12_qTest_70 : decode m_X12_qTest.2.1 70 = .ok (.getfield 180, 3) := by decide +kernel
theorem dd_X12_qTest_73 : decode m_X12_qTest.2.1 73 = .ok (.invokevirtual 323, 3) := by decide +kernel
theorem dd_X12_qTest_76 : decode m_X12_qTest.2.1 76 = .ok (.goto (-74), 3) := by decide +kernel
theorem dd_X12_qTest_79 : decode m_X12_qTest.2.1 79 = .ok (.aload_n 0, 1) := by decide +kernel
theorem dd_X12_qTest_80 : decode m_X12_qTest.2.1 80 = .ok (.invokevirtual 650, 3) := by decide +kernel
theorem dd_X12_qTest_83 : decode m_X12_qTest.2.1 83 = .ok (.aload_n 0, 1) := by decide +kernel
theorem dd_X12_qTest_84 : decode m_X12_qTest.2.1 84 = .ok (.invokevirtual 653, 3) := by decide +kernel
theorem dd_X12_qTest_87 : decode m_X12_qTest.2.1 87 = .ok (.aload_n 0, 1) := by decide +kernel
theorem dd_X12_qTest_88 : decode m_X12_qTest.2.1 88 = .ok (.getfield 252, 3) := by decide +kernel
theorem dd_X12_qTest_91 : decode m_X12_qTest.2.1 91 = .ok (.ifCond .ne 14, 3) := by decide +kernel
theorem dd_X12_qTest_94 : decode m_X12_qTest.2.1 94 = .ok (.aload_n 0, 1) := by decide +kernel
theorem dd_X12_qTest_95 : decode m_X12_qTest.2.1 95 = .ok (.invokevirtual 656, 3) := by decide +kernel
theorem dd_X12_qTest_98 : decode m_X12_qTest.2.1 98 = .ok (.ifCond .eq 7, 3) := by decide +kernel
theorem dd_X12_qTest_101 : decode m_X12_qTest.2.1 101 = .ok (.iconst 1, 1) := by decide +kernel
theorem dd_X12_qTest_102 : decode m_X12_qTest.2.1 102 = .ok (.goto 4, 3) := by decide +kernel
theorem dd_X12_qTest_105 : decode m_X12_qTest.2.1 105 = .ok (.iconst 0, 1) := by decide +kernel
theorem dd_X12_qTest_106 : decode m_X12_qTest.2.1 106 = .ok (.istore_n 1, 1) := by decide +kernel
theorem dd_X12_qTest_107 : decode m_X12_qTest.2.1 107 = .ok (.goto (-105), 3) := by decide +kernel
theorem dd_X12_qTest_110 : decode m_X12_qTest.2.1 110 = .ok (.aload_n 0, 1) := by decide +kernel
theorem dd_X12_qTest_111 : decode m_X12_qTest.2.1 111 = .ok (.getfield 252, 3) := by decide +kernel
theorem dd_X12_qTest_114 : decode m_X12_qTest.2.1 114 = .ok (.ifCond .ne 17, 3) := by decide +kernel
theorem dd_X12_qTest_117 : decode m_X12_qTest.2.1 117 = .ok (.aload_n 0, 1) := by decide +kernel
theorem dd_X12_qTest_118 : decode m_X12_qTest.2.1 118 = .ok (.getfield 341, 3) := by decide +kernel
theorem dd_X12_qTest_121 : decode m_X12_qTest.2.1 121 = .ok (.ifCond .le 10, 3) := by decide +kernel
theorem dd_X12_qTest_124 : decode m_X12_qTest.2.1 124 = .ok (.aload_n 0, 1) := by decide +kernel
theorem dd_X12_qTest_125 : decode m_X12_qTest.2.1 125 = .ok (.invokevirtual 614, 3) := by decide +kernel
theorem dd_X12_qTest_128 : decode m_X12_qTest.2.1 128 = .ok (.goto (-18), 3) := by decide +kernel
theorem dd_X12_qTest_131 : decode m_X12_qTest.2.1 131 = .ok (.return_, 1) := by decide +kernel
def nd_X12_qTest_110  (K110 : fz_s → Prop) (Q : fz_s → Prop)  (s : fz_s) : Prop :=
  ((¬ (s.1 196 5) = 0 → Q s) ∧ ((s.1 196 5) = 0 → (((s.1 196 103) ≤ 0 → Q s) ∧ (¬ (s.1 196 103) ≤ 0 → wp_X12_qDrops  s (fun s2 => K110  s2)))))
def lp_X12_qTest_110   (Q : fz_s → Prop) : Nat → fz_s → Prop
  | 0 => fun  _ => False
  | n + 1 => nd_X12_qTest_110  (lp_X12_qTest_110   Q n) Q
def nd_X12_qTest_2  (K2 : Bool → fz_s → Prop) (Q : fz_s → Prop) (v1 : Bool) (s : fz_s) : Prop :=
  ((v1 = false → lp_X12_qTest_110   Q 2048  s) ∧ (v1 = true → ((¬ (s.1 196 5) = 0 → lp_X12_qTest_110   Q 2048  s) ∧ ((s.1 196 5) = 0 → wp_X12_look  s (fun r1 s2 => ((¬ r1 = 91 → wp_X12_isHere 250 3 s2 (fun r3 s4 => ((r3 = false → wp_X12_qFact  s4 (fun s6 => wp_X12_qDropsNots  s6 (fun s8 => ((¬ (s8.1 196 5) = 0 → K2 false s8) ∧ ((s8.1 196 5) = 0 → wp_X12_qGoesOnTest  s8 (fun r9 s10 => ((r9 = false → K2 false s10) ∧ (r9 = true → K2 true s10)))))))) ∧ (r3 = true → wp_X12_qOpens 12 (s4.1 196 2) s4 (fun s12 => wp_X12_asks 250 3 s12 (fun s14 => K2 v1 s14)))))) ∧ (r1 = 91 → wp_X12_qOpens 25 (s2.1 196 2) s2 (fun s16 => ∀ s17 : fz_s, s17 = si s16 196 2 ((s16.1 196 2) + 1) → K2 v1 s17))))))))
def lp_X12_qTest_2   (Q : fz_s → Prop) : Nat → Bool → fz_s → Prop
  | 0 => fun _ _ => False
  | n + 1 => nd_X12_qTest_2  (lp_X12_qTest_2   Q n) Q
def wp_X12_qTest  (s : fz_s) (Q : fz_s → Prop) : Prop :=
  lp_X12_qTest_2   Q 2048 true s
set_option maxRecDepth 100000 in
set_option maxHeartbeats 4000000 in
theorem V_nd_X12_qTest_110 {g : fz_G} {l : Launch} {d : Nat} (hD : 8 ≤ d)   {K110 : fz_s → Prop} {Q : fz_s → Prop}  {s : fz_s} (hK110 : ∀ {s : fz_s}, K110 s → fs_V g l m_X12_qTest d false 110 [.ref 196, fz_J, fz_J] [] s (rV Q)) (H : nd_X12_qTest_110  K110 Q  s) : fs_V g l m_X12_qTest d false 110 [.ref 196, fz_J, fz_J] [] s (rV Q) := by
  obtain ⟨d, rfl⟩ : ∃ e, d = e + 1 := ⟨d - 1, by omega⟩
  unfold nd_X12_qTest_110 at H
  refine fs_aload_n (k0 := 0) (i := 0) dd_X12_qTest_110 rfl rfl ?_
  refine fs_geti (ci := 12) (j := 5) dd_X12_qTest_111 fl_X12_252 ca_196 rfl (Or.inl rfl) ?_
  refine fs_if_ne (tgt := 131) dd_X12_qTest_114 (by decide) (fun hc => ?_) (fun hc => ?_)
  · replace H := H.1 hc
    exact fs_vret dd_X12_qTest_131 rfl H
  · replace H := H.2 hc
    refine fs_aload_n (k0 := 0) (i := 0) dd_X12_qTest_117 rfl rfl ?_
    refine fs_geti (ci := 12) (j := 103) dd_X12_qTest_118 fl_X12_341 ca_196 rfl (Or.inl rfl) ?_
    refine fs_if_le (tgt := 131) dd_X12_qTest_121 (by decide) (fun hc => ?_) (fun hc => ?_)
    · replace H := H.1 hc
      exact fs_vret dd_X12_qTest_131 rfl H
    · replace H := H.2 hc
      refine fs_aload_n (k0 := 0) (i := 0) dd_X12_qTest_124 rfl rfl ?_
      refine fs_callV (y := m_X12_qDrops) (as := []) dd_X12_qTest_125 me_X12_qDrops lk_X12_614 in_X12_qDrops se_X12_qDrops ca_196 rfl rfl rfl (Nat.le_of_ble_eq_true rfl) (Nat.le_of_ble_eq_true rfl) rfl (V_X12_qDrops (by omega)  H) (k2_V fun s2 H => ?_)
      refine fs_goto (tgt := 110) dd_X12_qTest_128 (by decide) ?_
      refine fs_weak (ls2 := [.ref 196, fz_J, fz_J]) (fz_le_e (fz_le_j (fz_le_j fz_le_n))) ?_
      exact hK110 H
set_option maxRecDepth 100000 in
set_option maxHeartbeats 4000000 in
theorem V_lp_X12_qTest_110 {g : fz_G} {l : Launch} {d : Nat} (hD : 8 ≤ d)    {Q : fz_s → Prop}  (n : Nat) : ∀ {s : fz_s}, lp_X12_qTest_110   Q n  s → fs_V g l m_X12_qTest d false 110 [.ref 196, fz_J, fz_J] [] s (rV Q) := by
  induction n with
  | zero => intro  s H; exact H.elim
  | succ n ih => intro  s H; exact V_nd_X12_qTest_110 hD  (fun H => ih H) H
set_option maxRecDepth 100000 in
set_option maxHeartbeats 4000000 in
theorem V_nd_X12_qTest_2 {g : fz_G} {l : Launch} {d : Nat} (hD : 8 ≤ d)   {K2 : Bool → fz_s → Prop} {Q : fz_s → Prop} {v1 : Bool} {s : fz_s} (hK2 : ∀ {v1 : Bool} {s : fz_s}, K2 v1 s → fs_V g l m_X12_qTest d false 2 [.ref 196, .int (bi v1), fz_J] [] s (rV Q)) (H : nd_X12_qTest_2  K2 Q v1 s) : fs_V g l m_X12_qTest d false 2 [.ref 196, .int (bi v1), fz_J] [] s (rV Q) := by
  obtain ⟨d, rfl⟩ : ∃ e, d = e + 1 := ⟨d - 1, by omega⟩
  unfold nd_X12_qTest_2 at H
  refine fs_iload_n (k0 := 1) (i := 1) dd_X12_qTest_2 rfl rfl ?_
  refine fs_if_eq (tgt := 110) dd_X12_qTest_3 (by decide) (fun hc => ?_) (fun hc => ?_)
  · replace H := H.1 (bi_0 hc)
    refine fs_weak (ls2 := [.ref 196, fz_J, fz_J]) (fz_le_e (fz_le_j (fz_le_j fz_le_n))) ?_
    exact V_lp_X12_qTest_110 hD    2048 H
  · replace H := H.2 (bi_1 hc)
    refine fs_aload_n (k0 := 0) (i := 0) dd_X12_qTest_6 rfl rfl ?_
    refine fs_geti (ci := 12) (j := 5) dd_X12_qTest_7 fl_X12_252 ca_196 rfl (Or.inl rfl) ?_
    refine fs_if_ne (tgt := 110) dd_X12_qTest_10 (by decide) (fun hc => ?_) (fun hc => ?_)
    · replace H := H.1 hc
      refine fs_weak (ls2 := [.ref 196, fz_J, fz_J]) (fz_le_e (fz_le_j (fz_le_j fz_le_n))) ?_
      exact V_lp_X12_qTest_110 hD    2048 H
    · replace H := H.2 hc
      refine fs_aload_n (k0 := 0) (i := 0) dd_X12_qTest_13 rfl rfl ?_
      refine fs_callV (y := m_X12_look) (as := []) dd_X12_qTest_14 me_X12_look lk_X12_264 in_X12_look se_X12_look ca_196 rfl rfl rfl (Nat.le_of_ble_eq_true rfl) (Nat.le_of_ble_eq_true rfl) rfl (V_X12_look (by omega)  H) (k2_I fun r1 s2 H => ?_)
      refine fs_istore_n (k0 := 2) (i := 2) dd_X12_qTest_17 rfl (by decide) ?_
      refine fs_iload_n (k0 := 2) (i := 2) dd_X12_qTest_18 rfl rfl ?_
      refine fs_bipush (n := 91) (v := 91) dd_X12_qTest_19 (by decide) ?_
      refine fs_icmp_ne (tgt := 47) dd_X12_qTest_21 (by decide) (fun hc => ?_) (fun hc => ?_)
      · replace H := H.1 hc
        refine fs_aload_n (k0 := 0) (i := 0) dd_X12_qTest_47 rfl rfl ?_
        refine fs_aload_n (k0 := 0) (i := 0) dd_X12_qTest_48 rfl rfl ?_
        refine fs_getr (ci := 12) (j := 81) (q := 250) dd_X12_qTest_49 fl_X12_180 ca_196 rfl (Or.inr ⟨_, rfl⟩) rfl (by decide) ?_
        refine fs_callV (y := m_X12_isHere) (as := [.ref 250]) dd_X12_qTest_52 me_X12_isHere lk_X12_275 in_X12_isHere se_X12_isHere ca_196 rfl rfl rfl (Nat.le_of_ble_eq_true rfl) (Nat.le_of_ble_eq_true rfl) rfl (V_X12_isHere (by omega) ca_250 H) (k2_Z fun r3 s4 H => ?_)
        refine fs_if_eq (tgt := 79) dd_X12_qTest_55 (by decide) (fun hc => ?_) (fun hc => ?_)
        · replace H := H.1 (bi_0 hc)
          refine fs_aload_n (k0 := 0) (i := 0) dd_X12_qTest_79 rfl rfl ?_
          refine fs_callV (y := m_X12_qFact) (as := []) dd_X12_qTest_80 me_X12_qFact lk_X12_650 in_X12_qFact se_X12_qFact ca_196 rfl rfl rfl (Nat.le_of_ble_eq_true rfl) (Nat.le_of_ble_eq_true rfl) rfl (V_X12_qFact (by omega)  H) (k2_V fun s6 H => ?_)
          refine fs_aload_n (k0 := 0) (i := 0) dd_X12_qTest_83 rfl rfl ?_
          refine fs_callV (y := m_X12_qDropsNots) (as := []) dd_X12_qTest_84 me_X12_qDropsNots lk_X12_653 in_X12_qDropsNots se_X12_qDropsNots ca_196 rfl rfl rfl (Nat.le_of_ble_eq_true rfl) (Nat.le_of_ble_eq_true rfl) rfl (V_X12_qDropsNots (by omega)  H) (k2_V fun s8 H => ?_)
          refine fs_aload_n (k0 := 0) (i := 0) dd_X12_qTest_87 rfl rfl ?_
          refine fs_geti (ci := 12) (j := 5) dd_X12_qTest_88 fl_X12_252 ca_196 rfl (Or.inl rfl) ?_
          refine fs_if_ne (tgt := 105) dd_X12_qTest_91 (by decide) (fun hc => ?_) (fun hc => ?_)
          · replace H := H.1 hc
            refine fs_iconst (n := 0) (v := 0) dd_X12_qTest_105 (by decide) ?_
            refine fs_istore_n (k0 := 1) (i := 1) dd_X12_qTest_106 rfl (by decide) ?_
            refine fs_goto (tgt := 2) dd_X12_qTest_107 (by decide) ?_
            refine fs_weak (ls2 := [.ref 196, .int (bi false), fz_J]) (fz_le_e (fz_le_e (fz_le_j fz_le_n))) ?_
            exact hK2 H
          · replace H := H.2 hc
            refine fs_aload_n (k0 := 0) (i := 0) dd_X12_qTest_94 rfl rfl ?_
            refine fs_callV (y := m_X12_qGoesOnTest) (as := []) dd_X12_qTest_95 me_X12_qGoesOnTest lk_X12_656 in_X12_qGoesOnTest se_X12_qGoesOnTest ca_196 rfl rfl rfl (Nat.le_of_ble_eq_true rfl) (Nat.le_of_ble_eq_true rfl) rfl (V_X12_qGoesOnTest (by omega)  H) (k2_Z fun r9 s10 H => ?_)
            refine fs_if_eq (tgt := 105) dd_X12_qTest_98 (by decide) (fun hc => ?_) (fun hc => ?_)
            · replace H := H.1 (bi_0 hc)
              refine fs_iconst (n := 0) (v := 0) dd_X12_qTest_105 (by decide) ?_
              refine fs_istore_n (k0 := 1) (i := 1) dd_X12_qTest_106 rfl (by decide) ?_
              refine fs_goto (tgt := 2) dd_X12_qTest_107 (by decide) ?_
              refine fs_weak (ls2 := [.ref 196, .int (bi false), fz_J]) (fz_le_e (fz_le_e (fz_le_j fz_le_n))) ?_
              exact hK2 H
            · replace H := H.2 (bi_1 hc)
              refine fs_iconst (n := 1) (v := 1) dd_X12_qTest_101 (by decide) ?_
              refine fs_goto (tgt := 106) dd_X12_qTest_102 (by decide) ?_
              refine fs_istore_n (k0 := 1) (i := 1) dd_X12_qTest_106 rfl (by decide) ?_
              refine fs_goto (tgt := 2) dd_X12_qTest_107 (by decide) ?_
              refine fs_weak (ls2 := [.ref 196, .int (bi true), fz_J]) (fz_le_e (fz_le_e (fz_le_j fz_le_n))) ?_
              exact hK2 H
        · replace H := H.2 (bi_1 hc)
          refine fs_aload_n (k0 := 0) (i := 0) dd_X12_qTest_58 rfl rfl ?_
          refine fs_bipush (n := 12) (v := 12) dd_X12_qTest_59 (by decide) ?_
          refine fs_aload_n (k0 := 0) (i := 0) dd_X12_qTest_61 rfl rfl ?_
          refine fs_geti (ci := 12) (j := 2) dd_X12_qTest_62 fl_X12_258 ca_196 rfl (Or.inl rfl) ?_
          refine fs_callV (y := m_X12_qOpens) (as := [.int 12, .int (s4.1 196 2)]) dd_X12_qTest_65 me_X12_qOpens lk_X12_626 in_X12_qOpens se_X12_qOpens ca_196 rfl rfl rfl (Nat.le_of_ble_eq_true rfl) (Nat.le_of_ble_eq_true rfl) rfl (V_X12_qOpens (by omega)  H) (k2_V fun s12 H => ?_)
          refine fs_aload_n (k0 := 0) (i := 0) dd_X12_qTest_68 rfl rfl ?_
          refine fs_aload_n (k0 := 0) (i := 0) dd_X12_qTest_69 rfl rfl ?_
          refine fs_getr (ci := 12) (j := 81) (q := 250) dd_X12_qTest_70 fl_X12_180 ca_196 rfl (Or.inr ⟨_, rfl⟩) rfl (by decide) ?_
          refine fs_callV (y := m_X12_asks) (as := [.ref 250]) dd_X12_qTest_73 me_X12_asks lk_X12_323 in_X12_asks se_X12_asks ca_196 rfl rfl rfl (Nat.le_of_ble_eq_true rfl) (Nat.le_of_ble_eq_true rfl) rfl (V_X12_asks (by omega) ca_250 H) (k2_V fun s14 H => ?_)
          refine fs_goto (tgt := 2) dd_X12_qTest_76 (by decide) ?_
          refine fs_weak (ls2 := [.ref 196, .int (bi v1), fz_J]) (fz_le_e (fz_le_e (fz_le_j fz_le_n))) ?_
          exact hK2 H
      · replace H := H.2 hc
        refine fs_aload_n (k0 := 0) (i := 0) dd_X12_qTest_24 rfl rfl ?_
        refine fs_bipush (n := 25) (v := 25) dd_X12_qTest_25 (by decide) ?_
        refine fs_aload_n (k0 := 0) (i := 0) dd_X12_qTest_27 rfl rfl ?_
        refine fs_geti (ci := 12) (j := 2) dd_X12_qTest_28 fl_X12_258 ca_196 rfl (Or.inl rfl) ?_
        refine fs_callV (y := m_X12_qOpens) (as := [.int 25, .int (s2.1 196 2)]) dd_X12_qTest_31 me_X12_qOpens lk_X12_626 in_X12_qOpens se_X12_qOpens ca_196 rfl rfl rfl (Nat.le_of_ble_eq_true rfl) (Nat.le_of_ble_eq_true rfl) rfl (V_X12_qOpens (by omega)  H) (k2_V fun s16 H => ?_)
        refine fs_aload_n (k0 := 0) (i := 0) dd_X12_qTest_34 rfl rfl ?_
        refine fs_dup dd_X12_qTest_35 rfl ?_
        refine fs_geti (ci := 12) (j := 2) dd_X12_qTest_36 fl_X12_258 ca_196 rfl (Or.inl rfl) ?_
        refine fs_iconst (n := 1) (v := 1) dd_X12_qTest_39 (by decide) ?_
        refine fs_iadd dd_X12_qTest_40 ?_
        refine fs_puti (ci := 12) (j := 2) dd_X12_qTest_41 fl_X12_258 (fun _ _ _ h => by cases h; rfl) ca_196 rfl (Or.inl rfl) ?_
        refine fs_tops (fun s17 hs17 => ?_)
        replace H := H s17 hs17
        refine fs_goto (tgt := 2) dd_X12_qTest_44 (by decide) ?_
        refine fs_weak (ls2 := [.ref 196, .int (bi v1), fz_J]) (fz_le_e (fz_le_e (fz_le_j fz_le_n))) ?_
        exact hK2 H
set_option maxRecDepth 100000 in
set_option maxHeartbeats 4000000 in
theorem V_lp_X12_qTest_2 {g : fz_G} {l : Launch} {d : Nat} (hD : 8 ≤ d)    {Q : fz_s → Prop}  (n : Nat) : ∀ {v1 : Bool} {s : fz_s}, lp_X12_qTest_2   Q n v1 s → fs_V g l m_X12_qTest d false 2 [.ref 196, .int (bi v1), fz_J] [] s (rV Q) := by
  induction n with
  | zero => intro v1 s H; exact H.elim
  | succ n ih => intro v1 s H; exact V_nd_X12_qTest_2 hD  (fun H => ih H) H
set_option maxRecDepth 100000 in
set_option maxHeartbeats 4000000 in
theorem V_X12_qTest {g : fz_G} {l : Launch} {d : Nat} (hD : 8 ≤ d)   {s : fz_s} {Q : fz_s → Prop} (H : wp_X12_qTest  s Q) : fs_V g l m_X12_qTest d false 0 (fz_en [.ref 196] 3) [] s (rV Q) := by
  obtain ⟨d, rfl⟩ : ∃ e, d = e + 1 := ⟨d - 1, by omega⟩
  unfold wp_X12_qTest at H
  refine fs_iconst (n := 1) (v := 1) dd_X12_qTest_0 (by decide) ?_
  refine fs_istore_n (k0 := 1) (i := 1) dd_X12_qTest_1 rfl (by decide) ?_
  refine fs_weak (ls2 := [.ref 196, .int (bi true), fz_J]) (fz_le_e (fz_le_e (fz_le_j fz_le_n))) ?_
  exact V_lp_X12_qTest_2 hD    2048 H
theorem dd_X12_codesTold_0 : decode m_X12_codesTold.2.1 0 = .ok (.aload_n 0, 1) := by decide +kernel
theorem dd_X12_codesTold_1 : decode m_X12_codesTold.2.1 1 = .ok (.getfield 252, 3) := by decide +kernel
theorem dd_X12_codesTold_4 : decode m_X12_codesTold.2.1 4 = .ok (.ifCond .ne 19, 3) := by decide +kernel
theorem dd_X12_codesTold_7 : decode m_X12_codesTold.2.1 7 = .ok (.aload_n 0, 1) := by decide +kernel
theorem dd_X12_codesTold_8 : decode m_X12_codesTold.2.1 8 = .ok (.getfield 112, 3) := by decide +kernel
theorem dd_X12_codesTold_11 : decode m_X12_codesTold.2.1 11 = .ok (.iload_n 1, 1) := by decide +kernel
theorem dd_X12_codesTold_12 : decode m_X12_codesTold.2.1 12 = .ok (.iaload, 1) := by decide +kernel
theorem dd_X12_codesTold_13 : decode m_X12_codesTold.2.1 13 = .ok (.iconst (-1), 1) := by decide +kernel
theorem dd_X12_codesTold_14 : decode m_X12_codesTold.2.1 14 = .ok (.if_icmp .eq 9, 3) := by decide +kernel
theorem dd_X12_codesTold_17 : decode m_X12_codesTold.2.1 17 = .ok (.aload_n 0, 1) := by decide +kernel
theorem dd_X12_codesTold_18 : decode m_X12_codesTold.2.1 18 = .ok (.iconst 5, 1) := by decide +kernel
theorem dd_X12_codesTold_19 : decode m_X12_codesTold.2.1 19 = .ok (.iload_n 2, 1) := by decide +kernel
theorem dd_X12_codesTold_20 : decode m_X12_codesTold.2.1 20 = .ok (.invokevirtual 282, 3) := by decide +kernel
theorem dd_X12_codesTold_23 : decode m_X12_codesTold.2.1 23 = .ok (.aload_n 0, 1) := by decide +kernel
theorem dd_X12_codesTold_24 : decode m_X12_codesTold.2.1 24 = .ok (.getfield 252, 3) := by decide +kernel
theorem dd_X12_codesTold_27 : decode m_X12_codesTold.2.1 27 = .ok (.ifCond .eq 4, 3) := by decide +kernel
theorem dd_X12_codesTold_30 : decode m_X12_codesTold.2.1 30 = .ok (.return_, 1) := by decide +kernel
theorem dd_X12_codesTold_31 : decode m_X12_codesTold.2.1 31 = .ok (.aload_n 0, 1) := by decide +kernel
theorem dd_X12_codesTold_32 : decode m_X12_codesTold.2.1 32 = .ok (.iload_n 1, 1) := by decide +kernel
theorem dd_X12_codesTold_33 : decode m_X12_codesTold.2.1 33 = .ok (.iconst 3, 1) := by decide +kernel
theorem dd_X12_codesTold_34 : decode m_X12_codesTold.2.1 34 = .ok (.if_icmp .ne 7, 3) := by decide +kernel
theorem dd_X12_codesTold_37 : decode m_X12_codesTold.2.1 37 = .ok (.iconst 1, 1) := by decide +kernel
theorem dd_X12_codesTold_38 : decode m_X12_codesTold.2.1 38 = .ok (.goto 4, 3) := by decide +kernel
theorem dd_X12_codesTold_41 : decode m_X12_codesTold.2.1 41 = .ok (.iconst 0, 1) := by decide +kernel
theorem dd_X12_codesTold_42 : decode m_X12_codesTold.2.1 42 = .ok (.putfield 310, 3) := by decide +kernel
theorem dd_X12_codesTold_45 : decode m_X12_codesTold.2.1 45 = .ok (.aload_n 0, 1) := by decide +kernel
theorem dd_X12_codesTold_46 : decode m_X12_codesTold.2.1 46 = .ok (.iconst 0, 1) := by decide +kernel
theorem dd_X12_codesTold_47 : decode m_X12_codesTold.2.1 47 = .ok (.putfield 338, 3) := by decide +kernel
theorem dd_X12_codesTold_50 : decode m_X12_codesTold.2.1 50 = .ok (.aload_n 0, 1) := by decide +kernel
theorem dd_X12_codesTold_51 : decode m_X12_codesTold.2.1 51 = .ok (.iconst 0, 1) := by decide +kernel
theorem dd_X12_codesTold_52 : decode m_X12_codesTold.2.1 52 = .ok (.putfield 341, 3) := by decide +kernel
theorem dd_X12_codesTold_55 : decode m_X12_codesTold.2.1 55 = .ok (.aload_n 0, 1) := by decide +kernel
theorem dd_X12_codesTold_56 : decode m_X12_codesTold.2.1 56 = .ok (.iconst 0, 1) := by decide +kernel
theorem dd_X12_codesTold_57 : decode m_X12_codesTold.2.1 57 = .ok (.putfield 344, 3) := by decide +kernel
theorem dd_X12_codesTold_60 : decode m_X12_codesTold.2.1 60 = .ok (.aload_n 0, 1) := by decide +kernel
theorem dd_X12_codesTold_61 : decode m_X12_codesTold.2.1 61 = .ok (.iconst 0, 1) := by decide +kernel
theorem dd_X12_codesTold_62 : decode m_X12_codesTold.2.1 62 = .ok (.putfield 347, 3) := by decide +kernel
theorem dd_X12_codesTold_65 : decode m_X12_codesTold.2.1 65 = .ok (.iload_n 1, 1) := by decide +kernel
theorem dd_X12_codesTold_66 : decode m_X12_codesTold.2.1 66 = .ok (.invokestatic 350, 3) := by decide +kernel
theorem dd_X12_codesTold_69 : decode m_X12_codesTold.2.1 69 = .ok (.ifCond .eq 10, 3) := by decide +kernel
theorem dd_X12_codesTold_72 : decode m_X12_codesTold.2.1 72 = .ok (.aload_n 0, 1) := by decide +kernel
theorem dd_X12_codesTold_73 : decode m_X12_codesTold.2.1 73 = .ok (.invokevirtual 353, 3) := by decide +kernel
theorem dd_X12_codesTold_76 : decode m_X12_codesTold.2.1 76 = .ok (.goto 7, 3) := by decide +kernel
theorem dd_X12_codesTold_79 : decode m_X12_codesTold.2.1 79 = .ok (.aload_n 0, 1) := by decide +kernel
theorem dd_X12_codesTold_80 : decode m_X12_codesTold.2.1 80 = .ok (.invokevirtual 356, 3) := by decide +kernel
theorem dd_X12_codesTold_83 : decode m_X12_codesTold.2.1 83 = .ok (.aload_n 0, 1) := by decide +kernel
theorem dd_X12_codesTold_84 : decode m_X12_codesTold.2.1 84 = .ok (.getfield 252, 3) := by decide +kernel
theorem dd_X12_codesTold_87 : decode m_X12_codesTold.2.1 87 = .ok (.ifCond .eq 4, 3) := by decide +kernel
theorem dd_X12_codesTold_90 : decode m_X12_codesTold.2.1 90 = .ok (.return_, 1) := by decide +kernel
theorem dd_X12_codesTold_91 : decode m_X12_codesTold.2.1 91 = .ok (.aload_n 0, 1) := by decide +kernel
theorem dd_X12_codesTold_92 : decode m_X12_codesTold.2.1 92 = .ok (.getfield 112, 3) := by decide +kernel
theorem dd_X12_codesTold_95 : decode m_X12_codesTold.2.1 95 = .ok (.iload_n 1, 1) := by decide +kernel
theorem dd_X12_codesTold_96 : decode m_X12_codesTold.2.1 96 = .ok (.aload_n 0, 1) := by decide +kernel
theorem dd_X12_codesTold_97 : decode m_X12_codesTold.2.1 97 = .ok (.getfield 359, 3) := by decide +kernel
theorem dd_X12_codesTold_100 : decode m_X12_codesTold.2.1 100 = .ok (.iastore, 1) := by decide +kernel
theorem dd_X12_codesTold_101 : decode m_X12_codesTold.2.1 101 = .ok (.iconst 0, 1) := by decide +kernel
theorem dd_X12_codesTold_102 : decode m_X12_codesTold.2.1 102 = .ok (.istore_n 3, 1) := by decide +kernel
theorem dd_X12_codesTold_103 : decode m_X12_codesTold.2.1 103 = .ok (.iload_n 3, 1) := by decide +kernel
theorem dd_X12_codesTold_104 : decode m_X12_codesTold.2.1 104 = .ok (.aload_n 0, 1) := by decide +kernel
theorem dd_X12_codesTold_105 : decode m_X12_codesTold.2.1 105 = .ok (.getfield 338, 3) := by decide +kernel
theorem dd_X12_codesTold_108 : decode m_X12_codesTold.2.1 108 = .ok (.if_icmp .ge 34, 3) := by decide +kernel
theorem dd_X12_codesTold_111 : decode m_X12_codesTold.2.1 111 = .ok (.aload_n 0, 1) := by decide +kernel
theorem dd_X12_codesTold_112 : decode m_X12_codesTold.2.1 112 = .ok (.getfield 118, 3) := by decide +kernel
theorem dd_X12_codesTold_115 : decode m_X12_codesTold.2.1 115 = .ok (.aload_n 0, 1) := by decide +kernel
theorem dd_X12_codesTold_116 : decode m_X12_codesTold.2.1 116 = .ok (.getfield 359, 3) := by decide +kernel
theorem dd_X12_codesTold_119 : decode m_X12_codesTold.2.1 119 = .ok (.aload_n 0, 1) := by decide +kernel
theorem dd_X12_codesTold_120 : decode m_X12_codesTold.2.1 120 = .ok (.getfield 237, 3) := by decide +kernel
theorem dd_X12_codesTold_123 : decode m_X12_codesTold.2.1 123 = .ok (.iload_n 3, 1) := by decide +kernel
theorem dd_X12_codesTold_124 : decode m_X12_codesTold.2.1 124 = .ok (.iaload, 1) := by decide +kernel
theorem dd_X12_codesTold_125 : decode m_X12_codesTold.2.1 125 = .ok (.iastore, 1) := by decide +kernel
theorem dd_X12_codesTold_126 : decode m_X12_codesTold.2.1 126 = .ok (.aload_n 0, 1) := by decide +kernel
theorem dd_X12_codesTold_127 : decode m_X12_codesTold.2.1 127 = .ok (.dup, 1) := by decide +kernel
theorem dd_X12_codesTold_128 : decode m_X12_codesTold.2.1 128 = .ok (.getfield 359, 3) := by decide +kernel
theorem dd_X12_codesTold_131 : decode m_X12_codesTold.2.1 131 = .ok (.iconst 1, 1) := by decide +kernel
theorem dd_X12_codesTold_132 : decode m_X12_codesTold.2.1 132 = .ok (.iadd, 1) := by decide +kernel
theorem dd_X12_codesTold_133 : decode m_X12_codesTold.2.1 133 = .ok (.putfield 359, 3) := by decide +kernel
theorem dd_X12_codesTold_136 : decode m_X12_codesTold.2.1 136 = .ok (.iinc 3 1, 3) := by decide +kernel
theorem dd_X12_codesTold_139 : decode m_X12_codesTold.2.1 139 = .ok (.goto (-36), 3) := by decide +kernel
theorem dd_X12_codesTold_142 : decode m_X12_codesTold.2.1 142 = .ok (.aload_n 0, 1) := by decide +kernel
theorem dd_X12_codesTold_143 : decode m_X12_codesTold.2.1 143 = .ok (.getfield 115, 3) := by decide +kernel
theorem dd_X12_codesTold_146 : decode m_X12_codesTold.2.1 146 = .ok (.iload_n 1, 1) := by decide +kernel
theorem dd_X12_codesTold_147 : decode m_X12_codesTold.2.1 147 = .ok (.aload_n 0, 1) := by decide +kernel
theorem dd_X12_codesTold_148 : decode m_X12_codesTold.2.1 148 = .ok (.getfield 359, 3) := by decide +kernel
theorem dd_X12_codesTold_151 : decode m_X12_codesTold.2.1 151 = .ok (.iastore, 1) := by decide +kernel
theorem dd_X12_codesTold_152 : decode m_X12_codesTold.2.1 152 = .ok (.return_, 1) := by decide +kernel
def nd_X12_codesTold_103  (K103 : Int32 → Int32 → fz_s → Prop) (Q : fz_s → Prop) (v1 : Int32) (v3 : Int32) (s : fz_s) : Prop :=
  (((s.1 196 101) ≤ v3 → vp_in v1 10 ∧ ∀ s1 : fz_s, s1 = si s 230 v1.toNatClampNeg (s.1 196 50) → Q s1) ∧ (¬ (s.1 196 101) ≤ v3 → vp_in v3 1700 ∧ vp_in (s.1 196 50) 3200 ∧ ∀ s2 : fz_s, s2 = si s 231 (s.1 196 50).toNatClampNeg (s.1 269 v3.toNatClampNeg) → ∀ s3 : fz_s, s3 = si s2 196 50 ((s2.1 196 50) + 1) → ∀ x4 : Int32, x4 = v3 + 1 → K103 v1 x4 s3))
def lp_X12_codesTold_103   (Q : fz_s → Prop) : Nat → Int32 → Int32 → fz_s → Prop
  | 0 => fun _ _ _ => False
  | n + 1 => nd_X12_codesTold_103  (lp_X12_codesTold_103   Q n) Q
def nd_X12_codesTold_83   (Q : fz_s → Prop) (v1 : Int32) (s : fz_s) : Prop :=
  (((s.1 196 5) = 0 → vp_in v1 10 ∧ ∀ s1 : fz_s, s1 = si s 229 v1.toNatClampNeg (s.1 196 50) → lp_X12_codesTold_103   Q 2048 v1 0 s1) ∧ (¬ (s.1 196 5) = 0 → Q s))
def nd_X12_codesTold_42   (Q : fz_s → Prop) (v1 : Int32) (u0 : Bool) (s : fz_s) : Prop :=
  ∀ s1 : fz_s, s1 = si s 196 53 (bi u0) → ∀ s2 : fz_s, s2 = si s1 196 101 0 → ∀ s3 : fz_s, s3 = si s2 196 103 0 → ∀ s4 : fz_s, s4 = si s3 196 104 0 → ∀ s5 : fz_s, s5 = si s4 196 105 0 → wp_X12_isTest v1 s5 (fun r6 s7 => ((r6 = false → wp_X12_qSums  s7 (fun s9 => nd_X12_codesTold_83   Q v1 s9)) ∧ (r6 = true → wp_X12_qTest  s7 (fun s11 => nd_X12_codesTold_83   Q v1 s11))))
def nd_X12_codesTold_23   (Q : fz_s → Prop) (v1 : Int32) (s : fz_s) : Prop :=
  (((s.1 196 5) = 0 → ((¬ v1 = 3 → nd_X12_codesTold_42   Q v1 false s) ∧ (v1 = 3 → nd_X12_codesTold_42   Q v1 true s))) ∧ (¬ (s.1 196 5) = 0 → Q s))
def wp_X12_codesTold (p0 : Int32) (p1 : Int32) (s : fz_s) (Q : fz_s → Prop) : Prop :=
  ((¬ (s.1 196 5) = 0 → nd_X12_codesTold_23   Q p0 s) ∧ ((s.1 196 5) = 0 → vp_in p0 10 ∧ (((s.1 229 p0.toNatClampNeg) = (-1) → nd_X12_codesTold_23   Q p0 s) ∧ (¬ (s.1 229 p0.toNatClampNeg) = (-1) → wp_X12_fail 5 p1 s (fun s2 => nd_X12_codesTold_23   Q p0 s2)))))
set_option maxRecDepth 100000 in
set_option maxHeartbeats 4000000 in
theorem V_nd_X12_codesTold_103 {g : fz_G} {l : Launch} {d : Nat} (hD : 9 ≤ d)   {K103 : Int32 → Int32 → fz_s → Prop} {Q : fz_s → Prop} {v1 : Int32} {v3 : Int32} {s : fz_s} (hK103 : ∀ {v1 : Int32} {v3 : Int32} {s : fz_s}, K103 v1 v3 s → fs_V g l m_X12_codesTold d false 103 [.ref 196, .int v1, fz_J, .int v3] [] s (rV Q)) (H : nd_X12_codesTold_103  K103 Q v1 v3 s) : fs_V g l m_X12_codesTold d false 103 [.ref 196, .int v1, fz_J, .int v3] [] s (rV Q) := by
  obtain ⟨d, rfl⟩ : ∃ e, d = e + 1 := ⟨d - 1, by omega⟩
  unfold nd_X12_codesTold_103 at H
  refine fs_iload_n (k0 := 3) (i := 3) dd_X12_codesTold_103 rfl rfl ?_
  refine fs_aload_n (k0 := 0) (i := 0) dd_X12_codesTold_104 rfl rfl ?_
  refine fs_geti (ci := 12) (j := 101) dd_X12_codesTold_105 fl_X12_338 ca_196 rfl (Or.inl rfl) ?_
  refine fs_icmp_ge (tgt := 142) dd_X12_codesTold_108 (by decide) (fun hc => ?_) (fun hc => ?_)
  · replace H := H.1 hc
    refine fs_aload_n (k0 := 0) (i := 0) dd_X12_codesTold_142 rfl rfl ?_
    refine fs_getr (ci := 12) (j := 48) (q := 230) dd_X12_codesTold_143 fl_X12_115 ca_196 rfl (Or.inr ⟨_, rfl⟩) rfl (by decide) ?_
    refine fs_iload_n (k0 := 1) (i := 1) dd_X12_codesTold_146 rfl rfl ?_
    refine fs_aload_n (k0 := 0) (i := 0) dd_X12_codesTold_147 rfl rfl ?_
    refine fs_geti (ci := 12) (j := 50) dd_X12_codesTold_148 fl_X12_359 ca_196 rfl (Or.inl rfl) ?_
    have hb := H.1
    replace H := H.2
    refine fs_iast dd_X12_codesTold_151 ca_230 hb ?_
    refine fs_tops (fun s1 hs1 => ?_)
    replace H := H s1 hs1
    exact fs_vret dd_X12_codesTold_152 rfl H
  · replace H := H.2 hc
    refine fs_aload_n (k0 := 0) (i := 0) dd_X12_codesTold_111 rfl rfl ?_
    refine fs_getr (ci := 12) (j := 49) (q := 231) dd_X12_codesTold_112 fl_X12_118 ca_196 rfl (Or.inr ⟨_, rfl⟩) rfl (by decide) ?_
    refine fs_aload_n (k0 := 0) (i := 0) dd_X12_codesTold_115 rfl rfl ?_
    refine fs_geti (ci := 12) (j := 50) dd_X12_codesTold_116 fl_X12_359 ca_196 rfl (Or.inl rfl) ?_
    refine fs_aload_n (k0 := 0) (i := 0) dd_X12_codesTold_119 rfl rfl ?_
    refine fs_getr (ci := 12) (j := 100) (q := 269) dd_X12_codesTold_120 fl_X12_237 ca_196 rfl (Or.inr ⟨_, rfl⟩) rfl (by decide) ?_
    refine fs_iload_n (k0 := 3) (i := 3) dd_X12_codesTold_123 rfl rfl ?_
    have hb := H.1
    replace H := H.2
    refine fs_iald dd_X12_codesTold_124 ca_269 hb ?_
    have hb := H.1
    replace H := H.2
    refine fs_iast dd_X12_codesTold_125 ca_231 hb ?_
    refine fs_tops (fun s2 hs2 => ?_)
    replace H := H s2 hs2
    refine fs_aload_n (k0 := 0) (i := 0) dd_X12_codesTold_126 rfl rfl ?_
    refine fs_dup dd_X12_codesTold_127 rfl ?_
    refine fs_geti (ci := 12) (j := 50) dd_X12_codesTold_128 fl_X12_359 ca_196 rfl (Or.inl rfl) ?_
    refine fs_iconst (n := 1) (v := 1) dd_X12_codesTold_131 (by decide) ?_
    refine fs_iadd dd_X12_codesTold_132 ?_
    refine fs_puti (ci := 12) (j := 50) dd_X12_codesTold_133 fl_X12_359 (fun _ _ _ h => by cases h; rfl) ca_196 rfl (Or.inl rfl) ?_
    refine fs_tops (fun s3 hs3 => ?_)
    replace H := H s3 hs3
    refine fs_iincN (i := 3) (m := 1) (c := 1) dd_X12_codesTold_136 rfl (by decide) (by decide) (fun x4 hx4 => ?_)
    replace H := H x4 hx4
    refine fs_goto (tgt := 103) dd_X12_codesTold_139 (by decide) ?_
    refine fs_weak (ls2 := [.ref 196, .int v1, fz_J, .int x4]) (fz_le_e (fz_le_e (fz_le_j (fz_le_e fz_le_n)))) ?_
    exact hK103 H
set_option maxRecDepth 100000 in
set_option maxHeartbeats 4000000 in
theorem V_lp_X12_codesTold_103 {g : fz_G} {l : Launch} {d : Nat} (hD : 9 ≤ d)    {Q : fz_s → Prop}  (n : Nat) : ∀ {v1 : Int32} {v3 : Int32} {s : fz_s}, lp_X12_codesTold_103   Q n v1 v3 s → fs_V g l m_X12_codesTold d false 103 [.ref 196, .int v1, fz_J, .int v3] [] s (rV Q) := by
  induction n with
  | zero => intro v1 v3 s H; exact H.elim
  | succ n ih => intro v1 v3 s H; exact V_nd_X12_codesTold_103 hD  (fun H => ih H) H
set_option maxRecDepth 100000 in
set_option maxHeartbeats 4000000 in
theorem V_nd_X12_codesTold_83 {g : fz_G} {l : Launch} {d : Nat} (hD : 9 ≤ d)    {Q : fz_s → Prop} {v1 : Int32} {s : fz_s}  (H : nd_X12_codesTold_83   Q v1 s) : fs_V g l m_X12_codesTold d false 83 [.ref 196, .int v1, fz_J, fz_J] [] s (rV Q) := by
  obtain ⟨d, rfl⟩ : ∃ e, d = e + 1 := ⟨d - 1, by omega⟩
  unfold nd_X12_codesTold_83 at H
  refine fs_aload_n (k0 := 0) (i := 0) dd_X12_codesTold_83 rfl rfl ?_
  refine fs_geti (ci := 12) (j := 5) dd_X12_codesTold_84 fl_X12_252 ca_196 rfl (Or.inl rfl) ?_
  refine fs_if_eq (tgt := 91) dd_X12_codesTold_87 (by decide) (fun hc => ?_) (fun hc => ?_)
  · replace H := H.1 hc
    refine fs_aload_n (k0 := 0) (i := 0) dd_X12_codesTold_91 rfl rfl ?_
    refine fs_getr (ci := 12) (j := 47) (q := 229) dd_X12_codesTold_92 fl_X12_112 ca_196 rfl (Or.inr ⟨_, rfl⟩) rfl (by decide) ?_
    refine fs_iload_n (k0 := 1) (i := 1) dd_X12_codesTold_95 rfl rfl ?_
    refine fs_aload_n (k0 := 0) (i := 0) dd_X12_codesTold_96 rfl rfl ?_
    refine fs_geti (ci := 12) (j := 50) dd_X12_codesTold_97 fl_X12_359 ca_196 rfl (Or.inl rfl) ?_
    have hb := H.1
    replace H := H.2
    refine fs_iast dd_X12_codesTold_100 ca_229 hb ?_
    refine fs_tops (fun s1 hs1 => ?_)
    replace H := H s1 hs1
    refine fs_iconst (n := 0) (v := 0) dd_X12_codesTold_101 (by decide) ?_
    refine fs_istore_n (k0 := 3) (i := 3) dd_X12_codesTold_102 rfl (by decide) ?_
    refine fs_weak (ls2 := [.ref 196, .int v1, fz_J, .int 0]) (fz_le_e (fz_le_e (fz_le_j (fz_le_e fz_le_n)))) ?_
    exact V_lp_X12_codesTold_103 hD    2048 H
  · replace H := H.2 hc
    exact fs_vret dd_X12_codesTold_90 rfl H
set_option maxRecDepth 100000 in
set_option maxHeartbeats 4000000 in
theorem V_nd_X12_codesTold_42 {g : fz_G} {l : Launch} {d : Nat} (hD : 9 ≤ d)    {Q : fz_s → Prop} {v1 : Int32} {u0 : Bool} {s : fz_s}  (H : nd_X12_codesTold_42   Q v1 u0 s) : fs_V g l m_X12_codesTold d false 42 [.ref 196, .int v1, fz_J, fz_J] [.int (bi u0), .ref 196] s (rV Q) := by
  obtain ⟨d, rfl⟩ : ∃ e, d = e + 1 := ⟨d - 1, by omega⟩
  unfold nd_X12_codesTold_42 at H
  refine fs_puti (ci := 12) (j := 53) dd_X12_codesTold_42 fl_X12_310 (fun _ _ _ h => by cases h; rfl) ca_196 rfl (Or.inl rfl) ?_
  refine fs_tops (fun s1 hs1 => ?_)
  replace H := H s1 hs1
  refine fs_aload_n (k0 := 0) (i := 0) dd_X12_codesTold_45 rfl rfl ?_
  refine fs_iconst (n := 0) (v := 0) dd_X12_codesTold_46 (by decide) ?_
  refine fs_puti (ci := 12) (j := 101) dd_X12_codesTold_47 fl_X12_338 (fun _ _ _ h => by cases h; rfl) ca_196 rfl (Or.inl rfl) ?_
  refine fs_tops (fun s2 hs2 => ?_)
  replace H := H s2 hs2
  refine fs_aload_n (k0 := 0) (i := 0) dd_X12_codesTold_50 rfl rfl ?_
  refine fs_iconst (n := 0) (v := 0) dd_X12_codesTold_51 (by decide) ?_
  refine fs_puti (ci := 12) (j := 103) dd_X12_codesTold_52 fl_X12_341 (fun _ _ _ h => by cases h; rfl) ca_196 rfl (Or.inl rfl) ?_
  refine fs_tops (fun s3 hs3 => ?_)
  replace H := H s3 hs3
  refine fs_aload_n (k0 := 0) (i := 0) dd_X12_codesTold_55 rfl rfl ?_
  refine fs_iconst (n := 0) (v := 0) dd_X12_codesTold_56 (by decide) ?_
  refine fs_puti (ci := 12) (j := 104) dd_X12_codesTold_57 fl_X12_344 (fun _ _ _ h => by cases h; rfl) ca_196 rfl (Or.inl rfl) ?_
  refine fs_tops (fun s4 hs4 => ?_)
  replace H := H s4 hs4
  refine fs_aload_n (k0 := 0) (i := 0) dd_X12_codesTold_60 rfl rfl ?_
  refine fs_iconst (n := 0) (v := 0) dd_X12_codesTold_61 (by decide) ?_
  refine fs_puti (ci := 12) (j := 105) dd_X12_codesTold_62 fl_X12_347 (fun _ _ _ h => by cases h; rfl) ca_196 rfl (Or.inl rfl) ?_
  refine fs_tops (fun s5 hs5 => ?_)
  replace H := H s5 hs5
  refine fs_iload_n (k0 := 1) (i := 1) dd_X12_codesTold_65 rfl rfl ?_
  refine fs_callS (y := m_X12_isTest) (as := [.int v1]) dd_X12_codesTold_66 me_X12_isTest (Or.inl lk_X12_350) st_X12_isTest rfl (Nat.le_of_ble_eq_true rfl) (Nat.le_of_ble_eq_true rfl) rfl (V_X12_isTest (by omega)  H) (k2_Z fun r6 s7 H => ?_)
  refine fs_if_eq (tgt := 79) dd_X12_codesTold_69 (by decide) (fun hc => ?_) (fun hc => ?_)
  · replace H := H.1 (bi_0 hc)
    refine fs_aload_n (k0 := 0) (i := 0) dd_X12_codesTold_79 rfl rfl ?_
    refine fs_callV (y := m_X12_qSums) (as := []) dd_X12_codesTold_80 me_X12_qSums lk_X12_356 in_X12_qSums se_X12_qSums ca_196 rfl rfl rfl (Nat.le_of_ble_eq_true rfl) (Nat.le_of_ble_eq_true rfl) rfl (V_X12_qSums (by omega)  H) (k2_V fun s9 H => ?_)
    refine fs_weak (ls2 := [.ref 196, .int v1, fz_J, fz_J]) (fz_le_e (fz_le_e (fz_le_j (fz_le_j fz_le_n)))) ?_
    exact V_nd_X12_codesTold_83 hD    H
  · replace H := H.2 (bi_1 hc)
    refine fs_aload_n (k0 := 0) (i := 0) dd_X12_codesTold_72 rfl rfl ?_
    refine fs_callV (y := m_X12_qTest) (as := []) dd_X12_codesTold_73 me_X12_qTest lk_X12_353 in_X12_qTest se_X12_qTest ca_196 rfl rfl rfl (Nat.le_of_ble_eq_true rfl) (Nat.le_of_ble_eq_true rfl) rfl (V_X12_qTest (by omega)  H) (k2_V fun s11 H => ?_)
    refine fs_goto (tgt := 83) dd_X12_codesTold_76 (by decide) ?_
    refine fs_weak (ls2 := [.ref 196, .int v1, fz_J, fz_J]) (fz_le_e (fz_le_e (fz_le_j (fz_le_j fz_le_n)))) ?_
    exact V_nd_X12_codesTold_83 hD    H
set_option maxRecDepth 100000 in
set_option maxHeartbeats 4000000 in
theorem V_nd_X12_codesTold_23 {g : fz_G} {l : Launch} {d : Nat} (hD : 9 ≤ d)    {Q : fz_s → Prop} {v1 : Int32} {s : fz_s}  (H : nd_X12_codesTold_23   Q v1 s) : fs_V g l m_X12_codesTold d false 23 [.ref 196, .int v1, fz_J, fz_J] [] s (rV Q) := by
  obtain ⟨d, rfl⟩ : ∃ e, d = e + 1 := ⟨d - 1, by omega⟩
  unfold nd_X12_codesTold_23 at H
  refine fs_aload_n (k0 := 0) (i := 0) dd_X12_codesTold_23 rfl rfl ?_
  refine fs_geti (ci := 12) (j := 5) dd_X12_codesTold_24 fl_X12_252 ca_196 rfl (Or.inl rfl) ?_
  refine fs_if_eq (tgt := 31) dd_X12_codesTold_27 (by decide) (fun hc => ?_) (fun hc => ?_)
  · replace H := H.1 hc
    refine fs_aload_n (k0 := 0) (i := 0) dd_X12_codesTold_31 rfl rfl ?_
    refine fs_iload_n (k0 := 1) (i := 1) dd_X12_codesTold_32 rfl rfl ?_
    refine fs_iconst (n := 3) (v := 3) dd_X12_codesTold_33 (by decide) ?_
    refine fs_icmp_ne (tgt := 41) dd_X12_codesTold_34 (by decide) (fun hc => ?_) (fun hc => ?_)
    · replace H := H.1 hc
      refine fs_iconst (n := 0) (v := 0) dd_X12_codesTold_41 (by decide) ?_
      refine fs_weak (ls2 := [.ref 196, .int v1, fz_J, fz_J]) (fz_le_e (fz_le_e (fz_le_j (fz_le_j fz_le_n)))) ?_
      exact V_nd_X12_codesTold_42 hD    H
    · replace H := H.2 hc
      refine fs_iconst (n := 1) (v := 1) dd_X12_codesTold_37 (by decide) ?_
      refine fs_goto (tgt := 42) dd_X12_codesTold_38 (by decide) ?_
      refine fs_weak (ls2 := [.ref 196, .int v1, fz_J, fz_J]) (fz_le_e (fz_le_e (fz_le_j (fz_le_j fz_le_n)))) ?_
      exact V_nd_X12_codesTold_42 hD    H
  · replace H := H.2 hc
    exact fs_vret dd_X12_codesTold_30 rfl H
set_option maxRecDepth 100000 in
set_option maxHeartbeats 4000000 in
theorem V_X12_codesTold {g : fz_G} {l : Launch} {d : Nat} (hD : 9 ≤ d) {p0 : Int32} {p1 : Int32}  {s : fz_s} {Q : fz_s → Prop} (H : wp_X12_codesTold p0 p1 s Q) : fs_V g l m_X12_codesTold d false 0 (fz_en [.ref 196, .int p0, .int p1] 4) [] s (rV Q) := by
  obtain ⟨d, rfl⟩ : ∃ e, d = e + 1 := ⟨d - 1, by omega⟩
  unfold wp_X12_codesTold at H
  refine fs_aload_n (k0 := 0) (i := 0) dd_X12_codesTold_0 rfl rfl ?_
  refine fs_geti (ci := 12) (j := 5) dd_X12_codesTold_1 fl_X12_252 ca_196 rfl (Or.inl rfl) ?_
  refine fs_if_ne (tgt := 23) dd_X12_codesTold_4 (by decide) (fun hc => ?_) (fun hc => ?_)
  · replace H := H.1 hc
    refine fs_weak (ls2 := [.ref 196, .int p0, fz_J, fz_J]) (fz_le_e (fz_le_e (fz_le_j (fz_le_j fz_le_n)))) ?_
    exact V_nd_X12_codesTold_23 hD    H
  · replace H := H.2 hc
    refine fs_aload_n (k0 := 0) (i := 0) dd_X12_codesTold_7 rfl rfl ?_
    refine fs_getr (ci := 12) (j := 47) (q := 229) dd_X12_codesTold_8 fl_X12_112 ca_196 rfl (Or.inr ⟨_, rfl⟩) rfl (by decide) ?_
    refine fs_iload_n (k0 := 1) (i := 1) dd_X12_codesTold_11 rfl rfl ?_
    have hb := H.1
    replace H := H.2
    refine fs_iald dd_X12_codesTold_12 ca_229 hb ?_
    refine fs_iconst (n := -1) (v := -1) dd_X12_codesTold_13 (by decide) ?_
    refine fs_icmp_eq (tgt := 23) dd_X12_codesTold_14 (by decide) (fun hc => ?_) (fun hc => ?_)
    · replace H := H.1 hc
      refine fs_weak (ls2 := [.ref 196, .int p0, fz_J, fz_J]) (fz_le_e (fz_le_e (fz_le_j (fz_le_j fz_le_n)))) ?_
      exact V_nd_X12_codesTold_23 hD    H
    · replace H := H.2 hc
      refine fs_aload_n (k0 := 0) (i := 0) dd_X12_codesTold_17 rfl rfl ?_
      refine fs_iconst (n := 5) (v := 5) dd_X12_codesTold_18 (by decide) ?_
      refine fs_iload_n (k0 := 2) (i := 2) dd_X12_codesTold_19 rfl rfl ?_
      refine fs_callV (y := m_X12_fail) (as := [.int 5, .int p1]) dd_X12_codesTold_20 me_X12_fail lk_X12_282 in_X12_fail se_X12_fail ca_196 rfl rfl rfl (Nat.le_of_ble_eq_true rfl) (Nat.le_of_ble_eq_true rfl) rfl (V_X12_fail (by omega)  H) (k2_V fun s2 H => ?_)
      refine fs_weak (ls2 := [.ref 196, .int p0, fz_J, fz_J]) (fz_le_e (fz_le_e (fz_le_j (fz_le_j fz_le_n)))) ?_
      exact V_nd_X12_codesTold_23 hD    H
theorem dd_X12_statementTold_0 : decode m_X12_statementTold.2.1 0 = .ok (.aload_n 0, 1) := by decide +kernel
theorem dd_X12_statementTold_1 : decode m_X12_statementTold.2.1 1 = .ok (.getfield 258, 3) := by decide +kernel
theorem dd_X12_statementTold_4 : decode m_X12_statementTold.2.1 4 = .ok (.istore_n 1, 1) := by decide +kernel
theorem dd_X12_statementTold_5 : decode m_X12_statementTold.2.1 5 = .ok (.aload_n 0, 1) := by decide +kernel
theorem dd_X12_statementTold_6 : decode m_X12_statementTold.2.1 6 = .ok (.getfield 362, 3) := by decide +kernel
theorem dd_X12_statementTold_9 : decode m_X12_statementTold.2.1 9 = .ok (.bipush 80, 2) := by decide +kernel
theorem dd_X12_statementTold_11 : decode m_X12_statementTold.2.1 11 = .ok (.if_icmp .ne 10, 3) := by decide +kernel
theorem dd_X12_statementTold_14 : decode m_X12_statementTold.2.1 14 = .ok (.aload_n 0, 1) := by decide +kernel
theorem dd_X12_statementTold_15 : decode m_X12_statementTold.2.1 15 = .ok (.iconst 5, 1) := by decide +kernel
theorem dd_X12_statementTold_16 : decode m_X12_statementTold.2.1 16 = .ok (.iload_n 1, 1) := by decide +kernel
theorem dd_X12_statementTold_17 : decode m_X12_statementTold.2.1 17 = .ok (.invokevirtual 282, 3) := by decide +kernel
theorem dd_X12_statementTold_20 : decode m_X12_statementTold.2.1 20 = .ok (.return_, 1) := by decide +kernel
theorem dd_X12_statementTold_21 : decode m_X12_statementTold.2.1 21 = .ok (.aload_n 0, 1) := by decide +kernel
theorem dd_X12_statementTold_22 : decode m_X12_statementTold.2.1 22 = .ok (.aload_n 0, 1) := by decide +kernel
theorem dd_X12_statementTold_23 : decode m_X12_statementTold.2.1 23 = .ok (.getfield 30, 3) := by decide +kernel
theorem dd_X12_statementTold_26 : decode m_X12_statementTold.2.1 26 = .ok (.invokevirtual 279, 3) := by decide +kernel
theorem dd_X12_statementTold_29 : decode m_X12_statementTold.2.1 29 = .ok (.ifCond .eq 11, 3) := by decide +kernel
theorem dd_X12_statementTold_32 : decode m_X12_statementTold.2.1 32 = .ok (.aload_n 0, 1) := by decide +kernel
theorem dd_X12_statementTold_33 : decode m_X12_statementTold.2.1 33 = .ok (.iload_n 1, 1) := by decide +kernel
theorem dd_X12_statementTold_34 : decode m_X12_statementTold.2.1 34 = .ok (.invokevirtual 365, 3) := by decide +kernel
theorem dd_X12_statementTold_37 : decode m_X12_statementTold.2.1 37 = .ok (.goto 122, 3) := by decide +kernel
theorem dd_X12_statementTold_40 : decode m_X12_statementTold.2.1 40 = .ok (.aload_n 0, 1) := by decide +kernel
theorem dd_X12_statementTold_41 : decode m_X12_statementTold.2.1 41 = .ok (.aload_n 0, 1) := by decide +kernel
theorem dd_X12_statementTold_42 : decode m_X12_statementTold.2.1 42 = .ok (.getfield 45, 3) := by decide +kernel
theorem dd_X12_statementTold_45 : decode m_X12_statementTold.2.1 45 = .ok (.invokevirtual 279, 3) := by decide +kernel
theorem dd_X12_statementTold_48 : decode m_X12_statementTold.2.1 48 = .ok (.ifCond .eq 12, 3) := by decide +kernel
theorem dd_X12_statementTold_51 : decode m_X12_statementTold.2.1 51 = .ok (.aload_n 0, 1) := by decide +kernel
theorem dd_X12_statementTold_52 : decode m_X12_statementTold.2.1 52 = .ok (.iconst 0, 1) := by decide +kernel
theorem dd_X12_statementTold_53 : decode m_X12_statementTold.2.1 53 = .ok (.iload_n 1, 1) := by decide +kernel
theorem dd_X12_statementTold_54 : decode m_X12_statementTold.2.1 54 = .ok (.invokevirtual 368, 3) := by decide +kernel
theorem dd_X12_statementTold_57 : decode m_X12_statementTold.2.1 57 = .ok (.goto 102, 3) := by decide +kernel
theorem dd_X12_statementTold_60 : decode m_X12_statementTold.2.1 60 = .ok (.aload_n 0, 1) := by decide +kernel
theorem dd_X12_statementTold_61 : decode m_X12_statementTold.2.1 61 = .ok (.aload_n 0, 1) := by decide +kernel
theorem dd_X12_statementTold_62 : decode m_X12_statementTold.2.1 62 = .ok (.getfield 48, 3) := by decide +kernel
theorem dd_X12_statementTold_65 : decode m_X12_statementTold.2.1 65 = .ok (.invokevirtual 279, 3) := by decide +kernel
theorem dd_X12_statementTold_68 : decode m_X12_statementTold.2.1 68 = .ok (.ifCond .eq 12, 3) := by decide +kernel
theorem dd_X12_statementTold_71 : decode m_X12_statementTold.2.1 71 = .ok (.aload_n 0, 1) := by decide +kernel
theorem dd_X12_statementTold_72 : decode m_X12_statementTold.2.1 72 = .ok (.iconst 1, 1) := by decide +kernel
theorem dd_X12_statementTold_73 : decode m_X12_statementTold.2.1 73 = .ok (.iload_n 1, 1) := by decide +kernel
theorem dd_X12_statementTold_74 : decode m_X12_statementTold.2.1 74 = .ok (.invokevirtual 368, 3) := by decide +kernel
theorem dd_X12_statementTold_77 : decode m_X12_statementTold.2.1 77 = .ok (.goto 82, 3) := by decide +kernel
theorem dd_X12_statementTold_80 : decode m_X12_statementTold.2.1 80 = .ok (.aload_n 0, 1) := by decide +kernel
theorem dd_X12_statementTold_81 : decode m_X12_statementTold.2.1 81 = .ok (.aload_n 0, 1) := by decide +kernel
theorem dd_X12_statementTold_82 : decode m_X12_statementTold.2.1 82 = .ok (.getfield 51, 3) := by decide +kernel
theorem dd_X12_statementTold_85 : decode m_X12_statementTold.2.1 85 = .ok (.invokevirtual 279, 3) := by decide +kernel
theorem dd_X12_statementTold_88 : decode m_X12_statementTold.2.1 88 = .ok (.ifCond .eq 12, 3) := by decide +kernel
theorem dd_X12_statementTold_91 : decode m_X12_statementTold.2.1 91 = .ok (.aload_n 0, 1) := by decide +kernel
theorem dd_X12_statementTold_92 : decode m_X12_statementTold.2.1 92 = .ok (.iconst 2, 1) := by decide +kernel
theorem dd_X12_statementTold_93 : decode m_X12_statementTold.2.1 93 = .ok (.iload_n 1, 1) := by decide +kernel
theorem dd_X12_statementTold_94 : decode m_X12_statementTold.2.1 94 = .ok (.invokevirtual 368, 3) := by decide +kernel
theorem dd_X12_statementTold_97 : decode m_X12_statementTold.2.1 97 = .ok (.goto 62, 3) := by decide +kernel
theorem dd_X12_statementTold_100 : decode m_X12_statementTold.2.1 100 = .ok (.aload_n 0, 1) := by decide +kernel
theorem dd_X12_statementTold_101 : decode m_X12_statementTold.2.1 101 = .ok (.aload_n 0, 1) := by decide +kernel
theorem dd_X12_statementTold_102 : decode m_X12_statementTold.2.1 102 = .ok (.getfield 54, 3) := by decide +kernel
theorem dd_X12_statementTold_105 : decode m_X12_statementTold.2.1 105 = .ok (.invokevirtual 279, 3) := by decide +kernel
theorem dd_X12_statementTold_108 : decode m_X12_statementTold.2.1 108 = .ok (.ifCond .eq 12, 3) := by decide +kernel
theorem dd_X12_statementTold_111 : decode m_X12_statementTold.2.1 111 = .ok (.aload_n 0, 1) := by decide +kernel
theorem dd_X12_statementTold_112 : decode m_X12_statementTold.2.1 112 = .ok (.iconst 3, 1) := by decide +kernel
theorem dd_X12_statementTold_113 : decode m_X12_statementTold.2.1 113 = .ok (.iload_n 1, 1) := by decide +kernel
theorem dd_X12_statementTold_114 : decode m_X12_statementTold.2.1 114 = .ok (.invokevirtual 368, 3) := by decide +kernel
theorem dd_X12_statementTold_117 : decode m_X12_statementTold.2.1 117 = .ok (.goto 42, 3) := by decide +kernel
theorem dd_X12_statementTold_120 : decode m_X12_statementTold.2.1 120 = .ok (.aload_n 0, 1) := by decide +kernel
theorem dd_X12_statementTold_121 : decode m_X12_statementTold.2.1 121 = .ok (.aload_n 0, 1) := by decide +kernel
theorem dd_X12_statementTold_122 : decode m_X12_statementTold.2.1 122 = .ok (.getfield 57, 3) := by decide +kernel
theorem dd_X12_statementTold_125 : decode m_X12_statementTold.2.1 125 = .ok (.invokevirtual 279, 3) := by decide +kernel
theorem dd_X12_statementTold_128 : decode m_X12_statementTold.2.1 128 = .ok (.ifCond .eq 12, 3) := by decide +kernel
theorem dd_X12_statementTold_131 : decode m_X12_statementTold.2.1 131 = .ok (.aload_n 0, 1) := by decide +kernel
theorem dd_X12_statementTold_132 : decode m_X12_statementTold.2.1 132 = .ok (.iconst 4, 1) := by decide +kernel
theorem dd_X12_statementTold_133 : decode m_X12_statementTold.2.1 133 = .ok (.iload_n 1, 1) := by decide +kernel
theorem dd_X12_statementTold_134 : decode m_X12_statementTold.2.1 134 = .ok (.invokevirtual 368, 3) := by decide +kernel
theorem dd_X12_statementTold_137 : decode m_X12_statementTold.2.1 137 = .ok (.goto 22, 3) := by decide +kernel
theorem dd_X12_statementTold_140 : decode m_X12_statementTold.2.1 140 = .ok (.aload_n 0, 1) := by decide +kernel
theorem dd_X12_statementTold_141 : decode m_X12_statementTold.2.1 141 = .ok (.aload_n 0, 1) := by decide +kernel
theorem dd_X12_statementTold_142 : decode m_X12_statementTold.2.1 142 = .ok (.getfield 60, 3) := by decide +kernel
theorem dd_X12_statementTold_145 : decode m_X12_statementTold.2.1 145 = .ok (.invokevirtual 323, 3) := by decide +kernel
theorem dd_X12_statementTold_148 : decode m_X12_statementTold.2.1 148 = .ok (.aload_n 0, 1) := by decide +kernel
theorem dd_X12_statementTold_149 : decode m_X12_statementTold.2.1 149 = .ok (.aload_n 0, 1) := by decide +kernel
theorem dd_X12_statementTold_150 : decode m_X12_statementTold.2.1 150 = .ok (.iconst 0, 1) := by decide +kernel
theorem dd_X12_statementTold_151 : decode m_X12_statementTold.2.1 151 = .ok (.bipush 100, 2) := by decide +kernel
theorem dd_X12_statementTold_153 : decode m_X12_statementTold.2.1 153 = .ok (.invokevirtual 330, 3) := by decide +kernel
theorem dd_X12_statementTold_156 : decode m_X12_statementTold.2.1 156 = .ok (.putfield 371, 3) := by decide +kernel
theorem dd_X12_statementTold_159 : decode m_X12_statementTold.2.1 159 = .ok (.aload_n 0, 1) := by decide +kernel
theorem dd_X12_statementTold_160 : decode m_X12_statementTold.2.1 160 = .ok (.bipush 59, 2) := by decide +kernel
theorem dd_X12_statementTold_162 : decode m_X12_statementTold.2.1 162 = .ok (.invokevirtual 334, 3) := by decide +kernel
theorem dd_X12_statementTold_165 : decode m_X12_statementTold.2.1 165 = .ok (.aload_n 0, 1) := by decide +kernel
theorem dd_X12_statementTold_166 : decode m_X12_statementTold.2.1 166 = .ok (.dup, 1) := by decide +kernel
theorem dd_X12_statementTold_167 : decode m_X12_statementTold.2.1 167 = .ok (.getfield 362, 3) := by decide +kernel
theorem dd_X12_statementTold_170 : decode m_X12_statementTold.2.1 170 = .ok (.iconst 1, 1) := by decide +kernel
theorem dd_X12_statementTold_171 : decode m_X12_statementTold.2.1 171 = .ok (.iadd, 1) := by decide +kernel
theorem dd_X12_statementTold_172 : decode m_X12_statementTold.2.1 172 = .ok (.putfield 362, 3) := by decide +kernel
theorem dd_X12_statementTold_175 : decode m_X12_statementTold.2.1 175 = .ok (.return_, 1) := by decide +kernel
def nd_X12_statementTold_159   (Q : fz_s → Prop)  (s : fz_s) : Prop :=
  wp_X12_asksSign 59 s (fun s2 => ∀ s3 : fz_s, s3 = si s2 196 51 ((s2.1 196 51) + 1) → Q s3)
def wp_X12_statementTold  (s : fz_s) (Q : fz_s → Prop) : Prop :=
  ∀ x1 : Int32, x1 = (s.1 196 2) → ((¬ (s.1 196 51) = 80 → wp_X12_takes 202 6 s (fun r2 s3 => ((r2 = false → wp_X12_takes 207 5 s3 (fun r4 s5 => ((r4 = false → wp_X12_takes 208 5 s5 (fun r6 s7 => ((r6 = false → wp_X12_takes 209 4 s7 (fun r8 s9 => ((r8 = false → wp_X12_takes 210 6 s9 (fun r10 s11 => ((r10 = false → wp_X12_takes 211 5 s11 (fun r12 s13 => ((r12 = false → wp_X12_asks 212 4 s13 (fun s15 => wp_X12_number 0 100 s15 (fun r16 s17 => ∀ s18 : fz_s, s18 = si s17 196 45 r16 → nd_X12_statementTold_159   Q  s18))) ∧ (r12 = true → wp_X12_codesTold 4 x1 s13 (fun s20 => nd_X12_statementTold_159   Q  s20))))) ∧ (r10 = true → wp_X12_codesTold 3 x1 s11 (fun s22 => nd_X12_statementTold_159   Q  s22))))) ∧ (r8 = true → wp_X12_codesTold 2 x1 s9 (fun s24 => nd_X12_statementTold_159   Q  s24))))) ∧ (r6 = true → wp_X12_codesTold 1 x1 s7 (fun s26 => nd_X12_statementTold_159   Q  s26))))) ∧ (r4 = true → wp_X12_codesTold 0 x1 s5 (fun s28 => nd_X12_statementTold_159   Q  s28))))) ∧ (r2 = true → wp_X12_personTold x1 s3 (fun s30 => nd_X12_statementTold_159   Q  s30))))) ∧ ((s.1 196 51) = 80 → wp_X12_fail 5 x1 s (fun s32 => Q s32)))
set_option maxRecDepth 100000 in
set_option maxHeartbeats 4000000 in
theorem V_nd_X12_statementTold_159 {g : fz_G} {l : Launch} {d : Nat} (hD : 10 ≤ d)    {Q : fz_s → Prop}  {s : fz_s}  (H : nd_X12_statementTold_159   Q  s) : fs_V g l m_X12_statementTold d false 159 [.ref 196, fz_J] [] s (rV Q) := by
  obtain ⟨d, rfl⟩ : ∃ e, d = e + 1 := ⟨d - 1, by omega⟩
  unfold nd_X12_statementTold_159 at H
  refine fs_aload_n (k0 := 0) (i := 0) dd_X12_statementTold_159 rfl rfl ?_
  refine fs_bipush (n := 59) (v := 59) dd_X12_statementTold_160 (by decide) ?_
  refine fs_callV (y := m_X12_asksSign) (as := [.int 59]) dd_X12_statementTold_162 me_X12_asksSign lk_X12_334 in_X12_asksSign se_X12_asksSign ca_196 rfl rfl rfl (Nat.le_of_ble_eq_true rfl) (Nat.le_of_ble_eq_true rfl) rfl (V_X12_asksSign (by omega)  H) (k2_V fun s2 H => ?_)
  refine fs_aload_n (k0 := 0) (i := 0) dd_X12_statementTold_165 rfl rfl ?_
  refine fs_dup dd_X12_statementTold_166 rfl ?_
  refine fs_geti (ci := 12) (j := 51) dd_X12_statementTold_167 fl_X12_362 ca_196 rfl (Or.inl rfl) ?_
  refine fs_iconst (n := 1) (v := 1) dd_X12_statementTold_170 (by decide) ?_
  refine fs_iadd dd_X12_statementTold_171 ?_
  refine fs_puti (ci := 12) (j := 51) dd_X12_statementTold_172 fl_X12_362 (fun _ _ _ h => by cases h; rfl) ca_196 rfl (Or.inl rfl) ?_
  refine fs_tops (fun s3 hs3 => ?_)
  replace H := H s3 hs3
  exact fs_vret dd_X12_statementTold_175 rfl H
set_option maxRecDepth 100000 in
set_option maxHeartbeats 4000000 in
theorem V_X12_statementTold {g : fz_G} {l : Launch} {d : Nat} (hD : 10 ≤ d)   {s : fz_s} {Q : fz_s → Prop} (H : wp_X12_statementTold  s Q) : fs_V g l m_X12_statementTold d false 0 (fz_en [.ref 196] 2) [] s (rV Q) := by
  obtain ⟨d, rfl⟩ : ∃ e, d = e + 1 := ⟨d - 1, by omega⟩
  unfold wp_X12_statementTold at H
  refine fs_aload_n (k0 := 0) (i := 0) dd_X12_statementTold_0 rfl rfl ?_
  refine fs_geti (ci := 12) (j := 2) dd_X12_statementTold_1 fl_X12_258 ca_196 rfl (Or.inl rfl) ?_
  refine fs_topi (fun x1 hx1 => ?_)
  replace H := H x1 hx1
  refine fs_istore_n (k0 := 1) (i := 1) dd_X12_statementTold_4 rfl (by decide) ?_
  refine fs_aload_n (k0 := 0) (i := 0) dd_X12_statementTold_5 rfl rfl ?_
  refine fs_geti (ci := 12) (j := 51) dd_X12_statementTold_6 fl_X12_362 ca_196 rfl (Or.inl rfl) ?_
  refine fs_bipush (n := 80) (v := 80) dd_X12_statementTold_9 (by decide) ?_
  refine fs_icmp_ne (tgt := 21) dd_X12_statementTold_11 (by decide) (fun hc => ?_) (fun hc => ?_)
  · replace H := H.1 hc
    refine fs_aload_n (k0 := 0) (i := 0) dd_X12_statementTold_21 rfl rfl ?_
    refine fs_aload_n (k0 := 0) (i := 0) dd_X12_statementTold_22 rfl rfl ?_
    refine fs_getr (ci := 12) (j := 14) (q := 202) dd_X12_statementTold_23 fl_X12_30 ca_196 rfl (Or.inr ⟨_, rfl⟩) rfl (by decide) ?_
    refine fs_callV (y := m_X12_takes) (as := [.ref 202]) dd_X12_statementTold_26 me_X12_takes lk_X12_279 in_X12_takes se_X12_takes ca_196 rfl rfl rfl (Nat.le_of_ble_eq_true rfl) (Nat.le_of_ble_eq_true rfl) rfl (V_X12_takes (by omega) ca_202 H) (k2_Z fun r2 s3 H => ?_)
    refine fs_if_eq (tgt := 40) dd_X12_statementTold_29 (by decide) (fun hc => ?_) (fun hc => ?_)
    · replace H := H.1 (bi_0 hc)
      refine fs_aload_n (k0 := 0) (i := 0) dd_X12_statementTold_40 rfl rfl ?_
      refine fs_aload_n (k0 := 0) (i := 0) dd_X12_statementTold_41 rfl rfl ?_
      refine fs_getr (ci := 12) (j := 19) (q := 207) dd_X12_statementTold_42 fl_X12_45 ca_196 rfl (Or.inr ⟨_, rfl⟩) rfl (by decide) ?_
      refine fs_callV (y := m_X12_takes) (as := [.ref 207]) dd_X12_statementTold_45 me_X12_takes lk_X12_279 in_X12_takes se_X12_takes ca_196 rfl rfl rfl (Nat.le_of_ble_eq_true rfl) (Nat.le_of_ble_eq_true rfl) rfl (V_X12_takes (by omega) ca_207 H) (k2_Z fun r4 s5 H => ?_)
      refine fs_if_eq (tgt := 60) dd_X12_statementTold_48 (by decide) (fun hc => ?_) (fun hc => ?_)
      · replace H := H.1 (bi_0 hc)
        refine fs_aload_n (k0 := 0) (i := 0) dd_X12_statementTold_60 rfl rfl ?_
        refine fs_aload_n (k0 := 0) (i := 0) dd_X12_statementTold_61 rfl rfl ?_
        refine fs_getr (ci := 12) (j := 20) (q := 208) dd_X12_statementTold_62 fl_X12_48 ca_196 rfl (Or.inr ⟨_, rfl⟩) rfl (by decide) ?_
        refine fs_callV (y := m_X12_takes) (as := [.ref 208]) dd_X12_statementTold_65 me_X12_takes lk_X12_279 in_X12_takes se_X12_takes ca_196 rfl rfl rfl (Nat.le_of_ble_eq_true rfl) (Nat.le_of_ble_eq_true rfl) rfl (V_X12_takes (by omega) ca_208 H) (k2_Z fun r6 s7 H => ?_)
        refine fs_if_eq (tgt := 80) dd_X12_statementTold_68 (by decide) (fun hc => ?_) (fun hc => ?_)
        · replace H := H.1 (bi_0 hc)
          refine fs_aload_n (k0 := 0) (i := 0) dd_X12_statementTold_80 rfl rfl ?_
          refine fs_aload_n (k0 := 0) (i := 0) dd_X12_statementTold_81 rfl rfl ?_
          refine fs_getr (ci := 12) (j := 21) (q := 209) dd_X12_statementTold_82 fl_X12_51 ca_196 rfl (Or.inr ⟨_, rfl⟩) rfl (by decide) ?_
          refine fs_callV (y := m_X12_takes) (as := [.ref 209]) dd_X12_statementTold_85 me_X12_takes lk_X12_279 in_X12_takes se_X12_takes ca_196 rfl rfl rfl (Nat.le_of_ble_eq_true rfl) (Nat.le_of_ble_eq_true rfl) rfl (V_X12_takes (by omega) ca_209 H) (k2_Z fun r8 s9 H => ?_)
          refine fs_if_eq (tgt := 100) dd_X12_statementTold_88 (by decide) (fun hc => ?_) (fun hc => ?_)
          · replace H := H.1 (bi_0 hc)
            refine fs_aload_n (k0 := 0) (i := 0) dd_X12_statementTold_100 rfl rfl ?_
            refine fs_aload_n (k0 := 0) (i := 0) dd_X12_statementTold_101 rfl rfl ?_
            refine fs_getr (ci := 12) (j := 22) (q := 210) dd_X12_statementTold_102 fl_X12_54 ca_196 rfl (Or.inr ⟨_, rfl⟩) rfl (by decide) ?_
            refine fs_callV (y := m_X12_takes) (as := [.ref 210]) dd_X12_statementTold_105 me_X12_takes lk_X12_279 in_X12_takes se_X12_takes ca_196 rfl rfl rfl (Nat.le_of_ble_eq_true rfl) (Nat.le_of_ble_eq_true rfl) rfl (V_X12_takes (by omega) ca_210 H) (k2_Z fun r10 s11 H => ?_)
            refine fs_if_eq (tgt := 120) dd_X12_statementTold_108 (by decide) (fun hc => ?_) (fun hc => ?_)
            · replace H := H.1 (bi_0 hc)
              refine fs_aload_n (k0 := 0) (i := 0) dd_X12_statementTold_120 rfl rfl ?_
              refine fs_aload_n (k0 := 0) (i := 0) dd_X12_statementTold_121 rfl rfl ?_
              refine fs_getr (ci := 12) (j := 23) (q := 211) dd_X12_statementTold_122 fl_X12_57 ca_196 rfl (Or.inr ⟨_, rfl⟩) rfl (by decide) ?_
              refine fs_callV (y := m_X12_takes) (as := [.ref 211]) dd_X12_statementTold_125 me_X12_takes lk_X12_279 in_X12_takes se_X12_takes ca_196 rfl rfl rfl (Nat.le_of_ble_eq_true rfl) (Nat.le_of_ble_eq_true rfl) rfl (V_X12_takes (by omega) ca_211 H) (k2_Z fun r12 s13 H => ?_)
              refine fs_if_eq (tgt := 140) dd_X12_statementTold_128 (by decide) (fun hc => ?_) (fun hc => ?_)
              · replace H := H.1 (bi_0 hc)
                refine fs_aload_n (k0 := 0) (i := 0) dd_X12_statementTold_140 rfl rfl ?_
                refine fs_aload_n (k0 := 0) (i := 0) dd_X12_statementTold_141 rfl rfl ?_
                refine fs_getr (ci := 12) (j := 24) (q := 212) dd_X12_statementTold_142 fl_X12_60 ca_196 rfl (Or.inr ⟨_, rfl⟩) rfl (by decide) ?_
                refine fs_callV (y := m_X12_asks) (as := [.ref 212]) dd_X12_statementTold_145 me_X12_asks lk_X12_323 in_X12_asks se_X12_asks ca_196 rfl rfl rfl (Nat.le_of_ble_eq_true rfl) (Nat.le_of_ble_eq_true rfl) rfl (V_X12_asks (by omega) ca_212 H) (k2_V fun s15 H => ?_)
                refine fs_aload_n (k0 := 0) (i := 0) dd_X12_statementTold_148 rfl rfl ?_
                refine fs_aload_n (k0 := 0) (i := 0) dd_X12_statementTold_149 rfl rfl ?_
                refine fs_iconst (n := 0) (v := 0) dd_X12_statementTold_150 (by decide) ?_
                refine fs_bipush (n := 100) (v := 100) dd_X12_statementTold_151 (by decide) ?_
                refine fs_callV (y := m_X12_number) (as := [.int 0, .int 100]) dd_X12_statementTold_153 me_X12_number lk_X12_330 in_X12_number se_X12_number ca_196 rfl rfl rfl (Nat.le_of_ble_eq_true rfl) (Nat.le_of_ble_eq_true rfl) rfl (V_X12_number (by omega)  H) (k2_I fun r16 s17 H => ?_)
                refine fs_puti (ci := 12) (j := 45) dd_X12_statementTold_156 fl_X12_371 (fun _ _ _ h => by cases h; rfl) ca_196 rfl (Or.inl rfl) ?_
                refine fs_tops (fun s18 hs18 => ?_)
                replace H := H s18 hs18
                refine fs_weak (ls2 := [.ref 196, fz_J]) (fz_le_e (fz_le_j fz_le_n)) ?_
                exact V_nd_X12_statementTold_159 hD    H
              · replace H := H.2 (bi_1 hc)
                refine fs_aload_n (k0 := 0) (i := 0) dd_X12_statementTold_131 rfl rfl ?_
                refine fs_iconst (n := 4) (v := 4) dd_X12_statementTold_132 (by decide) ?_
                refine fs_iload_n (k0 := 1) (i := 1) dd_X12_statementTold_133 rfl rfl ?_
                refine fs_callV (y := m_X12_codesTold) (as := [.int 4, .int x1]) dd_X12_statementTold_134 me_X12_codesTold lk_X12_368 in_X12_codesTold se_X12_codesTold ca_196 rfl rfl rfl (Nat.le_of_ble_eq_true rfl) (Nat.le_of_ble_eq_true rfl) rfl (V_X12_codesTold (by omega)  H) (k2_V fun s20 H => ?_)
                refine fs_goto (tgt := 159) dd_X12_statementTold_137 (by decide) ?_
                refine fs_weak (ls2 := [.ref 196, fz_J]) (fz_le_e (fz_le_j fz_le_n)) ?_
                exact V_nd_X12_statementTold_159 hD    H
            · replace H := H.2 (bi_1 hc)
              refine fs_aload_n (k0 := 0) (i := 0) dd_X12_statementTold_111 rfl rfl ?_
              refine fs_iconst (n := 3) (v := 3) dd_X12_statementTold_112 (by decide) ?_
              refine fs_iload_n (k0 := 1) (i := 1) dd_X12_statementTold_113 rfl rfl ?_
              refine fs_callV (y := m_X12_codesTold) (as := [.int 3, .int x1]) dd_X12_statementTold_114 me_X12_codesTold lk_X12_368 in_X12_codesTold se_X12_codesTold ca_196 rfl rfl rfl (Nat.le_of_ble_eq_true rfl) (Nat.le_of_ble_eq_true rfl) rfl (V_X12_codesTold (by omega)  H) (k2_V fun s22 H => ?_)
              refine fs_goto (tgt := 159) dd_X12_statementTold_117 (by decide) ?_
              refine fs_weak (ls2 := [.ref 196, fz_J]) (fz_le_e (fz_le_j fz_le_n)) ?_
              exact V_nd_X12_statementTold_159 hD    H
          · replace H := H.2 (bi_1 hc)
            refine fs_aload_n (k0 := 0) (i := 0) dd_X12_statementTold_91 rfl rfl ?_
            refine fs_iconst (n := 2) (v := 2) dd_X12_statementTold_92 (by decide) ?_
            refine fs_iload_n (k0 := 1) (i := 1) dd_X12_statementTold_93 rfl rfl ?_
            refine fs_callV (y := m_X12_codesTold) (as := [.int 2, .int x1]) dd_X12_statementTold_94 me_X12_codesTold lk_X12_368 in_X12_codesTold se_X12_codesTold ca_196 rfl rfl rfl (Nat.le_of_ble_eq_true rfl) (Nat.le_of_ble_eq_true rfl) rfl (V_X12_codesTold (by omega)  H) (k2_V fun s24 H => ?_)
            refine fs_goto (tgt := 159) dd_X12_statementTold_97 (by decide) ?_
            refine fs_weak (ls2 := [.ref 196, fz_J]) (fz_le_e (fz_le_j fz_le_n)) ?_
            exact V_nd_X12_statementTold_159 hD    H
        · replace H := H.2 (bi_1 hc)
          refine fs_aload_n (k0 := 0) (i := 0) dd_X12_statementTold_71 rfl rfl ?_
          refine fs_iconst (n := 1) (v := 1) dd_X12_statementTold_72 (by decide) ?_
          refine fs_iload_n (k0 := 1) (i := 1) dd_X12_statementTold_73 rfl rfl ?_
          refine fs_callV (y := m_X12_codesTold) (as := [.int 1, .int x1]) dd_X12_statementTold_74 me_X12_codesTold lk_X12_368 in_X12_codesTold se_X12_codesTold ca_196 rfl rfl rfl (Nat.le_of_ble_eq_true rfl) (Nat.le_of_ble_eq_true rfl) rfl (V_X12_codesTold (by omega)  H) (k2_V fun s26 H => ?_)
          refine fs_goto (tgt := 159) dd_X12_statementTold_77 (by decide) ?_
          refine fs_weak (ls2 := [.ref 196, fz_J]) (fz_le_e (fz_le_j fz_le_n)) ?_
          exact V_nd_X12_statementTold_159 hD    H
      · replace H := H.2 (bi_1 hc)
        refine fs_aload_n (k0 := 0) (i := 0) dd_X12_statementTold_51 rfl rfl ?_
        refine fs_iconst (n := 0) (v := 0) dd_X12_statementTold_52 (by decide) ?_
        refine fs_iload_n (k0 := 1) (i := 1) dd_X12_statementTold_53 rfl rfl ?_
        refine fs_callV (y := m_X12_codesTold) (as := [.int 0, .int x1]) dd_X12_statementTold_54 me_X12_codesTold lk_X12_368 in_X12_codesTold se_X12_codesTold ca_196 rfl rfl rfl (Nat.le_of_ble_eq_true rfl) (Nat.le_of_ble_eq_true rfl) rfl (V_X12_codesTold (by omega)  H) (k2_V fun s28 H => ?_)
        refine fs_goto (tgt := 159) dd_X12_statementTold_57 (by decide) ?_
        refine fs_weak (ls2 := [.ref 196, fz_J]) (fz_le_e (fz_le_j fz_le_n)) ?_
        exact V_nd_X12_statementTold_159 hD    H
    · replace H := H.2 (bi_1 hc)
      refine fs_aload_n (k0 := 0) (i := 0) dd_X12_statementTold_32 rfl rfl ?_
      refine fs_iload_n (k0 := 1) (i := 1) dd_X12_statementTold_33 rfl rfl ?_
      refine fs_callV (y := m_X12_personTold) (as := [.int x1]) dd_X12_statementTold_34 me_X12_personTold lk_X12_365 in_X12_personTold se_X12_personTold ca_196 rfl rfl rfl (Nat.le_of_ble_eq_true rfl) (Nat.le_of_ble_eq_true rfl) rfl (V_X12_personTold (by omega)  H) (k2_V fun s30 H => ?_)
      refine fs_goto (tgt := 159) dd_X12_statementTold_37 (by decide) ?_
      refine fs_weak (ls2 := [.ref 196, fz_J]) (fz_le_e (fz_le_j fz_le_n)) ?_
      exact V_nd_X12_statementTold_159 hD    H
  · replace H := H.2 hc
    refine fs_aload_n (k0 := 0) (i := 0) dd_X12_statementTold_14 rfl rfl ?_
    refine fs_iconst (n := 5) (v := 5) dd_X12_statementTold_15 (by decide) ?_
    refine fs_iload_n (k0 := 1) (i := 1) dd_X12_statementTold_16 rfl rfl ?_
    refine fs_callV (y := m_X12_fail) (as := [.int 5, .int x1]) dd_X12_statementTold_17 me_X12_fail lk_X12_282 in_X12_fail se_X12_fail ca_196 rfl rfl rfl (Nat.le_of_ble_eq_true rfl) (Nat.le_of_ble_eq_true rfl) rfl (V_X12_fail (by omega)  H) (k2_V fun s32 H => ?_)
    exact fs_vret dd_X12_statementTold_20 rfl H

def hc_X12_init_196 (h : fz_H) : fz_H := (fz_sP (fz_mk (fz_sP (fz_mk (fz_sP (fz_mk (fz_sP (fz_mk (fz_sP (fz_sI (fz_sI (fz_sI (fz_sI (fz_mk (fz_sP (fz_sI (fz_sI (fz_sI (fz_sI (fz_sI (fz_sI (fz_sI (fz_mk (fz_sP (fz_sI (fz_sI (fz_sI (fz_sI (fz_mk (fz_sP (fz_sI (fz_sI (fz_sI (fz_sI (fz_sI (fz_mk (fz_sP (fz_sI (fz_sI (fz_sI (fz_sI (fz_sI (fz_sI (fz_mk (fz_sP (fz_sI (fz_sI (fz_sI (fz_sI (fz_sI (fz_sI (fz_mk (fz_sP (fz_sI (fz_sI (fz_sI (fz_sI (fz_mk (fz_sP (fz_sI (fz_sI (fz_sI (fz_sI (fz_sI (fz_mk (fz_sP (fz_sI (fz_sI (fz_sI (fz_sI (fz_mk (fz_sP (fz_sI (fz_sI (fz_sI (fz_sI (fz_mk (fz_sP (fz_sI (fz_sI (fz_sI (fz_sI (fz_mk (fz_sP (fz_sI (fz_sI (fz_sI (fz_sI (fz_sI (fz_sI (fz_sI (fz_mk (fz_sP (fz_sI (fz_sI (fz_sI (fz_sI (fz_sI (fz_sI (fz_sI (fz_mk (fz_sP (fz_sI (fz_sI (fz_sI (fz_mk (fz_sP (fz_sI (fz_sI (fz_sI (fz_mk (fz_sP (fz_sI (fz_sI (fz_sI (fz_mk (fz_sP (fz_sI (fz_sI (fz_mk (fz_sP (fz_sI (fz_sI (fz_sI (fz_mk (fz_sP (fz_sI (fz_sI (fz_sI (fz_mk (fz_sP (fz_sI (fz_sI (fz_sI (fz_sI (fz_sI (fz_mk (fz_sP (fz_sI (fz_sI (fz_sI (fz_sI (fz_mk (fz_sP (fz_sI (fz_sI (fz_sI (fz_sI (fz_sI (fz_mk (fz_sP (fz_sI (fz_sI (fz_sI (fz_sI (fz_sI (fz_mk (fz_sP (fz_sI (fz_sI (fz_sI (fz_sI (fz_mk (fz_sP (fz_sI (fz_sI (fz_sI (fz_sI (fz_sI (fz_mk (fz_sL (fz_sP (fz_mk (fz_sP (fz_mk (fz_sP (fz_mk (fz_sP (fz_mk (fz_sP (fz_mk (fz_sP (fz_mk (fz_sP (fz_mk (fz_sP (fz_mk (fz_sP (fz_mk (fz_sP (fz_mk (fz_sP (fz_mk (fz_sP (fz_mk (fz_sP (fz_mk (fz_sP (fz_mk (fz_sP (fz_sI (fz_sI (fz_sI (fz_sI (fz_sI (fz_sI (fz_sI (fz_sI (fz_sI (fz_sI (fz_mk (fz_sP (fz_mk (fz_sP (fz_mk (fz_sP (fz_mk (fz_sP (fz_mk (fz_sP (fz_sI (fz_sI (fz_sI (fz_mk (fz_sP (fz_sI (fz_sI (fz_sI (fz_mk (fz_sP (fz_sI (fz_sI (fz_sI (fz_mk (fz_sP (fz_sI (fz_sI (fz_sI (fz_mk (fz_sP (fz_sI (fz_sI (fz_sI (fz_mk (fz_sP (fz_sI (fz_sI (fz_mk (fz_sP (fz_sI (fz_sI (fz_sI (fz_sI (fz_mk (fz_sP (fz_sI (fz_sI (fz_sI (fz_sI (fz_sI (fz_mk (fz_sP (fz_sI (fz_sI (fz_sI (fz_sI (fz_sI (fz_sI (fz_mk (fz_sP (fz_sI (fz_sI (fz_sI (fz_sI (fz_sI (fz_sI (fz_mk (fz_sP (fz_sI (fz_sI (fz_sI (fz_sI (fz_mk (fz_sP (fz_sI (fz_sI (fz_sI (fz_sI (fz_mk (fz_sP (fz_sI (fz_sI (fz_sI (fz_sI (fz_mk (fz_sP (fz_sI (fz_sI (fz_sI (fz_sI (fz_sI (fz_mk (fz_sP (fz_sI (fz_sI (fz_sI (fz_sI (fz_sI (fz_sI (fz_mk (fz_sP (fz_sI (fz_sI (fz_sI (fz_sI (fz_mk (fz_sP (fz_sI (fz_sI (fz_sI (fz_sI (fz_sI (fz_mk (fz_sP (fz_sI (fz_sI (fz_sI (fz_sI (fz_sI (fz_mk (fz_sP (fz_sI (fz_sI (fz_sI (fz_sI (fz_sI (fz_mk (fz_sP (fz_sI (fz_sI (fz_sI (fz_sI (fz_mk (fz_sP (fz_sI (fz_sI (fz_sI (fz_sI (fz_mk (fz_sP (fz_sI (fz_sI (fz_mk (fz_sP (fz_sI (fz_sI (fz_sI (fz_sI (fz_sI (fz_sI (fz_mk (fz_sP (fz_sI (fz_sI (fz_sI (fz_sI (fz_sI (fz_sI (fz_sI (fz_mk (fz_sP (fz_sI (fz_sI (fz_sI (fz_sI (fz_sI (fz_sI (fz_sI (fz_mk (fz_sP (fz_sI (fz_sI (fz_sI (fz_sI (fz_sI (fz_sI (fz_sI (fz_mk (fz_sP (fz_mk (fz_sI (fz_sP (fz_mk h 14 1600) 196 0 (some 197)) 196 8 (-1)) 14 6) 196 9 (some 198)) 13 7) 199 0 104) 199 1 97) 199 2 114) 199 3 118) 199 4 101) 199 5 115) 199 6 116) 196 11 (some 199)) 13 7) 200 0 113) 200 1 117) 200 2 97) 200 3 114) 200 4 114) 200 5 101) 200 6 108) 196 12 (some 200)) 13 7) 201 0 118) 201 1 105) 201 2 108) 201 3 108) 201 4 97) 201 5 103) 201 6 101) 196 13 (some 201)) 13 6) 202 0 112) 202 1 101) 202 2 114) 202 3 115) 202 4 111) 202 5 110) 196 14 (some 202)) 13 2) 203 0 111) 203 1 102) 196 15 (some 203)) 13 4) 204 0 119) 204 1 105) 204 2 116) 204 3 115) 196 16 (some 204)) 13 4) 205 0 111) 205 1 97) 205 2 116) 205 3 104) 196 17 (some 205)) 13 5) 206 0 99) 206 1 104) 206 2 101) 206 3 101) 206 4 114) 196 18 (some 206)) 13 5) 207 0 115) 207 1 101) 207 2 110) 207 3 100) 207 4 115) 196 19 (some 207)) 13 5) 208 0 103) 208 1 111) 208 2 111) 208 3 115) 208 4 101) 196 20 (some 208)) 13 4) 209 0 100) 209 1 111) 209 2 101) 209 3 115) 196 21 (some 209)) 13 6) 210 0 102) 210 1 105) 210 2 103) 210 3 104) 210 4 116) 210 5 115) 196 22 (some 210)) 13 5) 211 0 115) 211 1 116) 211 2 97) 211 3 121) 211 4 115) 196 23 (some 211)) 13 4) 212 0 115) 212 1 110) 212 2 111) 212 3 119) 196 24 (some 212)) 13 4) 213 0 121) 213 1 101) 213 2 97) 213 3 114) 196 25 (some 213)) 13 4) 214 0 97) 214 1 119) 214 2 97) 214 3 121) 196 26 (some 214)) 13 6) 215 0 103) 215 1 117) 215 2 101) 215 3 115) 215 4 116) 215 5 115) 196 27 (some 215)) 13 6) 216 0 110) 216 1 117) 216 2 109) 216 3 98) 216 4 101) 216 5 114) 196 28 (some 216)) 13 5) 217 0 108) 217 1 105) 217 2 118) 217 3 101) 217 4 115) 196 29 (some 217)) 13 4) 218 0 104) 218 1 111) 218 2 109) 218 3 101) 196 30 (some 218)) 13 2) 219 0 111) 219 1 114) 196 31 (some 219)) 13 3) 220 0 97) 220 1 110) 220 2 100) 196 32 (some 220)) 13 3) 221 0 110) 221 1 111) 221 2 116) 196 33 (some 221)) 13 3) 222 0 97) 222 1 108) 222 2 108) 196 34 (some 222)) 13 3) 223 0 109) 223 1 105) 223 2 110) 196 35 (some 223)) 13 3) 224 0 109) 224 1 97) 224 2 120) 196 36 (some 224)) 15 20) 196 41 (some 225)) 14 4) 196 42 (some 226)) 14 48) 196 43 (some 227)) 14 8) 196 44 (some 228)) 14 10) 229 0 (-1)) 229 1 (-1)) 229 2 (-1)) 229 3 (-1)) 229 4 (-1)) 229 5 (-1)) 229 6 (-1)) 229 7 (-1)) 229 8 (-1)) 229 9 (-1)) 196 47 (some 229)) 14 10) 196 48 (some 230)) 14 3200) 196 49 (some 231)) 14 150) 196 54 (some 232)) 14 29) 196 55 (some 233)) 15 16) 196 57 (some 234)) 14 2) 196 60 (some 235)) 14 128) 196 61 (some 236)) 14 2) 196 62 (some 237)) 14 27) 196 63 (some 238)) 14 3) 196 65 (some 239)) 14 48) 196 67 (some 240)) 14 620) 196 68 (some 241)) 16 10) 196 69 (some 242)) 14 3000) 196 71 (some 243)) 196 74 1) 13 5) 244 0 102) 244 1 105) 244 2 114) 244 3 115) 244 4 116) 196 75 (some 244)) 13 4) 245 0 108) 245 1 97) 245 2 115) 245 3 116) 196 76 (some 245)) 13 5) 246 0 111) 246 1 102) 246 2 116) 246 3 101) 246 4 110) 196 77 (some 246)) 13 5) 247 0 116) 247 1 111) 247 2 116) 247 3 97) 247 4 108) 196 78 (some 247)) 13 4) 248 0 109) 248 1 111) 248 2 115) 248 3 116) 196 79 (some 248)) 13 5) 249 0 108) 249 1 101) 249 2 97) 249 3 115) 249 4 116) 196 80 (some 249)) 13 3) 250 0 110) 250 1 111) 250 2 116) 196 81 (some 250)) 13 3) 251 0 97) 251 1 110) 251 2 100) 196 82 (some 251)) 13 2) 252 0 111) 252 1 114) 196 83 (some 252)) 13 3) 253 0 97) 253 1 108) 253 2 108) 196 84 (some 253)) 13 3) 254 0 109) 254 1 105) 254 2 110) 196 85 (some 254)) 13 3) 255 0 109) 255 1 97) 255 2 120) 196 86 (some 255)) 13 7) 256 0 104) 256 1 97) 256 2 114) 256 3 118) 256 4 101) 256 5 115) 256 6 116) 196 87 (some 256)) 13 7) 257 0 113) 257 1 117) 257 2 97) 257 3 114) 257 4 114) 257 5 101) 257 6 108) 196 88 (some 257)) 13 4) 258 0 121) 258 1 101) 258 2 97) 258 3 114) 196 89 (some 258)) 13 4) 259 0 119) 259 1 105) 259 2 116) 259 3 115) 196 90 (some 259)) 13 4) 260 0 111) 260 1 97) 260 2 116) 260 3 104) 196 91 (some 260)) 13 5) 261 0 99) 261 1 104) 261 2 101) 261 3 101) 261 4 114) 196 92 (some 261)) 13 4) 262 0 97) 262 1 119) 262 2 97) 262 3 121) 196 93 (some 262)) 13 6) 263 0 103) 263 1 117) 263 2 101) 263 3 115) 263 4 116) 263 5 115) 196 94 (some 263)) 13 6) 264 0 110) 264 1 117) 264 2 109) 264 3 98) 264 4 101) 264 5 114) 196 95 (some 264)) 13 5) 265 0 108) 265 1 105) 265 2 118) 265 3 101) 265 4 115) 196 96 (some 265)) 13 4) 266 0 104) 266 1 111) 266 2 109) 266 3 101) 196 97 (some 266)) 13 7) 267 0 104) 267 1 97) 267 2 114) 267 3 118) 267 4 101) 267 5 115) 267 6 116) 196 98 (some 267)) 13 4) 268 0 100) 268 1 111) 268 2 101) 268 3 115) 196 99 (some 268)) 14 1700) 196 100 (some 269)) 14 1700) 196 102 (some 270)) 15 1700) 196 106 (some 271)) 14 33) 196 110 (some 272))
set_option maxRecDepth 100000 in
set_option maxHeartbeats 4000000 in
theorem V_cX12_init_196 {g : fz_G} {l : Launch} {d L : Nat} (hd : 1 ≤ d) {h : fz_H} (hs : fz_to L h (197)) {Q : Option Value → fz_H → Prop} (hq : fz_to L (hc_X12_init_196 h) (273) → Q none (hc_X12_init_196 h)) : fz_V g l m_X12_init d 76 14303 0 (fz_en [.ref 196] 1) [] h Q := by
  obtain ⟨d, rfl⟩ : ∃ e, d = e + 1 := ⟨d - 1, by omega⟩
  refine fv_aload_n (k0 := 0) (i := 0) dd_X12_init_0 rfl rfl ?_
  refine fv_objInit dd_X12_init_1 lk_X12_1 oi_i oi_c (Nat.le_of_ble_eq_true rfl) ?_
  refine fv_aload_n (k0 := 0) (i := 0) dd_X12_init_4 rfl rfl ?_
  refine fv_sipush (n := 1600) (v := 1600) dd_X12_init_5 (by decide) ?_
  refine fq_newaI (M := 1600) hs ca_197 dd_X12_init_8 (by decide) (by decide) (by decide) (fun h1 e1 hs1 => ?_)
  refine fq_putr (ci := 12) (j := 0) hs1 ca_196 (by omega) rfl dd_X12_init_10 pf_X12_7 (Or.inr ⟨_, rfl⟩) (fun h2 e2 hs2 => ?_)
  refine fv_aload_n (k0 := 0) (i := 0) dd_X12_init_13 rfl rfl ?_
  refine fv_iconst (n := -1) (v := -1) dd_X12_init_14 (by decide) ?_
  refine fq_puti (ci := 12) (j := 8) hs2 ca_196 (by omega) rfl dd_X12_init_15 pf_X12_13 rfl (fun h3 e3 hs3 => ?_)
  refine fv_aload_n (k0 := 0) (i := 0) dd_X12_init_18 rfl rfl ?_
  refine fv_bipush (n := 6) (v := 6) dd_X12_init_19 (by decide) ?_
  refine fq_newaI (M := 6) hs3 ca_198 dd_X12_init_21 (by decide) (by decide) (by decide) (fun h4 e4 hs4 => ?_)
  refine fq_putr (ci := 12) (j := 9) hs4 ca_196 (by omega) rfl dd_X12_init_23 pf_X12_17 (Or.inr ⟨_, rfl⟩) (fun h5 e5 hs5 => ?_)
  refine fv_aload_n (k0 := 0) (i := 0) dd_X12_init_26 rfl rfl ?_
  refine fv_bipush (n := 7) (v := 7) dd_X12_init_27 (by decide) ?_
  refine fq_newaC (M := 7) hs5 ca_199 dd_X12_init_29 (by decide) (by decide) (by decide) (fun h6 e6 hs6 => ?_)
  refine fv_dup dd_X12_init_31 rfl ?_
  refine fv_iconst (n := 0) (v := 0) dd_X12_init_32 (by decide) ?_
  refine fv_bipush (n := 104) (v := 104) dd_X12_init_33 (by decide) ?_
  refine fq_cast (i0 := 0) hs6 ca_199 (by omega) dd_X12_init_35 (vp_in_nI (n := 0) (by decide) (by decide)) rfl rfl (fun h7 e7 hs7 => ?_)
  refine fv_dup dd_X12_init_36 rfl ?_
  refine fv_iconst (n := 1) (v := 1) dd_X12_init_37 (by decide) ?_
  refine fv_bipush (n := 97) (v := 97) dd_X12_init_38 (by decide) ?_
  refine fq_cast (i0 := 1) hs7 ca_199 (by omega) dd_X12_init_40 (vp_in_nI (n := 1) (by decide) (by decide)) rfl rfl (fun h8 e8 hs8 => ?_)
  refine fv_dup dd_X12_init_41 rfl ?_
  refine fv_iconst (n := 2) (v := 2) dd_X12_init_42 (by decide) ?_
  refine fv_bipush (n := 114) (v := 114) dd_X12_init_43 (by decide) ?_
  refine fq_cast (i0 := 2) hs8 ca_199 (by omega) dd_X12_init_45 (vp_in_nI (n := 2) (by decide) (by decide)) rfl rfl (fun h9 e9 hs9 => ?_)
  refine fv_dup dd_X12_init_46 rfl ?_
  refine fv_iconst (n := 3) (v := 3) dd_X12_init_47 (by decide) ?_
  refine fv_bipush (n := 118) (v := 118) dd_X12_init_48 (by decide) ?_
  refine fq_cast (i0 := 3) hs9 ca_199 (by omega) dd_X12_init_50 (vp_in_nI (n := 3) (by decide) (by decide)) rfl rfl (fun h10 e10 hs10 => ?_)
  refine fv_dup dd_X12_init_51 rfl ?_
  refine fv_iconst (n := 4) (v := 4) dd_X12_init_52 (by decide) ?_
  refine fv_bipush (n := 101) (v := 101) dd_X12_init_53 (by decide) ?_
  refine fq_cast (i0 := 4) hs10 ca_199 (by omega) dd_X12_init_55 (vp_in_nI (n := 4) (by decide) (by decide)) rfl rfl (fun h11 e11 hs11 => ?_)
  refine fv_dup dd_X12_init_56 rfl ?_
  refine fv_iconst (n := 5) (v := 5) dd_X12_init_57 (by decide) ?_
  refine fv_bipush (n := 115) (v := 115) dd_X12_init_58 (by decide) ?_
  refine fq_cast (i0 := 5) hs11 ca_199 (by omega) dd_X12_init_60 (vp_in_nI (n := 5) (by decide) (by decide)) rfl rfl (fun h12 e12 hs12 => ?_)
  refine fv_dup dd_X12_init_61 rfl ?_
  refine fv_bipush (n := 6) (v := 6) dd_X12_init_62 (by decide) ?_
  refine fv_bipush (n := 116) (v := 116) dd_X12_init_64 (by decide) ?_
  refine fq_cast (i0 := 6) hs12 ca_199 (by omega) dd_X12_init_66 (vp_in_nI (n := 6) (by decide) (by decide)) rfl rfl (fun h13 e13 hs13 => ?_)
  refine fq_putr (ci := 12) (j := 11) hs13 ca_196 (by omega) rfl dd_X12_init_67 pf_X12_20 (Or.inr ⟨_, rfl⟩) (fun h14 e14 hs14 => ?_)
  refine fv_aload_n (k0 := 0) (i := 0) dd_X12_init_70 rfl rfl ?_
  refine fv_bipush (n := 7) (v := 7) dd_X12_init_71 (by decide) ?_
  refine fq_newaC (M := 7) hs14 ca_200 dd_X12_init_73 (by decide) (by decide) (by decide) (fun h15 e15 hs15 => ?_)
  refine fv_dup dd_X12_init_75 rfl ?_
  refine fv_iconst (n := 0) (v := 0) dd_X12_init_76 (by decide) ?_
  refine fv_bipush (n := 113) (v := 113) dd_X12_init_77 (by decide) ?_
  refine fq_cast (i0 := 0) hs15 ca_200 (by omega) dd_X12_init_79 (vp_in_nI (n := 0) (by decide) (by decide)) rfl rfl (fun h16 e16 hs16 => ?_)
  refine fv_dup dd_X12_init_80 rfl ?_
  refine fv_iconst (n := 1) (v := 1) dd_X12_init_81 (by decide) ?_
  refine fv_bipush (n := 117) (v := 117) dd_X12_init_82 (by decide) ?_
  refine fq_cast (i0 := 1) hs16 ca_200 (by omega) dd_X12_init_84 (vp_in_nI (n := 1) (by decide) (by decide)) rfl rfl (fun h17 e17 hs17 => ?_)
  refine fv_dup dd_X12_init_85 rfl ?_
  refine fv_iconst (n := 2) (v := 2) dd_X12_init_86 (by decide) ?_
  refine fv_bipush (n := 97) (v := 97) dd_X12_init_87 (by decide) ?_
  refine fq_cast (i0 := 2) hs17 ca_200 (by omega) dd_X12_init_89 (vp_in_nI (n := 2) (by decide) (by decide)) rfl rfl (fun h18 e18 hs18 => ?_)
  refine fv_dup dd_X12_init_90 rfl ?_
  refine fv_iconst (n := 3) (v := 3) dd_X12_init_91 (by decide) ?_
  refine fv_bipush (n := 114) (v := 114) dd_X12_init_92 (by decide) ?_
  refine fq_cast (i0 := 3) hs18 ca_200 (by omega) dd_X12_init_94 (vp_in_nI (n := 3) (by decide) (by decide)) rfl rfl (fun h19 e19 hs19 => ?_)
  refine fv_dup dd_X12_init_95 rfl ?_
  refine fv_iconst (n := 4) (v := 4) dd_X12_init_96 (by decide) ?_
  refine fv_bipush (n := 114) (v := 114) dd_X12_init_97 (by decide) ?_
  refine fq_cast (i0 := 4) hs19 ca_200 (by omega) dd_X12_init_99 (vp_in_nI (n := 4) (by decide) (by decide)) rfl rfl (fun h20 e20 hs20 => ?_)
  refine fv_dup dd_X12_init_100 rfl ?_
  refine fv_iconst (n := 5) (v := 5) dd_X12_init_101 (by decide) ?_
  refine fv_bipush (n := 101) (v := 101) dd_X12_init_102 (by decide) ?_
  refine fq_cast (i0 := 5) hs20 ca_200 (by omega) dd_X12_init_104 (vp_in_nI (n := 5) (by decide) (by decide)) rfl rfl (fun h21 e21 hs21 => ?_)
  refine fv_dup dd_X12_init_105 rfl ?_
  refine fv_bipush (n := 6) (v := 6) dd_X12_init_106 (by decide) ?_
  refine fv_bipush (n := 108) (v := 108) dd_X12_init_108 (by decide) ?_
  refine fq_cast (i0 := 6) hs21 ca_200 (by omega) dd_X12_init_110 (vp_in_nI (n := 6) (by decide) (by decide)) rfl rfl (fun h22 e22 hs22 => ?_)
  refine fq_putr (ci := 12) (j := 12) hs22 ca_196 (by omega) rfl dd_X12_init_111 pf_X12_24 (Or.inr ⟨_, rfl⟩) (fun h23 e23 hs23 => ?_)
  refine fv_aload_n (k0 := 0) (i := 0) dd_X12_init_114 rfl rfl ?_
  refine fv_bipush (n := 7) (v := 7) dd_X12_init_115 (by decide) ?_
  refine fq_newaC (M := 7) hs23 ca_201 dd_X12_init_117 (by decide) (by decide) (by decide) (fun h24 e24 hs24 => ?_)
  refine fv_dup dd_X12_init_119 rfl ?_
  refine fv_iconst (n := 0) (v := 0) dd_X12_init_120 (by decide) ?_
  refine fv_bipush (n := 118) (v := 118) dd_X12_init_121 (by decide) ?_
  refine fq_cast (i0 := 0) hs24 ca_201 (by omega) dd_X12_init_123 (vp_in_nI (n := 0) (by decide) (by decide)) rfl rfl (fun h25 e25 hs25 => ?_)
  refine fv_dup dd_X12_init_124 rfl ?_
  refine fv_iconst (n := 1) (v := 1) dd_X12_init_125 (by decide) ?_
  refine fv_bipush (n := 105) (v := 105) dd_X12_init_126 (by decide) ?_
  refine fq_cast (i0 := 1) hs25 ca_201 (by omega) dd_X12_init_128 (vp_in_nI (n := 1) (by decide) (by decide)) rfl rfl (fun h26 e26 hs26 => ?_)
  refine fv_dup dd_X12_init_129 rfl ?_
  refine fv_iconst (n := 2) (v := 2) dd_X12_init_130 (by decide) ?_
  refine fv_bipush (n := 108) (v := 108) dd_X12_init_131 (by decide) ?_
  refine fq_cast (i0 := 2) hs26 ca_201 (by omega) dd_X12_init_133 (vp_in_nI (n := 2) (by decide) (by decide)) rfl rfl (fun h27 e27 hs27 => ?_)
  refine fv_dup dd_X12_init_134 rfl ?_
  refine fv_iconst (n := 3) (v := 3) dd_X12_init_135 (by decide) ?_
  refine fv_bipush (n := 108) (v := 108) dd_X12_init_136 (by decide) ?_
  refine fq_cast (i0 := 3) hs27 ca_201 (by omega) dd_X12_init_138 (vp_in_nI (n := 3) (by decide) (by decide)) rfl rfl (fun h28 e28 hs28 => ?_)
  refine fv_dup dd_X12_init_139 rfl ?_
  refine fv_iconst (n := 4) (v := 4) dd_X12_init_140 (by decide) ?_
  refine fv_bipush (n := 97) (v := 97) dd_X12_init_141 (by decide) ?_
  refine fq_cast (i0 := 4) hs28 ca_201 (by omega) dd_X12_init_143 (vp_in_nI (n := 4) (by decide) (by decide)) rfl rfl (fun h29 e29 hs29 => ?_)
  refine fv_dup dd_X12_init_144 rfl ?_
  refine fv_iconst (n := 5) (v := 5) dd_X12_init_145 (by decide) ?_
  refine fv_bipush (n := 103) (v := 103) dd_X12_init_146 (by decide) ?_
  refine fq_cast (i0 := 5) hs29 ca_201 (by omega) dd_X12_init_148 (vp_in_nI (n := 5) (by decide) (by decide)) rfl rfl (fun h30 e30 hs30 => ?_)
  refine fv_dup dd_X12_init_149 rfl ?_
  refine fv_bipush (n := 6) (v := 6) dd_X12_init_150 (by decide) ?_
  refine fv_bipush (n := 101) (v := 101) dd_X12_init_152 (by decide) ?_
  refine fq_cast (i0 := 6) hs30 ca_201 (by omega) dd_X12_init_154 (vp_in_nI (n := 6) (by decide) (by decide)) rfl rfl (fun h31 e31 hs31 => ?_)
  refine fq_putr (ci := 12) (j := 13) hs31 ca_196 (by omega) rfl dd_X12_init_155 pf_X12_27 (Or.inr ⟨_, rfl⟩) (fun h32 e32 hs32 => ?_)
  refine fv_aload_n (k0 := 0) (i := 0) dd_X12_init_158 rfl rfl ?_
  refine fv_bipush (n := 6) (v := 6) dd_X12_init_159 (by decide) ?_
  refine fq_newaC (M := 6) hs32 ca_202 dd_X12_init_161 (by decide) (by decide) (by decide) (fun h33 e33 hs33 => ?_)
  refine fv_dup dd_X12_init_163 rfl ?_
  refine fv_iconst (n := 0) (v := 0) dd_X12_init_164 (by decide) ?_
  refine fv_bipush (n := 112) (v := 112) dd_X12_init_165 (by decide) ?_
  refine fq_cast (i0 := 0) hs33 ca_202 (by omega) dd_X12_init_167 (vp_in_nI (n := 0) (by decide) (by decide)) rfl rfl (fun h34 e34 hs34 => ?_)
  refine fv_dup dd_X12_init_168 rfl ?_
  refine fv_iconst (n := 1) (v := 1) dd_X12_init_169 (by decide) ?_
  refine fv_bipush (n := 101) (v := 101) dd_X12_init_170 (by decide) ?_
  refine fq_cast (i0 := 1) hs34 ca_202 (by omega) dd_X12_init_172 (vp_in_nI (n := 1) (by decide) (by decide)) rfl rfl (fun h35 e35 hs35 => ?_)
  refine fv_dup dd_X12_init_173 rfl ?_
  refine fv_iconst (n := 2) (v := 2) dd_X12_init_174 (by decide) ?_
  refine fv_bipush (n := 114) (v := 114) dd_X12_init_175 (by decide) ?_
  refine fq_cast (i0 := 2) hs35 ca_202 (by omega) dd_X12_init_177 (vp_in_nI (n := 2) (by decide) (by decide)) rfl rfl (fun h36 e36 hs36 => ?_)
  refine fv_dup dd_X12_init_178 rfl ?_
  refine fv_iconst (n := 3) (v := 3) dd_X12_init_179 (by decide) ?_
  refine fv_bipush (n := 115) (v := 115) dd_X12_init_180 (by decide) ?_
  refine fq_cast (i0 := 3) hs36 ca_202 (by omega) dd_X12_init_182 (vp_in_nI (n := 3) (by decide) (by decide)) rfl rfl (fun h37 e37 hs37 => ?_)
  refine fv_dup dd_X12_init_183 rfl ?_
  refine fv_iconst (n := 4) (v := 4) dd_X12_init_184 (by decide) ?_
  refine fv_bipush (n := 111) (v := 111) dd_X12_init_185 (by decide) ?_
  refine fq_cast (i0 := 4) hs37 ca_202 (by omega) dd_X12_init_187 (vp_in_nI (n := 4) (by decide) (by decide)) rfl rfl (fun h38 e38 hs38 => ?_)
  refine fv_dup dd_X12_init_188 rfl ?_
  refine fv_iconst (n := 5) (v := 5) dd_X12_init_189 (by decide) ?_
  refine fv_bipush (n := 110) (v := 110) dd_X12_init_190 (by decide) ?_
  refine fq_cast (i0 := 5) hs38 ca_202 (by omega) dd_X12_init_192 (vp_in_nI (n := 5) (by decide) (by decide)) rfl rfl (fun h39 e39 hs39 => ?_)
  refine fq_putr (ci := 12) (j := 14) hs39 ca_196 (by omega) rfl dd_X12_init_193 pf_X12_30 (Or.inr ⟨_, rfl⟩) (fun h40 e40 hs40 => ?_)
  refine fv_aload_n (k0 := 0) (i := 0) dd_X12_init_196 rfl rfl ?_
  refine fv_iconst (n := 2) (v := 2) dd_X12_init_197 (by decide) ?_
  refine fq_newaC (M := 2) hs40 ca_203 dd_X12_init_198 (by decide) (by decide) (by decide) (fun h41 e41 hs41 => ?_)
  refine fv_dup dd_X12_init_200 rfl ?_
  refine fv_iconst (n := 0) (v := 0) dd_X12_init_201 (by decide) ?_
  refine fv_bipush (n := 111) (v := 111) dd_X12_init_202 (by decide) ?_
  refine fq_cast (i0 := 0) hs41 ca_203 (by omega) dd_X12_init_204 (vp_in_nI (n := 0) (by decide) (by decide)) rfl rfl (fun h42 e42 hs42 => ?_)
  refine fv_dup dd_X12_init_205 rfl ?_
  refine fv_iconst (n := 1) (v := 1) dd_X12_init_206 (by decide) ?_
  refine fv_bipush (n := 102) (v := 102) dd_X12_init_207 (by decide) ?_
  refine fq_cast (i0 := 1) hs42 ca_203 (by omega) dd_X12_init_209 (vp_in_nI (n := 1) (by decide) (by decide)) rfl rfl (fun h43 e43 hs43 => ?_)
  refine fq_putr (ci := 12) (j := 15) hs43 ca_196 (by omega) rfl dd_X12_init_210 pf_X12_33 (Or.inr ⟨_, rfl⟩) (fun h44 e44 hs44 => ?_)
  refine fv_aload_n (k0 := 0) (i := 0) dd_X12_init_213 rfl rfl ?_
  refine fv_iconst (n := 4) (v := 4) dd_X12_init_214 (by decide) ?_
  refine fq_newaC (M := 4) hs44 ca_204 dd_X12_init_215 (by decide) (by decide) (by decide) (fun h45 e45 hs45 => ?_)
  refine fv_dup dd_X12_init_217 rfl ?_
  refine fv_iconst (n := 0) (v := 0) dd_X12_init_218 (by decide) ?_
  refine fv_bipush (n := 119) (v := 119) dd_X12_init_219 (by decide) ?_
  refine fq_cast (i0 := 0) hs45 ca_204 (by omega) dd_X12_init_221 (vp_in_nI (n := 0) (by decide) (by decide)) rfl rfl (fun h46 e46 hs46 => ?_)
  refine fv_dup dd_X12_init_222 rfl ?_
  refine fv_iconst (n := 1) (v := 1) dd_X12_init_223 (by decide) ?_
  refine fv_bipush (n := 105) (v := 105) dd_X12_init_224 (by decide) ?_
  refine fq_cast (i0 := 1) hs46 ca_204 (by omega) dd_X12_init_226 (vp_in_nI (n := 1) (by decide) (by decide)) rfl rfl (fun h47 e47 hs47 => ?_)
  refine fv_dup dd_X12_init_227 rfl ?_
  refine fv_iconst (n := 2) (v := 2) dd_X12_init_228 (by decide) ?_
  refine fv_bipush (n := 116) (v := 116) dd_X12_init_229 (by decide) ?_
  refine fq_cast (i0 := 2) hs47 ca_204 (by omega) dd_X12_init_231 (vp_in_nI (n := 2) (by decide) (by decide)) rfl rfl (fun h48 e48 hs48 => ?_)
  refine fv_dup dd_X12_init_232 rfl ?_
  refine fv_iconst (n := 3) (v := 3) dd_X12_init_233 (by decide) ?_
  refine fv_bipush (n := 115) (v := 115) dd_X12_init_234 (by decide) ?_
  refine fq_cast (i0 := 3) hs48 ca_204 (by omega) dd_X12_init_236 (vp_in_nI (n := 3) (by decide) (by decide)) rfl rfl (fun h49 e49 hs49 => ?_)
  refine fq_putr (ci := 12) (j := 16) hs49 ca_196 (by omega) rfl dd_X12_init_237 pf_X12_36 (Or.inr ⟨_, rfl⟩) (fun h50 e50 hs50 => ?_)
  refine fv_aload_n (k0 := 0) (i := 0) dd_X12_init_240 rfl rfl ?_
  refine fv_iconst (n := 4) (v := 4) dd_X12_init_241 (by decide) ?_
  refine fq_newaC (M := 4) hs50 ca_205 dd_X12_init_242 (by decide) (by decide) (by decide) (fun h51 e51 hs51 => ?_)
  refine fv_dup dd_X12_init_244 rfl ?_
  refine fv_iconst (n := 0) (v := 0) dd_X12_init_245 (by decide) ?_
  refine fv_bipush (n := 111) (v := 111) dd_X12_init_246 (by decide) ?_
  refine fq_cast (i0 := 0) hs51 ca_205 (by omega) dd_X12_init_248 (vp_in_nI (n := 0) (by decide) (by decide)) rfl rfl (fun h52 e52 hs52 => ?_)
  refine fv_dup dd_X12_init_249 rfl ?_
  refine fv_iconst (n := 1) (v := 1) dd_X12_init_250 (by decide) ?_
  refine fv_bipush (n := 97) (v := 97) dd_X12_init_251 (by decide) ?_
  refine fq_cast (i0 := 1) hs52 ca_205 (by omega) dd_X12_init_253 (vp_in_nI (n := 1) (by decide) (by decide)) rfl rfl (fun h53 e53 hs53 => ?_)
  refine fv_dup dd_X12_init_254 rfl ?_
  refine fv_iconst (n := 2) (v := 2) dd_X12_init_255 (by decide) ?_
  refine fv_bipush (n := 116) (v := 116) dd_X12_init_256 (by decide) ?_
  refine fq_cast (i0 := 2) hs53 ca_205 (by omega) dd_X12_init_258 (vp_in_nI (n := 2) (by decide) (by decide)) rfl rfl (fun h54 e54 hs54 => ?_)
  refine fv_dup dd_X12_init_259 rfl ?_
  refine fv_iconst (n := 3) (v := 3) dd_X12_init_260 (by decide) ?_
  refine fv_bipush (n := 104) (v := 104) dd_X12_init_261 (by decide) ?_
  refine fq_cast (i0 := 3) hs54 ca_205 (by omega) dd_X12_init_263 (vp_in_nI (n := 3) (by decide) (by decide)) rfl rfl (fun h55 e55 hs55 => ?_)
  refine fq_putr (ci := 12) (j := 17) hs55 ca_196 (by omega) rfl dd_X12_init_264 pf_X12_39 (Or.inr ⟨_, rfl⟩) (fun h56 e56 hs56 => ?_)
  refine fv_aload_n (k0 := 0) (i := 0) dd_X12_init_267 rfl rfl ?_
  refine fv_iconst (n := 5) (v := 5) dd_X12_init_268 (by decide) ?_
  refine fq_newaC (M := 5) hs56 ca_206 dd_X12_init_269 (by decide) (by decide) (by decide) (fun h57 e57 hs57 => ?_)
  refine fv_dup dd_X12_init_271 rfl ?_
  refine fv_iconst (n := 0) (v := 0) dd_X12_init_272 (by decide) ?_
  refine fv_bipush (n := 99) (v := 99) dd_X12_init_273 (by decide) ?_
  refine fq_cast (i0 := 0) hs57 ca_206 (by omega) dd_X12_init_275 (vp_in_nI (n := 0) (by decide) (by decide)) rfl rfl (fun h58 e58 hs58 => ?_)
  refine fv_dup dd_X12_init_276 rfl ?_
  refine fv_iconst (n := 1) (v := 1) dd_X12_init_277 (by decide) ?_
  refine fv_bipush (n := 104) (v := 104) dd_X12_init_278 (by decide) ?_
  refine fq_cast (i0 := 1) hs58 ca_206 (by omega) dd_X12_init_280 (vp_in_nI (n := 1) (by decide) (by decide)) rfl rfl (fun h59 e59 hs59 => ?_)
  refine fv_dup dd_X12_init_281 rfl ?_
  refine fv_iconst (n := 2) (v := 2) dd_X12_init_282 (by decide) ?_
  refine fv_bipush (n := 101) (v := 101) dd_X12_init_283 (by decide) ?_
  refine fq_cast (i0 := 2) hs59 ca_206 (by omega) dd_X12_init_285 (vp_in_nI (n := 2) (by decide) (by decide)) rfl rfl (fun h60 e60 hs60 => ?_)
  refine fv_dup dd_X12_init_286 rfl ?_
  refine fv_iconst (n := 3) (v := 3) dd_X12_init_287 (by decide) ?_
  refine fv_bipush (n := 101) (v := 101) dd_X12_init_288 (by decide) ?_
  refine fq_cast (i0 := 3) hs60 ca_206 (by omega) dd_X12_init_290 (vp_in_nI (n := 3) (by decide) (by decide)) rfl rfl (fun h61 e61 hs61 => ?_)
  refine fv_dup dd_X12_init_291 rfl ?_
  refine fv_iconst (n := 4) (v := 4) dd_X12_init_292 (by decide) ?_
  refine fv_bipush (n := 114) (v := 114) dd_X12_init_293 (by decide) ?_
  refine fq_cast (i0 := 4) hs61 ca_206 (by omega) dd_X12_init_295 (vp_in_nI (n := 4) (by decide) (by decide)) rfl rfl (fun h62 e62 hs62 => ?_)
  refine fq_putr (ci := 12) (j := 18) hs62 ca_196 (by omega) rfl dd_X12_init_296 pf_X12_42 (Or.inr ⟨_, rfl⟩) (fun h63 e63 hs63 => ?_)
  refine fv_aload_n (k0 := 0) (i := 0) dd_X12_init_299 rfl rfl ?_
  refine fv_iconst (n := 5) (v := 5) dd_X12_init_300 (by decide) ?_
  refine fq_newaC (M := 5) hs63 ca_207 dd_X12_init_301 (by decide) (by decide) (by decide) (fun h64 e64 hs64 => ?_)
  refine fv_dup dd_X12_init_303 rfl ?_
  refine fv_iconst (n := 0) (v := 0) dd_X12_init_304 (by decide) ?_
  refine fv_bipush (n := 115) (v := 115) dd_X12_init_305 (by decide) ?_
  refine fq_cast (i0 := 0) hs64 ca_207 (by omega) dd_X12_init_307 (vp_in_nI (n := 0) (by decide) (by decide)) rfl rfl (fun h65 e65 hs65 => ?_)
  refine fv_dup dd_X12_init_308 rfl ?_
  refine fv_iconst (n := 1) (v := 1) dd_X12_init_309 (by decide) ?_
  refine fv_bipush (n := 101) (v := 101) dd_X12_init_310 (by decide) ?_
  refine fq_cast (i0 := 1) hs65 ca_207 (by omega) dd_X12_init_312 (vp_in_nI (n := 1) (by decide) (by decide)) rfl rfl (fun h66 e66 hs66 => ?_)
  refine fv_dup dd_X12_init_313 rfl ?_
  refine fv_iconst (n := 2) (v := 2) dd_X12_init_314 (by decide) ?_
  refine fv_bipush (n := 110) (v := 110) dd_X12_init_315 (by decide) ?_
  refine fq_cast (i0 := 2) hs66 ca_207 (by omega) dd_X12_init_317 (vp_in_nI (n := 2) (by decide) (by decide)) rfl rfl (fun h67 e67 hs67 => ?_)
  refine fv_dup dd_X12_init_318 rfl ?_
  refine fv_iconst (n := 3) (v := 3) dd_X12_init_319 (by decide) ?_
  refine fv_bipush (n := 100) (v := 100) dd_X12_init_320 (by decide) ?_
  refine fq_cast (i0 := 3) hs67 ca_207 (by omega) dd_X12_init_322 (vp_in_nI (n := 3) (by decide) (by decide)) rfl rfl (fun h68 e68 hs68 => ?_)
  refine fv_dup dd_X12_init_323 rfl ?_
  refine fv_iconst (n := 4) (v := 4) dd_X12_init_324 (by decide) ?_
  refine fv_bipush (n := 115) (v := 115) dd_X12_init_325 (by decide) ?_
  refine fq_cast (i0 := 4) hs68 ca_207 (by omega) dd_X12_init_327 (vp_in_nI (n := 4) (by decide) (by decide)) rfl rfl (fun h69 e69 hs69 => ?_)
  refine fq_putr (ci := 12) (j := 19) hs69 ca_196 (by omega) rfl dd_X12_init_328 pf_X12_45 (Or.inr ⟨_, rfl⟩) (fun h70 e70 hs70 => ?_)
  refine fv_aload_n (k0 := 0) (i := 0) dd_X12_init_331 rfl rfl ?_
  refine fv_iconst (n := 5) (v := 5) dd_X12_init_332 (by decide) ?_
  refine fq_newaC (M := 5) hs70 ca_208 dd_X12_init_333 (by decide) (by decide) (by decide) (fun h71 e71 hs71 => ?_)
  refine fv_dup dd_X12_init_335 rfl ?_
  refine fv_iconst (n := 0) (v := 0) dd_X12_init_336 (by decide) ?_
  refine fv_bipush (n := 103) (v := 103) dd_X12_init_337 (by decide) ?_
  refine fq_cast (i0 := 0) hs71 ca_208 (by omega) dd_X12_init_339 (vp_in_nI (n := 0) (by decide) (by decide)) rfl rfl (fun h72 e72 hs72 => ?_)
  refine fv_dup dd_X12_init_340 rfl ?_
  refine fv_iconst (n := 1) (v := 1) dd_X12_init_341 (by decide) ?_
  refine fv_bipush (n := 111) (v := 111) dd_X12_init_342 (by decide) ?_
  refine fq_cast (i0 := 1) hs72 ca_208 (by omega) dd_X12_init_344 (vp_in_nI (n := 1) (by decide) (by decide)) rfl rfl (fun h73 e73 hs73 => ?_)
  refine fv_dup dd_X12_init_345 rfl ?_
  refine fv_iconst (n := 2) (v := 2) dd_X12_init_346 (by decide) ?_
  refine fv_bipush (n := 111) (v := 111) dd_X12_init_347 (by decide) ?_
  refine fq_cast (i0 := 2) hs73 ca_208 (by omega) dd_X12_init_349 (vp_in_nI (n := 2) (by decide) (by decide)) rfl rfl (fun h74 e74 hs74 => ?_)
  refine fv_dup dd_X12_init_350 rfl ?_
  refine fv_iconst (n := 3) (v := 3) dd_X12_init_351 (by decide) ?_
  refine fv_bipush (n := 115) (v := 115) dd_X12_init_352 (by decide) ?_
  refine fq_cast (i0 := 3) hs74 ca_208 (by omega) dd_X12_init_354 (vp_in_nI (n := 3) (by decide) (by decide)) rfl rfl (fun h75 e75 hs75 => ?_)
  refine fv_dup dd_X12_init_355 rfl ?_
  refine fv_iconst (n := 4) (v := 4) dd_X12_init_356 (by decide) ?_
  refine fv_bipush (n := 101) (v := 101) dd_X12_init_357 (by decide) ?_
  refine fq_cast (i0 := 4) hs75 ca_208 (by omega) dd_X12_init_359 (vp_in_nI (n := 4) (by decide) (by decide)) rfl rfl (fun h76 e76 hs76 => ?_)
  refine fq_putr (ci := 12) (j := 20) hs76 ca_196 (by omega) rfl dd_X12_init_360 pf_X12_48 (Or.inr ⟨_, rfl⟩) (fun h77 e77 hs77 => ?_)
  refine fv_aload_n (k0 := 0) (i := 0) dd_X12_init_363 rfl rfl ?_
  refine fv_iconst (n := 4) (v := 4) dd_X12_init_364 (by decide) ?_
  refine fq_newaC (M := 4) hs77 ca_209 dd_X12_init_365 (by decide) (by decide) (by decide) (fun h78 e78 hs78 => ?_)
  refine fv_dup dd_X12_init_367 rfl ?_
  refine fv_iconst (n := 0) (v := 0) dd_X12_init_368 (by decide) ?_
  refine fv_bipush (n := 100) (v := 100) dd_X12_init_369 (by decide) ?_
  refine fq_cast (i0 := 0) hs78 ca_209 (by omega) dd_X12_init_371 (vp_in_nI (n := 0) (by decide) (by decide)) rfl rfl (fun h79 e79 hs79 => ?_)
  refine fv_dup dd_X12_init_372 rfl ?_
  refine fv_iconst (n := 1) (v := 1) dd_X12_init_373 (by decide) ?_
  refine fv_bipush (n := 111) (v := 111) dd_X12_init_374 (by decide) ?_
  refine fq_cast (i0 := 1) hs79 ca_209 (by omega) dd_X12_init_376 (vp_in_nI (n := 1) (by decide) (by decide)) rfl rfl (fun h80 e80 hs80 => ?_)
  refine fv_dup dd_X12_init_377 rfl ?_
  refine fv_iconst (n := 2) (v := 2) dd_X12_init_378 (by decide) ?_
  refine fv_bipush (n := 101) (v := 101) dd_X12_init_379 (by decide) ?_
  refine fq_cast (i0 := 2) hs80 ca_209 (by omega) dd_X12_init_381 (vp_in_nI (n := 2) (by decide) (by decide)) rfl rfl (fun h81 e81 hs81 => ?_)
  refine fv_dup dd_X12_init_382 rfl ?_
  refine fv_iconst (n := 3) (v := 3) dd_X12_init_383 (by decide) ?_
  refine fv_bipush (n := 115) (v := 115) dd_X12_init_384 (by decide) ?_
  refine fq_cast (i0 := 3) hs81 ca_209 (by omega) dd_X12_init_386 (vp_in_nI (n := 3) (by decide) (by decide)) rfl rfl (fun h82 e82 hs82 => ?_)
  refine fq_putr (ci := 12) (j := 21) hs82 ca_196 (by omega) rfl dd_X12_init_387 pf_X12_51 (Or.inr ⟨_, rfl⟩) (fun h83 e83 hs83 => ?_)
  refine fv_aload_n (k0 := 0) (i := 0) dd_X12_init_390 rfl rfl ?_
  refine fv_bipush (n := 6) (v := 6) dd_X12_init_391 (by decide) ?_
  refine fq_newaC (M := 6) hs83 ca_210 dd_X12_init_393 (by decide) (by decide) (by decide) (fun h84 e84 hs84 => ?_)
  refine fv_dup dd_X12_init_395 rfl ?_
  refine fv_iconst (n := 0) (v := 0) dd_X12_init_396 (by decide) ?_
  refine fv_bipush (n := 102) (v := 102) dd_X12_init_397 (by decide) ?_
  refine fq_cast (i0 := 0) hs84 ca_210 (by omega) dd_X12_init_399 (vp_in_nI (n := 0) (by decide) (by decide)) rfl rfl (fun h85 e85 hs85 => ?_)
  refine fv_dup dd_X12_init_400 rfl ?_
  refine fv_iconst (n := 1) (v := 1) dd_X12_init_401 (by decide) ?_
  refine fv_bipush (n := 105) (v := 105) dd_X12_init_402 (by decide) ?_
  refine fq_cast (i0 := 1) hs85 ca_210 (by omega) dd_X12_init_404 (vp_in_nI (n := 1) (by decide) (by decide)) rfl rfl (fun h86 e86 hs86 => ?_)
  refine fv_dup dd_X12_init_405 rfl ?_
  refine fv_iconst (n := 2) (v := 2) dd_X12_init_406 (by decide) ?_
  refine fv_bipush (n := 103) (v := 103) dd_X12_init_407 (by decide) ?_
  refine fq_cast (i0 := 2) hs86 ca_210 (by omega) dd_X12_init_409 (vp_in_nI (n := 2) (by decide) (by decide)) rfl rfl (fun h87 e87 hs87 => ?_)
  refine fv_dup dd_X12_init_410 rfl ?_
  refine fv_iconst (n := 3) (v := 3) dd_X12_init_411 (by decide) ?_
  refine fv_bipush (n := 104) (v := 104) dd_X12_init_412 (by decide) ?_
  refine fq_cast (i0 := 3) hs87 ca_210 (by omega) dd_X12_init_414 (vp_in_nI (n := 3) (by decide) (by decide)) rfl rfl (fun h88 e88 hs88 => ?_)
  refine fv_dup dd_X12_init_415 rfl ?_
  refine fv_iconst (n := 4) (v := 4) dd_X12_init_416 (by decide) ?_
  refine fv_bipush (n := 116) (v := 116) dd_X12_init_417 (by decide) ?_
  refine fq_cast (i0 := 4) hs88 ca_210 (by omega) dd_X12_init_419 (vp_in_nI (n := 4) (by decide) (by decide)) rfl rfl (fun h89 e89 hs89 => ?_)
  refine fv_dup dd_X12_init_420 rfl ?_
  refine fv_iconst (n := 5) (v := 5) dd_X12_init_421 (by decide) ?_
  refine fv_bipush (n := 115) (v := 115) dd_X12_init_422 (by decide) ?_
  refine fq_cast (i0 := 5) hs89 ca_210 (by omega) dd_X12_init_424 (vp_in_nI (n := 5) (by decide) (by decide)) rfl rfl (fun h90 e90 hs90 => ?_)
  refine fq_putr (ci := 12) (j := 22) hs90 ca_196 (by omega) rfl dd_X12_init_425 pf_X12_54 (Or.inr ⟨_, rfl⟩) (fun h91 e91 hs91 => ?_)
  refine fv_aload_n (k0 := 0) (i := 0) dd_X12_init_428 rfl rfl ?_
  refine fv_iconst (n := 5) (v := 5) dd_X12_init_429 (by decide) ?_
  refine fq_newaC (M := 5) hs91 ca_211 dd_X12_init_430 (by decide) (by decide) (by decide) (fun h92 e92 hs92 => ?_)
  refine fv_dup dd_X12_init_432 rfl ?_
  refine fv_iconst (n := 0) (v := 0) dd_X12_init_433 (by decide) ?_
  refine fv_bipush (n := 115) (v := 115) dd_X12_init_434 (by decide) ?_
  refine fq_cast (i0 := 0) hs92 ca_211 (by omega) dd_X12_init_436 (vp_in_nI (n := 0) (by decide) (by decide)) rfl rfl (fun h93 e93 hs93 => ?_)
  refine fv_dup dd_X12_init_437 rfl ?_
  refine fv_iconst (n := 1) (v := 1) dd_X12_init_438 (by decide) ?_
  refine fv_bipush (n := 116) (v := 116) dd_X12_init_439 (by decide) ?_
  refine fq_cast (i0 := 1) hs93 ca_211 (by omega) dd_X12_init_441 (vp_in_nI (n := 1) (by decide) (by decide)) rfl rfl (fun h94 e94 hs94 => ?_)
  refine fv_dup dd_X12_init_442 rfl ?_
  refine fv_iconst (n := 2) (v := 2) dd_X12_init_443 (by decide) ?_
  refine fv_bipush (n := 97) (v := 97) dd_X12_init_444 (by decide) ?_
  refine fq_cast (i0 := 2) hs94 ca_211 (by omega) dd_X12_init_446 (vp_in_nI (n := 2) (by decide) (by decide)) rfl rfl (fun h95 e95 hs95 => ?_)
  refine fv_dup dd_X12_init_447 rfl ?_
  refine fv_iconst (n := 3) (v := 3) dd_X12_init_448 (by decide) ?_
  refine fv_bipush (n := 121) (v := 121) dd_X12_init_449 (by decide) ?_
  refine fq_cast (i0 := 3) hs95 ca_211 (by omega) dd_X12_init_451 (vp_in_nI (n := 3) (by decide) (by decide)) rfl rfl (fun h96 e96 hs96 => ?_)
  refine fv_dup dd_X12_init_452 rfl ?_
  refine fv_iconst (n := 4) (v := 4) dd_X12_init_453 (by decide) ?_
  refine fv_bipush (n := 115) (v := 115) dd_X12_init_454 (by decide) ?_
  refine fq_cast (i0 := 4) hs96 ca_211 (by omega) dd_X12_init_456 (vp_in_nI (n := 4) (by decide) (by decide)) rfl rfl (fun h97 e97 hs97 => ?_)
  refine fq_putr (ci := 12) (j := 23) hs97 ca_196 (by omega) rfl dd_X12_init_457 pf_X12_57 (Or.inr ⟨_, rfl⟩) (fun h98 e98 hs98 => ?_)
  refine fv_aload_n (k0 := 0) (i := 0) dd_X12_init_460 rfl rfl ?_
  refine fv_iconst (n := 4) (v := 4) dd_X12_init_461 (by decide) ?_
  refine fq_newaC (M := 4) hs98 ca_212 dd_X12_init_462 (by decide) (by decide) (by decide) (fun h99 e99 hs99 => ?_)
  refine fv_dup dd_X12_init_464 rfl ?_
  refine fv_iconst (n := 0) (v := 0) dd_X12_init_465 (by decide) ?_
  refine fv_bipush (n := 115) (v := 115) dd_X12_init_466 (by decide) ?_
  refine fq_cast (i0 := 0) hs99 ca_212 (by omega) dd_X12_init_468 (vp_in_nI (n := 0) (by decide) (by decide)) rfl rfl (fun h100 e100 hs100 => ?_)
  refine fv_dup dd_X12_init_469 rfl ?_
  refine fv_iconst (n := 1) (v := 1) dd_X12_init_470 (by decide) ?_
  refine fv_bipush (n := 110) (v := 110) dd_X12_init_471 (by decide) ?_
  refine fq_cast (i0 := 1) hs100 ca_212 (by omega) dd_X12_init_473 (vp_in_nI (n := 1) (by decide) (by decide)) rfl rfl (fun h101 e101 hs101 => ?_)
  refine fv_dup dd_X12_init_474 rfl ?_
  refine fv_iconst (n := 2) (v := 2) dd_X12_init_475 (by decide) ?_
  refine fv_bipush (n := 111) (v := 111) dd_X12_init_476 (by decide) ?_
  refine fq_cast (i0 := 2) hs101 ca_212 (by omega) dd_X12_init_478 (vp_in_nI (n := 2) (by decide) (by decide)) rfl rfl (fun h102 e102 hs102 => ?_)
  refine fv_dup dd_X12_init_479 rfl ?_
  refine fv_iconst (n := 3) (v := 3) dd_X12_init_480 (by decide) ?_
  refine fv_bipush (n := 119) (v := 119) dd_X12_init_481 (by decide) ?_
  refine fq_cast (i0 := 3) hs102 ca_212 (by omega) dd_X12_init_483 (vp_in_nI (n := 3) (by decide) (by decide)) rfl rfl (fun h103 e103 hs103 => ?_)
  refine fq_putr (ci := 12) (j := 24) hs103 ca_196 (by omega) rfl dd_X12_init_484 pf_X12_60 (Or.inr ⟨_, rfl⟩) (fun h104 e104 hs104 => ?_)
  refine fv_aload_n (k0 := 0) (i := 0) dd_X12_init_487 rfl rfl ?_
  refine fv_iconst (n := 4) (v := 4) dd_X12_init_488 (by decide) ?_
  refine fq_newaC (M := 4) hs104 ca_213 dd_X12_init_489 (by decide) (by decide) (by decide) (fun h105 e105 hs105 => ?_)
  refine fv_dup dd_X12_init_491 rfl ?_
  refine fv_iconst (n := 0) (v := 0) dd_X12_init_492 (by decide) ?_
  refine fv_bipush (n := 121) (v := 121) dd_X12_init_493 (by decide) ?_
  refine fq_cast (i0 := 0) hs105 ca_213 (by omega) dd_X12_init_495 (vp_in_nI (n := 0) (by decide) (by decide)) rfl rfl (fun h106 e106 hs106 => ?_)
  refine fv_dup dd_X12_init_496 rfl ?_
  refine fv_iconst (n := 1) (v := 1) dd_X12_init_497 (by decide) ?_
  refine fv_bipush (n := 101) (v := 101) dd_X12_init_498 (by decide) ?_
  refine fq_cast (i0 := 1) hs106 ca_213 (by omega) dd_X12_init_500 (vp_in_nI (n := 1) (by decide) (by decide)) rfl rfl (fun h107 e107 hs107 => ?_)
  refine fv_dup dd_X12_init_501 rfl ?_
  refine fv_iconst (n := 2) (v := 2) dd_X12_init_502 (by decide) ?_
  refine fv_bipush (n := 97) (v := 97) dd_X12_init_503 (by decide) ?_
  refine fq_cast (i0 := 2) hs107 ca_213 (by omega) dd_X12_init_505 (vp_in_nI (n := 2) (by decide) (by decide)) rfl rfl (fun h108 e108 hs108 => ?_)
  refine fv_dup dd_X12_init_506 rfl ?_
  refine fv_iconst (n := 3) (v := 3) dd_X12_init_507 (by decide) ?_
  refine fv_bipush (n := 114) (v := 114) dd_X12_init_508 (by decide) ?_
  refine fq_cast (i0 := 3) hs108 ca_213 (by omega) dd_X12_init_510 (vp_in_nI (n := 3) (by decide) (by decide)) rfl rfl (fun h109 e109 hs109 => ?_)
  refine fq_putr (ci := 12) (j := 25) hs109 ca_196 (by omega) rfl dd_X12_init_511 pf_X12_63 (Or.inr ⟨_, rfl⟩) (fun h110 e110 hs110 => ?_)
  refine fv_aload_n (k0 := 0) (i := 0) dd_X12_init_514 rfl rfl ?_
  refine fv_iconst (n := 4) (v := 4) dd_X12_init_515 (by decide) ?_
  refine fq_newaC (M := 4) hs110 ca_214 dd_X12_init_516 (by decide) (by decide) (by decide) (fun h111 e111 hs111 => ?_)
  refine fv_dup dd_X12_init_518 rfl ?_
  refine fv_iconst (n := 0) (v := 0) dd_X12_init_519 (by decide) ?_
  refine fv_bipush (n := 97) (v := 97) dd_X12_init_520 (by decide) ?_
  refine fq_cast (i0 := 0) hs111 ca_214 (by omega) dd_X12_init_522 (vp_in_nI (n := 0) (by decide) (by decide)) rfl rfl (fun h112 e112 hs112 => ?_)
  refine fv_dup dd_X12_init_523 rfl ?_
  refine fv_iconst (n := 1) (v := 1) dd_X12_init_524 (by decide) ?_
  refine fv_bipush (n := 119) (v := 119) dd_X12_init_525 (by decide) ?_
  refine fq_cast (i0 := 1) hs112 ca_214 (by omega) dd_X12_init_527 (vp_in_nI (n := 1) (by decide) (by decide)) rfl rfl (fun h113 e113 hs113 => ?_)
  refine fv_dup dd_X12_init_528 rfl ?_
  refine fv_iconst (n := 2) (v := 2) dd_X12_init_529 (by decide) ?_
  refine fv_bipush (n := 97) (v := 97) dd_X12_init_530 (by decide) ?_
  refine fq_cast (i0 := 2) hs113 ca_214 (by omega) dd_X12_init_532 (vp_in_nI (n := 2) (by decide) (by decide)) rfl rfl (fun h114 e114 hs114 => ?_)
  refine fv_dup dd_X12_init_533 rfl ?_
  refine fv_iconst (n := 3) (v := 3) dd_X12_init_534 (by decide) ?_
  refine fv_bipush (n := 121) (v := 121) dd_X12_init_535 (by decide) ?_
  refine fq_cast (i0 := 3) hs114 ca_214 (by omega) dd_X12_init_537 (vp_in_nI (n := 3) (by decide) (by decide)) rfl rfl (fun h115 e115 hs115 => ?_)
  refine fq_putr (ci := 12) (j := 26) hs115 ca_196 (by omega) rfl dd_X12_init_538 pf_X12_66 (Or.inr ⟨_, rfl⟩) (fun h116 e116 hs116 => ?_)
  refine fv_aload_n (k0 := 0) (i := 0) dd_X12_init_541 rfl rfl ?_
  refine fv_bipush (n := 6) (v := 6) dd_X12_init_542 (by decide) ?_
  refine fq_newaC (M := 6) hs116 ca_215 dd_X12_init_544 (by decide) (by decide) (by decide) (fun h117 e117 hs117 => ?_)
  refine fv_dup dd_X12_init_546 rfl ?_
  refine fv_iconst (n := 0) (v := 0) dd_X12_init_547 (by decide) ?_
  refine fv_bipush (n := 103) (v := 103) dd_X12_init_548 (by decide) ?_
  refine fq_cast (i0 := 0) hs117 ca_215 (by omega) dd_X12_init_550 (vp_in_nI (n := 0) (by decide) (by decide)) rfl rfl (fun h118 e118 hs118 => ?_)
  refine fv_dup dd_X12_init_551 rfl ?_
  refine fv_iconst (n := 1) (v := 1) dd_X12_init_552 (by decide) ?_
  refine fv_bipush (n := 117) (v := 117) dd_X12_init_553 (by decide) ?_
  refine fq_cast (i0 := 1) hs118 ca_215 (by omega) dd_X12_init_555 (vp_in_nI (n := 1) (by decide) (by decide)) rfl rfl (fun h119 e119 hs119 => ?_)
  refine fv_dup dd_X12_init_556 rfl ?_
  refine fv_iconst (n := 2) (v := 2) dd_X12_init_557 (by decide) ?_
  refine fv_bipush (n := 101) (v := 101) dd_X12_init_558 (by decide) ?_
  refine fq_cast (i0 := 2) hs119 ca_215 (by omega) dd_X12_init_560 (vp_in_nI (n := 2) (by decide) (by decide)) rfl rfl (fun h120 e120 hs120 => ?_)
  refine fv_dup dd_X12_init_561 rfl ?_
  refine fv_iconst (n := 3) (v := 3) dd_X12_init_562 (by decide) ?_
  refine fv_bipush (n := 115) (v := 115) dd_X12_init_563 (by decide) ?_
  refine fq_cast (i0 := 3) hs120 ca_215 (by omega) dd_X12_init_565 (vp_in_nI (n := 3) (by decide) (by decide)) rfl rfl (fun h121 e121 hs121 => ?_)
  refine fv_dup dd_X12_init_566 rfl ?_
  refine fv_iconst (n := 4) (v := 4) dd_X12_init_567 (by decide) ?_
  refine fv_bipush (n := 116) (v := 116) dd_X12_init_568 (by decide) ?_
  refine fq_cast (i0 := 4) hs121 ca_215 (by omega) dd_X12_init_570 (vp_in_nI (n := 4) (by decide) (by decide)) rfl rfl (fun h122 e122 hs122 => ?_)
  refine fv_dup dd_X12_init_571 rfl ?_
  refine fv_iconst (n := 5) (v := 5) dd_X12_init_572 (by decide) ?_
  refine fv_bipush (n := 115) (v := 115) dd_X12_init_573 (by decide) ?_
  refine fq_cast (i0 := 5) hs122 ca_215 (by omega) dd_X12_init_575 (vp_in_nI (n := 5) (by decide) (by decide)) rfl rfl (fun h123 e123 hs123 => ?_)
  refine fq_putr (ci := 12) (j := 27) hs123 ca_196 (by omega) rfl dd_X12_init_576 pf_X12_69 (Or.inr ⟨_, rfl⟩) (fun h124 e124 hs124 => ?_)
  refine fv_aload_n (k0 := 0) (i := 0) dd_X12_init_579 rfl rfl ?_
  refine fv_bipush (n := 6) (v := 6) dd_X12_init_580 (by decide) ?_
  refine fq_newaC (M := 6) hs124 ca_216 dd_X12_init_582 (by decide) (by decide) (by decide) (fun h125 e125 hs125 => ?_)
  refine fv_dup dd_X12_init_584 rfl ?_
  refine fv_iconst (n := 0) (v := 0) dd_X12_init_585 (by decide) ?_
  refine fv_bipush (n := 110) (v := 110) dd_X12_init_586 (by decide) ?_
  refine fq_cast (i0 := 0) hs125 ca_216 (by omega) dd_X12_init_588 (vp_in_nI (n := 0) (by decide) (by decide)) rfl rfl (fun h126 e126 hs126 => ?_)
  refine fv_dup dd_X12_init_589 rfl ?_
  refine fv_iconst (n := 1) (v := 1) dd_X12_init_590 (by decide) ?_
  refine fv_bipush (n := 117) (v := 117) dd_X12_init_591 (by decide) ?_
  refine fq_cast (i0 := 1) hs126 ca_216 (by omega) dd_X12_init_593 (vp_in_nI (n := 1) (by decide) (by decide)) rfl rfl (fun h127 e127 hs127 => ?_)
  refine fv_dup dd_X12_init_594 rfl ?_
  refine fv_iconst (n := 2) (v := 2) dd_X12_init_595 (by decide) ?_
  refine fv_bipush (n := 109) (v := 109) dd_X12_init_596 (by decide) ?_
  refine fq_cast (i0 := 2) hs127 ca_216 (by omega) dd_X12_init_598 (vp_in_nI (n := 2) (by decide) (by decide)) rfl rfl (fun h128 e128 hs128 => ?_)
  refine fv_dup dd_X12_init_599 rfl ?_
  refine fv_iconst (n := 3) (v := 3) dd_X12_init_600 (by decide) ?_
  refine fv_bipush (n := 98) (v := 98) dd_X12_init_601 (by decide) ?_
  refine fq_cast (i0 := 3) hs128 ca_216 (by omega) dd_X12_init_603 (vp_in_nI (n := 3) (by decide) (by decide)) rfl rfl (fun h129 e129 hs129 => ?_)
  refine fv_dup dd_X12_init_604 rfl ?_
  refine fv_iconst (n := 4) (v := 4) dd_X12_init_605 (by decide) ?_
  refine fv_bipush (n := 101) (v := 101) dd_X12_init_606 (by decide) ?_
  refine fq_cast (i0 := 4) hs129 ca_216 (by omega) dd_X12_init_608 (vp_in_nI (n := 4) (by decide) (by decide)) rfl rfl (fun h130 e130 hs130 => ?_)
  refine fv_dup dd_X12_init_609 rfl ?_
  refine fv_iconst (n := 5) (v := 5) dd_X12_init_610 (by decide) ?_
  refine fv_bipush (n := 114) (v := 114) dd_X12_init_611 (by decide) ?_
  refine fq_cast (i0 := 5) hs130 ca_216 (by omega) dd_X12_init_613 (vp_in_nI (n := 5) (by decide) (by decide)) rfl rfl (fun h131 e131 hs131 => ?_)
  refine fq_putr (ci := 12) (j := 28) hs131 ca_196 (by omega) rfl dd_X12_init_614 pf_X12_72 (Or.inr ⟨_, rfl⟩) (fun h132 e132 hs132 => ?_)
  refine fv_aload_n (k0 := 0) (i := 0) dd_X12_init_617 rfl rfl ?_
  refine fv_iconst (n := 5) (v := 5) dd_X12_init_618 (by decide) ?_
  refine fq_newaC (M := 5) hs132 ca_217 dd_X12_init_619 (by decide) (by decide) (by decide) (fun h133 e133 hs133 => ?_)
  refine fv_dup dd_X12_init_621 rfl ?_
  refine fv_iconst (n := 0) (v := 0) dd_X12_init_622 (by decide) ?_
  refine fv_bipush (n := 108) (v := 108) dd_X12_init_623 (by decide) ?_
  refine fq_cast (i0 := 0) hs133 ca_217 (by omega) dd_X12_init_625 (vp_in_nI (n := 0) (by decide) (by decide)) rfl rfl (fun h134 e134 hs134 => ?_)
  refine fv_dup dd_X12_init_626 rfl ?_
  refine fv_iconst (n := 1) (v := 1) dd_X12_init_627 (by decide) ?_
  refine fv_bipush (n := 105) (v := 105) dd_X12_init_628 (by decide) ?_
  refine fq_cast (i0 := 1) hs134 ca_217 (by omega) dd_X12_init_630 (vp_in_nI (n := 1) (by decide) (by decide)) rfl rfl (fun h135 e135 hs135 => ?_)
  refine fv_dup dd_X12_init_631 rfl ?_
  refine fv_iconst (n := 2) (v := 2) dd_X12_init_632 (by decide) ?_
  refine fv_bipush (n := 118) (v := 118) dd_X12_init_633 (by decide) ?_
  refine fq_cast (i0 := 2) hs135 ca_217 (by omega) dd_X12_init_635 (vp_in_nI (n := 2) (by decide) (by decide)) rfl rfl (fun h136 e136 hs136 => ?_)
  refine fv_dup dd_X12_init_636 rfl ?_
  refine fv_iconst (n := 3) (v := 3) dd_X12_init_637 (by decide) ?_
  refine fv_bipush (n := 101) (v := 101) dd_X12_init_638 (by decide) ?_
  refine fq_cast (i0 := 3) hs136 ca_217 (by omega) dd_X12_init_640 (vp_in_nI (n := 3) (by decide) (by decide)) rfl rfl (fun h137 e137 hs137 => ?_)
  refine fv_dup dd_X12_init_641 rfl ?_
  refine fv_iconst (n := 4) (v := 4) dd_X12_init_642 (by decide) ?_
  refine fv_bipush (n := 115) (v := 115) dd_X12_init_643 (by decide) ?_
  refine fq_cast (i0 := 4) hs137 ca_217 (by omega) dd_X12_init_645 (vp_in_nI (n := 4) (by decide) (by decide)) rfl rfl (fun h138 e138 hs138 => ?_)
  refine fq_putr (ci := 12) (j := 29) hs138 ca_196 (by omega) rfl dd_X12_init_646 pf_X12_75 (Or.inr ⟨_, rfl⟩) (fun h139 e139 hs139 => ?_)
  refine fv_aload_n (k0 := 0) (i := 0) dd_X12_init_649 rfl rfl ?_
  refine fv_iconst (n := 4) (v := 4) dd_X12_init_650 (by decide) ?_
  refine fq_newaC (M := 4) hs139 ca_218 dd_X12_init_651 (by decide) (by decide) (by decide) (fun h140 e140 hs140 => ?_)
  refine fv_dup dd_X12_init_653 rfl ?_
  refine fv_iconst (n := 0) (v := 0) dd_X12_init_654 (by decide) ?_
  refine fv_bipush (n := 104) (v := 104) dd_X12_init_655 (by decide) ?_
  refine fq_cast (i0 := 0) hs140 ca_218 (by omega) dd_X12_init_657 (vp_in_nI (n := 0) (by decide) (by decide)) rfl rfl (fun h141 e141 hs141 => ?_)
  refine fv_dup dd_X12_init_658 rfl ?_
  refine fv_iconst (n := 1) (v := 1) dd_X12_init_659 (by decide) ?_
  refine fv_bipush (n := 111) (v := 111) dd_X12_init_660 (by decide) ?_
  refine fq_cast (i0 := 1) hs141 ca_218 (by omega) dd_X12_init_662 (vp_in_nI (n := 1) (by decide) (by decide)) rfl rfl (fun h142 e142 hs142 => ?_)
  refine fv_dup dd_X12_init_663 rfl ?_
  refine fv_iconst (n := 2) (v := 2) dd_X12_init_664 (by decide) ?_
  refine fv_bipush (n := 109) (v := 109) dd_X12_init_665 (by decide) ?_
  refine fq_cast (i0 := 2) hs142 ca_218 (by omega) dd_X12_init_667 (vp_in_nI (n := 2) (by decide) (by decide)) rfl rfl (fun h143 e143 hs143 => ?_)
  refine fv_dup dd_X12_init_668 rfl ?_
  refine fv_iconst (n := 3) (v := 3) dd_X12_init_669 (by decide) ?_
  refine fv_bipush (n := 101) (v := 101) dd_X12_init_670 (by decide) ?_
  refine fq_cast (i0 := 3) hs143 ca_218 (by omega) dd_X12_init_672 (vp_in_nI (n := 3) (by decide) (by decide)) rfl rfl (fun h144 e144 hs144 => ?_)
  refine fq_putr (ci := 12) (j := 30) hs144 ca_196 (by omega) rfl dd_X12_init_673 pf_X12_78 (Or.inr ⟨_, rfl⟩) (fun h145 e145 hs145 => ?_)
  refine fv_aload_n (k0 := 0) (i := 0) dd_X12_init_676 rfl rfl ?_
  refine fv_iconst (n := 2) (v := 2) dd_X12_init_677 (by decide) ?_
  refine fq_newaC (M := 2) hs145 ca_219 dd_X12_init_678 (by decide) (by decide) (by decide) (fun h146 e146 hs146 => ?_)
  refine fv_dup dd_X12_init_680 rfl ?_
  refine fv_iconst (n := 0) (v := 0) dd_X12_init_681 (by decide) ?_
  refine fv_bipush (n := 111) (v := 111) dd_X12_init_682 (by decide) ?_
  refine fq_cast (i0 := 0) hs146 ca_219 (by omega) dd_X12_init_684 (vp_in_nI (n := 0) (by decide) (by decide)) rfl rfl (fun h147 e147 hs147 => ?_)
  refine fv_dup dd_X12_init_685 rfl ?_
  refine fv_iconst (n := 1) (v := 1) dd_X12_init_686 (by decide) ?_
  refine fv_bipush (n := 114) (v := 114) dd_X12_init_687 (by decide) ?_
  refine fq_cast (i0 := 1) hs147 ca_219 (by omega) dd_X12_init_689 (vp_in_nI (n := 1) (by decide) (by decide)) rfl rfl (fun h148 e148 hs148 => ?_)
  refine fq_putr (ci := 12) (j := 31) hs148 ca_196 (by omega) rfl dd_X12_init_690 pf_X12_81 (Or.inr ⟨_, rfl⟩) (fun h149 e149 hs149 => ?_)
  refine fv_aload_n (k0 := 0) (i := 0) dd_X12_init_693 rfl rfl ?_
  refine fv_iconst (n := 3) (v := 3) dd_X12_init_694 (by decide) ?_
  refine fq_newaC (M := 3) hs149 ca_220 dd_X12_init_695 (by decide) (by decide) (by decide) (fun h150 e150 hs150 => ?_)
  refine fv_dup dd_X12_init_697 rfl ?_
  refine fv_iconst (n := 0) (v := 0) dd_X12_init_698 (by decide) ?_
  refine fv_bipush (n := 97) (v := 97) dd_X12_init_699 (by decide) ?_
  refine fq_cast (i0 := 0) hs150 ca_220 (by omega) dd_X12_init_701 (vp_in_nI (n := 0) (by decide) (by decide)) rfl rfl (fun h151 e151 hs151 => ?_)
  refine fv_dup dd_X12_init_702 rfl ?_
  refine fv_iconst (n := 1) (v := 1) dd_X12_init_703 (by decide) ?_
  refine fv_bipush (n := 110) (v := 110) dd_X12_init_704 (by decide) ?_
  refine fq_cast (i0 := 1) hs151 ca_220 (by omega) dd_X12_init_706 (vp_in_nI (n := 1) (by decide) (by decide)) rfl rfl (fun h152 e152 hs152 => ?_)
  refine fv_dup dd_X12_init_707 rfl ?_
  refine fv_iconst (n := 2) (v := 2) dd_X12_init_708 (by decide) ?_
  refine fv_bipush (n := 100) (v := 100) dd_X12_init_709 (by decide) ?_
  refine fq_cast (i0 := 2) hs152 ca_220 (by omega) dd_X12_init_711 (vp_in_nI (n := 2) (by decide) (by decide)) rfl rfl (fun h153 e153 hs153 => ?_)
  refine fq_putr (ci := 12) (j := 32) hs153 ca_196 (by omega) rfl dd_X12_init_712 pf_X12_84 (Or.inr ⟨_, rfl⟩) (fun h154 e154 hs154 => ?_)
  refine fv_aload_n (k0 := 0) (i := 0) dd_X12_init_715 rfl rfl ?_
  refine fv_iconst (n := 3) (v := 3) dd_X12_init_716 (by decide) ?_
  refine fq_newaC (M := 3) hs154 ca_221 dd_X12_init_717 (by decide) (by decide) (by decide) (fun h155 e155 hs155 => ?_)
  refine fv_dup dd_X12_init_719 rfl ?_
  refine fv_iconst (n := 0) (v := 0) dd_X12_init_720 (by decide) ?_
  refine fv_bipush (n := 110) (v := 110) dd_X12_init_721 (by decide) ?_
  refine fq_cast (i0 := 0) hs155 ca_221 (by omega) dd_X12_init_723 (vp_in_nI (n := 0) (by decide) (by decide)) rfl rfl (fun h156 e156 hs156 => ?_)
  refine fv_dup dd_X12_init_724 rfl ?_
  refine fv_iconst (n := 1) (v := 1) dd_X12_init_725 (by decide) ?_
  refine fv_bipush (n := 111) (v := 111) dd_X12_init_726 (by decide) ?_
  refine fq_cast (i0 := 1) hs156 ca_221 (by omega) dd_X12_init_728 (vp_in_nI (n := 1) (by decide) (by decide)) rfl rfl (fun h157 e157 hs157 => ?_)
  refine fv_dup dd_X12_init_729 rfl ?_
  refine fv_iconst (n := 2) (v := 2) dd_X12_init_730 (by decide) ?_
  refine fv_bipush (n := 116) (v := 116) dd_X12_init_731 (by decide) ?_
  refine fq_cast (i0 := 2) hs157 ca_221 (by omega) dd_X12_init_733 (vp_in_nI (n := 2) (by decide) (by decide)) rfl rfl (fun h158 e158 hs158 => ?_)
  refine fq_putr (ci := 12) (j := 33) hs158 ca_196 (by omega) rfl dd_X12_init_734 pf_X12_87 (Or.inr ⟨_, rfl⟩) (fun h159 e159 hs159 => ?_)
  refine fv_aload_n (k0 := 0) (i := 0) dd_X12_init_737 rfl rfl ?_
  refine fv_iconst (n := 3) (v := 3) dd_X12_init_738 (by decide) ?_
  refine fq_newaC (M := 3) hs159 ca_222 dd_X12_init_739 (by decide) (by decide) (by decide) (fun h160 e160 hs160 => ?_)
  refine fv_dup dd_X12_init_741 rfl ?_
  refine fv_iconst (n := 0) (v := 0) dd_X12_init_742 (by decide) ?_
  refine fv_bipush (n := 97) (v := 97) dd_X12_init_743 (by decide) ?_
  refine fq_cast (i0 := 0) hs160 ca_222 (by omega) dd_X12_init_745 (vp_in_nI (n := 0) (by decide) (by decide)) rfl rfl (fun h161 e161 hs161 => ?_)
  refine fv_dup dd_X12_init_746 rfl ?_
  refine fv_iconst (n := 1) (v := 1) dd_X12_init_747 (by decide) ?_
  refine fv_bipush (n := 108) (v := 108) dd_X12_init_748 (by decide) ?_
  refine fq_cast (i0 := 1) hs161 ca_222 (by omega) dd_X12_init_750 (vp_in_nI (n := 1) (by decide) (by decide)) rfl rfl (fun h162 e162 hs162 => ?_)
  refine fv_dup dd_X12_init_751 rfl ?_
  refine fv_iconst (n := 2) (v := 2) dd_X12_init_752 (by decide) ?_
  refine fv_bipush (n := 108) (v := 108) dd_X12_init_753 (by decide) ?_
  refine fq_cast (i0 := 2) hs162 ca_222 (by omega) dd_X12_init_755 (vp_in_nI (n := 2) (by decide) (by decide)) rfl rfl (fun h163 e163 hs163 => ?_)
  refine fq_putr (ci := 12) (j := 34) hs163 ca_196 (by omega) rfl dd_X12_init_756 pf_X12_90 (Or.inr ⟨_, rfl⟩) (fun h164 e164 hs164 => ?_)
  refine fv_aload_n (k0 := 0) (i := 0) dd_X12_init_759 rfl rfl ?_
  refine fv_iconst (n := 3) (v := 3) dd_X12_init_760 (by decide) ?_
  refine fq_newaC (M := 3) hs164 ca_223 dd_X12_init_761 (by decide) (by decide) (by decide) (fun h165 e165 hs165 => ?_)
  refine fv_dup dd_X12_init_763 rfl ?_
  refine fv_iconst (n := 0) (v := 0) dd_X12_init_764 (by decide) ?_
  refine fv_bipush (n := 109) (v := 109) dd_X12_init_765 (by decide) ?_
  refine fq_cast (i0 := 0) hs165 ca_223 (by omega) dd_X12_init_767 (vp_in_nI (n := 0) (by decide) (by decide)) rfl rfl (fun h166 e166 hs166 => ?_)
  refine fv_dup dd_X12_init_768 rfl ?_
  refine fv_iconst (n := 1) (v := 1) dd_X12_init_769 (by decide) ?_
  refine fv_bipush (n := 105) (v := 105) dd_X12_init_770 (by decide) ?_
  refine fq_cast (i0 := 1) hs166 ca_223 (by omega) dd_X12_init_772 (vp_in_nI (n := 1) (by decide) (by decide)) rfl rfl (fun h167 e167 hs167 => ?_)
  refine fv_dup dd_X12_init_773 rfl ?_
  refine fv_iconst (n := 2) (v := 2) dd_X12_init_774 (by decide) ?_
  refine fv_bipush (n := 110) (v := 110) dd_X12_init_775 (by decide) ?_
  refine fq_cast (i0 := 2) hs167 ca_223 (by omega) dd_X12_init_777 (vp_in_nI (n := 2) (by decide) (by decide)) rfl rfl (fun h168 e168 hs168 => ?_)
  refine fq_putr (ci := 12) (j := 35) hs168 ca_196 (by omega) rfl dd_X12_init_778 pf_X12_93 (Or.inr ⟨_, rfl⟩) (fun h169 e169 hs169 => ?_)
  refine fv_aload_n (k0 := 0) (i := 0) dd_X12_init_781 rfl rfl ?_
  refine fv_iconst (n := 3) (v := 3) dd_X12_init_782 (by decide) ?_
  refine fq_newaC (M := 3) hs169 ca_224 dd_X12_init_783 (by decide) (by decide) (by decide) (fun h170 e170 hs170 => ?_)
  refine fv_dup dd_X12_init_785 rfl ?_
  refine fv_iconst (n := 0) (v := 0) dd_X12_init_786 (by decide) ?_
  refine fv_bipush (n := 109) (v := 109) dd_X12_init_787 (by decide) ?_
  refine fq_cast (i0 := 0) hs170 ca_224 (by omega) dd_X12_init_789 (vp_in_nI (n := 0) (by decide) (by decide)) rfl rfl (fun h171 e171 hs171 => ?_)
  refine fv_dup dd_X12_init_790 rfl ?_
  refine fv_iconst (n := 1) (v := 1) dd_X12_init_791 (by decide) ?_
  refine fv_bipush (n := 97) (v := 97) dd_X12_init_792 (by decide) ?_
  refine fq_cast (i0 := 1) hs171 ca_224 (by omega) dd_X12_init_794 (vp_in_nI (n := 1) (by decide) (by decide)) rfl rfl (fun h172 e172 hs172 => ?_)
  refine fv_dup dd_X12_init_795 rfl ?_
  refine fv_iconst (n := 2) (v := 2) dd_X12_init_796 (by decide) ?_
  refine fv_bipush (n := 120) (v := 120) dd_X12_init_797 (by decide) ?_
  refine fq_cast (i0 := 2) hs172 ca_224 (by omega) dd_X12_init_799 (vp_in_nI (n := 2) (by decide) (by decide)) rfl rfl (fun h173 e173 hs173 => ?_)
  refine fq_putr (ci := 12) (j := 36) hs173 ca_196 (by omega) rfl dd_X12_init_800 pf_X12_96 (Or.inr ⟨_, rfl⟩) (fun h174 e174 hs174 => ?_)
  refine fv_aload_n (k0 := 0) (i := 0) dd_X12_init_803 rfl rfl ?_
  refine fv_bipush (n := 20) (v := 20) dd_X12_init_804 (by decide) ?_
  refine fq_newaJ (M := 20) hs174 ca_225 dd_X12_init_806 (by decide) (by decide) (by decide) (fun h175 e175 hs175 => ?_)
  refine fq_putr (ci := 12) (j := 41) hs175 ca_196 (by omega) rfl dd_X12_init_808 pf_X12_99 (Or.inr ⟨_, rfl⟩) (fun h176 e176 hs176 => ?_)
  refine fv_aload_n (k0 := 0) (i := 0) dd_X12_init_811 rfl rfl ?_
  refine fv_iconst (n := 4) (v := 4) dd_X12_init_812 (by decide) ?_
  refine fq_newaI (M := 4) hs176 ca_226 dd_X12_init_813 (by decide) (by decide) (by decide) (fun h177 e177 hs177 => ?_)
  refine fq_putr (ci := 12) (j := 42) hs177 ca_196 (by omega) rfl dd_X12_init_815 pf_X12_103 (Or.inr ⟨_, rfl⟩) (fun h178 e178 hs178 => ?_)
  refine fv_aload_n (k0 := 0) (i := 0) dd_X12_init_818 rfl rfl ?_
  refine fv_bipush (n := 48) (v := 48) dd_X12_init_819 (by decide) ?_
  refine fq_newaI (M := 48) hs178 ca_227 dd_X12_init_821 (by decide) (by decide) (by decide) (fun h179 e179 hs179 => ?_)
  refine fq_putr (ci := 12) (j := 43) hs179 ca_196 (by omega) rfl dd_X12_init_823 pf_X12_106 (Or.inr ⟨_, rfl⟩) (fun h180 e180 hs180 => ?_)
  refine fv_aload_n (k0 := 0) (i := 0) dd_X12_init_826 rfl rfl ?_
  refine fv_bipush (n := 8) (v := 8) dd_X12_init_827 (by decide) ?_
  refine fq_newaI (M := 8) hs180 ca_228 dd_X12_init_829 (by decide) (by decide) (by decide) (fun h181 e181 hs181 => ?_)
  refine fq_putr (ci := 12) (j := 44) hs181 ca_196 (by omega) rfl dd_X12_init_831 pf_X12_109 (Or.inr ⟨_, rfl⟩) (fun h182 e182 hs182 => ?_)
  refine fv_aload_n (k0 := 0) (i := 0) dd_X12_init_834 rfl rfl ?_
  refine fv_bipush (n := 10) (v := 10) dd_X12_init_835 (by decide) ?_
  refine fq_newaI (M := 10) hs182 ca_229 dd_X12_init_837 (by decide) (by decide) (by decide) (fun h183 e183 hs183 => ?_)
  refine fv_dup dd_X12_init_839 rfl ?_
  refine fv_iconst (n := 0) (v := 0) dd_X12_init_840 (by decide) ?_
  refine fv_iconst (n := -1) (v := -1) dd_X12_init_841 (by decide) ?_
  refine fq_iast (i0 := 0) hs183 ca_229 (by omega) dd_X12_init_842 (vp_in_nI (n := 0) (by decide) (by decide)) rfl (fun h184 e184 hs184 => ?_)
  refine fv_dup dd_X12_init_843 rfl ?_
  refine fv_iconst (n := 1) (v := 1) dd_X12_init_844 (by decide) ?_
  refine fv_iconst (n := -1) (v := -1) dd_X12_init_845 (by decide) ?_
  refine fq_iast (i0 := 1) hs184 ca_229 (by omega) dd_X12_init_846 (vp_in_nI (n := 1) (by decide) (by decide)) rfl (fun h185 e185 hs185 => ?_)
  refine fv_dup dd_X12_init_847 rfl ?_
  refine fv_iconst (n := 2) (v := 2) dd_X12_init_848 (by decide) ?_
  refine fv_iconst (n := -1) (v := -1) dd_X12_init_849 (by decide) ?_
  refine fq_iast (i0 := 2) hs185 ca_229 (by omega) dd_X12_init_850 (vp_in_nI (n := 2) (by decide) (by decide)) rfl (fun h186 e186 hs186 => ?_)
  refine fv_dup dd_X12_init_851 rfl ?_
  refine fv_iconst (n := 3) (v := 3) dd_X12_init_852 (by decide) ?_
  refine fv_iconst (n := -1) (v := -1) dd_X12_init_853 (by decide) ?_
  refine fq_iast (i0 := 3) hs186 ca_229 (by omega) dd_X12_init_854 (vp_in_nI (n := 3) (by decide) (by decide)) rfl (fun h187 e187 hs187 => ?_)
  refine fv_dup dd_X12_init_855 rfl ?_
  refine fv_iconst (n := 4) (v := 4) dd_X12_init_856 (by decide) ?_
  refine fv_iconst (n := -1) (v := -1) dd_X12_init_857 (by decide) ?_
  refine fq_iast (i0 := 4) hs187 ca_229 (by omega) dd_X12_init_858 (vp_in_nI (n := 4) (by decide) (by decide)) rfl (fun h188 e188 hs188 => ?_)
  refine fv_dup dd_X12_init_859 rfl ?_
  refine fv_iconst (n := 5) (v := 5) dd_X12_init_860 (by decide) ?_
  refine fv_iconst (n := -1) (v := -1) dd_X12_init_861 (by decide) ?_
  refine fq_iast (i0 := 5) hs188 ca_229 (by omega) dd_X12_init_862 (vp_in_nI (n := 5) (by decide) (by decide)) rfl (fun h189 e189 hs189 => ?_)
  refine fv_dup dd_X12_init_863 rfl ?_
  refine fv_bipush (n := 6) (v := 6) dd_X12_init_864 (by decide) ?_
  refine fv_iconst (n := -1) (v := -1) dd_X12_init_866 (by decide) ?_
  refine fq_iast (i0 := 6) hs189 ca_229 (by omega) dd_X12_init_867 (vp_in_nI (n := 6) (by decide) (by decide)) rfl (fun h190 e190 hs190 => ?_)
  refine fv_dup dd_X12_init_868 rfl ?_
  refine fv_bipush (n := 7) (v := 7) dd_X12_init_869 (by decide) ?_
  refine fv_iconst (n := -1) (v := -1) dd_X12_init_871 (by decide) ?_
  refine fq_iast (i0 := 7) hs190 ca_229 (by omega) dd_X12_init_872 (vp_in_nI (n := 7) (by decide) (by decide)) rfl (fun h191 e191 hs191 => ?_)
  refine fv_dup dd_X12_init_873 rfl ?_
  refine fv_bipush (n := 8) (v := 8) dd_X12_init_874 (by decide) ?_
  refine fv_iconst (n := -1) (v := -1) dd_X12_init_876 (by decide) ?_
  refine fq_iast (i0 := 8) hs191 ca_229 (by omega) dd_X12_init_877 (vp_in_nI (n := 8) (by decide) (by decide)) rfl (fun h192 e192 hs192 => ?_)
  refine fv_dup dd_X12_init_878 rfl ?_
  refine fv_bipush (n := 9) (v := 9) dd_X12_init_879 (by decide) ?_
  refine fv_iconst (n := -1) (v := -1) dd_X12_init_881 (by decide) ?_
  refine fq_iast (i0 := 9) hs192 ca_229 (by omega) dd_X12_init_882 (vp_in_nI (n := 9) (by decide) (by decide)) rfl (fun h193 e193 hs193 => ?_)
  refine fq_putr (ci := 12) (j := 47) hs193 ca_196 (by omega) rfl dd_X12_init_883 pf_X12_112 (Or.inr ⟨_, rfl⟩) (fun h194 e194 hs194 => ?_)
  refine fv_aload_n (k0 := 0) (i := 0) dd_X12_init_886 rfl rfl ?_
  refine fv_bipush (n := 10) (v := 10) dd_X12_init_887 (by decide) ?_
  refine fq_newaI (M := 10) hs194 ca_230 dd_X12_init_889 (by decide) (by decide) (by decide) (fun h195 e195 hs195 => ?_)
  refine fq_putr (ci := 12) (j := 48) hs195 ca_196 (by omega) rfl dd_X12_init_891 pf_X12_115 (Or.inr ⟨_, rfl⟩) (fun h196 e196 hs196 => ?_)
  refine fv_aload_n (k0 := 0) (i := 0) dd_X12_init_894 rfl rfl ?_
  refine fv_sipush (n := 3200) (v := 3200) dd_X12_init_895 (by decide) ?_
  refine fq_newaI (M := 3200) hs196 ca_231 dd_X12_init_898 (by decide) (by decide) (by decide) (fun h197 e197 hs197 => ?_)
  refine fq_putr (ci := 12) (j := 49) hs197 ca_196 (by omega) rfl dd_X12_init_900 pf_X12_118 (Or.inr ⟨_, rfl⟩) (fun h198 e198 hs198 => ?_)
  refine fv_aload_n (k0 := 0) (i := 0) dd_X12_init_903 rfl rfl ?_
  refine fv_sipush (n := 150) (v := 150) dd_X12_init_904 (by decide) ?_
  refine fq_newaI (M := 150) hs198 ca_232 dd_X12_init_907 (by decide) (by decide) (by decide) (fun h199 e199 hs199 => ?_)
  refine fq_putr (ci := 12) (j := 54) hs199 ca_196 (by omega) rfl dd_X12_init_909 pf_X12_121 (Or.inr ⟨_, rfl⟩) (fun h200 e200 hs200 => ?_)
  refine fv_aload_n (k0 := 0) (i := 0) dd_X12_init_912 rfl rfl ?_
  refine fv_bipush (n := 29) (v := 29) dd_X12_init_913 (by decide) ?_
  refine fq_newaI (M := 29) hs200 ca_233 dd_X12_init_915 (by decide) (by decide) (by decide) (fun h201 e201 hs201 => ?_)
  refine fq_putr (ci := 12) (j := 55) hs201 ca_196 (by omega) rfl dd_X12_init_917 pf_X12_124 (Or.inr ⟨_, rfl⟩) (fun h202 e202 hs202 => ?_)
  refine fv_aload_n (k0 := 0) (i := 0) dd_X12_init_920 rfl rfl ?_
  refine fv_bipush (n := 16) (v := 16) dd_X12_init_921 (by decide) ?_
  refine fq_newaJ (M := 16) hs202 ca_234 dd_X12_init_923 (by decide) (by decide) (by decide) (fun h203 e203 hs203 => ?_)
  refine fq_putr (ci := 12) (j := 57) hs203 ca_196 (by omega) rfl dd_X12_init_925 pf_X12_127 (Or.inr ⟨_, rfl⟩) (fun h204 e204 hs204 => ?_)
  refine fv_aload_n (k0 := 0) (i := 0) dd_X12_init_928 rfl rfl ?_
  refine fv_iconst (n := 2) (v := 2) dd_X12_init_929 (by decide) ?_
  refine fq_newaI (M := 2) hs204 ca_235 dd_X12_init_930 (by decide) (by decide) (by decide) (fun h205 e205 hs205 => ?_)
  refine fq_putr (ci := 12) (j := 60) hs205 ca_196 (by omega) rfl dd_X12_init_932 pf_X12_130 (Or.inr ⟨_, rfl⟩) (fun h206 e206 hs206 => ?_)
  refine fv_aload_n (k0 := 0) (i := 0) dd_X12_init_935 rfl rfl ?_
  refine fv_sipush (n := 128) (v := 128) dd_X12_init_936 (by decide) ?_
  refine fq_newaI (M := 128) hs206 ca_236 dd_X12_init_939 (by decide) (by decide) (by decide) (fun h207 e207 hs207 => ?_)
  refine fq_putr (ci := 12) (j := 61) hs207 ca_196 (by omega) rfl dd_X12_init_941 pf_X12_133 (Or.inr ⟨_, rfl⟩) (fun h208 e208 hs208 => ?_)
  refine fv_aload_n (k0 := 0) (i := 0) dd_X12_init_944 rfl rfl ?_
  refine fv_iconst (n := 2) (v := 2) dd_X12_init_945 (by decide) ?_
  refine fq_newaI (M := 2) hs208 ca_237 dd_X12_init_946 (by decide) (by decide) (by decide) (fun h209 e209 hs209 => ?_)
  refine fq_putr (ci := 12) (j := 62) hs209 ca_196 (by omega) rfl dd_X12_init_948 pf_X12_136 (Or.inr ⟨_, rfl⟩) (fun h210 e210 hs210 => ?_)
  refine fv_aload_n (k0 := 0) (i := 0) dd_X12_init_951 rfl rfl ?_
  refine fv_bipush (n := 27) (v := 27) dd_X12_init_952 (by decide) ?_
  refine fq_newaI (M := 27) hs210 ca_238 dd_X12_init_954 (by decide) (by decide) (by decide) (fun h211 e211 hs211 => ?_)
  refine fq_putr (ci := 12) (j := 63) hs211 ca_196 (by omega) rfl dd_X12_init_956 pf_X12_139 (Or.inr ⟨_, rfl⟩) (fun h212 e212 hs212 => ?_)
  refine fv_aload_n (k0 := 0) (i := 0) dd_X12_init_959 rfl rfl ?_
  refine fv_iconst (n := 3) (v := 3) dd_X12_init_960 (by decide) ?_
  refine fq_newaI (M := 3) hs212 ca_239 dd_X12_init_961 (by decide) (by decide) (by decide) (fun h213 e213 hs213 => ?_)
  refine fq_putr (ci := 12) (j := 65) hs213 ca_196 (by omega) rfl dd_X12_init_963 pf_X12_142 (Or.inr ⟨_, rfl⟩) (fun h214 e214 hs214 => ?_)
  refine fv_aload_n (k0 := 0) (i := 0) dd_X12_init_966 rfl rfl ?_
  refine fv_bipush (n := 48) (v := 48) dd_X12_init_967 (by decide) ?_
  refine fq_newaI (M := 48) hs214 ca_240 dd_X12_init_969 (by decide) (by decide) (by decide) (fun h215 e215 hs215 => ?_)
  refine fq_putr (ci := 12) (j := 67) hs215 ca_196 (by omega) rfl dd_X12_init_971 pf_X12_145 (Or.inr ⟨_, rfl⟩) (fun h216 e216 hs216 => ?_)
  refine fv_aload_n (k0 := 0) (i := 0) dd_X12_init_974 rfl rfl ?_
  refine fv_sipush (n := 620) (v := 620) dd_X12_init_975 (by decide) ?_
  refine fq_newaI (M := 620) hs216 ca_241 dd_X12_init_978 (by decide) (by decide) (by decide) (fun h217 e217 hs217 => ?_)
  refine fq_putr (ci := 12) (j := 68) hs217 ca_196 (by omega) rfl dd_X12_init_980 pf_X12_148 (Or.inr ⟨_, rfl⟩) (fun h218 e218 hs218 => ?_)
  refine fv_aload_n (k0 := 0) (i := 0) dd_X12_init_983 rfl rfl ?_
  refine fv_bipush (n := 10) (v := 10) dd_X12_init_984 (by decide) ?_
  refine fq_newaZ (M := 10) hs218 ca_242 dd_X12_init_986 (by decide) (by decide) (by decide) (fun h219 e219 hs219 => ?_)
  refine fq_putr (ci := 12) (j := 69) hs219 ca_196 (by omega) rfl dd_X12_init_988 pf_X12_151 (Or.inr ⟨_, rfl⟩) (fun h220 e220 hs220 => ?_)
  refine fv_aload_n (k0 := 0) (i := 0) dd_X12_init_991 rfl rfl ?_
  refine fv_sipush (n := 3000) (v := 3000) dd_X12_init_992 (by decide) ?_
  refine fq_newaI (M := 3000) hs220 ca_243 dd_X12_init_995 (by decide) (by decide) (by decide) (fun h221 e221 hs221 => ?_)
  refine fq_putr (ci := 12) (j := 71) hs221 ca_196 (by omega) rfl dd_X12_init_997 pf_X12_155 (Or.inr ⟨_, rfl⟩) (fun h222 e222 hs222 => ?_)
  refine fv_aload_n (k0 := 0) (i := 0) dd_X12_init_1000 rfl rfl ?_
  refine fv_lconst (n := 1) (v := 1) dd_X12_init_1001 (by decide) ?_
  refine fq_putl (ci := 12) (j := 74) hs222 ca_196 (by omega) rfl dd_X12_init_1002 pf_X12_158 rfl (fun h223 e223 hs223 => ?_)
  refine fv_aload_n (k0 := 0) (i := 0) dd_X12_init_1005 rfl rfl ?_
  refine fv_iconst (n := 5) (v := 5) dd_X12_init_1006 (by decide) ?_
  refine fq_newaC (M := 5) hs223 ca_244 dd_X12_init_1007 (by decide) (by decide) (by decide) (fun h224 e224 hs224 => ?_)
  refine fv_dup dd_X12_init_1009 rfl ?_
  refine fv_iconst (n := 0) (v := 0) dd_X12_init_1010 (by decide) ?_
  refine fv_bipush (n := 102) (v := 102) dd_X12_init_1011 (by decide) ?_
  refine fq_cast (i0 := 0) hs224 ca_244 (by omega) dd_X12_init_1013 (vp_in_nI (n := 0) (by decide) (by decide)) rfl rfl (fun h225 e225 hs225 => ?_)
  refine fv_dup dd_X12_init_1014 rfl ?_
  refine fv_iconst (n := 1) (v := 1) dd_X12_init_1015 (by decide) ?_
  refine fv_bipush (n := 105) (v := 105) dd_X12_init_1016 (by decide) ?_
  refine fq_cast (i0 := 1) hs225 ca_244 (by omega) dd_X12_init_1018 (vp_in_nI (n := 1) (by decide) (by decide)) rfl rfl (fun h226 e226 hs226 => ?_)
  refine fv_dup dd_X12_init_1019 rfl ?_
  refine fv_iconst (n := 2) (v := 2) dd_X12_init_1020 (by decide) ?_
  refine fv_bipush (n := 114) (v := 114) dd_X12_init_1021 (by decide) ?_
  refine fq_cast (i0 := 2) hs226 ca_244 (by omega) dd_X12_init_1023 (vp_in_nI (n := 2) (by decide) (by decide)) rfl rfl (fun h227 e227 hs227 => ?_)
  refine fv_dup dd_X12_init_1024 rfl ?_
  refine fv_iconst (n := 3) (v := 3) dd_X12_init_1025 (by decide) ?_
  refine fv_bipush (n := 115) (v := 115) dd_X12_init_1026 (by decide) ?_
  refine fq_cast (i0 := 3) hs227 ca_244 (by omega) dd_X12_init_1028 (vp_in_nI (n := 3) (by decide) (by decide)) rfl rfl (fun h228 e228 hs228 => ?_)
  refine fv_dup dd_X12_init_1029 rfl ?_
  refine fv_iconst (n := 4) (v := 4) dd_X12_init_1030 (by decide) ?_
  refine fv_bipush (n := 116) (v := 116) dd_X12_init_1031 (by decide) ?_
  refine fq_cast (i0 := 4) hs228 ca_244 (by omega) dd_X12_init_1033 (vp_in_nI (n := 4) (by decide) (by decide)) rfl rfl (fun h229 e229 hs229 => ?_)
  refine fq_putr (ci := 12) (j := 75) hs229 ca_196 (by omega) rfl dd_X12_init_1034 pf_X12_162 (Or.inr ⟨_, rfl⟩) (fun h230 e230 hs230 => ?_)
  refine fv_aload_n (k0 := 0) (i := 0) dd_X12_init_1037 rfl rfl ?_
  refine fv_iconst (n := 4) (v := 4) dd_X12_init_1038 (by decide) ?_
  refine fq_newaC (M := 4) hs230 ca_245 dd_X12_init_1039 (by decide) (by decide) (by decide) (fun h231 e231 hs231 => ?_)
  refine fv_dup dd_X12_init_1041 rfl ?_
  refine fv_iconst (n := 0) (v := 0) dd_X12_init_1042 (by decide) ?_
  refine fv_bipush (n := 108) (v := 108) dd_X12_init_1043 (by decide) ?_
  refine fq_cast (i0 := 0) hs231 ca_245 (by omega) dd_X12_init_1045 (vp_in_nI (n := 0) (by decide) (by decide)) rfl rfl (fun h232 e232 hs232 => ?_)
  refine fv_dup dd_X12_init_1046 rfl ?_
  refine fv_iconst (n := 1) (v := 1) dd_X12_init_1047 (by decide) ?_
  refine fv_bipush (n := 97) (v := 97) dd_X12_init_1048 (by decide) ?_
  refine fq_cast (i0 := 1) hs232 ca_245 (by omega) dd_X12_init_1050 (vp_in_nI (n := 1) (by decide) (by decide)) rfl rfl (fun h233 e233 hs233 => ?_)
  refine fv_dup dd_X12_init_1051 rfl ?_
  refine fv_iconst (n := 2) (v := 2) dd_X12_init_1052 (by decide) ?_
  refine fv_bipush (n := 115) (v := 115) dd_X12_init_1053 (by decide) ?_
  refine fq_cast (i0 := 2) hs233 ca_245 (by omega) dd_X12_init_1055 (vp_in_nI (n := 2) (by decide) (by decide)) rfl rfl (fun h234 e234 hs234 => ?_)
  refine fv_dup dd_X12_init_1056 rfl ?_
  refine fv_iconst (n := 3) (v := 3) dd_X12_init_1057 (by decide) ?_
  refine fv_bipush (n := 116) (v := 116) dd_X12_init_1058 (by decide) ?_
  refine fq_cast (i0 := 3) hs234 ca_245 (by omega) dd_X12_init_1060 (vp_in_nI (n := 3) (by decide) (by decide)) rfl rfl (fun h235 e235 hs235 => ?_)
  refine fq_putr (ci := 12) (j := 76) hs235 ca_196 (by omega) rfl dd_X12_init_1061 pf_X12_165 (Or.inr ⟨_, rfl⟩) (fun h236 e236 hs236 => ?_)
  refine fv_aload_n (k0 := 0) (i := 0) dd_X12_init_1064 rfl rfl ?_
  refine fv_iconst (n := 5) (v := 5) dd_X12_init_1065 (by decide) ?_
  refine fq_newaC (M := 5) hs236 ca_246 dd_X12_init_1066 (by decide) (by decide) (by decide) (fun h237 e237 hs237 => ?_)
  refine fv_dup dd_X12_init_1068 rfl ?_
  refine fv_iconst (n := 0) (v := 0) dd_X12_init_1069 (by decide) ?_
  refine fv_bipush (n := 111) (v := 111) dd_X12_init_1070 (by decide) ?_
  refine fq_cast (i0 := 0) hs237 ca_246 (by omega) dd_X12_init_1072 (vp_in_nI (n := 0) (by decide) (by decide)) rfl rfl (fun h238 e238 hs238 => ?_)
  refine fv_dup dd_X12_init_1073 rfl ?_
  refine fv_iconst (n := 1) (v := 1) dd_X12_init_1074 (by decide) ?_
  refine fv_bipush (n := 102) (v := 102) dd_X12_init_1075 (by decide) ?_
  refine fq_cast (i0 := 1) hs238 ca_246 (by omega) dd_X12_init_1077 (vp_in_nI (n := 1) (by decide) (by decide)) rfl rfl (fun h239 e239 hs239 => ?_)
  refine fv_dup dd_X12_init_1078 rfl ?_
  refine fv_iconst (n := 2) (v := 2) dd_X12_init_1079 (by decide) ?_
  refine fv_bipush (n := 116) (v := 116) dd_X12_init_1080 (by decide) ?_
  refine fq_cast (i0 := 2) hs239 ca_246 (by omega) dd_X12_init_1082 (vp_in_nI (n := 2) (by decide) (by decide)) rfl rfl (fun h240 e240 hs240 => ?_)
  refine fv_dup dd_X12_init_1083 rfl ?_
  refine fv_iconst (n := 3) (v := 3) dd_X12_init_1084 (by decide) ?_
  refine fv_bipush (n := 101) (v := 101) dd_X12_init_1085 (by decide) ?_
  refine fq_cast (i0 := 3) hs240 ca_246 (by omega) dd_X12_init_1087 (vp_in_nI (n := 3) (by decide) (by decide)) rfl rfl (fun h241 e241 hs241 => ?_)
  refine fv_dup dd_X12_init_1088 rfl ?_
  refine fv_iconst (n := 4) (v := 4) dd_X12_init_1089 (by decide) ?_
  refine fv_bipush (n := 110) (v := 110) dd_X12_init_1090 (by decide) ?_
  refine fq_cast (i0 := 4) hs241 ca_246 (by omega) dd_X12_init_1092 (vp_in_nI (n := 4) (by decide) (by decide)) rfl rfl (fun h242 e242 hs242 => ?_)
  refine fq_putr (ci := 12) (j := 77) hs242 ca_196 (by omega) rfl dd_X12_init_1093 pf_X12_168 (Or.inr ⟨_, rfl⟩) (fun h243 e243 hs243 => ?_)
  refine fv_aload_n (k0 := 0) (i := 0) dd_X12_init_1096 rfl rfl ?_
  refine fv_iconst (n := 5) (v := 5) dd_X12_init_1097 (by decide) ?_
  refine fq_newaC (M := 5) hs243 ca_247 dd_X12_init_1098 (by decide) (by decide) (by decide) (fun h244 e244 hs244 => ?_)
  refine fv_dup dd_X12_init_1100 rfl ?_
  refine fv_iconst (n := 0) (v := 0) dd_X12_init_1101 (by decide) ?_
  refine fv_bipush (n := 116) (v := 116) dd_X12_init_1102 (by decide) ?_
  refine fq_cast (i0 := 0) hs244 ca_247 (by omega) dd_X12_init_1104 (vp_in_nI (n := 0) (by decide) (by decide)) rfl rfl (fun h245 e245 hs245 => ?_)
  refine fv_dup dd_X12_init_1105 rfl ?_
  refine fv_iconst (n := 1) (v := 1) dd_X12_init_1106 (by decide) ?_
  refine fv_bipush (n := 111) (v := 111) dd_X12_init_1107 (by decide) ?_
  refine fq_cast (i0 := 1) hs245 ca_247 (by omega) dd_X12_init_1109 (vp_in_nI (n := 1) (by decide) (by decide)) rfl rfl (fun h246 e246 hs246 => ?_)
  refine fv_dup dd_X12_init_1110 rfl ?_
  refine fv_iconst (n := 2) (v := 2) dd_X12_init_1111 (by decide) ?_
  refine fv_bipush (n := 116) (v := 116) dd_X12_init_1112 (by decide) ?_
  refine fq_cast (i0 := 2) hs246 ca_247 (by omega) dd_X12_init_1114 (vp_in_nI (n := 2) (by decide) (by decide)) rfl rfl (fun h247 e247 hs247 => ?_)
  refine fv_dup dd_X12_init_1115 rfl ?_
  refine fv_iconst (n := 3) (v := 3) dd_X12_init_1116 (by decide) ?_
  refine fv_bipush (n := 97) (v := 97) dd_X12_init_1117 (by decide) ?_
  refine fq_cast (i0 := 3) hs247 ca_247 (by omega) dd_X12_init_1119 (vp_in_nI (n := 3) (by decide) (by decide)) rfl rfl (fun h248 e248 hs248 => ?_)
  refine fv_dup dd_X12_init_1120 rfl ?_
  refine fv_iconst (n := 4) (v := 4) dd_X12_init_1121 (by decide) ?_
  refine fv_bipush (n := 108) (v := 108) dd_X12_init_1122 (by decide) ?_
  refine fq_cast (i0 := 4) hs248 ca_247 (by omega) dd_X12_init_1124 (vp_in_nI (n := 4) (by decide) (by decide)) rfl rfl (fun h249 e249 hs249 => ?_)
  refine fq_putr (ci := 12) (j := 78) hs249 ca_196 (by omega) rfl dd_X12_init_1125 pf_X12_171 (Or.inr ⟨_, rfl⟩) (fun h250 e250 hs250 => ?_)
  refine fv_aload_n (k0 := 0) (i := 0) dd_X12_init_1128 rfl rfl ?_
  refine fv_iconst (n := 4) (v := 4) dd_X12_init_1129 (by decide) ?_
  refine fq_newaC (M := 4) hs250 ca_248 dd_X12_init_1130 (by decide) (by decide) (by decide) (fun h251 e251 hs251 => ?_)
  refine fv_dup dd_X12_init_1132 rfl ?_
  refine fv_iconst (n := 0) (v := 0) dd_X12_init_1133 (by decide) ?_
  refine fv_bipush (n := 109) (v := 109) dd_X12_init_1134 (by decide) ?_
  refine fq_cast (i0 := 0) hs251 ca_248 (by omega) dd_X12_init_1136 (vp_in_nI (n := 0) (by decide) (by decide)) rfl rfl (fun h252 e252 hs252 => ?_)
  refine fv_dup dd_X12_init_1137 rfl ?_
  refine fv_iconst (n := 1) (v := 1) dd_X12_init_1138 (by decide) ?_
  refine fv_bipush (n := 111) (v := 111) dd_X12_init_1139 (by decide) ?_
  refine fq_cast (i0 := 1) hs252 ca_248 (by omega) dd_X12_init_1141 (vp_in_nI (n := 1) (by decide) (by decide)) rfl rfl (fun h253 e253 hs253 => ?_)
  refine fv_dup dd_X12_init_1142 rfl ?_
  refine fv_iconst (n := 2) (v := 2) dd_X12_init_1143 (by decide) ?_
  refine fv_bipush (n := 115) (v := 115) dd_X12_init_1144 (by decide) ?_
  refine fq_cast (i0 := 2) hs253 ca_248 (by omega) dd_X12_init_1146 (vp_in_nI (n := 2) (by decide) (by decide)) rfl rfl (fun h254 e254 hs254 => ?_)
  refine fv_dup dd_X12_init_1147 rfl ?_
  refine fv_iconst (n := 3) (v := 3) dd_X12_init_1148 (by decide) ?_
  refine fv_bipush (n := 116) (v := 116) dd_X12_init_1149 (by decide) ?_
  refine fq_cast (i0 := 3) hs254 ca_248 (by omega) dd_X12_init_1151 (vp_in_nI (n := 3) (by decide) (by decide)) rfl rfl (fun h255 e255 hs255 => ?_)
  refine fq_putr (ci := 12) (j := 79) hs255 ca_196 (by omega) rfl dd_X12_init_1152 pf_X12_174 (Or.inr ⟨_, rfl⟩) (fun h256 e256 hs256 => ?_)
  refine fv_aload_n (k0 := 0) (i := 0) dd_X12_init_1155 rfl rfl ?_
  refine fv_iconst (n := 5) (v := 5) dd_X12_init_1156 (by decide) ?_
  refine fq_newaC (M := 5) hs256 ca_249 dd_X12_init_1157 (by decide) (by decide) (by decide) (fun h257 e257 hs257 => ?_)
  refine fv_dup dd_X12_init_1159 rfl ?_
  refine fv_iconst (n := 0) (v := 0) dd_X12_init_1160 (by decide) ?_
  refine fv_bipush (n := 108) (v := 108) dd_X12_init_1161 (by decide) ?_
  refine fq_cast (i0 := 0) hs257 ca_249 (by omega) dd_X12_init_1163 (vp_in_nI (n := 0) (by decide) (by decide)) rfl rfl (fun h258 e258 hs258 => ?_)
  refine fv_dup dd_X12_init_1164 rfl ?_
  refine fv_iconst (n := 1) (v := 1) dd_X12_init_1165 (by decide) ?_
  refine fv_bipush (n := 101) (v := 101) dd_X12_init_1166 (by decide) ?_
  refine fq_cast (i0 := 1) hs258 ca_249 (by omega) dd_X12_init_1168 (vp_in_nI (n := 1) (by decide) (by decide)) rfl rfl (fun h259 e259 hs259 => ?_)
  refine fv_dup dd_X12_init_1169 rfl ?_
  refine fv_iconst (n := 2) (v := 2) dd_X12_init_1170 (by decide) ?_
  refine fv_bipush (n := 97) (v := 97) dd_X12_init_1171 (by decide) ?_
  refine fq_cast (i0 := 2) hs259 ca_249 (by omega) dd_X12_init_1173 (vp_in_nI (n := 2) (by decide) (by decide)) rfl rfl (fun h260 e260 hs260 => ?_)
  refine fv_dup dd_X12_init_1174 rfl ?_
  refine fv_iconst (n := 3) (v := 3) dd_X12_init_1175 (by decide) ?_
  refine fv_bipush (n := 115) (v := 115) dd_X12_init_1176 (by decide) ?_
  refine fq_cast (i0 := 3) hs260 ca_249 (by omega) dd_X12_init_1178 (vp_in_nI (n := 3) (by decide) (by decide)) rfl rfl (fun h261 e261 hs261 => ?_)
  refine fv_dup dd_X12_init_1179 rfl ?_
  refine fv_iconst (n := 4) (v := 4) dd_X12_init_1180 (by decide) ?_
  refine fv_bipush (n := 116) (v := 116) dd_X12_init_1181 (by decide) ?_
  refine fq_cast (i0 := 4) hs261 ca_249 (by omega) dd_X12_init_1183 (vp_in_nI (n := 4) (by decide) (by decide)) rfl rfl (fun h262 e262 hs262 => ?_)
  refine fq_putr (ci := 12) (j := 80) hs262 ca_196 (by omega) rfl dd_X12_init_1184 pf_X12_177 (Or.inr ⟨_, rfl⟩) (fun h263 e263 hs263 => ?_)
  refine fv_aload_n (k0 := 0) (i := 0) dd_X12_init_1187 rfl rfl ?_
  refine fv_iconst (n := 3) (v := 3) dd_X12_init_1188 (by decide) ?_
  refine fq_newaC (M := 3) hs263 ca_250 dd_X12_init_1189 (by decide) (by decide) (by decide) (fun h264 e264 hs264 => ?_)
  refine fv_dup dd_X12_init_1191 rfl ?_
  refine fv_iconst (n := 0) (v := 0) dd_X12_init_1192 (by decide) ?_
  refine fv_bipush (n := 110) (v := 110) dd_X12_init_1193 (by decide) ?_
  refine fq_cast (i0 := 0) hs264 ca_250 (by omega) dd_X12_init_1195 (vp_in_nI (n := 0) (by decide) (by decide)) rfl rfl (fun h265 e265 hs265 => ?_)
  refine fv_dup dd_X12_init_1196 rfl ?_
  refine fv_iconst (n := 1) (v := 1) dd_X12_init_1197 (by decide) ?_
  refine fv_bipush (n := 111) (v := 111) dd_X12_init_1198 (by decide) ?_
  refine fq_cast (i0 := 1) hs265 ca_250 (by omega) dd_X12_init_1200 (vp_in_nI (n := 1) (by decide) (by decide)) rfl rfl (fun h266 e266 hs266 => ?_)
  refine fv_dup dd_X12_init_1201 rfl ?_
  refine fv_iconst (n := 2) (v := 2) dd_X12_init_1202 (by decide) ?_
  refine fv_bipush (n := 116) (v := 116) dd_X12_init_1203 (by decide) ?_
  refine fq_cast (i0 := 2) hs266 ca_250 (by omega) dd_X12_init_1205 (vp_in_nI (n := 2) (by decide) (by decide)) rfl rfl (fun h267 e267 hs267 => ?_)
  refine fq_putr (ci := 12) (j := 81) hs267 ca_196 (by omega) rfl dd_X12_init_1206 pf_X12_180 (Or.inr ⟨_, rfl⟩) (fun h268 e268 hs268 => ?_)
  refine fv_aload_n (k0 := 0) (i := 0) dd_X12_init_1209 rfl rfl ?_
  refine fv_iconst (n := 3) (v := 3) dd_X12_init_1210 (by decide) ?_
  refine fq_newaC (M := 3) hs268 ca_251 dd_X12_init_1211 (by decide) (by decide) (by decide) (fun h269 e269 hs269 => ?_)
  refine fv_dup dd_X12_init_1213 rfl ?_
  refine fv_iconst (n := 0) (v := 0) dd_X12_init_1214 (by decide) ?_
  refine fv_bipush (n := 97) (v := 97) dd_X12_init_1215 (by decide) ?_
  refine fq_cast (i0 := 0) hs269 ca_251 (by omega) dd_X12_init_1217 (vp_in_nI (n := 0) (by decide) (by decide)) rfl rfl (fun h270 e270 hs270 => ?_)
  refine fv_dup dd_X12_init_1218 rfl ?_
  refine fv_iconst (n := 1) (v := 1) dd_X12_init_1219 (by decide) ?_
  refine fv_bipush (n := 110) (v := 110) dd_X12_init_1220 (by decide) ?_
  refine fq_cast (i0 := 1) hs270 ca_251 (by omega) dd_X12_init_1222 (vp_in_nI (n := 1) (by decide) (by decide)) rfl rfl (fun h271 e271 hs271 => ?_)
  refine fv_dup dd_X12_init_1223 rfl ?_
  refine fv_iconst (n := 2) (v := 2) dd_X12_init_1224 (by decide) ?_
  refine fv_bipush (n := 100) (v := 100) dd_X12_init_1225 (by decide) ?_
  refine fq_cast (i0 := 2) hs271 ca_251 (by omega) dd_X12_init_1227 (vp_in_nI (n := 2) (by decide) (by decide)) rfl rfl (fun h272 e272 hs272 => ?_)
  refine fq_putr (ci := 12) (j := 82) hs272 ca_196 (by omega) rfl dd_X12_init_1228 pf_X12_183 (Or.inr ⟨_, rfl⟩) (fun h273 e273 hs273 => ?_)
  refine fv_aload_n (k0 := 0) (i := 0) dd_X12_init_1231 rfl rfl ?_
  refine fv_iconst (n := 2) (v := 2) dd_X12_init_1232 (by decide) ?_
  refine fq_newaC (M := 2) hs273 ca_252 dd_X12_init_1233 (by decide) (by decide) (by decide) (fun h274 e274 hs274 => ?_)
  refine fv_dup dd_X12_init_1235 rfl ?_
  refine fv_iconst (n := 0) (v := 0) dd_X12_init_1236 (by decide) ?_
  refine fv_bipush (n := 111) (v := 111) dd_X12_init_1237 (by decide) ?_
  refine fq_cast (i0 := 0) hs274 ca_252 (by omega) dd_X12_init_1239 (vp_in_nI (n := 0) (by decide) (by decide)) rfl rfl (fun h275 e275 hs275 => ?_)
  refine fv_dup dd_X12_init_1240 rfl ?_
  refine fv_iconst (n := 1) (v := 1) dd_X12_init_1241 (by decide) ?_
  refine fv_bipush (n := 114) (v := 114) dd_X12_init_1242 (by decide) ?_
  refine fq_cast (i0 := 1) hs275 ca_252 (by omega) dd_X12_init_1244 (vp_in_nI (n := 1) (by decide) (by decide)) rfl rfl (fun h276 e276 hs276 => ?_)
  refine fq_putr (ci := 12) (j := 83) hs276 ca_196 (by omega) rfl dd_X12_init_1245 pf_X12_186 (Or.inr ⟨_, rfl⟩) (fun h277 e277 hs277 => ?_)
  refine fv_aload_n (k0 := 0) (i := 0) dd_X12_init_1248 rfl rfl ?_
  refine fv_iconst (n := 3) (v := 3) dd_X12_init_1249 (by decide) ?_
  refine fq_newaC (M := 3) hs277 ca_253 dd_X12_init_1250 (by decide) (by decide) (by decide) (fun h278 e278 hs278 => ?_)
  refine fv_dup dd_X12_init_1252 rfl ?_
  refine fv_iconst (n := 0) (v := 0) dd_X12_init_1253 (by decide) ?_
  refine fv_bipush (n := 97) (v := 97) dd_X12_init_1254 (by decide) ?_
  refine fq_cast (i0 := 0) hs278 ca_253 (by omega) dd_X12_init_1256 (vp_in_nI (n := 0) (by decide) (by decide)) rfl rfl (fun h279 e279 hs279 => ?_)
  refine fv_dup dd_X12_init_1257 rfl ?_
  refine fv_iconst (n := 1) (v := 1) dd_X12_init_1258 (by decide) ?_
  refine fv_bipush (n := 108) (v := 108) dd_X12_init_1259 (by decide) ?_
  refine fq_cast (i0 := 1) hs279 ca_253 (by omega) dd_X12_init_1261 (vp_in_nI (n := 1) (by decide) (by decide)) rfl rfl (fun h280 e280 hs280 => ?_)
  refine fv_dup dd_X12_init_1262 rfl ?_
  refine fv_iconst (n := 2) (v := 2) dd_X12_init_1263 (by decide) ?_
  refine fv_bipush (n := 108) (v := 108) dd_X12_init_1264 (by decide) ?_
  refine fq_cast (i0 := 2) hs280 ca_253 (by omega) dd_X12_init_1266 (vp_in_nI (n := 2) (by decide) (by decide)) rfl rfl (fun h281 e281 hs281 => ?_)
  refine fq_putr (ci := 12) (j := 84) hs281 ca_196 (by omega) rfl dd_X12_init_1267 pf_X12_189 (Or.inr ⟨_, rfl⟩) (fun h282 e282 hs282 => ?_)
  refine fv_aload_n (k0 := 0) (i := 0) dd_X12_init_1270 rfl rfl ?_
  refine fv_iconst (n := 3) (v := 3) dd_X12_init_1271 (by decide) ?_
  refine fq_newaC (M := 3) hs282 ca_254 dd_X12_init_1272 (by decide) (by decide) (by decide) (fun h283 e283 hs283 => ?_)
  refine fv_dup dd_X12_init_1274 rfl ?_
  refine fv_iconst (n := 0) (v := 0) dd_X12_init_1275 (by decide) ?_
  refine fv_bipush (n := 109) (v := 109) dd_X12_init_1276 (by decide) ?_
  refine fq_cast (i0 := 0) hs283 ca_254 (by omega) dd_X12_init_1278 (vp_in_nI (n := 0) (by decide) (by decide)) rfl rfl (fun h284 e284 hs284 => ?_)
  refine fv_dup dd_X12_init_1279 rfl ?_
  refine fv_iconst (n := 1) (v := 1) dd_X12_init_1280 (by decide) ?_
  refine fv_bipush (n := 105) (v := 105) dd_X12_init_1281 (by decide) ?_
  refine fq_cast (i0 := 1) hs284 ca_254 (by omega) dd_X12_init_1283 (vp_in_nI (n := 1) (by decide) (by decide)) rfl rfl (fun h285 e285 hs285 => ?_)
  refine fv_dup dd_X12_init_1284 rfl ?_
  refine fv_iconst (n := 2) (v := 2) dd_X12_init_1285 (by decide) ?_
  refine fv_bipush (n := 110) (v := 110) dd_X12_init_1286 (by decide) ?_
  refine fq_cast (i0 := 2) hs285 ca_254 (by omega) dd_X12_init_1288 (vp_in_nI (n := 2) (by decide) (by decide)) rfl rfl (fun h286 e286 hs286 => ?_)
  refine fq_putr (ci := 12) (j := 85) hs286 ca_196 (by omega) rfl dd_X12_init_1289 pf_X12_192 (Or.inr ⟨_, rfl⟩) (fun h287 e287 hs287 => ?_)
  refine fv_aload_n (k0 := 0) (i := 0) dd_X12_init_1292 rfl rfl ?_
  refine fv_iconst (n := 3) (v := 3) dd_X12_init_1293 (by decide) ?_
  refine fq_newaC (M := 3) hs287 ca_255 dd_X12_init_1294 (by decide) (by decide) (by decide) (fun h288 e288 hs288 => ?_)
  refine fv_dup dd_X12_init_1296 rfl ?_
  refine fv_iconst (n := 0) (v := 0) dd_X12_init_1297 (by decide) ?_
  refine fv_bipush (n := 109) (v := 109) dd_X12_init_1298 (by decide) ?_
  refine fq_cast (i0 := 0) hs288 ca_255 (by omega) dd_X12_init_1300 (vp_in_nI (n := 0) (by decide) (by decide)) rfl rfl (fun h289 e289 hs289 => ?_)
  refine fv_dup dd_X12_init_1301 rfl ?_
  refine fv_iconst (n := 1) (v := 1) dd_X12_init_1302 (by decide) ?_
  refine fv_bipush (n := 97) (v := 97) dd_X12_init_1303 (by decide) ?_
  refine fq_cast (i0 := 1) hs289 ca_255 (by omega) dd_X12_init_1305 (vp_in_nI (n := 1) (by decide) (by decide)) rfl rfl (fun h290 e290 hs290 => ?_)
  refine fv_dup dd_X12_init_1306 rfl ?_
  refine fv_iconst (n := 2) (v := 2) dd_X12_init_1307 (by decide) ?_
  refine fv_bipush (n := 120) (v := 120) dd_X12_init_1308 (by decide) ?_
  refine fq_cast (i0 := 2) hs290 ca_255 (by omega) dd_X12_init_1310 (vp_in_nI (n := 2) (by decide) (by decide)) rfl rfl (fun h291 e291 hs291 => ?_)
  refine fq_putr (ci := 12) (j := 86) hs291 ca_196 (by omega) rfl dd_X12_init_1311 pf_X12_195 (Or.inr ⟨_, rfl⟩) (fun h292 e292 hs292 => ?_)
  refine fv_aload_n (k0 := 0) (i := 0) dd_X12_init_1314 rfl rfl ?_
  refine fv_bipush (n := 7) (v := 7) dd_X12_init_1315 (by decide) ?_
  refine fq_newaC (M := 7) hs292 ca_256 dd_X12_init_1317 (by decide) (by decide) (by decide) (fun h293 e293 hs293 => ?_)
  refine fv_dup dd_X12_init_1319 rfl ?_
  refine fv_iconst (n := 0) (v := 0) dd_X12_init_1320 (by decide) ?_
  refine fv_bipush (n := 104) (v := 104) dd_X12_init_1321 (by decide) ?_
  refine fq_cast (i0 := 0) hs293 ca_256 (by omega) dd_X12_init_1323 (vp_in_nI (n := 0) (by decide) (by decide)) rfl rfl (fun h294 e294 hs294 => ?_)
  refine fv_dup dd_X12_init_1324 rfl ?_
  refine fv_iconst (n := 1) (v := 1) dd_X12_init_1325 (by decide) ?_
  refine fv_bipush (n := 97) (v := 97) dd_X12_init_1326 (by decide) ?_
  refine fq_cast (i0 := 1) hs294 ca_256 (by omega) dd_X12_init_1328 (vp_in_nI (n := 1) (by decide) (by decide)) rfl rfl (fun h295 e295 hs295 => ?_)
  refine fv_dup dd_X12_init_1329 rfl ?_
  refine fv_iconst (n := 2) (v := 2) dd_X12_init_1330 (by decide) ?_
  refine fv_bipush (n := 114) (v := 114) dd_X12_init_1331 (by decide) ?_
  refine fq_cast (i0 := 2) hs295 ca_256 (by omega) dd_X12_init_1333 (vp_in_nI (n := 2) (by decide) (by decide)) rfl rfl (fun h296 e296 hs296 => ?_)
  refine fv_dup dd_X12_init_1334 rfl ?_
  refine fv_iconst (n := 3) (v := 3) dd_X12_init_1335 (by decide) ?_
  refine fv_bipush (n := 118) (v := 118) dd_X12_init_1336 (by decide) ?_
  refine fq_cast (i0 := 3) hs296 ca_256 (by omega) dd_X12_init_1338 (vp_in_nI (n := 3) (by decide) (by decide)) rfl rfl (fun h297 e297 hs297 => ?_)
  refine fv_dup dd_X12_init_1339 rfl ?_
  refine fv_iconst (n := 4) (v := 4) dd_X12_init_1340 (by decide) ?_
  refine fv_bipush (n := 101) (v := 101) dd_X12_init_1341 (by decide) ?_
  refine fq_cast (i0 := 4) hs297 ca_256 (by omega) dd_X12_init_1343 (vp_in_nI (n := 4) (by decide) (by decide)) rfl rfl (fun h298 e298 hs298 => ?_)
  refine fv_dup dd_X12_init_1344 rfl ?_
  refine fv_iconst (n := 5) (v := 5) dd_X12_init_1345 (by decide) ?_
  refine fv_bipush (n := 115) (v := 115) dd_X12_init_1346 (by decide) ?_
  refine fq_cast (i0 := 5) hs298 ca_256 (by omega) dd_X12_init_1348 (vp_in_nI (n := 5) (by decide) (by decide)) rfl rfl (fun h299 e299 hs299 => ?_)
  refine fv_dup dd_X12_init_1349 rfl ?_
  refine fv_bipush (n := 6) (v := 6) dd_X12_init_1350 (by decide) ?_
  refine fv_bipush (n := 116) (v := 116) dd_X12_init_1352 (by decide) ?_
  refine fq_cast (i0 := 6) hs299 ca_256 (by omega) dd_X12_init_1354 (vp_in_nI (n := 6) (by decide) (by decide)) rfl rfl (fun h300 e300 hs300 => ?_)
  refine fq_putr (ci := 12) (j := 87) hs300 ca_196 (by omega) rfl dd_X12_init_1355 pf_X12_198 (Or.inr ⟨_, rfl⟩) (fun h301 e301 hs301 => ?_)
  refine fv_aload_n (k0 := 0) (i := 0) dd_X12_init_1358 rfl rfl ?_
  refine fv_bipush (n := 7) (v := 7) dd_X12_init_1359 (by decide) ?_
  refine fq_newaC (M := 7) hs301 ca_257 dd_X12_init_1361 (by decide) (by decide) (by decide) (fun h302 e302 hs302 => ?_)
  refine fv_dup dd_X12_init_1363 rfl ?_
  refine fv_iconst (n := 0) (v := 0) dd_X12_init_1364 (by decide) ?_
  refine fv_bipush (n := 113) (v := 113) dd_X12_init_1365 (by decide) ?_
  refine fq_cast (i0 := 0) hs302 ca_257 (by omega) dd_X12_init_1367 (vp_in_nI (n := 0) (by decide) (by decide)) rfl rfl (fun h303 e303 hs303 => ?_)
  refine fv_dup dd_X12_init_1368 rfl ?_
  refine fv_iconst (n := 1) (v := 1) dd_X12_init_1369 (by decide) ?_
  refine fv_bipush (n := 117) (v := 117) dd_X12_init_1370 (by decide) ?_
  refine fq_cast (i0 := 1) hs303 ca_257 (by omega) dd_X12_init_1372 (vp_in_nI (n := 1) (by decide) (by decide)) rfl rfl (fun h304 e304 hs304 => ?_)
  refine fv_dup dd_X12_init_1373 rfl ?_
  refine fv_iconst (n := 2) (v := 2) dd_X12_init_1374 (by decide) ?_
  refine fv_bipush (n := 97) (v := 97) dd_X12_init_1375 (by decide) ?_
  refine fq_cast (i0 := 2) hs304 ca_257 (by omega) dd_X12_init_1377 (vp_in_nI (n := 2) (by decide) (by decide)) rfl rfl (fun h305 e305 hs305 => ?_)
  refine fv_dup dd_X12_init_1378 rfl ?_
  refine fv_iconst (n := 3) (v := 3) dd_X12_init_1379 (by decide) ?_
  refine fv_bipush (n := 114) (v := 114) dd_X12_init_1380 (by decide) ?_
  refine fq_cast (i0 := 3) hs305 ca_257 (by omega) dd_X12_init_1382 (vp_in_nI (n := 3) (by decide) (by decide)) rfl rfl (fun h306 e306 hs306 => ?_)
  refine fv_dup dd_X12_init_1383 rfl ?_
  refine fv_iconst (n := 4) (v := 4) dd_X12_init_1384 (by decide) ?_
  refine fv_bipush (n := 114) (v := 114) dd_X12_init_1385 (by decide) ?_
  refine fq_cast (i0 := 4) hs306 ca_257 (by omega) dd_X12_init_1387 (vp_in_nI (n := 4) (by decide) (by decide)) rfl rfl (fun h307 e307 hs307 => ?_)
  refine fv_dup dd_X12_init_1388 rfl ?_
  refine fv_iconst (n := 5) (v := 5) dd_X12_init_1389 (by decide) ?_
  refine fv_bipush (n := 101) (v := 101) dd_X12_init_1390 (by decide) ?_
  refine fq_cast (i0 := 5) hs307 ca_257 (by omega) dd_X12_init_1392 (vp_in_nI (n := 5) (by decide) (by decide)) rfl rfl (fun h308 e308 hs308 => ?_)
  refine fv_dup dd_X12_init_1393 rfl ?_
  refine fv_bipush (n := 6) (v := 6) dd_X12_init_1394 (by decide) ?_
  refine fv_bipush (n := 108) (v := 108) dd_X12_init_1396 (by decide) ?_
  refine fq_cast (i0 := 6) hs308 ca_257 (by omega) dd_X12_init_1398 (vp_in_nI (n := 6) (by decide) (by decide)) rfl rfl (fun h309 e309 hs309 => ?_)
  refine fq_putr (ci := 12) (j := 88) hs309 ca_196 (by omega) rfl dd_X12_init_1399 pf_X12_201 (Or.inr ⟨_, rfl⟩) (fun h310 e310 hs310 => ?_)
  refine fv_aload_n (k0 := 0) (i := 0) dd_X12_init_1402 rfl rfl ?_
  refine fv_iconst (n := 4) (v := 4) dd_X12_init_1403 (by decide) ?_
  refine fq_newaC (M := 4) hs310 ca_258 dd_X12_init_1404 (by decide) (by decide) (by decide) (fun h311 e311 hs311 => ?_)
  refine fv_dup dd_X12_init_1406 rfl ?_
  refine fv_iconst (n := 0) (v := 0) dd_X12_init_1407 (by decide) ?_
  refine fv_bipush (n := 121) (v := 121) dd_X12_init_1408 (by decide) ?_
  refine fq_cast (i0 := 0) hs311 ca_258 (by omega) dd_X12_init_1410 (vp_in_nI (n := 0) (by decide) (by decide)) rfl rfl (fun h312 e312 hs312 => ?_)
  refine fv_dup dd_X12_init_1411 rfl ?_
  refine fv_iconst (n := 1) (v := 1) dd_X12_init_1412 (by decide) ?_
  refine fv_bipush (n := 101) (v := 101) dd_X12_init_1413 (by decide) ?_
  refine fq_cast (i0 := 1) hs312 ca_258 (by omega) dd_X12_init_1415 (vp_in_nI (n := 1) (by decide) (by decide)) rfl rfl (fun h313 e313 hs313 => ?_)
  refine fv_dup dd_X12_init_1416 rfl ?_
  refine fv_iconst (n := 2) (v := 2) dd_X12_init_1417 (by decide) ?_
  refine fv_bipush (n := 97) (v := 97) dd_X12_init_1418 (by decide) ?_
  refine fq_cast (i0 := 2) hs313 ca_258 (by omega) dd_X12_init_1420 (vp_in_nI (n := 2) (by decide) (by decide)) rfl rfl (fun h314 e314 hs314 => ?_)
  refine fv_dup dd_X12_init_1421 rfl ?_
  refine fv_iconst (n := 3) (v := 3) dd_X12_init_1422 (by decide) ?_
  refine fv_bipush (n := 114) (v := 114) dd_X12_init_1423 (by decide) ?_
  refine fq_cast (i0 := 3) hs314 ca_258 (by omega) dd_X12_init_1425 (vp_in_nI (n := 3) (by decide) (by decide)) rfl rfl (fun h315 e315 hs315 => ?_)
  refine fq_putr (ci := 12) (j := 89) hs315 ca_196 (by omega) rfl dd_X12_init_1426 pf_X12_204 (Or.inr ⟨_, rfl⟩) (fun h316 e316 hs316 => ?_)
  refine fv_aload_n (k0 := 0) (i := 0) dd_X12_init_1429 rfl rfl ?_
  refine fv_iconst (n := 4) (v := 4) dd_X12_init_1430 (by decide) ?_
  refine fq_newaC (M := 4) hs316 ca_259 dd_X12_init_1431 (by decide) (by decide) (by decide) (fun h317 e317 hs317 => ?_)
  refine fv_dup dd_X12_init_1433 rfl ?_
  refine fv_iconst (n := 0) (v := 0) dd_X12_init_1434 (by decide) ?_
  refine fv_bipush (n := 119) (v := 119) dd_X12_init_1435 (by decide) ?_
  refine fq_cast (i0 := 0) hs317 ca_259 (by omega) dd_X12_init_1437 (vp_in_nI (n := 0) (by decide) (by decide)) rfl rfl (fun h318 e318 hs318 => ?_)
  refine fv_dup dd_X12_init_1438 rfl ?_
  refine fv_iconst (n := 1) (v := 1) dd_X12_init_1439 (by decide) ?_
  refine fv_bipush (n := 105) (v := 105) dd_X12_init_1440 (by decide) ?_
  refine fq_cast (i0 := 1) hs318 ca_259 (by omega) dd_X12_init_1442 (vp_in_nI (n := 1) (by decide) (by decide)) rfl rfl (fun h319 e319 hs319 => ?_)
  refine fv_dup dd_X12_init_1443 rfl ?_
  refine fv_iconst (n := 2) (v := 2) dd_X12_init_1444 (by decide) ?_
  refine fv_bipush (n := 116) (v := 116) dd_X12_init_1445 (by decide) ?_
  refine fq_cast (i0 := 2) hs319 ca_259 (by omega) dd_X12_init_1447 (vp_in_nI (n := 2) (by decide) (by decide)) rfl rfl (fun h320 e320 hs320 => ?_)
  refine fv_dup dd_X12_init_1448 rfl ?_
  refine fv_iconst (n := 3) (v := 3) dd_X12_init_1449 (by decide) ?_
  refine fv_bipush (n := 115) (v := 115) dd_X12_init_1450 (by decide) ?_
  refine fq_cast (i0 := 3) hs320 ca_259 (by omega) dd_X12_init_1452 (vp_in_nI (n := 3) (by decide) (by decide)) rfl rfl (fun h321 e321 hs321 => ?_)
  refine fq_putr (ci := 12) (j := 90) hs321 ca_196 (by omega) rfl dd_X12_init_1453 pf_X12_207 (Or.inr ⟨_, rfl⟩) (fun h322 e322 hs322 => ?_)
  refine fv_aload_n (k0 := 0) (i := 0) dd_X12_init_1456 rfl rfl ?_
  refine fv_iconst (n := 4) (v := 4) dd_X12_init_1457 (by decide) ?_
  refine fq_newaC (M := 4) hs322 ca_260 dd_X12_init_1458 (by decide) (by decide) (by decide) (fun h323 e323 hs323 => ?_)
  refine fv_dup dd_X12_init_1460 rfl ?_
  refine fv_iconst (n := 0) (v := 0) dd_X12_init_1461 (by decide) ?_
  refine fv_bipush (n := 111) (v := 111) dd_X12_init_1462 (by decide) ?_
  refine fq_cast (i0 := 0) hs323 ca_260 (by omega) dd_X12_init_1464 (vp_in_nI (n := 0) (by decide) (by decide)) rfl rfl (fun h324 e324 hs324 => ?_)
  refine fv_dup dd_X12_init_1465 rfl ?_
  refine fv_iconst (n := 1) (v := 1) dd_X12_init_1466 (by decide) ?_
  refine fv_bipush (n := 97) (v := 97) dd_X12_init_1467 (by decide) ?_
  refine fq_cast (i0 := 1) hs324 ca_260 (by omega) dd_X12_init_1469 (vp_in_nI (n := 1) (by decide) (by decide)) rfl rfl (fun h325 e325 hs325 => ?_)
  refine fv_dup dd_X12_init_1470 rfl ?_
  refine fv_iconst (n := 2) (v := 2) dd_X12_init_1471 (by decide) ?_
  refine fv_bipush (n := 116) (v := 116) dd_X12_init_1472 (by decide) ?_
  refine fq_cast (i0 := 2) hs325 ca_260 (by omega) dd_X12_init_1474 (vp_in_nI (n := 2) (by decide) (by decide)) rfl rfl (fun h326 e326 hs326 => ?_)
  refine fv_dup dd_X12_init_1475 rfl ?_
  refine fv_iconst (n := 3) (v := 3) dd_X12_init_1476 (by decide) ?_
  refine fv_bipush (n := 104) (v := 104) dd_X12_init_1477 (by decide) ?_
  refine fq_cast (i0 := 3) hs326 ca_260 (by omega) dd_X12_init_1479 (vp_in_nI (n := 3) (by decide) (by decide)) rfl rfl (fun h327 e327 hs327 => ?_)
  refine fq_putr (ci := 12) (j := 91) hs327 ca_196 (by omega) rfl dd_X12_init_1480 pf_X12_210 (Or.inr ⟨_, rfl⟩) (fun h328 e328 hs328 => ?_)
  refine fv_aload_n (k0 := 0) (i := 0) dd_X12_init_1483 rfl rfl ?_
  refine fv_iconst (n := 5) (v := 5) dd_X12_init_1484 (by decide) ?_
  refine fq_newaC (M := 5) hs328 ca_261 dd_X12_init_1485 (by decide) (by decide) (by decide) (fun h329 e329 hs329 => ?_)
  refine fv_dup dd_X12_init_1487 rfl ?_
  refine fv_iconst (n := 0) (v := 0) dd_X12_init_1488 (by decide) ?_
  refine fv_bipush (n := 99) (v := 99) dd_X12_init_1489 (by decide) ?_
  refine fq_cast (i0 := 0) hs329 ca_261 (by omega) dd_X12_init_1491 (vp_in_nI (n := 0) (by decide) (by decide)) rfl rfl (fun h330 e330 hs330 => ?_)
  refine fv_dup dd_X12_init_1492 rfl ?_
  refine fv_iconst (n := 1) (v := 1) dd_X12_init_1493 (by decide) ?_
  refine fv_bipush (n := 104) (v := 104) dd_X12_init_1494 (by decide) ?_
  refine fq_cast (i0 := 1) hs330 ca_261 (by omega) dd_X12_init_1496 (vp_in_nI (n := 1) (by decide) (by decide)) rfl rfl (fun h331 e331 hs331 => ?_)
  refine fv_dup dd_X12_init_1497 rfl ?_
  refine fv_iconst (n := 2) (v := 2) dd_X12_init_1498 (by decide) ?_
  refine fv_bipush (n := 101) (v := 101) dd_X12_init_1499 (by decide) ?_
  refine fq_cast (i0 := 2) hs331 ca_261 (by omega) dd_X12_init_1501 (vp_in_nI (n := 2) (by decide) (by decide)) rfl rfl (fun h332 e332 hs332 => ?_)
  refine fv_dup dd_X12_init_1502 rfl ?_
  refine fv_iconst (n := 3) (v := 3) dd_X12_init_1503 (by decide) ?_
  refine fv_bipush (n := 101) (v := 101) dd_X12_init_1504 (by decide) ?_
  refine fq_cast (i0 := 3) hs332 ca_261 (by omega) dd_X12_init_1506 (vp_in_nI (n := 3) (by decide) (by decide)) rfl rfl (fun h333 e333 hs333 => ?_)
  refine fv_dup dd_X12_init_1507 rfl ?_
  refine fv_iconst (n := 4) (v := 4) dd_X12_init_1508 (by decide) ?_
  refine fv_bipush (n := 114) (v := 114) dd_X12_init_1509 (by decide) ?_
  refine fq_cast (i0 := 4) hs333 ca_261 (by omega) dd_X12_init_1511 (vp_in_nI (n := 4) (by decide) (by decide)) rfl rfl (fun h334 e334 hs334 => ?_)
  refine fq_putr (ci := 12) (j := 92) hs334 ca_196 (by omega) rfl dd_X12_init_1512 pf_X12_213 (Or.inr ⟨_, rfl⟩) (fun h335 e335 hs335 => ?_)
  refine fv_aload_n (k0 := 0) (i := 0) dd_X12_init_1515 rfl rfl ?_
  refine fv_iconst (n := 4) (v := 4) dd_X12_init_1516 (by decide) ?_
  refine fq_newaC (M := 4) hs335 ca_262 dd_X12_init_1517 (by decide) (by decide) (by decide) (fun h336 e336 hs336 => ?_)
  refine fv_dup dd_X12_init_1519 rfl ?_
  refine fv_iconst (n := 0) (v := 0) dd_X12_init_1520 (by decide) ?_
  refine fv_bipush (n := 97) (v := 97) dd_X12_init_1521 (by decide) ?_
  refine fq_cast (i0 := 0) hs336 ca_262 (by omega) dd_X12_init_1523 (vp_in_nI (n := 0) (by decide) (by decide)) rfl rfl (fun h337 e337 hs337 => ?_)
  refine fv_dup dd_X12_init_1524 rfl ?_
  refine fv_iconst (n := 1) (v := 1) dd_X12_init_1525 (by decide) ?_
  refine fv_bipush (n := 119) (v := 119) dd_X12_init_1526 (by decide) ?_
  refine fq_cast (i0 := 1) hs337 ca_262 (by omega) dd_X12_init_1528 (vp_in_nI (n := 1) (by decide) (by decide)) rfl rfl (fun h338 e338 hs338 => ?_)
  refine fv_dup dd_X12_init_1529 rfl ?_
  refine fv_iconst (n := 2) (v := 2) dd_X12_init_1530 (by decide) ?_
  refine fv_bipush (n := 97) (v := 97) dd_X12_init_1531 (by decide) ?_
  refine fq_cast (i0 := 2) hs338 ca_262 (by omega) dd_X12_init_1533 (vp_in_nI (n := 2) (by decide) (by decide)) rfl rfl (fun h339 e339 hs339 => ?_)
  refine fv_dup dd_X12_init_1534 rfl ?_
  refine fv_iconst (n := 3) (v := 3) dd_X12_init_1535 (by decide) ?_
  refine fv_bipush (n := 121) (v := 121) dd_X12_init_1536 (by decide) ?_
  refine fq_cast (i0 := 3) hs339 ca_262 (by omega) dd_X12_init_1538 (vp_in_nI (n := 3) (by decide) (by decide)) rfl rfl (fun h340 e340 hs340 => ?_)
  refine fq_putr (ci := 12) (j := 93) hs340 ca_196 (by omega) rfl dd_X12_init_1539 pf_X12_216 (Or.inr ⟨_, rfl⟩) (fun h341 e341 hs341 => ?_)
  refine fv_aload_n (k0 := 0) (i := 0) dd_X12_init_1542 rfl rfl ?_
  refine fv_bipush (n := 6) (v := 6) dd_X12_init_1543 (by decide) ?_
  refine fq_newaC (M := 6) hs341 ca_263 dd_X12_init_1545 (by decide) (by decide) (by decide) (fun h342 e342 hs342 => ?_)
  refine fv_dup dd_X12_init_1547 rfl ?_
  refine fv_iconst (n := 0) (v := 0) dd_X12_init_1548 (by decide) ?_
  refine fv_bipush (n := 103) (v := 103) dd_X12_init_1549 (by decide) ?_
  refine fq_cast (i0 := 0) hs342 ca_263 (by omega) dd_X12_init_1551 (vp_in_nI (n := 0) (by decide) (by decide)) rfl rfl (fun h343 e343 hs343 => ?_)
  refine fv_dup dd_X12_init_1552 rfl ?_
  refine fv_iconst (n := 1) (v := 1) dd_X12_init_1553 (by decide) ?_
  refine fv_bipush (n := 117) (v := 117) dd_X12_init_1554 (by decide) ?_
  refine fq_cast (i0 := 1) hs343 ca_263 (by omega) dd_X12_init_1556 (vp_in_nI (n := 1) (by decide) (by decide)) rfl rfl (fun h344 e344 hs344 => ?_)
  refine fv_dup dd_X12_init_1557 rfl ?_
  refine fv_iconst (n := 2) (v := 2) dd_X12_init_1558 (by decide) ?_
  refine fv_bipush (n := 101) (v := 101) dd_X12_init_1559 (by decide) ?_
  refine fq_cast (i0 := 2) hs344 ca_263 (by omega) dd_X12_init_1561 (vp_in_nI (n := 2) (by decide) (by decide)) rfl rfl (fun h345 e345 hs345 => ?_)
  refine fv_dup dd_X12_init_1562 rfl ?_
  refine fv_iconst (n := 3) (v := 3) dd_X12_init_1563 (by decide) ?_
  refine fv_bipush (n := 115) (v := 115) dd_X12_init_1564 (by decide) ?_
  refine fq_cast (i0 := 3) hs345 ca_263 (by omega) dd_X12_init_1566 (vp_in_nI (n := 3) (by decide) (by decide)) rfl rfl (fun h346 e346 hs346 => ?_)
  refine fv_dup dd_X12_init_1567 rfl ?_
  refine fv_iconst (n := 4) (v := 4) dd_X12_init_1568 (by decide) ?_
  refine fv_bipush (n := 116) (v := 116) dd_X12_init_1569 (by decide) ?_
  refine fq_cast (i0 := 4) hs346 ca_263 (by omega) dd_X12_init_1571 (vp_in_nI (n := 4) (by decide) (by decide)) rfl rfl (fun h347 e347 hs347 => ?_)
  refine fv_dup dd_X12_init_1572 rfl ?_
  refine fv_iconst (n := 5) (v := 5) dd_X12_init_1573 (by decide) ?_
  refine fv_bipush (n := 115) (v := 115) dd_X12_init_1574 (by decide) ?_
  refine fq_cast (i0 := 5) hs347 ca_263 (by omega) dd_X12_init_1576 (vp_in_nI (n := 5) (by decide) (by decide)) rfl rfl (fun h348 e348 hs348 => ?_)
  refine fq_putr (ci := 12) (j := 94) hs348 ca_196 (by omega) rfl dd_X12_init_1577 pf_X12_219 (Or.inr ⟨_, rfl⟩) (fun h349 e349 hs349 => ?_)
  refine fv_aload_n (k0 := 0) (i := 0) dd_X12_init_1580 rfl rfl ?_
  refine fv_bipush (n := 6) (v := 6) dd_X12_init_1581 (by decide) ?_
  refine fq_newaC (M := 6) hs349 ca_264 dd_X12_init_1583 (by decide) (by decide) (by decide) (fun h350 e350 hs350 => ?_)
  refine fv_dup dd_X12_init_1585 rfl ?_
  refine fv_iconst (n := 0) (v := 0) dd_X12_init_1586 (by decide) ?_
  refine fv_bipush (n := 110) (v := 110) dd_X12_init_1587 (by decide) ?_
  refine fq_cast (i0 := 0) hs350 ca_264 (by omega) dd_X12_init_1589 (vp_in_nI (n := 0) (by decide) (by decide)) rfl rfl (fun h351 e351 hs351 => ?_)
  refine fv_dup dd_X12_init_1590 rfl ?_
  refine fv_iconst (n := 1) (v := 1) dd_X12_init_1591 (by decide) ?_
  refine fv_bipush (n := 117) (v := 117) dd_X12_init_1592 (by decide) ?_
  refine fq_cast (i0 := 1) hs351 ca_264 (by omega) dd_X12_init_1594 (vp_in_nI (n := 1) (by decide) (by decide)) rfl rfl (fun h352 e352 hs352 => ?_)
  refine fv_dup dd_X12_init_1595 rfl ?_
  refine fv_iconst (n := 2) (v := 2) dd_X12_init_1596 (by decide) ?_
  refine fv_bipush (n := 109) (v := 109) dd_X12_init_1597 (by decide) ?_
  refine fq_cast (i0 := 2) hs352 ca_264 (by omega) dd_X12_init_1599 (vp_in_nI (n := 2) (by decide) (by decide)) rfl rfl (fun h353 e353 hs353 => ?_)
  refine fv_dup dd_X12_init_1600 rfl ?_
  refine fv_iconst (n := 3) (v := 3) dd_X12_init_1601 (by decide) ?_
  refine fv_bipush (n := 98) (v := 98) dd_X12_init_1602 (by decide) ?_
  refine fq_cast (i0 := 3) hs353 ca_264 (by omega) dd_X12_init_1604 (vp_in_nI (n := 3) (by decide) (by decide)) rfl rfl (fun h354 e354 hs354 => ?_)
  refine fv_dup dd_X12_init_1605 rfl ?_
  refine fv_iconst (n := 4) (v := 4) dd_X12_init_1606 (by decide) ?_
  refine fv_bipush (n := 101) (v := 101) dd_X12_init_1607 (by decide) ?_
  refine fq_cast (i0 := 4) hs354 ca_264 (by omega) dd_X12_init_1609 (vp_in_nI (n := 4) (by decide) (by decide)) rfl rfl (fun h355 e355 hs355 => ?_)
  refine fv_dup dd_X12_init_1610 rfl ?_
  refine fv_iconst (n := 5) (v := 5) dd_X12_init_1611 (by decide) ?_
  refine fv_bipush (n := 114) (v := 114) dd_X12_init_1612 (by decide) ?_
  refine fq_cast (i0 := 5) hs355 ca_264 (by omega) dd_X12_init_1614 (vp_in_nI (n := 5) (by decide) (by decide)) rfl rfl (fun h356 e356 hs356 => ?_)
  refine fq_putr (ci := 12) (j := 95) hs356 ca_196 (by omega) rfl dd_X12_init_1615 pf_X12_222 (Or.inr ⟨_, rfl⟩) (fun h357 e357 hs357 => ?_)
  refine fv_aload_n (k0 := 0) (i := 0) dd_X12_init_1618 rfl rfl ?_
  refine fv_iconst (n := 5) (v := 5) dd_X12_init_1619 (by decide) ?_
  refine fq_newaC (M := 5) hs357 ca_265 dd_X12_init_1620 (by decide) (by decide) (by decide) (fun h358 e358 hs358 => ?_)
  refine fv_dup dd_X12_init_1622 rfl ?_
  refine fv_iconst (n := 0) (v := 0) dd_X12_init_1623 (by decide) ?_
  refine fv_bipush (n := 108) (v := 108) dd_X12_init_1624 (by decide) ?_
  refine fq_cast (i0 := 0) hs358 ca_265 (by omega) dd_X12_init_1626 (vp_in_nI (n := 0) (by decide) (by decide)) rfl rfl (fun h359 e359 hs359 => ?_)
  refine fv_dup dd_X12_init_1627 rfl ?_
  refine fv_iconst (n := 1) (v := 1) dd_X12_init_1628 (by decide) ?_
  refine fv_bipush (n := 105) (v := 105) dd_X12_init_1629 (by decide) ?_
  refine fq_cast (i0 := 1) hs359 ca_265 (by omega) dd_X12_init_1631 (vp_in_nI (n := 1) (by decide) (by decide)) rfl rfl (fun h360 e360 hs360 => ?_)
  refine fv_dup dd_X12_init_1632 rfl ?_
  refine fv_iconst (n := 2) (v := 2) dd_X12_init_1633 (by decide) ?_
  refine fv_bipush (n := 118) (v := 118) dd_X12_init_1634 (by decide) ?_
  refine fq_cast (i0 := 2) hs360 ca_265 (by omega) dd_X12_init_1636 (vp_in_nI (n := 2) (by decide) (by decide)) rfl rfl (fun h361 e361 hs361 => ?_)
  refine fv_dup dd_X12_init_1637 rfl ?_
  refine fv_iconst (n := 3) (v := 3) dd_X12_init_1638 (by decide) ?_
  refine fv_bipush (n := 101) (v := 101) dd_X12_init_1639 (by decide) ?_
  refine fq_cast (i0 := 3) hs361 ca_265 (by omega) dd_X12_init_1641 (vp_in_nI (n := 3) (by decide) (by decide)) rfl rfl (fun h362 e362 hs362 => ?_)
  refine fv_dup dd_X12_init_1642 rfl ?_
  refine fv_iconst (n := 4) (v := 4) dd_X12_init_1643 (by decide) ?_
  refine fv_bipush (n := 115) (v := 115) dd_X12_init_1644 (by decide) ?_
  refine fq_cast (i0 := 4) hs362 ca_265 (by omega) dd_X12_init_1646 (vp_in_nI (n := 4) (by decide) (by decide)) rfl rfl (fun h363 e363 hs363 => ?_)
  refine fq_putr (ci := 12) (j := 96) hs363 ca_196 (by omega) rfl dd_X12_init_1647 pf_X12_225 (Or.inr ⟨_, rfl⟩) (fun h364 e364 hs364 => ?_)
  refine fv_aload_n (k0 := 0) (i := 0) dd_X12_init_1650 rfl rfl ?_
  refine fv_iconst (n := 4) (v := 4) dd_X12_init_1651 (by decide) ?_
  refine fq_newaC (M := 4) hs364 ca_266 dd_X12_init_1652 (by decide) (by decide) (by decide) (fun h365 e365 hs365 => ?_)
  refine fv_dup dd_X12_init_1654 rfl ?_
  refine fv_iconst (n := 0) (v := 0) dd_X12_init_1655 (by decide) ?_
  refine fv_bipush (n := 104) (v := 104) dd_X12_init_1656 (by decide) ?_
  refine fq_cast (i0 := 0) hs365 ca_266 (by omega) dd_X12_init_1658 (vp_in_nI (n := 0) (by decide) (by decide)) rfl rfl (fun h366 e366 hs366 => ?_)
  refine fv_dup dd_X12_init_1659 rfl ?_
  refine fv_iconst (n := 1) (v := 1) dd_X12_init_1660 (by decide) ?_
  refine fv_bipush (n := 111) (v := 111) dd_X12_init_1661 (by decide) ?_
  refine fq_cast (i0 := 1) hs366 ca_266 (by omega) dd_X12_init_1663 (vp_in_nI (n := 1) (by decide) (by decide)) rfl rfl (fun h367 e367 hs367 => ?_)
  refine fv_dup dd_X12_init_1664 rfl ?_
  refine fv_iconst (n := 2) (v := 2) dd_X12_init_1665 (by decide) ?_
  refine fv_bipush (n := 109) (v := 109) dd_X12_init_1666 (by decide) ?_
  refine fq_cast (i0 := 2) hs367 ca_266 (by omega) dd_X12_init_1668 (vp_in_nI (n := 2) (by decide) (by decide)) rfl rfl (fun h368 e368 hs368 => ?_)
  refine fv_dup dd_X12_init_1669 rfl ?_
  refine fv_iconst (n := 3) (v := 3) dd_X12_init_1670 (by decide) ?_
  refine fv_bipush (n := 101) (v := 101) dd_X12_init_1671 (by decide) ?_
  refine fq_cast (i0 := 3) hs368 ca_266 (by omega) dd_X12_init_1673 (vp_in_nI (n := 3) (by decide) (by decide)) rfl rfl (fun h369 e369 hs369 => ?_)
  refine fq_putr (ci := 12) (j := 97) hs369 ca_196 (by omega) rfl dd_X12_init_1674 pf_X12_228 (Or.inr ⟨_, rfl⟩) (fun h370 e370 hs370 => ?_)
  refine fv_aload_n (k0 := 0) (i := 0) dd_X12_init_1677 rfl rfl ?_
  refine fv_bipush (n := 7) (v := 7) dd_X12_init_1678 (by decide) ?_
  refine fq_newaC (M := 7) hs370 ca_267 dd_X12_init_1680 (by decide) (by decide) (by decide) (fun h371 e371 hs371 => ?_)
  refine fv_dup dd_X12_init_1682 rfl ?_
  refine fv_iconst (n := 0) (v := 0) dd_X12_init_1683 (by decide) ?_
  refine fv_bipush (n := 104) (v := 104) dd_X12_init_1684 (by decide) ?_
  refine fq_cast (i0 := 0) hs371 ca_267 (by omega) dd_X12_init_1686 (vp_in_nI (n := 0) (by decide) (by decide)) rfl rfl (fun h372 e372 hs372 => ?_)
  refine fv_dup dd_X12_init_1687 rfl ?_
  refine fv_iconst (n := 1) (v := 1) dd_X12_init_1688 (by decide) ?_
  refine fv_bipush (n := 97) (v := 97) dd_X12_init_1689 (by decide) ?_
  refine fq_cast (i0 := 1) hs372 ca_267 (by omega) dd_X12_init_1691 (vp_in_nI (n := 1) (by decide) (by decide)) rfl rfl (fun h373 e373 hs373 => ?_)
  refine fv_dup dd_X12_init_1692 rfl ?_
  refine fv_iconst (n := 2) (v := 2) dd_X12_init_1693 (by decide) ?_
  refine fv_bipush (n := 114) (v := 114) dd_X12_init_1694 (by decide) ?_
  refine fq_cast (i0 := 2) hs373 ca_267 (by omega) dd_X12_init_1696 (vp_in_nI (n := 2) (by decide) (by decide)) rfl rfl (fun h374 e374 hs374 => ?_)
  refine fv_dup dd_X12_init_1697 rfl ?_
  refine fv_iconst (n := 3) (v := 3) dd_X12_init_1698 (by decide) ?_
  refine fv_bipush (n := 118) (v := 118) dd_X12_init_1699 (by decide) ?_
  refine fq_cast (i0 := 3) hs374 ca_267 (by omega) dd_X12_init_1701 (vp_in_nI (n := 3) (by decide) (by decide)) rfl rfl (fun h375 e375 hs375 => ?_)
  refine fv_dup dd_X12_init_1702 rfl ?_
  refine fv_iconst (n := 4) (v := 4) dd_X12_init_1703 (by decide) ?_
  refine fv_bipush (n := 101) (v := 101) dd_X12_init_1704 (by decide) ?_
  refine fq_cast (i0 := 4) hs375 ca_267 (by omega) dd_X12_init_1706 (vp_in_nI (n := 4) (by decide) (by decide)) rfl rfl (fun h376 e376 hs376 => ?_)
  refine fv_dup dd_X12_init_1707 rfl ?_
  refine fv_iconst (n := 5) (v := 5) dd_X12_init_1708 (by decide) ?_
  refine fv_bipush (n := 115) (v := 115) dd_X12_init_1709 (by decide) ?_
  refine fq_cast (i0 := 5) hs376 ca_267 (by omega) dd_X12_init_1711 (vp_in_nI (n := 5) (by decide) (by decide)) rfl rfl (fun h377 e377 hs377 => ?_)
  refine fv_dup dd_X12_init_1712 rfl ?_
  refine fv_bipush (n := 6) (v := 6) dd_X12_init_1713 (by decide) ?_
  refine fv_bipush (n := 116) (v := 116) dd_X12_init_1715 (by decide) ?_
  refine fq_cast (i0 := 6) hs377 ca_267 (by omega) dd_X12_init_1717 (vp_in_nI (n := 6) (by decide) (by decide)) rfl rfl (fun h378 e378 hs378 => ?_)
  refine fq_putr (ci := 12) (j := 98) hs378 ca_196 (by omega) rfl dd_X12_init_1718 pf_X12_231 (Or.inr ⟨_, rfl⟩) (fun h379 e379 hs379 => ?_)
  refine fv_aload_n (k0 := 0) (i := 0) dd_X12_init_1721 rfl rfl ?_
  refine fv_iconst (n := 4) (v := 4) dd_X12_init_1722 (by decide) ?_
  refine fq_newaC (M := 4) hs379 ca_268 dd_X12_init_1723 (by decide) (by decide) (by decide) (fun h380 e380 hs380 => ?_)
  refine fv_dup dd_X12_init_1725 rfl ?_
  refine fv_iconst (n := 0) (v := 0) dd_X12_init_1726 (by decide) ?_
  refine fv_bipush (n := 100) (v := 100) dd_X12_init_1727 (by decide) ?_
  refine fq_cast (i0 := 0) hs380 ca_268 (by omega) dd_X12_init_1729 (vp_in_nI (n := 0) (by decide) (by decide)) rfl rfl (fun h381 e381 hs381 => ?_)
  refine fv_dup dd_X12_init_1730 rfl ?_
  refine fv_iconst (n := 1) (v := 1) dd_X12_init_1731 (by decide) ?_
  refine fv_bipush (n := 111) (v := 111) dd_X12_init_1732 (by decide) ?_
  refine fq_cast (i0 := 1) hs381 ca_268 (by omega) dd_X12_init_1734 (vp_in_nI (n := 1) (by decide) (by decide)) rfl rfl (fun h382 e382 hs382 => ?_)
  refine fv_dup dd_X12_init_1735 rfl ?_
  refine fv_iconst (n := 2) (v := 2) dd_X12_init_1736 (by decide) ?_
  refine fv_bipush (n := 101) (v := 101) dd_X12_init_1737 (by decide) ?_
  refine fq_cast (i0 := 2) hs382 ca_268 (by omega) dd_X12_init_1739 (vp_in_nI (n := 2) (by decide) (by decide)) rfl rfl (fun h383 e383 hs383 => ?_)
  refine fv_dup dd_X12_init_1740 rfl ?_
  refine fv_iconst (n := 3) (v := 3) dd_X12_init_1741 (by decide) ?_
  refine fv_bipush (n := 115) (v := 115) dd_X12_init_1742 (by decide) ?_
  refine fq_cast (i0 := 3) hs383 ca_268 (by omega) dd_X12_init_1744 (vp_in_nI (n := 3) (by decide) (by decide)) rfl rfl (fun h384 e384 hs384 => ?_)
  refine fq_putr (ci := 12) (j := 99) hs384 ca_196 (by omega) rfl dd_X12_init_1745 pf_X12_234 (Or.inr ⟨_, rfl⟩) (fun h385 e385 hs385 => ?_)
  refine fv_aload_n (k0 := 0) (i := 0) dd_X12_init_1748 rfl rfl ?_
  refine fv_sipush (n := 1700) (v := 1700) dd_X12_init_1749 (by decide) ?_
  refine fq_newaI (M := 1700) hs385 ca_269 dd_X12_init_1752 (by decide) (by decide) (by decide) (fun h386 e386 hs386 => ?_)
  refine fq_putr (ci := 12) (j := 100) hs386 ca_196 (by omega) rfl dd_X12_init_1754 pf_X12_237 (Or.inr ⟨_, rfl⟩) (fun h387 e387 hs387 => ?_)
  refine fv_aload_n (k0 := 0) (i := 0) dd_X12_init_1757 rfl rfl ?_
  refine fv_sipush (n := 1700) (v := 1700) dd_X12_init_1758 (by decide) ?_
  refine fq_newaI (M := 1700) hs387 ca_270 dd_X12_init_1761 (by decide) (by decide) (by decide) (fun h388 e388 hs388 => ?_)
  refine fq_putr (ci := 12) (j := 102) hs388 ca_196 (by omega) rfl dd_X12_init_1763 pf_X12_240 (Or.inr ⟨_, rfl⟩) (fun h389 e389 hs389 => ?_)
  refine fv_aload_n (k0 := 0) (i := 0) dd_X12_init_1766 rfl rfl ?_
  refine fv_sipush (n := 1700) (v := 1700) dd_X12_init_1767 (by decide) ?_
  refine fq_newaJ (M := 1700) hs389 ca_271 dd_X12_init_1770 (by decide) (by decide) (by decide) (fun h390 e390 hs390 => ?_)
  refine fq_putr (ci := 12) (j := 106) hs390 ca_196 (by omega) rfl dd_X12_init_1772 pf_X12_243 (Or.inr ⟨_, rfl⟩) (fun h391 e391 hs391 => ?_)
  refine fv_aload_n (k0 := 0) (i := 0) dd_X12_init_1775 rfl rfl ?_
  refine fv_bipush (n := 33) (v := 33) dd_X12_init_1776 (by decide) ?_
  refine fq_newaI (M := 33) hs391 ca_272 dd_X12_init_1778 (by decide) (by decide) (by decide) (fun h392 e392 hs392 => ?_)
  refine fq_putr (ci := 12) (j := 110) hs392 ca_196 (by omega) rfl dd_X12_init_1780 pf_X12_246 (Or.inr ⟨_, rfl⟩) (fun h393 e393 hs393 => ?_)
  refine fv_vret dd_X12_init_1783 rfl ?_
  subst e393
  subst e392
  subst e391
  subst e390
  subst e389
  subst e388
  subst e387
  subst e386
  subst e385
  subst e384
  subst e383
  subst e382
  subst e381
  subst e380
  subst e379
  subst e378
  subst e377
  subst e376
  subst e375
  subst e374
  subst e373
  subst e372
  subst e371
  subst e370
  subst e369
  subst e368
  subst e367
  subst e366
  subst e365
  subst e364
  subst e363
  subst e362
  subst e361
  subst e360
  subst e359
  subst e358
  subst e357
  subst e356
  subst e355
  subst e354
  subst e353
  subst e352
  subst e351
  subst e350
  subst e349
  subst e348
  subst e347
  subst e346
  subst e345
  subst e344
  subst e343
  subst e342
  subst e341
  subst e340
  subst e339
  subst e338
  subst e337
  subst e336
  subst e335
  subst e334
  subst e333
  subst e332
  subst e331
  subst e330
  subst e329
  subst e328
  subst e327
  subst e326
  subst e325
  subst e324
  subst e323
  subst e322
  subst e321
  subst e320
  subst e319
  subst e318
  subst e317
  subst e316
  subst e315
  subst e314
  subst e313
  subst e312
  subst e311
  subst e310
  subst e309
  subst e308
  subst e307
  subst e306
  subst e305
  subst e304
  subst e303
  subst e302
  subst e301
  subst e300
  subst e299
  subst e298
  subst e297
  subst e296
  subst e295
  subst e294
  subst e293
  subst e292
  subst e291
  subst e290
  subst e289
  subst e288
  subst e287
  subst e286
  subst e285
  subst e284
  subst e283
  subst e282
  subst e281
  subst e280
  subst e279
  subst e278
  subst e277
  subst e276
  subst e275
  subst e274
  subst e273
  subst e272
  subst e271
  subst e270
  subst e269
  subst e268
  subst e267
  subst e266
  subst e265
  subst e264
  subst e263
  subst e262
  subst e261
  subst e260
  subst e259
  subst e258
  subst e257
  subst e256
  subst e255
  subst e254
  subst e253
  subst e252
  subst e251
  subst e250
  subst e249
  subst e248
  subst e247
  subst e246
  subst e245
  subst e244
  subst e243
  subst e242
  subst e241
  subst e240
  subst e239
  subst e238
  subst e237
  subst e236
  subst e235
  subst e234
  subst e233
  subst e232
  subst e231
  subst e230
  subst e229
  subst e228
  subst e227
  subst e226
  subst e225
  subst e224
  subst e223
  subst e222
  subst e221
  subst e220
  subst e219
  subst e218
  subst e217
  subst e216
  subst e215
  subst e214
  subst e213
  subst e212
  subst e211
  subst e210
  subst e209
  subst e208
  subst e207
  subst e206
  subst e205
  subst e204
  subst e203
  subst e202
  subst e201
  subst e200
  subst e199
  subst e198
  subst e197
  subst e196
  subst e195
  subst e194
  subst e193
  subst e192
  subst e191
  subst e190
  subst e189
  subst e188
  subst e187
  subst e186
  subst e185
  subst e184
  subst e183
  subst e182
  subst e181
  subst e180
  subst e179
  subst e178
  subst e177
  subst e176
  subst e175
  subst e174
  subst e173
  subst e172
  subst e171
  subst e170
  subst e169
  subst e168
  subst e167
  subst e166
  subst e165
  subst e164
  subst e163
  subst e162
  subst e161
  subst e160
  subst e159
  subst e158
  subst e157
  subst e156
  subst e155
  subst e154
  subst e153
  subst e152
  subst e151
  subst e150
  subst e149
  subst e148
  subst e147
  subst e146
  subst e145
  subst e144
  subst e143
  subst e142
  subst e141
  subst e140
  subst e139
  subst e138
  subst e137
  subst e136
  subst e135
  subst e134
  subst e133
  subst e132
  subst e131
  subst e130
  subst e129
  subst e128
  subst e127
  subst e126
  subst e125
  subst e124
  subst e123
  subst e122
  subst e121
  subst e120
  subst e119
  subst e118
  subst e117
  subst e116
  subst e115
  subst e114
  subst e113
  subst e112
  subst e111
  subst e110
  subst e109
  subst e108
  subst e107
  subst e106
  subst e105
  subst e104
  subst e103
  subst e102
  subst e101
  subst e100
  subst e99
  subst e98
  subst e97
  subst e96
  subst e95
  subst e94
  subst e93
  subst e92
  subst e91
  subst e90
  subst e89
  subst e88
  subst e87
  subst e86
  subst e85
  subst e84
  subst e83
  subst e82
  subst e81
  subst e80
  subst e79
  subst e78
  subst e77
  subst e76
  subst e75
  subst e74
  subst e73
  subst e72
  subst e71
  subst e70
  subst e69
  subst e68
  subst e67
  subst e66
  subst e65
  subst e64
  subst e63
  subst e62
  subst e61
  subst e60
  subst e59
  subst e58
  subst e57
  subst e56
  subst e55
  subst e54
  subst e53
  subst e52
  subst e51
  subst e50
  subst e49
  subst e48
  subst e47
  subst e46
  subst e45
  subst e44
  subst e43
  subst e42
  subst e41
  subst e40
  subst e39
  subst e38
  subst e37
  subst e36
  subst e35
  subst e34
  subst e33
  subst e32
  subst e31
  subst e30
  subst e29
  subst e28
  subst e27
  subst e26
  subst e25
  subst e24
  subst e23
  subst e22
  subst e21
  subst e20
  subst e19
  subst e18
  subst e17
  subst e16
  subst e15
  subst e14
  subst e13
  subst e12
  subst e11
  subst e10
  subst e9
  subst e8
  subst e7
  subst e6
  subst e5
  subst e4
  subst e3
  subst e2
  subst e1
  exact hq hs393

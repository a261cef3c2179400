/-! the law: its cases -/
section LC
variable {p : Program} {l : Launch} {e : Env} {s : State} {m : MethodId} {args : Array Value} {below : List Frame} {meth : Method} {c : Code} {Q : State → Prop}
variable {D : va_G} {DA : Nat → ClassId} {h0 h : zz_H} {I : lw_I} {b L9 n x r u : Nat} {xs : Nat → Int32} {v5 v6 : Option zz_V}
set_option maxRecDepth 100000 in
set_option maxHeartbeats 4000000 in
theorem lc_type (C : zz_C p s m args c code 7 "SegmentTreesLaw" D DA) (hl : l.stackTraces = false) (hG : xx_G (zz_A h0 s.heap.size) s s.heap) (hN : xx_N s) (h93 : zz_tg h0 b = some (93, L9)) (hX0 : va_X b L9 xs s s.heap) (hL9 : L9 ≤ 3584) (hn : 7 * n + 7 ≤ L9) (hIt : st_tag I) (hst : st_type I) (hI : I n h x r u) (hK : ∀ h' v5 v6, I (n + 1) h' x r u → zz_Z p l e room_1 s m args below meth c Q D DA (zz_A h0 s.heap.size) h0 7 1049 [some (zz_r 93 (some b)), some (zz_r 0 (some x)), some (zz_r 7 (some r)), some (zz_r 92 (some u)), some (zz_i (nI (7 * n))), v5, v6] [] h' (49 + 4 * n + 4) (1090 + 24 * n + 24)) : zz_Z p l e room_1 s m args below meth c Q D DA (zz_A h0 s.heap.size) h0 7 132 [some (zz_r 93 (some b)), some (zz_r 0 (some x)), some (zz_r 7 (some r)), some (zz_r 92 (some u)), some (zz_i (nI (7 * n))), v5, v6] [] h (49 + 4 * n) (1090 + 24 * n) := by
  refine zz_xs h93 hX0 (fun ht hx hty => ?_)
  refine zz_aload_n (q := 133) (f := 1) (i := 1) C (by decide +kernel) rfl rfl rfl ?_
  refine zz_aload_n (q := 134) (f := 0) (i := 0) C (by decide +kernel) rfl rfl rfl ?_
  refine zz_iload (q := 136) (i := 4) C (by decide +kernel) rfl rfl ?_
  refine zz_iconst (q := 137) (n := 1) (x := 1) C (by decide +kernel) rfl (by decide +kernel) ?_
  refine zz_iadd (q := 138) C (by decide +kernel) rfl (nI_add (7 * n) 1) ?_
  refine zz_sload (q := 139) C (by decide +kernel) rfl rfl ht rfl (by omega) (by omega) (hx _ (by omega)) ?_
  refine zz_aload_n (q := 140) (f := 0) (i := 0) C (by decide +kernel) rfl rfl rfl ?_
  refine zz_iload (q := 142) (i := 4) C (by decide +kernel) rfl rfl ?_
  refine zz_iconst (q := 143) (n := 2) (x := 2) C (by decide +kernel) rfl (by decide +kernel) ?_
  refine zz_iadd (q := 144) C (by decide +kernel) rfl (nI_add (7 * n) 2) ?_
  refine zz_sload (q := 145) C (by decide +kernel) rfl rfl ht rfl (by omega) (by omega) (hx _ (by omega)) ?_
  refine zz_aload_n (q := 146) (f := 0) (i := 0) C (by decide +kernel) rfl rfl rfl ?_
  refine zz_iload (q := 148) (i := 4) C (by decide +kernel) rfl rfl ?_
  refine zz_iconst (q := 149) (n := 3) (x := 3) C (by decide +kernel) rfl (by decide +kernel) ?_
  refine zz_iadd (q := 150) C (by decide +kernel) rfl (nI_add (7 * n) 3) ?_
  refine zz_sload (q := 151) C (by decide +kernel) rfl rfl ht rfl (by omega) (by omega) (hx _ (by omega)) ?_
  refine zz_aload_n (q := 152) (f := 0) (i := 0) C (by decide +kernel) rfl rfl rfl ?_
  refine zz_iload (q := 154) (i := 4) C (by decide +kernel) rfl rfl ?_
  refine zz_iconst (q := 155) (n := 4) (x := 4) C (by decide +kernel) rfl (by decide +kernel) ?_
  refine zz_iadd (q := 156) C (by decide +kernel) rfl (nI_add (7 * n) 4) ?_
  refine zz_sload (q := 157) C (by decide +kernel) rfl rfl ht rfl (by omega) (by omega) (hx _ (by omega)) ?_
  refine zz_aload_n (q := 158) (f := 0) (i := 0) C (by decide +kernel) rfl rfl rfl ?_
  refine zz_iload (q := 160) (i := 4) C (by decide +kernel) rfl rfl ?_
  refine zz_iconst (q := 161) (n := 5) (x := 5) C (by decide +kernel) rfl (by decide +kernel) ?_
  refine zz_iadd (q := 162) C (by decide +kernel) rfl (nI_add (7 * n) 5) ?_
  refine zz_sload (q := 163) C (by decide +kernel) rfl rfl ht rfl (by omega) (by omega) (hx _ (by omega)) ?_
  refine zz_nz (o1 := 7) (t := 170) (q1 := 166) (q2 := 167) (o2 := 4) (j := 171) C (by decide +kernel) (by decide) rfl (by decide +kernel) rfl (by decide +kernel) (by decide) (by decide +kernel) rfl ?_
  refine zz_aload_n (q := 172) (f := 0) (i := 0) C (by decide +kernel) rfl rfl rfl ?_
  refine zz_iload (q := 174) (i := 4) C (by decide +kernel) rfl rfl ?_
  refine zz_bipush (q := 176) (n := 6) (x := 6) C (by decide +kernel) rfl (by decide +kernel) ?_
  refine zz_iadd (q := 177) C (by decide +kernel) rfl (nI_add (7 * n) 6) ?_
  refine zz_sload (q := 178) C (by decide +kernel) rfl rfl ht rfl (by omega) (by omega) (hx _ (by omega)) ?_
  refine zz_nz (o1 := 7) (t := 185) (q1 := 181) (q2 := 182) (o2 := 4) (j := 186) C (by decide +kernel) (by decide) rfl (by decide +kernel) rfl (by decide +kernel) (by decide) (by decide +kernel) rfl ?_
  refine zz_callW (q := 189) C hG hN (zz_MetL_up (m_W_type l hl)) cw_W_63 (by decide +kernel) rfl rfl rfl (by decide) (by simp only [room_1]; omega) (Nat.le_of_ble_eq_true rfl) ?_
  refine zz_up_mono (hst n h x r u _ _ _ _ _ _ (by omega) hI hty (nz01 _) (nz01 _)) (fun v h1 hv => ?_)
  obtain ⟨k9, rfl, hv⟩ := hv
  refine zz_wide (k := 49 + 4 * n + 4) (n := 1090 + 24 * n + 24) (by simp only []; omega) (by simp only []; omega) ?_
  refine zz_xs h93 hX0 (fun ht hx hty => ?_)
  refine zz_istore (q := 191) (i := 5) C (by decide +kernel) rfl (by decide) rfl ?_
  refine zz_aload_n (q := 192) (f := 2) (i := 2) C (by decide +kernel) rfl rfl rfl ?_
  refine zz_aload_n (q := 193) (f := 0) (i := 0) C (by decide +kernel) rfl rfl rfl ?_
  refine zz_iload (q := 195) (i := 4) C (by decide +kernel) rfl rfl ?_
  refine zz_iconst (q := 196) (n := 1) (x := 1) C (by decide +kernel) rfl (by decide +kernel) ?_
  refine zz_iadd (q := 197) C (by decide +kernel) rfl (nI_add (7 * n) 1) ?_
  refine zz_sload (q := 198) C (by decide +kernel) rfl rfl ht rfl (by omega) (by omega) (hx _ (by omega)) ?_
  refine zz_aload_n (q := 199) (f := 0) (i := 0) C (by decide +kernel) rfl rfl rfl ?_
  refine zz_iload (q := 201) (i := 4) C (by decide +kernel) rfl rfl ?_
  refine zz_iconst (q := 202) (n := 2) (x := 2) C (by decide +kernel) rfl (by decide +kernel) ?_
  refine zz_iadd (q := 203) C (by decide +kernel) rfl (nI_add (7 * n) 2) ?_
  refine zz_sload (q := 204) C (by decide +kernel) rfl rfl ht rfl (by omega) (by omega) (hx _ (by omega)) ?_
  refine zz_aload_n (q := 205) (f := 0) (i := 0) C (by decide +kernel) rfl rfl rfl ?_
  refine zz_iload (q := 207) (i := 4) C (by decide +kernel) rfl rfl ?_
  refine zz_iconst (q := 208) (n := 3) (x := 3) C (by decide +kernel) rfl (by decide +kernel) ?_
  refine zz_iadd (q := 209) C (by decide +kernel) rfl (nI_add (7 * n) 3) ?_
  refine zz_sload (q := 210) C (by decide +kernel) rfl rfl ht rfl (by omega) (by omega) (hx _ (by omega)) ?_
  refine zz_aload_n (q := 211) (f := 0) (i := 0) C (by decide +kernel) rfl rfl rfl ?_
  refine zz_iload (q := 213) (i := 4) C (by decide +kernel) rfl rfl ?_
  refine zz_iconst (q := 214) (n := 4) (x := 4) C (by decide +kernel) rfl (by decide +kernel) ?_
  refine zz_iadd (q := 215) C (by decide +kernel) rfl (nI_add (7 * n) 4) ?_
  refine zz_sload (q := 216) C (by decide +kernel) rfl rfl ht rfl (by omega) (by omega) (hx _ (by omega)) ?_
  refine zz_aload_n (q := 217) (f := 0) (i := 0) C (by decide +kernel) rfl rfl rfl ?_
  refine zz_iload (q := 219) (i := 4) C (by decide +kernel) rfl rfl ?_
  refine zz_iconst (q := 220) (n := 5) (x := 5) C (by decide +kernel) rfl (by decide +kernel) ?_
  refine zz_iadd (q := 221) C (by decide +kernel) rfl (nI_add (7 * n) 5) ?_
  refine zz_sload (q := 222) C (by decide +kernel) rfl rfl ht rfl (by omega) (by omega) (hx _ (by omega)) ?_
  refine zz_nz (o1 := 7) (t := 229) (q1 := 225) (q2 := 226) (o2 := 4) (j := 230) C (by decide +kernel) (by decide) rfl (by decide +kernel) rfl (by decide +kernel) (by decide) (by decide +kernel) rfl ?_
  refine zz_aload_n (q := 231) (f := 0) (i := 0) C (by decide +kernel) rfl rfl rfl ?_
  refine zz_iload (q := 233) (i := 4) C (by decide +kernel) rfl rfl ?_
  refine zz_bipush (q := 235) (n := 6) (x := 6) C (by decide +kernel) rfl (by decide +kernel) ?_
  refine zz_iadd (q := 236) C (by decide +kernel) rfl (nI_add (7 * n) 6) ?_
  refine zz_sload (q := 237) C (by decide +kernel) rfl rfl ht rfl (by omega) (by omega) (hx _ (by omega)) ?_
  refine zz_nz (o1 := 7) (t := 244) (q1 := 240) (q2 := 241) (o2 := 4) (j := 245) C (by decide +kernel) (by decide) rfl (by decide +kernel) rfl (by decide +kernel) (by decide) (by decide +kernel) rfl ?_
  refine zz_callV (q := 248) C (zz_Met_up (m_M_type l)) cv_W_68 (by decide +kernel) rfl rfl rfl rfl (by decide) (by simp only [room_1]; omega) (Nat.le_of_ble_eq_true rfl) ?_
  refine zz_up_mono hv (fun w h2 hw => ?_)
  obtain ⟨rfl, hk9, hI2⟩ := hw
  refine zz_wide (k := 49 + 4 * n + 4) (n := 1090 + 24 * n + 24) (by simp only []; omega) (by simp only []; omega) ?_
  refine zz_aload_n (q := 249) (f := 2) (i := 2) C (by decide +kernel) rfl rfl rfl ?_
  refine zz_callV (q := 252) C (m_M_thrown l) cv_W_69 (by decide +kernel) rfl rfl rfl rfl (by decide) (by simp only [room_1]; omega) (Nat.le_of_ble_eq_true rfl) ⟨_, rfl, ?_⟩
  refine zz_iload (q := 254) (i := 5) C (by decide +kernel) rfl rfl ?_
  refine zz_icmp_eq (off := 5) (tgt := 259) (q := 257) C (by decide +kernel) (by decide) rfl (fun _ => ?_) (fun c254 => absurd hk9 c254)
  refine zz_goto (off := 790) (tgt := 1049) C (by decide +kernel) (by decide) ?_
  exact hK _ _ _ hI2
set_option maxRecDepth 100000 in
set_option maxHeartbeats 4000000 in
theorem lc_twins (C : zz_C p s m args c code 7 "SegmentTreesLaw" D DA) (hl : l.stackTraces = false) (hG : xx_G (zz_A h0 s.heap.size) s s.heap) (hN : xx_N s) (h93 : zz_tg h0 b = some (93, L9)) (hX0 : va_X b L9 xs s s.heap) (hL9 : L9 ≤ 3584) (hn : 7 * n + 7 ≤ L9) (hIt : st_tag I) (hst : st_twins I) (hI : I n h x r u) (hK : ∀ h' v5 v6, I (n + 1) h' x r u → zz_Z p l e room_1 s m args below meth c Q D DA (zz_A h0 s.heap.size) h0 7 1049 [some (zz_r 93 (some b)), some (zz_r 0 (some x)), some (zz_r 7 (some r)), some (zz_r 92 (some u)), some (zz_i (nI (7 * n))), v5, v6] [] h' (49 + 4 * n + 4) (1090 + 24 * n + 24)) : zz_Z p l e room_1 s m args below meth c Q D DA (zz_A h0 s.heap.size) h0 7 262 [some (zz_r 93 (some b)), some (zz_r 0 (some x)), some (zz_r 7 (some r)), some (zz_r 92 (some u)), some (zz_i (nI (7 * n))), v5, v6] [] h (49 + 4 * n) (1090 + 24 * n) := by
  refine zz_xs h93 hX0 (fun ht hx hty => ?_)
  refine zz_aload_n (q := 263) (f := 1) (i := 1) C (by decide +kernel) rfl rfl rfl ?_
  refine zz_aload_n (q := 264) (f := 0) (i := 0) C (by decide +kernel) rfl rfl rfl ?_
  refine zz_iload (q := 266) (i := 4) C (by decide +kernel) rfl rfl ?_
  refine zz_iconst (q := 267) (n := 1) (x := 1) C (by decide +kernel) rfl (by decide +kernel) ?_
  refine zz_iadd (q := 268) C (by decide +kernel) rfl (nI_add (7 * n) 1) ?_
  refine zz_sload (q := 269) C (by decide +kernel) rfl rfl ht rfl (by omega) (by omega) (hx _ (by omega)) ?_
  refine zz_aload_n (q := 270) (f := 0) (i := 0) C (by decide +kernel) rfl rfl rfl ?_
  refine zz_iload (q := 272) (i := 4) C (by decide +kernel) rfl rfl ?_
  refine zz_iconst (q := 273) (n := 2) (x := 2) C (by decide +kernel) rfl (by decide +kernel) ?_
  refine zz_iadd (q := 274) C (by decide +kernel) rfl (nI_add (7 * n) 2) ?_
  refine zz_sload (q := 275) C (by decide +kernel) rfl rfl ht rfl (by omega) (by omega) (hx _ (by omega)) ?_
  refine zz_callW (q := 278) C hG hN (zz_MetL_up (m_W_twins l hl)) cw_W_72 (by decide +kernel) rfl rfl rfl (by decide) (by simp only [room_1]; omega) (Nat.le_of_ble_eq_true rfl) ?_
  refine zz_up_mono (hst n h x r u _ _ (by omega) hI hty) (fun v h1 hv => ?_)
  obtain ⟨k9, rfl, hv⟩ := hv
  refine zz_wide (k := 49 + 4 * n + 4) (n := 1090 + 24 * n + 24) (by simp only []; omega) (by simp only []; omega) ?_
  refine zz_xs h93 hX0 (fun ht hx hty => ?_)
  refine zz_istore (q := 280) (i := 5) C (by decide +kernel) rfl (by decide) rfl ?_
  refine zz_aload_n (q := 281) (f := 2) (i := 2) C (by decide +kernel) rfl rfl rfl ?_
  refine zz_aload_n (q := 282) (f := 0) (i := 0) C (by decide +kernel) rfl rfl rfl ?_
  refine zz_iload (q := 284) (i := 4) C (by decide +kernel) rfl rfl ?_
  refine zz_iconst (q := 285) (n := 1) (x := 1) C (by decide +kernel) rfl (by decide +kernel) ?_
  refine zz_iadd (q := 286) C (by decide +kernel) rfl (nI_add (7 * n) 1) ?_
  refine zz_sload (q := 287) C (by decide +kernel) rfl rfl ht rfl (by omega) (by omega) (hx _ (by omega)) ?_
  refine zz_aload_n (q := 288) (f := 0) (i := 0) C (by decide +kernel) rfl rfl rfl ?_
  refine zz_iload (q := 290) (i := 4) C (by decide +kernel) rfl rfl ?_
  refine zz_iconst (q := 291) (n := 2) (x := 2) C (by decide +kernel) rfl (by decide +kernel) ?_
  refine zz_iadd (q := 292) C (by decide +kernel) rfl (nI_add (7 * n) 2) ?_
  refine zz_sload (q := 293) C (by decide +kernel) rfl rfl ht rfl (by omega) (by omega) (hx _ (by omega)) ?_
  refine zz_callV (q := 296) C (zz_Met_up (m_M_twins l)) cv_W_75 (by decide +kernel) rfl rfl rfl rfl (by decide) (by simp only [room_1]; omega) (Nat.le_of_ble_eq_true rfl) ?_
  refine zz_up_mono hv (fun w h2 hw => ?_)
  obtain ⟨rfl, hk9, hI2⟩ := hw
  refine zz_wide (k := 49 + 4 * n + 4) (n := 1090 + 24 * n + 24) (by simp only []; omega) (by simp only []; omega) ?_
  refine zz_aload_n (q := 297) (f := 2) (i := 2) C (by decide +kernel) rfl rfl rfl ?_
  refine zz_callV (q := 300) C (m_M_thrown l) cv_W_69 (by decide +kernel) rfl rfl rfl rfl (by decide) (by simp only [room_1]; omega) (Nat.le_of_ble_eq_true rfl) ⟨_, rfl, ?_⟩
  refine zz_iload (q := 302) (i := 5) C (by decide +kernel) rfl rfl ?_
  refine zz_icmp_eq (off := 5) (tgt := 307) (q := 305) C (by decide +kernel) (by decide) rfl (fun _ => ?_) (fun c302 => absurd hk9 c302)
  refine zz_goto (off := 742) (tgt := 1049) C (by decide +kernel) (by decide) ?_
  exact hK _ _ _ hI2
set_option maxRecDepth 100000 in
set_option maxHeartbeats 4000000 in
theorem lc_second (C : zz_C p s m args c code 7 "SegmentTreesLaw" D DA) (hl : l.stackTraces = false) (hG : xx_G (zz_A h0 s.heap.size) s s.heap) (hN : xx_N s) (h93 : zz_tg h0 b = some (93, L9)) (hX0 : va_X b L9 xs s s.heap) (hL9 : L9 ≤ 3584) (hn : 7 * n + 7 ≤ L9) (hIt : st_tag I) (hst : st_second I) (hI : I n h x r u) (hK : ∀ h' v5 v6, I (n + 1) h' x r u → zz_Z p l e room_1 s m args below meth c Q D DA (zz_A h0 s.heap.size) h0 7 1049 [some (zz_r 93 (some b)), some (zz_r 0 (some x)), some (zz_r 7 (some r)), some (zz_r 92 (some u)), some (zz_i (nI (7 * n))), v5, v6] [] h' (49 + 4 * n + 4) (1090 + 24 * n + 24)) : zz_Z p l e room_1 s m args below meth c Q D DA (zz_A h0 s.heap.size) h0 7 310 [some (zz_r 93 (some b)), some (zz_r 0 (some x)), some (zz_r 7 (some r)), some (zz_r 92 (some u)), some (zz_i (nI (7 * n))), v5, v6] [] h (49 + 4 * n) (1090 + 24 * n) := by
  refine zz_xs h93 hX0 (fun ht hx hty => ?_)
  refine zz_aload_n (q := 311) (f := 1) (i := 1) C (by decide +kernel) rfl rfl rfl ?_
  refine zz_aload_n (q := 312) (f := 0) (i := 0) C (by decide +kernel) rfl rfl rfl ?_
  refine zz_iload (q := 314) (i := 4) C (by decide +kernel) rfl rfl ?_
  refine zz_iconst (q := 315) (n := 1) (x := 1) C (by decide +kernel) rfl (by decide +kernel) ?_
  refine zz_iadd (q := 316) C (by decide +kernel) rfl (nI_add (7 * n) 1) ?_
  refine zz_sload (q := 317) C (by decide +kernel) rfl rfl ht rfl (by omega) (by omega) (hx _ (by omega)) ?_
  refine zz_aload_n (q := 318) (f := 0) (i := 0) C (by decide +kernel) rfl rfl rfl ?_
  refine zz_iload (q := 320) (i := 4) C (by decide +kernel) rfl rfl ?_
  refine zz_iconst (q := 321) (n := 2) (x := 2) C (by decide +kernel) rfl (by decide +kernel) ?_
  refine zz_iadd (q := 322) C (by decide +kernel) rfl (nI_add (7 * n) 2) ?_
  refine zz_sload (q := 323) C (by decide +kernel) rfl rfl ht rfl (by omega) (by omega) (hx _ (by omega)) ?_
  refine zz_callW (q := 326) C hG hN (zz_MetL_up (m_W_second l hl)) cw_W_76 (by decide +kernel) rfl rfl rfl (by decide) (by simp only [room_1]; omega) (Nat.le_of_ble_eq_true rfl) ?_
  refine zz_up_mono (hst n h x r u _ _ (by omega) hI hty) (fun v h1 hv => ?_)
  obtain ⟨k9, rfl, hv⟩ := hv
  refine zz_wide (k := 49 + 4 * n + 4) (n := 1090 + 24 * n + 24) (by simp only []; omega) (by simp only []; omega) ?_
  refine zz_xs h93 hX0 (fun ht hx hty => ?_)
  refine zz_istore (q := 328) (i := 5) C (by decide +kernel) rfl (by decide) rfl ?_
  refine zz_aload_n (q := 329) (f := 2) (i := 2) C (by decide +kernel) rfl rfl rfl ?_
  refine zz_aload_n (q := 330) (f := 0) (i := 0) C (by decide +kernel) rfl rfl rfl ?_
  refine zz_iload (q := 332) (i := 4) C (by decide +kernel) rfl rfl ?_
  refine zz_iconst (q := 333) (n := 1) (x := 1) C (by decide +kernel) rfl (by decide +kernel) ?_
  refine zz_iadd (q := 334) C (by decide +kernel) rfl (nI_add (7 * n) 1) ?_
  refine zz_sload (q := 335) C (by decide +kernel) rfl rfl ht rfl (by omega) (by omega) (hx _ (by omega)) ?_
  refine zz_aload_n (q := 336) (f := 0) (i := 0) C (by decide +kernel) rfl rfl rfl ?_
  refine zz_iload (q := 338) (i := 4) C (by decide +kernel) rfl rfl ?_
  refine zz_iconst (q := 339) (n := 2) (x := 2) C (by decide +kernel) rfl (by decide +kernel) ?_
  refine zz_iadd (q := 340) C (by decide +kernel) rfl (nI_add (7 * n) 2) ?_
  refine zz_sload (q := 341) C (by decide +kernel) rfl rfl ht rfl (by omega) (by omega) (hx _ (by omega)) ?_
  refine zz_callV (q := 344) C (zz_Met_up (m_M_second l)) cv_W_78 (by decide +kernel) rfl rfl rfl rfl (by decide) (by simp only [room_1]; omega) (Nat.le_of_ble_eq_true rfl) ?_
  refine zz_up_mono hv (fun w h2 hw => ?_)
  obtain ⟨rfl, hk9, hI2⟩ := hw
  refine zz_wide (k := 49 + 4 * n + 4) (n := 1090 + 24 * n + 24) (by simp only []; omega) (by simp only []; omega) ?_
  refine zz_aload_n (q := 345) (f := 2) (i := 2) C (by decide +kernel) rfl rfl rfl ?_
  refine zz_callV (q := 348) C (m_M_thrown l) cv_W_69 (by decide +kernel) rfl rfl rfl rfl (by decide) (by simp only [room_1]; omega) (Nat.le_of_ble_eq_true rfl) ⟨_, rfl, ?_⟩
  refine zz_iload (q := 350) (i := 5) C (by decide +kernel) rfl rfl ?_
  refine zz_icmp_eq (off := 5) (tgt := 355) (q := 353) C (by decide +kernel) (by decide) rfl (fun _ => ?_) (fun c350 => absurd hk9 c350)
  refine zz_goto (off := 694) (tgt := 1049) C (by decide +kernel) (by decide) ?_
  exact hK _ _ _ hI2
set_option maxRecDepth 100000 in
set_option maxHeartbeats 4000000 in
theorem lc_clearPath (C : zz_C p s m args c code 7 "SegmentTreesLaw" D DA) (hl : l.stackTraces = false) (hG : xx_G (zz_A h0 s.heap.size) s s.heap) (hN : xx_N s) (h93 : zz_tg h0 b = some (93, L9)) (hX0 : va_X b L9 xs s s.heap) (hL9 : L9 ≤ 3584) (hn : 7 * n + 7 ≤ L9) (hIt : st_tag I) (hst : st_clearPath I) (hI : I n h x r u) (hK : ∀ h' v5 v6, I (n + 1) h' x r u → zz_Z p l e room_1 s m args below meth c Q D DA (zz_A h0 s.heap.size) h0 7 1049 [some (zz_r 93 (some b)), some (zz_r 0 (some x)), some (zz_r 7 (some r)), some (zz_r 92 (some u)), some (zz_i (nI (7 * n))), v5, v6] [] h' (49 + 4 * n + 4) (1090 + 24 * n + 24)) : zz_Z p l e room_1 s m args below meth c Q D DA (zz_A h0 s.heap.size) h0 7 358 [some (zz_r 93 (some b)), some (zz_r 0 (some x)), some (zz_r 7 (some r)), some (zz_r 92 (some u)), some (zz_i (nI (7 * n))), v5, v6] [] h (49 + 4 * n) (1090 + 24 * n) := by
  refine zz_xs h93 hX0 (fun ht hx hty => ?_)
  refine zz_aload_n (q := 359) (f := 1) (i := 1) C (by decide +kernel) rfl rfl rfl ?_
  refine zz_callV (q := 362) C (zz_Met_up (m_T_clearPath l)) cv_W_79 (by decide +kernel) rfl rfl rfl rfl (by decide) (by simp only [room_1]; omega) (Nat.le_of_ble_eq_true rfl) ?_
  refine zz_up_mono (hst n h x r u  (by omega) hI hty) (fun v h1 hv => ?_)
  obtain ⟨rfl, hv⟩ := hv
  refine zz_wide (k := 49 + 4 * n + 4) (n := 1090 + 24 * n + 24) (by simp only []; omega) (by simp only []; omega) ?_
  refine zz_xs h93 hX0 (fun ht hx hty => ?_)
  refine zz_aload_n (q := 363) (f := 2) (i := 2) C (by decide +kernel) rfl rfl rfl ?_
  refine zz_callV (q := 366) C (zz_Met_up (m_M_clearPath l)) cv_W_82 (by decide +kernel) rfl rfl rfl rfl (by decide) (by simp only [room_1]; omega) (Nat.le_of_ble_eq_true rfl) ?_
  refine zz_up_mono hv (fun w h2 hw => ?_)
  obtain ⟨rfl, hI2⟩ := hw
  refine zz_wide (k := 49 + 4 * n + 4) (n := 1090 + 24 * n + 24) (by simp only []; omega) (by simp only []; omega) ?_
  refine zz_goto (off := 683) (tgt := 1049) C (by decide +kernel) (by decide) ?_
  exact hK _ _ _ hI2
set_option maxRecDepth 100000 in
set_option maxHeartbeats 4000000 in
theorem lc_path (C : zz_C p s m args c code 7 "SegmentTreesLaw" D DA) (hl : l.stackTraces = false) (hG : xx_G (zz_A h0 s.heap.size) s s.heap) (hN : xx_N s) (h93 : zz_tg h0 b = some (93, L9)) (hX0 : va_X b L9 xs s s.heap) (hL9 : L9 ≤ 3584) (hn : 7 * n + 7 ≤ L9) (hIt : st_tag I) (hst : st_path I) (hI : I n h x r u) (hK : ∀ h' v5 v6, I (n + 1) h' x r u → zz_Z p l e room_1 s m args below meth c Q D DA (zz_A h0 s.heap.size) h0 7 1049 [some (zz_r 93 (some b)), some (zz_r 0 (some x)), some (zz_r 7 (some r)), some (zz_r 92 (some u)), some (zz_i (nI (7 * n))), v5, v6] [] h' (49 + 4 * n + 4) (1090 + 24 * n + 24)) : zz_Z p l e room_1 s m args below meth c Q D DA (zz_A h0 s.heap.size) h0 7 369 [some (zz_r 93 (some b)), some (zz_r 0 (some x)), some (zz_r 7 (some r)), some (zz_r 92 (some u)), some (zz_i (nI (7 * n))), v5, v6] [] h (49 + 4 * n) (1090 + 24 * n) := by
  refine zz_xs h93 hX0 (fun ht hx hty => ?_)
  refine zz_aload_n (q := 370) (f := 1) (i := 1) C (by decide +kernel) rfl rfl rfl ?_
  refine zz_aload_n (q := 371) (f := 0) (i := 0) C (by decide +kernel) rfl rfl rfl ?_
  refine zz_iload (q := 373) (i := 4) C (by decide +kernel) rfl rfl ?_
  refine zz_iconst (q := 374) (n := 1) (x := 1) C (by decide +kernel) rfl (by decide +kernel) ?_
  refine zz_iadd (q := 375) C (by decide +kernel) rfl (nI_add (7 * n) 1) ?_
  refine zz_sload (q := 376) C (by decide +kernel) rfl rfl ht rfl (by omega) (by omega) (hx _ (by omega)) ?_
  refine zz_aload_n (q := 377) (f := 0) (i := 0) C (by decide +kernel) rfl rfl rfl ?_
  refine zz_iload (q := 379) (i := 4) C (by decide +kernel) rfl rfl ?_
  refine zz_iconst (q := 380) (n := 2) (x := 2) C (by decide +kernel) rfl (by decide +kernel) ?_
  refine zz_iadd (q := 381) C (by decide +kernel) rfl (nI_add (7 * n) 2) ?_
  refine zz_sload (q := 382) C (by decide +kernel) rfl rfl ht rfl (by omega) (by omega) (hx _ (by omega)) ?_
  refine zz_aload_n (q := 383) (f := 0) (i := 0) C (by decide +kernel) rfl rfl rfl ?_
  refine zz_iload (q := 385) (i := 4) C (by decide +kernel) rfl rfl ?_
  refine zz_iconst (q := 386) (n := 3) (x := 3) C (by decide +kernel) rfl (by decide +kernel) ?_
  refine zz_iadd (q := 387) C (by decide +kernel) rfl (nI_add (7 * n) 3) ?_
  refine zz_sload (q := 388) C (by decide +kernel) rfl rfl ht rfl (by omega) (by omega) (hx _ (by omega)) ?_
  refine zz_aload_n (q := 389) (f := 0) (i := 0) C (by decide +kernel) rfl rfl rfl ?_
  refine zz_iload (q := 391) (i := 4) C (by decide +kernel) rfl rfl ?_
  refine zz_iconst (q := 392) (n := 4) (x := 4) C (by decide +kernel) rfl (by decide +kernel) ?_
  refine zz_iadd (q := 393) C (by decide +kernel) rfl (nI_add (7 * n) 4) ?_
  refine zz_sload (q := 394) C (by decide +kernel) rfl rfl ht rfl (by omega) (by omega) (hx _ (by omega)) ?_
  refine zz_aload_n (q := 395) (f := 3) (i := 3) C (by decide +kernel) rfl rfl rfl ?_
  refine zz_callW (q := 398) C hG hN (zz_MetL_up (m_W_path l hl)) cw_W_83 (by decide +kernel) rfl rfl rfl (by decide) (by simp only [room_1]; omega) (Nat.le_of_ble_eq_true rfl) ?_
  refine zz_up_mono (hst n h x r u _ _ _ _ (by omega) hI hty) (fun v h1 hv => ?_)
  obtain ⟨k9, rfl, hv⟩ := hv
  refine zz_wide (k := 49 + 4 * n + 4) (n := 1090 + 24 * n + 24) (by simp only []; omega) (by simp only []; omega) ?_
  refine zz_xs h93 hX0 (fun ht hx hty => ?_)
  refine zz_istore (q := 400) (i := 5) C (by decide +kernel) rfl (by decide) rfl ?_
  refine zz_aload_n (q := 401) (f := 2) (i := 2) C (by decide +kernel) rfl rfl rfl ?_
  refine zz_aload_n (q := 402) (f := 0) (i := 0) C (by decide +kernel) rfl rfl rfl ?_
  refine zz_iload (q := 404) (i := 4) C (by decide +kernel) rfl rfl ?_
  refine zz_iconst (q := 405) (n := 1) (x := 1) C (by decide +kernel) rfl (by decide +kernel) ?_
  refine zz_iadd (q := 406) C (by decide +kernel) rfl (nI_add (7 * n) 1) ?_
  refine zz_sload (q := 407) C (by decide +kernel) rfl rfl ht rfl (by omega) (by omega) (hx _ (by omega)) ?_
  refine zz_aload_n (q := 408) (f := 0) (i := 0) C (by decide +kernel) rfl rfl rfl ?_
  refine zz_iload (q := 410) (i := 4) C (by decide +kernel) rfl rfl ?_
  refine zz_iconst (q := 411) (n := 2) (x := 2) C (by decide +kernel) rfl (by decide +kernel) ?_
  refine zz_iadd (q := 412) C (by decide +kernel) rfl (nI_add (7 * n) 2) ?_
  refine zz_sload (q := 413) C (by decide +kernel) rfl rfl ht rfl (by omega) (by omega) (hx _ (by omega)) ?_
  refine zz_aload_n (q := 414) (f := 0) (i := 0) C (by decide +kernel) rfl rfl rfl ?_
  refine zz_iload (q := 416) (i := 4) C (by decide +kernel) rfl rfl ?_
  refine zz_iconst (q := 417) (n := 3) (x := 3) C (by decide +kernel) rfl (by decide +kernel) ?_
  refine zz_iadd (q := 418) C (by decide +kernel) rfl (nI_add (7 * n) 3) ?_
  refine zz_sload (q := 419) C (by decide +kernel) rfl rfl ht rfl (by omega) (by omega) (hx _ (by omega)) ?_
  refine zz_aload_n (q := 420) (f := 0) (i := 0) C (by decide +kernel) rfl rfl rfl ?_
  refine zz_iload (q := 422) (i := 4) C (by decide +kernel) rfl rfl ?_
  refine zz_iconst (q := 423) (n := 4) (x := 4) C (by decide +kernel) rfl (by decide +kernel) ?_
  refine zz_iadd (q := 424) C (by decide +kernel) rfl (nI_add (7 * n) 4) ?_
  refine zz_sload (q := 425) C (by decide +kernel) rfl rfl ht rfl (by omega) (by omega) (hx _ (by omega)) ?_
  refine zz_callV (q := 428) C (zz_Met_up (m_M_path l)) cv_W_86 (by decide +kernel) rfl rfl rfl rfl (by decide) (by simp only [room_1]; omega) (Nat.le_of_ble_eq_true rfl) ?_
  refine zz_up_mono hv (fun w h2 hw => ?_)
  obtain ⟨b9, rfl, hk9, hou, hI2⟩ := hw
  refine zz_wide (k := 49 + 4 * n + 4) (n := 1090 + 24 * n + 24) (by simp only []; omega) (by simp only []; omega) ?_
  refine zz_istore (q := 430) (i := 6) C (by decide +kernel) rfl (by decide) rfl ?_
  refine zz_aload_n (q := 431) (f := 2) (i := 2) C (by decide +kernel) rfl rfl rfl ?_
  refine zz_callV (q := 434) C (m_M_thrown l) cv_W_69 (by decide +kernel) rfl rfl rfl rfl (by decide) (by simp only [room_1]; omega) (Nat.le_of_ble_eq_true rfl) ⟨_, rfl, ?_⟩
  refine zz_iload (q := 436) (i := 5) C (by decide +kernel) rfl rfl ?_
  refine zz_icmp_eq (off := 5) (tgt := 441) (q := 439) C (by decide +kernel) (by decide) rfl (fun _ => ?_) (fun c436 => absurd hk9 c436)
  refine zz_iload (q := 443) (i := 5) C (by decide +kernel) rfl rfl ?_
  refine zz_if_ne (off := 22) (tgt := 465) (q := 446) C (by decide +kernel) (by decide) rfl (fun c443 => ?_) (fun c443 => ?_)
  · refine zz_goto (off := 584) (tgt := 1049) C (by decide +kernel) (by decide) ?_
    exact hK _ _ _ hI2
  refine zz_aload_n (q := 447) (f := 3) (i := 3) C (by decide +kernel) rfl rfl rfl ?_
  refine zz_iconst (q := 448) (n := 0) (x := 0) C (by decide +kernel) rfl (by decide +kernel) ?_
  refine zz_laload (q := 449) C (by decide +kernel) rfl rfl (hIt _ _ _ _ _ hI2) rfl (by decide) (by decide) (hou c443) ?_
  refine zz_iload (q := 451) (i := 6) C (by decide +kernel) rfl rfl ?_
  refine zz_nzl (o1 := 7) (t := 458) (q1 := 454) (q2 := 455) (o2 := 4) (j := 459) C (by decide +kernel) (by decide) rfl (by decide +kernel) rfl (by decide +kernel) (by decide) (by decide +kernel) rfl ?_
  refine zz_lcmp (q := 460) C (by decide +kernel) rfl ?_
  refine zz_if_eq (off := 5) (tgt := 465) (q := 463) C (by decide +kernel) (by decide) rfl (fun _ => ?_) (fun c460 => absurd (lg_cmp_self _) c460)
  refine zz_goto (off := 584) (tgt := 1049) C (by decide +kernel) (by decide) ?_
  exact hK _ _ _ hI2
set_option maxRecDepth 100000 in
set_option maxHeartbeats 4000000 in
theorem lc_work (C : zz_C p s m args c code 7 "SegmentTreesLaw" D DA) (hl : l.stackTraces = false) (hG : xx_G (zz_A h0 s.heap.size) s s.heap) (hN : xx_N s) (h93 : zz_tg h0 b = some (93, L9)) (hX0 : va_X b L9 xs s s.heap) (hL9 : L9 ≤ 3584) (hn : 7 * n + 7 ≤ L9) (hIt : st_tag I) (hst : st_work I) (hI : I n h x r u) (hK : ∀ h' v5 v6, I (n + 1) h' x r u → zz_Z p l e room_1 s m args below meth c Q D DA (zz_A h0 s.heap.size) h0 7 1049 [some (zz_r 93 (some b)), some (zz_r 0 (some x)), some (zz_r 7 (some r)), some (zz_r 92 (some u)), some (zz_i (nI (7 * n))), v5, v6] [] h' (49 + 4 * n + 4) (1090 + 24 * n + 24)) : zz_Z p l e room_1 s m args below meth c Q D DA (zz_A h0 s.heap.size) h0 7 468 [some (zz_r 93 (some b)), some (zz_r 0 (some x)), some (zz_r 7 (some r)), some (zz_r 92 (some u)), some (zz_i (nI (7 * n))), v5, v6] [] h (49 + 4 * n) (1090 + 24 * n) := by
  refine zz_xs h93 hX0 (fun ht hx hty => ?_)
  refine zz_aload_n (q := 469) (f := 1) (i := 1) C (by decide +kernel) rfl rfl rfl ?_
  refine zz_aload_n (q := 470) (f := 0) (i := 0) C (by decide +kernel) rfl rfl rfl ?_
  refine zz_iload (q := 472) (i := 4) C (by decide +kernel) rfl rfl ?_
  refine zz_iconst (q := 473) (n := 1) (x := 1) C (by decide +kernel) rfl (by decide +kernel) ?_
  refine zz_iadd (q := 474) C (by decide +kernel) rfl (nI_add (7 * n) 1) ?_
  refine zz_sload (q := 475) C (by decide +kernel) rfl rfl ht rfl (by omega) (by omega) (hx _ (by omega)) ?_
  refine zz_aload_n (q := 476) (f := 0) (i := 0) C (by decide +kernel) rfl rfl rfl ?_
  refine zz_iload (q := 478) (i := 4) C (by decide +kernel) rfl rfl ?_
  refine zz_iconst (q := 479) (n := 2) (x := 2) C (by decide +kernel) rfl (by decide +kernel) ?_
  refine zz_iadd (q := 480) C (by decide +kernel) rfl (nI_add (7 * n) 2) ?_
  refine zz_sload (q := 481) C (by decide +kernel) rfl rfl ht rfl (by omega) (by omega) (hx _ (by omega)) ?_
  refine zz_callW (q := 484) C hG hN (zz_MetL_up (m_W_work l hl)) cw_W_87 (by decide +kernel) rfl rfl rfl (by decide) (by simp only [room_1]; omega) (Nat.le_of_ble_eq_true rfl) ?_
  refine zz_up_mono (hst n h x r u _ _ (by omega) hI hty) (fun v h1 hv => ?_)
  obtain ⟨k9, rfl, hv⟩ := hv
  refine zz_wide (k := 49 + 4 * n + 4) (n := 1090 + 24 * n + 24) (by simp only []; omega) (by simp only []; omega) ?_
  refine zz_xs h93 hX0 (fun ht hx hty => ?_)
  refine zz_istore (q := 486) (i := 5) C (by decide +kernel) rfl (by decide) rfl ?_
  refine zz_aload_n (q := 487) (f := 2) (i := 2) C (by decide +kernel) rfl rfl rfl ?_
  refine zz_aload_n (q := 488) (f := 0) (i := 0) C (by decide +kernel) rfl rfl rfl ?_
  refine zz_iload (q := 490) (i := 4) C (by decide +kernel) rfl rfl ?_
  refine zz_iconst (q := 491) (n := 1) (x := 1) C (by decide +kernel) rfl (by decide +kernel) ?_
  refine zz_iadd (q := 492) C (by decide +kernel) rfl (nI_add (7 * n) 1) ?_
  refine zz_sload (q := 493) C (by decide +kernel) rfl rfl ht rfl (by omega) (by omega) (hx _ (by omega)) ?_
  refine zz_aload_n (q := 494) (f := 0) (i := 0) C (by decide +kernel) rfl rfl rfl ?_
  refine zz_iload (q := 496) (i := 4) C (by decide +kernel) rfl rfl ?_
  refine zz_iconst (q := 497) (n := 2) (x := 2) C (by decide +kernel) rfl (by decide +kernel) ?_
  refine zz_iadd (q := 498) C (by decide +kernel) rfl (nI_add (7 * n) 2) ?_
  refine zz_sload (q := 499) C (by decide +kernel) rfl rfl ht rfl (by omega) (by omega) (hx _ (by omega)) ?_
  refine zz_callV (q := 502) C (zz_Met_up (m_M_work l)) cv_W_89 (by decide +kernel) rfl rfl rfl rfl (by decide) (by simp only [room_1]; omega) (Nat.le_of_ble_eq_true rfl) ?_
  refine zz_up_mono hv (fun w h2 hw => ?_)
  obtain ⟨rfl, hk9, hI2⟩ := hw
  refine zz_wide (k := 49 + 4 * n + 4) (n := 1090 + 24 * n + 24) (by simp only []; omega) (by simp only []; omega) ?_
  refine zz_aload_n (q := 503) (f := 2) (i := 2) C (by decide +kernel) rfl rfl rfl ?_
  refine zz_callV (q := 506) C (m_M_thrown l) cv_W_69 (by decide +kernel) rfl rfl rfl rfl (by decide) (by simp only [room_1]; omega) (Nat.le_of_ble_eq_true rfl) ⟨_, rfl, ?_⟩
  refine zz_iload (q := 508) (i := 5) C (by decide +kernel) rfl rfl ?_
  refine zz_icmp_eq (off := 5) (tgt := 513) (q := 511) C (by decide +kernel) (by decide) rfl (fun _ => ?_) (fun c508 => absurd hk9 c508)
  refine zz_goto (off := 536) (tgt := 1049) C (by decide +kernel) (by decide) ?_
  exact hK _ _ _ hI2
set_option maxRecDepth 100000 in
set_option maxHeartbeats 4000000 in
theorem lc_unique (C : zz_C p s m args c code 7 "SegmentTreesLaw" D DA) (hl : l.stackTraces = false) (hG : xx_G (zz_A h0 s.heap.size) s s.heap) (hN : xx_N s) (h93 : zz_tg h0 b = some (93, L9)) (hX0 : va_X b L9 xs s s.heap) (hL9 : L9 ≤ 3584) (hn : 7 * n + 7 ≤ L9) (hIt : st_tag I) (hst : st_unique I) (hI : I n h x r u) (hK : ∀ h' v5 v6, I (n + 1) h' x r u → zz_Z p l e room_1 s m args below meth c Q D DA (zz_A h0 s.heap.size) h0 7 1049 [some (zz_r 93 (some b)), some (zz_r 0 (some x)), some (zz_r 7 (some r)), some (zz_r 92 (some u)), some (zz_i (nI (7 * n))), v5, v6] [] h' (49 + 4 * n + 4) (1090 + 24 * n + 24)) : zz_Z p l e room_1 s m args below meth c Q D DA (zz_A h0 s.heap.size) h0 7 516 [some (zz_r 93 (some b)), some (zz_r 0 (some x)), some (zz_r 7 (some r)), some (zz_r 92 (some u)), some (zz_i (nI (7 * n))), v5, v6] [] h (49 + 4 * n) (1090 + 24 * n) := by
  refine zz_xs h93 hX0 (fun ht hx hty => ?_)
  refine zz_aload_n (q := 517) (f := 1) (i := 1) C (by decide +kernel) rfl rfl rfl ?_
  refine zz_aload_n (q := 518) (f := 0) (i := 0) C (by decide +kernel) rfl rfl rfl ?_
  refine zz_iload (q := 520) (i := 4) C (by decide +kernel) rfl rfl ?_
  refine zz_iconst (q := 521) (n := 1) (x := 1) C (by decide +kernel) rfl (by decide +kernel) ?_
  refine zz_iadd (q := 522) C (by decide +kernel) rfl (nI_add (7 * n) 1) ?_
  refine zz_sload (q := 523) C (by decide +kernel) rfl rfl ht rfl (by omega) (by omega) (hx _ (by omega)) ?_
  refine zz_nz (o1 := 7) (t := 530) (q1 := 526) (q2 := 527) (o2 := 4) (j := 531) C (by decide +kernel) (by decide) rfl (by decide +kernel) rfl (by decide +kernel) (by decide) (by decide +kernel) rfl ?_
  refine zz_callV (q := 534) C (zz_Met_up (m_T_unique l)) cv_W_90 (by decide +kernel) rfl rfl rfl rfl (by decide) (by simp only [room_1]; omega) (Nat.le_of_ble_eq_true rfl) ?_
  refine zz_up_mono (hst n h x r u _ (by omega) hI hty (nz01 _)) (fun v h1 hv => ?_)
  obtain ⟨a9, rfl, hv⟩ := hv
  refine zz_wide (k := 49 + 4 * n + 4) (n := 1090 + 24 * n + 24) (by simp only []; omega) (by simp only []; omega) ?_
  refine zz_xs h93 hX0 (fun ht hx hty => ?_)
  refine zz_aload_n (q := 535) (f := 2) (i := 2) C (by decide +kernel) rfl rfl rfl ?_
  refine zz_aload_n (q := 536) (f := 0) (i := 0) C (by decide +kernel) rfl rfl rfl ?_
  refine zz_iload (q := 538) (i := 4) C (by decide +kernel) rfl rfl ?_
  refine zz_iconst (q := 539) (n := 1) (x := 1) C (by decide +kernel) rfl (by decide +kernel) ?_
  refine zz_iadd (q := 540) C (by decide +kernel) rfl (nI_add (7 * n) 1) ?_
  refine zz_sload (q := 541) C (by decide +kernel) rfl rfl ht rfl (by omega) (by omega) (hx _ (by omega)) ?_
  refine zz_nz (o1 := 7) (t := 548) (q1 := 544) (q2 := 545) (o2 := 4) (j := 549) C (by decide +kernel) (by decide) rfl (by decide +kernel) rfl (by decide +kernel) (by decide) (by decide +kernel) rfl ?_
  refine zz_callV (q := 552) C (zz_Met_up (m_M_unique l)) cv_W_93 (by decide +kernel) rfl rfl rfl rfl (by decide) (by simp only [room_1]; omega) (Nat.le_of_ble_eq_true rfl) ?_
  refine zz_up_mono hv (fun w h2 hw => ?_)
  obtain ⟨rfl, hI2⟩ := hw
  refine zz_wide (k := 49 + 4 * n + 4) (n := 1090 + 24 * n + 24) (by simp only []; omega) (by simp only []; omega) ?_
  refine zz_icmp_eq (off := 497) (tgt := 1049) (q := 555) C (by decide +kernel) (by decide) rfl (fun _ => ?_) (fun c552 => absurd rfl c552)
  exact hK _ _ _ hI2
set_option maxRecDepth 100000 in
set_option maxHeartbeats 4000000 in
theorem lc_next (C : zz_C p s m args c code 7 "SegmentTreesLaw" D DA) (hl : l.stackTraces = false) (hG : xx_G (zz_A h0 s.heap.size) s s.heap) (hN : xx_N s) (h93 : zz_tg h0 b = some (93, L9)) (hX0 : va_X b L9 xs s s.heap) (hL9 : L9 ≤ 3584) (hn : 7 * n + 7 ≤ L9) (hIt : st_tag I) (hst : st_next I) (hI : I n h x r u) (hK : ∀ h' v5 v6, I (n + 1) h' x r u → zz_Z p l e room_1 s m args below meth c Q D DA (zz_A h0 s.heap.size) h0 7 1049 [some (zz_r 93 (some b)), some (zz_r 0 (some x)), some (zz_r 7 (some r)), some (zz_r 92 (some u)), some (zz_i (nI (7 * n))), v5, v6] [] h' (49 + 4 * n + 4) (1090 + 24 * n + 24)) : zz_Z p l e room_1 s m args below meth c Q D DA (zz_A h0 s.heap.size) h0 7 557 [some (zz_r 93 (some b)), some (zz_r 0 (some x)), some (zz_r 7 (some r)), some (zz_r 92 (some u)), some (zz_i (nI (7 * n))), v5, v6] [] h (49 + 4 * n) (1090 + 24 * n) := by
  refine zz_xs h93 hX0 (fun ht hx hty => ?_)
  refine zz_aload_n (q := 558) (f := 1) (i := 1) C (by decide +kernel) rfl rfl rfl ?_
  refine zz_aload_n (q := 559) (f := 0) (i := 0) C (by decide +kernel) rfl rfl rfl ?_
  refine zz_iload (q := 561) (i := 4) C (by decide +kernel) rfl rfl ?_
  refine zz_iconst (q := 562) (n := 1) (x := 1) C (by decide +kernel) rfl (by decide +kernel) ?_
  refine zz_iadd (q := 563) C (by decide +kernel) rfl (nI_add (7 * n) 1) ?_
  refine zz_sload (q := 564) C (by decide +kernel) rfl rfl ht rfl (by omega) (by omega) (hx _ (by omega)) ?_
  refine zz_nz (o1 := 7) (t := 571) (q1 := 567) (q2 := 568) (o2 := 4) (j := 572) C (by decide +kernel) (by decide) rfl (by decide +kernel) rfl (by decide +kernel) (by decide) (by decide +kernel) rfl ?_
  refine zz_callV (q := 575) C (zz_Met_up (m_T_next l)) cv_W_94 (by decide +kernel) rfl rfl rfl rfl (by decide) (by simp only [room_1]; omega) (Nat.le_of_ble_eq_true rfl) ?_
  refine zz_up_mono (hst n h x r u _ (by omega) hI hty (nz01 _)) (fun v h1 hv => ?_)
  obtain ⟨a9, rfl, hv⟩ := hv
  refine zz_wide (k := 49 + 4 * n + 4) (n := 1090 + 24 * n + 24) (by simp only []; omega) (by simp only []; omega) ?_
  refine zz_xs h93 hX0 (fun ht hx hty => ?_)
  refine zz_aload_n (q := 576) (f := 2) (i := 2) C (by decide +kernel) rfl rfl rfl ?_
  refine zz_aload_n (q := 577) (f := 0) (i := 0) C (by decide +kernel) rfl rfl rfl ?_
  refine zz_iload (q := 579) (i := 4) C (by decide +kernel) rfl rfl ?_
  refine zz_iconst (q := 580) (n := 1) (x := 1) C (by decide +kernel) rfl (by decide +kernel) ?_
  refine zz_iadd (q := 581) C (by decide +kernel) rfl (nI_add (7 * n) 1) ?_
  refine zz_sload (q := 582) C (by decide +kernel) rfl rfl ht rfl (by omega) (by omega) (hx _ (by omega)) ?_
  refine zz_nz (o1 := 7) (t := 589) (q1 := 585) (q2 := 586) (o2 := 4) (j := 590) C (by decide +kernel) (by decide) rfl (by decide +kernel) rfl (by decide +kernel) (by decide) (by decide +kernel) rfl ?_
  refine zz_callV (q := 593) C (zz_Met_up (m_M_next l)) cv_W_97 (by decide +kernel) rfl rfl rfl rfl (by decide) (by simp only [room_1]; omega) (Nat.le_of_ble_eq_true rfl) ?_
  refine zz_up_mono hv (fun w h2 hw => ?_)
  obtain ⟨rfl, hI2⟩ := hw
  refine zz_wide (k := 49 + 4 * n + 4) (n := 1090 + 24 * n + 24) (by simp only []; omega) (by simp only []; omega) ?_
  refine zz_icmp_eq (off := 456) (tgt := 1049) (q := 596) C (by decide +kernel) (by decide) rfl (fun _ => ?_) (fun c593 => absurd rfl c593)
  exact hK _ _ _ hI2
set_option maxRecDepth 100000 in
set_option maxHeartbeats 4000000 in
theorem lc_within (C : zz_C p s m args c code 7 "SegmentTreesLaw" D DA) (hl : l.stackTraces = false) (hG : xx_G (zz_A h0 s.heap.size) s s.heap) (hN : xx_N s) (h93 : zz_tg h0 b = some (93, L9)) (hX0 : va_X b L9 xs s s.heap) (hL9 : L9 ≤ 3584) (hn : 7 * n + 7 ≤ L9) (hIt : st_tag I) (hst : st_within I) (hI : I n h x r u) (hK : ∀ h' v5 v6, I (n + 1) h' x r u → zz_Z p l e room_1 s m args below meth c Q D DA (zz_A h0 s.heap.size) h0 7 1049 [some (zz_r 93 (some b)), some (zz_r 0 (some x)), some (zz_r 7 (some r)), some (zz_r 92 (some u)), some (zz_i (nI (7 * n))), v5, v6] [] h' (49 + 4 * n + 4) (1090 + 24 * n + 24)) : zz_Z p l e room_1 s m args below meth c Q D DA (zz_A h0 s.heap.size) h0 7 598 [some (zz_r 93 (some b)), some (zz_r 0 (some x)), some (zz_r 7 (some r)), some (zz_r 92 (some u)), some (zz_i (nI (7 * n))), v5, v6] [] h (49 + 4 * n) (1090 + 24 * n) := by
  refine zz_xs h93 hX0 (fun ht hx hty => ?_)
  refine zz_aload_n (q := 599) (f := 1) (i := 1) C (by decide +kernel) rfl rfl rfl ?_
  refine zz_aload_n (q := 600) (f := 0) (i := 0) C (by decide +kernel) rfl rfl rfl ?_
  refine zz_iload (q := 602) (i := 4) C (by decide +kernel) rfl rfl ?_
  refine zz_iconst (q := 603) (n := 1) (x := 1) C (by decide +kernel) rfl (by decide +kernel) ?_
  refine zz_iadd (q := 604) C (by decide +kernel) rfl (nI_add (7 * n) 1) ?_
  refine zz_sload (q := 605) C (by decide +kernel) rfl rfl ht rfl (by omega) (by omega) (hx _ (by omega)) ?_
  refine zz_nz (o1 := 7) (t := 612) (q1 := 608) (q2 := 609) (o2 := 4) (j := 613) C (by decide +kernel) (by decide) rfl (by decide +kernel) rfl (by decide +kernel) (by decide) (by decide +kernel) rfl ?_
  refine zz_aload_n (q := 614) (f := 3) (i := 3) C (by decide +kernel) rfl rfl rfl ?_
  refine zz_callW (q := 617) C hG hN (zz_MetL_up (m_W_within l hl)) cw_W_98 (by decide +kernel) rfl rfl rfl (by decide) (by simp only [room_1]; omega) (Nat.le_of_ble_eq_true rfl) ?_
  refine zz_up_mono (hst n h x r u _ (by omega) hI hty (nz01 _)) (fun v h1 hv => ?_)
  obtain ⟨k9, rfl, hv⟩ := hv
  refine zz_wide (k := 49 + 4 * n + 4) (n := 1090 + 24 * n + 24) (by simp only []; omega) (by simp only []; omega) ?_
  refine zz_xs h93 hX0 (fun ht hx hty => ?_)
  refine zz_istore (q := 619) (i := 5) C (by decide +kernel) rfl (by decide) rfl ?_
  refine zz_aload_n (q := 620) (f := 2) (i := 2) C (by decide +kernel) rfl rfl rfl ?_
  refine zz_aload_n (q := 621) (f := 0) (i := 0) C (by decide +kernel) rfl rfl rfl ?_
  refine zz_iload (q := 623) (i := 4) C (by decide +kernel) rfl rfl ?_
  refine zz_iconst (q := 624) (n := 1) (x := 1) C (by decide +kernel) rfl (by decide +kernel) ?_
  refine zz_iadd (q := 625) C (by decide +kernel) rfl (nI_add (7 * n) 1) ?_
  refine zz_sload (q := 626) C (by decide +kernel) rfl rfl ht rfl (by omega) (by omega) (hx _ (by omega)) ?_
  refine zz_nz (o1 := 7) (t := 633) (q1 := 629) (q2 := 630) (o2 := 4) (j := 634) C (by decide +kernel) (by decide) rfl (by decide +kernel) rfl (by decide +kernel) (by decide) (by decide +kernel) rfl ?_
  refine zz_callV (q := 637) C (zz_Met_up (m_M_within l)) cv_W_101 (by decide +kernel) rfl rfl rfl rfl (by decide) (by simp only [room_1]; omega) (Nat.le_of_ble_eq_true rfl) ?_
  refine zz_up_mono hv (fun w h2 hw => ?_)
  obtain ⟨b9, rfl, hk9, hou, hI2⟩ := hw
  refine zz_wide (k := 49 + 4 * n + 4) (n := 1090 + 24 * n + 24) (by simp only []; omega) (by simp only []; omega) ?_
  refine zz_istore (q := 639) (i := 6) C (by decide +kernel) rfl (by decide) rfl ?_
  refine zz_aload_n (q := 640) (f := 2) (i := 2) C (by decide +kernel) rfl rfl rfl ?_
  refine zz_callV (q := 643) C (m_M_thrown l) cv_W_69 (by decide +kernel) rfl rfl rfl rfl (by decide) (by simp only [room_1]; omega) (Nat.le_of_ble_eq_true rfl) ⟨_, rfl, ?_⟩
  refine zz_iload (q := 645) (i := 5) C (by decide +kernel) rfl rfl ?_
  refine zz_icmp_eq (off := 5) (tgt := 650) (q := 648) C (by decide +kernel) (by decide) rfl (fun _ => ?_) (fun c645 => absurd hk9 c645)
  refine zz_iload (q := 652) (i := 5) C (by decide +kernel) rfl rfl ?_
  refine zz_if_ne (off := 15) (tgt := 667) (q := 655) C (by decide +kernel) (by decide) rfl (fun c652 => ?_) (fun c652 => ?_)
  · refine zz_goto (off := 382) (tgt := 1049) C (by decide +kernel) (by decide) ?_
    exact hK _ _ _ hI2
  refine zz_aload_n (q := 656) (f := 3) (i := 3) C (by decide +kernel) rfl rfl rfl ?_
  refine zz_iconst (q := 657) (n := 0) (x := 0) C (by decide +kernel) rfl (by decide +kernel) ?_
  refine zz_laload (q := 658) C (by decide +kernel) rfl rfl (hIt _ _ _ _ _ hI2) rfl (by decide) (by decide) (hou c652) ?_
  refine zz_iload (q := 660) (i := 6) C (by decide +kernel) rfl rfl ?_
  refine zz_i2l (q := 661) C (by decide +kernel) rfl rfl ?_
  refine zz_lcmp (q := 662) C (by decide +kernel) rfl ?_
  refine zz_if_eq (off := 5) (tgt := 667) (q := 665) C (by decide +kernel) (by decide) rfl (fun _ => ?_) (fun c662 => absurd (lg_cmp_self _) c662)
  refine zz_goto (off := 382) (tgt := 1049) C (by decide +kernel) (by decide) ?_
  exact hK _ _ _ hI2
set_option maxRecDepth 100000 in
set_option maxHeartbeats 4000000 in
theorem lc_fix (C : zz_C p s m args c code 7 "SegmentTreesLaw" D DA) (hl : l.stackTraces = false) (hG : xx_G (zz_A h0 s.heap.size) s s.heap) (hN : xx_N s) (h93 : zz_tg h0 b = some (93, L9)) (hX0 : va_X b L9 xs s s.heap) (hL9 : L9 ≤ 3584) (hn : 7 * n + 7 ≤ L9) (hIt : st_tag I) (hst : st_fix I) (hI : I n h x r u) (hK : ∀ h' v5 v6, I (n + 1) h' x r u → zz_Z p l e room_1 s m args below meth c Q D DA (zz_A h0 s.heap.size) h0 7 1049 [some (zz_r 93 (some b)), some (zz_r 0 (some x)), some (zz_r 7 (some r)), some (zz_r 92 (some u)), some (zz_i (nI (7 * n))), v5, v6] [] h' (49 + 4 * n + 4) (1090 + 24 * n + 24)) : zz_Z p l e room_1 s m args below meth c Q D DA (zz_A h0 s.heap.size) h0 7 670 [some (zz_r 93 (some b)), some (zz_r 0 (some x)), some (zz_r 7 (some r)), some (zz_r 92 (some u)), some (zz_i (nI (7 * n))), v5, v6] [] h (49 + 4 * n) (1090 + 24 * n) := by
  refine zz_xs h93 hX0 (fun ht hx hty => ?_)
  refine zz_aload_n (q := 671) (f := 1) (i := 1) C (by decide +kernel) rfl rfl rfl ?_
  refine zz_aload_n (q := 672) (f := 3) (i := 3) C (by decide +kernel) rfl rfl rfl ?_
  refine zz_callW (q := 675) C hG hN (zz_MetL_up (m_W_fix l hl)) cw_W_102 (by decide +kernel) rfl rfl rfl (by decide) (by simp only [room_1]; omega) (Nat.le_of_ble_eq_true rfl) ?_
  refine zz_up_mono (hst n h x r u  (by omega) hI hty) (fun v h1 hv => ?_)
  obtain ⟨k9, rfl, hv⟩ := hv
  refine zz_wide (k := 49 + 4 * n + 4) (n := 1090 + 24 * n + 24) (by simp only []; omega) (by simp only []; omega) ?_
  refine zz_xs h93 hX0 (fun ht hx hty => ?_)
  refine zz_istore (q := 677) (i := 5) C (by decide +kernel) rfl (by decide) rfl ?_
  refine zz_aload_n (q := 678) (f := 2) (i := 2) C (by decide +kernel) rfl rfl rfl ?_
  refine zz_callV (q := 681) C (zz_Met_up (m_M_fix l)) cv_W_105 (by decide +kernel) rfl rfl rfl rfl (by decide) (by simp only [room_1]; omega) (Nat.le_of_ble_eq_true rfl) ?_
  refine zz_up_mono hv (fun w h2 hw => ?_)
  obtain ⟨b9, rfl, hk9, hou, hI2⟩ := hw
  refine zz_wide (k := 49 + 4 * n + 4) (n := 1090 + 24 * n + 24) (by simp only []; omega) (by simp only []; omega) ?_
  refine zz_istore (q := 683) (i := 6) C (by decide +kernel) rfl (by decide) rfl ?_
  refine zz_aload_n (q := 684) (f := 2) (i := 2) C (by decide +kernel) rfl rfl rfl ?_
  refine zz_callV (q := 687) C (m_M_thrown l) cv_W_69 (by decide +kernel) rfl rfl rfl rfl (by decide) (by simp only [room_1]; omega) (Nat.le_of_ble_eq_true rfl) ⟨_, rfl, ?_⟩
  refine zz_iload (q := 689) (i := 5) C (by decide +kernel) rfl rfl ?_
  refine zz_icmp_eq (off := 5) (tgt := 694) (q := 692) C (by decide +kernel) (by decide) rfl (fun _ => ?_) (fun c689 => absurd hk9 c689)
  refine zz_iload (q := 696) (i := 5) C (by decide +kernel) rfl rfl ?_
  refine zz_if_ne (off := 15) (tgt := 711) (q := 699) C (by decide +kernel) (by decide) rfl (fun c696 => ?_) (fun c696 => ?_)
  · refine zz_goto (off := 338) (tgt := 1049) C (by decide +kernel) (by decide) ?_
    exact hK _ _ _ hI2
  refine zz_aload_n (q := 700) (f := 3) (i := 3) C (by decide +kernel) rfl rfl rfl ?_
  refine zz_iconst (q := 701) (n := 0) (x := 0) C (by decide +kernel) rfl (by decide +kernel) ?_
  refine zz_laload (q := 702) C (by decide +kernel) rfl rfl (hIt _ _ _ _ _ hI2) rfl (by decide) (by decide) (hou c696) ?_
  refine zz_iload (q := 704) (i := 6) C (by decide +kernel) rfl rfl ?_
  refine zz_i2l (q := 705) C (by decide +kernel) rfl rfl ?_
  refine zz_lcmp (q := 706) C (by decide +kernel) rfl ?_
  refine zz_if_eq (off := 5) (tgt := 711) (q := 709) C (by decide +kernel) (by decide) rfl (fun _ => ?_) (fun c706 => absurd (lg_cmp_self _) c706)
  refine zz_goto (off := 338) (tgt := 1049) C (by decide +kernel) (by decide) ?_
  exact hK _ _ _ hI2
set_option maxRecDepth 100000 in
set_option maxHeartbeats 4000000 in
theorem lc_at (C : zz_C p s m args c code 7 "SegmentTreesLaw" D DA) (hl : l.stackTraces = false) (hG : xx_G (zz_A h0 s.heap.size) s s.heap) (hN : xx_N s) (h93 : zz_tg h0 b = some (93, L9)) (hX0 : va_X b L9 xs s s.heap) (hL9 : L9 ≤ 3584) (hn : 7 * n + 7 ≤ L9) (hIt : st_tag I) (hst : st_at I) (hI : I n h x r u) (hK : ∀ h' v5 v6, I (n + 1) h' x r u → zz_Z p l e room_1 s m args below meth c Q D DA (zz_A h0 s.heap.size) h0 7 1049 [some (zz_r 93 (some b)), some (zz_r 0 (some x)), some (zz_r 7 (some r)), some (zz_r 92 (some u)), some (zz_i (nI (7 * n))), v5, v6] [] h' (49 + 4 * n + 4) (1090 + 24 * n + 24)) : zz_Z p l e room_1 s m args below meth c Q D DA (zz_A h0 s.heap.size) h0 7 714 [some (zz_r 93 (some b)), some (zz_r 0 (some x)), some (zz_r 7 (some r)), some (zz_r 92 (some u)), some (zz_i (nI (7 * n))), v5, v6] [] h (49 + 4 * n) (1090 + 24 * n) := by
  refine zz_xs h93 hX0 (fun ht hx hty => ?_)
  refine zz_aload_n (q := 715) (f := 1) (i := 1) C (by decide +kernel) rfl rfl rfl ?_
  refine zz_callV (q := 718) C (zz_Met_up (m_T_at l)) cv_W_106 (by decide +kernel) rfl rfl rfl rfl (by decide) (by simp only [room_1]; omega) (Nat.le_of_ble_eq_true rfl) ?_
  refine zz_up_mono (hst n h x r u  (by omega) hI hty) (fun v h1 hv => ?_)
  obtain ⟨a9, rfl, hv⟩ := hv
  refine zz_wide (k := 49 + 4 * n + 4) (n := 1090 + 24 * n + 24) (by simp only []; omega) (by simp only []; omega) ?_
  refine zz_xs h93 hX0 (fun ht hx hty => ?_)
  refine zz_aload_n (q := 719) (f := 2) (i := 2) C (by decide +kernel) rfl rfl rfl ?_
  refine zz_callV (q := 722) C (zz_Met_up (m_M_at l)) cv_W_109 (by decide +kernel) rfl rfl rfl rfl (by decide) (by simp only [room_1]; omega) (Nat.le_of_ble_eq_true rfl) ?_
  refine zz_up_mono hv (fun w h2 hw => ?_)
  obtain ⟨rfl, hI2⟩ := hw
  refine zz_wide (k := 49 + 4 * n + 4) (n := 1090 + 24 * n + 24) (by simp only []; omega) (by simp only []; omega) ?_
  refine zz_icmp_eq (off := 327) (tgt := 1049) (q := 725) C (by decide +kernel) (by decide) rfl (fun _ => ?_) (fun c722 => absurd rfl c722)
  exact hK _ _ _ hI2
set_option maxRecDepth 100000 in
set_option maxHeartbeats 4000000 in
theorem lc_place (C : zz_C p s m args c code 7 "SegmentTreesLaw" D DA) (hl : l.stackTraces = false) (hG : xx_G (zz_A h0 s.heap.size) s s.heap) (hN : xx_N s) (h93 : zz_tg h0 b = some (93, L9)) (hX0 : va_X b L9 xs s s.heap) (hL9 : L9 ≤ 3584) (hn : 7 * n + 7 ≤ L9) (hIt : st_tag I) (hst : st_place I) (hI : I n h x r u) (hK : ∀ h' v5 v6, I (n + 1) h' x r u → zz_Z p l e room_1 s m args below meth c Q D DA (zz_A h0 s.heap.size) h0 7 1049 [some (zz_r 93 (some b)), some (zz_r 0 (some x)), some (zz_r 7 (some r)), some (zz_r 92 (some u)), some (zz_i (nI (7 * n))), v5, v6] [] h' (49 + 4 * n + 4) (1090 + 24 * n + 24)) : zz_Z p l e room_1 s m args below meth c Q D DA (zz_A h0 s.heap.size) h0 7 727 [some (zz_r 93 (some b)), some (zz_r 0 (some x)), some (zz_r 7 (some r)), some (zz_r 92 (some u)), some (zz_i (nI (7 * n))), v5, v6] [] h (49 + 4 * n) (1090 + 24 * n) := by
  refine zz_xs h93 hX0 (fun ht hx hty => ?_)
  refine zz_aload_n (q := 728) (f := 1) (i := 1) C (by decide +kernel) rfl rfl rfl ?_
  refine zz_callV (q := 731) C (zz_Met_up (m_T_place l)) cv_W_110 (by decide +kernel) rfl rfl rfl rfl (by decide) (by simp only [room_1]; omega) (Nat.le_of_ble_eq_true rfl) ?_
  refine zz_up_mono (hst n h x r u  (by omega) hI hty) (fun v h1 hv => ?_)
  obtain ⟨a9, rfl, hv⟩ := hv
  refine zz_wide (k := 49 + 4 * n + 4) (n := 1090 + 24 * n + 24) (by simp only []; omega) (by simp only []; omega) ?_
  refine zz_xs h93 hX0 (fun ht hx hty => ?_)
  refine zz_aload_n (q := 732) (f := 2) (i := 2) C (by decide +kernel) rfl rfl rfl ?_
  refine zz_callV (q := 735) C (zz_Met_up (m_M_place l)) cv_W_113 (by decide +kernel) rfl rfl rfl rfl (by decide) (by simp only [room_1]; omega) (Nat.le_of_ble_eq_true rfl) ?_
  refine zz_up_mono hv (fun w h2 hw => ?_)
  obtain ⟨rfl, hI2⟩ := hw
  refine zz_wide (k := 49 + 4 * n + 4) (n := 1090 + 24 * n + 24) (by simp only []; omega) (by simp only []; omega) ?_
  refine zz_icmp_eq (off := 314) (tgt := 1049) (q := 738) C (by decide +kernel) (by decide) rfl (fun _ => ?_) (fun c735 => absurd rfl c735)
  exact hK _ _ _ hI2
set_option maxRecDepth 100000 in
set_option maxHeartbeats 4000000 in
theorem lc_word (C : zz_C p s m args c code 7 "SegmentTreesLaw" D DA) (hl : l.stackTraces = false) (hG : xx_G (zz_A h0 s.heap.size) s s.heap) (hN : xx_N s) (h93 : zz_tg h0 b = some (93, L9)) (hX0 : va_X b L9 xs s s.heap) (hL9 : L9 ≤ 3584) (hn : 7 * n + 7 ≤ L9) (hIt : st_tag I) (hst : st_word I) (hI : I n h x r u) (hK : ∀ h' v5 v6, I (n + 1) h' x r u → zz_Z p l e room_1 s m args below meth c Q D DA (zz_A h0 s.heap.size) h0 7 1049 [some (zz_r 93 (some b)), some (zz_r 0 (some x)), some (zz_r 7 (some r)), some (zz_r 92 (some u)), some (zz_i (nI (7 * n))), v5, v6] [] h' (49 + 4 * n + 4) (1090 + 24 * n + 24)) : zz_Z p l e room_1 s m args below meth c Q D DA (zz_A h0 s.heap.size) h0 7 740 [some (zz_r 93 (some b)), some (zz_r 0 (some x)), some (zz_r 7 (some r)), some (zz_r 92 (some u)), some (zz_i (nI (7 * n))), v5, v6] [] h (49 + 4 * n) (1090 + 24 * n) := by
  refine zz_xs h93 hX0 (fun ht hx hty => ?_)
  refine zz_aload_n (q := 741) (f := 1) (i := 1) C (by decide +kernel) rfl rfl rfl ?_
  refine zz_aload_n (q := 742) (f := 0) (i := 0) C (by decide +kernel) rfl rfl rfl ?_
  refine zz_iload (q := 744) (i := 4) C (by decide +kernel) rfl rfl ?_
  refine zz_iconst (q := 745) (n := 1) (x := 1) C (by decide +kernel) rfl (by decide +kernel) ?_
  refine zz_iadd (q := 746) C (by decide +kernel) rfl (nI_add (7 * n) 1) ?_
  refine zz_sload (q := 747) C (by decide +kernel) rfl rfl ht rfl (by omega) (by omega) (hx _ (by omega)) ?_
  refine zz_aload_n (q := 748) (f := 3) (i := 3) C (by decide +kernel) rfl rfl rfl ?_
  refine zz_callW (q := 751) C hG hN (zz_MetL_up (m_W_word l hl)) cw_W_114 (by decide +kernel) rfl rfl rfl (by decide) (by simp only [room_1]; omega) (Nat.le_of_ble_eq_true rfl) ?_
  refine zz_up_mono (hst n h x r u _ (by omega) hI hty) (fun v h1 hv => ?_)
  obtain ⟨k9, rfl, hv⟩ := hv
  refine zz_wide (k := 49 + 4 * n + 4) (n := 1090 + 24 * n + 24) (by simp only []; omega) (by simp only []; omega) ?_
  refine zz_xs h93 hX0 (fun ht hx hty => ?_)
  refine zz_istore (q := 753) (i := 5) C (by decide +kernel) rfl (by decide) rfl ?_
  refine zz_aload_n (q := 754) (f := 2) (i := 2) C (by decide +kernel) rfl rfl rfl ?_
  refine zz_aload_n (q := 755) (f := 0) (i := 0) C (by decide +kernel) rfl rfl rfl ?_
  refine zz_iload (q := 757) (i := 4) C (by decide +kernel) rfl rfl ?_
  refine zz_iconst (q := 758) (n := 1) (x := 1) C (by decide +kernel) rfl (by decide +kernel) ?_
  refine zz_iadd (q := 759) C (by decide +kernel) rfl (nI_add (7 * n) 1) ?_
  refine zz_sload (q := 760) C (by decide +kernel) rfl rfl ht rfl (by omega) (by omega) (hx _ (by omega)) ?_
  refine zz_callV (q := 763) C (zz_Met_up (m_M_word l)) cv_W_117 (by decide +kernel) rfl rfl rfl rfl (by decide) (by simp only [room_1]; omega) (Nat.le_of_ble_eq_true rfl) ?_
  refine zz_up_mono hv (fun w h2 hw => ?_)
  obtain ⟨b9, rfl, hk9, hou, hI2⟩ := hw
  refine zz_wide (k := 49 + 4 * n + 4) (n := 1090 + 24 * n + 24) (by simp only []; omega) (by simp only []; omega) ?_
  refine zz_istore (q := 765) (i := 6) C (by decide +kernel) rfl (by decide) rfl ?_
  refine zz_aload_n (q := 766) (f := 2) (i := 2) C (by decide +kernel) rfl rfl rfl ?_
  refine zz_callV (q := 769) C (m_M_thrown l) cv_W_69 (by decide +kernel) rfl rfl rfl rfl (by decide) (by simp only [room_1]; omega) (Nat.le_of_ble_eq_true rfl) ⟨_, rfl, ?_⟩
  refine zz_iload (q := 771) (i := 5) C (by decide +kernel) rfl rfl ?_
  refine zz_icmp_eq (off := 5) (tgt := 776) (q := 774) C (by decide +kernel) (by decide) rfl (fun _ => ?_) (fun c771 => absurd hk9 c771)
  refine zz_iload (q := 778) (i := 5) C (by decide +kernel) rfl rfl ?_
  refine zz_if_ne (off := 15) (tgt := 793) (q := 781) C (by decide +kernel) (by decide) rfl (fun c778 => ?_) (fun c778 => ?_)
  · refine zz_goto (off := 256) (tgt := 1049) C (by decide +kernel) (by decide) ?_
    exact hK _ _ _ hI2
  refine zz_aload_n (q := 782) (f := 3) (i := 3) C (by decide +kernel) rfl rfl rfl ?_
  refine zz_iconst (q := 783) (n := 0) (x := 0) C (by decide +kernel) rfl (by decide +kernel) ?_
  refine zz_laload (q := 784) C (by decide +kernel) rfl rfl (hIt _ _ _ _ _ hI2) rfl (by decide) (by decide) (hou c778) ?_
  refine zz_iload (q := 786) (i := 6) C (by decide +kernel) rfl rfl ?_
  refine zz_i2l (q := 787) C (by decide +kernel) rfl rfl ?_
  refine zz_lcmp (q := 788) C (by decide +kernel) rfl ?_
  refine zz_if_eq (off := 5) (tgt := 793) (q := 791) C (by decide +kernel) (by decide) rfl (fun _ => ?_) (fun c788 => absurd (lg_cmp_self _) c788)
  refine zz_goto (off := 256) (tgt := 1049) C (by decide +kernel) (by decide) ?_
  exact hK _ _ _ hI2
set_option maxRecDepth 100000 in
set_option maxHeartbeats 4000000 in
theorem lc_insert (C : zz_C p s m args c code 7 "SegmentTreesLaw" D DA) (hl : l.stackTraces = false) (hG : xx_G (zz_A h0 s.heap.size) s s.heap) (hN : xx_N s) (h93 : zz_tg h0 b = some (93, L9)) (hX0 : va_X b L9 xs s s.heap) (hL9 : L9 ≤ 3584) (hn : 7 * n + 7 ≤ L9) (hIt : st_tag I) (hst : st_insert I) (hI : I n h x r u) (hK : ∀ h' v5 v6, I (n + 1) h' x r u → zz_Z p l e room_1 s m args below meth c Q D DA (zz_A h0 s.heap.size) h0 7 1049 [some (zz_r 93 (some b)), some (zz_r 0 (some x)), some (zz_r 7 (some r)), some (zz_r 92 (some u)), some (zz_i (nI (7 * n))), v5, v6] [] h' (49 + 4 * n + 4) (1090 + 24 * n + 24)) : zz_Z p l e room_1 s m args below meth c Q D DA (zz_A h0 s.heap.size) h0 7 796 [some (zz_r 93 (some b)), some (zz_r 0 (some x)), some (zz_r 7 (some r)), some (zz_r 92 (some u)), some (zz_i (nI (7 * n))), v5, v6] [] h (49 + 4 * n) (1090 + 24 * n) := by
  refine zz_xs h93 hX0 (fun ht hx hty => ?_)
  refine zz_aload_n (q := 797) (f := 1) (i := 1) C (by decide +kernel) rfl rfl rfl ?_
  refine zz_aload_n (q := 798) (f := 0) (i := 0) C (by decide +kernel) rfl rfl rfl ?_
  refine zz_iload (q := 800) (i := 4) C (by decide +kernel) rfl rfl ?_
  refine zz_iconst (q := 801) (n := 1) (x := 1) C (by decide +kernel) rfl (by decide +kernel) ?_
  refine zz_iadd (q := 802) C (by decide +kernel) rfl (nI_add (7 * n) 1) ?_
  refine zz_sload (q := 803) C (by decide +kernel) rfl rfl ht rfl (by omega) (by omega) (hx _ (by omega)) ?_
  refine zz_aload_n (q := 804) (f := 3) (i := 3) C (by decide +kernel) rfl rfl rfl ?_
  refine zz_callW (q := 807) C hG hN (zz_MetL_up (m_W_insert l hl)) cw_W_118 (by decide +kernel) rfl rfl rfl (by decide) (by simp only [room_1]; omega) (Nat.le_of_ble_eq_true rfl) ?_
  refine zz_up_mono (hst n h x r u _ (by omega) hI hty) (fun v h1 hv => ?_)
  obtain ⟨k9, rfl, hv⟩ := hv
  refine zz_wide (k := 49 + 4 * n + 4) (n := 1090 + 24 * n + 24) (by simp only []; omega) (by simp only []; omega) ?_
  refine zz_xs h93 hX0 (fun ht hx hty => ?_)
  refine zz_istore (q := 809) (i := 5) C (by decide +kernel) rfl (by decide) rfl ?_
  refine zz_aload_n (q := 810) (f := 2) (i := 2) C (by decide +kernel) rfl rfl rfl ?_
  refine zz_aload_n (q := 811) (f := 0) (i := 0) C (by decide +kernel) rfl rfl rfl ?_
  refine zz_iload (q := 813) (i := 4) C (by decide +kernel) rfl rfl ?_
  refine zz_iconst (q := 814) (n := 1) (x := 1) C (by decide +kernel) rfl (by decide +kernel) ?_
  refine zz_iadd (q := 815) C (by decide +kernel) rfl (nI_add (7 * n) 1) ?_
  refine zz_sload (q := 816) C (by decide +kernel) rfl rfl ht rfl (by omega) (by omega) (hx _ (by omega)) ?_
  refine zz_callV (q := 819) C (zz_Met_up (m_M_insert l)) cv_W_120 (by decide +kernel) rfl rfl rfl rfl (by decide) (by simp only [room_1]; omega) (Nat.le_of_ble_eq_true rfl) ?_
  refine zz_up_mono hv (fun w h2 hw => ?_)
  obtain ⟨b9, rfl, hk9, hou, hI2⟩ := hw
  refine zz_wide (k := 49 + 4 * n + 4) (n := 1090 + 24 * n + 24) (by simp only []; omega) (by simp only []; omega) ?_
  refine zz_istore (q := 821) (i := 6) C (by decide +kernel) rfl (by decide) rfl ?_
  refine zz_aload_n (q := 822) (f := 2) (i := 2) C (by decide +kernel) rfl rfl rfl ?_
  refine zz_callV (q := 825) C (m_M_thrown l) cv_W_69 (by decide +kernel) rfl rfl rfl rfl (by decide) (by simp only [room_1]; omega) (Nat.le_of_ble_eq_true rfl) ⟨_, rfl, ?_⟩
  refine zz_iload (q := 827) (i := 5) C (by decide +kernel) rfl rfl ?_
  refine zz_icmp_eq (off := 5) (tgt := 832) (q := 830) C (by decide +kernel) (by decide) rfl (fun _ => ?_) (fun c827 => absurd hk9 c827)
  refine zz_iload (q := 834) (i := 5) C (by decide +kernel) rfl rfl ?_
  refine zz_if_ne (off := 15) (tgt := 849) (q := 837) C (by decide +kernel) (by decide) rfl (fun c834 => ?_) (fun c834 => ?_)
  · refine zz_goto (off := 200) (tgt := 1049) C (by decide +kernel) (by decide) ?_
    exact hK _ _ _ hI2
  refine zz_aload_n (q := 838) (f := 3) (i := 3) C (by decide +kernel) rfl rfl rfl ?_
  refine zz_iconst (q := 839) (n := 0) (x := 0) C (by decide +kernel) rfl (by decide +kernel) ?_
  refine zz_laload (q := 840) C (by decide +kernel) rfl rfl (hIt _ _ _ _ _ hI2) rfl (by decide) (by decide) (hou c834) ?_
  refine zz_iload (q := 842) (i := 6) C (by decide +kernel) rfl rfl ?_
  refine zz_i2l (q := 843) C (by decide +kernel) rfl rfl ?_
  refine zz_lcmp (q := 844) C (by decide +kernel) rfl ?_
  refine zz_if_eq (off := 5) (tgt := 849) (q := 847) C (by decide +kernel) (by decide) rfl (fun _ => ?_) (fun c844 => absurd (lg_cmp_self _) c844)
  refine zz_goto (off := 200) (tgt := 1049) C (by decide +kernel) (by decide) ?_
  exact hK _ _ _ hI2
set_option maxRecDepth 100000 in
set_option maxHeartbeats 4000000 in
theorem lc_replace (C : zz_C p s m args c code 7 "SegmentTreesLaw" D DA) (hl : l.stackTraces = false) (hG : xx_G (zz_A h0 s.heap.size) s s.heap) (hN : xx_N s) (h93 : zz_tg h0 b = some (93, L9)) (hX0 : va_X b L9 xs s s.heap) (hL9 : L9 ≤ 3584) (hn : 7 * n + 7 ≤ L9) (hIt : st_tag I) (hst : st_replace I) (hI : I n h x r u) (hK : ∀ h' v5 v6, I (n + 1) h' x r u → zz_Z p l e room_1 s m args below meth c Q D DA (zz_A h0 s.heap.size) h0 7 1049 [some (zz_r 93 (some b)), some (zz_r 0 (some x)), some (zz_r 7 (some r)), some (zz_r 92 (some u)), some (zz_i (nI (7 * n))), v5, v6] [] h' (49 + 4 * n + 4) (1090 + 24 * n + 24)) : zz_Z p l e room_1 s m args below meth c Q D DA (zz_A h0 s.heap.size) h0 7 852 [some (zz_r 93 (some b)), some (zz_r 0 (some x)), some (zz_r 7 (some r)), some (zz_r 92 (some u)), some (zz_i (nI (7 * n))), v5, v6] [] h (49 + 4 * n) (1090 + 24 * n) := by
  refine zz_xs h93 hX0 (fun ht hx hty => ?_)
  refine zz_aload_n (q := 853) (f := 1) (i := 1) C (by decide +kernel) rfl rfl rfl ?_
  refine zz_aload_n (q := 854) (f := 3) (i := 3) C (by decide +kernel) rfl rfl rfl ?_
  refine zz_callW (q := 857) C hG hN (zz_MetL_up (m_W_replace l hl)) cw_W_121 (by decide +kernel) rfl rfl rfl (by decide) (by simp only [room_1]; omega) (Nat.le_of_ble_eq_true rfl) ?_
  refine zz_up_mono (hst n h x r u  (by omega) hI hty) (fun v h1 hv => ?_)
  obtain ⟨k9, rfl, hv⟩ := hv
  refine zz_wide (k := 49 + 4 * n + 4) (n := 1090 + 24 * n + 24) (by simp only []; omega) (by simp only []; omega) ?_
  refine zz_xs h93 hX0 (fun ht hx hty => ?_)
  refine zz_istore (q := 859) (i := 5) C (by decide +kernel) rfl (by decide) rfl ?_
  refine zz_aload_n (q := 860) (f := 2) (i := 2) C (by decide +kernel) rfl rfl rfl ?_
  refine zz_callV (q := 863) C (zz_Met_up (m_M_replace l)) cv_W_123 (by decide +kernel) rfl rfl rfl rfl (by decide) (by simp only [room_1]; omega) (Nat.le_of_ble_eq_true rfl) ?_
  refine zz_up_mono hv (fun w h2 hw => ?_)
  obtain ⟨b9, rfl, hk9, hou, hI2⟩ := hw
  refine zz_wide (k := 49 + 4 * n + 4) (n := 1090 + 24 * n + 24) (by simp only []; omega) (by simp only []; omega) ?_
  refine zz_istore (q := 865) (i := 6) C (by decide +kernel) rfl (by decide) rfl ?_
  refine zz_aload_n (q := 866) (f := 2) (i := 2) C (by decide +kernel) rfl rfl rfl ?_
  refine zz_callV (q := 869) C (m_M_thrown l) cv_W_69 (by decide +kernel) rfl rfl rfl rfl (by decide) (by simp only [room_1]; omega) (Nat.le_of_ble_eq_true rfl) ⟨_, rfl, ?_⟩
  refine zz_iload (q := 871) (i := 5) C (by decide +kernel) rfl rfl ?_
  refine zz_icmp_eq (off := 5) (tgt := 876) (q := 874) C (by decide +kernel) (by decide) rfl (fun _ => ?_) (fun c871 => absurd hk9 c871)
  refine zz_iload (q := 878) (i := 5) C (by decide +kernel) rfl rfl ?_
  refine zz_if_ne (off := 22) (tgt := 900) (q := 881) C (by decide +kernel) (by decide) rfl (fun c878 => ?_) (fun c878 => ?_)
  · refine zz_goto (off := 149) (tgt := 1049) C (by decide +kernel) (by decide) ?_
    exact hK _ _ _ hI2
  refine zz_aload_n (q := 882) (f := 3) (i := 3) C (by decide +kernel) rfl rfl rfl ?_
  refine zz_iconst (q := 883) (n := 0) (x := 0) C (by decide +kernel) rfl (by decide +kernel) ?_
  refine zz_laload (q := 884) C (by decide +kernel) rfl rfl (hIt _ _ _ _ _ hI2) rfl (by decide) (by decide) (hou c878) ?_
  refine zz_iload (q := 886) (i := 6) C (by decide +kernel) rfl rfl ?_
  refine zz_nzl (o1 := 7) (t := 893) (q1 := 889) (q2 := 890) (o2 := 4) (j := 894) C (by decide +kernel) (by decide) rfl (by decide +kernel) rfl (by decide +kernel) (by decide) (by decide +kernel) rfl ?_
  refine zz_lcmp (q := 895) C (by decide +kernel) rfl ?_
  refine zz_if_eq (off := 5) (tgt := 900) (q := 898) C (by decide +kernel) (by decide) rfl (fun _ => ?_) (fun c895 => absurd (lg_cmp_self _) c895)
  refine zz_goto (off := 149) (tgt := 1049) C (by decide +kernel) (by decide) ?_
  exact hK _ _ _ hI2
set_option maxRecDepth 100000 in
set_option maxHeartbeats 4000000 in
theorem lc_delete (C : zz_C p s m args c code 7 "SegmentTreesLaw" D DA) (hl : l.stackTraces = false) (hG : xx_G (zz_A h0 s.heap.size) s s.heap) (hN : xx_N s) (h93 : zz_tg h0 b = some (93, L9)) (hX0 : va_X b L9 xs s s.heap) (hL9 : L9 ≤ 3584) (hn : 7 * n + 7 ≤ L9) (hIt : st_tag I) (hst : st_delete I) (hI : I n h x r u) (hK : ∀ h' v5 v6, I (n + 1) h' x r u → zz_Z p l e room_1 s m args below meth c Q D DA (zz_A h0 s.heap.size) h0 7 1049 [some (zz_r 93 (some b)), some (zz_r 0 (some x)), some (zz_r 7 (some r)), some (zz_r 92 (some u)), some (zz_i (nI (7 * n))), v5, v6] [] h' (49 + 4 * n + 4) (1090 + 24 * n + 24)) : zz_Z p l e room_1 s m args below meth c Q D DA (zz_A h0 s.heap.size) h0 7 903 [some (zz_r 93 (some b)), some (zz_r 0 (some x)), some (zz_r 7 (some r)), some (zz_r 92 (some u)), some (zz_i (nI (7 * n))), v5, v6] [] h (49 + 4 * n) (1090 + 24 * n) := by
  refine zz_xs h93 hX0 (fun ht hx hty => ?_)
  refine zz_aload_n (q := 904) (f := 1) (i := 1) C (by decide +kernel) rfl rfl rfl ?_
  refine zz_aload_n (q := 905) (f := 3) (i := 3) C (by decide +kernel) rfl rfl rfl ?_
  refine zz_callW (q := 908) C hG hN (zz_MetL_up (m_W_delete l hl)) cw_W_124 (by decide +kernel) rfl rfl rfl (by decide) (by simp only [room_1]; omega) (Nat.le_of_ble_eq_true rfl) ?_
  refine zz_up_mono (hst n h x r u  (by omega) hI hty) (fun v h1 hv => ?_)
  obtain ⟨k9, rfl, hv⟩ := hv
  refine zz_wide (k := 49 + 4 * n + 4) (n := 1090 + 24 * n + 24) (by simp only []; omega) (by simp only []; omega) ?_
  refine zz_xs h93 hX0 (fun ht hx hty => ?_)
  refine zz_istore (q := 910) (i := 5) C (by decide +kernel) rfl (by decide) rfl ?_
  refine zz_aload_n (q := 911) (f := 2) (i := 2) C (by decide +kernel) rfl rfl rfl ?_
  refine zz_callV (q := 914) C (zz_Met_up (m_M_delete l)) cv_W_126 (by decide +kernel) rfl rfl rfl rfl (by decide) (by simp only [room_1]; omega) (Nat.le_of_ble_eq_true rfl) ?_
  refine zz_up_mono hv (fun w h2 hw => ?_)
  obtain ⟨b9, rfl, hk9, hou, hI2⟩ := hw
  refine zz_wide (k := 49 + 4 * n + 4) (n := 1090 + 24 * n + 24) (by simp only []; omega) (by simp only []; omega) ?_
  refine zz_istore (q := 916) (i := 6) C (by decide +kernel) rfl (by decide) rfl ?_
  refine zz_aload_n (q := 917) (f := 2) (i := 2) C (by decide +kernel) rfl rfl rfl ?_
  refine zz_callV (q := 920) C (m_M_thrown l) cv_W_69 (by decide +kernel) rfl rfl rfl rfl (by decide) (by simp only [room_1]; omega) (Nat.le_of_ble_eq_true rfl) ⟨_, rfl, ?_⟩
  refine zz_iload (q := 922) (i := 5) C (by decide +kernel) rfl rfl ?_
  refine zz_icmp_eq (off := 5) (tgt := 927) (q := 925) C (by decide +kernel) (by decide) rfl (fun _ => ?_) (fun c922 => absurd hk9 c922)
  refine zz_iload (q := 929) (i := 5) C (by decide +kernel) rfl rfl ?_
  refine zz_if_ne (off := 15) (tgt := 944) (q := 932) C (by decide +kernel) (by decide) rfl (fun c929 => ?_) (fun c929 => ?_)
  · refine zz_goto (off := 105) (tgt := 1049) C (by decide +kernel) (by decide) ?_
    exact hK _ _ _ hI2
  refine zz_aload_n (q := 933) (f := 3) (i := 3) C (by decide +kernel) rfl rfl rfl ?_
  refine zz_iconst (q := 934) (n := 0) (x := 0) C (by decide +kernel) rfl (by decide +kernel) ?_
  refine zz_laload (q := 935) C (by decide +kernel) rfl rfl (hIt _ _ _ _ _ hI2) rfl (by decide) (by decide) (hou c929) ?_
  refine zz_iload (q := 937) (i := 6) C (by decide +kernel) rfl rfl ?_
  refine zz_i2l (q := 938) C (by decide +kernel) rfl rfl ?_
  refine zz_lcmp (q := 939) C (by decide +kernel) rfl ?_
  refine zz_if_eq (off := 5) (tgt := 944) (q := 942) C (by decide +kernel) (by decide) rfl (fun _ => ?_) (fun c939 => absurd (lg_cmp_self _) c939)
  refine zz_goto (off := 105) (tgt := 1049) C (by decide +kernel) (by decide) ?_
  exact hK _ _ _ hI2
set_option maxRecDepth 100000 in
set_option maxHeartbeats 4000000 in
theorem lc_bySecond (C : zz_C p s m args c code 7 "SegmentTreesLaw" D DA) (hl : l.stackTraces = false) (hG : xx_G (zz_A h0 s.heap.size) s s.heap) (hN : xx_N s) (h93 : zz_tg h0 b = some (93, L9)) (hX0 : va_X b L9 xs s s.heap) (hL9 : L9 ≤ 3584) (hn : 7 * n + 7 ≤ L9) (hIt : st_tag I) (hst : st_bySecond I) (hI : I n h x r u) (hK : ∀ h' v5 v6, I (n + 1) h' x r u → zz_Z p l e room_1 s m args below meth c Q D DA (zz_A h0 s.heap.size) h0 7 1049 [some (zz_r 93 (some b)), some (zz_r 0 (some x)), some (zz_r 7 (some r)), some (zz_r 92 (some u)), some (zz_i (nI (7 * n))), v5, v6] [] h' (49 + 4 * n + 4) (1090 + 24 * n + 24)) : zz_Z p l e room_1 s m args below meth c Q D DA (zz_A h0 s.heap.size) h0 7 947 [some (zz_r 93 (some b)), some (zz_r 0 (some x)), some (zz_r 7 (some r)), some (zz_r 92 (some u)), some (zz_i (nI (7 * n))), v5, v6] [] h (49 + 4 * n) (1090 + 24 * n) := by
  refine zz_xs h93 hX0 (fun ht hx hty => ?_)
  refine zz_aload_n (q := 948) (f := 1) (i := 1) C (by decide +kernel) rfl rfl rfl ?_
  refine zz_aload_n (q := 949) (f := 0) (i := 0) C (by decide +kernel) rfl rfl rfl ?_
  refine zz_iload (q := 951) (i := 4) C (by decide +kernel) rfl rfl ?_
  refine zz_iconst (q := 952) (n := 1) (x := 1) C (by decide +kernel) rfl (by decide +kernel) ?_
  refine zz_iadd (q := 953) C (by decide +kernel) rfl (nI_add (7 * n) 1) ?_
  refine zz_sload (q := 954) C (by decide +kernel) rfl rfl ht rfl (by omega) (by omega) (hx _ (by omega)) ?_
  refine zz_nz (o1 := 7) (t := 961) (q1 := 957) (q2 := 958) (o2 := 4) (j := 962) C (by decide +kernel) (by decide) rfl (by decide +kernel) rfl (by decide +kernel) (by decide) (by decide +kernel) rfl ?_
  refine zz_callW (q := 965) C hG hN (zz_MetL_up (m_W_bySecond l hl)) cw_W_127 (by decide +kernel) rfl rfl rfl (by decide) (by simp only [room_1]; omega) (Nat.le_of_ble_eq_true rfl) ?_
  refine zz_up_mono (hst n h x r u _ (by omega) hI hty (nz01 _)) (fun v h1 hv => ?_)
  obtain ⟨k9, rfl, hv⟩ := hv
  refine zz_wide (k := 49 + 4 * n + 4) (n := 1090 + 24 * n + 24) (by simp only []; omega) (by simp only []; omega) ?_
  refine zz_xs h93 hX0 (fun ht hx hty => ?_)
  refine zz_istore (q := 967) (i := 5) C (by decide +kernel) rfl (by decide) rfl ?_
  refine zz_aload_n (q := 968) (f := 2) (i := 2) C (by decide +kernel) rfl rfl rfl ?_
  refine zz_aload_n (q := 969) (f := 0) (i := 0) C (by decide +kernel) rfl rfl rfl ?_
  refine zz_iload (q := 971) (i := 4) C (by decide +kernel) rfl rfl ?_
  refine zz_iconst (q := 972) (n := 1) (x := 1) C (by decide +kernel) rfl (by decide +kernel) ?_
  refine zz_iadd (q := 973) C (by decide +kernel) rfl (nI_add (7 * n) 1) ?_
  refine zz_sload (q := 974) C (by decide +kernel) rfl rfl ht rfl (by omega) (by omega) (hx _ (by omega)) ?_
  refine zz_nz (o1 := 7) (t := 981) (q1 := 977) (q2 := 978) (o2 := 4) (j := 982) C (by decide +kernel) (by decide) rfl (by decide +kernel) rfl (by decide +kernel) (by decide) (by decide +kernel) rfl ?_
  refine zz_callV (q := 985) C (zz_Met_up (m_M_bySecond l)) cv_W_130 (by decide +kernel) rfl rfl rfl rfl (by decide) (by simp only [room_1]; omega) (Nat.le_of_ble_eq_true rfl) ?_
  refine zz_up_mono hv (fun w h2 hw => ?_)
  obtain ⟨rfl, hk9, hI2⟩ := hw
  refine zz_wide (k := 49 + 4 * n + 4) (n := 1090 + 24 * n + 24) (by simp only []; omega) (by simp only []; omega) ?_
  refine zz_aload_n (q := 986) (f := 2) (i := 2) C (by decide +kernel) rfl rfl rfl ?_
  refine zz_callV (q := 989) C (m_M_thrown l) cv_W_69 (by decide +kernel) rfl rfl rfl rfl (by decide) (by simp only [room_1]; omega) (Nat.le_of_ble_eq_true rfl) ⟨_, rfl, ?_⟩
  refine zz_iload (q := 991) (i := 5) C (by decide +kernel) rfl rfl ?_
  refine zz_icmp_eq (off := 5) (tgt := 996) (q := 994) C (by decide +kernel) (by decide) rfl (fun _ => ?_) (fun c991 => absurd hk9 c991)
  refine zz_goto (off := 53) (tgt := 1049) C (by decide +kernel) (by decide) ?_
  exact hK _ _ _ hI2
set_option maxRecDepth 100000 in
set_option maxHeartbeats 4000000 in
theorem lc_count (C : zz_C p s m args c code 7 "SegmentTreesLaw" D DA) (hl : l.stackTraces = false) (hG : xx_G (zz_A h0 s.heap.size) s s.heap) (hN : xx_N s) (h93 : zz_tg h0 b = some (93, L9)) (hX0 : va_X b L9 xs s s.heap) (hL9 : L9 ≤ 3584) (hn : 7 * n + 7 ≤ L9) (hIt : st_tag I) (hst : st_count I) (hI : I n h x r u) (hK : ∀ h' v5 v6, I (n + 1) h' x r u → zz_Z p l e room_1 s m args below meth c Q D DA (zz_A h0 s.heap.size) h0 7 1049 [some (zz_r 93 (some b)), some (zz_r 0 (some x)), some (zz_r 7 (some r)), some (zz_r 92 (some u)), some (zz_i (nI (7 * n))), v5, v6] [] h' (49 + 4 * n + 4) (1090 + 24 * n + 24)) : zz_Z p l e room_1 s m args below meth c Q D DA (zz_A h0 s.heap.size) h0 7 999 [some (zz_r 93 (some b)), some (zz_r 0 (some x)), some (zz_r 7 (some r)), some (zz_r 92 (some u)), some (zz_i (nI (7 * n))), v5, v6] [] h (49 + 4 * n) (1090 + 24 * n) := by
  refine zz_xs h93 hX0 (fun ht hx hty => ?_)
  refine zz_aload_n (q := 1000) (f := 1) (i := 1) C (by decide +kernel) rfl rfl rfl ?_
  refine zz_callV (q := 1003) C (zz_Met_up (m_T_count l)) cv_W_131 (by decide +kernel) rfl rfl rfl rfl (by decide) (by simp only [room_1]; omega) (Nat.le_of_ble_eq_true rfl) ?_
  refine zz_up_mono (hst n h x r u  (by omega) hI hty) (fun v h1 hv => ?_)
  obtain ⟨a9, rfl, hv⟩ := hv
  refine zz_wide (k := 49 + 4 * n + 4) (n := 1090 + 24 * n + 24) (by simp only []; omega) (by simp only []; omega) ?_
  refine zz_xs h93 hX0 (fun ht hx hty => ?_)
  refine zz_aload_n (q := 1004) (f := 2) (i := 2) C (by decide +kernel) rfl rfl rfl ?_
  refine zz_callV (q := 1007) C (zz_Met_up (m_M_count l)) cv_W_134 (by decide +kernel) rfl rfl rfl rfl (by decide) (by simp only [room_1]; omega) (Nat.le_of_ble_eq_true rfl) ?_
  refine zz_up_mono hv (fun w h2 hw => ?_)
  obtain ⟨rfl, hI2⟩ := hw
  refine zz_wide (k := 49 + 4 * n + 4) (n := 1090 + 24 * n + 24) (by simp only []; omega) (by simp only []; omega) ?_
  refine zz_icmp_eq (off := 42) (tgt := 1049) (q := 1010) C (by decide +kernel) (by decide) rfl (fun _ => ?_) (fun c1007 => absurd rfl c1007)
  exact hK _ _ _ hI2
set_option maxRecDepth 100000 in
set_option maxHeartbeats 4000000 in
theorem lc_segment (C : zz_C p s m args c code 7 "SegmentTreesLaw" D DA) (hl : l.stackTraces = false) (hG : xx_G (zz_A h0 s.heap.size) s s.heap) (hN : xx_N s) (h93 : zz_tg h0 b = some (93, L9)) (hX0 : va_X b L9 xs s s.heap) (hL9 : L9 ≤ 3584) (hn : 7 * n + 7 ≤ L9) (hIt : st_tag I) (hst : st_segment I) (hI : I n h x r u) (hK : ∀ h' v5 v6, I (n + 1) h' x r u → zz_Z p l e room_1 s m args below meth c Q D DA (zz_A h0 s.heap.size) h0 7 1049 [some (zz_r 93 (some b)), some (zz_r 0 (some x)), some (zz_r 7 (some r)), some (zz_r 92 (some u)), some (zz_i (nI (7 * n))), v5, v6] [] h' (49 + 4 * n + 4) (1090 + 24 * n + 24)) : zz_Z p l e room_1 s m args below meth c Q D DA (zz_A h0 s.heap.size) h0 7 1012 [some (zz_r 93 (some b)), some (zz_r 0 (some x)), some (zz_r 7 (some r)), some (zz_r 92 (some u)), some (zz_i (nI (7 * n))), v5, v6] [] h (49 + 4 * n) (1090 + 24 * n) := by
  refine zz_xs h93 hX0 (fun ht hx hty => ?_)
  refine zz_aload_n (q := 1013) (f := 1) (i := 1) C (by decide +kernel) rfl rfl rfl ?_
  refine zz_aload_n (q := 1014) (f := 0) (i := 0) C (by decide +kernel) rfl rfl rfl ?_
  refine zz_iload (q := 1016) (i := 4) C (by decide +kernel) rfl rfl ?_
  refine zz_iconst (q := 1017) (n := 1) (x := 1) C (by decide +kernel) rfl (by decide +kernel) ?_
  refine zz_iadd (q := 1018) C (by decide +kernel) rfl (nI_add (7 * n) 1) ?_
  refine zz_sload (q := 1019) C (by decide +kernel) rfl rfl ht rfl (by omega) (by omega) (hx _ (by omega)) ?_
  refine zz_aload_n (q := 1020) (f := 0) (i := 0) C (by decide +kernel) rfl rfl rfl ?_
  refine zz_iload (q := 1022) (i := 4) C (by decide +kernel) rfl rfl ?_
  refine zz_iconst (q := 1023) (n := 2) (x := 2) C (by decide +kernel) rfl (by decide +kernel) ?_
  refine zz_iadd (q := 1024) C (by decide +kernel) rfl (nI_add (7 * n) 2) ?_
  refine zz_sload (q := 1025) C (by decide +kernel) rfl rfl ht rfl (by omega) (by omega) (hx _ (by omega)) ?_
  refine zz_callV (q := 1028) C (zz_Met_up (m_T_segment l)) cv_W_135 (by decide +kernel) rfl rfl rfl rfl (by decide) (by simp only [room_1]; omega) (Nat.le_of_ble_eq_true rfl) ?_
  refine zz_up_mono (hst n h x r u _ _ (by omega) hI hty) (fun v h1 hv => ?_)
  obtain ⟨a9, rfl, hv⟩ := hv
  refine zz_wide (k := 49 + 4 * n + 4) (n := 1090 + 24 * n + 24) (by simp only []; omega) (by simp only []; omega) ?_
  refine zz_xs h93 hX0 (fun ht hx hty => ?_)
  refine zz_aload_n (q := 1029) (f := 2) (i := 2) C (by decide +kernel) rfl rfl rfl ?_
  refine zz_aload_n (q := 1030) (f := 0) (i := 0) C (by decide +kernel) rfl rfl rfl ?_
  refine zz_iload (q := 1032) (i := 4) C (by decide +kernel) rfl rfl ?_
  refine zz_iconst (q := 1033) (n := 1) (x := 1) C (by decide +kernel) rfl (by decide +kernel) ?_
  refine zz_iadd (q := 1034) C (by decide +kernel) rfl (nI_add (7 * n) 1) ?_
  refine zz_sload (q := 1035) C (by decide +kernel) rfl rfl ht rfl (by omega) (by omega) (hx _ (by omega)) ?_
  refine zz_aload_n (q := 1036) (f := 0) (i := 0) C (by decide +kernel) rfl rfl rfl ?_
  refine zz_iload (q := 1038) (i := 4) C (by decide +kernel) rfl rfl ?_
  refine zz_iconst (q := 1039) (n := 2) (x := 2) C (by decide +kernel) rfl (by decide +kernel) ?_
  refine zz_iadd (q := 1040) C (by decide +kernel) rfl (nI_add (7 * n) 2) ?_
  refine zz_sload (q := 1041) C (by decide +kernel) rfl rfl ht rfl (by omega) (by omega) (hx _ (by omega)) ?_
  refine zz_callV (q := 1044) C (zz_Met_up (m_M_segment l)) cv_W_139 (by decide +kernel) rfl rfl rfl rfl (by decide) (by simp only [room_1]; omega) (Nat.le_of_ble_eq_true rfl) ?_
  refine zz_up_mono hv (fun w h2 hw => ?_)
  obtain ⟨rfl, hI2⟩ := hw
  refine zz_wide (k := 49 + 4 * n + 4) (n := 1090 + 24 * n + 24) (by simp only []; omega) (by simp only []; omega) ?_
  refine zz_icmp_eq (off := 5) (tgt := 1049) (q := 1047) C (by decide +kernel) (by decide) rfl (fun _ => ?_) (fun c1044 => absurd rfl c1044)
  exact hK _ _ _ hI2
end LC
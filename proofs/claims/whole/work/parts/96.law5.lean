/-! the law: its loop -/
def st_skip (I : lw_I) : Prop := ∀ n h x r u, n < 512 → I n h x r u → I (n + 1) h x r u
def lw_steps (I : lw_I) : Prop := st_tag I ∧ st_skip I ∧ st_type I ∧ st_twins I ∧ st_second I ∧ st_clearPath I ∧ st_path I ∧ st_work I ∧ st_unique I ∧ st_next I ∧ st_within I ∧ st_fix I ∧ st_at I ∧ st_place I ∧ st_word I ∧ st_insert I ∧ st_replace I ∧ st_delete I ∧ st_bySecond I ∧ st_count I ∧ st_segment I
theorem lw_seven (n : Nat) : nI (7 * n) + Int32.ofInt 7 = nI (7 * (n + 1)) := by
  rw [show 7 * (n + 1) = 7 * n + 7 by omega]
  exact nI_add (7 * n) 7
theorem lw_more {n L9 : Nat} (hL : L9 ≤ 3584) (hn : n ≤ 512) (hc : ¬ nI L9 - 7 < nI (7 * n)) : 7 * n + 7 ≤ L9 := by
  by_cases h7 : 7 ≤ L9
  · have e1 : nI L9 - 7 = nI (L9 - 7) := nI_sub9 h7
    rw [e1] at hc
    have h9 : nI (7 * n) ≤ nI (L9 - 7) := Int32.not_lt.mp hc
    have := (nI_leI (a := 7 * n) (b := L9 - 7) (by omega) (by omega)).mp h9
    omega
  · exfalso
    apply hc
    have h0 : (0 : Int32) ≤ nI (7 * n) := (nI_leI (a := 0) (b := 7 * n) (by omega) (by omega)).mpr (by omega)
    have h1 : nI L9 - 7 < 0 := by
      have : L9 = 0 ∨ L9 = 1 ∨ L9 = 2 ∨ L9 = 3 ∨ L9 = 4 ∨ L9 = 5 ∨ L9 = 6 := by omega
      rcases this with rfl | rfl | rfl | rfl | rfl | rfl | rfl <;> decide
    exact Int32.lt_of_lt_of_le h1 h0
section LC
variable {p : Program} {l : Launch} {e : Env} {s : State} {m : MethodId} {args : Array Value} {below : List Frame} {meth : Method} {c : Code} {Q : State → Prop}
variable {D : va_G} {DA : Nat → ClassId} {h0 h : zz_H} {I : lw_I} {b L9 n x r u : Nat} {xs : Nat → Int32} {v5 v6 : Option zz_V}
set_option maxRecDepth 100000 in
set_option maxHeartbeats 4000000 in
theorem lw_loop (C : zz_C p s m args c code 7 "SegmentTreesLaw" D DA) (hl : l.stackTraces = false) (hG : xx_G (zz_A h0 s.heap.size) s s.heap) (hN : xx_N s) (h93 : zz_tg h0 b = some (93, L9)) (hX0 : va_X b L9 xs s s.heap) (hL9 : L9 ≤ 3584) (hst : lw_steps I)
    (hend : ∀ n h v5 v6, n ≤ 512 → zz_Z p l e room_1 s m args below meth c Q D DA (zz_A h0 s.heap.size) h0 7 1055 [some (zz_r 93 (some b)), some (zz_r 0 (some x)), some (zz_r 7 (some r)), some (zz_r 92 (some u)), some (zz_i (nI (7 * n))), v5, v6] [] h (49 + 4 * n) (1090 + 24 * n)) : ∀ f n h v5 v6, 513 ≤ f + n → n ≤ 512 → I n h x r u → zz_Z p l e room_1 s m args below meth c Q D DA (zz_A h0 s.heap.size) h0 7 23 [some (zz_r 93 (some b)), some (zz_r 0 (some x)), some (zz_r 7 (some r)), some (zz_r 92 (some u)), some (zz_i (nI (7 * n))), v5, v6] [] h (49 + 4 * n) (1090 + 24 * n) := by
  obtain ⟨hIt, hSk, s_type, s_twins, s_second, s_clearPath, s_path, s_work, s_unique, s_next, s_within, s_fix, s_at, s_place, s_word, s_insert, s_replace, s_delete, s_bySecond, s_count, s_segment⟩ := hst
  intro f
  induction f with
  | zero =>
    intro n h v5 v6 hf hn hI
    exact absurd hf (by omega)
  | succ f ih =>
    intro n h v5 v6 hf hn hI
    refine zz_xs h93 hX0 (fun ht hx hty => ?_)
    refine zz_iload (q := 25) (i := 4) C (by decide +kernel) rfl rfl ?_
    refine zz_aload_n (q := 26) (f := 0) (i := 0) C (by decide +kernel) rfl rfl rfl ?_
    refine zz_slen (q := 27) C (by decide +kernel) rfl rfl ht ?_
    refine zz_bipush (q := 29) (n := 7) (x := 7) C (by decide +kernel) rfl (by decide +kernel) ?_
    refine zz_isub (q := 30) C (by decide +kernel) rfl rfl ?_
    refine zz_icmp_gt (off := 1025) (tgt := 1055) (q := 33) C (by decide +kernel) (by decide) rfl (fun c30 => hend n h v5 v6 hn) (fun c30 => ?_)
    have hn7 : 7 * n + 7 ≤ L9 := lw_more hL9 hn c30
    have hK : ∀ h' v5 v6, I (n + 1) h' x r u → zz_Z p l e room_1 s m args below meth c Q D DA (zz_A h0 s.heap.size) h0 7 1049 [some (zz_r 93 (some b)), some (zz_r 0 (some x)), some (zz_r 7 (some r)), some (zz_r 92 (some u)), some (zz_i (nI (7 * n))), v5, v6] [] h' (49 + 4 * n + 4) (1090 + 24 * n + 24) := by
      intro h' v5 v6 hI2
      refine zz_iinc (q := 1052) (i := 4) (n := 7) C (by decide +kernel) rfl rfl (lw_seven n) (by decide) rfl ?_
      refine zz_goto (off := -1029) (tgt := 23) C (by decide +kernel) (by decide) ?_
      refine zz_wide (k := 49 + 4 * (n + 1)) (n := 1090 + 24 * (n + 1)) (by omega) (by omega) ?_
      exact ih (n + 1) h' v5 v6 (by omega) (by omega) hI2
    refine zz_aload_n (q := 34) (f := 0) (i := 0) C (by decide +kernel) rfl rfl rfl ?_
    refine zz_iload (q := 36) (i := 4) C (by decide +kernel) rfl rfl ?_
    refine zz_sload (q := 37) C (by decide +kernel) rfl rfl ht rfl (by omega) (by omega) (hx _ (by omega)) ?_
    refine zz_bipush (q := 39) (n := 31) (x := 31) C (by decide +kernel) rfl (by decide +kernel) ?_
    refine zz_iand (q := 40) C (by decide +kernel) rfl rfl ?_
    generalize xs (7 * n) &&& 31 = z9
    rcases zz_sw_0_18 z9 with hsw | hsw | hsw | hsw | hsw | hsw | hsw | hsw | hsw | hsw | hsw | hsw | hsw | hsw | hsw | hsw | hsw | hsw | hsw | hsw
    · refine zz_tableIn (dflt := 1009) (lo := 0) (hi := 18) (offs := #[92, 222, 270, 318, 329, 428, 476, 517, 558, 630, 674, 687, 700, 756, 812, 863, 907, 959, 972]) (len := 92) (off := 92) (tgt := 132) C (by decide +kernel) (by rw [hsw]; decide) (by rw [hsw]; decide) (by rw [hsw]; rfl) (by decide) ?_
      exact lc_type C hl hG hN h93 hX0 hL9 hn7 hIt s_type hI hK
    · refine zz_tableIn (dflt := 1009) (lo := 0) (hi := 18) (offs := #[92, 222, 270, 318, 329, 428, 476, 517, 558, 630, 674, 687, 700, 756, 812, 863, 907, 959, 972]) (len := 92) (off := 222) (tgt := 262) C (by decide +kernel) (by rw [hsw]; decide) (by rw [hsw]; decide) (by rw [hsw]; rfl) (by decide) ?_
      exact lc_twins C hl hG hN h93 hX0 hL9 hn7 hIt s_twins hI hK
    · refine zz_tableIn (dflt := 1009) (lo := 0) (hi := 18) (offs := #[92, 222, 270, 318, 329, 428, 476, 517, 558, 630, 674, 687, 700, 756, 812, 863, 907, 959, 972]) (len := 92) (off := 270) (tgt := 310) C (by decide +kernel) (by rw [hsw]; decide) (by rw [hsw]; decide) (by rw [hsw]; rfl) (by decide) ?_
      exact lc_second C hl hG hN h93 hX0 hL9 hn7 hIt s_second hI hK
    · refine zz_tableIn (dflt := 1009) (lo := 0) (hi := 18) (offs := #[92, 222, 270, 318, 329, 428, 476, 517, 558, 630, 674, 687, 700, 756, 812, 863, 907, 959, 972]) (len := 92) (off := 318) (tgt := 358) C (by decide +kernel) (by rw [hsw]; decide) (by rw [hsw]; decide) (by rw [hsw]; rfl) (by decide) ?_
      exact lc_clearPath C hl hG hN h93 hX0 hL9 hn7 hIt s_clearPath hI hK
    · refine zz_tableIn (dflt := 1009) (lo := 0) (hi := 18) (offs := #[92, 222, 270, 318, 329, 428, 476, 517, 558, 630, 674, 687, 700, 756, 812, 863, 907, 959, 972]) (len := 92) (off := 329) (tgt := 369) C (by decide +kernel) (by rw [hsw]; decide) (by rw [hsw]; decide) (by rw [hsw]; rfl) (by decide) ?_
      exact lc_path C hl hG hN h93 hX0 hL9 hn7 hIt s_path hI hK
    · refine zz_tableIn (dflt := 1009) (lo := 0) (hi := 18) (offs := #[92, 222, 270, 318, 329, 428, 476, 517, 558, 630, 674, 687, 700, 756, 812, 863, 907, 959, 972]) (len := 92) (off := 428) (tgt := 468) C (by decide +kernel) (by rw [hsw]; decide) (by rw [hsw]; decide) (by rw [hsw]; rfl) (by decide) ?_
      exact lc_work C hl hG hN h93 hX0 hL9 hn7 hIt s_work hI hK
    · refine zz_tableIn (dflt := 1009) (lo := 0) (hi := 18) (offs := #[92, 222, 270, 318, 329, 428, 476, 517, 558, 630, 674, 687, 700, 756, 812, 863, 907, 959, 972]) (len := 92) (off := 476) (tgt := 516) C (by decide +kernel) (by rw [hsw]; decide) (by rw [hsw]; decide) (by rw [hsw]; rfl) (by decide) ?_
      exact lc_unique C hl hG hN h93 hX0 hL9 hn7 hIt s_unique hI hK
    · refine zz_tableIn (dflt := 1009) (lo := 0) (hi := 18) (offs := #[92, 222, 270, 318, 329, 428, 476, 517, 558, 630, 674, 687, 700, 756, 812, 863, 907, 959, 972]) (len := 92) (off := 517) (tgt := 557) C (by decide +kernel) (by rw [hsw]; decide) (by rw [hsw]; decide) (by rw [hsw]; rfl) (by decide) ?_
      exact lc_next C hl hG hN h93 hX0 hL9 hn7 hIt s_next hI hK
    · refine zz_tableIn (dflt := 1009) (lo := 0) (hi := 18) (offs := #[92, 222, 270, 318, 329, 428, 476, 517, 558, 630, 674, 687, 700, 756, 812, 863, 907, 959, 972]) (len := 92) (off := 558) (tgt := 598) C (by decide +kernel) (by rw [hsw]; decide) (by rw [hsw]; decide) (by rw [hsw]; rfl) (by decide) ?_
      exact lc_within C hl hG hN h93 hX0 hL9 hn7 hIt s_within hI hK
    · refine zz_tableIn (dflt := 1009) (lo := 0) (hi := 18) (offs := #[92, 222, 270, 318, 329, 428, 476, 517, 558, 630, 674, 687, 700, 756, 812, 863, 907, 959, 972]) (len := 92) (off := 630) (tgt := 670) C (by decide +kernel) (by rw [hsw]; decide) (by rw [hsw]; decide) (by rw [hsw]; rfl) (by decide) ?_
      exact lc_fix C hl hG hN h93 hX0 hL9 hn7 hIt s_fix hI hK
    · refine zz_tableIn (dflt := 1009) (lo := 0) (hi := 18) (offs := #[92, 222, 270, 318, 329, 428, 476, 517, 558, 630, 674, 687, 700, 756, 812, 863, 907, 959, 972]) (len := 92) (off := 674) (tgt := 714) C (by decide +kernel) (by rw [hsw]; decide) (by rw [hsw]; decide) (by rw [hsw]; rfl) (by decide) ?_
      exact lc_at C hl hG hN h93 hX0 hL9 hn7 hIt s_at hI hK
    · refine zz_tableIn (dflt := 1009) (lo := 0) (hi := 18) (offs := #[92, 222, 270, 318, 329, 428, 476, 517, 558, 630, 674, 687, 700, 756, 812, 863, 907, 959, 972]) (len := 92) (off := 687) (tgt := 727) C (by decide +kernel) (by rw [hsw]; decide) (by rw [hsw]; decide) (by rw [hsw]; rfl) (by decide) ?_
      exact lc_place C hl hG hN h93 hX0 hL9 hn7 hIt s_place hI hK
    · refine zz_tableIn (dflt := 1009) (lo := 0) (hi := 18) (offs := #[92, 222, 270, 318, 329, 428, 476, 517, 558, 630, 674, 687, 700, 756, 812, 863, 907, 959, 972]) (len := 92) (off := 700) (tgt := 740) C (by decide +kernel) (by rw [hsw]; decide) (by rw [hsw]; decide) (by rw [hsw]; rfl) (by decide) ?_
      exact lc_word C hl hG hN h93 hX0 hL9 hn7 hIt s_word hI hK
    · refine zz_tableIn (dflt := 1009) (lo := 0) (hi := 18) (offs := #[92, 222, 270, 318, 329, 428, 476, 517, 558, 630, 674, 687, 700, 756, 812, 863, 907, 959, 972]) (len := 92) (off := 756) (tgt := 796) C (by decide +kernel) (by rw [hsw]; decide) (by rw [hsw]; decide) (by rw [hsw]; rfl) (by decide) ?_
      exact lc_insert C hl hG hN h93 hX0 hL9 hn7 hIt s_insert hI hK
    · refine zz_tableIn (dflt := 1009) (lo := 0) (hi := 18) (offs := #[92, 222, 270, 318, 329, 428, 476, 517, 558, 630, 674, 687, 700, 756, 812, 863, 907, 959, 972]) (len := 92) (off := 812) (tgt := 852) C (by decide +kernel) (by rw [hsw]; decide) (by rw [hsw]; decide) (by rw [hsw]; rfl) (by decide) ?_
      exact lc_replace C hl hG hN h93 hX0 hL9 hn7 hIt s_replace hI hK
    · refine zz_tableIn (dflt := 1009) (lo := 0) (hi := 18) (offs := #[92, 222, 270, 318, 329, 428, 476, 517, 558, 630, 674, 687, 700, 756, 812, 863, 907, 959, 972]) (len := 92) (off := 863) (tgt := 903) C (by decide +kernel) (by rw [hsw]; decide) (by rw [hsw]; decide) (by rw [hsw]; rfl) (by decide) ?_
      exact lc_delete C hl hG hN h93 hX0 hL9 hn7 hIt s_delete hI hK
    · refine zz_tableIn (dflt := 1009) (lo := 0) (hi := 18) (offs := #[92, 222, 270, 318, 329, 428, 476, 517, 558, 630, 674, 687, 700, 756, 812, 863, 907, 959, 972]) (len := 92) (off := 907) (tgt := 947) C (by decide +kernel) (by rw [hsw]; decide) (by rw [hsw]; decide) (by rw [hsw]; rfl) (by decide) ?_
      exact lc_bySecond C hl hG hN h93 hX0 hL9 hn7 hIt s_bySecond hI hK
    · refine zz_tableIn (dflt := 1009) (lo := 0) (hi := 18) (offs := #[92, 222, 270, 318, 329, 428, 476, 517, 558, 630, 674, 687, 700, 756, 812, 863, 907, 959, 972]) (len := 92) (off := 959) (tgt := 999) C (by decide +kernel) (by rw [hsw]; decide) (by rw [hsw]; decide) (by rw [hsw]; rfl) (by decide) ?_
      exact lc_count C hl hG hN h93 hX0 hL9 hn7 hIt s_count hI hK
    · refine zz_tableIn (dflt := 1009) (lo := 0) (hi := 18) (offs := #[92, 222, 270, 318, 329, 428, 476, 517, 558, 630, 674, 687, 700, 756, 812, 863, 907, 959, 972]) (len := 92) (off := 972) (tgt := 1012) C (by decide +kernel) (by rw [hsw]; decide) (by rw [hsw]; decide) (by rw [hsw]; rfl) (by decide) ?_
      exact lc_segment C hl hG hN h93 hX0 hL9 hn7 hIt s_segment hI hK
    · refine zz_tableOut (dflt := 1009) (lo := 0) (hi := 18) (offs := #[92, 222, 270, 318, 329, 428, 476, 517, 558, 630, 674, 687, 700, 756, 812, 863, 907, 959, 972]) (len := 92) (tgt := 1049) C (by decide +kernel) hsw (by decide) ?_
      refine zz_wide (k := 49 + 4 * n + 4) (n := 1090 + 24 * n + 24) (by omega) (by omega) ?_
      exact hK h v5 v6 (hSk n h x r u (by omega) hI)
end LC
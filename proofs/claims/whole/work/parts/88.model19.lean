/-! the reference: its constructor -/
def mo_st (h : zz_H) (r j ty n : Nat) (h2 : zz_H) : Prop := ∃ a, zz_tg h a = none ∧ h2 = zz_pR (zz_newA h ty n a) 7 j r (some a)
theorem mo_st_f {h h2 : zz_H} {r j ty n i : Nat} (hs : mo_st h r j ty n h2) (hi : i ≠ j) : zz_fR h2 7 i r = zz_fR h 7 i r := by
  obtain ⟨a, h1, rfl⟩ := hs
  exact if_neg (fun z => hi z.2.1)
theorem mo_st_t {h h2 : zz_H} {r j ty n b : Nat} {t : Nat × Nat} (hs : mo_st h r j ty n h2) (ht : zz_tg h b = some t) : zz_tg h2 b = some t := by
  obtain ⟨a, h1, rfl⟩ := hs
  exact zz_tg_old ht h1
def mo_fl (h : zz_H) (a i : Nat) : zz_H := mo_rx h (fun b j => if b = a ∧ j < i then -1 else zz_aI h b j)
theorem mo_fl_0 (h : zz_H) (a : Nat) : mo_fl h a 0 = h := by
  have e : (fun b j => if b = a ∧ j < 0 then (-1 : Int32) else zz_aI h b j) = zz_aI h := by
    funext b j
    rw [if_neg (by omega)]
  rw [mo_fl, e]; rfl
theorem mo_fl_s (h : zz_H) (a i : Nat) : zz_sI (mo_fl h a i) a i (-1) = mo_fl h a (i + 1) := by
  show mo_rx h _ = mo_rx h _
  congr 1
  funext b j
  show (if b = a ∧ j = i then (-1 : Int32) else if b = a ∧ j < i then -1 else zz_aI h b j) = (if b = a ∧ j < i + 1 then -1 else zz_aI h b j)
  by_cases h1 : b = a ∧ j < i + 1
  · rw [if_pos h1]
    by_cases h2 : j = i
    · rw [if_pos ⟨h1.1, h2⟩]
    · rw [if_neg (fun z => h2 z.2), if_pos ⟨h1.1, by omega⟩]
  · rw [if_neg h1, if_neg (fun z => h1 ⟨z.1, by omega⟩), if_neg (fun z => h1 ⟨z.1, by omega⟩)]
def T_M_init : zz_Tr := fun as h post => ∃ r, as = [zz_r 7 (some r)] ∧ ∀ g1 g2 g3 g4 g5 g6 g7 g8 g9 g10 g11 g12 g13 g14 g15 g16 g17 g18 g19 g20 g21 g22 g23 g24 g25 a8 a22, mo_st h r 1 91 8 g1 → mo_st g1 r 2 90 8 g2 → mo_st g2 r 3 90 8 g3 → mo_st g3 r 4 90 8 g4 → mo_st g4 r 5 90 8 g5 → mo_st g5 r 6 91 8 g6 → mo_st g6 r 7 91 8 g7 → mo_st g7 r 8 90 8 g8 → g9 = zz_pI g8 7 9 r (-1) → mo_st g9 r 14 90 60 g10 → mo_st g10 r 15 90 60 g11 → mo_st g11 r 16 90 60 g12 → mo_st g12 r 17 90 60 g13 → mo_st g13 r 18 90 240 g14 → mo_st g14 r 19 90 60 g15 → mo_st g15 r 20 92 60 g16 → mo_st g16 r 21 91 60 g17 → mo_st g17 r 22 90 5 g18 → mo_st g18 r 23 90 5 g19 → mo_st g19 r 24 90 15 g20 → mo_st g20 r 25 90 15 g21 → mo_st g21 r 26 90 15 g22 → mo_st g22 r 27 90 4 g23 → g24 = zz_pI g23 7 30 r (-1) → g25 = zz_pI g24 7 31 r (-1) → zz_fR g25 7 8 r = some a8 → zz_fR g25 7 22 r = some a22 → a8 ≠ a22 → post none (mo_fl (mo_fl g25 a8 8) a22 5)
set_option maxRecDepth 100000 in
set_option maxHeartbeats 4000000 in
theorem m_M_init (l : Launch) : zz_Met l y_M_init w_M_init { frames := 1, cells := 22, slots := 847, locals := 12 } T_M_init := by
  refine zz_ofZ (by decide) (fun as h post hT => ?_) ?_
  · obtain ⟨r, rfl, hp⟩ := hT
    exact ⟨by simp [zz_cat], by simp⟩
  · intro D DA h as post hT p e s m args below meth c Q C hr hlk hnm hQ
    obtain ⟨r, rfl, hp⟩ := hT
    have lp216 : ∀ gE a8 a22, zz_fR gE 7 22 r = some a22 → zz_tg gE a22 = some (90, 5) → post none (mo_fl (mo_fl gE a8 8) a22 5) → ∀ n i, 6 ≤ n + i → i ≤ 5 → zz_Z p l e { frames := 1, cells := 22, slots := 847, locals := 12 } s m args below meth c Q D DA (zz_A h s.heap.size) h 2 216 [some (zz_r 7 (some r)), some (zz_i (nI i))] [] (mo_fl (mo_fl gE a8 8) a22 i) 22 783 := by
      intro gE a8 a22 f22 t22 hp9
      intro n
      induction n with
      | zero =>
        intro i hn hi
        exact absurd hn (by omega)
      | succ n ih =>
        intro i hn hile
        refine zz_iload_n (q := 217) (f := 1) (i := 1) C (by decide +kernel) rfl rfl rfl ?_
        refine zz_iconst (q := 218) (n := 5) (x := 5) C (by decide +kernel) rfl (by decide +kernel) ?_
        refine zz_icmp_ge (off := 16) (tgt := 234) (q := 221) C (by decide +kernel) (by decide) rfl (fun c218 => ?_) (fun c218 => ?_)
        · refine zz_vret C hr hlk (by decide +kernel) hQ (by decide) (by decide) ?_
          have he : i = 5 := by
            have := (nI_leI (a := 5) (b := i) (by omega) (by omega)).mp c218
            omega
          rw [he]; exact hp9
        · have hi : i < 5 := Nat.lt_of_not_le (fun z => c218 (nI_le z (by omega)))
          refine zz_aload_n (q := 222) (f := 0) (i := 0) C (by decide +kernel) rfl rfl rfl ?_
          refine zz_getR (q := 225) C gf_M_64 (by decide +kernel) rfl (by first | rfl | assumption) f22 ?_
          refine zz_iload_n (q := 226) (f := 1) (i := 1) C (by decide +kernel) rfl rfl rfl ?_
          refine zz_iconst (q := 227) (n := -1) (x := (-1)) C (by decide +kernel) rfl (by decide +kernel) ?_
          refine zz_iastore (q := 228) C (by decide +kernel) rfl rfl t22 rfl (by omega) (by decide) ?_
          rw [mo_fl_s]
          refine zz_iinc (q := 231) (i := 1) (n := 1) C (by decide +kernel) rfl rfl (nI_1 _) (by decide) rfl ?_
          refine zz_goto (off := -15) (tgt := 216) C (by decide +kernel) (by decide) ?_
          -- AT 216
          exact ih (i + 1) (by omega) (by omega)
    have lp195 : ∀ gE a8 a22, zz_fR gE 7 8 r = some a8 → zz_tg gE a8 = some (90, 8) → zz_fR gE 7 22 r = some a22 → zz_tg gE a22 = some (90, 5) → post none (mo_fl (mo_fl gE a8 8) a22 5) → ∀ n i, 9 ≤ n + i → i ≤ 8 → zz_Z p l e { frames := 1, cells := 22, slots := 847, locals := 12 } s m args below meth c Q D DA (zz_A h s.heap.size) h 2 195 [some (zz_r 7 (some r)), some (zz_i (nI i))] [] (mo_fl gE a8 i) 22 783 := by
      intro gE a8 a22 f8 t8 f22 t22 hp9
      intro n
      induction n with
      | zero =>
        intro i hn hi
        exact absurd hn (by omega)
      | succ n ih =>
        intro i hn hile
        refine zz_iload_n (q := 196) (f := 1) (i := 1) C (by decide +kernel) rfl rfl rfl ?_
        refine zz_bipush (q := 198) (n := 8) (x := 8) C (by decide +kernel) rfl (by decide +kernel) ?_
        refine zz_icmp_ge (off := 16) (tgt := 214) (q := 201) C (by decide +kernel) (by decide) rfl (fun c198 => ?_) (fun c198 => ?_)
        · refine zz_iconst (q := 215) (n := 0) (x := 0) C (by decide +kernel) rfl (by decide +kernel) ?_
          refine zz_istore_n (q := 216) (f := 1) (i := 1) C (by decide +kernel) rfl rfl (by decide) rfl ?_
          -- AT 216
          have he : i = 8 := by
            have := (nI_leI (a := 8) (b := i) (by omega) (by omega)).mp c198
            omega
          subst he
          have l9 := lp216 gE a8 a22 f22 t22 hp9 6 0 (by omega) (by omega)
          rw [mo_fl_0] at l9
          exact l9
        · have hi : i < 8 := Nat.lt_of_not_le (fun z => c198 (nI_le z (by omega)))
          refine zz_aload_n (q := 202) (f := 0) (i := 0) C (by decide +kernel) rfl rfl rfl ?_
          refine zz_getR (q := 205) C gf_M_32 (by decide +kernel) rfl (by first | rfl | assumption) f8 ?_
          refine zz_iload_n (q := 206) (f := 1) (i := 1) C (by decide +kernel) rfl rfl rfl ?_
          refine zz_iconst (q := 207) (n := -1) (x := (-1)) C (by decide +kernel) rfl (by decide +kernel) ?_
          refine zz_iastore (q := 208) C (by decide +kernel) rfl rfl t8 rfl (by omega) (by decide) ?_
          rw [mo_fl_s]
          refine zz_iinc (q := 211) (i := 1) (n := 1) C (by decide +kernel) rfl rfl (nI_1 _) (by decide) rfl ?_
          refine zz_goto (off := -16) (tgt := 195) C (by decide +kernel) (by decide) ?_
          -- AT 195
          exact ih (i + 1) (by omega) (by omega)
    refine zz_aload_n (q := 1) (f := 0) (i := 0) C (by decide +kernel) rfl rfl rfl ?_
    refine zz_objInit (q := 4) C ol_M_1 zw_oi zw_oc (by decide +kernel) rfl (by first | rfl | assumption) (by decide) (by decide) ?_
    refine zz_aload_n (q := 5) (f := 0) (i := 0) C (by decide +kernel) rfl rfl rfl ?_
    refine zz_bipush (q := 7) (n := 8) (x := 8) C (by decide +kernel) rfl (by decide +kernel) ?_
    refine zz_newB (q := 9) (at9 := .boolean) (N := 8) C rfl an_a_B (by decide +kernel) (by decide) (by decide +kernel) rfl (by decide) (by decide) (fun a7 n7 => ?_)
    refine zz_putR (q := 12) C gf_M_7 (fun _ => ⟨hnm, fun _ _ _ h => by cases h; rfl⟩) (by decide +kernel) rfl (by first | rfl | assumption) ?_
    have st1 : mo_st h r 1 91 8 (zz_pR (zz_newA h 91 8 a7) 7 1 r (some a7)) := ⟨a7, n7, rfl⟩
    revert st1
    generalize zz_pR (zz_newA h 91 8 a7) 7 1 r (some a7) = g1
    intro st1
    refine zz_aload_n (q := 13) (f := 0) (i := 0) C (by decide +kernel) rfl rfl rfl ?_
    refine zz_bipush (q := 15) (n := 8) (x := 8) C (by decide +kernel) rfl (by decide +kernel) ?_
    refine zz_newI (q := 17) (at9 := .int) (N := 8) C rfl an_a_I (by decide +kernel) (by decide) (by decide +kernel) rfl (by decide) (by decide) (fun a15 n15 => ?_)
    refine zz_putR (q := 20) C gf_M_13 (fun _ => ⟨hnm, fun _ _ _ h => by cases h; rfl⟩) (by decide +kernel) rfl (by first | rfl | assumption) ?_
    have st2 : mo_st g1 r 2 90 8 (zz_pR (zz_newA g1 90 8 a15) 7 2 r (some a15)) := ⟨a15, n15, rfl⟩
    revert st2
    generalize zz_pR (zz_newA g1 90 8 a15) 7 2 r (some a15) = g2
    intro st2
    refine zz_aload_n (q := 21) (f := 0) (i := 0) C (by decide +kernel) rfl rfl rfl ?_
    refine zz_bipush (q := 23) (n := 8) (x := 8) C (by decide +kernel) rfl (by decide +kernel) ?_
    refine zz_newI (q := 25) (at9 := .int) (N := 8) C rfl an_a_I (by decide +kernel) (by decide) (by decide +kernel) rfl (by decide) (by decide) (fun a23 n23 => ?_)
    refine zz_putR (q := 28) C gf_M_17 (fun _ => ⟨hnm, fun _ _ _ h => by cases h; rfl⟩) (by decide +kernel) rfl (by first | rfl | assumption) ?_
    have st3 : mo_st g2 r 3 90 8 (zz_pR (zz_newA g2 90 8 a23) 7 3 r (some a23)) := ⟨a23, n23, rfl⟩
    revert st3
    generalize zz_pR (zz_newA g2 90 8 a23) 7 3 r (some a23) = g3
    intro st3
    refine zz_aload_n (q := 29) (f := 0) (i := 0) C (by decide +kernel) rfl rfl rfl ?_
    refine zz_bipush (q := 31) (n := 8) (x := 8) C (by decide +kernel) rfl (by decide +kernel) ?_
    refine zz_newI (q := 33) (at9 := .int) (N := 8) C rfl an_a_I (by decide +kernel) (by decide) (by decide +kernel) rfl (by decide) (by decide) (fun a31 n31 => ?_)
    refine zz_putR (q := 36) C gf_M_20 (fun _ => ⟨hnm, fun _ _ _ h => by cases h; rfl⟩) (by decide +kernel) rfl (by first | rfl | assumption) ?_
    have st4 : mo_st g3 r 4 90 8 (zz_pR (zz_newA g3 90 8 a31) 7 4 r (some a31)) := ⟨a31, n31, rfl⟩
    revert st4
    generalize zz_pR (zz_newA g3 90 8 a31) 7 4 r (some a31) = g4
    intro st4
    refine zz_aload_n (q := 37) (f := 0) (i := 0) C (by decide +kernel) rfl rfl rfl ?_
    refine zz_bipush (q := 39) (n := 8) (x := 8) C (by decide +kernel) rfl (by decide +kernel) ?_
    refine zz_newI (q := 41) (at9 := .int) (N := 8) C rfl an_a_I (by decide +kernel) (by decide) (by decide +kernel) rfl (by decide) (by decide) (fun a39 n39 => ?_)
    refine zz_putR (q := 44) C gf_M_23 (fun _ => ⟨hnm, fun _ _ _ h => by cases h; rfl⟩) (by decide +kernel) rfl (by first | rfl | assumption) ?_
    have st5 : mo_st g4 r 5 90 8 (zz_pR (zz_newA g4 90 8 a39) 7 5 r (some a39)) := ⟨a39, n39, rfl⟩
    revert st5
    generalize zz_pR (zz_newA g4 90 8 a39) 7 5 r (some a39) = g5
    intro st5
    refine zz_aload_n (q := 45) (f := 0) (i := 0) C (by decide +kernel) rfl rfl rfl ?_
    refine zz_bipush (q := 47) (n := 8) (x := 8) C (by decide +kernel) rfl (by decide +kernel) ?_
    refine zz_newB (q := 49) (at9 := .boolean) (N := 8) C rfl an_a_B (by decide +kernel) (by decide) (by decide +kernel) rfl (by decide) (by decide) (fun a47 n47 => ?_)
    refine zz_putR (q := 52) C gf_M_26 (fun _ => ⟨hnm, fun _ _ _ h => by cases h; rfl⟩) (by decide +kernel) rfl (by first | rfl | assumption) ?_
    have st6 : mo_st g5 r 6 91 8 (zz_pR (zz_newA g5 91 8 a47) 7 6 r (some a47)) := ⟨a47, n47, rfl⟩
    revert st6
    generalize zz_pR (zz_newA g5 91 8 a47) 7 6 r (some a47) = g6
    intro st6
    refine zz_aload_n (q := 53) (f := 0) (i := 0) C (by decide +kernel) rfl rfl rfl ?_
    refine zz_bipush (q := 55) (n := 8) (x := 8) C (by decide +kernel) rfl (by decide +kernel) ?_
    refine zz_newB (q := 57) (at9 := .boolean) (N := 8) C rfl an_a_B (by decide +kernel) (by decide) (by decide +kernel) rfl (by decide) (by decide) (fun a55 n55 => ?_)
    refine zz_putR (q := 60) C gf_M_29 (fun _ => ⟨hnm, fun _ _ _ h => by cases h; rfl⟩) (by decide +kernel) rfl (by first | rfl | assumption) ?_
    have st7 : mo_st g6 r 7 91 8 (zz_pR (zz_newA g6 91 8 a55) 7 7 r (some a55)) := ⟨a55, n55, rfl⟩
    revert st7
    generalize zz_pR (zz_newA g6 91 8 a55) 7 7 r (some a55) = g7
    intro st7
    refine zz_aload_n (q := 61) (f := 0) (i := 0) C (by decide +kernel) rfl rfl rfl ?_
    refine zz_bipush (q := 63) (n := 8) (x := 8) C (by decide +kernel) rfl (by decide +kernel) ?_
    refine zz_newI (q := 65) (at9 := .int) (N := 8) C rfl an_a_I (by decide +kernel) (by decide) (by decide +kernel) rfl (by decide) (by decide) (fun a63 n63 => ?_)
    refine zz_putR (q := 68) C gf_M_32 (fun _ => ⟨hnm, fun _ _ _ h => by cases h; rfl⟩) (by decide +kernel) rfl (by first | rfl | assumption) ?_
    have st8 : mo_st g7 r 8 90 8 (zz_pR (zz_newA g7 90 8 a63) 7 8 r (some a63)) := ⟨a63, n63, rfl⟩
    have f8_8 : zz_fR (zz_pR (zz_newA g7 90 8 a63) 7 8 r (some a63)) 7 8 r = some a63 := if_pos ⟨rfl, rfl, rfl⟩
    have t8_8 : zz_tg (zz_pR (zz_newA g7 90 8 a63) 7 8 r (some a63)) a63 = some (90, 8) := if_pos rfl
    revert st8 f8_8 t8_8
    generalize zz_pR (zz_newA g7 90 8 a63) 7 8 r (some a63) = g8
    intro st8 f8_8 t8_8
    refine zz_aload_n (q := 69) (f := 0) (i := 0) C (by decide +kernel) rfl rfl rfl ?_
    refine zz_iconst (q := 70) (n := -1) (x := (-1)) C (by decide +kernel) rfl (by decide +kernel) ?_
    refine zz_putI (q := 73) C gf_M_35 (fun h => by cases h) (fun h => by cases h) (by decide +kernel) rfl (by first | rfl | assumption) ?_
    obtain ⟨g9, e9⟩ : ∃ g9, g9 = zz_pI g8 7 9 r (-1) := ⟨_, rfl⟩
    rw [← e9]
    have f8_9 : zz_fR g9 7 8 r = some a63 := by rw [e9]; exact f8_8
    have t8_9 : zz_tg g9 a63 = some (90, 8) := by rw [e9]; exact t8_8
    refine zz_aload_n (q := 74) (f := 0) (i := 0) C (by decide +kernel) rfl rfl rfl ?_
    refine zz_bipush (q := 76) (n := 60) (x := 60) C (by decide +kernel) rfl (by decide +kernel) ?_
    refine zz_newI (q := 78) (at9 := .int) (N := 60) C rfl an_a_I (by decide +kernel) (by decide) (by decide +kernel) rfl (by decide) (by decide) (fun a76 n76 => ?_)
    refine zz_putR (q := 81) C gf_M_39 (fun _ => ⟨hnm, fun _ _ _ h => by cases h; rfl⟩) (by decide +kernel) rfl (by first | rfl | assumption) ?_
    have st10 : mo_st g9 r 14 90 60 (zz_pR (zz_newA g9 90 60 a76) 7 14 r (some a76)) := ⟨a76, n76, rfl⟩
    have f8_10 := (mo_st_f st10 (show 8 ≠ 14 by decide)).trans f8_9
    have t8_10 := mo_st_t st10 t8_9
    revert st10 f8_10 t8_10
    generalize zz_pR (zz_newA g9 90 60 a76) 7 14 r (some a76) = g10
    intro st10 f8_10 t8_10
    refine zz_aload_n (q := 82) (f := 0) (i := 0) C (by decide +kernel) rfl rfl rfl ?_
    refine zz_bipush (q := 84) (n := 60) (x := 60) C (by decide +kernel) rfl (by decide +kernel) ?_
    refine zz_newI (q := 86) (at9 := .int) (N := 60) C rfl an_a_I (by decide +kernel) (by decide) (by decide +kernel) rfl (by decide) (by decide) (fun a84 n84 => ?_)
    refine zz_putR (q := 89) C gf_M_42 (fun _ => ⟨hnm, fun _ _ _ h => by cases h; rfl⟩) (by decide +kernel) rfl (by first | rfl | assumption) ?_
    have st11 : mo_st g10 r 15 90 60 (zz_pR (zz_newA g10 90 60 a84) 7 15 r (some a84)) := ⟨a84, n84, rfl⟩
    have f8_11 := (mo_st_f st11 (show 8 ≠ 15 by decide)).trans f8_10
    have t8_11 := mo_st_t st11 t8_10
    revert st11 f8_11 t8_11
    generalize zz_pR (zz_newA g10 90 60 a84) 7 15 r (some a84) = g11
    intro st11 f8_11 t8_11
    refine zz_aload_n (q := 90) (f := 0) (i := 0) C (by decide +kernel) rfl rfl rfl ?_
    refine zz_bipush (q := 92) (n := 60) (x := 60) C (by decide +kernel) rfl (by decide +kernel) ?_
    refine zz_newI (q := 94) (at9 := .int) (N := 60) C rfl an_a_I (by decide +kernel) (by decide) (by decide +kernel) rfl (by decide) (by decide) (fun a92 n92 => ?_)
    refine zz_putR (q := 97) C gf_M_45 (fun _ => ⟨hnm, fun _ _ _ h => by cases h; rfl⟩) (by decide +kernel) rfl (by first | rfl | assumption) ?_
    have st12 : mo_st g11 r 16 90 60 (zz_pR (zz_newA g11 90 60 a92) 7 16 r (some a92)) := ⟨a92, n92, rfl⟩
    have f8_12 := (mo_st_f st12 (show 8 ≠ 16 by decide)).trans f8_11
    have t8_12 := mo_st_t st12 t8_11
    revert st12 f8_12 t8_12
    generalize zz_pR (zz_newA g11 90 60 a92) 7 16 r (some a92) = g12
    intro st12 f8_12 t8_12
    refine zz_aload_n (q := 98) (f := 0) (i := 0) C (by decide +kernel) rfl rfl rfl ?_
    refine zz_bipush (q := 100) (n := 60) (x := 60) C (by decide +kernel) rfl (by decide +kernel) ?_
    refine zz_newI (q := 102) (at9 := .int) (N := 60) C rfl an_a_I (by decide +kernel) (by decide) (by decide +kernel) rfl (by decide) (by decide) (fun a100 n100 => ?_)
    refine zz_putR (q := 105) C gf_M_48 (fun _ => ⟨hnm, fun _ _ _ h => by cases h; rfl⟩) (by decide +kernel) rfl (by first | rfl | assumption) ?_
    have st13 : mo_st g12 r 17 90 60 (zz_pR (zz_newA g12 90 60 a100) 7 17 r (some a100)) := ⟨a100, n100, rfl⟩
    have f8_13 := (mo_st_f st13 (show 8 ≠ 17 by decide)).trans f8_12
    have t8_13 := mo_st_t st13 t8_12
    revert st13 f8_13 t8_13
    generalize zz_pR (zz_newA g12 90 60 a100) 7 17 r (some a100) = g13
    intro st13 f8_13 t8_13
    refine zz_aload_n (q := 106) (f := 0) (i := 0) C (by decide +kernel) rfl rfl rfl ?_
    refine zz_sipush (q := 109) (n := 240) (x := 240) C (by decide +kernel) rfl (by decide +kernel) ?_
    refine zz_newI (q := 111) (at9 := .int) (N := 240) C rfl an_a_I (by decide +kernel) (by decide) (by decide +kernel) rfl (by decide) (by decide) (fun a109 n109 => ?_)
    refine zz_putR (q := 114) C gf_M_51 (fun _ => ⟨hnm, fun _ _ _ h => by cases h; rfl⟩) (by decide +kernel) rfl (by first | rfl | assumption) ?_
    have st14 : mo_st g13 r 18 90 240 (zz_pR (zz_newA g13 90 240 a109) 7 18 r (some a109)) := ⟨a109, n109, rfl⟩
    have f8_14 := (mo_st_f st14 (show 8 ≠ 18 by decide)).trans f8_13
    have t8_14 := mo_st_t st14 t8_13
    revert st14 f8_14 t8_14
    generalize zz_pR (zz_newA g13 90 240 a109) 7 18 r (some a109) = g14
    intro st14 f8_14 t8_14
    refine zz_aload_n (q := 115) (f := 0) (i := 0) C (by decide +kernel) rfl rfl rfl ?_
    refine zz_bipush (q := 117) (n := 60) (x := 60) C (by decide +kernel) rfl (by decide +kernel) ?_
    refine zz_newI (q := 119) (at9 := .int) (N := 60) C rfl an_a_I (by decide +kernel) (by decide) (by decide +kernel) rfl (by decide) (by decide) (fun a117 n117 => ?_)
    refine zz_putR (q := 122) C gf_M_54 (fun _ => ⟨hnm, fun _ _ _ h => by cases h; rfl⟩) (by decide +kernel) rfl (by first | rfl | assumption) ?_
    have st15 : mo_st g14 r 19 90 60 (zz_pR (zz_newA g14 90 60 a117) 7 19 r (some a117)) := ⟨a117, n117, rfl⟩
    have f8_15 := (mo_st_f st15 (show 8 ≠ 19 by decide)).trans f8_14
    have t8_15 := mo_st_t st15 t8_14
    revert st15 f8_15 t8_15
    generalize zz_pR (zz_newA g14 90 60 a117) 7 19 r (some a117) = g15
    intro st15 f8_15 t8_15
    refine zz_aload_n (q := 123) (f := 0) (i := 0) C (by decide +kernel) rfl rfl rfl ?_
    refine zz_bipush (q := 125) (n := 60) (x := 60) C (by decide +kernel) rfl (by decide +kernel) ?_
    refine zz_newL (q := 127) (at9 := .long) (N := 60) C rfl an_a_L (by decide +kernel) (by decide) (by decide +kernel) rfl (by decide) (by decide) (fun a125 n125 => ?_)
    refine zz_putR (q := 130) C gf_M_57 (fun _ => ⟨hnm, fun _ _ _ h => by cases h; rfl⟩) (by decide +kernel) rfl (by first | rfl | assumption) ?_
    have st16 : mo_st g15 r 20 92 60 (zz_pR (zz_newA g15 92 60 a125) 7 20 r (some a125)) := ⟨a125, n125, rfl⟩
    have f8_16 := (mo_st_f st16 (show 8 ≠ 20 by decide)).trans f8_15
    have t8_16 := mo_st_t st16 t8_15
    revert st16 f8_16 t8_16
    generalize zz_pR (zz_newA g15 92 60 a125) 7 20 r (some a125) = g16
    intro st16 f8_16 t8_16
    refine zz_aload_n (q := 131) (f := 0) (i := 0) C (by decide +kernel) rfl rfl rfl ?_
    refine zz_bipush (q := 133) (n := 60) (x := 60) C (by decide +kernel) rfl (by decide +kernel) ?_
    refine zz_newB (q := 135) (at9 := .boolean) (N := 60) C rfl an_a_B (by decide +kernel) (by decide) (by decide +kernel) rfl (by decide) (by decide) (fun a133 n133 => ?_)
    refine zz_putR (q := 138) C gf_M_61 (fun _ => ⟨hnm, fun _ _ _ h => by cases h; rfl⟩) (by decide +kernel) rfl (by first | rfl | assumption) ?_
    have st17 : mo_st g16 r 21 91 60 (zz_pR (zz_newA g16 91 60 a133) 7 21 r (some a133)) := ⟨a133, n133, rfl⟩
    have f8_17 := (mo_st_f st17 (show 8 ≠ 21 by decide)).trans f8_16
    have t8_17 := mo_st_t st17 t8_16
    revert st17 f8_17 t8_17
    generalize zz_pR (zz_newA g16 91 60 a133) 7 21 r (some a133) = g17
    intro st17 f8_17 t8_17
    refine zz_aload_n (q := 139) (f := 0) (i := 0) C (by decide +kernel) rfl rfl rfl ?_
    refine zz_iconst (q := 140) (n := 5) (x := 5) C (by decide +kernel) rfl (by decide +kernel) ?_
    refine zz_newI (q := 142) (at9 := .int) (N := 5) C rfl an_a_I (by decide +kernel) (by decide) (by decide +kernel) rfl (by decide) (by decide) (fun a140 n140 => ?_)
    refine zz_putR (q := 145) C gf_M_64 (fun _ => ⟨hnm, fun _ _ _ h => by cases h; rfl⟩) (by decide +kernel) rfl (by first | rfl | assumption) ?_
    have st18 : mo_st g17 r 22 90 5 (zz_pR (zz_newA g17 90 5 a140) 7 22 r (some a140)) := ⟨a140, n140, rfl⟩
    have f8_18 := (mo_st_f st18 (show 8 ≠ 22 by decide)).trans f8_17
    have t8_18 := mo_st_t st18 t8_17
    have hne : a63 ≠ a140 := zz_tg_ne (h := g17) t8_17 n140
    have f22_18 : zz_fR (zz_pR (zz_newA g17 90 5 a140) 7 22 r (some a140)) 7 22 r = some a140 := if_pos ⟨rfl, rfl, rfl⟩
    have t22_18 : zz_tg (zz_pR (zz_newA g17 90 5 a140) 7 22 r (some a140)) a140 = some (90, 5) := if_pos rfl
    revert st18 f8_18 t8_18 f22_18 t22_18
    generalize zz_pR (zz_newA g17 90 5 a140) 7 22 r (some a140) = g18
    intro st18 f8_18 t8_18 f22_18 t22_18
    refine zz_aload_n (q := 146) (f := 0) (i := 0) C (by decide +kernel) rfl rfl rfl ?_
    refine zz_iconst (q := 147) (n := 5) (x := 5) C (by decide +kernel) rfl (by decide +kernel) ?_
    refine zz_newI (q := 149) (at9 := .int) (N := 5) C rfl an_a_I (by decide +kernel) (by decide) (by decide +kernel) rfl (by decide) (by decide) (fun a147 n147 => ?_)
    refine zz_putR (q := 152) C gf_M_67 (fun _ => ⟨hnm, fun _ _ _ h => by cases h; rfl⟩) (by decide +kernel) rfl (by first | rfl | assumption) ?_
    have st19 : mo_st g18 r 23 90 5 (zz_pR (zz_newA g18 90 5 a147) 7 23 r (some a147)) := ⟨a147, n147, rfl⟩
    have f8_19 := (mo_st_f st19 (show 8 ≠ 23 by decide)).trans f8_18
    have t8_19 := mo_st_t st19 t8_18
    have f22_19 := (mo_st_f st19 (show 22 ≠ 23 by decide)).trans f22_18
    have t22_19 := mo_st_t st19 t22_18
    revert st19 f8_19 t8_19 f22_19 t22_19
    generalize zz_pR (zz_newA g18 90 5 a147) 7 23 r (some a147) = g19
    intro st19 f8_19 t8_19 f22_19 t22_19
    refine zz_aload_n (q := 153) (f := 0) (i := 0) C (by decide +kernel) rfl rfl rfl ?_
    refine zz_bipush (q := 155) (n := 15) (x := 15) C (by decide +kernel) rfl (by decide +kernel) ?_
    refine zz_newI (q := 157) (at9 := .int) (N := 15) C rfl an_a_I (by decide +kernel) (by decide) (by decide +kernel) rfl (by decide) (by decide) (fun a155 n155 => ?_)
    refine zz_putR (q := 160) C gf_M_70 (fun _ => ⟨hnm, fun _ _ _ h => by cases h; rfl⟩) (by decide +kernel) rfl (by first | rfl | assumption) ?_
    have st20 : mo_st g19 r 24 90 15 (zz_pR (zz_newA g19 90 15 a155) 7 24 r (some a155)) := ⟨a155, n155, rfl⟩
    have f8_20 := (mo_st_f st20 (show 8 ≠ 24 by decide)).trans f8_19
    have t8_20 := mo_st_t st20 t8_19
    have f22_20 := (mo_st_f st20 (show 22 ≠ 24 by decide)).trans f22_19
    have t22_20 := mo_st_t st20 t22_19
    revert st20 f8_20 t8_20 f22_20 t22_20
    generalize zz_pR (zz_newA g19 90 15 a155) 7 24 r (some a155) = g20
    intro st20 f8_20 t8_20 f22_20 t22_20
    refine zz_aload_n (q := 161) (f := 0) (i := 0) C (by decide +kernel) rfl rfl rfl ?_
    refine zz_bipush (q := 163) (n := 15) (x := 15) C (by decide +kernel) rfl (by decide +kernel) ?_
    refine zz_newI (q := 165) (at9 := .int) (N := 15) C rfl an_a_I (by decide +kernel) (by decide) (by decide +kernel) rfl (by decide) (by decide) (fun a163 n163 => ?_)
    refine zz_putR (q := 168) C gf_M_73 (fun _ => ⟨hnm, fun _ _ _ h => by cases h; rfl⟩) (by decide +kernel) rfl (by first | rfl | assumption) ?_
    have st21 : mo_st g20 r 25 90 15 (zz_pR (zz_newA g20 90 15 a163) 7 25 r (some a163)) := ⟨a163, n163, rfl⟩
    have f8_21 := (mo_st_f st21 (show 8 ≠ 25 by decide)).trans f8_20
    have t8_21 := mo_st_t st21 t8_20
    have f22_21 := (mo_st_f st21 (show 22 ≠ 25 by decide)).trans f22_20
    have t22_21 := mo_st_t st21 t22_20
    revert st21 f8_21 t8_21 f22_21 t22_21
    generalize zz_pR (zz_newA g20 90 15 a163) 7 25 r (some a163) = g21
    intro st21 f8_21 t8_21 f22_21 t22_21
    refine zz_aload_n (q := 169) (f := 0) (i := 0) C (by decide +kernel) rfl rfl rfl ?_
    refine zz_bipush (q := 171) (n := 15) (x := 15) C (by decide +kernel) rfl (by decide +kernel) ?_
    refine zz_newI (q := 173) (at9 := .int) (N := 15) C rfl an_a_I (by decide +kernel) (by decide) (by decide +kernel) rfl (by decide) (by decide) (fun a171 n171 => ?_)
    refine zz_putR (q := 176) C gf_M_76 (fun _ => ⟨hnm, fun _ _ _ h => by cases h; rfl⟩) (by decide +kernel) rfl (by first | rfl | assumption) ?_
    have st22 : mo_st g21 r 26 90 15 (zz_pR (zz_newA g21 90 15 a171) 7 26 r (some a171)) := ⟨a171, n171, rfl⟩
    have f8_22 := (mo_st_f st22 (show 8 ≠ 26 by decide)).trans f8_21
    have t8_22 := mo_st_t st22 t8_21
    have f22_22 := (mo_st_f st22 (show 22 ≠ 26 by decide)).trans f22_21
    have t22_22 := mo_st_t st22 t22_21
    revert st22 f8_22 t8_22 f22_22 t22_22
    generalize zz_pR (zz_newA g21 90 15 a171) 7 26 r (some a171) = g22
    intro st22 f8_22 t8_22 f22_22 t22_22
    refine zz_aload_n (q := 177) (f := 0) (i := 0) C (by decide +kernel) rfl rfl rfl ?_
    refine zz_iconst (q := 178) (n := 4) (x := 4) C (by decide +kernel) rfl (by decide +kernel) ?_
    refine zz_newI (q := 180) (at9 := .int) (N := 4) C rfl an_a_I (by decide +kernel) (by decide) (by decide +kernel) rfl (by decide) (by decide) (fun a178 n178 => ?_)
    refine zz_putR (q := 183) C gf_M_79 (fun _ => ⟨hnm, fun _ _ _ h => by cases h; rfl⟩) (by decide +kernel) rfl (by first | rfl | assumption) ?_
    have st23 : mo_st g22 r 27 90 4 (zz_pR (zz_newA g22 90 4 a178) 7 27 r (some a178)) := ⟨a178, n178, rfl⟩
    have f8_23 := (mo_st_f st23 (show 8 ≠ 27 by decide)).trans f8_22
    have t8_23 := mo_st_t st23 t8_22
    have f22_23 := (mo_st_f st23 (show 22 ≠ 27 by decide)).trans f22_22
    have t22_23 := mo_st_t st23 t22_22
    revert st23 f8_23 t8_23 f22_23 t22_23
    generalize zz_pR (zz_newA g22 90 4 a178) 7 27 r (some a178) = g23
    intro st23 f8_23 t8_23 f22_23 t22_23
    refine zz_aload_n (q := 184) (f := 0) (i := 0) C (by decide +kernel) rfl rfl rfl ?_
    refine zz_iconst (q := 185) (n := -1) (x := (-1)) C (by decide +kernel) rfl (by decide +kernel) ?_
    refine zz_putI (q := 188) C gf_M_82 (fun h => by cases h) (fun h => by cases h) (by decide +kernel) rfl (by first | rfl | assumption) ?_
    obtain ⟨g24, e24⟩ : ∃ g9, g9 = zz_pI g23 7 30 r (-1) := ⟨_, rfl⟩
    rw [← e24]
    have f8_24 : zz_fR g24 7 8 r = some a63 := by rw [e24]; exact f8_23
    have t8_24 : zz_tg g24 a63 = some (90, 8) := by rw [e24]; exact t8_23
    have f22_24 : zz_fR g24 7 22 r = some a140 := by rw [e24]; exact f22_23
    have t22_24 : zz_tg g24 a140 = some (90, 5) := by rw [e24]; exact t22_23
    refine zz_aload_n (q := 189) (f := 0) (i := 0) C (by decide +kernel) rfl rfl rfl ?_
    refine zz_iconst (q := 190) (n := -1) (x := (-1)) C (by decide +kernel) rfl (by decide +kernel) ?_
    refine zz_putI (q := 193) C gf_M_85 (fun h => by cases h) (fun h => by cases h) (by decide +kernel) rfl (by first | rfl | assumption) ?_
    obtain ⟨g25, e25⟩ : ∃ g9, g9 = zz_pI g24 7 31 r (-1) := ⟨_, rfl⟩
    rw [← e25]
    have f8_25 : zz_fR g25 7 8 r = some a63 := by rw [e25]; exact f8_24
    have t8_25 : zz_tg g25 a63 = some (90, 8) := by rw [e25]; exact t8_24
    have f22_25 : zz_fR g25 7 22 r = some a140 := by rw [e25]; exact f22_24
    have t22_25 : zz_tg g25 a140 = some (90, 5) := by rw [e25]; exact t22_24
    refine zz_iconst (q := 194) (n := 0) (x := 0) C (by decide +kernel) rfl (by decide +kernel) ?_
    refine zz_istore_n (q := 195) (f := 1) (i := 1) C (by decide +kernel) rfl rfl (by decide) rfl ?_
    have l9 := lp195 g25 a63 a140 f8_25 t8_25 f22_25 t22_25 (hp g1 g2 g3 g4 g5 g6 g7 g8 g9 g10 g11 g12 g13 g14 g15 g16 g17 g18 g19 g20 g21 g22 g23 g24 g25 _ _ st1 st2 st3 st4 st5 st6 st7 st8 e9 st10 st11 st12 st13 st14 st15 st16 st17 st18 st19 st20 st21 st22 st23 e24 e25 f8_25 f22_25 hne) 9 0 (by omega) (by omega)
    rw [mo_fl_0] at l9
    exact l9

/-! constructors -/
def L_nw (h : zz_H) (a w0 w1 w2 : Nat) : zz_H := zz_pR (zz_newA (zz_pR (zz_newA (zz_pR (zz_newA h 90 3 w0) 3 2 a (some w0)) 90 3 w1) 3 3 a (some w1)) 90 3 w2) 3 4 a (some w2)
def L_fr (h : zz_H) (w0 w1 w2 : Nat) : Prop := zz_tg h w0 = none ∧ zz_tg (zz_newA h 90 3 w0) w1 = none ∧ zz_tg (zz_newA (zz_newA h 90 3 w0) 90 3 w1) w2 = none
def T_L_init : zz_Tr := fun as h post => ∃ a, as = [zz_r 3 (some a)] ∧ ∀ w0 w1 w2, L_fr h w0 w1 w2 → post none (L_nw h a w0 w1 w2)
set_option maxRecDepth 100000 in
set_option maxHeartbeats 4000000 in
theorem m_L_init (l : Launch) : zz_Met l y_L_init w_L_init { frames := 1, cells := 3, slots := 9, locals := 12 } T_L_init := by
  refine zz_ofZ (by decide) (fun as h post hT => ?_) ?_
  · obtain ⟨a, rfl, hp⟩ := hT
    exact ⟨by simp [zz_cat], by simp⟩
  · intro D DA h as post hT p e s m args below meth c Q C hr hlk hnm hQ
    obtain ⟨a, rfl, hp⟩ := hT
    refine zz_aload_n (q := 1) (f := 0) (i := 0) C (by decide +kernel) rfl rfl rfl ?_
    refine zz_objInit (q := 4) C ol_L_3 zw_oi zw_oc (by decide +kernel) rfl (by first | rfl | assumption) (by decide) (by decide) ?_
    refine zz_aload_n (q := 5) (f := 0) (i := 0) C (by decide +kernel) rfl rfl rfl ?_
    refine zz_iconst (q := 6) (n := 3) (x := 3) C (by decide +kernel) rfl (by decide +kernel) ?_
    refine zz_newI (q := 8) (at9 := .int) (N := 3) C rfl an_a_I (by decide +kernel) (by decide) (by decide +kernel) rfl (by decide) (by decide) (fun a6 n6 => ?_)
    refine zz_putR (q := 11) C gf_L_9 (fun _ => ⟨hnm, fun _ _ _ h => by cases h; rfl⟩) (by decide +kernel) rfl (by first | rfl | assumption) ?_
    refine zz_aload_n (q := 12) (f := 0) (i := 0) C (by decide +kernel) rfl rfl rfl ?_
    refine zz_iconst (q := 13) (n := 3) (x := 3) C (by decide +kernel) rfl (by decide +kernel) ?_
    refine zz_newI (q := 15) (at9 := .int) (N := 3) C rfl an_a_I (by decide +kernel) (by decide) (by decide +kernel) rfl (by decide) (by decide) (fun a13 n13 => ?_)
    refine zz_putR (q := 18) C gf_L_15 (fun _ => ⟨hnm, fun _ _ _ h => by cases h; rfl⟩) (by decide +kernel) rfl (by first | rfl | assumption) ?_
    refine zz_aload_n (q := 19) (f := 0) (i := 0) C (by decide +kernel) rfl rfl rfl ?_
    refine zz_iconst (q := 20) (n := 3) (x := 3) C (by decide +kernel) rfl (by decide +kernel) ?_
    refine zz_newI (q := 22) (at9 := .int) (N := 3) C rfl an_a_I (by decide +kernel) (by decide) (by decide +kernel) rfl (by decide) (by decide) (fun a20 n20 => ?_)
    refine zz_putR (q := 25) C gf_L_18 (fun _ => ⟨hnm, fun _ _ _ h => by cases h; rfl⟩) (by decide +kernel) rfl (by first | rfl | assumption) ?_
    refine zz_vret C hr hlk (by decide +kernel) hQ (by decide) (by decide) ?_
    exact hp a6 a13 a20 ⟨n6, n13, n20⟩

/-- one more level of a path -/
def P_st (h : zz_H) (b i : Nat) (h2 : zz_H) : Prop := ∃ a w0 w1 w2, zz_tg h a = none ∧ L_fr (zz_new h 3 a) w0 w1 w2 ∧ h2 = zz_sR (L_nw (zz_new h 3 a) a w0 w1 w2) b i (some a)
theorem zz_tg_ne {h : zz_H} {b w : Nat} {t : Nat × Nat} (ht : zz_tg h b = some t) (hw : zz_tg h w = none) : b ≠ w := fun z => by rw [z, hw] at ht; cases ht
theorem zz_tg_old {h : zz_H} {b w ty n : Nat} {t : Nat × Nat} (ht : zz_tg h b = some t) (hw : zz_tg h w = none) : zz_tg (zz_newA h ty n w) b = some t := by
  rw [zz_tg_newA, if_neg (zz_tg_ne ht hw)]; exact ht
theorem zz_tg_oldO {h : zz_H} {b w ci : Nat} {t : Nat × Nat} (ht : zz_tg h b = some t) (hw : zz_tg h w = none) : zz_tg (zz_new h ci w) b = some t := by
  rw [zz_tg_new, if_neg (zz_tg_ne ht hw)]; exact ht
theorem L_nw_t {h : zz_H} {a w0 w1 w2 b : Nat} {t : Nat × Nat} (hf : L_fr h w0 w1 w2) (ht : zz_tg h b = some t) : zz_tg (L_nw h a w0 w1 w2) b = some t :=
  zz_tg_old (h := zz_pR (zz_newA (zz_pR (zz_newA h 90 3 w0) 3 2 a (some w0)) 90 3 w1) 3 3 a (some w1)) (zz_tg_old (h := zz_pR (zz_newA h 90 3 w0) 3 2 a (some w0)) (zz_tg_old ht hf.1) hf.2.1) hf.2.2
theorem P_st_t {h h2 : zz_H} {b i c : Nat} {t : Nat × Nat} (hs : P_st h b i h2) (ht : zz_tg h c = some t) : zz_tg h2 c = some t := by
  obtain ⟨a, w0, w1, w2, h1, h2, rfl⟩ := hs
  exact L_nw_t h2 (zz_tg_oldO ht h1)
theorem P_st_f {h h2 : zz_H} {b i : Nat} (hs : P_st h b i h2) : zz_fR h2 4 = zz_fR h 4 := by
  obtain ⟨a, w0, w1, w2, h1, h2, rfl⟩ := hs
  funext j c
  rfl
def T_P_init : zz_Tr := fun as h post => ∃ a, as = [zz_r 4 (some a)] ∧ ∀ b h1 h2 h3 h4, zz_tg h b = none → P_st (zz_pR (zz_newA h 103 4 b) 4 0 a (some b)) b 0 h1 → P_st h1 b 1 h2 → P_st h2 b 2 h3 → P_st h3 b 3 h4 → post none h4
set_option maxRecDepth 100000 in
set_option maxHeartbeats 4000000 in
theorem m_P_init (l : Launch) : zz_Met l y_P_init w_P_init { frames := 2, cells := 17, slots := 60, locals := 32 } T_P_init := by
  refine zz_ofZ (by decide) (fun as h post hT => ?_) ?_
  · obtain ⟨a, rfl, hp⟩ := hT
    exact ⟨by simp [zz_cat], by simp⟩
  · intro D DA h as post hT p e s m args below meth c Q C hr hlk hnm hQ
    obtain ⟨a, rfl, hp⟩ := hT
    refine zz_aload_n (q := 1) (f := 0) (i := 0) C (by decide +kernel) rfl rfl rfl ?_
    refine zz_objInit (q := 4) C ol_P_3 zw_oi zw_oc (by decide +kernel) rfl (by first | rfl | assumption) (by decide) (by decide) ?_
    refine zz_aload_n (q := 5) (f := 0) (i := 0) C (by decide +kernel) rfl rfl rfl ?_
    refine zz_iconst (q := 6) (n := 4) (x := 4) C (by decide +kernel) rfl (by decide +kernel) ?_
    refine zz_newR (q := 9) (ci := 3) (N := 4) C 5 rfl kl_P_9 an_o_objectSegmentTreesPathLevel (by decide +kernel) (by decide) (by decide +kernel) rfl (by decide) (by decide) (fun a6 n6 => ?_)
    refine zz_putR (q := 12) C gf_P_11 (fun _ => ⟨hnm, fun _ _ _ h => by cases h; rfl⟩) (by decide +kernel) rfl (by first | rfl | assumption) ?_
    refine zz_iconst (q := 13) (n := 0) (x := 0) C (by decide +kernel) rfl (by decide +kernel) ?_
    refine zz_istore_n (q := 14) (f := 1) (i := 1) C (by decide +kernel) rfl rfl (by decide) rfl ?_
    have t0 : zz_tg (zz_pR (zz_newA h 103 4 a6) 4 0 a (some a6)) a6 = some (103, 4) := if_pos rfl
    have f0 : zz_fR (zz_pR (zz_newA h 103 4 a6) 4 0 a (some a6)) 4 0 a = some a6 := if_pos ⟨rfl, rfl, rfl⟩
    revert t0 f0
    have hp0 := fun h1 h2 h3 h4 => hp a6 h1 h2 h3 h4 n6
    revert hp0
    generalize zz_pR (zz_newA h 103 4 a6) 4 0 a (some a6) = g0
    intro hp0 t0 f0
    refine zz_iload_n (q := 15) (f := 1) (i := 1) C (by decide +kernel) rfl rfl rfl ?_
    refine zz_iconst (q := 16) (n := 4) (x := 4) C (by decide +kernel) rfl (by decide +kernel) ?_
    refine zz_icmp_ge (off := 22) (tgt := 38) (q := 19) C (by decide +kernel) (by decide) rfl (fun c16 => absurd c16 (by decide)) (fun c16 => ?_)
    refine zz_aload_n (q := 20) (f := 0) (i := 0) C (by decide +kernel) rfl rfl rfl ?_
    refine zz_getR (q := 23) C gf_P_11 (by decide +kernel) rfl (by first | rfl | assumption) f0 ?_
    refine zz_iload_n (q := 24) (f := 1) (i := 1) C (by decide +kernel) rfl rfl rfl ?_
    refine zz_newO (q := 27) (ci := 3) C rfl kl_P_9 ni_L nj_L (by decide +kernel) rfl (by decide) (by decide) (fun a24 n24 => ?_)
    refine zz_dup (q := 28) C (by decide +kernel) rfl rfl ?_
    refine zz_callN (q := 31) C (m_L_init l) cn_P_17 (by decide +kernel) rfl rfl rfl (by first | rfl | assumption) (by decide) (by decide) (Nat.le_of_ble_eq_true rfl) ⟨_, rfl, fun w0 w1 w2 hfr => ?_⟩
    refine zz_aastore (q := 32) C (ci := 3) 5 rfl rfl (by decide +kernel) rfl rfl (L_nw_t hfr (zz_tg_oldO t0 n24)) (j := 0) (by decide) (by decide) (by decide) ?_
    refine zz_iinc (q := 35) (i := 1) (n := 1) C (by decide +kernel) rfl rfl (y := 1) (by decide) (by decide) rfl ?_
    have st0 : P_st g0 a6 0 (zz_sR (L_nw (zz_new g0 3 a24) a24 w0 w1 w2) a6 0 (some a24)) := ⟨a24, w0, w1, w2, n24, hfr, rfl⟩
    have t1 := P_st_t st0 t0
    have f1 := (congrFun (congrFun (P_st_f st0) 0) a).trans f0
    revert st0 t1 f1
    generalize zz_sR (L_nw (zz_new g0 3 a24) a24 w0 w1 w2) a6 0 (some a24) = g1
    intro st0 t1 f1
    refine zz_goto (off := -21) (tgt := 14) C (by decide +kernel) (by decide) ?_
    refine zz_iload_n (q := 15) (f := 1) (i := 1) C (by decide +kernel) rfl rfl rfl ?_
    refine zz_iconst (q := 16) (n := 4) (x := 4) C (by decide +kernel) rfl (by decide +kernel) ?_
    refine zz_icmp_ge (off := 22) (tgt := 38) (q := 19) C (by decide +kernel) (by decide) rfl (fun c16 => absurd c16 (by decide)) (fun c16 => ?_)
    refine zz_aload_n (q := 20) (f := 0) (i := 0) C (by decide +kernel) rfl rfl rfl ?_
    refine zz_getR (q := 23) C gf_P_11 (by decide +kernel) rfl (by first | rfl | assumption) f1 ?_
    refine zz_iload_n (q := 24) (f := 1) (i := 1) C (by decide +kernel) rfl rfl rfl ?_
    refine zz_newO (q := 27) (ci := 3) C rfl kl_P_9 ni_L nj_L (by decide +kernel) rfl (by decide) (by decide) (fun a24 n24 => ?_)
    refine zz_dup (q := 28) C (by decide +kernel) rfl rfl ?_
    refine zz_callN (q := 31) C (m_L_init l) cn_P_17 (by decide +kernel) rfl rfl rfl (by first | rfl | assumption) (by decide) (by decide) (Nat.le_of_ble_eq_true rfl) ⟨_, rfl, fun w0 w1 w2 hfr => ?_⟩
    refine zz_aastore (q := 32) C (ci := 3) 5 rfl rfl (by decide +kernel) rfl rfl (L_nw_t hfr (zz_tg_oldO t1 n24)) (j := 1) (by decide) (by decide) (by decide) ?_
    refine zz_iinc (q := 35) (i := 1) (n := 1) C (by decide +kernel) rfl rfl (y := 2) (by decide) (by decide) rfl ?_
    have st1 : P_st g1 a6 1 (zz_sR (L_nw (zz_new g1 3 a24) a24 w0 w1 w2) a6 1 (some a24)) := ⟨a24, w0, w1, w2, n24, hfr, rfl⟩
    have t2 := P_st_t st1 t1
    have f2 := (congrFun (congrFun (P_st_f st1) 0) a).trans f1
    revert st1 t2 f2
    generalize zz_sR (L_nw (zz_new g1 3 a24) a24 w0 w1 w2) a6 1 (some a24) = g2
    intro st1 t2 f2
    refine zz_goto (off := -21) (tgt := 14) C (by decide +kernel) (by decide) ?_
    refine zz_iload_n (q := 15) (f := 1) (i := 1) C (by decide +kernel) rfl rfl rfl ?_
    refine zz_iconst (q := 16) (n := 4) (x := 4) C (by decide +kernel) rfl (by decide +kernel) ?_
    refine zz_icmp_ge (off := 22) (tgt := 38) (q := 19) C (by decide +kernel) (by decide) rfl (fun c16 => absurd c16 (by decide)) (fun c16 => ?_)
    refine zz_aload_n (q := 20) (f := 0) (i := 0) C (by decide +kernel) rfl rfl rfl ?_
    refine zz_getR (q := 23) C gf_P_11 (by decide +kernel) rfl (by first | rfl | assumption) f2 ?_
    refine zz_iload_n (q := 24) (f := 1) (i := 1) C (by decide +kernel) rfl rfl rfl ?_
    refine zz_newO (q := 27) (ci := 3) C rfl kl_P_9 ni_L nj_L (by decide +kernel) rfl (by decide) (by decide) (fun a24 n24 => ?_)
    refine zz_dup (q := 28) C (by decide +kernel) rfl rfl ?_
    refine zz_callN (q := 31) C (m_L_init l) cn_P_17 (by decide +kernel) rfl rfl rfl (by first | rfl | assumption) (by decide) (by decide) (Nat.le_of_ble_eq_true rfl) ⟨_, rfl, fun w0 w1 w2 hfr => ?_⟩
    refine zz_aastore (q := 32) C (ci := 3) 5 rfl rfl (by decide +kernel) rfl rfl (L_nw_t hfr (zz_tg_oldO t2 n24)) (j := 2) (by decide) (by decide) (by decide) ?_
    refine zz_iinc (q := 35) (i := 1) (n := 1) C (by decide +kernel) rfl rfl (y := 3) (by decide) (by decide) rfl ?_
    have st2 : P_st g2 a6 2 (zz_sR (L_nw (zz_new g2 3 a24) a24 w0 w1 w2) a6 2 (some a24)) := ⟨a24, w0, w1, w2, n24, hfr, rfl⟩
    have t3 := P_st_t st2 t2
    have f3 := (congrFun (congrFun (P_st_f st2) 0) a).trans f2
    revert st2 t3 f3
    generalize zz_sR (L_nw (zz_new g2 3 a24) a24 w0 w1 w2) a6 2 (some a24) = g3
    intro st2 t3 f3
    refine zz_goto (off := -21) (tgt := 14) C (by decide +kernel) (by decide) ?_
    refine zz_iload_n (q := 15) (f := 1) (i := 1) C (by decide +kernel) rfl rfl rfl ?_
    refine zz_iconst (q := 16) (n := 4) (x := 4) C (by decide +kernel) rfl (by decide +kernel) ?_
    refine zz_icmp_ge (off := 22) (tgt := 38) (q := 19) C (by decide +kernel) (by decide) rfl (fun c16 => absurd c16 (by decide)) (fun c16 => ?_)
    refine zz_aload_n (q := 20) (f := 0) (i := 0) C (by decide +kernel) rfl rfl rfl ?_
    refine zz_getR (q := 23) C gf_P_11 (by decide +kernel) rfl (by first | rfl | assumption) f3 ?_
    refine zz_iload_n (q := 24) (f := 1) (i := 1) C (by decide +kernel) rfl rfl rfl ?_
    refine zz_newO (q := 27) (ci := 3) C rfl kl_P_9 ni_L nj_L (by decide +kernel) rfl (by decide) (by decide) (fun a24 n24 => ?_)
    refine zz_dup (q := 28) C (by decide +kernel) rfl rfl ?_
    refine zz_callN (q := 31) C (m_L_init l) cn_P_17 (by decide +kernel) rfl rfl rfl (by first | rfl | assumption) (by decide) (by decide) (Nat.le_of_ble_eq_true rfl) ⟨_, rfl, fun w0 w1 w2 hfr => ?_⟩
    refine zz_aastore (q := 32) C (ci := 3) 5 rfl rfl (by decide +kernel) rfl rfl (L_nw_t hfr (zz_tg_oldO t3 n24)) (j := 3) (by decide) (by decide) (by decide) ?_
    refine zz_iinc (q := 35) (i := 1) (n := 1) C (by decide +kernel) rfl rfl (y := 4) (by decide) (by decide) rfl ?_
    have st3 : P_st g3 a6 3 (zz_sR (L_nw (zz_new g3 3 a24) a24 w0 w1 w2) a6 3 (some a24)) := ⟨a24, w0, w1, w2, n24, hfr, rfl⟩
    have t4 := P_st_t st3 t3
    have f4 := (congrFun (congrFun (P_st_f st3) 0) a).trans f3
    revert st3 t4 f4
    generalize zz_sR (L_nw (zz_new g3 3 a24) a24 w0 w1 w2) a6 3 (some a24) = g4
    intro st3 t4 f4
    refine zz_goto (off := -21) (tgt := 14) C (by decide +kernel) (by decide) ?_
    refine zz_iload_n (q := 15) (f := 1) (i := 1) C (by decide +kernel) rfl rfl rfl ?_
    refine zz_iconst (q := 16) (n := 4) (x := 4) C (by decide +kernel) rfl (by decide +kernel) ?_
    refine zz_icmp_ge (off := 22) (tgt := 38) (q := 19) C (by decide +kernel) (by decide) rfl (fun c16 => ?_) (fun c16 => absurd (by decide) c16)
    refine zz_vret C hr hlk (by decide +kernel) hQ (by decide) (by decide) ?_
    exact hp0 _ _ _ _ st0 st1 st2 st3

def O_nw (h : zz_H) (a b n : Nat) : zz_H := zz_pR (zz_newA (zz_pR (zz_newA h 102 60 b) 5 0 a (some b)) 102 60 n) 5 1 a (some n)
def T_O_init : zz_Tr := fun as h post => ∃ a, as = [zz_r 5 (some a)] ∧ ∀ b n, zz_tg h b = none → zz_tg (zz_newA h 102 60 b) n = none → post none (O_nw h a b n)
set_option maxRecDepth 100000 in
set_option maxHeartbeats 4000000 in
theorem m_O_init (l : Launch) : zz_Met l y_O_init w_O_init { frames := 1, cells := 2, slots := 120, locals := 12 } T_O_init := by
  refine zz_ofZ (by decide) (fun as h post hT => ?_) ?_
  · obtain ⟨a, rfl, hp⟩ := hT
    exact ⟨by simp [zz_cat], by simp⟩
  · intro D DA h as post hT p e s m args below meth c Q C hr hlk hnm hQ
    obtain ⟨a, rfl, hp⟩ := hT
    refine zz_aload_n (q := 1) (f := 0) (i := 0) C (by decide +kernel) rfl rfl rfl ?_
    refine zz_objInit (q := 4) C ol_O_3 zw_oi zw_oc (by decide +kernel) rfl (by first | rfl | assumption) (by decide) (by decide) ?_
    refine zz_aload_n (q := 5) (f := 0) (i := 0) C (by decide +kernel) rfl rfl rfl ?_
    refine zz_bipush (q := 7) (n := 60) (x := 60) C (by decide +kernel) rfl (by decide +kernel) ?_
    refine zz_newR (q := 10) (ci := 2) (N := 60) C 4 rfl kl_O_9 an_o_objectSegmentTreesSegment (by decide +kernel) (by decide) (by decide +kernel) rfl (by decide) (by decide) (fun a7 n7 => ?_)
    refine zz_putR (q := 13) C gf_O_11 (fun _ => ⟨hnm, fun _ _ _ h => by cases h; rfl⟩) (by decide +kernel) rfl (by first | rfl | assumption) ?_
    refine zz_aload_n (q := 14) (f := 0) (i := 0) C (by decide +kernel) rfl rfl rfl ?_
    refine zz_bipush (q := 16) (n := 60) (x := 60) C (by decide +kernel) rfl (by decide +kernel) ?_
    refine zz_newR (q := 19) (ci := 2) (N := 60) C 4 rfl kl_O_9 an_o_objectSegmentTreesSegment (by decide +kernel) (by decide) (by decide +kernel) rfl (by decide) (by decide) (fun a16 n16 => ?_)
    refine zz_putR (q := 22) C gf_O_17 (fun _ => ⟨hnm, fun _ _ _ h => by cases h; rfl⟩) (by decide +kernel) rfl (by first | rfl | assumption) ?_
    refine zz_vret C hr hlk (by decide +kernel) hQ (by decide) (by decide) ?_
    exact hp a7 a16 n7 n16

def T_Q_init : zz_Tr := fun as h post => ∃ a, as = [zz_r 6 (some a)] ∧ post none h
set_option maxRecDepth 100000 in
set_option maxHeartbeats 4000000 in
theorem m_Q_init (l : Launch) : zz_Met l y_Q_init w_Q_init { frames := 1, cells := 0, slots := 0, locals := 12 } T_Q_init := by
  refine zz_ofZ (by decide) (fun as h post hT => ?_) ?_
  · obtain ⟨a, rfl, hp⟩ := hT
    exact ⟨by simp [zz_cat], by simp⟩
  · intro D DA h as post hT p e s m args below meth c Q C hr hlk hnm hQ
    obtain ⟨a, rfl, hp⟩ := hT
    refine zz_aload_n (q := 1) (f := 0) (i := 0) C (by decide +kernel) rfl rfl rfl ?_
    refine zz_objInit (q := 4) C ol_Q_1 zw_oi zw_oc (by decide +kernel) rfl (by first | rfl | assumption) (by decide) (by decide) ?_
    refine zz_vret C hr hlk (by decide +kernel) hQ (by decide) (by decide) ?_
    exact hp

def T_n1 (h : zz_H) (a k w p : Nat) : zz_H := zz_new (zz_pR (zz_newA (zz_pR (zz_newA h 101 8 k) 0 0 a (some k)) 90 4 w) 0 1 a (some w)) 4 p
def T_nw (h : zz_H) (a : Nat) (h9 : zz_H) : Prop := ∃ k w p b h1 h2 h3 h4 od ob on ps, zz_tg h k = none ∧ zz_tg (zz_newA h 101 8 k) w = none ∧ zz_tg (zz_newA (zz_newA h 101 8 k) 90 4 w) p = none ∧ zz_tg (T_n1 h a k w p) b = none ∧ P_st (zz_pR (zz_newA (T_n1 h a k w p) 103 4 b) 4 0 p (some b)) b 0 h1 ∧ P_st h1 b 1 h2 ∧ P_st h2 b 2 h3 ∧ P_st h3 b 3 h4 ∧ zz_tg h4 od = none ∧ zz_tg (zz_new h4 5 od) ob = none ∧ zz_tg (zz_newA (zz_new h4 5 od) 102 60 ob) on = none ∧ zz_tg (O_nw (zz_new (zz_pR h4 0 2 a (some p)) 5 od) od ob on) ps = none ∧ h9 = zz_pR (zz_new (zz_pR (O_nw (zz_new (zz_pR h4 0 2 a (some p)) 5 od) od ob on) 0 3 a (some od)) 6 ps) 0 4 a (some ps)
def T_T_init : zz_Tr := fun as h post => ∃ a, as = [zz_r 0 (some a)] ∧ ∀ h9, T_nw h a h9 → post none h9
set_option maxRecDepth 100000 in
set_option maxHeartbeats 4000000 in
theorem m_T_init (l : Launch) : zz_Met l y_T_init w_T_init { frames := 3, cells := 24, slots := 202, locals := 53 } T_T_init := by
  refine zz_ofZ (by decide) (fun as h post hT => ?_) ?_
  · obtain ⟨a, rfl, hp⟩ := hT
    exact ⟨by simp [zz_cat], by simp⟩
  · intro D DA h as post hT p e s m args below meth c Q C hr hlk hnm hQ
    obtain ⟨a, rfl, hp⟩ := hT
    refine zz_aload_n (q := 1) (f := 0) (i := 0) C (by decide +kernel) rfl rfl rfl ?_
    refine zz_objInit (q := 4) C ol_T_1 zw_oi zw_oc (by decide +kernel) rfl (by first | rfl | assumption) (by decide) (by decide) ?_
    refine zz_aload_n (q := 5) (f := 0) (i := 0) C (by decide +kernel) rfl rfl rfl ?_
    refine zz_bipush (q := 7) (n := 8) (x := 8) C (by decide +kernel) rfl (by decide +kernel) ?_
    refine zz_newR (q := 10) (ci := 1) (N := 8) C 3 rfl kl_T_9 an_o_objectSegmentTreesKind (by decide +kernel) (by decide) (by decide +kernel) rfl (by decide) (by decide) (fun a7 n7 => ?_)
    refine zz_putR (q := 13) C gf_T_11 (fun _ => ⟨hnm, fun _ _ _ h => by cases h; rfl⟩) (by decide +kernel) rfl (by first | rfl | assumption) ?_
    refine zz_aload_n (q := 14) (f := 0) (i := 0) C (by decide +kernel) rfl rfl rfl ?_
    refine zz_iconst (q := 15) (n := 4) (x := 4) C (by decide +kernel) rfl (by decide +kernel) ?_
    refine zz_newI (q := 17) (at9 := .int) (N := 4) C rfl an_a_I (by decide +kernel) (by decide) (by decide +kernel) rfl (by decide) (by decide) (fun a15 n15 => ?_)
    refine zz_putR (q := 20) C gf_T_15 (fun _ => ⟨hnm, fun _ _ _ h => by cases h; rfl⟩) (by decide +kernel) rfl (by first | rfl | assumption) ?_
    refine zz_aload_n (q := 21) (f := 0) (i := 0) C (by decide +kernel) rfl rfl rfl ?_
    refine zz_newO (q := 24) (ci := 4) C rfl kl_T_19 ni_P nj_P (by decide +kernel) rfl (by decide) (by decide) (fun a21 n21 => ?_)
    refine zz_dup (q := 25) C (by decide +kernel) rfl rfl ?_
    refine zz_callI (q := 28) C (m_P_init l) ci_T_21 (by decide +kernel) rfl rfl rfl (by first | rfl | assumption) (by decide) (by decide) (Nat.le_of_ble_eq_true rfl) ⟨_, rfl, fun b h1 h2 h3 h4 hb s1 s2 s3 s4 => ?_⟩
    refine zz_putR (q := 31) C gf_T_22 (fun _ => ⟨hnm, fun _ _ _ h => by cases h; rfl⟩) (by decide +kernel) rfl (by first | rfl | assumption) ?_
    refine zz_aload_n (q := 32) (f := 0) (i := 0) C (by decide +kernel) rfl rfl rfl ?_
    refine zz_newO (q := 35) (ci := 5) C rfl kl_T_26 ni_O nj_O (by decide +kernel) rfl (by decide) (by decide) (fun a32 n32 => ?_)
    refine zz_dup (q := 36) C (by decide +kernel) rfl rfl ?_
    refine zz_callN (q := 39) C (m_O_init l) cn_T_28 (by decide +kernel) rfl rfl rfl (by first | rfl | assumption) (by decide) (by decide) (Nat.le_of_ble_eq_true rfl) ⟨_, rfl, fun ob on o1 o2 => ?_⟩
    refine zz_putR (q := 42) C gf_T_29 (fun _ => ⟨hnm, fun _ _ _ h => by cases h; rfl⟩) (by decide +kernel) rfl (by first | rfl | assumption) ?_
    refine zz_aload_n (q := 43) (f := 0) (i := 0) C (by decide +kernel) rfl rfl rfl ?_
    refine zz_newO (q := 46) (ci := 6) C rfl kl_T_33 ni_Q nj_Q (by decide +kernel) rfl (by decide) (by decide) (fun a43 n43 => ?_)
    refine zz_dup (q := 47) C (by decide +kernel) rfl rfl ?_
    refine zz_callN (q := 50) C (m_Q_init l) cn_T_35 (by decide +kernel) rfl rfl rfl (by first | rfl | assumption) (by decide) (by decide) (Nat.le_of_ble_eq_true rfl) ⟨_, rfl, ?_⟩
    refine zz_putR (q := 53) C gf_T_36 (fun _ => ⟨hnm, fun _ _ _ h => by cases h; rfl⟩) (by decide +kernel) rfl (by first | rfl | assumption) ?_
    refine zz_vret C hr hlk (by decide +kernel) hQ (by decide) (by decide) ?_
    exact hp _ ⟨a7, a15, a21, b, h1, h2, h3, h4, a32, ob, on, a43, n7, n15, n21, hb, s1, s2, s3, s4, n32, o1, o2, n43, rfl⟩

/-! Order: the values by the second order -/
def or_ry (h : zz_H) (y : Nat → Nat → Nat → Int32) : zz_H := (h.1, y, h.2.2.1, h.2.2.2.1, h.2.2.2.2.1, h.2.2.2.2.2)
/-- y is as before but for the values of segments -/
def or_vf (h : zz_H) (y : Nat → Nat → Nat → Int32) : Prop := (∀ c j b, ¬ (c = 2 ∧ (j = 5 ∨ j = 6)) → y c j b = zz_fI h c j b) ∧ ∀ b, y 2 5 b = 0 ∨ y 2 5 b = 1 ∨ y 2 5 b = zz_fI h 2 5 b
theorem or_vf_up {h : zz_H} {y : Nat → Nat → Nat → Int32} (hv : or_vf h y) (lv : Int32) : ∀ n a, sg_up (or_ry h y) lv n a = sg_up h lv n a
  | 0, a => rfl
  | n + 1, a => by
    have e : sg_lv (or_ry h y) a = sg_lv h a := hv.1 1 2 _ (by decide)
    rw [sg_up, sg_up, e]
    by_cases hl : sg_lv h a ≤ lv
    · rw [if_pos hl, if_pos hl]
    · rw [if_neg hl, if_neg hl]
      show (match zz_fR h 2 2 a with | none => a | some b => sg_up (or_ry h y) lv n b) = _
      cases zz_fR h 2 2 a with
      | none => rfl
      | some b => exact or_vf_up hv lv n b
theorem or_vf_lv {h : zz_H} {y : Nat → Nat → Nat → Int32} (hv : or_vf h y) (a : Nat) : sg_lv (or_ry h y) a = sg_lv h a := hv.1 1 2 _ (by decide)
theorem or_vf_at {h : zz_H} {y : Nat → Nat → Nat → Int32} (hv : or_vf h y) (lv : Int32) (a : Nat) : sg_at (or_ry h y) lv a = sg_at h lv a := by
  rw [sg_at, sg_at, or_vf_up hv, or_vf_lv hv]
theorem or_vf_wf {h : zz_H} {y : Nat → Nat → Nat → Int32} (hv : or_vf h y) (hw : sg_wf h) : sg_wf (or_ry h y) := fun a n ht => by
  obtain ⟨h1, h2, h3, h4⟩ := hw a n ht
  refine ⟨h1, h2, h3, ?_⟩
  show y 2 5 a = 0 ∨ y 2 5 a = 1
  rcases hv.2 a with h5 | h5 | h5
  · exact Or.inl h5
  · exact Or.inr h5
  · rw [h5]; exact h4
theorem or_vf_kw {h : zz_H} {y : Nat → Nat → Nat → Int32} (hv : or_vf h y) (hw : kd_wf h) : kd_wf (or_ry h y) := fun a n ht => by
  obtain ⟨h1, h2⟩ := hw a n ht
  have e1 : zz_fI (or_ry h y) 1 4 a = zz_fI h 1 4 a := hv.1 1 4 a (by decide)
  have e2 : zz_fI (or_ry h y) 1 3 a = zz_fI h 1 3 a := hv.1 1 3 a (by decide)
  exact ⟨by rw [e1]; exact h1, by rw [e2]; exact h2⟩
theorem or_vf_s {h : zz_H} {y : Nat → Nat → Nat → Int32} (hv : or_vf h y) (a : Nat) : or_s (or_ry h y) a = or_s h a := congrArg Int32.toNatClampNeg (hv.1 5 2 a (by decide))
theorem or_vf_ok {h : zz_H} {y : Nat → Nat → Nat → Int32} (hv : or_vf h y) {a : Nat} (hok : or_ok h a) : or_ok (or_ry h y) a := by
  have e : zz_fI (or_ry h y) 5 2 a = zz_fI h 5 2 a := hv.1 5 2 a (by decide)
  refine ⟨hok.1, hok.2.1, hok.2.2.1, hok.2.2.2.1, hok.2.2.2.2.1, ?_, ?_⟩
  · rw [or_vf_s hv]; exact hok.2.2.2.2.2.1
  · rw [or_vf_s hv, e]; exact hok.2.2.2.2.2.2
theorem or_vf_okB {h : zz_H} {y : Nat → Nat → Nat → Int32} (hv : or_vf h y) {a : Nat} (hok : or_okB h a) : or_okB (or_ry h y) a := ⟨or_vf_ok hv hok.1, fun i hi => hok.2 i (by rw [or_vf_s hv] at hi; exact hi)⟩
theorem or_vf_rt {h : zz_H} {y : Nat → Nat → Nat → Int32} : ∀ n k, kd_root (or_ry h y) n k = kd_root h n k
  | 0, _ => rfl
  | n + 1, k => by
    show (match zz_fR h 1 1 k with | none => k | some b => kd_root (or_ry h y) n b) = (match zz_fR h 1 1 k with | none => k | some b => kd_root h n b)
    cases zz_fR h 1 1 k with
    | none => rfl
    | some b => exact or_vf_rt n b
/-- the segment at j offers its word to b -/
def or_of (h : zz_H) (a j b : Nat) : Prop := zz_fR h 2 1 (or_B h a j) = zz_fR h 5 3 a ∧ sg_at h 1 (or_B h a j) = some b
def or_ow (h : zz_H) (a sw j : Nat) : Int32 := zz_aI h (sg_w h (or_B h a j)) sw
def or_vl (h : zz_H) (a sw i : Nat) (y : Nat → Nat → Nat → Int32) : Prop := or_vf h y ∧ ∀ p, p < or_s h a →
  ((∀ j, j < i → ¬ or_of h a j (or_B h a p)) → y 2 5 (or_B h a p) = 0) ∧
  (∀ j, j < i → or_of h a j (or_B h a p) → y 2 5 (or_B h a p) = 1 ∧ y 2 6 (or_B h a p) ≤ or_ow h a sw j) ∧
  (y 2 5 (or_B h a p) = 1 → ∃ j, j < i ∧ or_of h a j (or_B h a p) ∧ y 2 6 (or_B h a p) = or_ow h a sw j)
def or_y2 (y : Nat → Nat → Nat → Int32) (b : Nat) (u v : Int32) : Nat → Nat → Nat → Int32 := fun c j d => if c = 2 ∧ j = 6 ∧ d = b then v else if c = 2 ∧ j = 5 ∧ d = b then u else y c j d
theorem or_y2_5 (y : Nat → Nat → Nat → Int32) (b : Nat) (u v : Int32) (d : Nat) : or_y2 y b u v 2 5 d = if d = b then u else y 2 5 d := by
  rw [or_y2, if_neg (fun z => by have := z.2.1; omega)]
  by_cases hd : d = b
  · rw [if_pos ⟨rfl, rfl, hd⟩, if_pos hd]
  · rw [if_neg (fun z => hd z.2.2), if_neg hd]
theorem or_y2_6 (y : Nat → Nat → Nat → Int32) (b : Nat) (u v : Int32) (d : Nat) : or_y2 y b u v 2 6 d = if d = b then v else y 2 6 d := by
  rw [or_y2]
  by_cases hd : d = b
  · rw [if_pos ⟨rfl, rfl, hd⟩, if_pos hd]
  · rw [if_neg (fun z => hd z.2.2), if_neg (fun z => by have := z.2.1; omega), if_neg hd]
theorem or_vf_2 {h : zz_H} {y : Nat → Nat → Nat → Int32} (hv : or_vf h y) (b : Nat) {u : Int32} (hu : u = 0 ∨ u = 1) (v : Int32) : or_vf h (or_y2 y b u v) := by
  refine ⟨fun c j d hn => ?_, fun d => ?_⟩
  · rw [or_y2, if_neg (fun z => hn ⟨z.1, Or.inr z.2.1⟩), if_neg (fun z => hn ⟨z.1, Or.inl z.2.1⟩)]
    exact hv.1 c j d hn
  · rw [or_y2_5]
    split
    · rcases hu with h1 | h1
      · exact Or.inl h1
      · exact Or.inr (Or.inl h1)
    · exact hv.2 d
theorem or_ry_2 (h : zz_H) (y : Nat → Nat → Nat → Int32) (b : Nat) (u v : Int32) : zz_pI (zz_pI (or_ry h y) 2 5 b u) 2 6 b v = or_ry h (or_y2 y b u v) := rfl
theorem or_vl_no {h : zz_H} {a sw i : Nat} {y : Nat → Nat → Nat → Int32} (hv : or_vl h a sw i y) (hn : ∀ b, ¬ or_of h a i b) : or_vl h a sw (i + 1) y := by
  refine ⟨hv.1, fun p hp => ?_⟩
  obtain ⟨h1, h2, h3⟩ := hv.2 p hp
  refine ⟨fun hz => h1 (fun j hj => hz j (by omega)), fun j hj hz => ?_, fun hz => ?_⟩
  · rcases Nat.lt_succ_iff_lt_or_eq.mp hj with hj | rfl
    · exact h2 j hj hz
    · exact absurd hz (hn _)
  · obtain ⟨j, h4, h5⟩ := h3 hz
    exact ⟨j, by omega, h5⟩
theorem or_vl_off {h : zz_H} {a sw i b : Nat} {y : Nat → Nat → Nat → Int32} (hv : or_vl h a sw i y) (hb : or_of h a i b) : ∃ y', (if y 2 5 b = 0 ∨ or_ow h a sw i < y 2 6 b then or_ry h (or_y2 y b 1 (or_ow h a sw i)) else or_ry h y) = or_ry h y' ∧ or_vl h a sw (i + 1) y' := by
  by_cases hc : y 2 5 b = 0 ∨ or_ow h a sw i < y 2 6 b
  · refine ⟨or_y2 y b 1 (or_ow h a sw i), by rw [if_pos hc], or_vf_2 hv.1 b (Or.inr rfl) _, fun p hp => ?_⟩
    obtain ⟨h1, h2, h3⟩ := hv.2 p hp
    rw [or_y2_5, or_y2_6]
    by_cases hbp : or_B h a p = b
    · rw [if_pos hbp, if_pos hbp]
      refine ⟨fun hz => absurd (hbp ▸ hb) (hz i (by omega)), fun j hj hz => ⟨rfl, ?_⟩, fun _ => ⟨i, by omega, hbp ▸ hb, rfl⟩⟩
      rcases Nat.lt_succ_iff_lt_or_eq.mp hj with hj | rfl
      · obtain ⟨h4, h5⟩ := h2 j hj hz
        rw [hbp] at h4 h5
        rcases hc with hc | hc
        · rw [hc] at h4; exact absurd h4 (by decide)
        · exact Int32.le_trans (Int32.le_of_lt hc) h5
      · exact Int32.le_refl _
    · rw [if_neg hbp, if_neg hbp]
      refine ⟨fun hz => h1 (fun j hj => hz j (by omega)), fun j hj hz => ?_, fun hz => ?_⟩
      · rcases Nat.lt_succ_iff_lt_or_eq.mp hj with hj | rfl
        · exact h2 j hj hz
        · exact absurd (Option.some.inj (hz.2.symm.trans hb.2)) hbp
      · obtain ⟨j, h4, h5⟩ := h3 hz
        exact ⟨j, by omega, h5⟩
  · refine ⟨y, by rw [if_neg hc], hv.1, fun p hp => ?_⟩
    obtain ⟨h1, h2, h3⟩ := hv.2 p hp
    have hc1 : ¬ y 2 5 b = 0 := fun z => hc (Or.inl z)
    have hc2 : ¬ or_ow h a sw i < y 2 6 b := fun z => hc (Or.inr z)
    refine ⟨fun hz => h1 (fun j hj => hz j (by omega)), fun j hj hz => ?_, fun hz => ?_⟩
    · rcases Nat.lt_succ_iff_lt_or_eq.mp hj with hj | rfl
      · exact h2 j hj hz
      · have hbp : or_B h a p = b := Option.some.inj (hz.2.symm.trans hb.2)
        rw [hbp] at h1 h2 ⊢
        refine ⟨?_, Int32.not_lt.mp hc2⟩
        by_cases hex : ∃ i, i < j ∧ or_of h a i b
        · obtain ⟨i, h4, h5⟩ := hex
          exact (h2 i h4 h5).1
        · exact absurd (h1 (fun i h4 h5 => hex ⟨i, h4, h5⟩)) hc1
    · obtain ⟨j, h4, h5⟩ := h3 hz
      exact ⟨j, by omega, h5⟩
def T_O_findValues : zz_Tr := fun as h post => ∃ a sw, as = [zz_r 5 (some a)] ∧ sw < 4 ∧ zz_fI h 5 4 a = nI sw ∧ or_okB h a ∧ sg_wf h ∧ ∀ y, or_vl h a sw (or_s h a) y → post none (or_ry h y)
set_option maxRecDepth 100000 in
set_option maxHeartbeats 4000000 in
theorem m_O_findValues (l : Launch) : zz_Met l y_O_findValues w_O_findValues { frames := 2, cells := 0, slots := 0, locals := 35 } T_O_findValues := by
  refine zz_ofZ (by decide) (fun as h post hT => ?_) ?_
  · obtain ⟨a, sw, rfl, hsw, hse, hok, hwf, hp⟩ := hT
    exact ⟨by simp [zz_cat], by simp⟩
  · intro D DA h as post hT p e s m args below meth c Q C hr hlk hnm hQ
    obtain ⟨a, sw, rfl, hsw, hse, hok, hwf, hp⟩ := hT
    refine zz_know (fun hty _ hTL _ => ?_)
    have hb := hok.1.2.2.2.2.2.1
    have lp27 : ∀ n i, or_s h a + 1 ≤ n + i → i ≤ or_s h a → ∀ v8 v9 y, or_vl h a sw i y → zz_Z p l e { frames := 2, cells := 0, slots := 0, locals := 35 } s m args below meth c Q D DA (zz_A h s.heap.size) h 4 27 [some (zz_r 5 (some a)), some (zz_i (nI i)), v8, v9] [] (or_ry h y) 0 0 := by
      intro n
      induction n with
      | zero =>
        intro i hni hi
        exact absurd hni (by omega)
      | succ n ih =>
        intro i hni hile v8 v9 y hv
        refine zz_iload_n (q := 28) (f := 1) (i := 1) C (by decide +kernel) rfl rfl rfl ?_
        refine zz_aload_n (q := 29) (f := 0) (i := 0) C (by decide +kernel) rfl rfl rfl ?_
        refine zz_getI (q := 32) C gf_O_35 (by decide +kernel) rfl (by first | rfl | assumption) ((hv.1.1 5 2 a (by decide)).trans hok.1.2.2.2.2.2.2) ?_
        refine zz_icmp_ge (off := 50) (tgt := 82) (q := 35) C (by decide +kernel) (by decide) rfl (fun c32 => ?_) (fun c32 => ?_)
        · refine zz_vret C hr hlk (by decide +kernel) hQ (by decide) (by decide) ?_
          have he : i = or_s h a := by
            have := ((nI_leI (a := or_s h a) (b := i) (by omega) (by omega)).mp c32)
            omega
          exact hp y (he ▸ hv)
        · have hi : i < or_s h a := Nat.lt_of_not_le (fun z => c32 (nI_le z (by omega)))
          obtain ⟨ns, hts⟩ := or_tagB hty hok hi
          have hos := hwf _ ns hts
          refine zz_aload_n (q := 36) (f := 0) (i := 0) C (by decide +kernel) rfl rfl rfl ?_
          refine zz_getR (q := 39) C gf_O_11 (by decide +kernel) rfl (by first | rfl | assumption) hok.1.1 ?_
          refine zz_iload_n (q := 40) (f := 1) (i := 1) C (by decide +kernel) rfl rfl rfl ?_
          refine zz_aaload (q := 41) C 4 rfl (by decide) (by decide +kernel) rfl rfl hok.1.2.2.1 rfl (by have := hok.1.2.2.2.2.2.1; omega) (by decide) (hok.2 i hi) ?_
          refine zz_astore_n (q := 42) (f := 2) (i := 2) C (by decide +kernel) rfl rfl (by decide) rfl ?_
          refine zz_aload_n (q := 43) (f := 2) (i := 2) C (by decide +kernel) rfl rfl rfl ?_
          refine zz_iconst (q := 44) (n := 1) (x := 1) C (by decide +kernel) rfl (by decide +kernel) ?_
          refine zz_callV (q := 47) C (m_S_atLevel l) cv_O_112 (by decide +kernel) rfl rfl rfl (by first | rfl | assumption) (by decide) (by decide) (Nat.le_of_ble_eq_true rfl) ⟨_, _, rfl, or_vf_wf hv.1 hwf, ?_⟩
          rw [or_vf_at hv.1]
          refine zz_astore_n (q := 48) (f := 3) (i := 3) C (by decide +kernel) rfl rfl (by decide) rfl ?_
          refine zz_aload_n (q := 49) (f := 2) (i := 2) C (by decide +kernel) rfl rfl rfl ?_
          refine zz_getR (q := 52) C gf_O_50 (by decide +kernel) rfl (by first | rfl | assumption) rfl ?_
          refine zz_aload_n (q := 53) (f := 0) (i := 0) C (by decide +kernel) rfl rfl rfl ?_
          refine zz_getR (q := 56) C gf_O_20 (by decide +kernel) rfl (by first | rfl | assumption) rfl ?_
          refine zz_acmp_ne (off := 20) (tgt := 76) (q := 59) C (by decide +kernel) (by decide) rfl (fun c56 => ?_) (fun c56 => ?_)
          · refine zz_iinc (q := 79) (i := 1) (n := 1) C (by decide +kernel) rfl rfl (nI_succ _).symm (by decide) rfl ?_
            refine zz_goto (off := -52) (tgt := 27) C (by decide +kernel) (by decide) ?_
            -- AT 27
            first
              | exact ih (i + 1) (by omega) (by omega) _ _ _ hv9
              | exact ih (i + 1) (by omega) (by omega) _ _ _ (or_vl_no hv (fun b z => c56 z.1))
              | exact ih (i + 1) (by omega) (by omega) _ _ _ (or_vl_no hv (fun b z => absurd (z.2.symm.trans c60) (Option.some_ne_none _)))
          · refine zz_aload_n (q := 60) (f := 3) (i := 3) C (by decide +kernel) rfl rfl rfl ?_
            refine zz_ifnull (off := 16) (tgt := 76) (q := 63) C (by decide +kernel) (by decide) rfl (fun c60 => ?_) (fun a60 c60 => ?_)
            · refine zz_iinc (q := 79) (i := 1) (n := 1) C (by decide +kernel) rfl rfl (nI_succ _).symm (by decide) rfl ?_
              refine zz_goto (off := -52) (tgt := 27) C (by decide +kernel) (by decide) ?_
              -- AT 27
              first
                | exact ih (i + 1) (by omega) (by omega) _ _ _ hv9
                | exact ih (i + 1) (by omega) (by omega) _ _ _ (or_vl_no hv (fun b z => c56 z.1))
                | exact ih (i + 1) (by omega) (by omega) _ _ _ (or_vl_no hv (fun b z => absurd (z.2.symm.trans c60) (Option.some_ne_none _)))
            · refine zz_aload_n (q := 64) (f := 3) (i := 3) C (by decide +kernel) rfl rfl rfl ?_
              refine zz_aload_n (q := 65) (f := 2) (i := 2) C (by decide +kernel) rfl rfl rfl ?_
              refine zz_getR (q := 68) C gf_O_75 (by decide +kernel) rfl (by first | rfl | assumption) hos.2.1 ?_
              refine zz_aload_n (q := 69) (f := 0) (i := 0) C (by decide +kernel) rfl rfl rfl ?_
              refine zz_getI (q := 72) C gf_O_24 (by decide +kernel) rfl (by first | rfl | assumption) ((hv.1.1 5 4 a (by decide)).trans hse) ?_
              refine zz_iaload (q := 73) C (by decide +kernel) rfl rfl hos.2.2.1 rfl hsw (by decide) rfl ?_
              refine zz_callV (q := 76) C (m_S_offerValue l) cv_O_116 (by decide +kernel) rfl rfl rfl (by first | rfl | assumption) (by decide) (by decide) (Nat.le_of_ble_eq_true rfl) ⟨_, _, rfl, ?_⟩
              rw [or_ry_2]
              obtain ⟨y9, hy9, hv9⟩ := or_vl_off hv ⟨c56, c60⟩
              rw [show (if zz_fI (or_ry h y) 2 5 a60 = 0 ∨ zz_aI (or_ry h y) (sg_w h (or_B h a i)) sw < zz_fI (or_ry h y) 2 6 a60 then or_ry h (or_y2 y a60 1 (zz_aI (or_ry h y) (sg_w h (or_B h a i)) sw)) else or_ry h y) = or_ry h y9 from hy9]
              refine zz_iinc (q := 79) (i := 1) (n := 1) C (by decide +kernel) rfl rfl (nI_succ _).symm (by decide) rfl ?_
              refine zz_goto (off := -52) (tgt := 27) C (by decide +kernel) (by decide) ?_
              -- AT 27
              first
                | exact ih (i + 1) (by omega) (by omega) _ _ _ hv9
                | exact ih (i + 1) (by omega) (by omega) _ _ _ (or_vl_no hv (fun b z => c56 z.1))
                | exact ih (i + 1) (by omega) (by omega) _ _ _ (or_vl_no hv (fun b z => absurd (z.2.symm.trans c60) (Option.some_ne_none _)))
    have lp2 : ∀ n i, or_s h a + 1 ≤ n + i → i ≤ or_s h a → ∀ y, or_vf h y → (∀ j, j < i → y 2 5 (or_B h a j) = 0) → zz_Z p l e { frames := 2, cells := 0, slots := 0, locals := 35 } s m args below meth c Q D DA (zz_A h s.heap.size) h 4 2 [some (zz_r 5 (some a)), some (zz_i (nI i)), none, none] [] (or_ry h y) 0 0 := by
      intro n
      induction n with
      | zero =>
        intro i hni hi
        exact absurd hni (by omega)
      | succ n ih =>
        intro i hni hile y hv hall
        refine zz_iload_n (q := 3) (f := 1) (i := 1) C (by decide +kernel) rfl rfl rfl ?_
        refine zz_aload_n (q := 4) (f := 0) (i := 0) C (by decide +kernel) rfl rfl rfl ?_
        refine zz_getI (q := 7) C gf_O_35 (by decide +kernel) rfl (by first | rfl | assumption) ((hv.1 5 2 a (by decide)).trans hok.1.2.2.2.2.2.2) ?_
        refine zz_icmp_ge (off := 18) (tgt := 25) (q := 10) C (by decide +kernel) (by decide) rfl (fun c7 => ?_) (fun c7 => ?_)
        · refine zz_iconst (q := 26) (n := 0) (x := 0) C (by decide +kernel) rfl (by decide +kernel) ?_
          refine zz_istore_n (q := 27) (f := 1) (i := 1) C (by decide +kernel) rfl rfl (by decide) rfl ?_
          -- AT 27
          have he : i = or_s h a := by
            have := ((nI_leI (a := or_s h a) (b := i) (by omega) (by omega)).mp c7)
            omega
          exact lp27 (or_s h a + 1) 0 (by omega) (by omega) _ _ y ⟨hv, fun p hp9 => ⟨fun _ => hall p (he ▸ hp9), fun j hj => absurd hj (by omega), fun z => absurd ((hall p (he ▸ hp9)).symm.trans z) (by decide)⟩⟩
        · have hi : i < or_s h a := Nat.lt_of_not_le (fun z => c7 (nI_le z (by omega)))
          refine zz_aload_n (q := 11) (f := 0) (i := 0) C (by decide +kernel) rfl rfl rfl ?_
          refine zz_getR (q := 14) C gf_O_11 (by decide +kernel) rfl (by first | rfl | assumption) hok.1.1 ?_
          refine zz_iload_n (q := 15) (f := 1) (i := 1) C (by decide +kernel) rfl rfl rfl ?_
          refine zz_aaload (q := 16) C 4 rfl (by decide) (by decide +kernel) rfl rfl hok.1.2.2.1 rfl (by have := hok.1.2.2.2.2.2.1; omega) (by decide) (hok.2 i hi) ?_
          refine zz_callV (q := 19) C (m_S_clearValue l) cv_O_109 (by decide +kernel) rfl rfl rfl (by first | rfl | assumption) (by decide) (by decide) (Nat.le_of_ble_eq_true rfl) ⟨_, rfl, ?_⟩
          refine zz_iinc (q := 22) (i := 1) (n := 1) C (by decide +kernel) rfl rfl (nI_succ _).symm (by decide) rfl ?_
          refine zz_goto (off := -20) (tgt := 2) C (by decide +kernel) (by decide) ?_
          -- AT 2
          refine ih (i + 1) (by omega) (by omega) (or_y2 y (or_B h a i) 0 0) (or_vf_2 hv _ (Or.inl rfl) 0) (fun j hj => ?_)
          rw [or_y2_5]
          rcases Nat.lt_succ_iff_lt_or_eq.mp hj with hj | rfl
          · rw [hall j hj]; exact ite_self 0
          · exact if_pos rfl
    refine zz_iconst (q := 1) (n := 0) (x := 0) C (by decide +kernel) rfl (by decide +kernel) ?_
    refine zz_istore_n (q := 2) (f := 1) (i := 1) C (by decide +kernel) rfl rfl (by decide) rfl ?_
    -- AT 2
    exact lp2 (or_s h a + 1) 0 (by omega) (by omega) (zz_fI h) ⟨fun _ _ _ _ => rfl, fun b => Or.inr (Or.inr rfl)⟩ (fun j hj => absurd hj (by omega))

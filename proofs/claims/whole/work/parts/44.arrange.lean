/-! Order: the order there is now -/
def or_cy (h : zz_H) (a : Nat) : zz_H := zz_uR h (or_n h a) (fun j => if j < or_s h a then zz_aR h (or_b h a) j else zz_aR h (or_n h a) j)
theorem or_cy_b {h : zz_H} {a : Nat} (hok : or_ok h a) (j : Nat) : zz_aR (or_cy h a) (or_b h a) j = zz_aR h (or_b h a) j := by
  rw [or_cy, zz_aR_uR, if_neg hok.2.2.2.2.1]
theorem or_cy_B {h : zz_H} {a : Nat} (hok : or_ok h a) (j : Nat) : or_B (or_cy h a) a j = or_B h a j := congrArg (fun z => z.getD 0) (or_cy_b hok j)
theorem or_cy_okB {h : zz_H} {a : Nat} (hok : or_okB h a) : or_okB (or_cy h a) a := ⟨hok.1, fun i hi => by
  rw [or_cy_B hok.1]
  exact (or_cy_b hok.1 i).trans (hok.2 i hi)⟩
theorem or_cy_wf {h : zz_H} {a : Nat} (hw : sg_wf h) : sg_wf (or_cy h a) := hw
def or_arr (h : zz_H) (a : Nat) (h2 : zz_H) : Prop := ((zz_fI h 5 5 a = 0 ∨ zz_fR h 5 3 a = none) ∧ h2 = or_cy h a) ∨ (zz_fI h 5 5 a ≠ 0 ∧ ∃ k sw y to, zz_fR h 5 3 a = some k ∧ sw < 4 ∧ zz_fI h 5 4 a = nI sw ∧ or_vl (or_cy h a) a sw (or_s h a) y ∧ or_to (or_ry (or_cy h a) y) a (kd_root h 3 k) to ∧ or_AR a (kd_root h 3 k) (or_s h a) to (or_lr (or_ry (or_cy h a) y) a (kd_root h 3 k) none (or_s h a)) (or_ry (or_cy h a) y) h2)
def or_sw (h : zz_H) (a : Nat) : Prop := ∀ k, zz_fR h 5 3 a = some k → ∃ sw, sw < 4 ∧ zz_fI h 5 4 a = nI sw
def T_O_arrange : zz_Tr := fun as h post => ∃ a, as = [zz_r 5 (some a)] ∧ or_okB h a ∧ sg_wf h ∧ or_sw h a ∧ ∀ h2, or_arr h a h2 → post none h2
set_option maxRecDepth 100000 in
set_option maxHeartbeats 4000000 in
theorem m_O_arrange (l : Launch) : zz_Met l y_O_arrange w_O_arrange { frames := 5, cells := 0, slots := 0, locals := 105 } T_O_arrange := by
  refine zz_ofZ (by decide) (fun as h post hT => ?_) ?_
  · obtain ⟨a, rfl, hok, hwf, hsw, hp⟩ := hT
    exact ⟨by simp [zz_cat], by simp⟩
  · intro D DA h as post hT p e s m args below meth c Q C hr hlk hnm hQ
    obtain ⟨a, rfl, hok, hwf, hsw, hp⟩ := hT
    have hb := hok.1.2.2.2.2.2.1
    refine zz_aload_n (q := 1) (f := 0) (i := 0) C (by decide +kernel) rfl rfl rfl ?_
    refine zz_getR (q := 4) C gf_O_11 (by decide +kernel) rfl (by first | rfl | assumption) hok.1.1 ?_
    refine zz_iconst (q := 5) (n := 0) (x := 0) C (by decide +kernel) rfl (by decide +kernel) ?_
    refine zz_aload_n (q := 6) (f := 0) (i := 0) C (by decide +kernel) rfl rfl rfl ?_
    refine zz_getR (q := 9) C gf_O_17 (by decide +kernel) rfl (by first | rfl | assumption) hok.1.2.1 ?_
    refine zz_iconst (q := 10) (n := 0) (x := 0) C (by decide +kernel) rfl (by decide +kernel) ?_
    refine zz_aload_n (q := 11) (f := 0) (i := 0) C (by decide +kernel) rfl rfl rfl ?_
    refine zz_getI (q := 14) C gf_O_35 (by decide +kernel) rfl (by first | rfl | assumption) hok.1.2.2.2.2.2.2 ?_
    refine zz_copyR (q := 17) (ci := 2) (k := or_s h a) C 4 rfl rfl al_O_92 zw_an zw_as zw_ai (by decide +kernel) rfl rfl rfl hok.1.2.2.1 hok.1.2.2.2.1 rfl hb hb (by omega) (by decide) (by decide +kernel) ?_
    show zz_Z p l e _ s m args below meth c Q D DA (zz_A h s.heap.size) h _ _ _ _ (or_cy h a) 0 0
    refine zz_aload_n (q := 18) (f := 0) (i := 0) C (by decide +kernel) rfl rfl rfl ?_
    refine zz_getI (q := 21) C gf_O_28 (by decide +kernel) rfl (by first | rfl | assumption) rfl ?_
    refine zz_if_eq (off := 25) (tgt := 46) (q := 24) C (by decide +kernel) (by decide) rfl (fun c21 => ?_) (fun c21 => ?_)
    · refine zz_vret C hr hlk (by decide +kernel) hQ (by decide) (by decide) ?_
      first
        | exact hp _ (Or.inl ⟨Or.inl c21, rfl⟩)
        | exact hp _ (Or.inl ⟨Or.inr c28, rfl⟩)
        | exact hp _ (Or.inr ⟨c21, a28, sw, y, to, c28, hs1, hs2, hv, hto, har⟩)
    · refine zz_aload_n (q := 25) (f := 0) (i := 0) C (by decide +kernel) rfl rfl rfl ?_
      refine zz_getR (q := 28) C gf_O_20 (by decide +kernel) rfl (by first | rfl | assumption) rfl ?_
      refine zz_ifnull (off := 18) (tgt := 46) (q := 31) C (by decide +kernel) (by decide) rfl (fun c28 => ?_) (fun a28 c28 => ?_)
      · refine zz_vret C hr hlk (by decide +kernel) hQ (by decide) (by decide) ?_
        first
          | exact hp _ (Or.inl ⟨Or.inl c21, rfl⟩)
          | exact hp _ (Or.inl ⟨Or.inr c28, rfl⟩)
          | exact hp _ (Or.inr ⟨c21, a28, sw, y, to, c28, hs1, hs2, hv, hto, har⟩)
      · obtain ⟨sw, hs1, hs2⟩ := hsw _ c28
        refine zz_aload_n (q := 32) (f := 0) (i := 0) C (by decide +kernel) rfl rfl rfl ?_
        refine zz_callV (q := 35) C (m_O_findValues l) cv_O_98 (by decide +kernel) rfl rfl rfl (by first | rfl | assumption) (by decide) (by decide) (Nat.le_of_ble_eq_true rfl) ⟨_, sw, rfl, hs1, hs2, or_cy_okB hok, or_cy_wf hwf, fun y hv => ?_⟩
        refine zz_aload_n (q := 36) (f := 0) (i := 0) C (by decide +kernel) rfl rfl rfl ?_
        refine zz_aload_n (q := 37) (f := 0) (i := 0) C (by decide +kernel) rfl rfl rfl ?_
        refine zz_getR (q := 40) C gf_O_20 (by decide +kernel) rfl (by first | rfl | assumption) c28 ?_
        refine zz_callV (q := 43) C (m_K_rootKind l) cv_O_101 (by decide +kernel) rfl rfl rfl (by first | rfl | assumption) (by decide) (by decide) (Nat.le_of_ble_eq_true rfl) ⟨_, rfl, ?_⟩
        rw [show kd_root (or_ry (or_cy h a) y) 3 a28 = kd_root h 3 a28 from or_vf_rt 3 a28]
        refine zz_callV (q := 46) C (m_O_arrangeRoots l) cv_O_105 (by decide +kernel) rfl rfl rfl (by first | rfl | assumption) (by decide) (by decide) (Nat.le_of_ble_eq_true rfl) ⟨_, _, rfl, or_vf_okB hv.1 (or_cy_okB hok), or_vf_wf hv.1 (or_cy_wf hwf), fun to h2 hto har => ?_⟩
        rw [show or_s (or_ry (or_cy h a) y) a = or_s h a from or_vf_s hv.1 a] at har
        refine zz_vret C hr hlk (by decide +kernel) hQ (by decide) (by decide) ?_
        first
          | exact hp _ (Or.inl ⟨Or.inl c21, rfl⟩)
          | exact hp _ (Or.inl ⟨Or.inr c28, rfl⟩)
          | exact hp _ (Or.inr ⟨c21, a28, sw, y, to, c28, hs1, hs2, hv, hto, har⟩)

def T_O_turnSecond : zz_Tr := fun as h post => ∃ a on, as = [zz_r 5 (some a), zz_i on] ∧ (on = 0 ∨ on = 1) ∧ or_okB h a ∧ sg_wf h ∧ or_sw h a ∧ ∀ h2, or_arr (zz_pI h 5 5 a on) a h2 → post none h2
set_option maxRecDepth 100000 in
set_option maxHeartbeats 4000000 in
theorem m_O_turnSecond (l : Launch) : zz_Met l y_O_turnSecond w_O_turnSecond { frames := 6, cells := 0, slots := 0, locals := 125 } T_O_turnSecond := by
  refine zz_ofZ (by decide) (fun as h post hT => ?_) ?_
  · obtain ⟨a, on, rfl, hon, hok, hwf, hsw, hp⟩ := hT
    exact ⟨by simp [zz_cat], by simp⟩
  · intro D DA h as post hT p e s m args below meth c Q C hr hlk hnm hQ
    obtain ⟨a, on, rfl, hon, hok, hwf, hsw, hp⟩ := hT
    refine zz_aload_n (q := 1) (f := 0) (i := 0) C (by decide +kernel) rfl rfl rfl ?_
    refine zz_iload_n (q := 2) (f := 1) (i := 1) C (by decide +kernel) rfl rfl rfl ?_
    refine zz_putI (q := 5) C gf_O_28 (fun h => by cases h) (fun _ => hon) (by decide +kernel) rfl (by first | rfl | assumption) ?_
    refine zz_aload_n (q := 6) (f := 0) (i := 0) C (by decide +kernel) rfl rfl rfl ?_
    refine zz_callV (q := 9) C (m_O_arrange l) cv_O_32 (by decide +kernel) rfl rfl rfl (by first | rfl | assumption) (by decide) (by decide) (Nat.le_of_ble_eq_true rfl) ⟨_, rfl, hok, hwf, hsw, fun h2 hh => ?_⟩
    refine zz_vret C hr hlk (by decide +kernel) hQ (by decide) (by decide) ?_
    exact hp h2 hh

/-! SegmentTrees: calls that may throw -/
abbrev zz_TB : Type := List zz_V → zz_H → (Option zz_V → zz_H → Prop) → (String → zz_H → Prop) → Prop
theorem opt_em (o : Option Nat) : o = none ∨ ∃ k, o = some k := by
  cases o with
  | none => exact Or.inl rfl
  | some k => exact Or.inr ⟨k, rfl⟩
def kd_lv (h : zz_H) : Prop := ∀ k n, zz_tg h k = some (1, n) → ∃ lv, lv < 4 ∧ zz_fI h 1 2 k = nI (lv + 1)
def B_T_declaredKind : zz_TB := fun as h post postX => ∃ a t, as = [zz_r 0 (some a), zz_i t] ∧ t_ok h a ∧ (t_k h a t = none → postX "java/lang/IllegalArgumentException" h) ∧ ∀ k, t_k h a t = some k → post (some (zz_r 1 (some k))) h
set_option maxRecDepth 100000 in
set_option maxHeartbeats 4000000 in
theorem m_T_declaredKind (l : Launch) : zz_Met l y_T_declaredKind w_T_declaredKind { frames := 6, cells := 1, slots := 6, locals := 90 } (fun as h post => B_T_declaredKind as h post (fun _ _ => False)) := by
  refine zz_ofZ (by decide) (fun as h post hT => ?_) ?_
  · obtain ⟨a, t, rfl, hok, hpX, hp⟩ := hT
    exact ⟨by simp [zz_cat], by simp⟩
  · intro D DA h as post hT p e s m args below meth c Q C hr hlk hnm hQ
    obtain ⟨a, t, rfl, hok, hpX, hp⟩ := hT
    refine zz_aload_n (q := 1) (f := 0) (i := 0) C (by decide +kernel) rfl rfl rfl ?_
    refine zz_iload_n (q := 2) (f := 1) (i := 1) C (by decide +kernel) rfl rfl rfl ?_
    refine zz_callV (q := 5) C (m_T_kindOf l) cv_T_51 (by decide +kernel) rfl rfl rfl (by first | rfl | assumption) (by decide) (by decide) (Nat.le_of_ble_eq_true rfl) ⟨_, _, rfl, hok, ?_⟩
    refine zz_astore_n (q := 6) (f := 2) (i := 2) C (by decide +kernel) rfl rfl (by decide) rfl ?_
    refine zz_aload_n (q := 7) (f := 2) (i := 2) C (by decide +kernel) rfl rfl rfl ?_
    refine zz_ifnonnull (off := 14) (tgt := 21) (q := 10) C (by decide +kernel) (by decide) rfl (fun a7 c7 => ?_) (fun c7 => ?_)
    · refine zz_aload_n (q := 22) (f := 2) (i := 2) C (by decide +kernel) rfl rfl rfl ?_
      refine zz_aret C hr (Or.inl ⟨_, rfl⟩) hlk (by decide +kernel) hQ (by decide) (by decide) ?_
      rw [c7]
      exact hp _ c7
    · exact False.elim (hpX c7)
set_option maxRecDepth 100000 in
set_option maxHeartbeats 4000000 in
theorem x_T_declaredKind (l : Launch) (hl : l.stackTraces = false) : zz_MetX l y_T_declaredKind w_T_declaredKind { frames := 6, cells := 1, slots := 6, locals := 90 } (fun as h postX => B_T_declaredKind as h (fun _ _ => False) postX) := by
  refine zz_ofX hl (by decide) (fun as h postX hT => ?_) ?_
  · obtain ⟨a, t, rfl, hok, hpX, hp⟩ := hT
    exact ⟨by simp [zz_cat], by simp⟩
  · intro D DA h as postX hT p e s m args below meth c Q C hx hnm hQ
    obtain ⟨a, t, rfl, hok, hpX, hp⟩ := hT
    refine zz_aload_n (q := 1) (f := 0) (i := 0) C (by decide +kernel) rfl rfl rfl ?_
    refine zz_iload_n (q := 2) (f := 1) (i := 1) C (by decide +kernel) rfl rfl rfl ?_
    refine zz_callV (q := 5) C (m_T_kindOf l) cv_T_51 (by decide +kernel) rfl rfl rfl (by first | rfl | assumption) (by decide) (by decide) (Nat.le_of_ble_eq_true rfl) ⟨_, _, rfl, hok, ?_⟩
    refine zz_astore_n (q := 6) (f := 2) (i := 2) C (by decide +kernel) rfl rfl (by decide) rfl ?_
    refine zz_aload_n (q := 7) (f := 2) (i := 2) C (by decide +kernel) rfl rfl rfl ?_
    refine zz_ifnonnull (off := 14) (tgt := 21) (q := 10) C (by decide +kernel) (by decide) rfl (fun a7 c7 => ?_) (fun c7 => ?_)
    · refine zz_aload_n (q := 22) (f := 2) (i := 2) C (by decide +kernel) rfl rfl rfl ?_
      exfalso
      exact hp _ c7
    · exact zz_throw (q := 17) (i0 := 44) (i1 := 264) (tx := "the type is not declared") C hx xx_ownA (by decide +kernel) (zz_in (i := 288) (by decide +kernel) (by decide +kernel)) (zz_in (i := 289) (by decide +kernel) (by decide +kernel)) (zz_in (i := 44) (by decide +kernel) (by decide +kernel)) (by decide +kernel) (by decide +kernel) (by decide +kernel) (Or.inr ⟨by decide +kernel, rfl⟩) (by decide +kernel) (by decide +kernel) hQ (by decide) (by decide) (by decide) (by decide) (by decide) (by decide) (hpX c7)

def B_T_refuseAfterInsert : zz_TB := fun as h post postX => ∃ a, as = [zz_r 0 (some a)] ∧ (zz_fI h 0 7 a ≠ 0 → postX "java/lang/IllegalStateException" h) ∧ (zz_fI h 0 7 a = 0 → post none h)
set_option maxRecDepth 100000 in
set_option maxHeartbeats 4000000 in
theorem m_T_refuseAfterInsert (l : Launch) : zz_Met l y_T_refuseAfterInsert w_T_refuseAfterInsert { frames := 6, cells := 1, slots := 6, locals := 90 } (fun as h post => B_T_refuseAfterInsert as h post (fun _ _ => False)) := by
  refine zz_ofZ (by decide) (fun as h post hT => ?_) ?_
  · obtain ⟨a, rfl, hpX, hp⟩ := hT
    exact ⟨by simp [zz_cat], by simp⟩
  · intro D DA h as post hT p e s m args below meth c Q C hr hlk hnm hQ
    obtain ⟨a, rfl, hpX, hp⟩ := hT
    refine zz_aload_n (q := 1) (f := 0) (i := 0) C (by decide +kernel) rfl rfl rfl ?_
    refine zz_getI (q := 4) C gf_T_194 (by decide +kernel) rfl (by first | rfl | assumption) rfl ?_
    refine zz_if_eq (off := 14) (tgt := 18) (q := 7) C (by decide +kernel) (by decide) rfl (fun c4 => ?_) (fun c4 => ?_)
    · refine zz_vret C hr hlk (by decide +kernel) hQ (by decide) (by decide) ?_
      exact hp c4
    · exact False.elim (hpX c4)
set_option maxRecDepth 100000 in
set_option maxHeartbeats 4000000 in
theorem x_T_refuseAfterInsert (l : Launch) (hl : l.stackTraces = false) : zz_MetX l y_T_refuseAfterInsert w_T_refuseAfterInsert { frames := 6, cells := 1, slots := 6, locals := 90 } (fun as h postX => B_T_refuseAfterInsert as h (fun _ _ => False) postX) := by
  refine zz_ofX hl (by decide) (fun as h postX hT => ?_) ?_
  · obtain ⟨a, rfl, hpX, hp⟩ := hT
    exact ⟨by simp [zz_cat], by simp⟩
  · intro D DA h as postX hT p e s m args below meth c Q C hx hnm hQ
    obtain ⟨a, rfl, hpX, hp⟩ := hT
    refine zz_aload_n (q := 1) (f := 0) (i := 0) C (by decide +kernel) rfl rfl rfl ?_
    refine zz_getI (q := 4) C gf_T_194 (by decide +kernel) rfl (by first | rfl | assumption) rfl ?_
    refine zz_if_eq (off := 14) (tgt := 18) (q := 7) C (by decide +kernel) (by decide) rfl (fun c4 => ?_) (fun c4 => ?_)
    · exfalso
      exact hp c4
    · exact zz_throw (q := 14) (i0 := 67) (i1 := 266) (tx := "a segment was inserted") C hx xx_ownS (by decide +kernel) (zz_in (i := 364) (by decide +kernel) (by decide +kernel)) (zz_in (i := 365) (by decide +kernel) (by decide +kernel)) (zz_in (i := 45) (by decide +kernel) (by decide +kernel)) (by decide +kernel) (by decide +kernel) (by decide +kernel) (Or.inr ⟨by decide +kernel, rfl⟩) (by decide +kernel) (by decide +kernel) hQ (by decide) (by decide) (by decide) (by decide) (by decide) (by decide) (hpX c4)

def B_T_within : zz_TB := fun as h post postX => ∃ a hd, as = [zz_r 0 (some a), zz_i hd] ∧ t_wf h a ∧ (zz_fR h 0 6 a = none → postX "java/lang/IllegalStateException" (t_h0 h a)) ∧ ∀ f i r, zz_fR h 0 6 a = some f → t_bf h a i → or_first (or_s h (t_od h a)) (i + if zz_fI h 6 1 (t_ps h a) = 0 then 0 else 1) (or_pm h (t_od h a) (t_pa h a) (some f)) (or_N h (t_od h a)) r → t_an h a hd r post
set_option maxRecDepth 100000 in
set_option maxHeartbeats 4000000 in
theorem m_T_within (l : Launch) : zz_Met l y_T_within w_T_within { frames := 6, cells := 1, slots := 6, locals := 126 } (fun as h post => B_T_within as h post (fun _ _ => False)) := by
  refine zz_ofZ (by decide) (fun as h post hT => ?_) ?_
  · obtain ⟨a, hd, rfl, hwf, hpX, hp⟩ := hT
    exact ⟨by simp [zz_cat], by simp⟩
  · intro D DA h as post hT p e s m args below meth c Q C hr hlk hnm hQ
    obtain ⟨a, hd, rfl, hwf, hpX, hp⟩ := hT
    refine zz_aload_n (q := 1) (f := 0) (i := 0) C (by decide +kernel) rfl rfl rfl ?_
    refine zz_null (q := 2) C 2 (by decide +kernel) rfl ?_
    refine zz_putR (q := 5) C gf_T_40 (fun h => by cases h) (by decide +kernel) rfl (by first | rfl | assumption) ?_
    show zz_Z p l e _ s m args below meth c Q D DA (zz_A h s.heap.size) h _ _ _ _ (t_h0 h a) 0 0
    have hwf0 : t_wf (t_h0 h a) a := hwf
    refine zz_aload_n (q := 6) (f := 0) (i := 0) C (by decide +kernel) rfl rfl rfl ?_
    refine zz_getR (q := 9) C gf_T_145 (by decide +kernel) rfl (by first | rfl | assumption) rfl ?_
    refine zz_ifnonnull (off := 13) (tgt := 22) (q := 12) C (by decide +kernel) (by decide) rfl (fun a9 c9 => ?_) (fun c9 => ?_)
    · refine zz_aload_n (q := 23) (f := 0) (i := 0) C (by decide +kernel) rfl rfl rfl ?_
      refine zz_aload_n (q := 24) (f := 0) (i := 0) C (by decide +kernel) rfl rfl rfl ?_
      refine zz_getR (q := 27) C gf_T_29 (by decide +kernel) rfl (by first | rfl | assumption) hwf.1.2.2.2.1 ?_
      refine zz_aload_n (q := 28) (f := 0) (i := 0) C (by decide +kernel) rfl rfl rfl ?_
      refine zz_getR (q := 31) C gf_T_22 (by decide +kernel) rfl (by first | rfl | assumption) hwf.1.2.2.1 ?_
      refine zz_aload_n (q := 32) (f := 0) (i := 0) C (by decide +kernel) rfl rfl rfl ?_
      refine zz_getR (q := 35) C gf_T_36 (by decide +kernel) rfl (by first | rfl | assumption) hwf.1.2.2.2.2.1 ?_
      refine zz_aload_n (q := 36) (f := 0) (i := 0) C (by decide +kernel) rfl rfl rfl ?_
      refine zz_getR (q := 39) C gf_T_29 (by decide +kernel) rfl (by first | rfl | assumption) hwf.1.2.2.2.1 ?_
      refine zz_callV (q := 42) C (m_Q_firstBehind l) cv_T_141 (by decide +kernel) rfl rfl rfl (by first | rfl | assumption) (by decide) (by decide) (Nat.le_of_ble_eq_true rfl) ⟨_, _, rfl, hwf0.2.1, fun i hi9 => ?_⟩
      have hi61 : (i + if zz_fI h 6 1 (t_ps h a) = 0 then 0 else 1) ≤ 61 := by
        have := t_bf_le hwf.2.1.1 hi9
        split <;> omega
      refine zz_aload_n (q := 43) (f := 0) (i := 0) C (by decide +kernel) rfl rfl rfl ?_
      refine zz_getR (q := 46) C gf_T_145 (by decide +kernel) rfl (by first | rfl | assumption) c9 ?_
      refine zz_callV (q := 49) C (m_O_firstThatMeets l) cv_T_133 (by decide +kernel) rfl rfl rfl (by first | rfl | assumption) (by decide) (by decide) (Nat.le_of_ble_eq_true rfl) ⟨_, _, _, _, rfl, hi61, hwf0.2.1, hwf0.2.2.1, hwf0.2.2.2.1, fun r hr9 => ?_⟩
      refine zz_iload_n (q := 50) (f := 1) (i := 1) C (by decide +kernel) rfl rfl rfl ?_
      refine zz_callV (q := 53) C (m_T_got l) cv_T_137 (by decide +kernel) rfl rfl rfl (by first | rfl | assumption) (by decide) (by decide) (Nat.le_of_ble_eq_true rfl) ⟨_, _, _, rfl, hwf0.1, fun z => ?_, fun s9 z => ?_⟩
      · refine zz_iret C hr hlk (by decide +kernel) hQ (by decide) (by decide) ?_
        exact (hp a9 i r c9 hi9 hr9).1 z
      · refine zz_iret C hr hlk (by decide +kernel) hQ (by decide) (by decide) ?_
        exact (hp a9 i r c9 hi9 hr9).2 s9 z
    · exact False.elim (hpX c9)
set_option maxRecDepth 100000 in
set_option maxHeartbeats 4000000 in
theorem x_T_within (l : Launch) (hl : l.stackTraces = false) : zz_MetX l y_T_within w_T_within { frames := 6, cells := 1, slots := 6, locals := 126 } (fun as h postX => B_T_within as h (fun _ _ => False) postX) := by
  refine zz_ofX hl (by decide) (fun as h postX hT => ?_) ?_
  · obtain ⟨a, hd, rfl, hwf, hpX, hp⟩ := hT
    exact ⟨by simp [zz_cat], by simp⟩
  · intro D DA h as postX hT p e s m args below meth c Q C hx hnm hQ
    obtain ⟨a, hd, rfl, hwf, hpX, hp⟩ := hT
    refine zz_aload_n (q := 1) (f := 0) (i := 0) C (by decide +kernel) rfl rfl rfl ?_
    refine zz_null (q := 2) C 2 (by decide +kernel) rfl ?_
    refine zz_putR (q := 5) C gf_T_40 (fun h => by cases h) (by decide +kernel) rfl (by first | rfl | assumption) ?_
    show zz_Z p l e _ s m args below meth c Q D DA (zz_A h s.heap.size) h _ _ _ _ (t_h0 h a) 0 0
    have hwf0 : t_wf (t_h0 h a) a := hwf
    refine zz_aload_n (q := 6) (f := 0) (i := 0) C (by decide +kernel) rfl rfl rfl ?_
    refine zz_getR (q := 9) C gf_T_145 (by decide +kernel) rfl (by first | rfl | assumption) rfl ?_
    refine zz_ifnonnull (off := 13) (tgt := 22) (q := 12) C (by decide +kernel) (by decide) rfl (fun a9 c9 => ?_) (fun c9 => ?_)
    · refine zz_aload_n (q := 23) (f := 0) (i := 0) C (by decide +kernel) rfl rfl rfl ?_
      refine zz_aload_n (q := 24) (f := 0) (i := 0) C (by decide +kernel) rfl rfl rfl ?_
      refine zz_getR (q := 27) C gf_T_29 (by decide +kernel) rfl (by first | rfl | assumption) hwf.1.2.2.2.1 ?_
      refine zz_aload_n (q := 28) (f := 0) (i := 0) C (by decide +kernel) rfl rfl rfl ?_
      refine zz_getR (q := 31) C gf_T_22 (by decide +kernel) rfl (by first | rfl | assumption) hwf.1.2.2.1 ?_
      refine zz_aload_n (q := 32) (f := 0) (i := 0) C (by decide +kernel) rfl rfl rfl ?_
      refine zz_getR (q := 35) C gf_T_36 (by decide +kernel) rfl (by first | rfl | assumption) hwf.1.2.2.2.2.1 ?_
      refine zz_aload_n (q := 36) (f := 0) (i := 0) C (by decide +kernel) rfl rfl rfl ?_
      refine zz_getR (q := 39) C gf_T_29 (by decide +kernel) rfl (by first | rfl | assumption) hwf.1.2.2.2.1 ?_
      refine zz_callV (q := 42) C (m_Q_firstBehind l) cv_T_141 (by decide +kernel) rfl rfl rfl (by first | rfl | assumption) (by decide) (by decide) (Nat.le_of_ble_eq_true rfl) ⟨_, _, rfl, hwf0.2.1, fun i hi9 => ?_⟩
      have hi61 : (i + if zz_fI h 6 1 (t_ps h a) = 0 then 0 else 1) ≤ 61 := by
        have := t_bf_le hwf.2.1.1 hi9
        split <;> omega
      refine zz_aload_n (q := 43) (f := 0) (i := 0) C (by decide +kernel) rfl rfl rfl ?_
      refine zz_getR (q := 46) C gf_T_145 (by decide +kernel) rfl (by first | rfl | assumption) c9 ?_
      refine zz_callV (q := 49) C (m_O_firstThatMeets l) cv_T_133 (by decide +kernel) rfl rfl rfl (by first | rfl | assumption) (by decide) (by decide) (Nat.le_of_ble_eq_true rfl) ⟨_, _, _, _, rfl, hi61, hwf0.2.1, hwf0.2.2.1, hwf0.2.2.2.1, fun r hr9 => ?_⟩
      refine zz_iload_n (q := 50) (f := 1) (i := 1) C (by decide +kernel) rfl rfl rfl ?_
      refine zz_callV (q := 53) C (m_T_got l) cv_T_137 (by decide +kernel) rfl rfl rfl (by first | rfl | assumption) (by decide) (by decide) (Nat.le_of_ble_eq_true rfl) ⟨_, _, _, rfl, hwf0.1, fun z => ?_, fun s9 z => ?_⟩
      · exfalso
        exact (hp a9 i r c9 hi9 hr9).1 z
      · exfalso
        exact (hp a9 i r c9 hi9 hr9).2 s9 z
    · exact zz_throw (q := 18) (i0 := 67) (i1 := 148) (tx := "no parent is fixed") C hx xx_ownS (by decide +kernel) (zz_in (i := 364) (by decide +kernel) (by decide +kernel)) (zz_in (i := 365) (by decide +kernel) (by decide +kernel)) (zz_in (i := 45) (by decide +kernel) (by decide +kernel)) (by decide +kernel) (by decide +kernel) (by decide +kernel) (Or.inl ⟨by decide +kernel, rfl⟩) (by decide +kernel) (by decide +kernel) hQ (by decide) (by decide) (by decide) (by decide) (by decide) (by decide) (hpX c9)

def B_T_fix : zz_TB := fun as h post postX => ∃ a, as = [zz_r 0 (some a)] ∧ t_ok h a ∧ (t_sd h a = none → postX "java/lang/IllegalStateException" (t_h0 h a)) ∧ ∀ s, t_sd h a = some s → post (some (zz_i (zz_fI h 2 0 s))) (zz_pR (t_h0 h a) 0 6 a (some s))
set_option maxRecDepth 100000 in
set_option maxHeartbeats 4000000 in
theorem m_T_fix (l : Launch) : zz_Met l y_T_fix w_T_fix { frames := 6, cells := 1, slots := 6, locals := 90 } (fun as h post => B_T_fix as h post (fun _ _ => False)) := by
  refine zz_ofZ (by decide) (fun as h post hT => ?_) ?_
  · obtain ⟨a, rfl, hok, hpX, hp⟩ := hT
    exact ⟨by simp [zz_cat], by simp⟩
  · intro D DA h as post hT p e s m args below meth c Q C hr hlk hnm hQ
    obtain ⟨a, rfl, hok, hpX, hp⟩ := hT
    refine zz_aload_n (q := 1) (f := 0) (i := 0) C (by decide +kernel) rfl rfl rfl ?_
    refine zz_null (q := 2) C 2 (by decide +kernel) rfl ?_
    refine zz_putR (q := 5) C gf_T_40 (fun h => by cases h) (by decide +kernel) rfl (by first | rfl | assumption) ?_
    show zz_Z p l e _ s m args below meth c Q D DA (zz_A h s.heap.size) h _ _ _ _ (t_h0 h a) 0 0
    
    refine zz_aload_n (q := 6) (f := 0) (i := 0) C (by decide +kernel) rfl rfl rfl ?_
    refine zz_getR (q := 9) C gf_T_36 (by decide +kernel) rfl (by first | rfl | assumption) hok.2.2.2.2.1 ?_
    refine zz_callV (q := 12) C (m_Q_standing l) cv_T_150 (by decide +kernel) rfl rfl rfl (by first | rfl | assumption) (by decide) (by decide) (Nat.le_of_ble_eq_true rfl) ⟨_, rfl, ?_⟩
    refine zz_astore_n (q := 13) (f := 1) (i := 1) C (by decide +kernel) rfl rfl (by decide) rfl ?_
    refine zz_aload_n (q := 14) (f := 1) (i := 1) C (by decide +kernel) rfl rfl rfl ?_
    refine zz_ifnonnull (off := 13) (tgt := 27) (q := 17) C (by decide +kernel) (by decide) rfl (fun a14 c14 => ?_) (fun c14 => ?_)
    · rw [c14]
      refine zz_aload_n (q := 28) (f := 0) (i := 0) C (by decide +kernel) rfl rfl rfl ?_
      refine zz_aload_n (q := 29) (f := 1) (i := 1) C (by decide +kernel) rfl rfl rfl ?_
      refine zz_putR (q := 32) C gf_T_145 (fun h => by cases h) (by decide +kernel) rfl (by first | rfl | assumption) ?_
      refine zz_aload_n (q := 33) (f := 1) (i := 1) C (by decide +kernel) rfl rfl rfl ?_
      refine zz_getI (q := 36) C gf_T_156 (by decide +kernel) rfl (by first | rfl | assumption) rfl ?_
      refine zz_iret C hr hlk (by decide +kernel) hQ (by decide) (by decide) ?_
      exact hp _ c14
    · exact False.elim (hpX c14)
set_option maxRecDepth 100000 in
set_option maxHeartbeats 4000000 in
theorem x_T_fix (l : Launch) (hl : l.stackTraces = false) : zz_MetX l y_T_fix w_T_fix { frames := 6, cells := 1, slots := 6, locals := 90 } (fun as h postX => B_T_fix as h (fun _ _ => False) postX) := by
  refine zz_ofX hl (by decide) (fun as h postX hT => ?_) ?_
  · obtain ⟨a, rfl, hok, hpX, hp⟩ := hT
    exact ⟨by simp [zz_cat], by simp⟩
  · intro D DA h as postX hT p e s m args below meth c Q C hx hnm hQ
    obtain ⟨a, rfl, hok, hpX, hp⟩ := hT
    refine zz_aload_n (q := 1) (f := 0) (i := 0) C (by decide +kernel) rfl rfl rfl ?_
    refine zz_null (q := 2) C 2 (by decide +kernel) rfl ?_
    refine zz_putR (q := 5) C gf_T_40 (fun h => by cases h) (by decide +kernel) rfl (by first | rfl | assumption) ?_
    show zz_Z p l e _ s m args below meth c Q D DA (zz_A h s.heap.size) h _ _ _ _ (t_h0 h a) 0 0
    
    refine zz_aload_n (q := 6) (f := 0) (i := 0) C (by decide +kernel) rfl rfl rfl ?_
    refine zz_getR (q := 9) C gf_T_36 (by decide +kernel) rfl (by first | rfl | assumption) hok.2.2.2.2.1 ?_
    refine zz_callV (q := 12) C (m_Q_standing l) cv_T_150 (by decide +kernel) rfl rfl rfl (by first | rfl | assumption) (by decide) (by decide) (Nat.le_of_ble_eq_true rfl) ⟨_, rfl, ?_⟩
    refine zz_astore_n (q := 13) (f := 1) (i := 1) C (by decide +kernel) rfl rfl (by decide) rfl ?_
    refine zz_aload_n (q := 14) (f := 1) (i := 1) C (by decide +kernel) rfl rfl rfl ?_
    refine zz_ifnonnull (off := 13) (tgt := 27) (q := 17) C (by decide +kernel) (by decide) rfl (fun a14 c14 => ?_) (fun c14 => ?_)
    · rw [c14]
      refine zz_aload_n (q := 28) (f := 0) (i := 0) C (by decide +kernel) rfl rfl rfl ?_
      refine zz_aload_n (q := 29) (f := 1) (i := 1) C (by decide +kernel) rfl rfl rfl ?_
      refine zz_putR (q := 32) C gf_T_145 (fun h => by cases h) (by decide +kernel) rfl (by first | rfl | assumption) ?_
      refine zz_aload_n (q := 33) (f := 1) (i := 1) C (by decide +kernel) rfl rfl rfl ?_
      refine zz_getI (q := 36) C gf_T_156 (by decide +kernel) rfl (by first | rfl | assumption) rfl ?_
      exfalso
      exact hp _ c14
    · exact zz_throw (q := 23) (i0 := 67) (i1 := 154) (tx := "the position is at no segment") C hx xx_ownS (by decide +kernel) (zz_in (i := 364) (by decide +kernel) (by decide +kernel)) (zz_in (i := 365) (by decide +kernel) (by decide +kernel)) (zz_in (i := 45) (by decide +kernel) (by decide +kernel)) (by decide +kernel) (by decide +kernel) (by decide +kernel) (Or.inl ⟨by decide +kernel, rfl⟩) (by decide +kernel) (by decide +kernel) hQ (by decide) (by decide) (by decide) (by decide) (by decide) (by decide) (hpX c14)

def B_T_word : zz_TB := fun as h post postX => ∃ a i, as = [zz_r 0 (some a), zz_i i] ∧ t_ok h a ∧ sg_wf h ∧ kd_wf h ∧ (t_sd h a = none → postX "java/lang/IllegalStateException" h) ∧ ∀ s, t_sd h a = some s → (¬ (0 ≤ i ∧ i < zz_fI h 1 3 (sg_k h s)) → postX "java/lang/IndexOutOfBoundsException" h) ∧ (0 ≤ i ∧ i < zz_fI h 1 3 (sg_k h s) → post (some (zz_i (zz_aI h (sg_w h s) i.toNatClampNeg))) h)
set_option maxRecDepth 100000 in
set_option maxHeartbeats 4000000 in
theorem m_T_word (l : Launch) : zz_Met l y_T_word w_T_word { frames := 6, cells := 1, slots := 6, locals := 90 } (fun as h post => B_T_word as h post (fun _ _ => False)) := by
  refine zz_ofZ (by decide) (fun as h post hT => ?_) ?_
  · obtain ⟨a, i, rfl, hok, hwf, hkw, hpX, hp⟩ := hT
    exact ⟨by simp [zz_cat], by simp⟩
  · intro D DA h as post hT p e s m args below meth c Q C hr hlk hnm hQ
    obtain ⟨a, i, rfl, hok, hwf, hkw, hpX, hp⟩ := hT
    refine zz_aload_n (q := 1) (f := 0) (i := 0) C (by decide +kernel) rfl rfl rfl ?_
    refine zz_getR (q := 4) C gf_T_36 (by decide +kernel) rfl (by first | rfl | assumption) hok.2.2.2.2.1 ?_
    refine zz_callV (q := 7) C (m_Q_standing l) cv_T_150 (by decide +kernel) rfl rfl rfl (by first | rfl | assumption) (by decide) (by decide) (Nat.le_of_ble_eq_true rfl) ⟨_, rfl, ?_⟩
    refine zz_astore_n (q := 8) (f := 2) (i := 2) C (by decide +kernel) rfl rfl (by decide) rfl ?_
    refine zz_aload_n (q := 9) (f := 2) (i := 2) C (by decide +kernel) rfl rfl rfl ?_
    refine zz_ifnonnull (off := 13) (tgt := 22) (q := 12) C (by decide +kernel) (by decide) rfl (fun a9 c9 => ?_) (fun c9 => ?_)
    · refine zz_know (fun hty _ hTL _ => ?_)
      obtain ⟨ns, hts⟩ := hTL 2 _ rfl _ c9
      have hos : sg_ok h a9 := hwf _ ns hts
      obtain ⟨nk, htk⟩ := hty.1 _ 2 ns 1 1 hts (by decide) rfl _ hos.1
      have hks : kd_ok h (sg_k h a9) := hkw _ nk htk
      refine zz_aload_n (q := 23) (f := 2) (i := 2) C (by decide +kernel) rfl rfl rfl ?_
      refine zz_getR (q := 26) C gf_T_168 (by decide +kernel) rfl (by first | rfl | assumption) hos.1 ?_
      refine zz_iload_n (q := 27) (f := 1) (i := 1) C (by decide +kernel) rfl rfl rfl ?_
      refine zz_callV (q := 30) C (m_K_hasWord l) cv_T_108 (by decide +kernel) rfl rfl rfl (by first | rfl | assumption) (by decide) (by decide) (Nat.le_of_ble_eq_true rfl) ⟨_, _, rfl, ?_⟩
      refine zz_if_ne (off := 13) (tgt := 43) (q := 33) C (by decide +kernel) (by decide) rfl (fun c30 => ?_) (fun c30 => ?_)
      · have h9 := zz_b_t c30
        obtain ⟨ln, hl1, hl2⟩ := hks.2
        have h8 := nI_in9 hl2 (by omega) (Int32.not_lt.mpr h9.1) h9.2
        refine zz_aload_n (q := 44) (f := 2) (i := 2) C (by decide +kernel) rfl rfl rfl ?_
        refine zz_getR (q := 47) C gf_T_176 (by decide +kernel) rfl (by first | rfl | assumption) hos.2.1 ?_
        refine zz_iload_n (q := 48) (f := 1) (i := 1) C (by decide +kernel) rfl rfl rfl ?_
        refine zz_iaload (q := 49) C (by decide +kernel) rfl rfl hos.2.2.1 h8.2 (by omega) (by decide) rfl ?_
        refine zz_iret C hr hlk (by decide +kernel) hQ (by decide) (by decide) ?_
        exact (hp _ c9).2 h9
      · exact False.elim ((hp _ c9).1 (zz_b_f c30))
    · exact False.elim (hpX c9)
set_option maxRecDepth 100000 in
set_option maxHeartbeats 4000000 in
theorem x_T_word (l : Launch) (hl : l.stackTraces = false) : zz_MetX l y_T_word w_T_word { frames := 6, cells := 1, slots := 6, locals := 90 } (fun as h postX => B_T_word as h (fun _ _ => False) postX) := by
  refine zz_ofX hl (by decide) (fun as h postX hT => ?_) ?_
  · obtain ⟨a, i, rfl, hok, hwf, hkw, hpX, hp⟩ := hT
    exact ⟨by simp [zz_cat], by simp⟩
  · intro D DA h as postX hT p e s m args below meth c Q C hx hnm hQ
    obtain ⟨a, i, rfl, hok, hwf, hkw, hpX, hp⟩ := hT
    refine zz_aload_n (q := 1) (f := 0) (i := 0) C (by decide +kernel) rfl rfl rfl ?_
    refine zz_getR (q := 4) C gf_T_36 (by decide +kernel) rfl (by first | rfl | assumption) hok.2.2.2.2.1 ?_
    refine zz_callV (q := 7) C (m_Q_standing l) cv_T_150 (by decide +kernel) rfl rfl rfl (by first | rfl | assumption) (by decide) (by decide) (Nat.le_of_ble_eq_true rfl) ⟨_, rfl, ?_⟩
    refine zz_astore_n (q := 8) (f := 2) (i := 2) C (by decide +kernel) rfl rfl (by decide) rfl ?_
    refine zz_aload_n (q := 9) (f := 2) (i := 2) C (by decide +kernel) rfl rfl rfl ?_
    refine zz_ifnonnull (off := 13) (tgt := 22) (q := 12) C (by decide +kernel) (by decide) rfl (fun a9 c9 => ?_) (fun c9 => ?_)
    · refine zz_know (fun hty _ hTL _ => ?_)
      obtain ⟨ns, hts⟩ := hTL 2 _ rfl _ c9
      have hos : sg_ok h a9 := hwf _ ns hts
      obtain ⟨nk, htk⟩ := hty.1 _ 2 ns 1 1 hts (by decide) rfl _ hos.1
      have hks : kd_ok h (sg_k h a9) := hkw _ nk htk
      refine zz_aload_n (q := 23) (f := 2) (i := 2) C (by decide +kernel) rfl rfl rfl ?_
      refine zz_getR (q := 26) C gf_T_168 (by decide +kernel) rfl (by first | rfl | assumption) hos.1 ?_
      refine zz_iload_n (q := 27) (f := 1) (i := 1) C (by decide +kernel) rfl rfl rfl ?_
      refine zz_callV (q := 30) C (m_K_hasWord l) cv_T_108 (by decide +kernel) rfl rfl rfl (by first | rfl | assumption) (by decide) (by decide) (Nat.le_of_ble_eq_true rfl) ⟨_, _, rfl, ?_⟩
      refine zz_if_ne (off := 13) (tgt := 43) (q := 33) C (by decide +kernel) (by decide) rfl (fun c30 => ?_) (fun c30 => ?_)
      · have h9 := zz_b_t c30
        obtain ⟨ln, hl1, hl2⟩ := hks.2
        have h8 := nI_in9 hl2 (by omega) (Int32.not_lt.mpr h9.1) h9.2
        refine zz_aload_n (q := 44) (f := 2) (i := 2) C (by decide +kernel) rfl rfl rfl ?_
        refine zz_getR (q := 47) C gf_T_176 (by decide +kernel) rfl (by first | rfl | assumption) hos.2.1 ?_
        refine zz_iload_n (q := 48) (f := 1) (i := 1) C (by decide +kernel) rfl rfl rfl ?_
        refine zz_iaload (q := 49) C (by decide +kernel) rfl rfl hos.2.2.1 h8.2 (by omega) (by decide) rfl ?_
        exfalso
        exact (hp _ c9).2 h9
      · exact zz_throw (q := 39) (i0 := 171) (i1 := 173) (tx := "the segment has no such word") C hx xx_ownB (by decide +kernel) (zz_in (i := 519) (by decide +kernel) (by decide +kernel)) (zz_in (i := 520) (by decide +kernel) (by decide +kernel)) (zz_in (i := 47) (by decide +kernel) (by decide +kernel)) (by decide +kernel) (by decide +kernel) (by decide +kernel) (Or.inl ⟨by decide +kernel, rfl⟩) (by decide +kernel) (by decide +kernel) hQ (by decide) (by decide) (by decide) (by decide) (by decide) (by decide) ((hp _ c9).1 (zz_b_f c30))
    · exact zz_throw (q := 18) (i0 := 67) (i1 := 154) (tx := "the position is at no segment") C hx xx_ownS (by decide +kernel) (zz_in (i := 364) (by decide +kernel) (by decide +kernel)) (zz_in (i := 365) (by decide +kernel) (by decide +kernel)) (zz_in (i := 45) (by decide +kernel) (by decide +kernel)) (by decide +kernel) (by decide +kernel) (by decide +kernel) (Or.inl ⟨by decide +kernel, rfl⟩) (by decide +kernel) (by decide +kernel) hQ (by decide) (by decide) (by decide) (by decide) (by decide) (by decide) (hpX c9)

def B_T_work : zz_TB := fun as h post postX => ∃ a i v, as = [zz_r 0 (some a), zz_i i, zz_i v] ∧ t_ok h a ∧ (¬ (0 ≤ i ∧ i < 4) → postX "java/lang/IllegalArgumentException" h) ∧ (0 ≤ i → i < 4 → post none (zz_sI h (t_ww h a) i.toNatClampNeg v))
set_option maxRecDepth 100000 in
set_option maxHeartbeats 4000000 in
theorem m_T_work (l : Launch) : zz_Met l y_T_work w_T_work { frames := 6, cells := 1, slots := 6, locals := 90 } (fun as h post => B_T_work as h post (fun _ _ => False)) := by
  refine zz_ofZ (by decide) (fun as h post hT => ?_) ?_
  · obtain ⟨a, i, v, rfl, hok, hpX, hp⟩ := hT
    exact ⟨by simp [zz_cat], by simp⟩
  · intro D DA h as post hT p e s m args below meth c Q C hr hlk hnm hQ
    obtain ⟨a, i, v, rfl, hok, hpX, hp⟩ := hT
    refine zz_iload_n (q := 1) (f := 1) (i := 1) C (by decide +kernel) rfl rfl rfl ?_
    refine zz_if_lt (off := 8) (tgt := 9) (q := 4) C (by decide +kernel) (by decide) rfl (fun c1 => ?_) (fun c1 => ?_)
    · exact False.elim (hpX (fun z => absurd c1 (Int32.not_lt.mpr z.1)))
    · refine zz_iload_n (q := 5) (f := 1) (i := 1) C (by decide +kernel) rfl rfl rfl ?_
      refine zz_iconst (q := 6) (n := 4) (x := 4) C (by decide +kernel) rfl (by decide +kernel) ?_
      refine zz_icmp_lt (off := 13) (tgt := 19) (q := 9) C (by decide +kernel) (by decide) rfl (fun c6 => ?_) (fun c6 => ?_)
      · have h9 := nI_in9 (n := 4) rfl (by decide) c1 c6
        refine zz_aload_n (q := 20) (f := 0) (i := 0) C (by decide +kernel) rfl rfl rfl ?_
        refine zz_getR (q := 23) C gf_T_15 (by decide +kernel) rfl (by first | rfl | assumption) hok.2.1 ?_
        refine zz_iload_n (q := 24) (f := 1) (i := 1) C (by decide +kernel) rfl rfl rfl ?_
        refine zz_iload_n (q := 25) (f := 2) (i := 2) C (by decide +kernel) rfl rfl rfl ?_
        refine zz_iastore (q := 26) C (by decide +kernel) rfl rfl hok.2.2.2.2.2.2 h9.2 h9.1 (by decide) ?_
        refine zz_vret C hr hlk (by decide +kernel) hQ (by decide) (by decide) ?_
        exact hp (Int32.not_lt.mp c1) c6
      · exact False.elim (hpX (fun z => absurd z.2 c6))
set_option maxRecDepth 100000 in
set_option maxHeartbeats 4000000 in
theorem x_T_work (l : Launch) (hl : l.stackTraces = false) : zz_MetX l y_T_work w_T_work { frames := 6, cells := 1, slots := 6, locals := 90 } (fun as h postX => B_T_work as h (fun _ _ => False) postX) := by
  refine zz_ofX hl (by decide) (fun as h postX hT => ?_) ?_
  · obtain ⟨a, i, v, rfl, hok, hpX, hp⟩ := hT
    exact ⟨by simp [zz_cat], by simp⟩
  · intro D DA h as postX hT p e s m args below meth c Q C hx hnm hQ
    obtain ⟨a, i, v, rfl, hok, hpX, hp⟩ := hT
    refine zz_iload_n (q := 1) (f := 1) (i := 1) C (by decide +kernel) rfl rfl rfl ?_
    refine zz_if_lt (off := 8) (tgt := 9) (q := 4) C (by decide +kernel) (by decide) rfl (fun c1 => ?_) (fun c1 => ?_)
    · exact zz_throw (q := 15) (i0 := 44) (i1 := 131) (tx := "there is no such word to work with") C hx xx_ownA (by decide +kernel) (zz_in (i := 288) (by decide +kernel) (by decide +kernel)) (zz_in (i := 289) (by decide +kernel) (by decide +kernel)) (zz_in (i := 44) (by decide +kernel) (by decide +kernel)) (by decide +kernel) (by decide +kernel) (by decide +kernel) (Or.inl ⟨by decide +kernel, rfl⟩) (by decide +kernel) (by decide +kernel) hQ (by decide) (by decide) (by decide) (by decide) (by decide) (by decide) (hpX (fun z => absurd c1 (Int32.not_lt.mpr z.1)))
    · refine zz_iload_n (q := 5) (f := 1) (i := 1) C (by decide +kernel) rfl rfl rfl ?_
      refine zz_iconst (q := 6) (n := 4) (x := 4) C (by decide +kernel) rfl (by decide +kernel) ?_
      refine zz_icmp_lt (off := 13) (tgt := 19) (q := 9) C (by decide +kernel) (by decide) rfl (fun c6 => ?_) (fun c6 => ?_)
      · have h9 := nI_in9 (n := 4) rfl (by decide) c1 c6
        refine zz_aload_n (q := 20) (f := 0) (i := 0) C (by decide +kernel) rfl rfl rfl ?_
        refine zz_getR (q := 23) C gf_T_15 (by decide +kernel) rfl (by first | rfl | assumption) hok.2.1 ?_
        refine zz_iload_n (q := 24) (f := 1) (i := 1) C (by decide +kernel) rfl rfl rfl ?_
        refine zz_iload_n (q := 25) (f := 2) (i := 2) C (by decide +kernel) rfl rfl rfl ?_
        refine zz_iastore (q := 26) C (by decide +kernel) rfl rfl hok.2.2.2.2.2.2 h9.2 h9.1 (by decide) ?_
        exfalso
        exact hp (Int32.not_lt.mp c1) c6
      · exact zz_throw (q := 15) (i0 := 44) (i1 := 131) (tx := "there is no such word to work with") C hx xx_ownA (by decide +kernel) (zz_in (i := 288) (by decide +kernel) (by decide +kernel)) (zz_in (i := 289) (by decide +kernel) (by decide +kernel)) (zz_in (i := 44) (by decide +kernel) (by decide +kernel)) (by decide +kernel) (by decide +kernel) (by decide +kernel) (Or.inl ⟨by decide +kernel, rfl⟩) (by decide +kernel) (by decide +kernel) hQ (by decide) (by decide) (by decide) (by decide) (by decide) (by decide) (hpX (fun z => absurd z.2 c6))

def B_T_bySecond : zz_TB := fun as h post postX => ∃ a on, as = [zz_r 0 (some a), zz_i on] ∧ (on = 0 ∨ on = 1) ∧ t_wf h a ∧ or_okB h (t_od h a) ∧ or_sw h (t_od h a) ∧ (zz_fR h 5 3 (t_od h a) = none → postX "java/lang/IllegalStateException" (t_h0 h a)) ∧ (zz_fR h 5 3 (t_od h a) ≠ none → ∀ h2, or_arr (zz_pI (t_h0 h a) 5 5 (t_od h a) on) (t_od h a) h2 → post none (zz_pI (zz_pI (zz_pR h2 6 0 (t_ps h a) none) 6 1 (t_ps h a) 0) 6 2 (t_ps h a) 0))
set_option maxRecDepth 100000 in
set_option maxHeartbeats 4000000 in
theorem m_T_bySecond (l : Launch) : zz_Met l y_T_bySecond w_T_bySecond { frames := 7, cells := 1, slots := 6, locals := 146 } (fun as h post => B_T_bySecond as h post (fun _ _ => False)) := by
  refine zz_ofZ (by decide) (fun as h post hT => ?_) ?_
  · obtain ⟨a, on, rfl, hon, hwf, hob, hsw, hpX, hp⟩ := hT
    exact ⟨by simp [zz_cat], by simp⟩
  · intro D DA h as post hT p e s m args below meth c Q C hr hlk hnm hQ
    obtain ⟨a, on, rfl, hon, hwf, hob, hsw, hpX, hp⟩ := hT
    refine zz_aload_n (q := 1) (f := 0) (i := 0) C (by decide +kernel) rfl rfl rfl ?_
    refine zz_null (q := 2) C 2 (by decide +kernel) rfl ?_
    refine zz_putR (q := 5) C gf_T_40 (fun h => by cases h) (by decide +kernel) rfl (by first | rfl | assumption) ?_
    show zz_Z p l e _ s m args below meth c Q D DA (zz_A h s.heap.size) h _ _ _ _ (t_h0 h a) 0 0
    
    refine zz_aload_n (q := 6) (f := 0) (i := 0) C (by decide +kernel) rfl rfl rfl ?_
    refine zz_getR (q := 9) C gf_T_29 (by decide +kernel) rfl (by first | rfl | assumption) hwf.1.2.2.2.1 ?_
    refine zz_callV (q := 12) C (m_O_hasSecond l) cv_T_239 (by decide +kernel) rfl rfl rfl (by first | rfl | assumption) (by decide) (by decide) (Nat.le_of_ble_eq_true rfl) ⟨_, rfl, ?_⟩
    refine zz_if_ne (off := 13) (tgt := 25) (q := 15) C (by decide +kernel) (by decide) rfl (fun c12 => ?_) (fun c12 => ?_)
    · refine zz_aload_n (q := 26) (f := 0) (i := 0) C (by decide +kernel) rfl rfl rfl ?_
      refine zz_getR (q := 29) C gf_T_29 (by decide +kernel) rfl (by first | rfl | assumption) hwf.1.2.2.2.1 ?_
      refine zz_iload_n (q := 30) (f := 1) (i := 1) C (by decide +kernel) rfl rfl rfl ?_
      refine zz_callV (q := 33) C (m_O_turnSecond l) cv_T_244 (by decide +kernel) rfl rfl rfl (by first | rfl | assumption) (by decide) (by decide) (Nat.le_of_ble_eq_true rfl) ⟨_, _, rfl, hon, hob, hwf.2.2.2.1, hsw, fun h2 hh => ?_⟩
      have hsm := (or_sm_arr hh).1
      have hps : zz_fR h2 0 4 a = some (t_ps h a) := (hsm.2.2.2.1 0 4 a (by decide)).trans hwf.1.2.2.2.2.1
      refine zz_aload_n (q := 34) (f := 0) (i := 0) C (by decide +kernel) rfl rfl rfl ?_
      refine zz_getR (q := 37) C gf_T_36 (by decide +kernel) rfl (by first | rfl | assumption) hps ?_
      refine zz_callV (q := 40) C (m_Q_standInFrontOfAll l) cv_T_248 (by decide +kernel) rfl rfl rfl (by first | rfl | assumption) (by decide) (by decide) (Nat.le_of_ble_eq_true rfl) ⟨_, rfl, ?_⟩
      refine zz_vret C hr hlk (by decide +kernel) hQ (by decide) (by decide) ?_
      exact hp (zz_b_t c12) h2 hh
    · exact False.elim (hpX (Classical.byContradiction (fun z => zz_b_f c12 z)))
set_option maxRecDepth 100000 in
set_option maxHeartbeats 4000000 in
theorem x_T_bySecond (l : Launch) (hl : l.stackTraces = false) : zz_MetX l y_T_bySecond w_T_bySecond { frames := 7, cells := 1, slots := 6, locals := 146 } (fun as h postX => B_T_bySecond as h (fun _ _ => False) postX) := by
  refine zz_ofX hl (by decide) (fun as h postX hT => ?_) ?_
  · obtain ⟨a, on, rfl, hon, hwf, hob, hsw, hpX, hp⟩ := hT
    exact ⟨by simp [zz_cat], by simp⟩
  · intro D DA h as postX hT p e s m args below meth c Q C hx hnm hQ
    obtain ⟨a, on, rfl, hon, hwf, hob, hsw, hpX, hp⟩ := hT
    refine zz_aload_n (q := 1) (f := 0) (i := 0) C (by decide +kernel) rfl rfl rfl ?_
    refine zz_null (q := 2) C 2 (by decide +kernel) rfl ?_
    refine zz_putR (q := 5) C gf_T_40 (fun h => by cases h) (by decide +kernel) rfl (by first | rfl | assumption) ?_
    show zz_Z p l e _ s m args below meth c Q D DA (zz_A h s.heap.size) h _ _ _ _ (t_h0 h a) 0 0
    
    refine zz_aload_n (q := 6) (f := 0) (i := 0) C (by decide +kernel) rfl rfl rfl ?_
    refine zz_getR (q := 9) C gf_T_29 (by decide +kernel) rfl (by first | rfl | assumption) hwf.1.2.2.2.1 ?_
    refine zz_callV (q := 12) C (m_O_hasSecond l) cv_T_239 (by decide +kernel) rfl rfl rfl (by first | rfl | assumption) (by decide) (by decide) (Nat.le_of_ble_eq_true rfl) ⟨_, rfl, ?_⟩
    refine zz_if_ne (off := 13) (tgt := 25) (q := 15) C (by decide +kernel) (by decide) rfl (fun c12 => ?_) (fun c12 => ?_)
    · refine zz_aload_n (q := 26) (f := 0) (i := 0) C (by decide +kernel) rfl rfl rfl ?_
      refine zz_getR (q := 29) C gf_T_29 (by decide +kernel) rfl (by first | rfl | assumption) hwf.1.2.2.2.1 ?_
      refine zz_iload_n (q := 30) (f := 1) (i := 1) C (by decide +kernel) rfl rfl rfl ?_
      refine zz_callV (q := 33) C (m_O_turnSecond l) cv_T_244 (by decide +kernel) rfl rfl rfl (by first | rfl | assumption) (by decide) (by decide) (Nat.le_of_ble_eq_true rfl) ⟨_, _, rfl, hon, hob, hwf.2.2.2.1, hsw, fun h2 hh => ?_⟩
      have hsm := (or_sm_arr hh).1
      have hps : zz_fR h2 0 4 a = some (t_ps h a) := (hsm.2.2.2.1 0 4 a (by decide)).trans hwf.1.2.2.2.2.1
      refine zz_aload_n (q := 34) (f := 0) (i := 0) C (by decide +kernel) rfl rfl rfl ?_
      refine zz_getR (q := 37) C gf_T_36 (by decide +kernel) rfl (by first | rfl | assumption) hps ?_
      refine zz_callV (q := 40) C (m_Q_standInFrontOfAll l) cv_T_248 (by decide +kernel) rfl rfl rfl (by first | rfl | assumption) (by decide) (by decide) (Nat.le_of_ble_eq_true rfl) ⟨_, rfl, ?_⟩
      exfalso
      exact hp (zz_b_t c12) h2 hh
    · exact zz_throw (q := 21) (i0 := 67) (i1 := 242) (tx := "there is no second order") C hx xx_ownS (by decide +kernel) (zz_in (i := 364) (by decide +kernel) (by decide +kernel)) (zz_in (i := 365) (by decide +kernel) (by decide +kernel)) (zz_in (i := 45) (by decide +kernel) (by decide +kernel)) (by decide +kernel) (by decide +kernel) (by decide +kernel) (Or.inl ⟨by decide +kernel, rfl⟩) (by decide +kernel) (by decide +kernel) hQ (by decide) (by decide) (by decide) (by decide) (by decide) (by decide) (hpX (Classical.byContradiction (fun z => zz_b_f c12 z)))

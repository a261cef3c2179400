/-! SegmentTrees: second, twins, path -/
def B_T_second : zz_TB := fun as h post postX => ∃ a t w, as = [zz_r 0 (some a), zz_i t, zz_i w] ∧ t_ok h a ∧ (t_k h a t = none → postX "java/lang/IllegalArgumentException" (t_h0 h a)) ∧ ∀ k, t_k h a t = some k → (zz_fR h 1 1 k = none → postX "java/lang/IllegalArgumentException" (t_h0 h a)) ∧ ∀ p1, zz_fR h 1 1 k = some p1 → (¬ (0 ≤ w ∧ w < zz_fI h 1 3 k) → postX "java/lang/IllegalArgumentException" (t_h0 h a)) ∧ ((0 ≤ w ∧ w < zz_fI h 1 3 k) → (zz_fI h 0 7 a ≠ 0 → postX "java/lang/IllegalStateException" (t_h0 h a)) ∧ (zz_fI h 0 7 a = 0 → post none (zz_pI (zz_pR (t_h0 h a) 5 3 (t_od h a) (some k)) 5 4 (t_od h a) w)))
set_option maxRecDepth 100000 in
set_option maxHeartbeats 4000000 in
theorem m_T_second (l : Launch) : zz_Met l y_T_second w_T_second { frames := 7, cells := 3, slots := 18, locals := 112 } (fun as h post => B_T_second as h post (fun _ _ => False)) := by
  refine zz_ofZ (by decide) (fun as h post hT => ?_) ?_
  · obtain ⟨a, t, w, rfl, hok, hpX, hp⟩ := hT
    exact ⟨by simp [zz_cat], by simp⟩
  · intro D DA h as post hT p e s m args below meth c Q C hr hlk hnm hQ
    obtain ⟨a, t, w, rfl, hok, hpX, hp⟩ := hT
    refine zz_aload_n (q := 1) (f := 0) (i := 0) C (by decide +kernel) rfl rfl rfl ?_
    refine zz_null (q := 2) C 2 (by decide +kernel) rfl ?_
    refine zz_putR (q := 5) C gf_T_40 (fun h => by cases h) (by decide +kernel) rfl (by first | rfl | assumption) ?_
    show zz_Z p l e _ s m args below meth c Q D DA (zz_A h s.heap.size) h _ _ _ _ (t_h0 h a) 0 0
    have hok0 : t_ok (t_h0 h a) a := hok
    refine zz_aload_n (q := 6) (f := 0) (i := 0) C (by decide +kernel) rfl rfl rfl ?_
    refine zz_iload_n (q := 7) (f := 1) (i := 1) C (by decide +kernel) rfl rfl rfl ?_
    rcases opt_em (t_k h a t) with tc7 | ⟨tk7, tc7⟩
    · exact False.elim (hpX tc7)
    refine zz_callV (q := 10) C (m_T_declaredKind l) cv_T_78 (by decide +kernel) rfl rfl rfl (by first | rfl | assumption) (by decide) (by decide) (Nat.le_of_ble_eq_true rfl) ⟨_, _, rfl, hok0, fun z => absurd (tc7.symm.trans z) (Option.some_ne_none _), fun k9 hk9 => ?_⟩
    obtain rfl := Option.some.inj (tc7.symm.trans hk9)
    refine zz_astore_n (q := 11) (f := 3) (i := 3) C (by decide +kernel) rfl rfl (by decide) rfl ?_
    refine zz_aload_n (q := 12) (f := 3) (i := 3) C (by decide +kernel) rfl rfl rfl ?_
    refine zz_getR (q := 15) C gf_T_103 (by decide +kernel) rfl (by first | rfl | assumption) rfl ?_
    refine zz_ifnonnull (off := 13) (tgt := 28) (q := 18) C (by decide +kernel) (by decide) rfl (fun a15 c15 => ?_) (fun c15 => ?_)
    · refine zz_aload_n (q := 29) (f := 3) (i := 3) C (by decide +kernel) rfl rfl rfl ?_
      refine zz_iload_n (q := 30) (f := 2) (i := 2) C (by decide +kernel) rfl rfl rfl ?_
      refine zz_callV (q := 33) C (m_K_hasWord l) cv_T_108 (by decide +kernel) rfl rfl rfl (by first | rfl | assumption) (by decide) (by decide) (Nat.le_of_ble_eq_true rfl) ⟨_, _, rfl, ?_⟩
      refine zz_if_ne (off := 13) (tgt := 46) (q := 36) C (by decide +kernel) (by decide) rfl (fun c33 => ?_) (fun c33 => ?_)
      · refine zz_aload_n (q := 47) (f := 0) (i := 0) C (by decide +kernel) rfl rfl rfl ?_
        rcases Classical.em (zz_fI h 0 7 a ≠ 0) with tc47 | tc47
        · exact False.elim ((((hp _ tc7).2 _ c15).2 (zz_b_t c33)).1 tc47)
        refine zz_callV (q := 50) C (m_T_refuseAfterInsert l) cv_T_72 (by decide +kernel) rfl rfl rfl (by first | rfl | assumption) (by decide) (by decide) (Nat.le_of_ble_eq_true rfl) ⟨_, rfl, fun z => absurd z tc47, fun hz9 => ?_⟩
        refine zz_aload_n (q := 51) (f := 0) (i := 0) C (by decide +kernel) rfl rfl rfl ?_
        refine zz_getR (q := 54) C gf_T_29 (by decide +kernel) rfl (by first | rfl | assumption) hok.2.2.2.1 ?_
        refine zz_aload_n (q := 55) (f := 3) (i := 3) C (by decide +kernel) rfl rfl rfl ?_
        refine zz_iload_n (q := 56) (f := 2) (i := 2) C (by decide +kernel) rfl rfl rfl ?_
        refine zz_callV (q := 59) C (m_O_nameSecond l) cv_T_114 (by decide +kernel) rfl rfl rfl (by first | rfl | assumption) (by decide) (by decide) (Nat.le_of_ble_eq_true rfl) ⟨_, _, _, rfl, ?_⟩
        refine zz_vret C hr hlk (by decide +kernel) hQ (by decide) (by decide) ?_
        exact (((hp _ tc7).2 _ c15).2 (zz_b_t c33)).2 hz9
      · exact False.elim (((hp _ tc7).2 _ c15).1 (zz_b_f c33))
    · exact False.elim ((hp _ tc7).1 c15)
set_option maxRecDepth 100000 in
set_option maxHeartbeats 4000000 in
theorem x_T_second (l : Launch) (hl : l.stackTraces = false) : zz_MetX l y_T_second w_T_second { frames := 7, cells := 3, slots := 18, locals := 112 } (fun as h postX => B_T_second as h (fun _ _ => False) postX) := by
  refine zz_ofX hl (by decide) (fun as h postX hT => ?_) ?_
  · obtain ⟨a, t, w, rfl, hok, hpX, hp⟩ := hT
    exact ⟨by simp [zz_cat], by simp⟩
  · intro D DA h as postX hT p e s m args below meth c Q C hx hnm hQ
    obtain ⟨a, t, w, rfl, hok, hpX, hp⟩ := hT
    refine zz_aload_n (q := 1) (f := 0) (i := 0) C (by decide +kernel) rfl rfl rfl ?_
    refine zz_null (q := 2) C 2 (by decide +kernel) rfl ?_
    refine zz_putR (q := 5) C gf_T_40 (fun h => by cases h) (by decide +kernel) rfl (by first | rfl | assumption) ?_
    show zz_Z p l e _ s m args below meth c Q D DA (zz_A h s.heap.size) h _ _ _ _ (t_h0 h a) 0 0
    have hok0 : t_ok (t_h0 h a) a := hok
    refine zz_aload_n (q := 6) (f := 0) (i := 0) C (by decide +kernel) rfl rfl rfl ?_
    refine zz_iload_n (q := 7) (f := 1) (i := 1) C (by decide +kernel) rfl rfl rfl ?_
    rcases opt_em (t_k h a t) with tc7 | ⟨tk7, tc7⟩
    · exact zz_callVX C hx (x_T_declaredKind l hl) cv_T_78 (by decide +kernel) rfl rfl (by first | rfl | assumption) (by decide) (by decide) (Nat.le_of_ble_eq_true rfl) hQ (by decide) (by decide) ⟨_, _, rfl, hok0, fun _ => (hpX tc7), fun k9 hk9 => absurd (hk9.symm.trans tc7) (Option.some_ne_none k9)⟩
    refine zz_callV (q := 10) C (m_T_declaredKind l) cv_T_78 (by decide +kernel) rfl rfl rfl (by first | rfl | assumption) (by decide) (by decide) (Nat.le_of_ble_eq_true rfl) ⟨_, _, rfl, hok0, fun z => absurd (tc7.symm.trans z) (Option.some_ne_none _), fun k9 hk9 => ?_⟩
    obtain rfl := Option.some.inj (tc7.symm.trans hk9)
    refine zz_astore_n (q := 11) (f := 3) (i := 3) C (by decide +kernel) rfl rfl (by decide) rfl ?_
    refine zz_aload_n (q := 12) (f := 3) (i := 3) C (by decide +kernel) rfl rfl rfl ?_
    refine zz_getR (q := 15) C gf_T_103 (by decide +kernel) rfl (by first | rfl | assumption) rfl ?_
    refine zz_ifnonnull (off := 13) (tgt := 28) (q := 18) C (by decide +kernel) (by decide) rfl (fun a15 c15 => ?_) (fun c15 => ?_)
    · refine zz_aload_n (q := 29) (f := 3) (i := 3) C (by decide +kernel) rfl rfl rfl ?_
      refine zz_iload_n (q := 30) (f := 2) (i := 2) C (by decide +kernel) rfl rfl rfl ?_
      refine zz_callV (q := 33) C (m_K_hasWord l) cv_T_108 (by decide +kernel) rfl rfl rfl (by first | rfl | assumption) (by decide) (by decide) (Nat.le_of_ble_eq_true rfl) ⟨_, _, rfl, ?_⟩
      refine zz_if_ne (off := 13) (tgt := 46) (q := 36) C (by decide +kernel) (by decide) rfl (fun c33 => ?_) (fun c33 => ?_)
      · refine zz_aload_n (q := 47) (f := 0) (i := 0) C (by decide +kernel) rfl rfl rfl ?_
        rcases Classical.em (zz_fI h 0 7 a ≠ 0) with tc47 | tc47
        · exact zz_callVX C hx (x_T_refuseAfterInsert l hl) cv_T_72 (by decide +kernel) rfl rfl (by first | rfl | assumption) (by decide) (by decide) (Nat.le_of_ble_eq_true rfl) hQ (by decide) (by decide) ⟨_, rfl, fun _ => ((((hp _ tc7).2 _ c15).2 (zz_b_t c33)).1 tc47), fun z => absurd z tc47⟩
        refine zz_callV (q := 50) C (m_T_refuseAfterInsert l) cv_T_72 (by decide +kernel) rfl rfl rfl (by first | rfl | assumption) (by decide) (by decide) (Nat.le_of_ble_eq_true rfl) ⟨_, rfl, fun z => absurd z tc47, fun hz9 => ?_⟩
        refine zz_aload_n (q := 51) (f := 0) (i := 0) C (by decide +kernel) rfl rfl rfl ?_
        refine zz_getR (q := 54) C gf_T_29 (by decide +kernel) rfl (by first | rfl | assumption) hok.2.2.2.1 ?_
        refine zz_aload_n (q := 55) (f := 3) (i := 3) C (by decide +kernel) rfl rfl rfl ?_
        refine zz_iload_n (q := 56) (f := 2) (i := 2) C (by decide +kernel) rfl rfl rfl ?_
        refine zz_callV (q := 59) C (m_O_nameSecond l) cv_T_114 (by decide +kernel) rfl rfl rfl (by first | rfl | assumption) (by decide) (by decide) (Nat.le_of_ble_eq_true rfl) ⟨_, _, _, rfl, ?_⟩
        exfalso
        exact (((hp _ tc7).2 _ c15).2 (zz_b_t c33)).2 hz9
      · exact zz_throw (q := 42) (i0 := 44) (i1 := 112) (tx := "the type has no such word") C hx xx_ownA (by decide +kernel) (zz_in (i := 288) (by decide +kernel) (by decide +kernel)) (zz_in (i := 289) (by decide +kernel) (by decide +kernel)) (zz_in (i := 44) (by decide +kernel) (by decide +kernel)) (by decide +kernel) (by decide +kernel) (by decide +kernel) (Or.inl ⟨by decide +kernel, rfl⟩) (by decide +kernel) (by decide +kernel) hQ (by decide) (by decide) (by decide) (by decide) (by decide) (by decide) (((hp _ tc7).2 _ c15).1 (zz_b_f c33))
    · exact zz_throw (q := 24) (i0 := 44) (i1 := 106) (tx := "it is a root type") C hx xx_ownA (by decide +kernel) (zz_in (i := 288) (by decide +kernel) (by decide +kernel)) (zz_in (i := 289) (by decide +kernel) (by decide +kernel)) (zz_in (i := 44) (by decide +kernel) (by decide +kernel)) (by decide +kernel) (by decide +kernel) (by decide +kernel) (Or.inl ⟨by decide +kernel, rfl⟩) (by decide +kernel) (by decide +kernel) hQ (by decide) (by decide) (by decide) (by decide) (by decide) (by decide) ((hp _ tc7).1 c15)

def B_T_twins : zz_TB := fun as h post postX => ∃ a t u, as = [zz_r 0 (some a), zz_i t, zz_i u] ∧ t_ok h a ∧ (t_k h a t = none → postX "java/lang/IllegalArgumentException" (t_h0 h a)) ∧ ∀ k1, t_k h a t = some k1 → (t_k h a u = none → postX "java/lang/IllegalArgumentException" (t_h0 h a)) ∧ ∀ k2, t_k h a u = some k2 → (k1 = k2 → postX "java/lang/IllegalArgumentException" (t_h0 h a)) ∧ (k1 ≠ k2 → ((zz_fI h 1 3 k1 ≠ zz_fI h 1 3 k2 ∨ zz_fI h 1 4 k1 ≠ zz_fI h 1 4 k2) → postX "java/lang/IllegalArgumentException" (t_h0 h a)) ∧ (zz_fI h 1 3 k1 = zz_fI h 1 3 k2 ∧ zz_fI h 1 4 k1 = zz_fI h 1 4 k2 → (zz_fI h 1 4 k1 = -1 → postX "java/lang/IllegalArgumentException" (t_h0 h a)) ∧ (zz_fI h 1 4 k1 ≠ -1 → ((zz_fR h 1 7 k1 ≠ none ∨ zz_fR h 1 7 k2 ≠ none) → postX "java/lang/IllegalStateException" (t_h0 h a)) ∧ (zz_fR h 1 7 k1 = none ∧ zz_fR h 1 7 k2 = none → (zz_fI h 0 7 a ≠ 0 → postX "java/lang/IllegalStateException" (t_h0 h a)) ∧ (zz_fI h 0 7 a = 0 → post none (zz_pR (zz_pR (t_h0 h a) 1 7 k1 (some k2)) 1 7 k2 (some k1)))))))
set_option maxRecDepth 100000 in
set_option maxHeartbeats 4000000 in
theorem m_T_twins (l : Launch) : zz_Met l y_T_twins w_T_twins { frames := 7, cells := 4, slots := 24, locals := 112 } (fun as h post => B_T_twins as h post (fun _ _ => False)) := by
  refine zz_ofZ (by decide) (fun as h post hT => ?_) ?_
  · obtain ⟨a, t, u, rfl, hok, hpX, hp⟩ := hT
    exact ⟨by simp [zz_cat], by simp⟩
  · intro D DA h as post hT p e s m args below meth c Q C hr hlk hnm hQ
    obtain ⟨a, t, u, rfl, hok, hpX, hp⟩ := hT
    refine zz_aload_n (q := 1) (f := 0) (i := 0) C (by decide +kernel) rfl rfl rfl ?_
    refine zz_null (q := 2) C 2 (by decide +kernel) rfl ?_
    refine zz_putR (q := 5) C gf_T_40 (fun h => by cases h) (by decide +kernel) rfl (by first | rfl | assumption) ?_
    show zz_Z p l e _ s m args below meth c Q D DA (zz_A h s.heap.size) h _ _ _ _ (t_h0 h a) 0 0
    have hok0 : t_ok (t_h0 h a) a := hok
    refine zz_aload_n (q := 6) (f := 0) (i := 0) C (by decide +kernel) rfl rfl rfl ?_
    refine zz_iload_n (q := 7) (f := 1) (i := 1) C (by decide +kernel) rfl rfl rfl ?_
    rcases opt_em (t_k h a t) with tc7 | ⟨tk7, tc7⟩
    · exact False.elim (hpX tc7)
    refine zz_callV (q := 10) C (m_T_declaredKind l) cv_T_78 (by decide +kernel) rfl rfl rfl (by first | rfl | assumption) (by decide) (by decide) (Nat.le_of_ble_eq_true rfl) ⟨_, _, rfl, hok0, fun z => absurd (tc7.symm.trans z) (Option.some_ne_none _), fun k9 hk9 => ?_⟩
    obtain rfl := Option.some.inj (tc7.symm.trans hk9)
    refine zz_astore_n (q := 11) (f := 3) (i := 3) C (by decide +kernel) rfl rfl (by decide) rfl ?_
    refine zz_aload_n (q := 12) (f := 0) (i := 0) C (by decide +kernel) rfl rfl rfl ?_
    refine zz_iload_n (q := 13) (f := 2) (i := 2) C (by decide +kernel) rfl rfl rfl ?_
    rcases opt_em (t_k h a u) with tc13 | ⟨tk13, tc13⟩
    · exact False.elim ((hp _ tc7).1 tc13)
    refine zz_callV (q := 16) C (m_T_declaredKind l) cv_T_78 (by decide +kernel) rfl rfl rfl (by first | rfl | assumption) (by decide) (by decide) (Nat.le_of_ble_eq_true rfl) ⟨_, _, rfl, hok0, fun z => absurd (tc13.symm.trans z) (Option.some_ne_none _), fun k9 hk9 => ?_⟩
    obtain rfl := Option.some.inj (tc13.symm.trans hk9)
    refine zz_astore (q := 18) (i := 4) C (by decide +kernel) rfl (by decide) rfl ?_
    refine zz_aload_n (q := 19) (f := 3) (i := 3) C (by decide +kernel) rfl rfl rfl ?_
    refine zz_aload (q := 21) (i := 4) C (by decide +kernel) rfl rfl ?_
    refine zz_acmp_ne (off := 13) (tgt := 34) (q := 24) C (by decide +kernel) (by decide) rfl (fun c21 => ?_) (fun c21 => ?_)
    · refine zz_aload_n (q := 35) (f := 3) (i := 3) C (by decide +kernel) rfl rfl rfl ?_
      refine zz_getI (q := 38) C gf_T_83 (by decide +kernel) rfl (by first | rfl | assumption) rfl ?_
      refine zz_aload (q := 40) (i := 4) C (by decide +kernel) rfl rfl ?_
      refine zz_getI (q := 43) C gf_T_83 (by decide +kernel) rfl (by first | rfl | assumption) rfl ?_
      refine zz_icmp_ne (off := 15) (tgt := 58) (q := 46) C (by decide +kernel) (by decide) rfl (fun c43 => ?_) (fun c43 => ?_)
      · exact False.elim ((((hp _ tc7).2 _ tc13).2 (fun z => c21 (congrArg some z))).1 (Or.inl c43))
      · refine zz_aload_n (q := 47) (f := 3) (i := 3) C (by decide +kernel) rfl rfl rfl ?_
        refine zz_getI (q := 50) C gf_T_86 (by decide +kernel) rfl (by first | rfl | assumption) rfl ?_
        refine zz_aload (q := 52) (i := 4) C (by decide +kernel) rfl rfl ?_
        refine zz_getI (q := 55) C gf_T_86 (by decide +kernel) rfl (by first | rfl | assumption) rfl ?_
        refine zz_icmp_eq (off := 13) (tgt := 68) (q := 58) C (by decide +kernel) (by decide) rfl (fun c55 => ?_) (fun c55 => ?_)
        · refine zz_aload_n (q := 69) (f := 3) (i := 3) C (by decide +kernel) rfl rfl rfl ?_
          refine zz_callV (q := 72) C (m_K_hasSequence l) cv_T_91 (by decide +kernel) rfl rfl rfl (by first | rfl | assumption) (by decide) (by decide) (Nat.le_of_ble_eq_true rfl) ⟨_, rfl, ?_⟩
          refine zz_if_ne (off := 13) (tgt := 85) (q := 75) C (by decide +kernel) (by decide) rfl (fun c72 => ?_) (fun c72 => ?_)
          · refine zz_aload_n (q := 86) (f := 3) (i := 3) C (by decide +kernel) rfl rfl rfl ?_
            refine zz_getR (q := 89) C gf_T_97 (by decide +kernel) rfl (by first | rfl | assumption) rfl ?_
            refine zz_ifnonnull (off := 11) (tgt := 100) (q := 92) C (by decide +kernel) (by decide) rfl (fun a89 c89 => ?_) (fun c89 => ?_)
            · exact False.elim ((((((hp _ tc7).2 _ tc13).2 (fun z => c21 (congrArg some z))).2 ⟨c43, c55⟩).2 (zz_b_t c72)).1 (Or.inl (fun z => absurd (c89.symm.trans z) (Option.some_ne_none _))))
            · refine zz_aload (q := 94) (i := 4) C (by decide +kernel) rfl rfl ?_
              refine zz_getR (q := 97) C gf_T_97 (by decide +kernel) rfl (by first | rfl | assumption) rfl ?_
              refine zz_ifnull (off := 13) (tgt := 110) (q := 100) C (by decide +kernel) (by decide) rfl (fun c97 => ?_) (fun a97 c97 => ?_)
              · refine zz_aload_n (q := 111) (f := 0) (i := 0) C (by decide +kernel) rfl rfl rfl ?_
                rcases Classical.em (zz_fI h 0 7 a ≠ 0) with tc111 | tc111
                · exact False.elim (((((((hp _ tc7).2 _ tc13).2 (fun z => c21 (congrArg some z))).2 ⟨c43, c55⟩).2 (zz_b_t c72)).2 ⟨c89, c97⟩).1 tc111)
                refine zz_callV (q := 114) C (m_T_refuseAfterInsert l) cv_T_72 (by decide +kernel) rfl rfl rfl (by first | rfl | assumption) (by decide) (by decide) (Nat.le_of_ble_eq_true rfl) ⟨_, rfl, fun z => absurd z tc111, fun hz9 => ?_⟩
                refine zz_aload_n (q := 115) (f := 3) (i := 3) C (by decide +kernel) rfl rfl rfl ?_
                refine zz_aload (q := 117) (i := 4) C (by decide +kernel) rfl rfl ?_
                refine zz_putR (q := 120) C gf_T_97 (fun h => by cases h) (by decide +kernel) rfl (by first | rfl | assumption) ?_
                refine zz_aload (q := 122) (i := 4) C (by decide +kernel) rfl rfl ?_
                refine zz_aload_n (q := 123) (f := 3) (i := 3) C (by decide +kernel) rfl rfl rfl ?_
                refine zz_putR (q := 126) C gf_T_97 (fun h => by cases h) (by decide +kernel) rfl (by first | rfl | assumption) ?_
                refine zz_vret C hr hlk (by decide +kernel) hQ (by decide) (by decide) ?_
                exact (((((((hp _ tc7).2 _ tc13).2 (fun z => c21 (congrArg some z))).2 ⟨c43, c55⟩).2 (zz_b_t c72)).2 ⟨c89, c97⟩).2 hz9)
              · exact False.elim ((((((hp _ tc7).2 _ tc13).2 (fun z => c21 (congrArg some z))).2 ⟨c43, c55⟩).2 (zz_b_t c72)).1 (Or.inr (fun z => absurd (c97.symm.trans z) (Option.some_ne_none _))))
          · exact False.elim (((((hp _ tc7).2 _ tc13).2 (fun z => c21 (congrArg some z))).2 ⟨c43, c55⟩).1 (Classical.byContradiction (fun z => zz_b_f c72 z)))
        · exact False.elim ((((hp _ tc7).2 _ tc13).2 (fun z => c21 (congrArg some z))).1 (Or.inr c55))
    · exact False.elim (((hp _ tc7).2 _ tc13).1 (Option.some.inj c21))
set_option maxRecDepth 100000 in
set_option maxHeartbeats 4000000 in
theorem x_T_twins (l : Launch) (hl : l.stackTraces = false) : zz_MetX l y_T_twins w_T_twins { frames := 7, cells := 4, slots := 24, locals := 112 } (fun as h postX => B_T_twins as h (fun _ _ => False) postX) := by
  refine zz_ofX hl (by decide) (fun as h postX hT => ?_) ?_
  · obtain ⟨a, t, u, rfl, hok, hpX, hp⟩ := hT
    exact ⟨by simp [zz_cat], by simp⟩
  · intro D DA h as postX hT p e s m args below meth c Q C hx hnm hQ
    obtain ⟨a, t, u, rfl, hok, hpX, hp⟩ := hT
    refine zz_aload_n (q := 1) (f := 0) (i := 0) C (by decide +kernel) rfl rfl rfl ?_
    refine zz_null (q := 2) C 2 (by decide +kernel) rfl ?_
    refine zz_putR (q := 5) C gf_T_40 (fun h => by cases h) (by decide +kernel) rfl (by first | rfl | assumption) ?_
    show zz_Z p l e _ s m args below meth c Q D DA (zz_A h s.heap.size) h _ _ _ _ (t_h0 h a) 0 0
    have hok0 : t_ok (t_h0 h a) a := hok
    refine zz_aload_n (q := 6) (f := 0) (i := 0) C (by decide +kernel) rfl rfl rfl ?_
    refine zz_iload_n (q := 7) (f := 1) (i := 1) C (by decide +kernel) rfl rfl rfl ?_
    rcases opt_em (t_k h a t) with tc7 | ⟨tk7, tc7⟩
    · exact zz_callVX C hx (x_T_declaredKind l hl) cv_T_78 (by decide +kernel) rfl rfl (by first | rfl | assumption) (by decide) (by decide) (Nat.le_of_ble_eq_true rfl) hQ (by decide) (by decide) ⟨_, _, rfl, hok0, fun _ => (hpX tc7), fun k9 hk9 => absurd (hk9.symm.trans tc7) (Option.some_ne_none k9)⟩
    refine zz_callV (q := 10) C (m_T_declaredKind l) cv_T_78 (by decide +kernel) rfl rfl rfl (by first | rfl | assumption) (by decide) (by decide) (Nat.le_of_ble_eq_true rfl) ⟨_, _, rfl, hok0, fun z => absurd (tc7.symm.trans z) (Option.some_ne_none _), fun k9 hk9 => ?_⟩
    obtain rfl := Option.some.inj (tc7.symm.trans hk9)
    refine zz_astore_n (q := 11) (f := 3) (i := 3) C (by decide +kernel) rfl rfl (by decide) rfl ?_
    refine zz_aload_n (q := 12) (f := 0) (i := 0) C (by decide +kernel) rfl rfl rfl ?_
    refine zz_iload_n (q := 13) (f := 2) (i := 2) C (by decide +kernel) rfl rfl rfl ?_
    rcases opt_em (t_k h a u) with tc13 | ⟨tk13, tc13⟩
    · exact zz_callVX C hx (x_T_declaredKind l hl) cv_T_78 (by decide +kernel) rfl rfl (by first | rfl | assumption) (by decide) (by decide) (Nat.le_of_ble_eq_true rfl) hQ (by decide) (by decide) ⟨_, _, rfl, hok0, fun _ => ((hp _ tc7).1 tc13), fun k9 hk9 => absurd (hk9.symm.trans tc13) (Option.some_ne_none k9)⟩
    refine zz_callV (q := 16) C (m_T_declaredKind l) cv_T_78 (by decide +kernel) rfl rfl rfl (by first | rfl | assumption) (by decide) (by decide) (Nat.le_of_ble_eq_true rfl) ⟨_, _, rfl, hok0, fun z => absurd (tc13.symm.trans z) (Option.some_ne_none _), fun k9 hk9 => ?_⟩
    obtain rfl := Option.some.inj (tc13.symm.trans hk9)
    refine zz_astore (q := 18) (i := 4) C (by decide +kernel) rfl (by decide) rfl ?_
    refine zz_aload_n (q := 19) (f := 3) (i := 3) C (by decide +kernel) rfl rfl rfl ?_
    refine zz_aload (q := 21) (i := 4) C (by decide +kernel) rfl rfl ?_
    refine zz_acmp_ne (off := 13) (tgt := 34) (q := 24) C (by decide +kernel) (by decide) rfl (fun c21 => ?_) (fun c21 => ?_)
    · refine zz_aload_n (q := 35) (f := 3) (i := 3) C (by decide +kernel) rfl rfl rfl ?_
      refine zz_getI (q := 38) C gf_T_83 (by decide +kernel) rfl (by first | rfl | assumption) rfl ?_
      refine zz_aload (q := 40) (i := 4) C (by decide +kernel) rfl rfl ?_
      refine zz_getI (q := 43) C gf_T_83 (by decide +kernel) rfl (by first | rfl | assumption) rfl ?_
      refine zz_icmp_ne (off := 15) (tgt := 58) (q := 46) C (by decide +kernel) (by decide) rfl (fun c43 => ?_) (fun c43 => ?_)
      · exact zz_throw (q := 64) (i0 := 44) (i1 := 89) (tx := "the types are not alike") C hx xx_ownA (by decide +kernel) (zz_in (i := 288) (by decide +kernel) (by decide +kernel)) (zz_in (i := 289) (by decide +kernel) (by decide +kernel)) (zz_in (i := 44) (by decide +kernel) (by decide +kernel)) (by decide +kernel) (by decide +kernel) (by decide +kernel) (Or.inl ⟨by decide +kernel, rfl⟩) (by decide +kernel) (by decide +kernel) hQ (by decide) (by decide) (by decide) (by decide) (by decide) (by decide) ((((hp _ tc7).2 _ tc13).2 (fun z => c21 (congrArg some z))).1 (Or.inl c43))
      · refine zz_aload_n (q := 47) (f := 3) (i := 3) C (by decide +kernel) rfl rfl rfl ?_
        refine zz_getI (q := 50) C gf_T_86 (by decide +kernel) rfl (by first | rfl | assumption) rfl ?_
        refine zz_aload (q := 52) (i := 4) C (by decide +kernel) rfl rfl ?_
        refine zz_getI (q := 55) C gf_T_86 (by decide +kernel) rfl (by first | rfl | assumption) rfl ?_
        refine zz_icmp_eq (off := 13) (tgt := 68) (q := 58) C (by decide +kernel) (by decide) rfl (fun c55 => ?_) (fun c55 => ?_)
        · refine zz_aload_n (q := 69) (f := 3) (i := 3) C (by decide +kernel) rfl rfl rfl ?_
          refine zz_callV (q := 72) C (m_K_hasSequence l) cv_T_91 (by decide +kernel) rfl rfl rfl (by first | rfl | assumption) (by decide) (by decide) (Nat.le_of_ble_eq_true rfl) ⟨_, rfl, ?_⟩
          refine zz_if_ne (off := 13) (tgt := 85) (q := 75) C (by decide +kernel) (by decide) rfl (fun c72 => ?_) (fun c72 => ?_)
          · refine zz_aload_n (q := 86) (f := 3) (i := 3) C (by decide +kernel) rfl rfl rfl ?_
            refine zz_getR (q := 89) C gf_T_97 (by decide +kernel) rfl (by first | rfl | assumption) rfl ?_
            refine zz_ifnonnull (off := 11) (tgt := 100) (q := 92) C (by decide +kernel) (by decide) rfl (fun a89 c89 => ?_) (fun c89 => ?_)
            · exact zz_throw (q := 106) (i0 := 67) (i1 := 101) (tx := "a type has a twin") C hx xx_ownS (by decide +kernel) (zz_in (i := 364) (by decide +kernel) (by decide +kernel)) (zz_in (i := 365) (by decide +kernel) (by decide +kernel)) (zz_in (i := 45) (by decide +kernel) (by decide +kernel)) (by decide +kernel) (by decide +kernel) (by decide +kernel) (Or.inl ⟨by decide +kernel, rfl⟩) (by decide +kernel) (by decide +kernel) hQ (by decide) (by decide) (by decide) (by decide) (by decide) (by decide) ((((((hp _ tc7).2 _ tc13).2 (fun z => c21 (congrArg some z))).2 ⟨c43, c55⟩).2 (zz_b_t c72)).1 (Or.inl (fun z => absurd (c89.symm.trans z) (Option.some_ne_none _))))
            · refine zz_aload (q := 94) (i := 4) C (by decide +kernel) rfl rfl ?_
              refine zz_getR (q := 97) C gf_T_97 (by decide +kernel) rfl (by first | rfl | assumption) rfl ?_
              refine zz_ifnull (off := 13) (tgt := 110) (q := 100) C (by decide +kernel) (by decide) rfl (fun c97 => ?_) (fun a97 c97 => ?_)
              · refine zz_aload_n (q := 111) (f := 0) (i := 0) C (by decide +kernel) rfl rfl rfl ?_
                rcases Classical.em (zz_fI h 0 7 a ≠ 0) with tc111 | tc111
                · exact zz_callVX C hx (x_T_refuseAfterInsert l hl) cv_T_72 (by decide +kernel) rfl rfl (by first | rfl | assumption) (by decide) (by decide) (Nat.le_of_ble_eq_true rfl) hQ (by decide) (by decide) ⟨_, rfl, fun _ => (((((((hp _ tc7).2 _ tc13).2 (fun z => c21 (congrArg some z))).2 ⟨c43, c55⟩).2 (zz_b_t c72)).2 ⟨c89, c97⟩).1 tc111), fun z => absurd z tc111⟩
                refine zz_callV (q := 114) C (m_T_refuseAfterInsert l) cv_T_72 (by decide +kernel) rfl rfl rfl (by first | rfl | assumption) (by decide) (by decide) (Nat.le_of_ble_eq_true rfl) ⟨_, rfl, fun z => absurd z tc111, fun hz9 => ?_⟩
                refine zz_aload_n (q := 115) (f := 3) (i := 3) C (by decide +kernel) rfl rfl rfl ?_
                refine zz_aload (q := 117) (i := 4) C (by decide +kernel) rfl rfl ?_
                refine zz_putR (q := 120) C gf_T_97 (fun h => by cases h) (by decide +kernel) rfl (by first | rfl | assumption) ?_
                refine zz_aload (q := 122) (i := 4) C (by decide +kernel) rfl rfl ?_
                refine zz_aload_n (q := 123) (f := 3) (i := 3) C (by decide +kernel) rfl rfl rfl ?_
                refine zz_putR (q := 126) C gf_T_97 (fun h => by cases h) (by decide +kernel) rfl (by first | rfl | assumption) ?_
                exfalso
                exact (((((((hp _ tc7).2 _ tc13).2 (fun z => c21 (congrArg some z))).2 ⟨c43, c55⟩).2 (zz_b_t c72)).2 ⟨c89, c97⟩).2 hz9)
              · exact zz_throw (q := 106) (i0 := 67) (i1 := 101) (tx := "a type has a twin") C hx xx_ownS (by decide +kernel) (zz_in (i := 364) (by decide +kernel) (by decide +kernel)) (zz_in (i := 365) (by decide +kernel) (by decide +kernel)) (zz_in (i := 45) (by decide +kernel) (by decide +kernel)) (by decide +kernel) (by decide +kernel) (by decide +kernel) (Or.inl ⟨by decide +kernel, rfl⟩) (by decide +kernel) (by decide +kernel) hQ (by decide) (by decide) (by decide) (by decide) (by decide) (by decide) ((((((hp _ tc7).2 _ tc13).2 (fun z => c21 (congrArg some z))).2 ⟨c43, c55⟩).2 (zz_b_t c72)).1 (Or.inr (fun z => absurd (c97.symm.trans z) (Option.some_ne_none _))))
          · exact zz_throw (q := 81) (i0 := 44) (i1 := 95) (tx := "the types have no sequence") C hx xx_ownA (by decide +kernel) (zz_in (i := 288) (by decide +kernel) (by decide +kernel)) (zz_in (i := 289) (by decide +kernel) (by decide +kernel)) (zz_in (i := 44) (by decide +kernel) (by decide +kernel)) (by decide +kernel) (by decide +kernel) (by decide +kernel) (Or.inl ⟨by decide +kernel, rfl⟩) (by decide +kernel) (by decide +kernel) hQ (by decide) (by decide) (by decide) (by decide) (by decide) (by decide) (((((hp _ tc7).2 _ tc13).2 (fun z => c21 (congrArg some z))).2 ⟨c43, c55⟩).1 (Classical.byContradiction (fun z => zz_b_f c72 z)))
        · exact zz_throw (q := 64) (i0 := 44) (i1 := 89) (tx := "the types are not alike") C hx xx_ownA (by decide +kernel) (zz_in (i := 288) (by decide +kernel) (by decide +kernel)) (zz_in (i := 289) (by decide +kernel) (by decide +kernel)) (zz_in (i := 44) (by decide +kernel) (by decide +kernel)) (by decide +kernel) (by decide +kernel) (by decide +kernel) (Or.inl ⟨by decide +kernel, rfl⟩) (by decide +kernel) (by decide +kernel) hQ (by decide) (by decide) (by decide) (by decide) (by decide) (by decide) ((((hp _ tc7).2 _ tc13).2 (fun z => c21 (congrArg some z))).1 (Or.inr c55))
    · exact zz_throw (q := 30) (i0 := 44) (i1 := 81) (tx := "a type is not its own twin") C hx xx_ownA (by decide +kernel) (zz_in (i := 288) (by decide +kernel) (by decide +kernel)) (zz_in (i := 289) (by decide +kernel) (by decide +kernel)) (zz_in (i := 44) (by decide +kernel) (by decide +kernel)) (by decide +kernel) (by decide +kernel) (by decide +kernel) (Or.inl ⟨by decide +kernel, rfl⟩) (by decide +kernel) (by decide +kernel) hQ (by decide) (by decide) (by decide) (by decide) (by decide) (by decide) (((hp _ tc7).2 _ tc13).1 (Option.some.inj c21))

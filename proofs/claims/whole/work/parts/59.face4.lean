/-! SegmentTrees: path, replace, delete -/
def pa_cn (h : zz_H) (q lv k : Nat) : Prop := zz_fR h 3 0 (pa_l h q lv) ≠ none ∧ zz_fR h 3 0 (pa_l h q lv) ≠ some k
def pa_ad (h : zz_H) (q lv k : Nat) (w op n : Int32) : zz_H := zz_pI (zz_sI (zz_sI (zz_sI (zz_pR h 3 0 (pa_l h q lv) (some k)) (pl_w h (pa_l h q lv)) (pl_c h (pa_l h q lv)) w) (pl_o h (pa_l h q lv)) (pl_c h (pa_l h q lv)) op) (pl_n h (pa_l h q lv)) (pl_c h (pa_l h q lv)) n) 3 1 (pa_l h q lv) (nI (pl_c h (pa_l h q lv) + 1))
def B_T_path : zz_TB := fun as h post postX => ∃ a t w op n, as = [zz_r 0 (some a), zz_i t, zz_i w, zz_i op, zz_i n] ∧ t_ok h a ∧ pa_ok h (t_pa h a) ∧ kd_lv h ∧ (t_k h a t = none → postX "java/lang/IllegalArgumentException" (t_h0 h a)) ∧ ∀ k, t_k h a t = some k → (¬ (0 ≤ op ∧ op ≤ 6) → postX "java/lang/IllegalArgumentException" (t_h0 h a)) ∧ (0 ≤ op ∧ op ≤ 6 → (op = 0 → ∀ lv, lv < 4 → zz_fI h 1 2 k = nI (lv + 1) → (pa_cn h (t_pa h a) lv k → post (some (zz_i 0)) (t_h0 h a)) ∧ (¬ pa_cn h (t_pa h a) lv k → post (some (zz_i 1)) (zz_pR (t_h0 h a) 3 0 (pa_l h (t_pa h a) lv) (some k)))) ∧ (op ≠ 0 → (¬ (0 ≤ w ∧ w < zz_fI h 1 3 k) → postX "java/lang/IllegalArgumentException" (t_h0 h a)) ∧ ((0 ≤ w ∧ w < zz_fI h 1 3 k) → ∀ lv, lv < 4 → zz_fI h 1 2 k = nI (lv + 1) → ((3 ≤ pl_c h (pa_l h (t_pa h a) lv) ∨ pa_cn h (t_pa h a) lv k) → post (some (zz_i 0)) (t_h0 h a)) ∧ (¬ (3 ≤ pl_c h (pa_l h (t_pa h a) lv) ∨ pa_cn h (t_pa h a) lv k) → post (some (zz_i 1)) (pa_ad (t_h0 h a) (t_pa h a) lv k w op n)))))
set_option maxRecDepth 100000 in
set_option maxHeartbeats 4000000 in
theorem m_T_path (l : Launch) : zz_Met l y_T_path w_T_path { frames := 7, cells := 2, slots := 12, locals := 112 } (fun as h post => B_T_path as h post (fun _ _ => False)) := by
  refine zz_ofZ (by decide) (fun as h post hT => ?_) ?_
  · obtain ⟨a, t, w, op, n, rfl, hok, hpa, hlv, hpX, hp⟩ := hT
    exact ⟨by simp [zz_cat], by simp⟩
  · intro D DA h as post hT p e s m args below meth c Q C hr hlk hnm hQ
    obtain ⟨a, t, w, op, n, rfl, hok, hpa, hlv, hpX, hp⟩ := hT
    refine zz_aload_n (q := 1) (f := 0) (i := 0) C (by decide +kernel) rfl rfl rfl ?_
    refine zz_null (q := 2) C 2 (by decide +kernel) rfl ?_
    refine zz_putR (q := 5) C gf_T_40 (fun h => by cases h) (by decide +kernel) rfl (by first | rfl | assumption) ?_
    show zz_Z p l e _ s m args below meth c Q D DA (zz_A h s.heap.size) h _ _ _ _ (t_h0 h a) 0 0
    have hok0 : t_ok (t_h0 h a) a := hok
    have hpa0 : pa_ok (t_h0 h a) (t_pa h a) := hpa
    refine zz_aload_n (q := 6) (f := 0) (i := 0) C (by decide +kernel) rfl rfl rfl ?_
    refine zz_iload_n (q := 7) (f := 1) (i := 1) C (by decide +kernel) rfl rfl rfl ?_
    rcases opt_em (t_k h a t) with tc7 | ⟨tk7, tc7⟩
    · exact False.elim (hpX tc7)
    refine zz_callV (q := 10) C (m_T_declaredKind l) cv_T_78 (by decide +kernel) rfl rfl rfl (by first | rfl | assumption) (by decide) (by decide) (Nat.le_of_ble_eq_true rfl) ⟨_, _, rfl, hok0, fun z => absurd (tc7.symm.trans z) (Option.some_ne_none _), fun k9 hk9 => ?_⟩
    obtain rfl := Option.some.inj (tc7.symm.trans hk9)
    refine zz_astore (q := 12) (i := 5) C (by decide +kernel) rfl (by decide) rfl ?_
    refine zz_know (fun hty _ hTL _ => ?_)
    obtain ⟨nk, htk⟩ := hTL 5 _ rfl _ rfl
    obtain ⟨lv, hlv1, hlv2⟩ := hlv tk7 nk htk
    refine zz_iload_n (q := 13) (f := 3) (i := 3) C (by decide +kernel) rfl rfl rfl ?_
    refine zz_if_lt (off := 9) (tgt := 22) (q := 16) C (by decide +kernel) (by decide) rfl (fun c13 => ?_) (fun c13 => ?_)
    · exact False.elim ((hp _ tc7).1 (fun z => absurd c13 (Int32.not_lt.mpr z.1)))
    · refine zz_iload_n (q := 17) (f := 3) (i := 3) C (by decide +kernel) rfl rfl rfl ?_
      refine zz_bipush (q := 19) (n := 6) (x := 6) C (by decide +kernel) rfl (by decide +kernel) ?_
      refine zz_icmp_le (off := 13) (tgt := 32) (q := 22) C (by decide +kernel) (by decide) rfl (fun c19 => ?_) (fun c19 => ?_)
      · refine zz_iload_n (q := 33) (f := 3) (i := 3) C (by decide +kernel) rfl rfl rfl ?_
        refine zz_if_ne (off := 13) (tgt := 46) (q := 36) C (by decide +kernel) (by decide) rfl (fun c33 => ?_) (fun c33 => ?_)
        · refine zz_aload (q := 48) (i := 5) C (by decide +kernel) rfl rfl ?_
          refine zz_iload_n (q := 49) (f := 2) (i := 2) C (by decide +kernel) rfl rfl rfl ?_
          refine zz_callV (q := 52) C (m_K_hasWord l) cv_T_108 (by decide +kernel) rfl rfl rfl (by first | rfl | assumption) (by decide) (by decide) (Nat.le_of_ble_eq_true rfl) ⟨_, _, rfl, ?_⟩
          refine zz_if_ne (off := 13) (tgt := 65) (q := 55) C (by decide +kernel) (by decide) rfl (fun c52 => ?_) (fun c52 => ?_)
          · refine zz_aload_n (q := 66) (f := 0) (i := 0) C (by decide +kernel) rfl rfl rfl ?_
            refine zz_getR (q := 69) C gf_T_22 (by decide +kernel) rfl (by first | rfl | assumption) hok.2.2.1 ?_
            refine zz_aload (q := 71) (i := 5) C (by decide +kernel) rfl rfl ?_
            refine zz_iload_n (q := 72) (f := 2) (i := 2) C (by decide +kernel) rfl rfl rfl ?_
            refine zz_iload_n (q := 73) (f := 3) (i := 3) C (by decide +kernel) rfl rfl rfl ?_
            refine zz_iload (q := 75) (i := 4) C (by decide +kernel) rfl rfl ?_
            refine zz_callV (q := 78) C (m_P_addCondition l) cv_T_127 (by decide +kernel) rfl rfl rfl (by first | rfl | assumption) (by decide) (by decide) (Nat.le_of_ble_eq_true rfl) ⟨_, _, _, _, _, lv, rfl, hpa0, hlv1, hlv2, fun z => ?_, fun z => ?_⟩
            · refine zz_zret C hr hlk (by decide +kernel) (by decide) hQ (by decide) (by decide) ?_
              exact ((((hp _ tc7).2 ⟨Int32.not_lt.mp c13, c19⟩).2 c33).2 (zz_b_t c52) lv hlv1 hlv2).1 z
            · refine zz_zret C hr hlk (by decide +kernel) (by decide) hQ (by decide) (by decide) ?_
              exact ((((hp _ tc7).2 ⟨Int32.not_lt.mp c13, c19⟩).2 c33).2 (zz_b_t c52) lv hlv1 hlv2).2 z
          · exact False.elim ((((hp _ tc7).2 ⟨Int32.not_lt.mp c13, c19⟩).2 c33).1 (zz_b_f c52))
        · refine zz_aload_n (q := 37) (f := 0) (i := 0) C (by decide +kernel) rfl rfl rfl ?_
          refine zz_getR (q := 40) C gf_T_22 (by decide +kernel) rfl (by first | rfl | assumption) hok.2.2.1 ?_
          refine zz_aload (q := 42) (i := 5) C (by decide +kernel) rfl rfl ?_
          refine zz_callV (q := 45) C (m_P_state l) cv_T_123 (by decide +kernel) rfl rfl rfl (by first | rfl | assumption) (by decide) (by decide) (Nat.le_of_ble_eq_true rfl) ⟨_, _, lv, rfl, hpa0, hlv1, hlv2, fun z => ?_, fun z => ?_⟩
          · refine zz_zret C hr hlk (by decide +kernel) (by decide) hQ (by decide) (by decide) ?_
            exact (((hp _ tc7).2 ⟨Int32.not_lt.mp c13, c19⟩).1 c33 lv hlv1 hlv2).1 z
          · refine zz_zret C hr hlk (by decide +kernel) (by decide) hQ (by decide) (by decide) ?_
            exact (((hp _ tc7).2 ⟨Int32.not_lt.mp c13, c19⟩).1 c33 lv hlv1 hlv2).2 z
      · exact False.elim ((hp _ tc7).1 (fun z => absurd z.2 c19))
set_option maxRecDepth 100000 in
set_option maxHeartbeats 4000000 in
theorem x_T_path (l : Launch) (hl : l.stackTraces = false) : zz_MetX l y_T_path w_T_path { frames := 7, cells := 2, slots := 12, locals := 112 } (fun as h postX => B_T_path as h (fun _ _ => False) postX) := by
  refine zz_ofX hl (by decide) (fun as h postX hT => ?_) ?_
  · obtain ⟨a, t, w, op, n, rfl, hok, hpa, hlv, hpX, hp⟩ := hT
    exact ⟨by simp [zz_cat], by simp⟩
  · intro D DA h as postX hT p e s m args below meth c Q C hx hnm hQ
    obtain ⟨a, t, w, op, n, rfl, hok, hpa, hlv, hpX, hp⟩ := hT
    refine zz_aload_n (q := 1) (f := 0) (i := 0) C (by decide +kernel) rfl rfl rfl ?_
    refine zz_null (q := 2) C 2 (by decide +kernel) rfl ?_
    refine zz_putR (q := 5) C gf_T_40 (fun h => by cases h) (by decide +kernel) rfl (by first | rfl | assumption) ?_
    show zz_Z p l e _ s m args below meth c Q D DA (zz_A h s.heap.size) h _ _ _ _ (t_h0 h a) 0 0
    have hok0 : t_ok (t_h0 h a) a := hok
    have hpa0 : pa_ok (t_h0 h a) (t_pa h a) := hpa
    refine zz_aload_n (q := 6) (f := 0) (i := 0) C (by decide +kernel) rfl rfl rfl ?_
    refine zz_iload_n (q := 7) (f := 1) (i := 1) C (by decide +kernel) rfl rfl rfl ?_
    rcases opt_em (t_k h a t) with tc7 | ⟨tk7, tc7⟩
    · exact zz_callVX C hx (x_T_declaredKind l hl) cv_T_78 (by decide +kernel) rfl rfl (by first | rfl | assumption) (by decide) (by decide) (Nat.le_of_ble_eq_true rfl) hQ (by decide) (by decide) ⟨_, _, rfl, hok0, fun _ => (hpX tc7), fun k9 hk9 => absurd (hk9.symm.trans tc7) (Option.some_ne_none k9)⟩
    refine zz_callV (q := 10) C (m_T_declaredKind l) cv_T_78 (by decide +kernel) rfl rfl rfl (by first | rfl | assumption) (by decide) (by decide) (Nat.le_of_ble_eq_true rfl) ⟨_, _, rfl, hok0, fun z => absurd (tc7.symm.trans z) (Option.some_ne_none _), fun k9 hk9 => ?_⟩
    obtain rfl := Option.some.inj (tc7.symm.trans hk9)
    refine zz_astore (q := 12) (i := 5) C (by decide +kernel) rfl (by decide) rfl ?_
    refine zz_know (fun hty _ hTL _ => ?_)
    obtain ⟨nk, htk⟩ := hTL 5 _ rfl _ rfl
    obtain ⟨lv, hlv1, hlv2⟩ := hlv tk7 nk htk
    refine zz_iload_n (q := 13) (f := 3) (i := 3) C (by decide +kernel) rfl rfl rfl ?_
    refine zz_if_lt (off := 9) (tgt := 22) (q := 16) C (by decide +kernel) (by decide) rfl (fun c13 => ?_) (fun c13 => ?_)
    · exact zz_throw (q := 28) (i0 := 44) (i1 := 121) (tx := "there is no such operation") C hx xx_ownA (by decide +kernel) (zz_in (i := 288) (by decide +kernel) (by decide +kernel)) (zz_in (i := 289) (by decide +kernel) (by decide +kernel)) (zz_in (i := 44) (by decide +kernel) (by decide +kernel)) (by decide +kernel) (by decide +kernel) (by decide +kernel) (Or.inl ⟨by decide +kernel, rfl⟩) (by decide +kernel) (by decide +kernel) hQ (by decide) (by decide) (by decide) (by decide) (by decide) (by decide) ((hp _ tc7).1 (fun z => absurd c13 (Int32.not_lt.mpr z.1)))
    · refine zz_iload_n (q := 17) (f := 3) (i := 3) C (by decide +kernel) rfl rfl rfl ?_
      refine zz_bipush (q := 19) (n := 6) (x := 6) C (by decide +kernel) rfl (by decide +kernel) ?_
      refine zz_icmp_le (off := 13) (tgt := 32) (q := 22) C (by decide +kernel) (by decide) rfl (fun c19 => ?_) (fun c19 => ?_)
      · refine zz_iload_n (q := 33) (f := 3) (i := 3) C (by decide +kernel) rfl rfl rfl ?_
        refine zz_if_ne (off := 13) (tgt := 46) (q := 36) C (by decide +kernel) (by decide) rfl (fun c33 => ?_) (fun c33 => ?_)
        · refine zz_aload (q := 48) (i := 5) C (by decide +kernel) rfl rfl ?_
          refine zz_iload_n (q := 49) (f := 2) (i := 2) C (by decide +kernel) rfl rfl rfl ?_
          refine zz_callV (q := 52) C (m_K_hasWord l) cv_T_108 (by decide +kernel) rfl rfl rfl (by first | rfl | assumption) (by decide) (by decide) (Nat.le_of_ble_eq_true rfl) ⟨_, _, rfl, ?_⟩
          refine zz_if_ne (off := 13) (tgt := 65) (q := 55) C (by decide +kernel) (by decide) rfl (fun c52 => ?_) (fun c52 => ?_)
          · refine zz_aload_n (q := 66) (f := 0) (i := 0) C (by decide +kernel) rfl rfl rfl ?_
            refine zz_getR (q := 69) C gf_T_22 (by decide +kernel) rfl (by first | rfl | assumption) hok.2.2.1 ?_
            refine zz_aload (q := 71) (i := 5) C (by decide +kernel) rfl rfl ?_
            refine zz_iload_n (q := 72) (f := 2) (i := 2) C (by decide +kernel) rfl rfl rfl ?_
            refine zz_iload_n (q := 73) (f := 3) (i := 3) C (by decide +kernel) rfl rfl rfl ?_
            refine zz_iload (q := 75) (i := 4) C (by decide +kernel) rfl rfl ?_
            refine zz_callV (q := 78) C (m_P_addCondition l) cv_T_127 (by decide +kernel) rfl rfl rfl (by first | rfl | assumption) (by decide) (by decide) (Nat.le_of_ble_eq_true rfl) ⟨_, _, _, _, _, lv, rfl, hpa0, hlv1, hlv2, fun z => ?_, fun z => ?_⟩
            · exfalso
              exact ((((hp _ tc7).2 ⟨Int32.not_lt.mp c13, c19⟩).2 c33).2 (zz_b_t c52) lv hlv1 hlv2).1 z
            · exfalso
              exact ((((hp _ tc7).2 ⟨Int32.not_lt.mp c13, c19⟩).2 c33).2 (zz_b_t c52) lv hlv1 hlv2).2 z
          · exact zz_throw (q := 61) (i0 := 44) (i1 := 112) (tx := "the type has no such word") C hx xx_ownA (by decide +kernel) (zz_in (i := 288) (by decide +kernel) (by decide +kernel)) (zz_in (i := 289) (by decide +kernel) (by decide +kernel)) (zz_in (i := 44) (by decide +kernel) (by decide +kernel)) (by decide +kernel) (by decide +kernel) (by decide +kernel) (Or.inl ⟨by decide +kernel, rfl⟩) (by decide +kernel) (by decide +kernel) hQ (by decide) (by decide) (by decide) (by decide) (by decide) (by decide) ((((hp _ tc7).2 ⟨Int32.not_lt.mp c13, c19⟩).2 c33).1 (zz_b_f c52))
        · refine zz_aload_n (q := 37) (f := 0) (i := 0) C (by decide +kernel) rfl rfl rfl ?_
          refine zz_getR (q := 40) C gf_T_22 (by decide +kernel) rfl (by first | rfl | assumption) hok.2.2.1 ?_
          refine zz_aload (q := 42) (i := 5) C (by decide +kernel) rfl rfl ?_
          refine zz_callV (q := 45) C (m_P_state l) cv_T_123 (by decide +kernel) rfl rfl rfl (by first | rfl | assumption) (by decide) (by decide) (Nat.le_of_ble_eq_true rfl) ⟨_, _, lv, rfl, hpa0, hlv1, hlv2, fun z => ?_, fun z => ?_⟩
          · exfalso
            exact (((hp _ tc7).2 ⟨Int32.not_lt.mp c13, c19⟩).1 c33 lv hlv1 hlv2).1 z
          · exfalso
            exact (((hp _ tc7).2 ⟨Int32.not_lt.mp c13, c19⟩).1 c33 lv hlv1 hlv2).2 z
      · exact zz_throw (q := 28) (i0 := 44) (i1 := 121) (tx := "there is no such operation") C hx xx_ownA (by decide +kernel) (zz_in (i := 288) (by decide +kernel) (by decide +kernel)) (zz_in (i := 289) (by decide +kernel) (by decide +kernel)) (zz_in (i := 44) (by decide +kernel) (by decide +kernel)) (by decide +kernel) (by decide +kernel) (by decide +kernel) (Or.inl ⟨by decide +kernel, rfl⟩) (by decide +kernel) (by decide +kernel) hQ (by decide) (by decide) (by decide) (by decide) (by decide) (by decide) ((hp _ tc7).1 (fun z => absurd z.2 c19))

def t_tw (h : zz_H) (a s : Nat) : zz_H := zz_uI h (sg_w h s) (fun j => if j < kd_ln h (sg_k h s) then zz_aI h (t_ww h a) j else zz_aI h (sg_w h s) j)
def rp_h (h : zz_H) (a g : Nat) : zz_H := match zz_fR h 2 4 g with
  | none => t_tw (t_h0 h a) a g
  | some s => t_tw (t_tw (t_h0 h a) a g) a s
theorem rp_h_n {h : zz_H} {a g : Nat} (e : zz_fR h 2 4 g = none) : rp_h h a g = t_tw (t_h0 h a) a g := by rw [rp_h, e]
theorem rp_h_s {h : zz_H} {a g s : Nat} (e : zz_fR h 2 4 g = some s) : rp_h h a g = t_tw (t_tw (t_h0 h a) a g) a s := by rw [rp_h, e]
def rp_no (h : zz_H) (a g : Nat) : Prop := zz_fI h 1 4 (sg_k h g) ≠ -1 ∧ ¬ (zz_fI h 1 4 (sg_k h g) ≠ -1 ∧ zz_aI h (sg_w h g) (kd_sq h (sg_k h g)) = zz_aI h (t_ww h a) (kd_sq h (sg_k h g)))
noncomputable def de_h (h : zz_H) (a g : Nat) : zz_H := @ite zz_H (∃ fx, zz_fR h 0 6 a = some fx ∧ sg_at h (sg_lv h g) fx = some g) (Classical.propDecidable _) (zz_pR (t_h0 h a) 0 6 a none) (t_h0 h a)
theorem de_1 {h : zz_H} {a g : Nat} (e : zz_fR h 0 6 a = none) : de_h h a g = t_h0 h a := if_neg (fun z => Exists.elim z (fun fx z => absurd (z.1.symm.trans e) (Option.some_ne_none fx)))
theorem de_2 {h : zz_H} {a g f : Nat} (e : zz_fR h 0 6 a = some f) (n : ¬ sg_at h (sg_lv h g) f = some g) : de_h h a g = t_h0 h a := if_neg (by
  rintro ⟨fx, z1, z2⟩
  cases (z1.symm.trans e)
  exact n z2)
theorem de_3 {h : zz_H} {a g f : Nat} (e : zz_fR h 0 6 a = some f) (n : sg_at h (sg_lv h g) f = some g) : de_h h a g = zz_pR (t_h0 h a) 0 6 a none := if_pos ⟨_, e, n⟩
def B_T_replace : zz_TB := fun as h post postX => ∃ a, as = [zz_r 0 (some a)] ∧ t_wf h a ∧ or_okB h (t_od h a) ∧ or_sw h (t_od h a) ∧ (zz_fR h 0 5 a = none → postX "java/lang/IllegalStateException" (t_h0 h a)) ∧ ∀ g, zz_fR h 0 5 a = some g → (rp_no h a g → post (some (zz_i 0)) (t_h0 h a)) ∧ (¬ rp_no h a g → ∀ h2, or_arr (rp_h h a g) (t_od h a) h2 → post (some (zz_i 1)) h2)
set_option maxRecDepth 100000 in
set_option maxHeartbeats 4000000 in
theorem m_T_replace (l : Launch) : zz_Met l y_T_replace w_T_replace { frames := 6, cells := 1, slots := 6, locals := 125 } (fun as h post => B_T_replace as h post (fun _ _ => False)) := by
  refine zz_ofZ (by decide) (fun as h post hT => ?_) ?_
  · obtain ⟨a, rfl, hwf, hob, hsw, hpX, hp⟩ := hT
    exact ⟨by simp [zz_cat], by simp⟩
  · intro D DA h as post hT p e s m args below meth c Q C hr hlk hnm hQ
    obtain ⟨a, rfl, hwf, hob, hsw, hpX, hp⟩ := hT
    refine zz_aload_n (q := 1) (f := 0) (i := 0) C (by decide +kernel) rfl rfl rfl ?_
    refine zz_getR (q := 4) C gf_T_40 (by decide +kernel) rfl (by first | rfl | assumption) rfl ?_
    refine zz_astore_n (q := 5) (f := 1) (i := 1) C (by decide +kernel) rfl rfl (by decide) rfl ?_
    refine zz_aload_n (q := 6) (f := 0) (i := 0) C (by decide +kernel) rfl rfl rfl ?_
    refine zz_null (q := 7) C 2 (by decide +kernel) rfl ?_
    refine zz_putR (q := 10) C gf_T_40 (fun h => by cases h) (by decide +kernel) rfl (by first | rfl | assumption) ?_
    show zz_Z p l e _ s m args below meth c Q D DA (zz_A h s.heap.size) h _ _ _ _ (t_h0 h a) 0 0
    have hwf0 : t_wf (t_h0 h a) a := hwf
    refine zz_aload_n (q := 11) (f := 1) (i := 1) C (by decide +kernel) rfl rfl rfl ?_
    refine zz_ifnonnull (off := 13) (tgt := 24) (q := 14) C (by decide +kernel) (by decide) rfl (fun a11 c11 => ?_) (fun c11 => ?_)
    · refine zz_know (fun hty _ hTL _ => ?_)
      obtain ⟨ns, hts⟩ := hTL 1 _ rfl _ c11
      have hos : sg_ok h a11 := hwf.2.2.2.1 _ ns hts
      obtain ⟨nk, htk⟩ := hty.1 _ 2 ns 1 1 hts (by decide) rfl _ hos.1
      have hks : kd_ok h (sg_k h a11) := hwf.2.2.2.2 _ nk htk
      rw [c11]
      refine zz_aload_n (q := 25) (f := 1) (i := 1) C (by decide +kernel) rfl rfl rfl ?_
      refine zz_getR (q := 28) C gf_T_168 (by decide +kernel) rfl (by first | rfl | assumption) hos.1 ?_
      refine zz_callV (q := 31) C (m_K_hasSequence l) cv_T_91 (by decide +kernel) rfl rfl rfl (by first | rfl | assumption) (by decide) (by decide) (Nat.le_of_ble_eq_true rfl) ⟨_, rfl, ?_⟩
      refine zz_if_eq (off := 16) (tgt := 47) (q := 34) C (by decide +kernel) (by decide) rfl (fun c31 => ?_) (fun c31 => ?_)
      · have hgo : ¬ rp_no h a a11 := by
          first
            | exact fun z => zz_b_f c31 z.1
            | exact fun z => z.2 (zz_b_t c42)
        refine zz_aload_n (q := 48) (f := 1) (i := 1) C (by decide +kernel) rfl rfl rfl ?_
        refine zz_aload_n (q := 49) (f := 0) (i := 0) C (by decide +kernel) rfl rfl rfl ?_
        refine zz_getR (q := 52) C gf_T_15 (by decide +kernel) rfl (by first | rfl | assumption) hwf.1.2.1 ?_
        refine zz_callV (q := 55) C (m_S_takeWords l) cv_T_200 (by decide +kernel) rfl rfl rfl (by first | rfl | assumption) (by decide) (by decide) (Nat.le_of_ble_eq_true rfl) ⟨_, _, rfl, hos, hks, hwf.1.2.2.2.2.2.2, ?_⟩
        show zz_Z p l e _ s m args below meth c Q D DA (zz_A h s.heap.size) h _ _ _ _ (t_tw (t_h0 h a) a a11) 0 0
        refine zz_aload_n (q := 56) (f := 1) (i := 1) C (by decide +kernel) rfl rfl rfl ?_
        refine zz_getR (q := 59) C gf_T_220 (by decide +kernel) rfl (by first | rfl | assumption) rfl ?_
        refine zz_ifnull (off := 14) (tgt := 73) (q := 62) C (by decide +kernel) (by decide) rfl (fun c59 => ?_) (fun a59 c59 => ?_)
        · refine zz_aload_n (q := 74) (f := 0) (i := 0) C (by decide +kernel) rfl rfl rfl ?_
          refine zz_getR (q := 77) C gf_T_29 (by decide +kernel) rfl (by first | rfl | assumption) hwf.1.2.2.2.1 ?_
          refine zz_callV (q := 80) C (m_O_arrange l) cv_T_222 (by decide +kernel) rfl rfl rfl (by first | rfl | assumption) (by decide) (by decide) (Nat.le_of_ble_eq_true rfl) ⟨_, rfl, hob, hwf.2.2.2.1, hsw, fun h2 hh => ?_⟩
          refine zz_iconst (q := 81) (n := 1) (x := 1) C (by decide +kernel) rfl (by decide +kernel) ?_
          refine zz_zret C hr hlk (by decide +kernel) (by decide) hQ (by decide) (by decide) ?_
          have hp2 := (hp _ c11).2 hgo h2
          first
            | (rw [rp_h_n (h := h) (a := a) c59] at hp2; exact hp2 hh)
            | (rw [rp_h_s (h := h) (a := a) c59] at hp2; exact hp2 hh)
        · obtain ⟨ns2, hts2⟩ := hty.1 _ 2 ns 4 2 hts (by decide) rfl _ c59
          have hos2 : sg_ok h a59 := hwf.2.2.2.1 _ ns2 hts2
          obtain ⟨nk2, htk2⟩ := hty.1 _ 2 ns2 1 1 hts2 (by decide) rfl _ hos2.1
          have hks2 : kd_ok h (sg_k h a59) := hwf.2.2.2.2 _ nk2 htk2
          refine zz_aload_n (q := 63) (f := 1) (i := 1) C (by decide +kernel) rfl rfl rfl ?_
          refine zz_getR (q := 66) C gf_T_220 (by decide +kernel) rfl (by first | rfl | assumption) c59 ?_
          refine zz_aload_n (q := 67) (f := 0) (i := 0) C (by decide +kernel) rfl rfl rfl ?_
          refine zz_getR (q := 70) C gf_T_15 (by decide +kernel) rfl (by first | rfl | assumption) hwf.1.2.1 ?_
          refine zz_callV (q := 73) C (m_S_takeWords l) cv_T_200 (by decide +kernel) rfl rfl rfl (by first | rfl | assumption) (by decide) (by decide) (Nat.le_of_ble_eq_true rfl) ⟨_, _, rfl, hos2, hks2, hwf.1.2.2.2.2.2.2, ?_⟩
          refine zz_aload_n (q := 74) (f := 0) (i := 0) C (by decide +kernel) rfl rfl rfl ?_
          refine zz_getR (q := 77) C gf_T_29 (by decide +kernel) rfl (by first | rfl | assumption) hwf.1.2.2.2.1 ?_
          refine zz_callV (q := 80) C (m_O_arrange l) cv_T_222 (by decide +kernel) rfl rfl rfl (by first | rfl | assumption) (by decide) (by decide) (Nat.le_of_ble_eq_true rfl) ⟨_, rfl, hob, hwf.2.2.2.1, hsw, fun h2 hh => ?_⟩
          refine zz_iconst (q := 81) (n := 1) (x := 1) C (by decide +kernel) rfl (by decide +kernel) ?_
          refine zz_zret C hr hlk (by decide +kernel) (by decide) hQ (by decide) (by decide) ?_
          have hp2 := (hp _ c11).2 hgo h2
          first
            | (rw [rp_h_n (h := h) (a := a) c59] at hp2; exact hp2 hh)
            | (rw [rp_h_s (h := h) (a := a) c59] at hp2; exact hp2 hh)
      · refine zz_aload_n (q := 35) (f := 1) (i := 1) C (by decide +kernel) rfl rfl rfl ?_
        refine zz_aload_n (q := 36) (f := 0) (i := 0) C (by decide +kernel) rfl rfl rfl ?_
        refine zz_getR (q := 39) C gf_T_15 (by decide +kernel) rfl (by first | rfl | assumption) hwf.1.2.1 ?_
        refine zz_callV (q := 42) C (m_S_hasSequenceOf l) cv_T_216 (by decide +kernel) rfl rfl rfl (by first | rfl | assumption) (by decide) (by decide) (Nat.le_of_ble_eq_true rfl) ⟨_, _, rfl, hos, hks, hwf.1.2.2.2.2.2.2, ?_⟩
        refine zz_if_ne (off := 5) (tgt := 47) (q := 45) C (by decide +kernel) (by decide) rfl (fun c42 => ?_) (fun c42 => ?_)
        · have hgo : ¬ rp_no h a a11 := by
            first
              | exact fun z => zz_b_f c31 z.1
              | exact fun z => z.2 (zz_b_t c42)
          refine zz_aload_n (q := 48) (f := 1) (i := 1) C (by decide +kernel) rfl rfl rfl ?_
          refine zz_aload_n (q := 49) (f := 0) (i := 0) C (by decide +kernel) rfl rfl rfl ?_
          refine zz_getR (q := 52) C gf_T_15 (by decide +kernel) rfl (by first | rfl | assumption) hwf.1.2.1 ?_
          refine zz_callV (q := 55) C (m_S_takeWords l) cv_T_200 (by decide +kernel) rfl rfl rfl (by first | rfl | assumption) (by decide) (by decide) (Nat.le_of_ble_eq_true rfl) ⟨_, _, rfl, hos, hks, hwf.1.2.2.2.2.2.2, ?_⟩
          show zz_Z p l e _ s m args below meth c Q D DA (zz_A h s.heap.size) h _ _ _ _ (t_tw (t_h0 h a) a a11) 0 0
          refine zz_aload_n (q := 56) (f := 1) (i := 1) C (by decide +kernel) rfl rfl rfl ?_
          refine zz_getR (q := 59) C gf_T_220 (by decide +kernel) rfl (by first | rfl | assumption) rfl ?_
          refine zz_ifnull (off := 14) (tgt := 73) (q := 62) C (by decide +kernel) (by decide) rfl (fun c59 => ?_) (fun a59 c59 => ?_)
          · refine zz_aload_n (q := 74) (f := 0) (i := 0) C (by decide +kernel) rfl rfl rfl ?_
            refine zz_getR (q := 77) C gf_T_29 (by decide +kernel) rfl (by first | rfl | assumption) hwf.1.2.2.2.1 ?_
            refine zz_callV (q := 80) C (m_O_arrange l) cv_T_222 (by decide +kernel) rfl rfl rfl (by first | rfl | assumption) (by decide) (by decide) (Nat.le_of_ble_eq_true rfl) ⟨_, rfl, hob, hwf.2.2.2.1, hsw, fun h2 hh => ?_⟩
            refine zz_iconst (q := 81) (n := 1) (x := 1) C (by decide +kernel) rfl (by decide +kernel) ?_
            refine zz_zret C hr hlk (by decide +kernel) (by decide) hQ (by decide) (by decide) ?_
            have hp2 := (hp _ c11).2 hgo h2
            first
              | (rw [rp_h_n (h := h) (a := a) c59] at hp2; exact hp2 hh)
              | (rw [rp_h_s (h := h) (a := a) c59] at hp2; exact hp2 hh)
          · obtain ⟨ns2, hts2⟩ := hty.1 _ 2 ns 4 2 hts (by decide) rfl _ c59
            have hos2 : sg_ok h a59 := hwf.2.2.2.1 _ ns2 hts2
            obtain ⟨nk2, htk2⟩ := hty.1 _ 2 ns2 1 1 hts2 (by decide) rfl _ hos2.1
            have hks2 : kd_ok h (sg_k h a59) := hwf.2.2.2.2 _ nk2 htk2
            refine zz_aload_n (q := 63) (f := 1) (i := 1) C (by decide +kernel) rfl rfl rfl ?_
            refine zz_getR (q := 66) C gf_T_220 (by decide +kernel) rfl (by first | rfl | assumption) c59 ?_
            refine zz_aload_n (q := 67) (f := 0) (i := 0) C (by decide +kernel) rfl rfl rfl ?_
            refine zz_getR (q := 70) C gf_T_15 (by decide +kernel) rfl (by first | rfl | assumption) hwf.1.2.1 ?_
            refine zz_callV (q := 73) C (m_S_takeWords l) cv_T_200 (by decide +kernel) rfl rfl rfl (by first | rfl | assumption) (by decide) (by decide) (Nat.le_of_ble_eq_true rfl) ⟨_, _, rfl, hos2, hks2, hwf.1.2.2.2.2.2.2, ?_⟩
            refine zz_aload_n (q := 74) (f := 0) (i := 0) C (by decide +kernel) rfl rfl rfl ?_
            refine zz_getR (q := 77) C gf_T_29 (by decide +kernel) rfl (by first | rfl | assumption) hwf.1.2.2.2.1 ?_
            refine zz_callV (q := 80) C (m_O_arrange l) cv_T_222 (by decide +kernel) rfl rfl rfl (by first | rfl | assumption) (by decide) (by decide) (Nat.le_of_ble_eq_true rfl) ⟨_, rfl, hob, hwf.2.2.2.1, hsw, fun h2 hh => ?_⟩
            refine zz_iconst (q := 81) (n := 1) (x := 1) C (by decide +kernel) rfl (by decide +kernel) ?_
            refine zz_zret C hr hlk (by decide +kernel) (by decide) hQ (by decide) (by decide) ?_
            have hp2 := (hp _ c11).2 hgo h2
            first
              | (rw [rp_h_n (h := h) (a := a) c59] at hp2; exact hp2 hh)
              | (rw [rp_h_s (h := h) (a := a) c59] at hp2; exact hp2 hh)
        · refine zz_iconst (q := 46) (n := 0) (x := 0) C (by decide +kernel) rfl (by decide +kernel) ?_
          refine zz_zret C hr hlk (by decide +kernel) (by decide) hQ (by decide) (by decide) ?_
          exact (hp _ c11).1 ⟨zz_b_t c31, zz_b_f c42⟩
    · exact False.elim (hpX c11)
set_option maxRecDepth 100000 in
set_option maxHeartbeats 4000000 in
theorem x_T_replace (l : Launch) (hl : l.stackTraces = false) : zz_MetX l y_T_replace w_T_replace { frames := 6, cells := 1, slots := 6, locals := 125 } (fun as h postX => B_T_replace as h (fun _ _ => False) postX) := by
  refine zz_ofX hl (by decide) (fun as h postX hT => ?_) ?_
  · obtain ⟨a, rfl, hwf, hob, hsw, hpX, hp⟩ := hT
    exact ⟨by simp [zz_cat], by simp⟩
  · intro D DA h as postX hT p e s m args below meth c Q C hx hnm hQ
    obtain ⟨a, rfl, hwf, hob, hsw, hpX, hp⟩ := hT
    refine zz_aload_n (q := 1) (f := 0) (i := 0) C (by decide +kernel) rfl rfl rfl ?_
    refine zz_getR (q := 4) C gf_T_40 (by decide +kernel) rfl (by first | rfl | assumption) rfl ?_
    refine zz_astore_n (q := 5) (f := 1) (i := 1) C (by decide +kernel) rfl rfl (by decide) rfl ?_
    refine zz_aload_n (q := 6) (f := 0) (i := 0) C (by decide +kernel) rfl rfl rfl ?_
    refine zz_null (q := 7) C 2 (by decide +kernel) rfl ?_
    refine zz_putR (q := 10) C gf_T_40 (fun h => by cases h) (by decide +kernel) rfl (by first | rfl | assumption) ?_
    show zz_Z p l e _ s m args below meth c Q D DA (zz_A h s.heap.size) h _ _ _ _ (t_h0 h a) 0 0
    have hwf0 : t_wf (t_h0 h a) a := hwf
    refine zz_aload_n (q := 11) (f := 1) (i := 1) C (by decide +kernel) rfl rfl rfl ?_
    refine zz_ifnonnull (off := 13) (tgt := 24) (q := 14) C (by decide +kernel) (by decide) rfl (fun a11 c11 => ?_) (fun c11 => ?_)
    · refine zz_know (fun hty _ hTL _ => ?_)
      obtain ⟨ns, hts⟩ := hTL 1 _ rfl _ c11
      have hos : sg_ok h a11 := hwf.2.2.2.1 _ ns hts
      obtain ⟨nk, htk⟩ := hty.1 _ 2 ns 1 1 hts (by decide) rfl _ hos.1
      have hks : kd_ok h (sg_k h a11) := hwf.2.2.2.2 _ nk htk
      rw [c11]
      refine zz_aload_n (q := 25) (f := 1) (i := 1) C (by decide +kernel) rfl rfl rfl ?_
      refine zz_getR (q := 28) C gf_T_168 (by decide +kernel) rfl (by first | rfl | assumption) hos.1 ?_
      refine zz_callV (q := 31) C (m_K_hasSequence l) cv_T_91 (by decide +kernel) rfl rfl rfl (by first | rfl | assumption) (by decide) (by decide) (Nat.le_of_ble_eq_true rfl) ⟨_, rfl, ?_⟩
      refine zz_if_eq (off := 16) (tgt := 47) (q := 34) C (by decide +kernel) (by decide) rfl (fun c31 => ?_) (fun c31 => ?_)
      · have hgo : ¬ rp_no h a a11 := by
          first
            | exact fun z => zz_b_f c31 z.1
            | exact fun z => z.2 (zz_b_t c42)
        refine zz_aload_n (q := 48) (f := 1) (i := 1) C (by decide +kernel) rfl rfl rfl ?_
        refine zz_aload_n (q := 49) (f := 0) (i := 0) C (by decide +kernel) rfl rfl rfl ?_
        refine zz_getR (q := 52) C gf_T_15 (by decide +kernel) rfl (by first | rfl | assumption) hwf.1.2.1 ?_
        refine zz_callV (q := 55) C (m_S_takeWords l) cv_T_200 (by decide +kernel) rfl rfl rfl (by first | rfl | assumption) (by decide) (by decide) (Nat.le_of_ble_eq_true rfl) ⟨_, _, rfl, hos, hks, hwf.1.2.2.2.2.2.2, ?_⟩
        show zz_Z p l e _ s m args below meth c Q D DA (zz_A h s.heap.size) h _ _ _ _ (t_tw (t_h0 h a) a a11) 0 0
        refine zz_aload_n (q := 56) (f := 1) (i := 1) C (by decide +kernel) rfl rfl rfl ?_
        refine zz_getR (q := 59) C gf_T_220 (by decide +kernel) rfl (by first | rfl | assumption) rfl ?_
        refine zz_ifnull (off := 14) (tgt := 73) (q := 62) C (by decide +kernel) (by decide) rfl (fun c59 => ?_) (fun a59 c59 => ?_)
        · refine zz_aload_n (q := 74) (f := 0) (i := 0) C (by decide +kernel) rfl rfl rfl ?_
          refine zz_getR (q := 77) C gf_T_29 (by decide +kernel) rfl (by first | rfl | assumption) hwf.1.2.2.2.1 ?_
          refine zz_callV (q := 80) C (m_O_arrange l) cv_T_222 (by decide +kernel) rfl rfl rfl (by first | rfl | assumption) (by decide) (by decide) (Nat.le_of_ble_eq_true rfl) ⟨_, rfl, hob, hwf.2.2.2.1, hsw, fun h2 hh => ?_⟩
          refine zz_iconst (q := 81) (n := 1) (x := 1) C (by decide +kernel) rfl (by decide +kernel) ?_
          exfalso
          have hp2 := (hp _ c11).2 hgo h2
          first
            | (rw [rp_h_n (h := h) (a := a) c59] at hp2; exact hp2 hh)
            | (rw [rp_h_s (h := h) (a := a) c59] at hp2; exact hp2 hh)
        · obtain ⟨ns2, hts2⟩ := hty.1 _ 2 ns 4 2 hts (by decide) rfl _ c59
          have hos2 : sg_ok h a59 := hwf.2.2.2.1 _ ns2 hts2
          obtain ⟨nk2, htk2⟩ := hty.1 _ 2 ns2 1 1 hts2 (by decide) rfl _ hos2.1
          have hks2 : kd_ok h (sg_k h a59) := hwf.2.2.2.2 _ nk2 htk2
          refine zz_aload_n (q := 63) (f := 1) (i := 1) C (by decide +kernel) rfl rfl rfl ?_
          refine zz_getR (q := 66) C gf_T_220 (by decide +kernel) rfl (by first | rfl | assumption) c59 ?_
          refine zz_aload_n (q := 67) (f := 0) (i := 0) C (by decide +kernel) rfl rfl rfl ?_
          refine zz_getR (q := 70) C gf_T_15 (by decide +kernel) rfl (by first | rfl | assumption) hwf.1.2.1 ?_
          refine zz_callV (q := 73) C (m_S_takeWords l) cv_T_200 (by decide +kernel) rfl rfl rfl (by first | rfl | assumption) (by decide) (by decide) (Nat.le_of_ble_eq_true rfl) ⟨_, _, rfl, hos2, hks2, hwf.1.2.2.2.2.2.2, ?_⟩
          refine zz_aload_n (q := 74) (f := 0) (i := 0) C (by decide +kernel) rfl rfl rfl ?_
          refine zz_getR (q := 77) C gf_T_29 (by decide +kernel) rfl (by first | rfl | assumption) hwf.1.2.2.2.1 ?_
          refine zz_callV (q := 80) C (m_O_arrange l) cv_T_222 (by decide +kernel) rfl rfl rfl (by first | rfl | assumption) (by decide) (by decide) (Nat.le_of_ble_eq_true rfl) ⟨_, rfl, hob, hwf.2.2.2.1, hsw, fun h2 hh => ?_⟩
          refine zz_iconst (q := 81) (n := 1) (x := 1) C (by decide +kernel) rfl (by decide +kernel) ?_
          exfalso
          have hp2 := (hp _ c11).2 hgo h2
          first
            | (rw [rp_h_n (h := h) (a := a) c59] at hp2; exact hp2 hh)
            | (rw [rp_h_s (h := h) (a := a) c59] at hp2; exact hp2 hh)
      · refine zz_aload_n (q := 35) (f := 1) (i := 1) C (by decide +kernel) rfl rfl rfl ?_
        refine zz_aload_n (q := 36) (f := 0) (i := 0) C (by decide +kernel) rfl rfl rfl ?_
        refine zz_getR (q := 39) C gf_T_15 (by decide +kernel) rfl (by first | rfl | assumption) hwf.1.2.1 ?_
        refine zz_callV (q := 42) C (m_S_hasSequenceOf l) cv_T_216 (by decide +kernel) rfl rfl rfl (by first | rfl | assumption) (by decide) (by decide) (Nat.le_of_ble_eq_true rfl) ⟨_, _, rfl, hos, hks, hwf.1.2.2.2.2.2.2, ?_⟩
        refine zz_if_ne (off := 5) (tgt := 47) (q := 45) C (by decide +kernel) (by decide) rfl (fun c42 => ?_) (fun c42 => ?_)
        · have hgo : ¬ rp_no h a a11 := by
            first
              | exact fun z => zz_b_f c31 z.1
              | exact fun z => z.2 (zz_b_t c42)
          refine zz_aload_n (q := 48) (f := 1) (i := 1) C (by decide +kernel) rfl rfl rfl ?_
          refine zz_aload_n (q := 49) (f := 0) (i := 0) C (by decide +kernel) rfl rfl rfl ?_
          refine zz_getR (q := 52) C gf_T_15 (by decide +kernel) rfl (by first | rfl | assumption) hwf.1.2.1 ?_
          refine zz_callV (q := 55) C (m_S_takeWords l) cv_T_200 (by decide +kernel) rfl rfl rfl (by first | rfl | assumption) (by decide) (by decide) (Nat.le_of_ble_eq_true rfl) ⟨_, _, rfl, hos, hks, hwf.1.2.2.2.2.2.2, ?_⟩
          show zz_Z p l e _ s m args below meth c Q D DA (zz_A h s.heap.size) h _ _ _ _ (t_tw (t_h0 h a) a a11) 0 0
          refine zz_aload_n (q := 56) (f := 1) (i := 1) C (by decide +kernel) rfl rfl rfl ?_
          refine zz_getR (q := 59) C gf_T_220 (by decide +kernel) rfl (by first | rfl | assumption) rfl ?_
          refine zz_ifnull (off := 14) (tgt := 73) (q := 62) C (by decide +kernel) (by decide) rfl (fun c59 => ?_) (fun a59 c59 => ?_)
          · refine zz_aload_n (q := 74) (f := 0) (i := 0) C (by decide +kernel) rfl rfl rfl ?_
            refine zz_getR (q := 77) C gf_T_29 (by decide +kernel) rfl (by first | rfl | assumption) hwf.1.2.2.2.1 ?_
            refine zz_callV (q := 80) C (m_O_arrange l) cv_T_222 (by decide +kernel) rfl rfl rfl (by first | rfl | assumption) (by decide) (by decide) (Nat.le_of_ble_eq_true rfl) ⟨_, rfl, hob, hwf.2.2.2.1, hsw, fun h2 hh => ?_⟩
            refine zz_iconst (q := 81) (n := 1) (x := 1) C (by decide +kernel) rfl (by decide +kernel) ?_
            exfalso
            have hp2 := (hp _ c11).2 hgo h2
            first
              | (rw [rp_h_n (h := h) (a := a) c59] at hp2; exact hp2 hh)
              | (rw [rp_h_s (h := h) (a := a) c59] at hp2; exact hp2 hh)
          · obtain ⟨ns2, hts2⟩ := hty.1 _ 2 ns 4 2 hts (by decide) rfl _ c59
            have hos2 : sg_ok h a59 := hwf.2.2.2.1 _ ns2 hts2
            obtain ⟨nk2, htk2⟩ := hty.1 _ 2 ns2 1 1 hts2 (by decide) rfl _ hos2.1
            have hks2 : kd_ok h (sg_k h a59) := hwf.2.2.2.2 _ nk2 htk2
            refine zz_aload_n (q := 63) (f := 1) (i := 1) C (by decide +kernel) rfl rfl rfl ?_
            refine zz_getR (q := 66) C gf_T_220 (by decide +kernel) rfl (by first | rfl | assumption) c59 ?_
            refine zz_aload_n (q := 67) (f := 0) (i := 0) C (by decide +kernel) rfl rfl rfl ?_
            refine zz_getR (q := 70) C gf_T_15 (by decide +kernel) rfl (by first | rfl | assumption) hwf.1.2.1 ?_
            refine zz_callV (q := 73) C (m_S_takeWords l) cv_T_200 (by decide +kernel) rfl rfl rfl (by first | rfl | assumption) (by decide) (by decide) (Nat.le_of_ble_eq_true rfl) ⟨_, _, rfl, hos2, hks2, hwf.1.2.2.2.2.2.2, ?_⟩
            refine zz_aload_n (q := 74) (f := 0) (i := 0) C (by decide +kernel) rfl rfl rfl ?_
            refine zz_getR (q := 77) C gf_T_29 (by decide +kernel) rfl (by first | rfl | assumption) hwf.1.2.2.2.1 ?_
            refine zz_callV (q := 80) C (m_O_arrange l) cv_T_222 (by decide +kernel) rfl rfl rfl (by first | rfl | assumption) (by decide) (by decide) (Nat.le_of_ble_eq_true rfl) ⟨_, rfl, hob, hwf.2.2.2.1, hsw, fun h2 hh => ?_⟩
            refine zz_iconst (q := 81) (n := 1) (x := 1) C (by decide +kernel) rfl (by decide +kernel) ?_
            exfalso
            have hp2 := (hp _ c11).2 hgo h2
            first
              | (rw [rp_h_n (h := h) (a := a) c59] at hp2; exact hp2 hh)
              | (rw [rp_h_s (h := h) (a := a) c59] at hp2; exact hp2 hh)
        · refine zz_iconst (q := 46) (n := 0) (x := 0) C (by decide +kernel) rfl (by decide +kernel) ?_
          exfalso
          exact (hp _ c11).1 ⟨zz_b_t c31, zz_b_f c42⟩
    · exact zz_throw (q := 20) (i0 := 67) (i1 := 214) (tx := "no segment is held") C hx xx_ownS (by decide +kernel) (zz_in (i := 364) (by decide +kernel) (by decide +kernel)) (zz_in (i := 365) (by decide +kernel) (by decide +kernel)) (zz_in (i := 45) (by decide +kernel) (by decide +kernel)) (by decide +kernel) (by decide +kernel) (by decide +kernel) (Or.inl ⟨by decide +kernel, rfl⟩) (by decide +kernel) (by decide +kernel) hQ (by decide) (by decide) (by decide) (by decide) (by decide) (by decide) (hpX c11)

def B_T_delete : zz_TB := fun as h post postX => ∃ a, as = [zz_r 0 (some a)] ∧ t_wf h a ∧ or_okB h (t_od h a) ∧ or_sw h (t_od h a) ∧ or_sy h (t_od h a) ∧ (zz_fR h 0 5 a = none → postX "java/lang/IllegalStateException" (t_h0 h a)) ∧ ∀ g f r, zz_fR h 0 5 a = some g → f ≤ or_s h (t_od h a) → (∀ j, j < f → zz_aR h (or_n h (t_od h a)) j ≠ some g) → (f < or_s h (t_od h a) → zz_aR h (or_n h (t_od h a)) f = some g) → or_first (or_s h (t_od h a)) f (fun i => ¬ sg_at h (sg_lv h g) (or_N h (t_od h a) i) = some g) (or_N h (t_od h a)) r → ∀ w x h2, or_tf (de_h h a g) w → or_J (de_h h a g) (t_od h a) g (or_s (de_h h a g) (t_od h a)) w → or_X2 (de_h h a g) (t_od h a) g x → or_arr (or_rm (de_h h a g) (t_od h a) (or_kl (de_h h a g) (t_od h a) g (or_s (de_h h a g) (t_od h a))).length w x) (t_od h a) h2 → post (some (zz_i (nI (or_s (de_h h a g) (t_od h a) - (or_kl (de_h h a g) (t_od h a) g (or_s (de_h h a g) (t_od h a))).length)))) (zz_pI (zz_pI (zz_pR h2 6 0 (t_ps h a) r) 6 1 (t_ps h a) 0) 6 2 (t_ps h a) (zz_b (r = none)))
set_option maxRecDepth 100000 in
set_option maxHeartbeats 4000000 in
theorem m_T_delete (l : Launch) : zz_Met l y_T_delete w_T_delete { frames := 7, cells := 1, slots := 6, locals := 149 } (fun as h post => B_T_delete as h post (fun _ _ => False)) := by
  refine zz_ofZ (by decide) (fun as h post hT => ?_) ?_
  · obtain ⟨a, rfl, hwf, hob, hsw, hsy, hpX, hp⟩ := hT
    exact ⟨by simp [zz_cat], by simp⟩
  · intro D DA h as post hT p e s m args below meth c Q C hr hlk hnm hQ
    obtain ⟨a, rfl, hwf, hob, hsw, hsy, hpX, hp⟩ := hT
    refine zz_aload_n (q := 1) (f := 0) (i := 0) C (by decide +kernel) rfl rfl rfl ?_
    refine zz_getR (q := 4) C gf_T_40 (by decide +kernel) rfl (by first | rfl | assumption) rfl ?_
    refine zz_astore_n (q := 5) (f := 1) (i := 1) C (by decide +kernel) rfl rfl (by decide) rfl ?_
    refine zz_aload_n (q := 6) (f := 0) (i := 0) C (by decide +kernel) rfl rfl rfl ?_
    refine zz_null (q := 7) C 2 (by decide +kernel) rfl ?_
    refine zz_putR (q := 10) C gf_T_40 (fun h => by cases h) (by decide +kernel) rfl (by first | rfl | assumption) ?_
    show zz_Z p l e _ s m args below meth c Q D DA (zz_A h s.heap.size) h _ _ _ _ (t_h0 h a) 0 0
    have hwf0 : t_wf (t_h0 h a) a := hwf
    refine zz_aload_n (q := 11) (f := 1) (i := 1) C (by decide +kernel) rfl rfl rfl ?_
    refine zz_ifnonnull (off := 13) (tgt := 24) (q := 14) C (by decide +kernel) (by decide) rfl (fun a11 c11 => ?_) (fun c11 => ?_)
    · rw [c11]
      refine zz_aload_n (q := 25) (f := 0) (i := 0) C (by decide +kernel) rfl rfl rfl ?_
      refine zz_getR (q := 28) C gf_T_29 (by decide +kernel) rfl (by first | rfl | assumption) hwf.1.2.2.2.1 ?_
      refine zz_aload_n (q := 29) (f := 1) (i := 1) C (by decide +kernel) rfl rfl rfl ?_
      refine zz_callV (q := 32) C (m_O_firstBehindTree l) cv_T_225 (by decide +kernel) rfl rfl rfl (by first | rfl | assumption) (by decide) (by decide) (Nat.le_of_ble_eq_true rfl) ⟨_, _, rfl, hwf0.2.1, hwf.2.2.2.1, fun f r k1 k2 k3 k4 => ?_⟩
      refine zz_astore_n (q := 33) (f := 2) (i := 2) C (by decide +kernel) rfl rfl (by decide) rfl ?_
      refine zz_aload_n (q := 34) (f := 0) (i := 0) C (by decide +kernel) rfl rfl rfl ?_
      refine zz_getR (q := 37) C gf_T_145 (by decide +kernel) rfl (by first | rfl | assumption) rfl ?_
      refine zz_ifnull (off := 19) (tgt := 56) (q := 40) C (by decide +kernel) (by decide) rfl (fun c37 => ?_) (fun a37 c37 => ?_)
      · refine zz_aload_n (q := 57) (f := 0) (i := 0) C (by decide +kernel) rfl rfl rfl ?_
        refine zz_getR (q := 60) C gf_T_29 (by decide +kernel) rfl (by first | rfl | assumption) hwf.1.2.2.2.1 ?_
        refine zz_aload_n (q := 61) (f := 1) (i := 1) C (by decide +kernel) rfl rfl rfl ?_
        refine zz_callV (q := 64) C (m_O_removeTree l) cv_T_233 (by decide +kernel) rfl rfl rfl (by first | rfl | assumption) (by decide) (by decide) (Nat.le_of_ble_eq_true rfl) ⟨_, _, rfl, hob, hwf.2.2.2.1, hsw, hsy, fun w x h2 j1 j2 j3 j4 => ?_⟩
        have hps : zz_fR h2 0 4 a = some (t_ps h a) := ((or_sm_arr j4).1.2.2.2.1 0 4 a (by decide)).trans (((or_rm_sm _ _ x j1).2.2.2.1 0 4 a (by decide)).trans hwf.1.2.2.2.2.1)
        refine zz_istore_n (q := 65) (f := 3) (i := 3) C (by decide +kernel) rfl rfl (by decide) rfl ?_
        refine zz_aload_n (q := 66) (f := 0) (i := 0) C (by decide +kernel) rfl rfl rfl ?_
        refine zz_getR (q := 69) C gf_T_36 (by decide +kernel) rfl (by first | rfl | assumption) hps ?_
        refine zz_aload_n (q := 70) (f := 2) (i := 2) C (by decide +kernel) rfl rfl rfl ?_
        refine zz_callV (q := 73) C (m_Q_standInFrontOf l) cv_T_236 (by decide +kernel) rfl rfl rfl (by first | rfl | assumption) (by decide) (by decide) (Nat.le_of_ble_eq_true rfl) ⟨_, _, rfl, ?_⟩
        refine zz_iload_n (q := 74) (f := 3) (i := 3) C (by decide +kernel) rfl rfl rfl ?_
        refine zz_iret C hr hlk (by decide +kernel) hQ (by decide) (by decide) ?_
        have hp2 := hp _ f r c11 k1 k2 k3 k4 w x h2
        first
          | (rw [de_1 (h := h) (g := a11) c37] at hp2; exact hp2 j1 j2 j3 j4)
          | (rw [de_2 (h := h) (g := a11) c37 (zz_b_f c48)] at hp2; exact hp2 j1 j2 j3 j4)
          | (rw [de_3 (h := h) (g := a11) c37 (zz_b_t c48)] at hp2; exact hp2 j1 j2 j3 j4)
      · refine zz_aload_n (q := 41) (f := 0) (i := 0) C (by decide +kernel) rfl rfl rfl ?_
        refine zz_getR (q := 44) C gf_T_145 (by decide +kernel) rfl (by first | rfl | assumption) c37 ?_
        refine zz_aload_n (q := 45) (f := 1) (i := 1) C (by decide +kernel) rfl rfl rfl ?_
        refine zz_callV (q := 48) C (m_S_isInTreeOf l) cv_T_229 (by decide +kernel) rfl rfl rfl (by first | rfl | assumption) (by decide) (by decide) (Nat.le_of_ble_eq_true rfl) ⟨_, _, rfl, hwf.2.2.2.1, ?_⟩
        refine zz_if_eq (off := 8) (tgt := 56) (q := 51) C (by decide +kernel) (by decide) rfl (fun c48 => ?_) (fun c48 => ?_)
        · refine zz_aload_n (q := 57) (f := 0) (i := 0) C (by decide +kernel) rfl rfl rfl ?_
          refine zz_getR (q := 60) C gf_T_29 (by decide +kernel) rfl (by first | rfl | assumption) hwf.1.2.2.2.1 ?_
          refine zz_aload_n (q := 61) (f := 1) (i := 1) C (by decide +kernel) rfl rfl rfl ?_
          refine zz_callV (q := 64) C (m_O_removeTree l) cv_T_233 (by decide +kernel) rfl rfl rfl (by first | rfl | assumption) (by decide) (by decide) (Nat.le_of_ble_eq_true rfl) ⟨_, _, rfl, hob, hwf.2.2.2.1, hsw, hsy, fun w x h2 j1 j2 j3 j4 => ?_⟩
          have hps : zz_fR h2 0 4 a = some (t_ps h a) := ((or_sm_arr j4).1.2.2.2.1 0 4 a (by decide)).trans (((or_rm_sm _ _ x j1).2.2.2.1 0 4 a (by decide)).trans hwf.1.2.2.2.2.1)
          refine zz_istore_n (q := 65) (f := 3) (i := 3) C (by decide +kernel) rfl rfl (by decide) rfl ?_
          refine zz_aload_n (q := 66) (f := 0) (i := 0) C (by decide +kernel) rfl rfl rfl ?_
          refine zz_getR (q := 69) C gf_T_36 (by decide +kernel) rfl (by first | rfl | assumption) hps ?_
          refine zz_aload_n (q := 70) (f := 2) (i := 2) C (by decide +kernel) rfl rfl rfl ?_
          refine zz_callV (q := 73) C (m_Q_standInFrontOf l) cv_T_236 (by decide +kernel) rfl rfl rfl (by first | rfl | assumption) (by decide) (by decide) (Nat.le_of_ble_eq_true rfl) ⟨_, _, rfl, ?_⟩
          refine zz_iload_n (q := 74) (f := 3) (i := 3) C (by decide +kernel) rfl rfl rfl ?_
          refine zz_iret C hr hlk (by decide +kernel) hQ (by decide) (by decide) ?_
          have hp2 := hp _ f r c11 k1 k2 k3 k4 w x h2
          first
            | (rw [de_1 (h := h) (g := a11) c37] at hp2; exact hp2 j1 j2 j3 j4)
            | (rw [de_2 (h := h) (g := a11) c37 (zz_b_f c48)] at hp2; exact hp2 j1 j2 j3 j4)
            | (rw [de_3 (h := h) (g := a11) c37 (zz_b_t c48)] at hp2; exact hp2 j1 j2 j3 j4)
        · refine zz_aload_n (q := 52) (f := 0) (i := 0) C (by decide +kernel) rfl rfl rfl ?_
          refine zz_null (q := 53) C 2 (by decide +kernel) rfl ?_
          refine zz_putR (q := 56) C gf_T_145 (fun h => by cases h) (by decide +kernel) rfl (by first | rfl | assumption) ?_
          refine zz_aload_n (q := 57) (f := 0) (i := 0) C (by decide +kernel) rfl rfl rfl ?_
          refine zz_getR (q := 60) C gf_T_29 (by decide +kernel) rfl (by first | rfl | assumption) hwf.1.2.2.2.1 ?_
          refine zz_aload_n (q := 61) (f := 1) (i := 1) C (by decide +kernel) rfl rfl rfl ?_
          refine zz_callV (q := 64) C (m_O_removeTree l) cv_T_233 (by decide +kernel) rfl rfl rfl (by first | rfl | assumption) (by decide) (by decide) (Nat.le_of_ble_eq_true rfl) ⟨_, _, rfl, hob, hwf.2.2.2.1, hsw, hsy, fun w x h2 j1 j2 j3 j4 => ?_⟩
          have hps : zz_fR h2 0 4 a = some (t_ps h a) := ((or_sm_arr j4).1.2.2.2.1 0 4 a (by decide)).trans (((or_rm_sm _ _ x j1).2.2.2.1 0 4 a (by decide)).trans hwf.1.2.2.2.2.1)
          refine zz_istore_n (q := 65) (f := 3) (i := 3) C (by decide +kernel) rfl rfl (by decide) rfl ?_
          refine zz_aload_n (q := 66) (f := 0) (i := 0) C (by decide +kernel) rfl rfl rfl ?_
          refine zz_getR (q := 69) C gf_T_36 (by decide +kernel) rfl (by first | rfl | assumption) hps ?_
          refine zz_aload_n (q := 70) (f := 2) (i := 2) C (by decide +kernel) rfl rfl rfl ?_
          refine zz_callV (q := 73) C (m_Q_standInFrontOf l) cv_T_236 (by decide +kernel) rfl rfl rfl (by first | rfl | assumption) (by decide) (by decide) (Nat.le_of_ble_eq_true rfl) ⟨_, _, rfl, ?_⟩
          refine zz_iload_n (q := 74) (f := 3) (i := 3) C (by decide +kernel) rfl rfl rfl ?_
          refine zz_iret C hr hlk (by decide +kernel) hQ (by decide) (by decide) ?_
          have hp2 := hp _ f r c11 k1 k2 k3 k4 w x h2
          first
            | (rw [de_1 (h := h) (g := a11) c37] at hp2; exact hp2 j1 j2 j3 j4)
            | (rw [de_2 (h := h) (g := a11) c37 (zz_b_f c48)] at hp2; exact hp2 j1 j2 j3 j4)
            | (rw [de_3 (h := h) (g := a11) c37 (zz_b_t c48)] at hp2; exact hp2 j1 j2 j3 j4)
    · exact False.elim (hpX c11)
set_option maxRecDepth 100000 in
set_option maxHeartbeats 4000000 in
theorem x_T_delete (l : Launch) (hl : l.stackTraces = false) : zz_MetX l y_T_delete w_T_delete { frames := 7, cells := 1, slots := 6, locals := 149 } (fun as h postX => B_T_delete as h (fun _ _ => False) postX) := by
  refine zz_ofX hl (by decide) (fun as h postX hT => ?_) ?_
  · obtain ⟨a, rfl, hwf, hob, hsw, hsy, hpX, hp⟩ := hT
    exact ⟨by simp [zz_cat], by simp⟩
  · intro D DA h as postX hT p e s m args below meth c Q C hx hnm hQ
    obtain ⟨a, rfl, hwf, hob, hsw, hsy, hpX, hp⟩ := hT
    refine zz_aload_n (q := 1) (f := 0) (i := 0) C (by decide +kernel) rfl rfl rfl ?_
    refine zz_getR (q := 4) C gf_T_40 (by decide +kernel) rfl (by first | rfl | assumption) rfl ?_
    refine zz_astore_n (q := 5) (f := 1) (i := 1) C (by decide +kernel) rfl rfl (by decide) rfl ?_
    refine zz_aload_n (q := 6) (f := 0) (i := 0) C (by decide +kernel) rfl rfl rfl ?_
    refine zz_null (q := 7) C 2 (by decide +kernel) rfl ?_
    refine zz_putR (q := 10) C gf_T_40 (fun h => by cases h) (by decide +kernel) rfl (by first | rfl | assumption) ?_
    show zz_Z p l e _ s m args below meth c Q D DA (zz_A h s.heap.size) h _ _ _ _ (t_h0 h a) 0 0
    have hwf0 : t_wf (t_h0 h a) a := hwf
    refine zz_aload_n (q := 11) (f := 1) (i := 1) C (by decide +kernel) rfl rfl rfl ?_
    refine zz_ifnonnull (off := 13) (tgt := 24) (q := 14) C (by decide +kernel) (by decide) rfl (fun a11 c11 => ?_) (fun c11 => ?_)
    · rw [c11]
      refine zz_aload_n (q := 25) (f := 0) (i := 0) C (by decide +kernel) rfl rfl rfl ?_
      refine zz_getR (q := 28) C gf_T_29 (by decide +kernel) rfl (by first | rfl | assumption) hwf.1.2.2.2.1 ?_
      refine zz_aload_n (q := 29) (f := 1) (i := 1) C (by decide +kernel) rfl rfl rfl ?_
      refine zz_callV (q := 32) C (m_O_firstBehindTree l) cv_T_225 (by decide +kernel) rfl rfl rfl (by first | rfl | assumption) (by decide) (by decide) (Nat.le_of_ble_eq_true rfl) ⟨_, _, rfl, hwf0.2.1, hwf.2.2.2.1, fun f r k1 k2 k3 k4 => ?_⟩
      refine zz_astore_n (q := 33) (f := 2) (i := 2) C (by decide +kernel) rfl rfl (by decide) rfl ?_
      refine zz_aload_n (q := 34) (f := 0) (i := 0) C (by decide +kernel) rfl rfl rfl ?_
      refine zz_getR (q := 37) C gf_T_145 (by decide +kernel) rfl (by first | rfl | assumption) rfl ?_
      refine zz_ifnull (off := 19) (tgt := 56) (q := 40) C (by decide +kernel) (by decide) rfl (fun c37 => ?_) (fun a37 c37 => ?_)
      · refine zz_aload_n (q := 57) (f := 0) (i := 0) C (by decide +kernel) rfl rfl rfl ?_
        refine zz_getR (q := 60) C gf_T_29 (by decide +kernel) rfl (by first | rfl | assumption) hwf.1.2.2.2.1 ?_
        refine zz_aload_n (q := 61) (f := 1) (i := 1) C (by decide +kernel) rfl rfl rfl ?_
        refine zz_callV (q := 64) C (m_O_removeTree l) cv_T_233 (by decide +kernel) rfl rfl rfl (by first | rfl | assumption) (by decide) (by decide) (Nat.le_of_ble_eq_true rfl) ⟨_, _, rfl, hob, hwf.2.2.2.1, hsw, hsy, fun w x h2 j1 j2 j3 j4 => ?_⟩
        have hps : zz_fR h2 0 4 a = some (t_ps h a) := ((or_sm_arr j4).1.2.2.2.1 0 4 a (by decide)).trans (((or_rm_sm _ _ x j1).2.2.2.1 0 4 a (by decide)).trans hwf.1.2.2.2.2.1)
        refine zz_istore_n (q := 65) (f := 3) (i := 3) C (by decide +kernel) rfl rfl (by decide) rfl ?_
        refine zz_aload_n (q := 66) (f := 0) (i := 0) C (by decide +kernel) rfl rfl rfl ?_
        refine zz_getR (q := 69) C gf_T_36 (by decide +kernel) rfl (by first | rfl | assumption) hps ?_
        refine zz_aload_n (q := 70) (f := 2) (i := 2) C (by decide +kernel) rfl rfl rfl ?_
        refine zz_callV (q := 73) C (m_Q_standInFrontOf l) cv_T_236 (by decide +kernel) rfl rfl rfl (by first | rfl | assumption) (by decide) (by decide) (Nat.le_of_ble_eq_true rfl) ⟨_, _, rfl, ?_⟩
        refine zz_iload_n (q := 74) (f := 3) (i := 3) C (by decide +kernel) rfl rfl rfl ?_
        exfalso
        have hp2 := hp _ f r c11 k1 k2 k3 k4 w x h2
        first
          | (rw [de_1 (h := h) (g := a11) c37] at hp2; exact hp2 j1 j2 j3 j4)
          | (rw [de_2 (h := h) (g := a11) c37 (zz_b_f c48)] at hp2; exact hp2 j1 j2 j3 j4)
          | (rw [de_3 (h := h) (g := a11) c37 (zz_b_t c48)] at hp2; exact hp2 j1 j2 j3 j4)
      · refine zz_aload_n (q := 41) (f := 0) (i := 0) C (by decide +kernel) rfl rfl rfl ?_
        refine zz_getR (q := 44) C gf_T_145 (by decide +kernel) rfl (by first | rfl | assumption) c37 ?_
        refine zz_aload_n (q := 45) (f := 1) (i := 1) C (by decide +kernel) rfl rfl rfl ?_
        refine zz_callV (q := 48) C (m_S_isInTreeOf l) cv_T_229 (by decide +kernel) rfl rfl rfl (by first | rfl | assumption) (by decide) (by decide) (Nat.le_of_ble_eq_true rfl) ⟨_, _, rfl, hwf.2.2.2.1, ?_⟩
        refine zz_if_eq (off := 8) (tgt := 56) (q := 51) C (by decide +kernel) (by decide) rfl (fun c48 => ?_) (fun c48 => ?_)
        · refine zz_aload_n (q := 57) (f := 0) (i := 0) C (by decide +kernel) rfl rfl rfl ?_
          refine zz_getR (q := 60) C gf_T_29 (by decide +kernel) rfl (by first | rfl | assumption) hwf.1.2.2.2.1 ?_
          refine zz_aload_n (q := 61) (f := 1) (i := 1) C (by decide +kernel) rfl rfl rfl ?_
          refine zz_callV (q := 64) C (m_O_removeTree l) cv_T_233 (by decide +kernel) rfl rfl rfl (by first | rfl | assumption) (by decide) (by decide) (Nat.le_of_ble_eq_true rfl) ⟨_, _, rfl, hob, hwf.2.2.2.1, hsw, hsy, fun w x h2 j1 j2 j3 j4 => ?_⟩
          have hps : zz_fR h2 0 4 a = some (t_ps h a) := ((or_sm_arr j4).1.2.2.2.1 0 4 a (by decide)).trans (((or_rm_sm _ _ x j1).2.2.2.1 0 4 a (by decide)).trans hwf.1.2.2.2.2.1)
          refine zz_istore_n (q := 65) (f := 3) (i := 3) C (by decide +kernel) rfl rfl (by decide) rfl ?_
          refine zz_aload_n (q := 66) (f := 0) (i := 0) C (by decide +kernel) rfl rfl rfl ?_
          refine zz_getR (q := 69) C gf_T_36 (by decide +kernel) rfl (by first | rfl | assumption) hps ?_
          refine zz_aload_n (q := 70) (f := 2) (i := 2) C (by decide +kernel) rfl rfl rfl ?_
          refine zz_callV (q := 73) C (m_Q_standInFrontOf l) cv_T_236 (by decide +kernel) rfl rfl rfl (by first | rfl | assumption) (by decide) (by decide) (Nat.le_of_ble_eq_true rfl) ⟨_, _, rfl, ?_⟩
          refine zz_iload_n (q := 74) (f := 3) (i := 3) C (by decide +kernel) rfl rfl rfl ?_
          exfalso
          have hp2 := hp _ f r c11 k1 k2 k3 k4 w x h2
          first
            | (rw [de_1 (h := h) (g := a11) c37] at hp2; exact hp2 j1 j2 j3 j4)
            | (rw [de_2 (h := h) (g := a11) c37 (zz_b_f c48)] at hp2; exact hp2 j1 j2 j3 j4)
            | (rw [de_3 (h := h) (g := a11) c37 (zz_b_t c48)] at hp2; exact hp2 j1 j2 j3 j4)
        · refine zz_aload_n (q := 52) (f := 0) (i := 0) C (by decide +kernel) rfl rfl rfl ?_
          refine zz_null (q := 53) C 2 (by decide +kernel) rfl ?_
          refine zz_putR (q := 56) C gf_T_145 (fun h => by cases h) (by decide +kernel) rfl (by first | rfl | assumption) ?_
          refine zz_aload_n (q := 57) (f := 0) (i := 0) C (by decide +kernel) rfl rfl rfl ?_
          refine zz_getR (q := 60) C gf_T_29 (by decide +kernel) rfl (by first | rfl | assumption) hwf.1.2.2.2.1 ?_
          refine zz_aload_n (q := 61) (f := 1) (i := 1) C (by decide +kernel) rfl rfl rfl ?_
          refine zz_callV (q := 64) C (m_O_removeTree l) cv_T_233 (by decide +kernel) rfl rfl rfl (by first | rfl | assumption) (by decide) (by decide) (Nat.le_of_ble_eq_true rfl) ⟨_, _, rfl, hob, hwf.2.2.2.1, hsw, hsy, fun w x h2 j1 j2 j3 j4 => ?_⟩
          have hps : zz_fR h2 0 4 a = some (t_ps h a) := ((or_sm_arr j4).1.2.2.2.1 0 4 a (by decide)).trans (((or_rm_sm _ _ x j1).2.2.2.1 0 4 a (by decide)).trans hwf.1.2.2.2.2.1)
          refine zz_istore_n (q := 65) (f := 3) (i := 3) C (by decide +kernel) rfl rfl (by decide) rfl ?_
          refine zz_aload_n (q := 66) (f := 0) (i := 0) C (by decide +kernel) rfl rfl rfl ?_
          refine zz_getR (q := 69) C gf_T_36 (by decide +kernel) rfl (by first | rfl | assumption) hps ?_
          refine zz_aload_n (q := 70) (f := 2) (i := 2) C (by decide +kernel) rfl rfl rfl ?_
          refine zz_callV (q := 73) C (m_Q_standInFrontOf l) cv_T_236 (by decide +kernel) rfl rfl rfl (by first | rfl | assumption) (by decide) (by decide) (Nat.le_of_ble_eq_true rfl) ⟨_, _, rfl, ?_⟩
          refine zz_iload_n (q := 74) (f := 3) (i := 3) C (by decide +kernel) rfl rfl rfl ?_
          exfalso
          have hp2 := hp _ f r c11 k1 k2 k3 k4 w x h2
          first
            | (rw [de_1 (h := h) (g := a11) c37] at hp2; exact hp2 j1 j2 j3 j4)
            | (rw [de_2 (h := h) (g := a11) c37 (zz_b_f c48)] at hp2; exact hp2 j1 j2 j3 j4)
            | (rw [de_3 (h := h) (g := a11) c37 (zz_b_t c48)] at hp2; exact hp2 j1 j2 j3 j4)
    · exact zz_throw (q := 20) (i0 := 67) (i1 := 214) (tx := "no segment is held") C hx xx_ownS (by decide +kernel) (zz_in (i := 364) (by decide +kernel) (by decide +kernel)) (zz_in (i := 365) (by decide +kernel) (by decide +kernel)) (zz_in (i := 45) (by decide +kernel) (by decide +kernel)) (by decide +kernel) (by decide +kernel) (by decide +kernel) (Or.inl ⟨by decide +kernel, rfl⟩) (by decide +kernel) (by decide +kernel) hQ (by decide) (by decide) (by decide) (by decide) (by decide) (by decide) (hpX c11)

/-! the reference: replace -/
def mRn (h : zz_H) (r s : Nat) : Prop := ma h r 5 (mK h r s) ≠ -1 ∧ ma h r 18 (4 * s + mSqv h r s) ≠ ma h r 27 (mSqv h r s)
def mLn (h : zz_H) (r s : Nat) : Nat := (ma h r 4 (mK h r s)).toNatClampNeg
def mo_rp (h : zz_H) (r s : Nat) (tw : Option Nat) : zz_H := match tw with
  | none => mo_pw h r s (mLn h r s)
  | some b => mo_pw (mo_pw h r s (mLn h r s)) r b (mLn h r b)
theorem mLn_of {h : zz_H} {r s : Nat} (hwl : mo_wl h r) (hwt : mo_wt h r) (hkd : mo_kd h r) (hs : mLive h r s) : ma h r 4 (mK h r s) = nI (mLn h r s) ∧ mLn h r s ≤ 4 ∧ (ma h r 5 (mK h r s) = -1 ∨ (ma h r 5 (mK h r s) = nI (mSqv h r s) ∧ mSqv h r s < 4)) := by
  obtain ⟨-, e2, -⟩ := hwl s hs
  obtain ⟨-, -, -, -, n9, s1, s2, s3, s4⟩ := hwt (mK h r s) e2 (hkd s hs)
  have e : mLn h r s = n9 := by rw [mLn, s3]; exact nI_clamp (by omega)
  rw [e]
  refine ⟨s3, s2, s4.elim Or.inl (fun ⟨j, g1, g2⟩ => Or.inr ?_)⟩
  have e5 : mSqv h r s = j := by rw [mSqv, g2]; exact nI_clamp (by omega)
  rw [e5]; exact ⟨g2, by omega⟩
def T_M_replace : zz_Tr := fun as h post => ∃ r g, as = [zz_r 7 (some r)] ∧ mo_ok h r ∧ mo_ap h r ∧ mo_wl h r ∧ mo_wt h r ∧ mo_kd h r ∧ zz_fI h 7 30 r = mO g ∧ (∀ s, g = some s → mLive h r s) ∧ (g = none → post (some (zz_i 0)) (zz_pI (mo_bg h r) 7 0 r 1)) ∧ ∀ s, g = some s → ∃ tw, ma h r 17 s = mO tw ∧ (∀ b, tw = some b → mLive h r b) ∧ (mRn h r s → post (some (zz_i 0)) (mo_bg h r)) ∧ (¬ mRn h r s → post (some (zz_i 1)) (mo_rp (mo_bg h r) r s tw))
set_option maxRecDepth 100000 in
set_option maxHeartbeats 4000000 in
theorem m_M_replace (l : Launch) : zz_Met l y_M_replace w_M_replace { frames := 2, cells := 0, slots := 0, locals := 34 } T_M_replace := by
  refine zz_ofZ (by decide) (fun as h post hT => ?_) ?_
  · obtain ⟨r, g, rfl, hok, hap, hwl, hwt, hkd, hg, hgl, hp0, hp⟩ := hT
    exact ⟨by simp [zz_cat], by simp⟩
  · intro D DA h as post hT p e s m args below meth c Q C hr hlk hnm hQ
    obtain ⟨r, g, rfl, hok, hap, hwl, hwt, hkd, hg, hgl, hp0, hp⟩ := hT
    refine zz_aload_n (q := 1) (f := 0) (i := 0) C (by decide +kernel) rfl rfl rfl ?_
    refine zz_getI (q := 4) C gf_M_82 (by decide +kernel) rfl (by first | rfl | assumption) hg ?_
    refine zz_istore_n (q := 5) (f := 1) (i := 1) C (by decide +kernel) rfl rfl (by decide) rfl ?_
    refine zz_aload_n (q := 6) (f := 0) (i := 0) C (by decide +kernel) rfl rfl rfl ?_
    refine zz_callV (q := 9) C (m_M_begin l) cv_M_91 (by decide +kernel) rfl rfl rfl (by first | rfl | assumption) (by decide) (by decide) (Nat.le_of_ble_eq_true rfl) ⟨_, rfl, ?_⟩
    refine zz_iload_n (q := 10) (f := 1) (i := 1) C (by decide +kernel) rfl rfl rfl ?_
    refine zz_iconst (q := 11) (n := -1) (x := (-1)) C (by decide +kernel) rfl (by decide +kernel) ?_
    refine zz_icmp_ne (off := 10) (tgt := 21) (q := 14) C (by decide +kernel) (by decide) rfl (fun c11 => ?_) (fun c11 => ?_)
    · obtain ⟨s9, rfl⟩ := mO_some c11
      have hls := hgl s9 rfl
      have hs60 := hls.1
      obtain ⟨e1, e2, -⟩ := hwl s9 hls
      obtain ⟨l1, l2, l3⟩ := mLn_of hwl hwt hkd hls
      obtain ⟨tw, t1, t2, t3, t4⟩ := hp s9 rfl
      refine zz_aload_n (q := 22) (f := 0) (i := 0) C (by decide +kernel) rfl rfl rfl ?_
      refine zz_getR (q := 25) C gf_M_23 (by decide +kernel) rfl (by first | rfl | assumption) (hok 5 90 8 rfl).1 ?_
      refine zz_aload_n (q := 26) (f := 0) (i := 0) C (by decide +kernel) rfl rfl rfl ?_
      refine zz_getR (q := 29) C gf_M_42 (by decide +kernel) rfl (by first | rfl | assumption) (hok 15 90 60 rfl).1 ?_
      refine zz_iload_n (q := 30) (f := 1) (i := 1) C (by decide +kernel) rfl rfl rfl ?_
      refine zz_iaload (q := 31) C (by decide +kernel) rfl rfl (hok 15 90 60 rfl).2 rfl (by omega) (by decide) e1 ?_
      refine zz_iaload (q := 32) C (by decide +kernel) rfl rfl (hok 5 90 8 rfl).2 rfl e2 (by decide) rfl ?_
      refine zz_istore_n (q := 33) (f := 2) (i := 2) C (by decide +kernel) rfl rfl (by decide) rfl ?_
      refine zz_iload_n (q := 34) (f := 2) (i := 2) C (by decide +kernel) rfl rfl rfl ?_
      refine zz_iconst (q := 35) (n := -1) (x := (-1)) C (by decide +kernel) rfl (by decide +kernel) ?_
      refine zz_icmp_eq (off := 24) (tgt := 59) (q := 38) C (by decide +kernel) (by decide) rfl (fun c35 => ?_) (fun c35 => ?_)
      · have hno : ¬ mRn h r s9 := by
          first
            | exact fun z => z.1 c35
            | exact fun z => z.2 c54
        refine zz_aload_n (q := 60) (f := 0) (i := 0) C (by decide +kernel) rfl rfl rfl ?_
        refine zz_iload_n (q := 61) (f := 1) (i := 1) C (by decide +kernel) rfl rfl rfl ?_
        refine zz_callV (q := 64) C (m_M_putWords l) cv_M_185 (by decide +kernel) rfl rfl rfl (by first | rfl | assumption) (by decide) (by decide) (Nat.le_of_ble_eq_true rfl) ⟨_, _, mLn h r s9, rfl, hok, hap, hs60, e1, e2, l1, l2, ?_⟩
        have e17 : ma (mo_pw (mo_bg h r) r s9 (mLn h r s9)) r 17 s9 = mO tw := (mo_pw_a (h := mo_bg h r) hap (by decide) (by decide) _ _ _).trans t1
        refine zz_aload_n (q := 65) (f := 0) (i := 0) C (by decide +kernel) rfl rfl rfl ?_
        refine zz_getR (q := 68) C gf_M_48 (by decide +kernel) rfl (by first | rfl | assumption) (hok 17 90 60 rfl).1 ?_
        refine zz_iload_n (q := 69) (f := 1) (i := 1) C (by decide +kernel) rfl rfl rfl ?_
        refine zz_iaload (q := 70) C (by decide +kernel) rfl rfl (hok 17 90 60 rfl).2 rfl (by omega) (by decide) e17 ?_
        refine zz_iconst (q := 71) (n := -1) (x := (-1)) C (by decide +kernel) rfl (by decide +kernel) ?_
        refine zz_icmp_eq (off := 13) (tgt := 84) (q := 74) C (by decide +kernel) (by decide) rfl (fun c71 => ?_) (fun c71 => ?_)
        · refine zz_iconst (q := 85) (n := 1) (x := 1) C (by decide +kernel) rfl (by decide +kernel) ?_
          refine zz_zret C hr hlk (by decide +kernel) (by decide) hQ (by decide) (by decide) ?_
          first
            | exact t4 hno
            | (have htn : tw = none := by
                 cases tw with
                 | none => rfl
                 | some b => exact absurd c71 (nI_neg (by have := (t2 b rfl).1; omega))
               rw [htn] at t4; exact t4 hno)
        · obtain ⟨b9, rfl⟩ := mO_some c71
          have hlb := t2 b9 rfl
          have hb60 := hlb.1
          obtain ⟨f1, f2, -⟩ := hwl b9 hlb
          obtain ⟨m1, m2, -⟩ := mLn_of hwl hwt hkd hlb
          have hap0 : mo_ap (mo_bg h r) r := hap
          have k1 : mK (mo_pw (mo_bg h r) r s9 (mLn h r s9)) r b9 = mK h r b9 := congrArg Int32.toNatClampNeg (mo_pw_a (h := mo_bg h r) hap (by decide) (by decide) _ _ _)
          refine zz_aload_n (q := 75) (f := 0) (i := 0) C (by decide +kernel) rfl rfl rfl ?_
          refine zz_aload_n (q := 76) (f := 0) (i := 0) C (by decide +kernel) rfl rfl rfl ?_
          refine zz_getR (q := 79) C gf_M_48 (by decide +kernel) rfl (by first | rfl | assumption) (hok 17 90 60 rfl).1 ?_
          refine zz_iload_n (q := 80) (f := 1) (i := 1) C (by decide +kernel) rfl rfl rfl ?_
          refine zz_iaload (q := 81) C (by decide +kernel) rfl rfl (hok 17 90 60 rfl).2 rfl (by omega) (by decide) e17 ?_
          refine zz_callV (q := 84) C (m_M_putWords l) cv_M_185 (by decide +kernel) rfl rfl rfl (by first | rfl | assumption) (by decide) (by decide) (Nat.le_of_ble_eq_true rfl) ⟨_, b9, mLn h r b9, rfl, hok, hap, hb60, (by rw [k1]; exact (mo_pw_a (h := mo_bg h r) hap (by decide) (by decide) _ _ _).trans f1), (by rw [k1]; exact f2), (by rw [k1]; exact (mo_pw_a (h := mo_bg h r) hap (by decide) (by decide) _ _ _).trans m1), m2, ?_⟩
          refine zz_iconst (q := 85) (n := 1) (x := 1) C (by decide +kernel) rfl (by decide +kernel) ?_
          refine zz_zret C hr hlk (by decide +kernel) (by decide) hQ (by decide) (by decide) ?_
          first
            | exact t4 hno
            | (have htn : tw = none := by
                 cases tw with
                 | none => rfl
                 | some b => exact absurd c71 (nI_neg (by have := (t2 b rfl).1; omega))
               rw [htn] at t4; exact t4 hno)
      · obtain ⟨hsq, hsq4⟩ := l3.resolve_left c35
        refine zz_aload_n (q := 39) (f := 0) (i := 0) C (by decide +kernel) rfl rfl rfl ?_
        refine zz_getR (q := 42) C gf_M_51 (by decide +kernel) rfl (by first | rfl | assumption) (hok 18 90 240 rfl).1 ?_
        refine zz_iconst (q := 43) (n := 4) (x := 4) C (by decide +kernel) rfl (by decide +kernel) ?_
        refine zz_iload_n (q := 44) (f := 1) (i := 1) C (by decide +kernel) rfl rfl rfl ?_
        refine zz_imul (q := 45) C (by decide +kernel) rfl (nI_mul9 4 _) ?_
        refine zz_iload_n (q := 46) (f := 2) (i := 2) C (by decide +kernel) rfl rfl rfl ?_
        refine zz_iadd (q := 47) C (by decide +kernel) rfl (nI_addE hsq) ?_
        refine zz_iaload (q := 48) C (by decide +kernel) rfl rfl (hok 18 90 240 rfl).2 rfl (by omega) (by decide) rfl ?_
        refine zz_aload_n (q := 49) (f := 0) (i := 0) C (by decide +kernel) rfl rfl rfl ?_
        refine zz_getR (q := 52) C gf_M_79 (by decide +kernel) rfl (by first | rfl | assumption) (hok 27 90 4 rfl).1 ?_
        refine zz_iload_n (q := 53) (f := 2) (i := 2) C (by decide +kernel) rfl rfl rfl ?_
        refine zz_iaload (q := 54) C (by decide +kernel) rfl rfl (hok 27 90 4 rfl).2 hsq (by omega) (by decide) rfl ?_
        refine zz_icmp_eq (off := 5) (tgt := 59) (q := 57) C (by decide +kernel) (by decide) rfl (fun c54 => ?_) (fun c54 => ?_)
        · have hno : ¬ mRn h r s9 := by
            first
              | exact fun z => z.1 c35
              | exact fun z => z.2 c54
          refine zz_aload_n (q := 60) (f := 0) (i := 0) C (by decide +kernel) rfl rfl rfl ?_
          refine zz_iload_n (q := 61) (f := 1) (i := 1) C (by decide +kernel) rfl rfl rfl ?_
          refine zz_callV (q := 64) C (m_M_putWords l) cv_M_185 (by decide +kernel) rfl rfl rfl (by first | rfl | assumption) (by decide) (by decide) (Nat.le_of_ble_eq_true rfl) ⟨_, _, mLn h r s9, rfl, hok, hap, hs60, e1, e2, l1, l2, ?_⟩
          have e17 : ma (mo_pw (mo_bg h r) r s9 (mLn h r s9)) r 17 s9 = mO tw := (mo_pw_a (h := mo_bg h r) hap (by decide) (by decide) _ _ _).trans t1
          refine zz_aload_n (q := 65) (f := 0) (i := 0) C (by decide +kernel) rfl rfl rfl ?_
          refine zz_getR (q := 68) C gf_M_48 (by decide +kernel) rfl (by first | rfl | assumption) (hok 17 90 60 rfl).1 ?_
          refine zz_iload_n (q := 69) (f := 1) (i := 1) C (by decide +kernel) rfl rfl rfl ?_
          refine zz_iaload (q := 70) C (by decide +kernel) rfl rfl (hok 17 90 60 rfl).2 rfl (by omega) (by decide) e17 ?_
          refine zz_iconst (q := 71) (n := -1) (x := (-1)) C (by decide +kernel) rfl (by decide +kernel) ?_
          refine zz_icmp_eq (off := 13) (tgt := 84) (q := 74) C (by decide +kernel) (by decide) rfl (fun c71 => ?_) (fun c71 => ?_)
          · refine zz_iconst (q := 85) (n := 1) (x := 1) C (by decide +kernel) rfl (by decide +kernel) ?_
            refine zz_zret C hr hlk (by decide +kernel) (by decide) hQ (by decide) (by decide) ?_
            first
              | exact t4 hno
              | (have htn : tw = none := by
                   cases tw with
                   | none => rfl
                   | some b => exact absurd c71 (nI_neg (by have := (t2 b rfl).1; omega))
                 rw [htn] at t4; exact t4 hno)
          · obtain ⟨b9, rfl⟩ := mO_some c71
            have hlb := t2 b9 rfl
            have hb60 := hlb.1
            obtain ⟨f1, f2, -⟩ := hwl b9 hlb
            obtain ⟨m1, m2, -⟩ := mLn_of hwl hwt hkd hlb
            have hap0 : mo_ap (mo_bg h r) r := hap
            have k1 : mK (mo_pw (mo_bg h r) r s9 (mLn h r s9)) r b9 = mK h r b9 := congrArg Int32.toNatClampNeg (mo_pw_a (h := mo_bg h r) hap (by decide) (by decide) _ _ _)
            refine zz_aload_n (q := 75) (f := 0) (i := 0) C (by decide +kernel) rfl rfl rfl ?_
            refine zz_aload_n (q := 76) (f := 0) (i := 0) C (by decide +kernel) rfl rfl rfl ?_
            refine zz_getR (q := 79) C gf_M_48 (by decide +kernel) rfl (by first | rfl | assumption) (hok 17 90 60 rfl).1 ?_
            refine zz_iload_n (q := 80) (f := 1) (i := 1) C (by decide +kernel) rfl rfl rfl ?_
            refine zz_iaload (q := 81) C (by decide +kernel) rfl rfl (hok 17 90 60 rfl).2 rfl (by omega) (by decide) e17 ?_
            refine zz_callV (q := 84) C (m_M_putWords l) cv_M_185 (by decide +kernel) rfl rfl rfl (by first | rfl | assumption) (by decide) (by decide) (Nat.le_of_ble_eq_true rfl) ⟨_, b9, mLn h r b9, rfl, hok, hap, hb60, (by rw [k1]; exact (mo_pw_a (h := mo_bg h r) hap (by decide) (by decide) _ _ _).trans f1), (by rw [k1]; exact f2), (by rw [k1]; exact (mo_pw_a (h := mo_bg h r) hap (by decide) (by decide) _ _ _).trans m1), m2, ?_⟩
            refine zz_iconst (q := 85) (n := 1) (x := 1) C (by decide +kernel) rfl (by decide +kernel) ?_
            refine zz_zret C hr hlk (by decide +kernel) (by decide) hQ (by decide) (by decide) ?_
            first
              | exact t4 hno
              | (have htn : tw = none := by
                   cases tw with
                   | none => rfl
                   | some b => exact absurd c71 (nI_neg (by have := (t2 b rfl).1; omega))
                 rw [htn] at t4; exact t4 hno)
        · refine zz_iconst (q := 58) (n := 0) (x := 0) C (by decide +kernel) rfl (by decide +kernel) ?_
          refine zz_zret C hr hlk (by decide +kernel) (by decide) hQ (by decide) (by decide) ?_
          exact t3 ⟨c35, c54⟩
    · refine zz_aload_n (q := 15) (f := 0) (i := 0) C (by decide +kernel) rfl rfl rfl ?_
      refine zz_iconst (q := 16) (n := 1) (x := 1) C (by decide +kernel) rfl (by decide +kernel) ?_
      refine zz_putI (q := 19) C gf_M_88 (fun h => by cases h) (fun h => by cases h) (by decide +kernel) rfl (by first | rfl | assumption) ?_
      refine zz_iconst (q := 20) (n := 0) (x := 0) C (by decide +kernel) rfl (by decide +kernel) ?_
      refine zz_zret C hr hlk (by decide +kernel) (by decide) hQ (by decide) (by decide) ?_
      exact hp0 (by
        cases g with
        | none => rfl
        | some s => exact absurd c11 (nI_neg (by have := (hgl s rfl).1; omega)))

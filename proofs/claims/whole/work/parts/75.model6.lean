/-! the reference: which of two siblings is first -/
theorem nI_addE {x : Int32} {a b : Nat} (e : x = nI b) : nI a + x = nI (a + b) := by rw [e]; exact nI_add a b
def mSec (h : zz_H) (r t2 a : Nat) : Prop := ma h r 16 a = -1 ∧ zz_fI h 7 11 r ≠ 0 ∧ ma h r 15 a = nI (mRt h r 3 t2)
def mSqv (h : zz_H) (r a : Nat) : Nat := (ma h r 5 (mK h r a)).toNatClampNeg
def mVa (h : zz_H) (r s : Nat) : Int64 := zz_aL h (mf h r 20) s
def mSq2 (h : zz_H) (r a b : Nat) : Prop := (ma h r 5 (mK h r a) ≠ -1 ∧ ma h r 18 (4 * a + mSqv h r a) ≠ ma h r 18 (4 * b + mSqv h r a) ∧ ma h r 18 (4 * a + mSqv h r a) < ma h r 18 (4 * b + mSqv h r a)) ∨ ((ma h r 5 (mK h r a) = -1 ∨ ma h r 18 (4 * a + mSqv h r a) = ma h r 18 (4 * b + mSqv h r a)) ∧ (((ma h r 5 (mK h r a) = -1 ∨ ma h r 7 (mK h r a) ≠ 0) ∧ ma h r 14 a < ma h r 14 b) ∨ (¬ (ma h r 5 (mK h r a) = -1 ∨ ma h r 7 (mK h r a) ≠ 0) ∧ ma h r 14 b < ma h r 14 a)))
def mSib (h : zz_H) (r t2 a b : Nat) : Prop := (ma h r 15 a ≠ ma h r 15 b ∧ ma h r 15 a < ma h r 15 b) ∨ (ma h r 15 a = ma h r 15 b ∧ ((mSec h r t2 a ∧ ((mVa h r a ≠ mVa h r b ∧ mVa h r a < mVa h r b) ∨ (mVa h r a = mVa h r b ∧ ma h r 14 a < ma h r 14 b))) ∨ (¬ mSec h r t2 a ∧ mSq2 h r a b)))
section MS
variable {h : zz_H} {r t2 a b : Nat}
theorem mSib_k (hk : ¬ ma h r 15 a = ma h r 15 b) : mSib h r t2 a b ↔ ma h r 15 a < ma h r 15 b := by simp [mSib, hk]
theorem mSib_s (hk : ma h r 15 a = ma h r 15 b) (hs : mSec h r t2 a) (hv : ¬ mVa h r a = mVa h r b) : mSib h r t2 a b ↔ mVa h r a < mVa h r b := by
  refine ⟨?_, fun z => Or.inr ⟨hk, Or.inl ⟨hs, Or.inl ⟨hv, z⟩⟩⟩⟩
  rintro (z | ⟨-, ⟨-, z | z⟩ | z⟩)
  · exact absurd hk z.1
  · exact z.2
  · exact absurd z.1 hv
  · exact absurd hs z.1
theorem mSib_n (hk : ma h r 15 a = ma h r 15 b) (hs : mSec h r t2 a) (hv : mVa h r a = mVa h r b) : mSib h r t2 a b ↔ ma h r 14 a < ma h r 14 b := by
  refine ⟨?_, fun z => Or.inr ⟨hk, Or.inl ⟨hs, Or.inr ⟨hv, z⟩⟩⟩⟩
  rintro (z | ⟨-, ⟨-, z | z⟩ | z⟩)
  · exact absurd hk z.1
  · exact absurd hv z.1
  · exact z.2
  · exact absurd hs z.1
theorem mSib_q (hk : ma h r 15 a = ma h r 15 b) (hs : ¬ mSec h r t2 a) : mSib h r t2 a b ↔ mSq2 h r a b := by
  refine ⟨?_, fun z => Or.inr ⟨hk, Or.inr ⟨hs, z⟩⟩⟩
  rintro (z | ⟨-, z | z⟩)
  · exact absurd hk z.1
  · exact absurd z.1 hs
  · exact z.2
theorem mSq2_w (h1 : ¬ ma h r 5 (mK h r a) = -1) (h2 : ¬ ma h r 18 (4 * a + mSqv h r a) = ma h r 18 (4 * b + mSqv h r a)) : mSq2 h r a b ↔ ma h r 18 (4 * a + mSqv h r a) < ma h r 18 (4 * b + mSqv h r a) := by
  refine ⟨?_, fun z => Or.inl ⟨h1, h2, z⟩⟩
  rintro (z | ⟨z, -⟩)
  · exact z.2.2
  · exact absurd z (fun w => w.elim h1 h2)
theorem mSq2_l (h1 : ma h r 5 (mK h r a) = -1 ∨ ma h r 18 (4 * a + mSqv h r a) = ma h r 18 (4 * b + mSqv h r a)) (h2 : ma h r 5 (mK h r a) = -1 ∨ ma h r 7 (mK h r a) ≠ 0) : mSq2 h r a b ↔ ma h r 14 a < ma h r 14 b := by
  refine ⟨?_, fun z => Or.inr ⟨h1, Or.inl ⟨h2, z⟩⟩⟩
  rintro (z | ⟨-, z | z⟩)
  · exact absurd h1 (fun w => w.elim z.1 z.2.1)
  · exact z.2
  · exact absurd h2 z.1
theorem mSq2_f (h1 : ma h r 5 (mK h r a) = -1 ∨ ma h r 18 (4 * a + mSqv h r a) = ma h r 18 (4 * b + mSqv h r a)) (h2 : ¬ (ma h r 5 (mK h r a) = -1 ∨ ma h r 7 (mK h r a) ≠ 0)) : mSq2 h r a b ↔ ma h r 14 b < ma h r 14 a := by
  refine ⟨?_, fun z => Or.inr ⟨h1, Or.inr ⟨h2, z⟩⟩⟩
  rintro (z | ⟨-, z | z⟩)
  · exact absurd h1 (fun w => w.elim z.1 z.2.1)
  · exact absurd z.1 h2
  · exact z.2
end MS
def mo_kd (h : zz_H) (r : Nat) : Prop := ∀ s, mLive h r s → ma h r 1 (mK h r s) ≠ 0
def mo_t2 (h : zz_H) (r t2 : Nat) : Prop := zz_fI h 7 11 r ≠ 0 → t2 < 8 ∧ ma h r 1 t2 ≠ 0 ∧ zz_fI h 7 9 r = nI t2
def T_M_isSiblingFirst : zz_Tr := fun as h post => ∃ r a9 b9 t2, as = [zz_r 7 (some r), zz_i (nI a9), zz_i (nI b9)] ∧ mo_ok h r ∧ mo_wl h r ∧ mo_wt h r ∧ mo_kd h r ∧ mo_t2 h r t2 ∧ mLive h r a9 ∧ mLive h r b9 ∧ post (some (zz_i (zz_b (mSib h r t2 a9 b9)))) h
set_option maxRecDepth 100000 in
set_option maxHeartbeats 4000000 in
theorem m_M_isSiblingFirst (l : Launch) : zz_Met l y_M_isSiblingFirst w_M_isSiblingFirst { frames := 2, cells := 0, slots := 0, locals := 34 } T_M_isSiblingFirst := by
  refine zz_ofZ (by decide) (fun as h post hT => ?_) ?_
  · obtain ⟨r, a9, b9, t2, rfl, hok, hwl, hwt, hkd, ht2, hla, hlb, hp⟩ := hT
    exact ⟨by simp [zz_cat], by simp⟩
  · intro D DA h as post hT p e s m args below meth c Q C hr hlk hnm hQ
    obtain ⟨r, a9, b9, t2, rfl, hok, hwl, hwt, hkd, ht2, hla, hlb, hp⟩ := hT
    have ha60 := hla.1
    have hb60 := hlb.1
    obtain ⟨e1, e2, -⟩ := hwl a9 hla
    obtain ⟨f1, f2, -⟩ := hwl b9 hlb
    obtain ⟨-, -, -, -, n9, s1, s2, s3, s4⟩ := hwt (mK h r a9) e2 (hkd a9 hla)
    have lp193 : ma h r 15 a9 = ma h r 15 b9 → ¬ mSec h r t2 a9 → (ma h r 5 (mK h r a9) = -1 ∨ ma h r 18 (4 * a9 + mSqv h r a9) = ma h r 18 (4 * b9 + mSqv h r a9)) → zz_Z p l e { frames := 2, cells := 0, slots := 0, locals := 34 } s m args below meth c Q D DA (zz_A h s.heap.size) h 5 193 [some (zz_r 7 (some r)), some (zz_i (nI a9)), some (zz_i (nI b9)), some (zz_i (nI (mK h r a9))), some (zz_i (ma h r 5 (mK h r a9)))] [] h 0 0 := by
      intro hk9 hns hw9
      refine zz_iload (q := 195) (i := 4) C (by decide +kernel) rfl rfl ?_
      refine zz_iconst (q := 196) (n := -1) (x := (-1)) C (by decide +kernel) rfl (by decide +kernel) ?_
      refine zz_icmp_eq (off := 12) (tgt := 208) (q := 199) C (by decide +kernel) (by decide) rfl (fun c196 => ?_) (fun c196 => ?_)
      · refine zz_aload_n (q := 209) (f := 0) (i := 0) C (by decide +kernel) rfl rfl rfl ?_
        refine zz_getR (q := 212) C gf_M_39 (by decide +kernel) rfl (by first | rfl | assumption) (hok 14 90 60 rfl).1 ?_
        refine zz_iload_n (q := 213) (f := 1) (i := 1) C (by decide +kernel) rfl rfl rfl ?_
        refine zz_iaload (q := 214) C (by decide +kernel) rfl rfl (hok 14 90 60 rfl).2 rfl (by omega) (by decide) rfl ?_
        refine zz_aload_n (q := 215) (f := 0) (i := 0) C (by decide +kernel) rfl rfl rfl ?_
        refine zz_getR (q := 218) C gf_M_39 (by decide +kernel) rfl (by first | rfl | assumption) (hok 14 90 60 rfl).1 ?_
        refine zz_iload_n (q := 219) (f := 2) (i := 2) C (by decide +kernel) rfl rfl rfl ?_
        refine zz_iaload (q := 220) C (by decide +kernel) rfl rfl (hok 14 90 60 rfl).2 rfl (by omega) (by decide) rfl ?_
        refine zz_icmp_ge (off := 7) (tgt := 227) (q := 223) C (by decide +kernel) (by decide) rfl (fun c220 => ?_) (fun c220 => ?_)
        · refine zz_iconst (q := 228) (n := 0) (x := 0) C (by decide +kernel) rfl (by decide +kernel) ?_
          refine zz_goto (off := 23) (tgt := 251) C (by decide +kernel) (by decide) ?_
          refine zz_zret C hr hlk (by decide +kernel) (by decide) hQ (by decide) (by decide) ?_
          first
            | exact zz_rT hp (Int32.not_le.mp c220) ((mSib_q hk9 hns).trans (mSq2_l hw9 (Or.inl c196)))
            | exact zz_rF hp (fun z => absurd c220 (Int32.not_le.mpr z)) ((mSib_q hk9 hns).trans (mSq2_l hw9 (Or.inl c196)))
            | exact zz_rT hp (Int32.not_le.mp c220) ((mSib_q hk9 hns).trans (mSq2_l hw9 (Or.inr c205)))
            | exact zz_rF hp (fun z => absurd c220 (Int32.not_le.mpr z)) ((mSib_q hk9 hns).trans (mSq2_l hw9 (Or.inr c205)))
            | exact zz_rT hp (Int32.not_le.mp c243) ((mSib_q hk9 hns).trans (mSq2_f hw9 (fun z => z.elim c196 (fun w => w c205))))
            | exact zz_rF hp (fun z => absurd c243 (Int32.not_le.mpr z)) ((mSib_q hk9 hns).trans (mSq2_f hw9 (fun z => z.elim c196 (fun w => w c205))))
        · refine zz_iconst (q := 224) (n := 1) (x := 1) C (by decide +kernel) rfl (by decide +kernel) ?_
          refine zz_goto (off := 27) (tgt := 251) C (by decide +kernel) (by decide) ?_
          refine zz_zret C hr hlk (by decide +kernel) (by decide) hQ (by decide) (by decide) ?_
          first
            | exact zz_rT hp (Int32.not_le.mp c220) ((mSib_q hk9 hns).trans (mSq2_l hw9 (Or.inl c196)))
            | exact zz_rF hp (fun z => absurd c220 (Int32.not_le.mpr z)) ((mSib_q hk9 hns).trans (mSq2_l hw9 (Or.inl c196)))
            | exact zz_rT hp (Int32.not_le.mp c220) ((mSib_q hk9 hns).trans (mSq2_l hw9 (Or.inr c205)))
            | exact zz_rF hp (fun z => absurd c220 (Int32.not_le.mpr z)) ((mSib_q hk9 hns).trans (mSq2_l hw9 (Or.inr c205)))
            | exact zz_rT hp (Int32.not_le.mp c243) ((mSib_q hk9 hns).trans (mSq2_f hw9 (fun z => z.elim c196 (fun w => w c205))))
            | exact zz_rF hp (fun z => absurd c243 (Int32.not_le.mpr z)) ((mSib_q hk9 hns).trans (mSq2_f hw9 (fun z => z.elim c196 (fun w => w c205))))
      · refine zz_aload_n (q := 200) (f := 0) (i := 0) C (by decide +kernel) rfl rfl rfl ?_
        refine zz_getR (q := 203) C gf_M_29 (by decide +kernel) rfl (by first | rfl | assumption) (hok 7 91 8 rfl).1 ?_
        refine zz_iload_n (q := 204) (f := 3) (i := 3) C (by decide +kernel) rfl rfl rfl ?_
        refine zz_baload (q := 205) C (by decide +kernel) rfl rfl (hok 7 91 8 rfl).2 rfl (by omega) (by decide) rfl ?_
        refine zz_if_eq (off := 26) (tgt := 231) (q := 208) C (by decide +kernel) (by decide) rfl (fun c205 => ?_) (fun c205 => ?_)
        · refine zz_aload_n (q := 232) (f := 0) (i := 0) C (by decide +kernel) rfl rfl rfl ?_
          refine zz_getR (q := 235) C gf_M_39 (by decide +kernel) rfl (by first | rfl | assumption) (hok 14 90 60 rfl).1 ?_
          refine zz_iload_n (q := 236) (f := 1) (i := 1) C (by decide +kernel) rfl rfl rfl ?_
          refine zz_iaload (q := 237) C (by decide +kernel) rfl rfl (hok 14 90 60 rfl).2 rfl (by omega) (by decide) rfl ?_
          refine zz_aload_n (q := 238) (f := 0) (i := 0) C (by decide +kernel) rfl rfl rfl ?_
          refine zz_getR (q := 241) C gf_M_39 (by decide +kernel) rfl (by first | rfl | assumption) (hok 14 90 60 rfl).1 ?_
          refine zz_iload_n (q := 242) (f := 2) (i := 2) C (by decide +kernel) rfl rfl rfl ?_
          refine zz_iaload (q := 243) C (by decide +kernel) rfl rfl (hok 14 90 60 rfl).2 rfl (by omega) (by decide) rfl ?_
          refine zz_icmp_le (off := 7) (tgt := 250) (q := 246) C (by decide +kernel) (by decide) rfl (fun c243 => ?_) (fun c243 => ?_)
          · refine zz_iconst (q := 251) (n := 0) (x := 0) C (by decide +kernel) rfl (by decide +kernel) ?_
            refine zz_zret C hr hlk (by decide +kernel) (by decide) hQ (by decide) (by decide) ?_
            first
              | exact zz_rT hp (Int32.not_le.mp c220) ((mSib_q hk9 hns).trans (mSq2_l hw9 (Or.inl c196)))
              | exact zz_rF hp (fun z => absurd c220 (Int32.not_le.mpr z)) ((mSib_q hk9 hns).trans (mSq2_l hw9 (Or.inl c196)))
              | exact zz_rT hp (Int32.not_le.mp c220) ((mSib_q hk9 hns).trans (mSq2_l hw9 (Or.inr c205)))
              | exact zz_rF hp (fun z => absurd c220 (Int32.not_le.mpr z)) ((mSib_q hk9 hns).trans (mSq2_l hw9 (Or.inr c205)))
              | exact zz_rT hp (Int32.not_le.mp c243) ((mSib_q hk9 hns).trans (mSq2_f hw9 (fun z => z.elim c196 (fun w => w c205))))
              | exact zz_rF hp (fun z => absurd c243 (Int32.not_le.mpr z)) ((mSib_q hk9 hns).trans (mSq2_f hw9 (fun z => z.elim c196 (fun w => w c205))))
          · refine zz_iconst (q := 247) (n := 1) (x := 1) C (by decide +kernel) rfl (by decide +kernel) ?_
            refine zz_goto (off := 4) (tgt := 251) C (by decide +kernel) (by decide) ?_
            refine zz_zret C hr hlk (by decide +kernel) (by decide) hQ (by decide) (by decide) ?_
            first
              | exact zz_rT hp (Int32.not_le.mp c220) ((mSib_q hk9 hns).trans (mSq2_l hw9 (Or.inl c196)))
              | exact zz_rF hp (fun z => absurd c220 (Int32.not_le.mpr z)) ((mSib_q hk9 hns).trans (mSq2_l hw9 (Or.inl c196)))
              | exact zz_rT hp (Int32.not_le.mp c220) ((mSib_q hk9 hns).trans (mSq2_l hw9 (Or.inr c205)))
              | exact zz_rF hp (fun z => absurd c220 (Int32.not_le.mpr z)) ((mSib_q hk9 hns).trans (mSq2_l hw9 (Or.inr c205)))
              | exact zz_rT hp (Int32.not_le.mp c243) ((mSib_q hk9 hns).trans (mSq2_f hw9 (fun z => z.elim c196 (fun w => w c205))))
              | exact zz_rF hp (fun z => absurd c243 (Int32.not_le.mpr z)) ((mSib_q hk9 hns).trans (mSq2_f hw9 (fun z => z.elim c196 (fun w => w c205))))
        · refine zz_aload_n (q := 209) (f := 0) (i := 0) C (by decide +kernel) rfl rfl rfl ?_
          refine zz_getR (q := 212) C gf_M_39 (by decide +kernel) rfl (by first | rfl | assumption) (hok 14 90 60 rfl).1 ?_
          refine zz_iload_n (q := 213) (f := 1) (i := 1) C (by decide +kernel) rfl rfl rfl ?_
          refine zz_iaload (q := 214) C (by decide +kernel) rfl rfl (hok 14 90 60 rfl).2 rfl (by omega) (by decide) rfl ?_
          refine zz_aload_n (q := 215) (f := 0) (i := 0) C (by decide +kernel) rfl rfl rfl ?_
          refine zz_getR (q := 218) C gf_M_39 (by decide +kernel) rfl (by first | rfl | assumption) (hok 14 90 60 rfl).1 ?_
          refine zz_iload_n (q := 219) (f := 2) (i := 2) C (by decide +kernel) rfl rfl rfl ?_
          refine zz_iaload (q := 220) C (by decide +kernel) rfl rfl (hok 14 90 60 rfl).2 rfl (by omega) (by decide) rfl ?_
          refine zz_icmp_ge (off := 7) (tgt := 227) (q := 223) C (by decide +kernel) (by decide) rfl (fun c220 => ?_) (fun c220 => ?_)
          · refine zz_iconst (q := 228) (n := 0) (x := 0) C (by decide +kernel) rfl (by decide +kernel) ?_
            refine zz_goto (off := 23) (tgt := 251) C (by decide +kernel) (by decide) ?_
            refine zz_zret C hr hlk (by decide +kernel) (by decide) hQ (by decide) (by decide) ?_
            first
              | exact zz_rT hp (Int32.not_le.mp c220) ((mSib_q hk9 hns).trans (mSq2_l hw9 (Or.inl c196)))
              | exact zz_rF hp (fun z => absurd c220 (Int32.not_le.mpr z)) ((mSib_q hk9 hns).trans (mSq2_l hw9 (Or.inl c196)))
              | exact zz_rT hp (Int32.not_le.mp c220) ((mSib_q hk9 hns).trans (mSq2_l hw9 (Or.inr c205)))
              | exact zz_rF hp (fun z => absurd c220 (Int32.not_le.mpr z)) ((mSib_q hk9 hns).trans (mSq2_l hw9 (Or.inr c205)))
              | exact zz_rT hp (Int32.not_le.mp c243) ((mSib_q hk9 hns).trans (mSq2_f hw9 (fun z => z.elim c196 (fun w => w c205))))
              | exact zz_rF hp (fun z => absurd c243 (Int32.not_le.mpr z)) ((mSib_q hk9 hns).trans (mSq2_f hw9 (fun z => z.elim c196 (fun w => w c205))))
          · refine zz_iconst (q := 224) (n := 1) (x := 1) C (by decide +kernel) rfl (by decide +kernel) ?_
            refine zz_goto (off := 27) (tgt := 251) C (by decide +kernel) (by decide) ?_
            refine zz_zret C hr hlk (by decide +kernel) (by decide) hQ (by decide) (by decide) ?_
            first
              | exact zz_rT hp (Int32.not_le.mp c220) ((mSib_q hk9 hns).trans (mSq2_l hw9 (Or.inl c196)))
              | exact zz_rF hp (fun z => absurd c220 (Int32.not_le.mpr z)) ((mSib_q hk9 hns).trans (mSq2_l hw9 (Or.inl c196)))
              | exact zz_rT hp (Int32.not_le.mp c220) ((mSib_q hk9 hns).trans (mSq2_l hw9 (Or.inr c205)))
              | exact zz_rF hp (fun z => absurd c220 (Int32.not_le.mpr z)) ((mSib_q hk9 hns).trans (mSq2_l hw9 (Or.inr c205)))
              | exact zz_rT hp (Int32.not_le.mp c243) ((mSib_q hk9 hns).trans (mSq2_f hw9 (fun z => z.elim c196 (fun w => w c205))))
              | exact zz_rF hp (fun z => absurd c243 (Int32.not_le.mpr z)) ((mSib_q hk9 hns).trans (mSq2_f hw9 (fun z => z.elim c196 (fun w => w c205))))
    have lp123 : ma h r 15 a9 = ma h r 15 b9 → ¬ mSec h r t2 a9 → zz_Z p l e { frames := 2, cells := 0, slots := 0, locals := 34 } s m args below meth c Q D DA (zz_A h s.heap.size) h 5 123 [some (zz_r 7 (some r)), some (zz_i (nI a9)), some (zz_i (nI b9)), some (zz_i (nI (mK h r a9))), none] [] h 0 0 := by
      intro hk9 hns
      refine zz_aload_n (q := 124) (f := 0) (i := 0) C (by decide +kernel) rfl rfl rfl ?_
      refine zz_getR (q := 127) C gf_M_23 (by decide +kernel) rfl (by first | rfl | assumption) (hok 5 90 8 rfl).1 ?_
      refine zz_iload_n (q := 128) (f := 3) (i := 3) C (by decide +kernel) rfl rfl rfl ?_
      refine zz_iaload (q := 129) C (by decide +kernel) rfl rfl (hok 5 90 8 rfl).2 rfl (by omega) (by decide) rfl ?_
      refine zz_istore (q := 131) (i := 4) C (by decide +kernel) rfl (by decide) rfl ?_
      refine zz_iload (q := 133) (i := 4) C (by decide +kernel) rfl rfl ?_
      refine zz_iconst (q := 134) (n := -1) (x := (-1)) C (by decide +kernel) rfl (by decide +kernel) ?_
      refine zz_icmp_eq (off := 59) (tgt := 193) (q := 137) C (by decide +kernel) (by decide) rfl (fun c134 => ?_) (fun c134 => ?_)
      · -- AT 193
        first
          | exact lp193 hk9 hns (Or.inl c134)
          | exact lp193 hk9 hns (Or.inr c159)
      · obtain ⟨j9, hj1, hj2⟩ := s4.resolve_left c134
        have hsv : mSqv h r a9 = j9 := by rw [mSqv, hj2]; exact nI_clamp (by omega)
        have hsq : ma h r 5 (mK h r a9) = nI (mSqv h r a9) := by rw [hsv]; exact hj2
        have hsq4 : mSqv h r a9 < 4 := by omega
        refine zz_aload_n (q := 138) (f := 0) (i := 0) C (by decide +kernel) rfl rfl rfl ?_
        refine zz_getR (q := 141) C gf_M_51 (by decide +kernel) rfl (by first | rfl | assumption) (hok 18 90 240 rfl).1 ?_
        refine zz_iconst (q := 142) (n := 4) (x := 4) C (by decide +kernel) rfl (by decide +kernel) ?_
        refine zz_iload_n (q := 143) (f := 1) (i := 1) C (by decide +kernel) rfl rfl rfl ?_
        refine zz_imul (q := 144) C (by decide +kernel) rfl (nI_mul9 4 _) ?_
        refine zz_iload (q := 146) (i := 4) C (by decide +kernel) rfl rfl ?_
        refine zz_iadd (q := 147) C (by decide +kernel) rfl (nI_addE hsq) ?_
        refine zz_iaload (q := 148) C (by decide +kernel) rfl rfl (hok 18 90 240 rfl).2 rfl (by omega) (by decide) rfl ?_
        refine zz_aload_n (q := 149) (f := 0) (i := 0) C (by decide +kernel) rfl rfl rfl ?_
        refine zz_getR (q := 152) C gf_M_51 (by decide +kernel) rfl (by first | rfl | assumption) (hok 18 90 240 rfl).1 ?_
        refine zz_iconst (q := 153) (n := 4) (x := 4) C (by decide +kernel) rfl (by decide +kernel) ?_
        refine zz_iload_n (q := 154) (f := 2) (i := 2) C (by decide +kernel) rfl rfl rfl ?_
        refine zz_imul (q := 155) C (by decide +kernel) rfl (nI_mul9 4 _) ?_
        refine zz_iload (q := 157) (i := 4) C (by decide +kernel) rfl rfl ?_
        refine zz_iadd (q := 158) C (by decide +kernel) rfl (nI_addE hsq) ?_
        refine zz_iaload (q := 159) C (by decide +kernel) rfl rfl (hok 18 90 240 rfl).2 rfl (by omega) (by decide) rfl ?_
        refine zz_icmp_eq (off := 34) (tgt := 193) (q := 162) C (by decide +kernel) (by decide) rfl (fun c159 => ?_) (fun c159 => ?_)
        · -- AT 193
          first
            | exact lp193 hk9 hns (Or.inl c134)
            | exact lp193 hk9 hns (Or.inr c159)
        · refine zz_aload_n (q := 163) (f := 0) (i := 0) C (by decide +kernel) rfl rfl rfl ?_
          refine zz_getR (q := 166) C gf_M_51 (by decide +kernel) rfl (by first | rfl | assumption) (hok 18 90 240 rfl).1 ?_
          refine zz_iconst (q := 167) (n := 4) (x := 4) C (by decide +kernel) rfl (by decide +kernel) ?_
          refine zz_iload_n (q := 168) (f := 1) (i := 1) C (by decide +kernel) rfl rfl rfl ?_
          refine zz_imul (q := 169) C (by decide +kernel) rfl (nI_mul9 4 _) ?_
          refine zz_iload (q := 171) (i := 4) C (by decide +kernel) rfl rfl ?_
          refine zz_iadd (q := 172) C (by decide +kernel) rfl (nI_addE hsq) ?_
          refine zz_iaload (q := 173) C (by decide +kernel) rfl rfl (hok 18 90 240 rfl).2 rfl (by omega) (by decide) rfl ?_
          refine zz_aload_n (q := 174) (f := 0) (i := 0) C (by decide +kernel) rfl rfl rfl ?_
          refine zz_getR (q := 177) C gf_M_51 (by decide +kernel) rfl (by first | rfl | assumption) (hok 18 90 240 rfl).1 ?_
          refine zz_iconst (q := 178) (n := 4) (x := 4) C (by decide +kernel) rfl (by decide +kernel) ?_
          refine zz_iload_n (q := 179) (f := 2) (i := 2) C (by decide +kernel) rfl rfl rfl ?_
          refine zz_imul (q := 180) C (by decide +kernel) rfl (nI_mul9 4 _) ?_
          refine zz_iload (q := 182) (i := 4) C (by decide +kernel) rfl rfl ?_
          refine zz_iadd (q := 183) C (by decide +kernel) rfl (nI_addE hsq) ?_
          refine zz_iaload (q := 184) C (by decide +kernel) rfl rfl (hok 18 90 240 rfl).2 rfl (by omega) (by decide) rfl ?_
          refine zz_icmp_ge (off := 7) (tgt := 191) (q := 187) C (by decide +kernel) (by decide) rfl (fun c184 => ?_) (fun c184 => ?_)
          · refine zz_iconst (q := 192) (n := 0) (x := 0) C (by decide +kernel) rfl (by decide +kernel) ?_
            refine zz_zret C hr hlk (by decide +kernel) (by decide) hQ (by decide) (by decide) ?_
            have e9 := (mSib_q hk9 hns).trans (mSq2_w c134 c159)
            first
              | exact zz_rT hp (Int32.not_le.mp c184) e9
              | exact zz_rF hp (fun z => absurd c184 (Int32.not_le.mpr z)) e9
          · refine zz_iconst (q := 188) (n := 1) (x := 1) C (by decide +kernel) rfl (by decide +kernel) ?_
            refine zz_goto (off := 4) (tgt := 192) C (by decide +kernel) (by decide) ?_
            refine zz_zret C hr hlk (by decide +kernel) (by decide) hQ (by decide) (by decide) ?_
            have e9 := (mSib_q hk9 hns).trans (mSq2_w c134 c159)
            first
              | exact zz_rT hp (Int32.not_le.mp c184) e9
              | exact zz_rF hp (fun z => absurd c184 (Int32.not_le.mpr z)) e9
    refine zz_aload_n (q := 1) (f := 0) (i := 0) C (by decide +kernel) rfl rfl rfl ?_
    refine zz_getR (q := 4) C gf_M_42 (by decide +kernel) rfl (by first | rfl | assumption) (hok 15 90 60 rfl).1 ?_
    refine zz_iload_n (q := 5) (f := 1) (i := 1) C (by decide +kernel) rfl rfl rfl ?_
    refine zz_iaload (q := 6) C (by decide +kernel) rfl rfl (hok 15 90 60 rfl).2 rfl (by omega) (by decide) e1 ?_
    refine zz_istore_n (q := 7) (f := 3) (i := 3) C (by decide +kernel) rfl rfl (by decide) rfl ?_
    refine zz_iload_n (q := 8) (f := 3) (i := 3) C (by decide +kernel) rfl rfl rfl ?_
    refine zz_aload_n (q := 9) (f := 0) (i := 0) C (by decide +kernel) rfl rfl rfl ?_
    refine zz_getR (q := 12) C gf_M_42 (by decide +kernel) rfl (by first | rfl | assumption) (hok 15 90 60 rfl).1 ?_
    refine zz_iload_n (q := 13) (f := 2) (i := 2) C (by decide +kernel) rfl rfl rfl ?_
    refine zz_iaload (q := 14) C (by decide +kernel) rfl rfl (hok 15 90 60 rfl).2 rfl (by omega) (by decide) f1 ?_
    refine zz_icmp_eq (off := 19) (tgt := 33) (q := 17) C (by decide +kernel) (by decide) rfl (fun c14 => ?_) (fun c14 => ?_)
    · have hk9 : ma h r 15 a9 = ma h r 15 b9 := e1.trans (c14.trans f1.symm)
      refine zz_aload_n (q := 34) (f := 0) (i := 0) C (by decide +kernel) rfl rfl rfl ?_
      refine zz_getR (q := 37) C gf_M_45 (by decide +kernel) rfl (by first | rfl | assumption) (hok 16 90 60 rfl).1 ?_
      refine zz_iload_n (q := 38) (f := 1) (i := 1) C (by decide +kernel) rfl rfl rfl ?_
      refine zz_iaload (q := 39) C (by decide +kernel) rfl rfl (hok 16 90 60 rfl).2 rfl (by omega) (by decide) rfl ?_
      refine zz_iconst (q := 40) (n := -1) (x := (-1)) C (by decide +kernel) rfl (by decide +kernel) ?_
      refine zz_icmp_ne (off := 83) (tgt := 123) (q := 43) C (by decide +kernel) (by decide) rfl (fun c40 => ?_) (fun c40 => ?_)
      · -- AT 123
        first
          | exact lp123 hk9 (fun z => c40 z.1)
          | exact lp123 hk9 (fun z => z.2.1 c47)
          | exact lp123 hk9 (fun z => c59 (e1.symm.trans z.2.2))
      · refine zz_aload_n (q := 44) (f := 0) (i := 0) C (by decide +kernel) rfl rfl rfl ?_
        refine zz_getI (q := 47) C gf_M_124 (by decide +kernel) rfl (by first | rfl | assumption) rfl ?_
        refine zz_if_eq (off := 76) (tgt := 123) (q := 50) C (by decide +kernel) (by decide) rfl (fun c47 => ?_) (fun c47 => ?_)
        · -- AT 123
          first
            | exact lp123 hk9 (fun z => c40 z.1)
            | exact lp123 hk9 (fun z => z.2.1 c47)
            | exact lp123 hk9 (fun z => c59 (e1.symm.trans z.2.2))
        · obtain ⟨t1, t3, t4⟩ := ht2 c47
          refine zz_iload_n (q := 51) (f := 3) (i := 3) C (by decide +kernel) rfl rfl rfl ?_
          refine zz_aload_n (q := 52) (f := 0) (i := 0) C (by decide +kernel) rfl rfl rfl ?_
          refine zz_aload_n (q := 53) (f := 0) (i := 0) C (by decide +kernel) rfl rfl rfl ?_
          refine zz_getI (q := 56) C gf_M_35 (by decide +kernel) rfl (by first | rfl | assumption) t4 ?_
          refine zz_callV (q := 59) C (m_M_rootType l) cv_M_128 (by decide +kernel) rfl rfl rfl (by first | rfl | assumption) (by decide) (by decide) (Nat.le_of_ble_eq_true rfl) ⟨_, _, rfl, hok, hwt, t1, t3, ?_⟩
          refine zz_icmp_ne (off := 64) (tgt := 123) (q := 62) C (by decide +kernel) (by decide) rfl (fun c59 => ?_) (fun c59 => ?_)
          · -- AT 123
            first
              | exact lp123 hk9 (fun z => c40 z.1)
              | exact lp123 hk9 (fun z => z.2.1 c47)
              | exact lp123 hk9 (fun z => c59 (e1.symm.trans z.2.2))
          · have hsec : mSec h r t2 a9 := ⟨c40, c47, e1.trans c59⟩
            refine zz_aload_n (q := 63) (f := 0) (i := 0) C (by decide +kernel) rfl rfl rfl ?_
            refine zz_getR (q := 66) C gf_M_57 (by decide +kernel) rfl (by first | rfl | assumption) (hok 20 92 60 rfl).1 ?_
            refine zz_iload_n (q := 67) (f := 1) (i := 1) C (by decide +kernel) rfl rfl rfl ?_
            refine zz_laload (q := 68) C (by decide +kernel) rfl rfl (hok 20 92 60 rfl).2 rfl (by omega) (by decide) rfl ?_
            refine zz_aload_n (q := 69) (f := 0) (i := 0) C (by decide +kernel) rfl rfl rfl ?_
            refine zz_getR (q := 72) C gf_M_57 (by decide +kernel) rfl (by first | rfl | assumption) (hok 20 92 60 rfl).1 ?_
            refine zz_iload_n (q := 73) (f := 2) (i := 2) C (by decide +kernel) rfl rfl rfl ?_
            refine zz_laload (q := 74) C (by decide +kernel) rfl rfl (hok 20 92 60 rfl).2 rfl (by omega) (by decide) rfl ?_
            refine zz_lcmp (q := 75) C (by decide +kernel) rfl ?_
            refine zz_if_eq (off := 27) (tgt := 102) (q := 78) C (by decide +kernel) (by decide) rfl (fun c75 => ?_) (fun c75 => ?_)
            · refine zz_aload_n (q := 103) (f := 0) (i := 0) C (by decide +kernel) rfl rfl rfl ?_
              refine zz_getR (q := 106) C gf_M_39 (by decide +kernel) rfl (by first | rfl | assumption) (hok 14 90 60 rfl).1 ?_
              refine zz_iload_n (q := 107) (f := 1) (i := 1) C (by decide +kernel) rfl rfl rfl ?_
              refine zz_iaload (q := 108) C (by decide +kernel) rfl rfl (hok 14 90 60 rfl).2 rfl (by omega) (by decide) rfl ?_
              refine zz_aload_n (q := 109) (f := 0) (i := 0) C (by decide +kernel) rfl rfl rfl ?_
              refine zz_getR (q := 112) C gf_M_39 (by decide +kernel) rfl (by first | rfl | assumption) (hok 14 90 60 rfl).1 ?_
              refine zz_iload_n (q := 113) (f := 2) (i := 2) C (by decide +kernel) rfl rfl rfl ?_
              refine zz_iaload (q := 114) C (by decide +kernel) rfl rfl (hok 14 90 60 rfl).2 rfl (by omega) (by decide) rfl ?_
              refine zz_icmp_ge (off := 7) (tgt := 121) (q := 117) C (by decide +kernel) (by decide) rfl (fun c114 => ?_) (fun c114 => ?_)
              · refine zz_iconst (q := 122) (n := 0) (x := 0) C (by decide +kernel) rfl (by decide +kernel) ?_
                refine zz_zret C hr hlk (by decide +kernel) (by decide) hQ (by decide) (by decide) ?_
                first
                  | exact zz_rT hp (Int32.not_le.mp c114) (mSib_n hk9 hsec ((lg_cmp_eq _ _).mp c75))
                  | exact zz_rF hp (fun z => absurd c114 (Int32.not_le.mpr z)) (mSib_n hk9 hsec ((lg_cmp_eq _ _).mp c75))
                  | exact zz_rT hp (Int64.not_le.mp (fun z => c91 ((lg_cmp_ge _ _).mpr z))) (mSib_s hk9 hsec (fun z => c75 ((lg_cmp_eq _ _).mpr z)))
                  | exact zz_rF hp (fun z => absurd ((lg_cmp_ge _ _).mp c91) (Int64.not_le.mpr z)) (mSib_s hk9 hsec (fun z => c75 ((lg_cmp_eq _ _).mpr z)))
              · refine zz_iconst (q := 118) (n := 1) (x := 1) C (by decide +kernel) rfl (by decide +kernel) ?_
                refine zz_goto (off := 4) (tgt := 122) C (by decide +kernel) (by decide) ?_
                refine zz_zret C hr hlk (by decide +kernel) (by decide) hQ (by decide) (by decide) ?_
                first
                  | exact zz_rT hp (Int32.not_le.mp c114) (mSib_n hk9 hsec ((lg_cmp_eq _ _).mp c75))
                  | exact zz_rF hp (fun z => absurd c114 (Int32.not_le.mpr z)) (mSib_n hk9 hsec ((lg_cmp_eq _ _).mp c75))
                  | exact zz_rT hp (Int64.not_le.mp (fun z => c91 ((lg_cmp_ge _ _).mpr z))) (mSib_s hk9 hsec (fun z => c75 ((lg_cmp_eq _ _).mpr z)))
                  | exact zz_rF hp (fun z => absurd ((lg_cmp_ge _ _).mp c91) (Int64.not_le.mpr z)) (mSib_s hk9 hsec (fun z => c75 ((lg_cmp_eq _ _).mpr z)))
            · refine zz_aload_n (q := 79) (f := 0) (i := 0) C (by decide +kernel) rfl rfl rfl ?_
              refine zz_getR (q := 82) C gf_M_57 (by decide +kernel) rfl (by first | rfl | assumption) (hok 20 92 60 rfl).1 ?_
              refine zz_iload_n (q := 83) (f := 1) (i := 1) C (by decide +kernel) rfl rfl rfl ?_
              refine zz_laload (q := 84) C (by decide +kernel) rfl rfl (hok 20 92 60 rfl).2 rfl (by omega) (by decide) rfl ?_
              refine zz_aload_n (q := 85) (f := 0) (i := 0) C (by decide +kernel) rfl rfl rfl ?_
              refine zz_getR (q := 88) C gf_M_57 (by decide +kernel) rfl (by first | rfl | assumption) (hok 20 92 60 rfl).1 ?_
              refine zz_iload_n (q := 89) (f := 2) (i := 2) C (by decide +kernel) rfl rfl rfl ?_
              refine zz_laload (q := 90) C (by decide +kernel) rfl rfl (hok 20 92 60 rfl).2 rfl (by omega) (by decide) rfl ?_
              refine zz_lcmp (q := 91) C (by decide +kernel) rfl ?_
              refine zz_if_ge (off := 7) (tgt := 98) (q := 94) C (by decide +kernel) (by decide) rfl (fun c91 => ?_) (fun c91 => ?_)
              · refine zz_iconst (q := 99) (n := 0) (x := 0) C (by decide +kernel) rfl (by decide +kernel) ?_
                refine zz_goto (off := 23) (tgt := 122) C (by decide +kernel) (by decide) ?_
                refine zz_zret C hr hlk (by decide +kernel) (by decide) hQ (by decide) (by decide) ?_
                first
                  | exact zz_rT hp (Int32.not_le.mp c114) (mSib_n hk9 hsec ((lg_cmp_eq _ _).mp c75))
                  | exact zz_rF hp (fun z => absurd c114 (Int32.not_le.mpr z)) (mSib_n hk9 hsec ((lg_cmp_eq _ _).mp c75))
                  | exact zz_rT hp (Int64.not_le.mp (fun z => c91 ((lg_cmp_ge _ _).mpr z))) (mSib_s hk9 hsec (fun z => c75 ((lg_cmp_eq _ _).mpr z)))
                  | exact zz_rF hp (fun z => absurd ((lg_cmp_ge _ _).mp c91) (Int64.not_le.mpr z)) (mSib_s hk9 hsec (fun z => c75 ((lg_cmp_eq _ _).mpr z)))
              · refine zz_iconst (q := 95) (n := 1) (x := 1) C (by decide +kernel) rfl (by decide +kernel) ?_
                refine zz_goto (off := 27) (tgt := 122) C (by decide +kernel) (by decide) ?_
                refine zz_zret C hr hlk (by decide +kernel) (by decide) hQ (by decide) (by decide) ?_
                first
                  | exact zz_rT hp (Int32.not_le.mp c114) (mSib_n hk9 hsec ((lg_cmp_eq _ _).mp c75))
                  | exact zz_rF hp (fun z => absurd c114 (Int32.not_le.mpr z)) (mSib_n hk9 hsec ((lg_cmp_eq _ _).mp c75))
                  | exact zz_rT hp (Int64.not_le.mp (fun z => c91 ((lg_cmp_ge _ _).mpr z))) (mSib_s hk9 hsec (fun z => c75 ((lg_cmp_eq _ _).mpr z)))
                  | exact zz_rF hp (fun z => absurd ((lg_cmp_ge _ _).mp c91) (Int64.not_le.mpr z)) (mSib_s hk9 hsec (fun z => c75 ((lg_cmp_eq _ _).mpr z)))
    · have hk9 : ¬ ma h r 15 a9 = ma h r 15 b9 := fun z => c14 (e1.symm.trans (z.trans f1))
      refine zz_iload_n (q := 18) (f := 3) (i := 3) C (by decide +kernel) rfl rfl rfl ?_
      refine zz_aload_n (q := 19) (f := 0) (i := 0) C (by decide +kernel) rfl rfl rfl ?_
      refine zz_getR (q := 22) C gf_M_42 (by decide +kernel) rfl (by first | rfl | assumption) (hok 15 90 60 rfl).1 ?_
      refine zz_iload_n (q := 23) (f := 2) (i := 2) C (by decide +kernel) rfl rfl rfl ?_
      refine zz_iaload (q := 24) C (by decide +kernel) rfl rfl (hok 15 90 60 rfl).2 rfl (by omega) (by decide) f1 ?_
      refine zz_icmp_ge (off := 7) (tgt := 31) (q := 27) C (by decide +kernel) (by decide) rfl (fun c24 => ?_) (fun c24 => ?_)
      · refine zz_iconst (q := 32) (n := 0) (x := 0) C (by decide +kernel) rfl (by decide +kernel) ?_
        refine zz_zret C hr hlk (by decide +kernel) (by decide) hQ (by decide) (by decide) ?_
        have e9 := mSib_k (t2 := t2) hk9
        rw [e1, f1] at e9
        first
          | exact zz_rT hp (Int32.not_le.mp c24) e9
          | exact zz_rF hp (fun z => absurd c24 (Int32.not_le.mpr z)) e9
      · refine zz_iconst (q := 28) (n := 1) (x := 1) C (by decide +kernel) rfl (by decide +kernel) ?_
        refine zz_goto (off := 4) (tgt := 32) C (by decide +kernel) (by decide) ?_
        refine zz_zret C hr hlk (by decide +kernel) (by decide) hQ (by decide) (by decide) ?_
        have e9 := mSib_k (t2 := t2) hk9
        rw [e1, f1] at e9
        first
          | exact zz_rT hp (Int32.not_le.mp c24) e9
          | exact zz_rF hp (fun z => absurd c24 (Int32.not_le.mpr z)) e9

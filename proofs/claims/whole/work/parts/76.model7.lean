/-! the reference: which of two is first -/
/-- from level l on: at the first level at which the ways part, the siblings there decide; else the upper one is first -/
def mF (h : zz_H) (r t2 a b : Nat) : Nat → Nat → Prop
  | 0, _ => mLv h r a < mLv h r b
  | n + 1, l => if l ≤ mLv h r a ∧ l ≤ mLv h r b then (if mAt h r l 3 a = mAt h r l 3 b then mF h r t2 a b n (l + 1) else mSib h r t2 (mAt h r l 3 a) (mAt h r l 3 b)) else mLv h r a < mLv h r b
def mFst (h : zz_H) (r t2 a b : Nat) : Prop := mF h r t2 a b 4 1
section MF
variable {h : zz_H} {r t2 a b n l : Nat}
theorem mF_out (ho : ¬ (l ≤ mLv h r a ∧ l ≤ mLv h r b)) : mF h r t2 a b n l ↔ mLv h r a < mLv h r b := by
  cases n with
  | zero => exact Iff.rfl
  | succ n => rw [mF, if_neg ho]
theorem mF_eq (ho : l ≤ mLv h r a ∧ l ≤ mLv h r b) (he : mAt h r l 3 a = mAt h r l 3 b) : mF h r t2 a b (n + 1) l ↔ mF h r t2 a b n (l + 1) := by rw [mF, if_pos ho, if_pos he]
theorem mF_ne (ho : l ≤ mLv h r a ∧ l ≤ mLv h r b) (he : ¬ mAt h r l 3 a = mAt h r l 3 b) : mF h r t2 a b (n + 1) l ↔ mSib h r t2 (mAt h r l 3 a) (mAt h r l 3 b) := by rw [mF, if_pos ho, if_neg he]
theorem zz_rI {post : Option zz_V → zz_H → Prop} {h : zz_H} {p q : Prop} (hp : post (some (zz_i (zz_b p))) h) (e : p ↔ q) : post (some (zz_i (zz_b q))) h := by
  rw [show p = q from propext e] at hp
  exact hp
end MF
def T_M_isFirst : zz_Tr := fun as h post => ∃ r a9 b9 t2, as = [zz_r 7 (some r), zz_i (nI a9), zz_i (nI b9)] ∧ mo_ok h r ∧ mo_wl h r ∧ mo_wt h r ∧ mo_kd h r ∧ mo_t2 h r t2 ∧ mLive h r a9 ∧ mLive h r b9 ∧ post (some (zz_i (zz_b (mFst h r t2 a9 b9)))) h
set_option maxRecDepth 100000 in
set_option maxHeartbeats 4000000 in
theorem m_M_isFirst (l : Launch) : zz_Met l y_M_isFirst w_M_isFirst { frames := 3, cells := 0, slots := 0, locals := 58 } T_M_isFirst := by
  refine zz_ofZ (by decide) (fun as h post hT => ?_) ?_
  · obtain ⟨r, a9, b9, t2, rfl, hok, hwl, hwt, hkd, ht2, hla, hlb, hp⟩ := hT
    exact ⟨by simp [zz_cat], by simp⟩
  · intro D DA h as post hT p e s m args below meth c Q C hr hlk hnm hQ
    obtain ⟨r, a9, b9, t2, rfl, hok, hwl, hwt, hkd, ht2, hla, hlb, hp⟩ := hT
    have ha60 := hla.1
    have hb60 := hlb.1
    obtain ⟨e1, e2, e3, e4, e5, -⟩ := hwl a9 hla
    obtain ⟨f1, f2, f3, f4, f5, -⟩ := hwl b9 hlb
    have lp28 : ∀ k n l9 v6 v7, n < k → n + l9 = 5 → 1 ≤ l9 → post (some (zz_i (zz_b (mF h r t2 a9 b9 n l9)))) h → zz_Z p l e { frames := 3, cells := 0, slots := 0, locals := 58 } s m args below meth c Q D DA (zz_A h s.heap.size) h 8 28 [some (zz_r 7 (some r)), some (zz_i (nI a9)), some (zz_i (nI b9)), some (zz_i (nI (mLv h r a9))), some (zz_i (nI (mLv h r b9))), some (zz_i (nI l9)), v6, v7] [] h 0 0 := by
      intro k
      induction k with
      | zero =>
        intro n l9 v6 v7 hn
        exact absurd hn (by omega)
      | succ k ih =>
        intro n l9 v6 v7 hn hnl h1l hp
        refine zz_iload (q := 30) (i := 5) C (by decide +kernel) rfl rfl ?_
        refine zz_iload_n (q := 31) (f := 3) (i := 3) C (by decide +kernel) rfl rfl rfl ?_
        refine zz_icmp_gt (off := 50) (tgt := 81) (q := 34) C (by decide +kernel) (by decide) rfl (fun c31 => ?_) (fun c31 => ?_)
        · refine zz_iload_n (q := 82) (f := 3) (i := 3) C (by decide +kernel) rfl rfl rfl ?_
          refine zz_iload (q := 84) (i := 4) C (by decide +kernel) rfl rfl ?_
          refine zz_icmp_ge (off := 7) (tgt := 91) (q := 87) C (by decide +kernel) (by decide) rfl (fun c84 => ?_) (fun c84 => ?_)
          · refine zz_iconst (q := 92) (n := 0) (x := 0) C (by decide +kernel) rfl (by decide +kernel) ?_
            refine zz_zret C hr hlk (by decide +kernel) (by decide) hQ (by decide) (by decide) ?_
            have ho : ¬ (l9 ≤ mLv h r a9 ∧ l9 ≤ mLv h r b9) := by
              first
                | exact fun z => absurd c31 (Int32.not_lt.mpr (nI_le z.1 (by omega)))
                | exact fun z => absurd c38 (Int32.not_lt.mpr (nI_le z.2 (by omega)))
            have e9 := mF_out (t2 := t2) (n := n) ho
            first
              | exact zz_rT hp ((nI_ltI (by omega) (by omega)).mp (Int32.not_le.mp c84)) e9
              | exact zz_rF hp (fun z => absurd c84 (Int32.not_le.mpr (nI_lt z (by omega)))) e9
          · refine zz_iconst (q := 88) (n := 1) (x := 1) C (by decide +kernel) rfl (by decide +kernel) ?_
            refine zz_goto (off := 4) (tgt := 92) C (by decide +kernel) (by decide) ?_
            refine zz_zret C hr hlk (by decide +kernel) (by decide) hQ (by decide) (by decide) ?_
            have ho : ¬ (l9 ≤ mLv h r a9 ∧ l9 ≤ mLv h r b9) := by
              first
                | exact fun z => absurd c31 (Int32.not_lt.mpr (nI_le z.1 (by omega)))
                | exact fun z => absurd c38 (Int32.not_lt.mpr (nI_le z.2 (by omega)))
            have e9 := mF_out (t2 := t2) (n := n) ho
            first
              | exact zz_rT hp ((nI_ltI (by omega) (by omega)).mp (Int32.not_le.mp c84)) e9
              | exact zz_rF hp (fun z => absurd c84 (Int32.not_le.mpr (nI_lt z (by omega)))) e9
        · refine zz_iload (q := 36) (i := 5) C (by decide +kernel) rfl rfl ?_
          refine zz_iload (q := 38) (i := 4) C (by decide +kernel) rfl rfl ?_
          refine zz_icmp_gt (off := 43) (tgt := 81) (q := 41) C (by decide +kernel) (by decide) rfl (fun c38 => ?_) (fun c38 => ?_)
          · refine zz_iload_n (q := 82) (f := 3) (i := 3) C (by decide +kernel) rfl rfl rfl ?_
            refine zz_iload (q := 84) (i := 4) C (by decide +kernel) rfl rfl ?_
            refine zz_icmp_ge (off := 7) (tgt := 91) (q := 87) C (by decide +kernel) (by decide) rfl (fun c84 => ?_) (fun c84 => ?_)
            · refine zz_iconst (q := 92) (n := 0) (x := 0) C (by decide +kernel) rfl (by decide +kernel) ?_
              refine zz_zret C hr hlk (by decide +kernel) (by decide) hQ (by decide) (by decide) ?_
              have ho : ¬ (l9 ≤ mLv h r a9 ∧ l9 ≤ mLv h r b9) := by
                first
                  | exact fun z => absurd c31 (Int32.not_lt.mpr (nI_le z.1 (by omega)))
                  | exact fun z => absurd c38 (Int32.not_lt.mpr (nI_le z.2 (by omega)))
              have e9 := mF_out (t2 := t2) (n := n) ho
              first
                | exact zz_rT hp ((nI_ltI (by omega) (by omega)).mp (Int32.not_le.mp c84)) e9
                | exact zz_rF hp (fun z => absurd c84 (Int32.not_le.mpr (nI_lt z (by omega)))) e9
            · refine zz_iconst (q := 88) (n := 1) (x := 1) C (by decide +kernel) rfl (by decide +kernel) ?_
              refine zz_goto (off := 4) (tgt := 92) C (by decide +kernel) (by decide) ?_
              refine zz_zret C hr hlk (by decide +kernel) (by decide) hQ (by decide) (by decide) ?_
              have ho : ¬ (l9 ≤ mLv h r a9 ∧ l9 ≤ mLv h r b9) := by
                first
                  | exact fun z => absurd c31 (Int32.not_lt.mpr (nI_le z.1 (by omega)))
                  | exact fun z => absurd c38 (Int32.not_lt.mpr (nI_le z.2 (by omega)))
              have e9 := mF_out (t2 := t2) (n := n) ho
              first
                | exact zz_rT hp ((nI_ltI (by omega) (by omega)).mp (Int32.not_le.mp c84)) e9
                | exact zz_rF hp (fun z => absurd c84 (Int32.not_le.mpr (nI_lt z (by omega)))) e9
          · have g1 : l9 ≤ mLv h r a9 := Nat.le_of_not_lt (fun z => c31 (nI_lt z (by omega)))
            have g2 : l9 ≤ mLv h r b9 := Nat.le_of_not_lt (fun z => c38 (nI_lt z (by omega)))
            obtain ⟨n9, rfl⟩ : ∃ n9, n = n9 + 1 := ⟨n - 1, by omega⟩
            have hxa := mAt_live (l := l9) hwl 3 a9 hla
            have hxb := mAt_live (l := l9) hwl 3 b9 hlb
            have hxa60 := hxa.1
            have hxb60 := hxb.1
            refine zz_aload_n (q := 42) (f := 0) (i := 0) C (by decide +kernel) rfl rfl rfl ?_
            refine zz_iload_n (q := 43) (f := 1) (i := 1) C (by decide +kernel) rfl rfl rfl ?_
            refine zz_iload (q := 45) (i := 5) C (by decide +kernel) rfl rfl ?_
            refine zz_callV (q := 48) C (m_M_atLevel l) cv_M_131 (by decide +kernel) rfl rfl rfl (by first | rfl | assumption) (by decide) (by decide) (Nat.le_of_ble_eq_true rfl) ⟨_, _, l9, rfl, h1l, (by omega), hok, hwl, hla, ?_⟩
            refine zz_istore (q := 50) (i := 6) C (by decide +kernel) rfl (by decide) rfl ?_
            refine zz_aload_n (q := 51) (f := 0) (i := 0) C (by decide +kernel) rfl rfl rfl ?_
            refine zz_iload_n (q := 52) (f := 2) (i := 2) C (by decide +kernel) rfl rfl rfl ?_
            refine zz_iload (q := 54) (i := 5) C (by decide +kernel) rfl rfl ?_
            refine zz_callV (q := 57) C (m_M_atLevel l) cv_M_131 (by decide +kernel) rfl rfl rfl (by first | rfl | assumption) (by decide) (by decide) (Nat.le_of_ble_eq_true rfl) ⟨_, _, l9, rfl, h1l, (by omega), hok, hwl, hlb, ?_⟩
            refine zz_istore (q := 59) (i := 7) C (by decide +kernel) rfl (by decide) rfl ?_
            refine zz_iload (q := 61) (i := 6) C (by decide +kernel) rfl rfl ?_
            refine zz_iload (q := 63) (i := 7) C (by decide +kernel) rfl rfl ?_
            refine zz_icmp_eq (off := 12) (tgt := 75) (q := 66) C (by decide +kernel) (by decide) rfl (fun c63 => ?_) (fun c63 => ?_)
            · refine zz_iinc (q := 78) (i := 5) (n := 1) C (by decide +kernel) rfl rfl (nI_1 _) (by decide) rfl ?_
              refine zz_goto (off := -50) (tgt := 28) C (by decide +kernel) (by decide) ?_
              -- AT 28
              exact ih n9 (l9 + 1) _ _ (by omega) (by omega) (by omega) (zz_rI hp (mF_eq ⟨g1, g2⟩ ((nI_eq (by omega) (by omega)).mp c63)))
            · refine zz_aload_n (q := 67) (f := 0) (i := 0) C (by decide +kernel) rfl rfl rfl ?_
              refine zz_iload (q := 69) (i := 6) C (by decide +kernel) rfl rfl ?_
              refine zz_iload (q := 71) (i := 7) C (by decide +kernel) rfl rfl ?_
              refine zz_callV (q := 74) C (m_M_isSiblingFirst l) cv_M_135 (by decide +kernel) rfl rfl rfl (by first | rfl | assumption) (by decide) (by decide) (Nat.le_of_ble_eq_true rfl) ⟨_, _, _, t2, rfl, hok, hwl, hwt, hkd, ht2, hxa, hxb, ?_⟩
              refine zz_zret C hr hlk (by decide +kernel) (zz_b01 _) hQ (by decide) (by decide) ?_
              exact zz_rI hp (mF_ne ⟨g1, g2⟩ (fun z => c63 (by rw [z])))
    refine zz_aload_n (q := 1) (f := 0) (i := 0) C (by decide +kernel) rfl rfl rfl ?_
    refine zz_getR (q := 4) C gf_M_17 (by decide +kernel) rfl (by first | rfl | assumption) (hok 3 90 8 rfl).1 ?_
    refine zz_aload_n (q := 5) (f := 0) (i := 0) C (by decide +kernel) rfl rfl rfl ?_
    refine zz_getR (q := 8) C gf_M_42 (by decide +kernel) rfl (by first | rfl | assumption) (hok 15 90 60 rfl).1 ?_
    refine zz_iload_n (q := 9) (f := 1) (i := 1) C (by decide +kernel) rfl rfl rfl ?_
    refine zz_iaload (q := 10) C (by decide +kernel) rfl rfl (hok 15 90 60 rfl).2 rfl (by omega) (by decide) e1 ?_
    refine zz_iaload (q := 11) C (by decide +kernel) rfl rfl (hok 3 90 8 rfl).2 rfl e2 (by decide) e3 ?_
    refine zz_istore_n (q := 12) (f := 3) (i := 3) C (by decide +kernel) rfl rfl (by decide) rfl ?_
    refine zz_aload_n (q := 13) (f := 0) (i := 0) C (by decide +kernel) rfl rfl rfl ?_
    refine zz_getR (q := 16) C gf_M_17 (by decide +kernel) rfl (by first | rfl | assumption) (hok 3 90 8 rfl).1 ?_
    refine zz_aload_n (q := 17) (f := 0) (i := 0) C (by decide +kernel) rfl rfl rfl ?_
    refine zz_getR (q := 20) C gf_M_42 (by decide +kernel) rfl (by first | rfl | assumption) (hok 15 90 60 rfl).1 ?_
    refine zz_iload_n (q := 21) (f := 2) (i := 2) C (by decide +kernel) rfl rfl rfl ?_
    refine zz_iaload (q := 22) C (by decide +kernel) rfl rfl (hok 15 90 60 rfl).2 rfl (by omega) (by decide) f1 ?_
    refine zz_iaload (q := 23) C (by decide +kernel) rfl rfl (hok 3 90 8 rfl).2 rfl f2 (by decide) f3 ?_
    refine zz_istore (q := 25) (i := 4) C (by decide +kernel) rfl (by decide) rfl ?_
    refine zz_iconst (q := 26) (n := 1) (x := 1) C (by decide +kernel) rfl (by decide +kernel) ?_
    refine zz_istore (q := 28) (i := 5) C (by decide +kernel) rfl (by decide) rfl ?_
    -- AT 28
    exact lp28 5 4 1 none none (by omega) rfl (by omega) hp

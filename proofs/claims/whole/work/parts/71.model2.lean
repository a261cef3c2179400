/-! the reference: slots, what a path asks of one -/
theorem nI_mul9 (a b : Nat) : nI a * nI b = nI (a * b) := (Int32.ofNat_mul a b).symm
def mK (h : zz_H) (r s : Nat) : Nat := (ma h r 15 s).toNatClampNeg
def mT (h : zz_H) (r k : Nat) : Nat := (ma h r 3 k).toNatClampNeg
def mLv (h : zz_H) (r s : Nat) : Nat := mT h r (mK h r s)
def mLive (h : zz_H) (r s : Nat) : Prop := s < 60 ∧ 0 < ma h r 14 s
/-- the slots that hold segments are well formed -/
def mo_wl (h : zz_H) (r : Nat) : Prop := ∀ s, mLive h r s → ma h r 15 s = nI (mK h r s) ∧ mK h r s < 8 ∧ ma h r 3 (mK h r s) = nI (mLv h r s) ∧ 1 ≤ mLv h r s ∧ mLv h r s ≤ 4 ∧ ((ma h r 16 s = -1 ∧ mLv h r s = 1) ∨ ∃ p, mLive h r p ∧ ma h r 16 s = nI p ∧ mLv h r p + 1 = mLv h r s)
def mC (h : zz_H) (r l : Nat) : Nat := (ma h r 23 l).toNatClampNeg
def mW (h : zz_H) (r k : Nat) : Nat := (ma h r 24 k).toNatClampNeg
def mo_wp (h : zz_H) (r : Nat) : Prop := ∀ l, l < 5 → ma h r 23 l = nI (mC h r l) ∧ mC h r l ≤ 3 ∧ ∀ k, k < mC h r l → ma h r 24 (3 * l + k) = nI (mW h r (3 * l + k)) ∧ mW h r (3 * l + k) < 4
/-- what the condition at a place asks of a slot -/
def mo_c1 (h : zz_H) (r s k : Nat) : Prop := pl_cmp (ma h r 25 k) (ma h r 18 (4 * s + mW h r k)) (ma h r 26 k)
def mo_fit (h : zz_H) (r s : Nat) : Prop := ma h r 22 (mLv h r s) = -1 ∨ (ma h r 22 (mLv h r s) = ma h r 15 s ∧ ∀ k, k < mC h r (mLv h r s) → mo_c1 h r s (3 * mLv h r s + k))
def T_M_fits : zz_Tr := fun as h post => ∃ r s9, as = [zz_r 7 (some r), zz_i (nI s9)] ∧ mo_ok h r ∧ mo_wl h r ∧ mo_wp h r ∧ mLive h r s9 ∧ post (some (zz_i (zz_b (mo_fit h r s9)))) h
set_option maxRecDepth 100000 in
set_option maxHeartbeats 4000000 in
theorem m_M_fits (l : Launch) : zz_Met l y_M_fits w_M_fits { frames := 2, cells := 0, slots := 0, locals := 34 } T_M_fits := by
  refine zz_ofZ (by decide) (fun as h post hT => ?_) ?_
  · obtain ⟨r, s9, rfl, hok, hwl, hwp, hlv, hp⟩ := hT
    exact ⟨by simp [zz_cat], by simp⟩
  · intro D DA h as post hT p e s m args below meth c Q C hr hlk hnm hQ
    obtain ⟨r, s9, rfl, hok, hwl, hwp, hlv, hp⟩ := hT
    obtain ⟨e1, e2, e3, e4, e5, -⟩ := hwl s9 hlv
    obtain ⟨g1, g2, g3⟩ := hwp (mLv h r s9) (by omega)
    have hs60 := hlv.1
    have lp50 : ma h r 22 (mLv h r s9) ≠ -1 → ∀ n k (al : Int32), 4 ≤ n + k → k ≤ mC h r (mLv h r s9) → ((al = 0 ∧ ¬ mo_fit h r s9) ∨ (al = 1 ∧ ma h r 22 (mLv h r s9) = ma h r 15 s9 ∧ ∀ j, j < k → mo_c1 h r s9 (3 * mLv h r s9 + j))) → zz_Z p l e { frames := 2, cells := 0, slots := 0, locals := 34 } s m args below meth c Q D DA (zz_A h s.heap.size) h 5 50 [some (zz_r 7 (some r)), some (zz_i (nI s9)), some (zz_i (nI (mLv h r s9))), some (zz_i al), some (zz_i (nI (3 * mLv h r s9 + k)))] [] h 0 0 := by
      intro hst n
      induction n with
      | zero =>
        intro k al hn hk
        exact absurd hn (by omega)
      | succ n ih =>
        intro k al hn hk hal
        refine zz_iload (q := 52) (i := 4) C (by decide +kernel) rfl rfl ?_
        refine zz_iconst (q := 53) (n := 3) (x := 3) C (by decide +kernel) rfl (by decide +kernel) ?_
        refine zz_iload_n (q := 54) (f := 2) (i := 2) C (by decide +kernel) rfl rfl rfl ?_
        refine zz_imul (q := 55) C (by decide +kernel) rfl (nI_mul9 3 _) ?_
        refine zz_aload_n (q := 56) (f := 0) (i := 0) C (by decide +kernel) rfl rfl rfl ?_
        refine zz_getR (q := 59) C gf_M_67 (by decide +kernel) rfl (by first | rfl | assumption) (hok 23 90 5 rfl).1 ?_
        refine zz_iload_n (q := 60) (f := 2) (i := 2) C (by decide +kernel) rfl rfl rfl ?_
        refine zz_iaload (q := 61) C (by decide +kernel) rfl rfl (hok 23 90 5 rfl).2 rfl (by omega) (by decide) g1 ?_
        refine zz_iadd (q := 62) C (by decide +kernel) rfl (nI_add _ _) ?_
        refine zz_icmp_ge (off := 47) (tgt := 109) (q := 65) C (by decide +kernel) (by decide) rfl (fun c62 => ?_) (fun c62 => ?_)
        · refine zz_iload_n (q := 110) (f := 3) (i := 3) C (by decide +kernel) rfl rfl rfl ?_
          refine zz_zret C hr hlk (by decide +kernel) (hal.elim (fun z => Or.inl z.1) (fun z => Or.inr z.1)) hQ (by decide) (by decide) ?_
          rcases hal with ⟨h1, h2⟩ | ⟨h1, h2, h3⟩
          · rw [h1]; exact zz_b0 (P := fun x => post (some (zz_i x)) h) hp h2
          · first
              | exact absurd (h1.symm.trans c66) (by decide)
              | (have hk9 : k = mC h r (mLv h r s9) := by
                   have := (nI_leI (a := 3 * mLv h r s9 + mC h r (mLv h r s9)) (b := 3 * mLv h r s9 + k) (by omega) (by omega)).mp c62
                   omega
                 rw [h1]; exact zz_b1 (P := fun x => post (some (zz_i x)) h) hp (Or.inr ⟨h2, hk9 ▸ h3⟩))
        · have hkc : k < mC h r (mLv h r s9) := by
            have : ¬ 3 * mLv h r s9 + mC h r (mLv h r s9) ≤ 3 * mLv h r s9 + k := fun z => c62 (nI_le z (by omega))
            omega
          obtain ⟨w1, w2⟩ := g3 k hkc
          refine zz_iload_n (q := 66) (f := 3) (i := 3) C (by decide +kernel) rfl rfl rfl ?_
          refine zz_if_eq (off := 43) (tgt := 109) (q := 69) C (by decide +kernel) (by decide) rfl (fun c66 => ?_) (fun c66 => ?_)
          · refine zz_iload_n (q := 110) (f := 3) (i := 3) C (by decide +kernel) rfl rfl rfl ?_
            refine zz_zret C hr hlk (by decide +kernel) (hal.elim (fun z => Or.inl z.1) (fun z => Or.inr z.1)) hQ (by decide) (by decide) ?_
            rcases hal with ⟨h1, h2⟩ | ⟨h1, h2, h3⟩
            · rw [h1]; exact zz_b0 (P := fun x => post (some (zz_i x)) h) hp h2
            · first
                | exact absurd (h1.symm.trans c66) (by decide)
                | (have hk9 : k = mC h r (mLv h r s9) := by
                     have := (nI_leI (a := 3 * mLv h r s9 + mC h r (mLv h r s9)) (b := 3 * mLv h r s9 + k) (by omega) (by omega)).mp c62
                     omega
                   rw [h1]; exact zz_b1 (P := fun x => post (some (zz_i x)) h) hp (Or.inr ⟨h2, hk9 ▸ h3⟩))
          · refine zz_aload_n (q := 70) (f := 0) (i := 0) C (by decide +kernel) rfl rfl rfl ?_
            refine zz_getR (q := 73) C gf_M_73 (by decide +kernel) rfl (by first | rfl | assumption) (hok 25 90 15 rfl).1 ?_
            refine zz_iload (q := 75) (i := 4) C (by decide +kernel) rfl rfl ?_
            refine zz_iaload (q := 76) C (by decide +kernel) rfl rfl (hok 25 90 15 rfl).2 rfl (by omega) (by decide) rfl ?_
            refine zz_aload_n (q := 77) (f := 0) (i := 0) C (by decide +kernel) rfl rfl rfl ?_
            refine zz_getR (q := 80) C gf_M_51 (by decide +kernel) rfl (by first | rfl | assumption) (hok 18 90 240 rfl).1 ?_
            refine zz_iconst (q := 81) (n := 4) (x := 4) C (by decide +kernel) rfl (by decide +kernel) ?_
            refine zz_iload_n (q := 82) (f := 1) (i := 1) C (by decide +kernel) rfl rfl rfl ?_
            refine zz_imul (q := 83) C (by decide +kernel) rfl (nI_mul9 4 _) ?_
            refine zz_aload_n (q := 84) (f := 0) (i := 0) C (by decide +kernel) rfl rfl rfl ?_
            refine zz_getR (q := 87) C gf_M_70 (by decide +kernel) rfl (by first | rfl | assumption) (hok 24 90 15 rfl).1 ?_
            refine zz_iload (q := 89) (i := 4) C (by decide +kernel) rfl rfl ?_
            refine zz_iaload (q := 90) C (by decide +kernel) rfl rfl (hok 24 90 15 rfl).2 rfl (by omega) (by decide) w1 ?_
            refine zz_iadd (q := 91) C (by decide +kernel) rfl (nI_add _ _) ?_
            refine zz_iaload (q := 92) C (by decide +kernel) rfl rfl (hok 18 90 240 rfl).2 rfl (by omega) (by decide) rfl ?_
            refine zz_aload_n (q := 93) (f := 0) (i := 0) C (by decide +kernel) rfl rfl rfl ?_
            refine zz_getR (q := 96) C gf_M_76 (by decide +kernel) rfl (by first | rfl | assumption) (hok 26 90 15 rfl).1 ?_
            refine zz_iload (q := 98) (i := 4) C (by decide +kernel) rfl rfl ?_
            refine zz_iaload (q := 99) C (by decide +kernel) rfl rfl (hok 26 90 15 rfl).2 rfl (by omega) (by decide) rfl ?_
            refine zz_callS (q := 102) C (m_M_holds l) cs_M_108 (by decide +kernel) rfl rfl rfl (by decide) (by decide) (Nat.le_of_ble_eq_true rfl) ⟨_, _, _, rfl, ?_⟩
            refine zz_istore_n (q := 103) (f := 3) (i := 3) C (by decide +kernel) rfl rfl (by decide) rfl ?_
            refine zz_iinc (q := 106) (i := 4) (n := 1) C (by decide +kernel) rfl rfl (nI_1 _) (by decide) rfl ?_
            refine zz_goto (off := -56) (tgt := 50) C (by decide +kernel) (by decide) ?_
            -- AT 50
            rcases hal with ⟨h1, h2⟩ | ⟨h1, h2, h3⟩
            · exact absurd h1 c66
            · rw [show 3 * mLv h r s9 + k + 1 = 3 * mLv h r s9 + (k + 1) from rfl]
              by_cases hc : mo_c1 h r s9 (3 * mLv h r s9 + k)
              · refine ih (k + 1) _ (by omega) hkc (Or.inr ⟨zz_bT hc, h2, fun j hj => ?_⟩)
                rcases Nat.lt_succ_iff_lt_or_eq.mp hj with hj | rfl
                · exact h3 j hj
                · exact hc
              · exact ih (k + 1) _ (by omega) hkc (Or.inl ⟨zz_bF hc, fun z => z.elim (fun w => hst w) (fun w => hc (w.2 k hkc))⟩)
    refine zz_aload_n (q := 1) (f := 0) (i := 0) C (by decide +kernel) rfl rfl rfl ?_
    refine zz_getR (q := 4) C gf_M_17 (by decide +kernel) rfl (by first | rfl | assumption) (hok 3 90 8 rfl).1 ?_
    refine zz_aload_n (q := 5) (f := 0) (i := 0) C (by decide +kernel) rfl rfl rfl ?_
    refine zz_getR (q := 8) C gf_M_42 (by decide +kernel) rfl (by first | rfl | assumption) (hok 15 90 60 rfl).1 ?_
    refine zz_iload_n (q := 9) (f := 1) (i := 1) C (by decide +kernel) rfl rfl rfl ?_
    refine zz_iaload (q := 10) C (by decide +kernel) rfl rfl (hok 15 90 60 rfl).2 rfl (by omega) (by decide) e1 ?_
    refine zz_iaload (q := 11) C (by decide +kernel) rfl rfl (hok 3 90 8 rfl).2 rfl e2 (by decide) e3 ?_
    refine zz_istore_n (q := 12) (f := 2) (i := 2) C (by decide +kernel) rfl rfl (by decide) rfl ?_
    refine zz_aload_n (q := 13) (f := 0) (i := 0) C (by decide +kernel) rfl rfl rfl ?_
    refine zz_getR (q := 16) C gf_M_64 (by decide +kernel) rfl (by first | rfl | assumption) (hok 22 90 5 rfl).1 ?_
    refine zz_iload_n (q := 17) (f := 2) (i := 2) C (by decide +kernel) rfl rfl rfl ?_
    refine zz_iaload (q := 18) C (by decide +kernel) rfl rfl (hok 22 90 5 rfl).2 rfl (by omega) (by decide) rfl ?_
    refine zz_iconst (q := 19) (n := -1) (x := (-1)) C (by decide +kernel) rfl (by decide +kernel) ?_
    refine zz_icmp_ne (off := 5) (tgt := 24) (q := 22) C (by decide +kernel) (by decide) rfl (fun c19 => ?_) (fun c19 => ?_)
    · refine zz_aload_n (q := 25) (f := 0) (i := 0) C (by decide +kernel) rfl rfl rfl ?_
      refine zz_getR (q := 28) C gf_M_64 (by decide +kernel) rfl (by first | rfl | assumption) (hok 22 90 5 rfl).1 ?_
      refine zz_iload_n (q := 29) (f := 2) (i := 2) C (by decide +kernel) rfl rfl rfl ?_
      refine zz_iaload (q := 30) C (by decide +kernel) rfl rfl (hok 22 90 5 rfl).2 rfl (by omega) (by decide) rfl ?_
      refine zz_aload_n (q := 31) (f := 0) (i := 0) C (by decide +kernel) rfl rfl rfl ?_
      refine zz_getR (q := 34) C gf_M_42 (by decide +kernel) rfl (by first | rfl | assumption) (hok 15 90 60 rfl).1 ?_
      refine zz_iload_n (q := 35) (f := 1) (i := 1) C (by decide +kernel) rfl rfl rfl ?_
      refine zz_iaload (q := 36) C (by decide +kernel) rfl rfl (hok 15 90 60 rfl).2 rfl (by omega) (by decide) e1 ?_
      refine zz_icmp_ne (off := 7) (tgt := 43) (q := 39) C (by decide +kernel) (by decide) rfl (fun c36 => ?_) (fun c36 => ?_)
      · refine zz_iconst (q := 44) (n := 0) (x := 0) C (by decide +kernel) rfl (by decide +kernel) ?_
        refine zz_istore_n (q := 45) (f := 3) (i := 3) C (by decide +kernel) rfl rfl (by decide) rfl ?_
        refine zz_iconst (q := 46) (n := 3) (x := 3) C (by decide +kernel) rfl (by decide +kernel) ?_
        refine zz_iload_n (q := 47) (f := 2) (i := 2) C (by decide +kernel) rfl rfl rfl ?_
        refine zz_imul (q := 48) C (by decide +kernel) rfl (nI_mul9 3 _) ?_
        refine zz_istore (q := 50) (i := 4) C (by decide +kernel) rfl (by decide) rfl ?_
        -- AT 50
        first
          | exact lp50 c19 4 0 1 (by omega) (by omega) (Or.inr ⟨rfl, c36.trans e1.symm, fun j hj => absurd hj (by omega)⟩)
          | exact lp50 c19 4 0 0 (by omega) (by omega) (Or.inl ⟨rfl, fun z => z.elim (fun w => absurd w c19) (fun w => c36 (w.1.trans e1))⟩)
      · refine zz_iconst (q := 40) (n := 1) (x := 1) C (by decide +kernel) rfl (by decide +kernel) ?_
        refine zz_goto (off := 4) (tgt := 44) C (by decide +kernel) (by decide) ?_
        refine zz_istore_n (q := 45) (f := 3) (i := 3) C (by decide +kernel) rfl rfl (by decide) rfl ?_
        refine zz_iconst (q := 46) (n := 3) (x := 3) C (by decide +kernel) rfl (by decide +kernel) ?_
        refine zz_iload_n (q := 47) (f := 2) (i := 2) C (by decide +kernel) rfl rfl rfl ?_
        refine zz_imul (q := 48) C (by decide +kernel) rfl (nI_mul9 3 _) ?_
        refine zz_istore (q := 50) (i := 4) C (by decide +kernel) rfl (by decide) rfl ?_
        -- AT 50
        first
          | exact lp50 c19 4 0 1 (by omega) (by omega) (Or.inr ⟨rfl, c36.trans e1.symm, fun j hj => absurd hj (by omega)⟩)
          | exact lp50 c19 4 0 0 (by omega) (by omega) (Or.inl ⟨rfl, fun z => z.elim (fun w => absurd w c19) (fun w => c36 (w.1.trans e1))⟩)
    · refine zz_iconst (q := 23) (n := 1) (x := 1) C (by decide +kernel) rfl (by decide +kernel) ?_
      refine zz_zret C hr hlk (by decide +kernel) (by decide) hQ (by decide) (by decide) ?_
      exact zz_b1 (P := fun x => post (some (zz_i x)) h) hp (Or.inl c19)

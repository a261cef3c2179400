/-! the reference: values by the second order -/
def mo_ly (h : zz_H) (y : Nat → Nat → Int64) : zz_H := (h.1, h.2.1, h.2.2.1, h.2.2.2.1, h.2.2.2.2.1, y)
def mB40 : Int64 := 1099511627776
def mOf (h : zz_H) (r s x : Nat) : Prop := mLive h r s ∧ ma h r 15 s = zz_fI h 7 9 r ∧ mAt h r 1 3 s = x
def mWv (h : zz_H) (r sw s : Nat) : Int64 := (ma h r 18 (4 * s + sw)).toInt64
def mVl (h : zz_H) (r sw i : Nat) (y : Nat → Nat → Int64) : Prop := (∀ b j, b ≠ mf h r 20 → y b j = zz_aL h b j) ∧ ∀ x, x < 60 → ((∀ s, s < i → ¬ mOf h r s x) → y (mf h r 20) x = mB40) ∧ (∀ s, s < i → mOf h r s x → y (mf h r 20) x ≤ mWv h r sw s) ∧ ((∃ s, s < i ∧ mOf h r s x) → ∃ s, s < i ∧ mOf h r s x ∧ y (mf h r 20) x = mWv h r sw s)
theorem mB40_lt (x : Int32) : x.toInt64 < mB40 := by
  rw [Int64.lt_iff_toInt_lt, Int32.toInt_toInt64]
  have h1 : mB40.toInt = 1099511627776 := by decide +kernel
  have h2 := Int32.toInt_lt x
  rw [h1]; omega
theorem mAt_live {h : zz_H} {r l : Nat} (hwl : mo_wl h r) : ∀ n s, mLive h r s → mLive h r (mAt h r l n s)
  | 0, s, hs => hs
  | n + 1, s, hs => by
    rw [mAt]
    by_cases hl : mLv h r s ≤ l
    · rw [if_pos hl]; exact hs
    · rw [if_neg hl]
      obtain ⟨-, -, -, -, -, ⟨e6, -⟩ | ⟨p, e6, e7, -⟩⟩ := hwl s hs
      · rw [mP_no e6]; exact hs
      · rw [mP_so e6.1 e7]; exact mAt_live hwl n p e6
theorem mVl_no {h : zz_H} {r sw i : Nat} {y : Nat → Nat → Int64} (hv : mVl h r sw i y) (hn : ∀ x, ¬ mOf h r i x) : mVl h r sw (i + 1) y := by
  refine ⟨hv.1, fun x hx => ?_⟩
  obtain ⟨h1, h2, h3⟩ := hv.2 x hx
  refine ⟨fun hz => h1 (fun s hs => hz s (by omega)), fun s hs hz => ?_, fun ⟨s, hs, hz⟩ => ?_⟩
  · rcases Nat.lt_succ_iff_lt_or_eq.mp hs with hs | rfl
    · exact h2 s hs hz
    · exact absurd hz (hn x)
  · rcases Nat.lt_succ_iff_lt_or_eq.mp hs with hs | rfl
    · obtain ⟨s', g1, g2⟩ := h3 ⟨s, hs, hz⟩
      exact ⟨s', by omega, g2⟩
    · exact absurd hz (hn x)
theorem mVl_of {h : zz_H} {r sw i x0 : Nat} {y : Nat → Nat → Int64} {v : Int64} (hv : mVl h r sw i y) (hx0 : x0 < 60) (ho : mOf h r i x0) (hc : (mWv h r sw i < y (mf h r 20) x0 ∧ v = mWv h r sw i) ∨ (y (mf h r 20) x0 ≤ mWv h r sw i ∧ v = y (mf h r 20) x0)) : mVl h r sw (i + 1) (fun b j => if b = mf h r 20 ∧ j = x0 then v else y b j) := by
  refine ⟨fun b j hb => ?_, fun x hx => ?_⟩
  · show (if b = mf h r 20 ∧ j = x0 then v else y b j) = _
    rw [if_neg (fun z => hb z.1)]; exact hv.1 b j hb
  · obtain ⟨h1, h2, h3⟩ := hv.2 x hx
    dsimp only
    by_cases hxx : x = x0
    · subst hxx
      have e : (if mf h r 20 = mf h r 20 ∧ x = x then v else y (mf h r 20) x) = v := if_pos ⟨rfl, rfl⟩
      rw [e]
      refine ⟨fun hz => absurd ho (hz i (by omega)), fun s hs hz => ?_, fun _ => ?_⟩
      · rcases Nat.lt_succ_iff_lt_or_eq.mp hs with hs | rfl
        · rcases hc with ⟨g1, g2⟩ | ⟨g1, g2⟩
          · rw [g2]; exact Int64.le_trans (Int64.le_of_lt g1) (h2 s hs hz)
          · rw [g2]; exact h2 s hs hz
        · rcases hc with ⟨g1, g2⟩ | ⟨g1, g2⟩
          · rw [g2]; exact Int64.le_refl _
          · rw [g2]; exact g1
      · rcases hc with ⟨g1, g2⟩ | ⟨g1, g2⟩
        · exact ⟨i, by omega, ho, g2⟩
        · by_cases hex : ∃ s, s < i ∧ mOf h r s x
          · obtain ⟨s, k1, k2, k3⟩ := h3 hex
            exact ⟨s, by omega, k2, g2.trans k3⟩
          · have k1 := h1 (fun s hs hz => hex ⟨s, hs, hz⟩)
            rw [k1] at g1
            exact absurd (mB40_lt _) (Int64.not_lt.mpr g1)
    · have e : (if mf h r 20 = mf h r 20 ∧ x = x0 then v else y (mf h r 20) x) = y (mf h r 20) x := if_neg (fun z => hxx z.2)
      rw [e]
      refine ⟨fun hz => h1 (fun s hs => hz s (by omega)), fun s hs hz => ?_, fun ⟨s, hs, hz⟩ => ?_⟩
      · rcases Nat.lt_succ_iff_lt_or_eq.mp hs with hs | rfl
        · exact h2 s hs hz
        · exact absurd (hz.2.2.symm.trans ho.2.2) hxx
      · rcases Nat.lt_succ_iff_lt_or_eq.mp hs with hs | rfl
        · obtain ⟨s', g1, g2⟩ := h3 ⟨s, hs, hz⟩
          exact ⟨s', by omega, g2⟩
        · exact absurd (hz.2.2.symm.trans ho.2.2) hxx
def T_M_findValues : zz_Tr := fun as h post => ∃ r sw, as = [zz_r 7 (some r)] ∧ sw < 4 ∧ (zz_fI h 7 9 r ≠ -1 → zz_fI h 7 10 r = nI sw) ∧ mo_ok h r ∧ mo_wl h r ∧ ∀ y, mVl h r sw 60 y → post none (mo_ly h y)
set_option maxRecDepth 100000 in
set_option maxHeartbeats 4000000 in
theorem m_M_findValues (l : Launch) : zz_Met l y_M_findValues w_M_findValues { frames := 2, cells := 0, slots := 0, locals := 34 } T_M_findValues := by
  refine zz_ofZ (by decide) (fun as h post hT => ?_) ?_
  · obtain ⟨r, sw, rfl, hsw, hse, hok, hwl, hp⟩ := hT
    exact ⟨by simp [zz_cat], by simp⟩
  · intro D DA h as post hT p e s m args below meth c Q C hr hlk hnm hQ
    obtain ⟨r, sw, rfl, hsw, hse, hok, hwl, hp⟩ := hT
    have lp25 : ∀ n i v7 v8 v9 y, 61 ≤ n + i → i ≤ 60 → mVl h r sw i y → zz_Z p l e { frames := 2, cells := 0, slots := 0, locals := 34 } s m args below meth c Q D DA (zz_A h s.heap.size) h 5 25 [some (zz_r 7 (some r)), some (zz_i (nI i)), v7, v8, v9] [] (mo_ly h y) 0 0 := by
      intro n
      induction n with
      | zero =>
        intro i v7 v8 v9 y hn hi
        exact absurd hn (by omega)
      | succ n ih =>
        intro i v7 v8 v9 y hn hile hv
        refine zz_iload_n (q := 26) (f := 1) (i := 1) C (by decide +kernel) rfl rfl rfl ?_
        refine zz_bipush (q := 28) (n := 60) (x := 60) C (by decide +kernel) rfl (by decide +kernel) ?_
        refine zz_icmp_ge (off := 79) (tgt := 107) (q := 31) C (by decide +kernel) (by decide) rfl (fun c28 => ?_) (fun c28 => ?_)
        · refine zz_vret C hr hlk (by decide +kernel) hQ (by decide) (by decide) ?_
          have he : i = 60 := by
            have := ((nI_leI (a := 60) (b := i) (by decide) (by omega)).mp c28)
            omega
          exact hp y (he ▸ hv)
        · have hi : i < 60 := Nat.lt_of_not_le (fun z => c28 (nI_le (a := 60) z (by omega)))
          refine zz_aload_n (q := 32) (f := 0) (i := 0) C (by decide +kernel) rfl rfl rfl ?_
          refine zz_getR (q := 35) C gf_M_39 (by decide +kernel) rfl (by first | rfl | assumption) (hok 14 90 60 rfl).1 ?_
          refine zz_iload_n (q := 36) (f := 1) (i := 1) C (by decide +kernel) rfl rfl rfl ?_
          refine zz_iaload (q := 37) C (by decide +kernel) rfl rfl (hok 14 90 60 rfl).2 rfl (by omega) (by decide) rfl ?_
          refine zz_if_le (off := 64) (tgt := 101) (q := 40) C (by decide +kernel) (by decide) rfl (fun c37 => ?_) (fun c37 => ?_)
          · refine zz_iinc (q := 104) (i := 1) (n := 1) C (by decide +kernel) rfl rfl (nI_1 _) (by decide) rfl ?_
            refine zz_goto (off := -79) (tgt := 25) C (by decide +kernel) (by decide) ?_
            -- AT 25
            first
              | exact ih (i + 1) _ _ _ _ (by omega) (by omega) (mVl_of hv hx60 hof (Or.inr ⟨(lg_cmp_ge _ _).mp c87, rfl⟩))
              | exact ih (i + 1) _ _ _ _ (by omega) (by omega) (mVl_of hv hx60 hof (Or.inl ⟨Int64.not_le.mp (fun z => c87 ((lg_cmp_ge _ _).mpr z)), rfl⟩))
              | exact ih (i + 1) _ _ _ _ (by omega) (by omega) (mVl_no hv (fun x z => absurd z.1.2 (Int32.not_lt.mpr c37)))
              | exact ih (i + 1) _ _ _ _ (by omega) (by omega) (mVl_no hv (fun x z => c50 z.2.1))
          · have hlv : mLive h r i := ⟨hi, Int32.not_le.mp c37⟩
            obtain ⟨e1, e2, e3, e4, e5, -⟩ := hwl i hlv
            refine zz_aload_n (q := 41) (f := 0) (i := 0) C (by decide +kernel) rfl rfl rfl ?_
            refine zz_getR (q := 44) C gf_M_42 (by decide +kernel) rfl (by first | rfl | assumption) (hok 15 90 60 rfl).1 ?_
            refine zz_iload_n (q := 45) (f := 1) (i := 1) C (by decide +kernel) rfl rfl rfl ?_
            refine zz_iaload (q := 46) C (by decide +kernel) rfl rfl (hok 15 90 60 rfl).2 rfl (by omega) (by decide) rfl ?_
            refine zz_aload_n (q := 47) (f := 0) (i := 0) C (by decide +kernel) rfl rfl rfl ?_
            refine zz_getI (q := 50) C gf_M_35 (by decide +kernel) rfl (by first | rfl | assumption) rfl ?_
            refine zz_icmp_ne (off := 51) (tgt := 101) (q := 53) C (by decide +kernel) (by decide) rfl (fun c50 => ?_) (fun c50 => ?_)
            · refine zz_iinc (q := 104) (i := 1) (n := 1) C (by decide +kernel) rfl rfl (nI_1 _) (by decide) rfl ?_
              refine zz_goto (off := -79) (tgt := 25) C (by decide +kernel) (by decide) ?_
              -- AT 25
              first
                | exact ih (i + 1) _ _ _ _ (by omega) (by omega) (mVl_of hv hx60 hof (Or.inr ⟨(lg_cmp_ge _ _).mp c87, rfl⟩))
                | exact ih (i + 1) _ _ _ _ (by omega) (by omega) (mVl_of hv hx60 hof (Or.inl ⟨Int64.not_le.mp (fun z => c87 ((lg_cmp_ge _ _).mpr z)), rfl⟩))
                | exact ih (i + 1) _ _ _ _ (by omega) (by omega) (mVl_no hv (fun x z => absurd z.1.2 (Int32.not_lt.mpr c37)))
                | exact ih (i + 1) _ _ _ _ (by omega) (by omega) (mVl_no hv (fun x z => c50 z.2.1))
            · have hne : zz_fI h 7 9 r ≠ -1 := fun z => nI_neg (x := mK h r i) (by omega) (e1.symm.trans (c50.trans z))
              have hx0 := mAt_live (l := 1) hwl 3 i hlv
              have hx60 := hx0.1
              have hof : mOf h r i (mAt h r 1 3 i) := ⟨hlv, c50, rfl⟩
              refine zz_aload_n (q := 54) (f := 0) (i := 0) C (by decide +kernel) rfl rfl rfl ?_
              refine zz_iload_n (q := 55) (f := 1) (i := 1) C (by decide +kernel) rfl rfl rfl ?_
              refine zz_callV (q := 58) C (m_M_rootOf l) cv_M_120 (by decide +kernel) rfl rfl rfl (by first | rfl | assumption) (by decide) (by decide) (Nat.le_of_ble_eq_true rfl) ⟨_, _, rfl, hok, hwl, hlv, ?_⟩
              refine zz_istore_n (q := 59) (f := 2) (i := 2) C (by decide +kernel) rfl rfl (by decide) rfl ?_
              refine zz_aload_n (q := 60) (f := 0) (i := 0) C (by decide +kernel) rfl rfl rfl ?_
              refine zz_getR (q := 63) C gf_M_51 (by decide +kernel) rfl (by first | rfl | assumption) (hok 18 90 240 rfl).1 ?_
              refine zz_iconst (q := 64) (n := 4) (x := 4) C (by decide +kernel) rfl (by decide +kernel) ?_
              refine zz_iload_n (q := 65) (f := 1) (i := 1) C (by decide +kernel) rfl rfl rfl ?_
              refine zz_imul (q := 66) C (by decide +kernel) rfl (nI_mul9 4 _) ?_
              refine zz_aload_n (q := 67) (f := 0) (i := 0) C (by decide +kernel) rfl rfl rfl ?_
              refine zz_getI (q := 70) C gf_M_105 (by decide +kernel) rfl (by first | rfl | assumption) (hse hne) ?_
              refine zz_iadd (q := 71) C (by decide +kernel) rfl (nI_add _ _) ?_
              refine zz_iaload (q := 72) C (by decide +kernel) rfl rfl (hok 18 90 240 rfl).2 rfl (by omega) (by decide) rfl ?_
              refine zz_i2l (q := 73) C (by decide +kernel) rfl rfl ?_
              refine zz_lstore_n (q := 74) (f := 3) (i := 3) C (by decide +kernel) rfl rfl (by decide) rfl ?_
              refine zz_aload_n (q := 75) (f := 0) (i := 0) C (by decide +kernel) rfl rfl rfl ?_
              refine zz_getR (q := 78) C gf_M_57 (by decide +kernel) rfl (by first | rfl | assumption) (hok 20 92 60 rfl).1 ?_
              refine zz_iload_n (q := 79) (f := 2) (i := 2) C (by decide +kernel) rfl rfl rfl ?_
              refine zz_lload_n (q := 80) (f := 3) (i := 3) C (by decide +kernel) rfl rfl rfl ?_
              refine zz_aload_n (q := 81) (f := 0) (i := 0) C (by decide +kernel) rfl rfl rfl ?_
              refine zz_getR (q := 84) C gf_M_57 (by decide +kernel) rfl (by first | rfl | assumption) (hok 20 92 60 rfl).1 ?_
              refine zz_iload_n (q := 85) (f := 2) (i := 2) C (by decide +kernel) rfl rfl rfl ?_
              refine zz_laload (q := 86) C (by decide +kernel) rfl rfl (hok 20 92 60 rfl).2 rfl hx60 (by decide) rfl ?_
              refine zz_lcmp (q := 87) C (by decide +kernel) rfl ?_
              refine zz_if_ge (off := 7) (tgt := 94) (q := 90) C (by decide +kernel) (by decide) rfl (fun c87 => ?_) (fun c87 => ?_)
              · refine zz_aload_n (q := 95) (f := 0) (i := 0) C (by decide +kernel) rfl rfl rfl ?_
                refine zz_getR (q := 98) C gf_M_57 (by decide +kernel) rfl (by first | rfl | assumption) (hok 20 92 60 rfl).1 ?_
                refine zz_iload_n (q := 99) (f := 2) (i := 2) C (by decide +kernel) rfl rfl rfl ?_
                refine zz_laload (q := 100) C (by decide +kernel) rfl rfl (hok 20 92 60 rfl).2 rfl hx60 (by decide) rfl ?_
                refine zz_lastore (q := 101) C (by decide +kernel) rfl rfl (hok 20 92 60 rfl).2 rfl hx60 (by decide) ?_
                refine zz_iinc (q := 104) (i := 1) (n := 1) C (by decide +kernel) rfl rfl (nI_1 _) (by decide) rfl ?_
                refine zz_goto (off := -79) (tgt := 25) C (by decide +kernel) (by decide) ?_
                -- AT 25
                first
                  | exact ih (i + 1) _ _ _ _ (by omega) (by omega) (mVl_of hv hx60 hof (Or.inr ⟨(lg_cmp_ge _ _).mp c87, rfl⟩))
                  | exact ih (i + 1) _ _ _ _ (by omega) (by omega) (mVl_of hv hx60 hof (Or.inl ⟨Int64.not_le.mp (fun z => c87 ((lg_cmp_ge _ _).mpr z)), rfl⟩))
                  | exact ih (i + 1) _ _ _ _ (by omega) (by omega) (mVl_no hv (fun x z => absurd z.1.2 (Int32.not_lt.mpr c37)))
                  | exact ih (i + 1) _ _ _ _ (by omega) (by omega) (mVl_no hv (fun x z => c50 z.2.1))
              · refine zz_lload_n (q := 91) (f := 3) (i := 3) C (by decide +kernel) rfl rfl rfl ?_
                refine zz_goto (off := 9) (tgt := 100) C (by decide +kernel) (by decide) ?_
                refine zz_lastore (q := 101) C (by decide +kernel) rfl rfl (hok 20 92 60 rfl).2 rfl hx60 (by decide) ?_
                refine zz_iinc (q := 104) (i := 1) (n := 1) C (by decide +kernel) rfl rfl (nI_1 _) (by decide) rfl ?_
                refine zz_goto (off := -79) (tgt := 25) C (by decide +kernel) (by decide) ?_
                -- AT 25
                first
                  | exact ih (i + 1) _ _ _ _ (by omega) (by omega) (mVl_of hv hx60 hof (Or.inr ⟨(lg_cmp_ge _ _).mp c87, rfl⟩))
                  | exact ih (i + 1) _ _ _ _ (by omega) (by omega) (mVl_of hv hx60 hof (Or.inl ⟨Int64.not_le.mp (fun z => c87 ((lg_cmp_ge _ _).mpr z)), rfl⟩))
                  | exact ih (i + 1) _ _ _ _ (by omega) (by omega) (mVl_no hv (fun x z => absurd z.1.2 (Int32.not_lt.mpr c37)))
                  | exact ih (i + 1) _ _ _ _ (by omega) (by omega) (mVl_no hv (fun x z => c50 z.2.1))
    have lp2 : ∀ n i y, 61 ≤ n + i → i ≤ 60 → (∀ b j, b ≠ mf h r 20 → y b j = zz_aL h b j) → (∀ j, j < i → y (mf h r 20) j = mB40) → zz_Z p l e { frames := 2, cells := 0, slots := 0, locals := 34 } s m args below meth c Q D DA (zz_A h s.heap.size) h 5 2 [some (zz_r 7 (some r)), some (zz_i (nI i)), none, none, none] [] (mo_ly h y) 0 0 := by
      intro n
      induction n with
      | zero =>
        intro i y hn hi
        exact absurd hn (by omega)
      | succ n ih =>
        intro i y hn hile hf hall
        refine zz_iload_n (q := 3) (f := 1) (i := 1) C (by decide +kernel) rfl rfl rfl ?_
        refine zz_bipush (q := 5) (n := 60) (x := 60) C (by decide +kernel) rfl (by decide +kernel) ?_
        refine zz_icmp_ge (off := 18) (tgt := 23) (q := 8) C (by decide +kernel) (by decide) rfl (fun c5 => ?_) (fun c5 => ?_)
        · refine zz_iconst (q := 24) (n := 0) (x := 0) C (by decide +kernel) rfl (by decide +kernel) ?_
          refine zz_istore_n (q := 25) (f := 1) (i := 1) C (by decide +kernel) rfl rfl (by decide) rfl ?_
          -- AT 25
          have he : i = 60 := by
            have := ((nI_leI (a := 60) (b := i) (by decide) (by omega)).mp c5)
            omega
          exact lp25 61 0 _ _ _ y (by omega) (by omega) ⟨hf, fun x hx => ⟨fun _ => hall x (by omega), fun s hs => absurd hs (by omega), fun ⟨s, hs, _⟩ => absurd hs (by omega)⟩⟩
        · have hi : i < 60 := Nat.lt_of_not_le (fun z => c5 (nI_le (a := 60) z (by omega)))
          refine zz_aload_n (q := 9) (f := 0) (i := 0) C (by decide +kernel) rfl rfl rfl ?_
          refine zz_getR (q := 12) C gf_M_57 (by decide +kernel) rfl (by first | rfl | assumption) (hok 20 92 60 rfl).1 ?_
          refine zz_iload_n (q := 13) (f := 1) (i := 1) C (by decide +kernel) rfl rfl rfl ?_
          refine zz_ldc2 (q := 16) C lc_M_118 (by decide +kernel) rfl ?_
          refine zz_lastore (q := 17) C (by decide +kernel) rfl rfl (hok 20 92 60 rfl).2 rfl (by omega) (by decide) ?_
          refine zz_iinc (q := 20) (i := 1) (n := 1) C (by decide +kernel) rfl rfl (nI_1 _) (by decide) rfl ?_
          refine zz_goto (off := -18) (tgt := 2) C (by decide +kernel) (by decide) ?_
          -- AT 2
          refine ih (i + 1) (fun b j => if b = mf h r 20 ∧ j = i then mB40 else y b j) (by omega) (by omega) (fun b j hb => ?_) (fun j hj => ?_)
          · show (if b = mf h r 20 ∧ j = i then mB40 else y b j) = _
            rw [if_neg (fun z => hb z.1)]; exact hf b j hb
          · show (if mf h r 20 = mf h r 20 ∧ j = i then mB40 else y (mf h r 20) j) = _
            by_cases hji : j = i
            · exact if_pos ⟨rfl, hji⟩
            · rw [if_neg (fun z => hji z.2)]; exact hall j (by omega)
    refine zz_iconst (q := 1) (n := 0) (x := 0) C (by decide +kernel) rfl (by decide +kernel) ?_
    refine zz_istore_n (q := 2) (f := 1) (i := 1) C (by decide +kernel) rfl rfl (by decide) rfl ?_
    -- AT 2
    exact lp2 61 0 (zz_aL h) (by omega) (by omega) (fun _ _ _ => rfl) (fun j hj => absurd hj (by omega))

/-! Order: parents, siblings; Position -/
def or_fp (h : zz_H) (a k q lv i : Nat) : Prop := zz_fR h 2 1 (or_N h a i) = some k ∧ pa_dn h q lv (or_N h a i)
def or_sb (h : zz_H) (a : Nat) (k par : Option Nat) (b i : Nat) : Prop := zz_fR h 2 1 (or_N h a i) = k ∧ zz_fR h 2 2 (or_N h a i) = par ∧ zz_fI h 1 4 (sg_k h (or_N h a i)) ≠ -1 ∧ zz_aI h (sg_w h (or_N h a i)) (kd_sq h (sg_k h (or_N h a i))) = zz_aI h b (kd_sq h (sg_k h (or_N h a i)))
theorem or_tag {h : zz_H} (hty : zz_tyH h) {a i : Nat} (hok : or_okN h a) (hi : i < or_s h a) : ∃ n, zz_tg h (or_N h a i) = some (2, n) := hty.2 (or_n h a) 102 60 i hok.1.2.2.2.1 (by decide) _ (hok.2 i hi)
theorem or_tagB {h : zz_H} (hty : zz_tyH h) {a i : Nat} (hok : or_okB h a) (hi : i < or_s h a) : ∃ n, zz_tg h (or_B h a i) = some (2, n) := hty.2 (or_b h a) 102 60 i hok.1.2.2.1 (by decide) _ (hok.2 i hi)
def T_O_firstParent : zz_Tr := fun as h post => ∃ a k q lv, as = [zz_r 5 (some a), zz_r 1 (some k), zz_r 4 (some q)] ∧ lv ≤ 4 ∧ zz_fI h 1 2 k = nI lv ∧ or_okN h a ∧ pa_ok h q ∧ sg_wf h ∧ ∀ r, or_first (or_s h a) 0 (or_fp h a k q lv) (or_N h a) r → post (some (zz_r 2 r)) h
set_option maxRecDepth 100000 in
set_option maxHeartbeats 4000000 in
theorem m_O_firstParent (l : Launch) : zz_Met l y_O_firstParent w_O_firstParent { frames := 4, cells := 0, slots := 0, locals := 80 } T_O_firstParent := by
  refine zz_ofZ (by decide) (fun as h post hT => ?_) ?_
  · obtain ⟨a, k, q, lv, rfl, hl4, hlv, hok, hpa, hwf, hp⟩ := hT
    exact ⟨by simp [zz_cat], by simp⟩
  · intro D DA h as post hT p e s m args below meth c Q C hr hlk hnm hQ
    obtain ⟨a, k, q, lv, rfl, hl4, hlv, hok, hpa, hwf, hp⟩ := hT
    have lp2 : ∀ n i, n + i = or_s h a → (∀ j, 0 ≤ j → j < i → ¬ or_fp h a k q lv j) → zz_Z p l e { frames := 4, cells := 0, slots := 0, locals := 80 } s m args below meth c Q D DA (zz_A h s.heap.size) h 4 2 [some (zz_r 5 (some a)), some (zz_r 1 (some k)), some (zz_r 4 (some q)), some (zz_i (nI i))] [] h 0 0 := by
      intro n
      induction n with
      | zero =>
        intro i hni hall
        have hi : i = or_s h a := by omega
        subst hi
        have hb := hok.1.2.2.2.2.2.1
        refine zz_iload_n (q := 3) (f := 3) (i := 3) C (by decide +kernel) rfl rfl rfl ?_
        refine zz_aload_n (q := 4) (f := 0) (i := 0) C (by decide +kernel) rfl rfl rfl ?_
        refine zz_getI (q := 7) C gf_O_35 (by decide +kernel) rfl rfl hok.1.2.2.2.2.2.2 ?_
        refine zz_icmp_ge (off := 46) (tgt := 53) (q := 10) C (by decide +kernel) (by decide) rfl (fun c7 => ?_) (fun c7 => absurd (nI_le (Nat.le_refl _) (by omega)) c7)
        refine zz_null (q := 54) C 2 (by decide +kernel) rfl ?_
        exact zz_aret C hr (Or.inl ⟨_, rfl⟩) hlk (by decide +kernel) hQ (by decide) (by decide) (hp _ (Or.inl ⟨rfl, hall⟩))
      | succ n ih =>
        intro i hni hall
        have hb := hok.1.2.2.2.2.2.1
        have hi : i < or_s h a := by omega
        refine zz_iload_n (q := 3) (f := 3) (i := 3) C (by decide +kernel) rfl rfl rfl ?_
        refine zz_aload_n (q := 4) (f := 0) (i := 0) C (by decide +kernel) rfl rfl rfl ?_
        refine zz_getI (q := 7) C gf_O_35 (by decide +kernel) rfl (by first | rfl | assumption) hok.1.2.2.2.2.2.2 ?_
        refine zz_icmp_ge (off := 46) (tgt := 53) (q := 10) C (by decide +kernel) (by decide) rfl (fun c7 => ?_) (fun c7 => ?_)
        · refine zz_null (q := 54) C 2 (by decide +kernel) rfl ?_
          refine zz_aret C hr (Or.inl ⟨_, rfl⟩) hlk (by decide +kernel) hQ (by decide) (by decide) ?_
          exact absurd c7 (nI_ge hi (by omega))
        · refine zz_aload_n (q := 11) (f := 0) (i := 0) C (by decide +kernel) rfl rfl rfl ?_
          refine zz_getR (q := 14) C gf_O_17 (by decide +kernel) rfl (by first | rfl | assumption) hok.1.2.1 ?_
          refine zz_iload_n (q := 15) (f := 3) (i := 3) C (by decide +kernel) rfl rfl rfl ?_
          refine zz_aaload (q := 16) C 4 rfl (by decide) (by decide +kernel) rfl rfl hok.1.2.2.2.1 rfl (by have := hok.1.2.2.2.2.2.1; omega) (by decide) (hok.2 i hi) ?_
          refine zz_getR (q := 19) C gf_O_50 (by decide +kernel) rfl (by first | rfl | assumption) rfl ?_
          refine zz_aload_n (q := 20) (f := 1) (i := 1) C (by decide +kernel) rfl rfl rfl ?_
          refine zz_acmp_ne (off := 27) (tgt := 47) (q := 23) C (by decide +kernel) (by decide) rfl (fun c20 => ?_) (fun c20 => ?_)
          · refine zz_iinc (q := 50) (i := 3) (n := 1) C (by decide +kernel) rfl rfl (nI_succ _).symm (by decide) rfl ?_
            refine zz_goto (off := -48) (tgt := 2) C (by decide +kernel) (by decide) ?_
            -- AT 2
            refine ih (i + 1) (by omega) (or_next hall (fun z => ?_))
            first | exact zz_b_f c37 z.2 | exact c20 z.1
          · refine zz_aload_n (q := 24) (f := 2) (i := 2) C (by decide +kernel) rfl rfl rfl ?_
            refine zz_aload_n (q := 25) (f := 1) (i := 1) C (by decide +kernel) rfl rfl rfl ?_
            refine zz_getI (q := 28) C gf_O_53 (by decide +kernel) rfl (by first | rfl | assumption) hlv ?_
            refine zz_aload_n (q := 29) (f := 0) (i := 0) C (by decide +kernel) rfl rfl rfl ?_
            refine zz_getR (q := 32) C gf_O_17 (by decide +kernel) rfl (by first | rfl | assumption) hok.1.2.1 ?_
            refine zz_iload_n (q := 33) (f := 3) (i := 3) C (by decide +kernel) rfl rfl rfl ?_
            refine zz_aaload (q := 34) C 4 rfl (by decide) (by decide +kernel) rfl rfl hok.1.2.2.2.1 rfl (by have := hok.1.2.2.2.2.2.1; omega) (by decide) (hok.2 i hi) ?_
            refine zz_callV (q := 37) C (m_P_isMetDownTo l) cv_O_58 (by decide +kernel) rfl rfl rfl (by first | rfl | assumption) (by decide) (by decide) (Nat.le_of_ble_eq_true rfl) ⟨_, _, _, rfl, hl4, hpa, hwf, ?_⟩
            refine zz_if_eq (off := 10) (tgt := 47) (q := 40) C (by decide +kernel) (by decide) rfl (fun c37 => ?_) (fun c37 => ?_)
            · refine zz_iinc (q := 50) (i := 3) (n := 1) C (by decide +kernel) rfl rfl (nI_succ _).symm (by decide) rfl ?_
              refine zz_goto (off := -48) (tgt := 2) C (by decide +kernel) (by decide) ?_
              -- AT 2
              refine ih (i + 1) (by omega) (or_next hall (fun z => ?_))
              first | exact zz_b_f c37 z.2 | exact c20 z.1
            · refine zz_aload_n (q := 41) (f := 0) (i := 0) C (by decide +kernel) rfl rfl rfl ?_
              refine zz_getR (q := 44) C gf_O_17 (by decide +kernel) rfl (by first | rfl | assumption) hok.1.2.1 ?_
              refine zz_iload_n (q := 45) (f := 3) (i := 3) C (by decide +kernel) rfl rfl rfl ?_
              refine zz_aaload (q := 46) C 4 rfl (by decide) (by decide +kernel) rfl rfl hok.1.2.2.2.1 rfl (by have := hok.1.2.2.2.2.2.1; omega) (by decide) (hok.2 i hi) ?_
              refine zz_aret C hr (Or.inl ⟨_, rfl⟩) hlk (by decide +kernel) hQ (by decide) (by decide) ?_
              exact hp _ (Or.inr ⟨i, Nat.zero_le _, hi, ⟨c20, zz_b_t c37⟩, hall, rfl⟩)
    refine zz_iconst (q := 1) (n := 0) (x := 0) C (by decide +kernel) rfl (by decide +kernel) ?_
    refine zz_istore_n (q := 2) (f := 3) (i := 3) C (by decide +kernel) rfl rfl (by decide) rfl ?_
    -- AT 2
    exact lp2 (or_s h a) 0 rfl (fun j _ hj => absurd hj (by omega))

def T_O_hasSibling : zz_Tr := fun as h post => ∃ a k par b, as = [zz_r 5 (some a), zz_r 1 k, zz_r 2 par, zz_r 90 (some b)] ∧ zz_tg h b = some (90, 4) ∧ or_okN h a ∧ sg_wf h ∧ kd_wf h ∧ post (some (zz_i (zz_b (∃ i, i < or_s h a ∧ or_sb h a k par b i)))) h
set_option maxRecDepth 100000 in
set_option maxHeartbeats 4000000 in
theorem m_O_hasSibling (l : Launch) : zz_Met l y_O_hasSibling w_O_hasSibling { frames := 3, cells := 0, slots := 0, locals := 53 } T_O_hasSibling := by
  refine zz_ofZ (by decide) (fun as h post hT => ?_) ?_
  · obtain ⟨a, k, par, b, rfl, htb, hok, hwf, hkw, hp⟩ := hT
    exact ⟨by simp [zz_cat], by simp⟩
  · intro D DA h as post hT p e s m args below meth c Q C hr hlk hnm hQ
    obtain ⟨a, k, par, b, rfl, htb, hok, hwf, hkw, hp⟩ := hT
    refine zz_know (fun hty _ hTL _ => ?_)
    have lp3 : ∀ n i, n + i = or_s h a → ∀ v9, (∀ j, 0 ≤ j → j < i → ¬ or_sb h a k par b j) → zz_Z p l e { frames := 3, cells := 0, slots := 0, locals := 53 } s m args below meth c Q D DA (zz_A h s.heap.size) h 6 3 [some (zz_r 5 (some a)), some (zz_r 1 k), some (zz_r 2 par), some (zz_r 90 (some b)), some (zz_i (nI i)), v9] [] h 0 0 := by
      intro n
      induction n with
      | zero =>
        intro i hni v9 hall
        have hi : i = or_s h a := by omega
        subst hi
        have hb := hok.1.2.2.2.2.2.1
        refine zz_iload (q := 5) (i := 4) C (by decide +kernel) rfl rfl ?_
        refine zz_aload_n (q := 6) (f := 0) (i := 0) C (by decide +kernel) rfl rfl rfl ?_
        refine zz_getI (q := 9) C gf_O_35 (by decide +kernel) rfl rfl hok.1.2.2.2.2.2.2 ?_
        refine zz_icmp_ge (off := 47) (tgt := 56) (q := 12) C (by decide +kernel) (by decide) rfl (fun c9 => ?_) (fun c9 => absurd (nI_le (Nat.le_refl _) (by omega)) c9)
        refine zz_iconst (q := 57) (n := 0) (x := 0) C (by decide +kernel) rfl (by decide +kernel) ?_
        exact zz_zret C hr hlk (by decide +kernel) (by decide) hQ (by decide) (by decide) (zz_b0 (P := fun x => post (some (zz_i x)) h) hp (fun ⟨j, h1, h2⟩ => hall j (Nat.zero_le _) h1 h2))
      | succ n ih =>
        intro i hni v9 hall
        have hb := hok.1.2.2.2.2.2.1
        have hi : i < or_s h a := by omega
        obtain ⟨ns, hts⟩ := or_tag hty hok hi
        have hos := hwf _ ns hts
        obtain ⟨nk, htk⟩ := hty.1 _ 2 ns 1 1 hts (by decide) rfl _ hos.1
        have hks := hkw _ nk htk
        refine zz_iload (q := 5) (i := 4) C (by decide +kernel) rfl rfl ?_
        refine zz_aload_n (q := 6) (f := 0) (i := 0) C (by decide +kernel) rfl rfl rfl ?_
        refine zz_getI (q := 9) C gf_O_35 (by decide +kernel) rfl (by first | rfl | assumption) hok.1.2.2.2.2.2.2 ?_
        refine zz_icmp_ge (off := 47) (tgt := 56) (q := 12) C (by decide +kernel) (by decide) rfl (fun c9 => ?_) (fun c9 => ?_)
        · refine zz_iconst (q := 57) (n := 0) (x := 0) C (by decide +kernel) rfl (by decide +kernel) ?_
          refine zz_zret C hr hlk (by decide +kernel) (by decide) hQ (by decide) (by decide) ?_
          exact absurd c9 (nI_ge hi (by omega))
        · refine zz_aload_n (q := 13) (f := 0) (i := 0) C (by decide +kernel) rfl rfl rfl ?_
          refine zz_getR (q := 16) C gf_O_17 (by decide +kernel) rfl (by first | rfl | assumption) hok.1.2.1 ?_
          refine zz_iload (q := 18) (i := 4) C (by decide +kernel) rfl rfl ?_
          refine zz_aaload (q := 19) C 4 rfl (by decide) (by decide +kernel) rfl rfl hok.1.2.2.2.1 rfl (by have := hok.1.2.2.2.2.2.1; omega) (by decide) (hok.2 i hi) ?_
          refine zz_astore (q := 21) (i := 5) C (by decide +kernel) rfl (by decide) rfl ?_
          refine zz_aload (q := 23) (i := 5) C (by decide +kernel) rfl rfl ?_
          refine zz_getR (q := 26) C gf_O_50 (by decide +kernel) rfl (by first | rfl | assumption) rfl ?_
          refine zz_aload_n (q := 27) (f := 1) (i := 1) C (by decide +kernel) rfl rfl rfl ?_
          refine zz_acmp_ne (off := 23) (tgt := 50) (q := 30) C (by decide +kernel) (by decide) rfl (fun c27 => ?_) (fun c27 => ?_)
          · refine zz_iinc (q := 53) (i := 4) (n := 1) C (by decide +kernel) rfl rfl (nI_succ _).symm (by decide) rfl ?_
            refine zz_goto (off := -50) (tgt := 3) C (by decide +kernel) (by decide) ?_
            -- AT 3
            refine ih (i + 1) (by omega) _ (or_next hall (fun z => ?_))
            first | exact zz_b_f c45 z.2.2 | exact c36 z.2.1 | exact c27 z.1
          · refine zz_aload (q := 32) (i := 5) C (by decide +kernel) rfl rfl ?_
            refine zz_getR (q := 35) C gf_O_62 (by decide +kernel) rfl (by first | rfl | assumption) rfl ?_
            refine zz_aload_n (q := 36) (f := 2) (i := 2) C (by decide +kernel) rfl rfl rfl ?_
            refine zz_acmp_ne (off := 14) (tgt := 50) (q := 39) C (by decide +kernel) (by decide) rfl (fun c36 => ?_) (fun c36 => ?_)
            · refine zz_iinc (q := 53) (i := 4) (n := 1) C (by decide +kernel) rfl rfl (nI_succ _).symm (by decide) rfl ?_
              refine zz_goto (off := -50) (tgt := 3) C (by decide +kernel) (by decide) ?_
              -- AT 3
              refine ih (i + 1) (by omega) _ (or_next hall (fun z => ?_))
              first | exact zz_b_f c45 z.2.2 | exact c36 z.2.1 | exact c27 z.1
            · refine zz_aload (q := 41) (i := 5) C (by decide +kernel) rfl rfl ?_
              refine zz_aload_n (q := 42) (f := 3) (i := 3) C (by decide +kernel) rfl rfl rfl ?_
              refine zz_callV (q := 45) C (m_S_hasSequenceOf l) cv_O_66 (by decide +kernel) rfl rfl rfl (by first | rfl | assumption) (by decide) (by decide) (Nat.le_of_ble_eq_true rfl) ⟨_, _, rfl, hos, hks, htb, ?_⟩
              refine zz_if_eq (off := 5) (tgt := 50) (q := 48) C (by decide +kernel) (by decide) rfl (fun c45 => ?_) (fun c45 => ?_)
              · refine zz_iinc (q := 53) (i := 4) (n := 1) C (by decide +kernel) rfl rfl (nI_succ _).symm (by decide) rfl ?_
                refine zz_goto (off := -50) (tgt := 3) C (by decide +kernel) (by decide) ?_
                -- AT 3
                refine ih (i + 1) (by omega) _ (or_next hall (fun z => ?_))
                first | exact zz_b_f c45 z.2.2 | exact c36 z.2.1 | exact c27 z.1
              · refine zz_iconst (q := 49) (n := 1) (x := 1) C (by decide +kernel) rfl (by decide +kernel) ?_
                refine zz_zret C hr hlk (by decide +kernel) (by decide) hQ (by decide) (by decide) ?_
                exact zz_b1 (P := fun x => post (some (zz_i x)) h) hp ⟨i, hi, c27, c36, zz_b_t c45⟩
    refine zz_iconst (q := 1) (n := 0) (x := 0) C (by decide +kernel) rfl (by decide +kernel) ?_
    refine zz_istore (q := 3) (i := 4) C (by decide +kernel) rfl (by decide) rfl ?_
    -- AT 3
    exact lp3 (or_s h a) 0 rfl none (fun j _ hj => absurd hj (by omega))

def T_Q_standAt : zz_Tr := fun as h post => ∃ a sg, as = [zz_r 6 (some a), zz_r 2 sg] ∧ post none (zz_pI (zz_pI (zz_pR h 6 0 a sg) 6 1 a 1) 6 2 a 0)
set_option maxRecDepth 100000 in
set_option maxHeartbeats 4000000 in
theorem m_Q_standAt (l : Launch) : zz_Met l y_Q_standAt w_Q_standAt { frames := 1, cells := 0, slots := 0, locals := 12 } T_Q_standAt := by
  refine zz_ofZ (by decide) (fun as h post hT => ?_) ?_
  · obtain ⟨a, sg, rfl, hp⟩ := hT
    exact ⟨by simp [zz_cat], by simp⟩
  · intro D DA h as post hT p e s m args below meth c Q C hr hlk hnm hQ
    obtain ⟨a, sg, rfl, hp⟩ := hT
    refine zz_aload_n (q := 1) (f := 0) (i := 0) C (by decide +kernel) rfl rfl rfl ?_
    refine zz_aload_n (q := 2) (f := 1) (i := 1) C (by decide +kernel) rfl rfl rfl ?_
    refine zz_putR (q := 5) C gf_Q_7 (fun h => by cases h) (by decide +kernel) rfl (by first | rfl | assumption) ?_
    refine zz_aload_n (q := 6) (f := 0) (i := 0) C (by decide +kernel) rfl rfl rfl ?_
    refine zz_iconst (q := 7) (n := 1) (x := 1) C (by decide +kernel) rfl (by decide +kernel) ?_
    refine zz_putI (q := 10) C gf_Q_13 (fun h => by cases h) (fun _ => Or.inr rfl) (by decide +kernel) rfl (by first | rfl | assumption) ?_
    refine zz_aload_n (q := 11) (f := 0) (i := 0) C (by decide +kernel) rfl rfl rfl ?_
    refine zz_iconst (q := 12) (n := 0) (x := 0) C (by decide +kernel) rfl (by decide +kernel) ?_
    refine zz_putI (q := 15) C gf_Q_17 (fun h => by cases h) (fun _ => Or.inl rfl) (by decide +kernel) rfl (by first | rfl | assumption) ?_
    refine zz_vret C hr hlk (by decide +kernel) hQ (by decide) (by decide) ?_
    exact hp

def T_Q_standInFrontOfAll : zz_Tr := fun as h post => ∃ a, as = [zz_r 6 (some a)] ∧ post none (zz_pI (zz_pI (zz_pR h 6 0 a none) 6 1 a 0) 6 2 a 0)
set_option maxRecDepth 100000 in
set_option maxHeartbeats 4000000 in
theorem m_Q_standInFrontOfAll (l : Launch) : zz_Met l y_Q_standInFrontOfAll w_Q_standInFrontOfAll { frames := 1, cells := 0, slots := 0, locals := 12 } T_Q_standInFrontOfAll := by
  refine zz_ofZ (by decide) (fun as h post hT => ?_) ?_
  · obtain ⟨a, rfl, hp⟩ := hT
    exact ⟨by simp [zz_cat], by simp⟩
  · intro D DA h as post hT p e s m args below meth c Q C hr hlk hnm hQ
    obtain ⟨a, rfl, hp⟩ := hT
    refine zz_aload_n (q := 1) (f := 0) (i := 0) C (by decide +kernel) rfl rfl rfl ?_
    refine zz_null (q := 2) C 2 (by decide +kernel) rfl ?_
    refine zz_putR (q := 5) C gf_Q_7 (fun h => by cases h) (by decide +kernel) rfl (by first | rfl | assumption) ?_
    refine zz_aload_n (q := 6) (f := 0) (i := 0) C (by decide +kernel) rfl rfl rfl ?_
    refine zz_iconst (q := 7) (n := 0) (x := 0) C (by decide +kernel) rfl (by decide +kernel) ?_
    refine zz_putI (q := 10) C gf_Q_13 (fun h => by cases h) (fun _ => Or.inl rfl) (by decide +kernel) rfl (by first | rfl | assumption) ?_
    refine zz_aload_n (q := 11) (f := 0) (i := 0) C (by decide +kernel) rfl rfl rfl ?_
    refine zz_iconst (q := 12) (n := 0) (x := 0) C (by decide +kernel) rfl (by decide +kernel) ?_
    refine zz_putI (q := 15) C gf_Q_17 (fun h => by cases h) (fun _ => Or.inl rfl) (by decide +kernel) rfl (by first | rfl | assumption) ?_
    refine zz_vret C hr hlk (by decide +kernel) hQ (by decide) (by decide) ?_
    exact hp

def T_Q_standInFrontOf : zz_Tr := fun as h post => ∃ a sg, as = [zz_r 6 (some a), zz_r 2 sg] ∧ post none (zz_pI (zz_pI (zz_pR h 6 0 a sg) 6 1 a 0) 6 2 a (zz_b (sg = none)))
set_option maxRecDepth 100000 in
set_option maxHeartbeats 4000000 in
theorem m_Q_standInFrontOf (l : Launch) : zz_Met l y_Q_standInFrontOf w_Q_standInFrontOf { frames := 1, cells := 0, slots := 0, locals := 12 } T_Q_standInFrontOf := by
  refine zz_ofZ (by decide) (fun as h post hT => ?_) ?_
  · obtain ⟨a, sg, rfl, hp⟩ := hT
    exact ⟨by simp [zz_cat], by simp⟩
  · intro D DA h as post hT p e s m args below meth c Q C hr hlk hnm hQ
    obtain ⟨a, sg, rfl, hp⟩ := hT
    refine zz_aload_n (q := 1) (f := 0) (i := 0) C (by decide +kernel) rfl rfl rfl ?_
    refine zz_aload_n (q := 2) (f := 1) (i := 1) C (by decide +kernel) rfl rfl rfl ?_
    refine zz_putR (q := 5) C gf_Q_7 (fun h => by cases h) (by decide +kernel) rfl (by first | rfl | assumption) ?_
    refine zz_aload_n (q := 6) (f := 0) (i := 0) C (by decide +kernel) rfl rfl rfl ?_
    refine zz_iconst (q := 7) (n := 0) (x := 0) C (by decide +kernel) rfl (by decide +kernel) ?_
    refine zz_putI (q := 10) C gf_Q_13 (fun h => by cases h) (fun _ => Or.inl rfl) (by decide +kernel) rfl (by first | rfl | assumption) ?_
    refine zz_aload_n (q := 11) (f := 0) (i := 0) C (by decide +kernel) rfl rfl rfl ?_
    refine zz_aload_n (q := 12) (f := 1) (i := 1) C (by decide +kernel) rfl rfl rfl ?_
    refine zz_ifnonnull (off := 7) (tgt := 19) (q := 15) C (by decide +kernel) (by decide) rfl (fun a12 c12 => ?_) (fun c12 => ?_)
    · refine zz_iconst (q := 20) (n := 0) (x := 0) C (by decide +kernel) rfl (by decide +kernel) ?_
      refine zz_putI (q := 23) C gf_Q_17 (fun h => by cases h) (fun _ => by decide) (by decide +kernel) rfl (by first | rfl | assumption) ?_
      refine zz_vret C hr hlk (by decide +kernel) hQ (by decide) (by decide) ?_
      first | (rw [zz_bT c12] at hp; exact hp) | (rw [zz_bF (by rw [c12]; exact fun z => by cases z)] at hp; exact hp)
    · refine zz_iconst (q := 16) (n := 1) (x := 1) C (by decide +kernel) rfl (by decide +kernel) ?_
      refine zz_goto (off := 4) (tgt := 20) C (by decide +kernel) (by decide) ?_
      refine zz_putI (q := 23) C gf_Q_17 (fun h => by cases h) (fun _ => by decide) (by decide +kernel) rfl (by first | rfl | assumption) ?_
      refine zz_vret C hr hlk (by decide +kernel) hQ (by decide) (by decide) ?_
      first | (rw [zz_bT c12] at hp; exact hp) | (rw [zz_bF (by rw [c12]; exact fun z => by cases z)] at hp; exact hp)

def T_Q_standing : zz_Tr := fun as h post => ∃ a, as = [zz_r 6 (some a)] ∧ post (some (zz_r 2 (if zz_fI h 6 1 a = 0 then none else zz_fR h 6 0 a))) h
set_option maxRecDepth 100000 in
set_option maxHeartbeats 4000000 in
theorem m_Q_standing (l : Launch) : zz_Met l y_Q_standing w_Q_standing { frames := 1, cells := 0, slots := 0, locals := 12 } T_Q_standing := by
  refine zz_ofZ (by decide) (fun as h post hT => ?_) ?_
  · obtain ⟨a, rfl, hp⟩ := hT
    exact ⟨by simp [zz_cat], by simp⟩
  · intro D DA h as post hT p e s m args below meth c Q C hr hlk hnm hQ
    obtain ⟨a, rfl, hp⟩ := hT
    refine zz_aload_n (q := 1) (f := 0) (i := 0) C (by decide +kernel) rfl rfl rfl ?_
    refine zz_getI (q := 4) C gf_Q_13 (by decide +kernel) rfl (by first | rfl | assumption) rfl ?_
    refine zz_if_eq (off := 10) (tgt := 14) (q := 7) C (by decide +kernel) (by decide) rfl (fun c4 => ?_) (fun c4 => ?_)
    · refine zz_null (q := 15) C 2 (by decide +kernel) rfl ?_
      refine zz_aret C hr (Or.inl ⟨_, rfl⟩) hlk (by decide +kernel) hQ (by decide) (by decide) ?_
      first | (rw [if_pos c4] at hp; exact hp) | (rw [if_neg c4] at hp; exact hp)
    · refine zz_aload_n (q := 8) (f := 0) (i := 0) C (by decide +kernel) rfl rfl rfl ?_
      refine zz_getR (q := 11) C gf_Q_7 (by decide +kernel) rfl (by first | rfl | assumption) rfl ?_
      refine zz_goto (off := 4) (tgt := 15) C (by decide +kernel) (by decide) ?_
      refine zz_aret C hr (Or.inl ⟨_, rfl⟩) hlk (by decide +kernel) hQ (by decide) (by decide) ?_
      first | (rw [if_pos c4] at hp; exact hp) | (rw [if_neg c4] at hp; exact hp)

def T_Q_before : zz_Tr := fun as h post => ∃ a d, as = [zz_r 6 (some a), zz_r 5 (some d)] ∧ or_okN h d ∧ ∀ i, ((∃ s9, zz_fR h 6 0 a = some s9 ∧ i ≤ or_s h d ∧ (∀ j, j < i → zz_aR h (or_n h d) j ≠ some s9) ∧ (i < or_s h d → zz_aR h (or_n h d) i = some s9)) ∨ (zz_fR h 6 0 a = none ∧ zz_fI h 6 2 a = 0 ∧ i = 0) ∨ (zz_fR h 6 0 a = none ∧ zz_fI h 6 2 a ≠ 0 ∧ i = or_s h d)) → post (some (zz_i (nI i))) h
set_option maxRecDepth 100000 in
set_option maxHeartbeats 4000000 in
theorem m_Q_before (l : Launch) : zz_Met l y_Q_before w_Q_before { frames := 2, cells := 0, slots := 0, locals := 34 } T_Q_before := by
  refine zz_ofZ (by decide) (fun as h post hT => ?_) ?_
  · obtain ⟨a, d, rfl, hok, hp⟩ := hT
    exact ⟨by simp [zz_cat], by simp⟩
  · intro D DA h as post hT p e s m args below meth c Q C hr hlk hnm hQ
    obtain ⟨a, d, rfl, hok, hp⟩ := hT
    refine zz_aload_n (q := 1) (f := 0) (i := 0) C (by decide +kernel) rfl rfl rfl ?_
    refine zz_getR (q := 4) C gf_Q_7 (by decide +kernel) rfl (by first | rfl | assumption) rfl ?_
    refine zz_ifnull (off := 12) (tgt := 16) (q := 7) C (by decide +kernel) (by decide) rfl (fun c4 => ?_) (fun a4 c4 => ?_)
    · refine zz_aload_n (q := 17) (f := 0) (i := 0) C (by decide +kernel) rfl rfl rfl ?_
      refine zz_getI (q := 20) C gf_Q_17 (by decide +kernel) rfl (by first | rfl | assumption) rfl ?_
      refine zz_if_eq (off := 10) (tgt := 30) (q := 23) C (by decide +kernel) (by decide) rfl (fun c20 => ?_) (fun c20 => ?_)
      · refine zz_iconst (q := 31) (n := 0) (x := 0) C (by decide +kernel) rfl (by decide +kernel) ?_
        refine zz_iret C hr hlk (by decide +kernel) hQ (by decide) (by decide) ?_
        first | exact hp _ (Or.inr (Or.inl ⟨c4, c20, rfl⟩)) | exact hp _ (Or.inr (Or.inr ⟨c4, c20, rfl⟩))
      · refine zz_aload_n (q := 24) (f := 1) (i := 1) C (by decide +kernel) rfl rfl rfl ?_
        refine zz_getI (q := 27) C gf_Q_26 (by decide +kernel) rfl (by first | rfl | assumption) hok.1.2.2.2.2.2.2 ?_
        refine zz_goto (off := 4) (tgt := 31) C (by decide +kernel) (by decide) ?_
        refine zz_iret C hr hlk (by decide +kernel) hQ (by decide) (by decide) ?_
        first | exact hp _ (Or.inr (Or.inl ⟨c4, c20, rfl⟩)) | exact hp _ (Or.inr (Or.inr ⟨c4, c20, rfl⟩))
    · refine zz_aload_n (q := 8) (f := 1) (i := 1) C (by decide +kernel) rfl rfl rfl ?_
      refine zz_aload_n (q := 9) (f := 0) (i := 0) C (by decide +kernel) rfl rfl rfl ?_
      refine zz_getR (q := 12) C gf_Q_7 (by decide +kernel) rfl (by first | rfl | assumption) rfl ?_
      refine zz_callV (q := 15) C (m_O_indexOf l) cv_Q_20 (by decide +kernel) rfl rfl rfl (by first | rfl | assumption) (by decide) (by decide) (Nat.le_of_ble_eq_true rfl) ⟨_, _, rfl, hok, fun i h1 h2 h3 => ?_⟩
      refine zz_iret C hr hlk (by decide +kernel) hQ (by decide) (by decide) ?_
      exact hp i (Or.inl ⟨a4, c4, h1, fun j hj => (by rw [← c4]; exact h2 j hj), fun z => (by rw [← c4]; exact h3 z)⟩)

def T_Q_firstBehind : zz_Tr := fun as h post => ∃ a d, as = [zz_r 6 (some a), zz_r 5 (some d)] ∧ or_okN h d ∧ ∀ i, ((∃ s9, zz_fR h 6 0 a = some s9 ∧ i ≤ or_s h d ∧ (∀ j, j < i → zz_aR h (or_n h d) j ≠ some s9) ∧ (i < or_s h d → zz_aR h (or_n h d) i = some s9)) ∨ (zz_fR h 6 0 a = none ∧ zz_fI h 6 2 a = 0 ∧ i = 0) ∨ (zz_fR h 6 0 a = none ∧ zz_fI h 6 2 a ≠ 0 ∧ i = or_s h d)) → post (some (zz_i (nI (i + if zz_fI h 6 1 a = 0 then 0 else 1)))) h
set_option maxRecDepth 100000 in
set_option maxHeartbeats 4000000 in
theorem m_Q_firstBehind (l : Launch) : zz_Met l y_Q_firstBehind w_Q_firstBehind { frames := 3, cells := 0, slots := 0, locals := 55 } T_Q_firstBehind := by
  refine zz_ofZ (by decide) (fun as h post hT => ?_) ?_
  · obtain ⟨a, d, rfl, hok, hp⟩ := hT
    exact ⟨by simp [zz_cat], by simp⟩
  · intro D DA h as post hT p e s m args below meth c Q C hr hlk hnm hQ
    obtain ⟨a, d, rfl, hok, hp⟩ := hT
    refine zz_aload_n (q := 1) (f := 0) (i := 0) C (by decide +kernel) rfl rfl rfl ?_
    refine zz_aload_n (q := 2) (f := 1) (i := 1) C (by decide +kernel) rfl rfl rfl ?_
    refine zz_callV (q := 5) C (m_Q_before l) cv_Q_30 (by decide +kernel) rfl rfl rfl (by first | rfl | assumption) (by decide) (by decide) (Nat.le_of_ble_eq_true rfl) ⟨_, _, rfl, hok, fun i hi => ?_⟩
    refine zz_aload_n (q := 6) (f := 0) (i := 0) C (by decide +kernel) rfl rfl rfl ?_
    refine zz_getI (q := 9) C gf_Q_13 (by decide +kernel) rfl (by first | rfl | assumption) rfl ?_
    refine zz_if_eq (off := 7) (tgt := 16) (q := 12) C (by decide +kernel) (by decide) rfl (fun c9 => ?_) (fun c9 => ?_)
    · refine zz_iconst (q := 17) (n := 0) (x := 0) C (by decide +kernel) rfl (by decide +kernel) ?_
      refine zz_iadd (q := 18) C (by decide +kernel) rfl rfl ?_
      refine zz_iret C hr hlk (by decide +kernel) hQ (by decide) (by decide) ?_
      have h9 := hp i hi
      first | (rw [if_pos c9] at h9; rw [show (nI i + 0 : Int32) = nI (i + 0) from by rw [Nat.add_zero]; exact Int32.add_zero _]; exact h9) | (rw [if_neg c9] at h9; rw [nI_1]; exact h9)
    · refine zz_iconst (q := 13) (n := 1) (x := 1) C (by decide +kernel) rfl (by decide +kernel) ?_
      refine zz_goto (off := 4) (tgt := 17) C (by decide +kernel) (by decide) ?_
      refine zz_iadd (q := 18) C (by decide +kernel) rfl rfl ?_
      refine zz_iret C hr hlk (by decide +kernel) hQ (by decide) (by decide) ?_
      have h9 := hp i hi
      first | (rw [if_pos c9] at h9; rw [show (nI i + 0 : Int32) = nI (i + 0) from by rw [Nat.add_zero]; exact Int32.add_zero _]; exact h9) | (rw [if_neg c9] at h9; rw [nI_1]; exact h9)

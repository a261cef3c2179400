/-! Order: where a segment enters, what stands behind a tree -/
def or_eE (h : zz_H) (a f i : Nat) : Prop := zz_fR h 2 2 (or_B h a i) = zz_fR h 2 2 f ∧ sg_eb h f (or_B h a i)
def or_eT (h : zz_H) (a f i : Nat) : Prop := ∀ t, zz_fR h 2 2 f = some t → sg_at h (sg_lv h t) (or_B h a i) = some t
/-- behind the last below n for which T holds -/
def or_end (n : Nat) (T : Nat → Prop) (r : Nat) : Prop := r ≤ n ∧ (r = 0 ∨ T (r - 1)) ∧ ∀ j, r ≤ j → j < n → ¬ T j
theorem or_end_no {n r : Nat} {T : Nat → Prop} (h : or_end n T r) (hn : ¬ T n) : or_end (n + 1) T r := ⟨Nat.le_succ_of_le h.1, h.2.1, fun j h1 h2 => by
  rcases Nat.lt_succ_iff_lt_or_eq.mp h2 with h2 | rfl
  · exact h.2.2 j h1 h2
  · exact hn⟩
theorem or_end_yes {n : Nat} {T : Nat → Prop} (hn : T n) : or_end (n + 1) T (n + 1) := ⟨Nat.le_refl _, Or.inr hn, fun j h1 h2 => absurd h1 (by omega)⟩
def or_entry (h : zz_H) (a f r : Nat) : Prop := (r < or_s h a ∧ or_eE h a f r ∧ ∀ j, 0 ≤ j → j < r → ¬ or_eE h a f j) ∨ ((∀ j, 0 ≤ j → j < or_s h a → ¬ or_eE h a f j) ∧ or_end (or_s h a) (or_eT h a f) r)
def T_O_entryOf : zz_Tr := fun as h post => ∃ a f, as = [zz_r 5 (some a), zz_r 2 (some f)] ∧ or_okB h a ∧ sg_wf h ∧ kd_wf h ∧ ∀ r, or_entry h a f r → post (some (zz_i (nI r))) h
set_option maxRecDepth 100000 in
set_option maxHeartbeats 4000000 in
theorem m_O_entryOf (l : Launch) : zz_Met l y_O_entryOf w_O_entryOf { frames := 3, cells := 0, slots := 0, locals := 56 } T_O_entryOf := by
  refine zz_ofZ (by decide) (fun as h post hT => ?_) ?_
  · obtain ⟨a, f, rfl, hok, hwf, hkw, hp⟩ := hT
    exact ⟨by simp [zz_cat], by simp⟩
  · intro D DA h as post hT p e s m args below meth c Q C hr hlk hnm hQ
    obtain ⟨a, f, rfl, hok, hwf, hkw, hp⟩ := hT
    refine zz_know (fun hty _ hTL _ => ?_)
    obtain ⟨nf, htf⟩ := hTL 1 _ rfl f rfl
    have hof := hwf f nf htf
    obtain ⟨nk, htk⟩ := hty.1 _ 2 nf 1 1 htf (by decide) rfl _ hof.1
    have hkf := hkw _ nk htk
    have hb := hok.1.2.2.2.2.2.1
    have lp4 : ∀ n i, or_s h a + 1 ≤ n + i → i ≤ or_s h a → ∀ v9 en, (∀ j, 0 ≤ j → j < i → ¬ or_eE h a f j) → or_end i (or_eT h a f) en → zz_Z p l e { frames := 3, cells := 0, slots := 0, locals := 56 } s m args below meth c Q D DA (zz_A h s.heap.size) h 5 4 [some (zz_r 5 (some a)), some (zz_r 2 (some f)), some (zz_i (nI en)), some (zz_i (nI i)), v9] [] h 0 0 := by
      intro n
      induction n with
      | zero =>
        intro i hni hi
        exact absurd hni (by omega)
      | succ n ih =>
        intro i hni hile v9 en hall hen
        refine zz_iload_n (q := 5) (f := 3) (i := 3) C (by decide +kernel) rfl rfl rfl ?_
        refine zz_aload_n (q := 6) (f := 0) (i := 0) C (by decide +kernel) rfl rfl rfl ?_
        refine zz_getI (q := 9) C gf_O_35 (by decide +kernel) rfl (by first | rfl | assumption) hok.1.2.2.2.2.2.2 ?_
        refine zz_icmp_ge (off := 63) (tgt := 72) (q := 12) C (by decide +kernel) (by decide) rfl (fun c9 => ?_) (fun c9 => ?_)
        · refine zz_iload_n (q := 73) (f := 2) (i := 2) C (by decide +kernel) rfl rfl rfl ?_
          refine zz_iret C hr hlk (by decide +kernel) hQ (by decide) (by decide) ?_
          have he : i = or_s h a := by
            have := ((nI_leI (a := or_s h a) (b := i) (by omega) (by omega)).mp c9)
            omega
          exact hp _ (Or.inr ⟨he ▸ hall, he ▸ hen⟩)
        · have hi : i < or_s h a := Nat.lt_of_not_le (fun z => c9 (nI_le z (by omega)))
          obtain ⟨ns, hts⟩ := or_tagB hty hok hi
          have hos := hwf _ ns hts
          refine zz_aload_n (q := 13) (f := 0) (i := 0) C (by decide +kernel) rfl rfl rfl ?_
          refine zz_getR (q := 16) C gf_O_11 (by decide +kernel) rfl (by first | rfl | assumption) hok.1.1 ?_
          refine zz_iload_n (q := 17) (f := 3) (i := 3) C (by decide +kernel) rfl rfl rfl ?_
          refine zz_aaload (q := 18) C 4 rfl (by decide) (by decide +kernel) rfl rfl hok.1.2.2.1 rfl (by have := hok.1.2.2.2.2.2.1; omega) (by decide) (hok.2 i hi) ?_
          refine zz_astore (q := 20) (i := 4) C (by decide +kernel) rfl (by decide) rfl ?_
          refine zz_aload (q := 22) (i := 4) C (by decide +kernel) rfl rfl ?_
          refine zz_getR (q := 25) C gf_O_62 (by decide +kernel) rfl (by first | rfl | assumption) rfl ?_
          refine zz_aload_n (q := 26) (f := 1) (i := 1) C (by decide +kernel) rfl rfl rfl ?_
          refine zz_getR (q := 29) C gf_O_62 (by decide +kernel) rfl (by first | rfl | assumption) rfl ?_
          refine zz_acmp_ne (off := 14) (tgt := 43) (q := 32) C (by decide +kernel) (by decide) rfl (fun c29 => ?_) (fun c29 => ?_)
          · refine zz_aload_n (q := 44) (f := 1) (i := 1) C (by decide +kernel) rfl rfl rfl ?_
            refine zz_getR (q := 47) C gf_O_62 (by decide +kernel) rfl (by first | rfl | assumption) rfl ?_
            refine zz_ifnull (off := 15) (tgt := 62) (q := 50) C (by decide +kernel) (by decide) rfl (fun c47 => ?_) (fun a47 c47 => ?_)
            · refine zz_iload_n (q := 63) (f := 3) (i := 3) C (by decide +kernel) rfl rfl rfl ?_
              refine zz_iconst (q := 64) (n := 1) (x := 1) C (by decide +kernel) rfl (by decide +kernel) ?_
              refine zz_iadd (q := 65) C (by decide +kernel) rfl (nI_succ _).symm ?_
              refine zz_istore_n (q := 66) (f := 2) (i := 2) C (by decide +kernel) rfl rfl (by decide) rfl ?_
              refine zz_iinc (q := 69) (i := 3) (n := 1) C (by decide +kernel) rfl rfl (nI_succ _).symm (by decide) rfl ?_
              refine zz_goto (off := -65) (tgt := 4) C (by decide +kernel) (by decide) ?_
              -- AT 4
              first
                | exact ih (i + 1) (by omega) (by omega) _ _ (or_next hall (fun z => c29 z.1)) (or_end_yes (fun t ht => absurd (ht.symm.trans c47) (Option.some_ne_none _)))
                | exact ih (i + 1) (by omega) (by omega) _ _ (or_next hall (fun z => zz_b_f c38 z.2)) (or_end_yes (fun t ht => absurd (ht.symm.trans c47) (Option.some_ne_none _)))
                | exact ih (i + 1) (by omega) (by omega) _ _ (or_next hall (fun z => c29 z.1)) (or_end_no hen (fun z => zz_b_f c59 (z _ c47)))
                | exact ih (i + 1) (by omega) (by omega) _ _ (or_next hall (fun z => zz_b_f c38 z.2)) (or_end_no hen (fun z => zz_b_f c59 (z _ c47)))
                | exact ih (i + 1) (by omega) (by omega) _ _ (or_next hall (fun z => c29 z.1)) (or_end_yes (fun t ht => (Option.some.inj (c47.symm.trans ht)) ▸ zz_b_t c59))
                | exact ih (i + 1) (by omega) (by omega) _ _ (or_next hall (fun z => zz_b_f c38 z.2)) (or_end_yes (fun t ht => (Option.some.inj (c47.symm.trans ht)) ▸ zz_b_t c59))
            · refine zz_aload (q := 52) (i := 4) C (by decide +kernel) rfl rfl ?_
              refine zz_aload_n (q := 53) (f := 1) (i := 1) C (by decide +kernel) rfl rfl rfl ?_
              refine zz_getR (q := 56) C gf_O_62 (by decide +kernel) rfl (by first | rfl | assumption) c47 ?_
              refine zz_callV (q := 59) C (m_S_isInTreeOf l) cv_O_86 (by decide +kernel) rfl rfl rfl (by first | rfl | assumption) (by decide) (by decide) (Nat.le_of_ble_eq_true rfl) ⟨_, _, rfl, hwf, ?_⟩
              refine zz_if_eq (off := 7) (tgt := 66) (q := 62) C (by decide +kernel) (by decide) rfl (fun c59 => ?_) (fun c59 => ?_)
              · refine zz_iinc (q := 69) (i := 3) (n := 1) C (by decide +kernel) rfl rfl (nI_succ _).symm (by decide) rfl ?_
                refine zz_goto (off := -65) (tgt := 4) C (by decide +kernel) (by decide) ?_
                -- AT 4
                first
                  | exact ih (i + 1) (by omega) (by omega) _ _ (or_next hall (fun z => c29 z.1)) (or_end_yes (fun t ht => absurd (ht.symm.trans c47) (Option.some_ne_none _)))
                  | exact ih (i + 1) (by omega) (by omega) _ _ (or_next hall (fun z => zz_b_f c38 z.2)) (or_end_yes (fun t ht => absurd (ht.symm.trans c47) (Option.some_ne_none _)))
                  | exact ih (i + 1) (by omega) (by omega) _ _ (or_next hall (fun z => c29 z.1)) (or_end_no hen (fun z => zz_b_f c59 (z _ c47)))
                  | exact ih (i + 1) (by omega) (by omega) _ _ (or_next hall (fun z => zz_b_f c38 z.2)) (or_end_no hen (fun z => zz_b_f c59 (z _ c47)))
                  | exact ih (i + 1) (by omega) (by omega) _ _ (or_next hall (fun z => c29 z.1)) (or_end_yes (fun t ht => (Option.some.inj (c47.symm.trans ht)) ▸ zz_b_t c59))
                  | exact ih (i + 1) (by omega) (by omega) _ _ (or_next hall (fun z => zz_b_f c38 z.2)) (or_end_yes (fun t ht => (Option.some.inj (c47.symm.trans ht)) ▸ zz_b_t c59))
              · refine zz_iload_n (q := 63) (f := 3) (i := 3) C (by decide +kernel) rfl rfl rfl ?_
                refine zz_iconst (q := 64) (n := 1) (x := 1) C (by decide +kernel) rfl (by decide +kernel) ?_
                refine zz_iadd (q := 65) C (by decide +kernel) rfl (nI_succ _).symm ?_
                refine zz_istore_n (q := 66) (f := 2) (i := 2) C (by decide +kernel) rfl rfl (by decide) rfl ?_
                refine zz_iinc (q := 69) (i := 3) (n := 1) C (by decide +kernel) rfl rfl (nI_succ _).symm (by decide) rfl ?_
                refine zz_goto (off := -65) (tgt := 4) C (by decide +kernel) (by decide) ?_
                -- AT 4
                first
                  | exact ih (i + 1) (by omega) (by omega) _ _ (or_next hall (fun z => c29 z.1)) (or_end_yes (fun t ht => absurd (ht.symm.trans c47) (Option.some_ne_none _)))
                  | exact ih (i + 1) (by omega) (by omega) _ _ (or_next hall (fun z => zz_b_f c38 z.2)) (or_end_yes (fun t ht => absurd (ht.symm.trans c47) (Option.some_ne_none _)))
                  | exact ih (i + 1) (by omega) (by omega) _ _ (or_next hall (fun z => c29 z.1)) (or_end_no hen (fun z => zz_b_f c59 (z _ c47)))
                  | exact ih (i + 1) (by omega) (by omega) _ _ (or_next hall (fun z => zz_b_f c38 z.2)) (or_end_no hen (fun z => zz_b_f c59 (z _ c47)))
                  | exact ih (i + 1) (by omega) (by omega) _ _ (or_next hall (fun z => c29 z.1)) (or_end_yes (fun t ht => (Option.some.inj (c47.symm.trans ht)) ▸ zz_b_t c59))
                  | exact ih (i + 1) (by omega) (by omega) _ _ (or_next hall (fun z => zz_b_f c38 z.2)) (or_end_yes (fun t ht => (Option.some.inj (c47.symm.trans ht)) ▸ zz_b_t c59))
          · refine zz_aload_n (q := 33) (f := 1) (i := 1) C (by decide +kernel) rfl rfl rfl ?_
            refine zz_aload (q := 35) (i := 4) C (by decide +kernel) rfl rfl ?_
            refine zz_callV (q := 38) C (m_S_entersBefore l) cv_O_83 (by decide +kernel) rfl rfl rfl (by first | rfl | assumption) (by decide) (by decide) (Nat.le_of_ble_eq_true rfl) ⟨_, _, rfl, hof, hos, hkf, ?_⟩
            refine zz_if_eq (off := 5) (tgt := 43) (q := 41) C (by decide +kernel) (by decide) rfl (fun c38 => ?_) (fun c38 => ?_)
            · refine zz_aload_n (q := 44) (f := 1) (i := 1) C (by decide +kernel) rfl rfl rfl ?_
              refine zz_getR (q := 47) C gf_O_62 (by decide +kernel) rfl (by first | rfl | assumption) rfl ?_
              refine zz_ifnull (off := 15) (tgt := 62) (q := 50) C (by decide +kernel) (by decide) rfl (fun c47 => ?_) (fun a47 c47 => ?_)
              · refine zz_iload_n (q := 63) (f := 3) (i := 3) C (by decide +kernel) rfl rfl rfl ?_
                refine zz_iconst (q := 64) (n := 1) (x := 1) C (by decide +kernel) rfl (by decide +kernel) ?_
                refine zz_iadd (q := 65) C (by decide +kernel) rfl (nI_succ _).symm ?_
                refine zz_istore_n (q := 66) (f := 2) (i := 2) C (by decide +kernel) rfl rfl (by decide) rfl ?_
                refine zz_iinc (q := 69) (i := 3) (n := 1) C (by decide +kernel) rfl rfl (nI_succ _).symm (by decide) rfl ?_
                refine zz_goto (off := -65) (tgt := 4) C (by decide +kernel) (by decide) ?_
                -- AT 4
                first
                  | exact ih (i + 1) (by omega) (by omega) _ _ (or_next hall (fun z => c29 z.1)) (or_end_yes (fun t ht => absurd (ht.symm.trans c47) (Option.some_ne_none _)))
                  | exact ih (i + 1) (by omega) (by omega) _ _ (or_next hall (fun z => zz_b_f c38 z.2)) (or_end_yes (fun t ht => absurd (ht.symm.trans c47) (Option.some_ne_none _)))
                  | exact ih (i + 1) (by omega) (by omega) _ _ (or_next hall (fun z => c29 z.1)) (or_end_no hen (fun z => zz_b_f c59 (z _ c47)))
                  | exact ih (i + 1) (by omega) (by omega) _ _ (or_next hall (fun z => zz_b_f c38 z.2)) (or_end_no hen (fun z => zz_b_f c59 (z _ c47)))
                  | exact ih (i + 1) (by omega) (by omega) _ _ (or_next hall (fun z => c29 z.1)) (or_end_yes (fun t ht => (Option.some.inj (c47.symm.trans ht)) ▸ zz_b_t c59))
                  | exact ih (i + 1) (by omega) (by omega) _ _ (or_next hall (fun z => zz_b_f c38 z.2)) (or_end_yes (fun t ht => (Option.some.inj (c47.symm.trans ht)) ▸ zz_b_t c59))
              · refine zz_aload (q := 52) (i := 4) C (by decide +kernel) rfl rfl ?_
                refine zz_aload_n (q := 53) (f := 1) (i := 1) C (by decide +kernel) rfl rfl rfl ?_
                refine zz_getR (q := 56) C gf_O_62 (by decide +kernel) rfl (by first | rfl | assumption) c47 ?_
                refine zz_callV (q := 59) C (m_S_isInTreeOf l) cv_O_86 (by decide +kernel) rfl rfl rfl (by first | rfl | assumption) (by decide) (by decide) (Nat.le_of_ble_eq_true rfl) ⟨_, _, rfl, hwf, ?_⟩
                refine zz_if_eq (off := 7) (tgt := 66) (q := 62) C (by decide +kernel) (by decide) rfl (fun c59 => ?_) (fun c59 => ?_)
                · refine zz_iinc (q := 69) (i := 3) (n := 1) C (by decide +kernel) rfl rfl (nI_succ _).symm (by decide) rfl ?_
                  refine zz_goto (off := -65) (tgt := 4) C (by decide +kernel) (by decide) ?_
                  -- AT 4
                  first
                    | exact ih (i + 1) (by omega) (by omega) _ _ (or_next hall (fun z => c29 z.1)) (or_end_yes (fun t ht => absurd (ht.symm.trans c47) (Option.some_ne_none _)))
                    | exact ih (i + 1) (by omega) (by omega) _ _ (or_next hall (fun z => zz_b_f c38 z.2)) (or_end_yes (fun t ht => absurd (ht.symm.trans c47) (Option.some_ne_none _)))
                    | exact ih (i + 1) (by omega) (by omega) _ _ (or_next hall (fun z => c29 z.1)) (or_end_no hen (fun z => zz_b_f c59 (z _ c47)))
                    | exact ih (i + 1) (by omega) (by omega) _ _ (or_next hall (fun z => zz_b_f c38 z.2)) (or_end_no hen (fun z => zz_b_f c59 (z _ c47)))
                    | exact ih (i + 1) (by omega) (by omega) _ _ (or_next hall (fun z => c29 z.1)) (or_end_yes (fun t ht => (Option.some.inj (c47.symm.trans ht)) ▸ zz_b_t c59))
                    | exact ih (i + 1) (by omega) (by omega) _ _ (or_next hall (fun z => zz_b_f c38 z.2)) (or_end_yes (fun t ht => (Option.some.inj (c47.symm.trans ht)) ▸ zz_b_t c59))
                · refine zz_iload_n (q := 63) (f := 3) (i := 3) C (by decide +kernel) rfl rfl rfl ?_
                  refine zz_iconst (q := 64) (n := 1) (x := 1) C (by decide +kernel) rfl (by decide +kernel) ?_
                  refine zz_iadd (q := 65) C (by decide +kernel) rfl (nI_succ _).symm ?_
                  refine zz_istore_n (q := 66) (f := 2) (i := 2) C (by decide +kernel) rfl rfl (by decide) rfl ?_
                  refine zz_iinc (q := 69) (i := 3) (n := 1) C (by decide +kernel) rfl rfl (nI_succ _).symm (by decide) rfl ?_
                  refine zz_goto (off := -65) (tgt := 4) C (by decide +kernel) (by decide) ?_
                  -- AT 4
                  first
                    | exact ih (i + 1) (by omega) (by omega) _ _ (or_next hall (fun z => c29 z.1)) (or_end_yes (fun t ht => absurd (ht.symm.trans c47) (Option.some_ne_none _)))
                    | exact ih (i + 1) (by omega) (by omega) _ _ (or_next hall (fun z => zz_b_f c38 z.2)) (or_end_yes (fun t ht => absurd (ht.symm.trans c47) (Option.some_ne_none _)))
                    | exact ih (i + 1) (by omega) (by omega) _ _ (or_next hall (fun z => c29 z.1)) (or_end_no hen (fun z => zz_b_f c59 (z _ c47)))
                    | exact ih (i + 1) (by omega) (by omega) _ _ (or_next hall (fun z => zz_b_f c38 z.2)) (or_end_no hen (fun z => zz_b_f c59 (z _ c47)))
                    | exact ih (i + 1) (by omega) (by omega) _ _ (or_next hall (fun z => c29 z.1)) (or_end_yes (fun t ht => (Option.some.inj (c47.symm.trans ht)) ▸ zz_b_t c59))
                    | exact ih (i + 1) (by omega) (by omega) _ _ (or_next hall (fun z => zz_b_f c38 z.2)) (or_end_yes (fun t ht => (Option.some.inj (c47.symm.trans ht)) ▸ zz_b_t c59))
            · refine zz_iload_n (q := 42) (f := 3) (i := 3) C (by decide +kernel) rfl rfl rfl ?_
              refine zz_iret C hr hlk (by decide +kernel) hQ (by decide) (by decide) ?_
              exact hp _ (Or.inl ⟨hi, ⟨c29, zz_b_t c38⟩, hall⟩)
    refine zz_iconst (q := 1) (n := 0) (x := 0) C (by decide +kernel) rfl (by decide +kernel) ?_
    refine zz_istore_n (q := 2) (f := 2) (i := 2) C (by decide +kernel) rfl rfl (by decide) rfl ?_
    refine zz_iconst (q := 3) (n := 0) (x := 0) C (by decide +kernel) rfl (by decide +kernel) ?_
    refine zz_istore_n (q := 4) (f := 3) (i := 3) C (by decide +kernel) rfl rfl (by decide) rfl ?_
    -- AT 4
    exact lp4 (or_s h a + 1) 0 (by omega) (by omega) none 0 (fun j _ hj => absurd hj (by omega)) ⟨by omega, Or.inl rfl, fun j h1 h2 => absurd h2 (by omega)⟩

def T_O_firstBehindTree : zz_Tr := fun as h post => ∃ a t, as = [zz_r 5 (some a), zz_r 2 (some t)] ∧ or_okN h a ∧ sg_wf h ∧ ∀ f r, f ≤ or_s h a → (∀ j, j < f → zz_aR h (or_n h a) j ≠ some t) → (f < or_s h a → zz_aR h (or_n h a) f = some t) → or_first (or_s h a) f (fun i => ¬ sg_at h (sg_lv h t) (or_N h a i) = some t) (or_N h a) r → post (some (zz_r 2 r)) h
set_option maxRecDepth 100000 in
set_option maxHeartbeats 4000000 in
theorem m_O_firstBehindTree (l : Launch) : zz_Met l y_O_firstBehindTree w_O_firstBehindTree { frames := 3, cells := 0, slots := 0, locals := 56 } T_O_firstBehindTree := by
  refine zz_ofZ (by decide) (fun as h post hT => ?_) ?_
  · obtain ⟨a, t, rfl, hok, hwf, hp⟩ := hT
    exact ⟨by simp [zz_cat], by simp⟩
  · intro D DA h as post hT p e s m args below meth c Q C hr hlk hnm hQ
    obtain ⟨a, t, rfl, hok, hwf, hp⟩ := hT
    have hb := hok.1.2.2.2.2.2.1
    have lp6 : ∀ f, f ≤ or_s h a → (∀ r, or_first (or_s h a) f (fun i => ¬ sg_at h (sg_lv h t) (or_N h a i) = some t) (or_N h a) r → post (some (zz_r 2 r)) h) → ∀ n i, or_s h a + 1 ≤ n + i → i ≤ or_s h a → f ≤ i → (∀ j, f ≤ j → j < i → ¬ ¬ sg_at h (sg_lv h t) (or_N h a j) = some t) → zz_Z p l e { frames := 3, cells := 0, slots := 0, locals := 56 } s m args below meth c Q D DA (zz_A h s.heap.size) h 3 6 [some (zz_r 5 (some a)), some (zz_r 2 (some t)), some (zz_i (nI i))] [] h 0 0 := by
      intro f hf hp9 n
      induction n with
      | zero =>
        intro i hni hi
        exact absurd hni (by omega)
      | succ n ih =>
        intro i hni hile hfi hall
        refine zz_iload_n (q := 7) (f := 2) (i := 2) C (by decide +kernel) rfl rfl rfl ?_
        refine zz_aload_n (q := 8) (f := 0) (i := 0) C (by decide +kernel) rfl rfl rfl ?_
        refine zz_getI (q := 11) C gf_O_35 (by decide +kernel) rfl (by first | rfl | assumption) hok.1.2.2.2.2.2.2 ?_
        refine zz_icmp_ge (off := 29) (tgt := 40) (q := 14) C (by decide +kernel) (by decide) rfl (fun c11 => ?_) (fun c11 => ?_)
        · refine zz_null (q := 41) C 2 (by decide +kernel) rfl ?_
          refine zz_aret C hr (Or.inl ⟨_, rfl⟩) hlk (by decide +kernel) hQ (by decide) (by decide) ?_
          have he : i = or_s h a := by
            have := ((nI_leI (a := or_s h a) (b := i) (by omega) (by omega)).mp c11)
            omega
          exact hp9 _ (Or.inl ⟨rfl, he ▸ hall⟩)
        · have hi : i < or_s h a := Nat.lt_of_not_le (fun z => c11 (nI_le z (by omega)))
          refine zz_aload_n (q := 15) (f := 0) (i := 0) C (by decide +kernel) rfl rfl rfl ?_
          refine zz_getR (q := 18) C gf_O_17 (by decide +kernel) rfl (by first | rfl | assumption) hok.1.2.1 ?_
          refine zz_iload_n (q := 19) (f := 2) (i := 2) C (by decide +kernel) rfl rfl rfl ?_
          refine zz_aaload (q := 20) C 4 rfl (by decide) (by decide +kernel) rfl rfl hok.1.2.2.2.1 rfl (by have := hok.1.2.2.2.2.2.1; omega) (by decide) (hok.2 i hi) ?_
          refine zz_aload_n (q := 21) (f := 1) (i := 1) C (by decide +kernel) rfl rfl rfl ?_
          refine zz_callV (q := 24) C (m_S_isInTreeOf l) cv_O_86 (by decide +kernel) rfl rfl rfl (by first | rfl | assumption) (by decide) (by decide) (Nat.le_of_ble_eq_true rfl) ⟨_, _, rfl, hwf, ?_⟩
          refine zz_if_ne (off := 10) (tgt := 34) (q := 27) C (by decide +kernel) (by decide) rfl (fun c24 => ?_) (fun c24 => ?_)
          · refine zz_iinc (q := 37) (i := 2) (n := 1) C (by decide +kernel) rfl rfl (nI_succ _).symm (by decide) rfl ?_
            refine zz_goto (off := -31) (tgt := 6) C (by decide +kernel) (by decide) ?_
            -- AT 6
            exact ih (i + 1) (by omega) (by omega) (by omega) (or_next hall (fun z => z (zz_b_t c24)))
          · refine zz_aload_n (q := 28) (f := 0) (i := 0) C (by decide +kernel) rfl rfl rfl ?_
            refine zz_getR (q := 31) C gf_O_17 (by decide +kernel) rfl (by first | rfl | assumption) hok.1.2.1 ?_
            refine zz_iload_n (q := 32) (f := 2) (i := 2) C (by decide +kernel) rfl rfl rfl ?_
            refine zz_aaload (q := 33) C 4 rfl (by decide) (by decide +kernel) rfl rfl hok.1.2.2.2.1 rfl (by have := hok.1.2.2.2.2.2.1; omega) (by decide) (hok.2 i hi) ?_
            refine zz_aret C hr (Or.inl ⟨_, rfl⟩) hlk (by decide +kernel) hQ (by decide) (by decide) ?_
            exact hp9 _ (Or.inr ⟨i, hfi, hi, zz_b_f c24, hall, rfl⟩)
    refine zz_aload_n (q := 1) (f := 0) (i := 0) C (by decide +kernel) rfl rfl rfl ?_
    refine zz_aload_n (q := 2) (f := 1) (i := 1) C (by decide +kernel) rfl rfl rfl ?_
    refine zz_callV (q := 5) C (m_O_indexOf l) cv_O_89 (by decide +kernel) rfl rfl rfl (by first | rfl | assumption) (by decide) (by decide) (Nat.le_of_ble_eq_true rfl) ⟨_, _, rfl, hok, fun f hf1 hf2 hf3 => ?_⟩
    refine zz_istore_n (q := 6) (f := 2) (i := 2) C (by decide +kernel) rfl rfl (by decide) rfl ?_
    -- AT 6
    exact lp6 f hf1 (fun r hr => hp f r hf1 hf2 hf3 hr) (or_s h a + 1) f (by omega) hf1 (Nat.le_refl _) (fun j h1 h2 => absurd h1 (by omega))

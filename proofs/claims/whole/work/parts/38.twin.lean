/-! Order: the twin of a new segment -/
def or_tw (h : zz_H) (a f i : Nat) : Prop := zz_fR h 1 7 (sg_k h f) ≠ none ∧ zz_fR h 2 1 (or_N h a i) = zz_fR h 1 7 (sg_k h f) ∧ zz_fR h 2 4 (or_N h a i) = none ∧ zz_fI h 1 4 (sg_k h (or_N h a i)) ≠ -1 ∧ zz_aI h (sg_w h (or_N h a i)) (kd_sq h (sg_k h (or_N h a i))) = zz_aI h (sg_w h f) (kd_sq h (sg_k h (or_N h a i)))
/-- of those among the first n for which P holds the one with the least number -/
def or_best (h : zz_H) (n : Nat) (P : Nat → Prop) (N : Nat → Nat) (r : Option Nat) : Prop := (r = none ∧ ∀ j, j < n → ¬ P j) ∨ ∃ i, i < n ∧ P i ∧ r = some (N i) ∧ ∀ j, j < n → P j → zz_fI h 2 0 (N i) ≤ zz_fI h 2 0 (N j)
theorem or_best_skip {h : zz_H} {n : Nat} {P : Nat → Prop} {N : Nat → Nat} {r : Option Nat} (hb : or_best h n P N r) (hn : ¬ P n) : or_best h (n + 1) P N r := by
  rcases hb with ⟨e, h1⟩ | ⟨i, h1, h2, e, h3⟩
  · refine Or.inl ⟨e, fun j hj => ?_⟩
    rcases Nat.lt_succ_iff_lt_or_eq.mp hj with hj | rfl
    · exact h1 j hj
    · exact hn
  · refine Or.inr ⟨i, by omega, h2, e, fun j hj hp => ?_⟩
    rcases Nat.lt_succ_iff_lt_or_eq.mp hj with hj | rfl
    · exact h3 j hj hp
    · exact absurd hp hn
theorem or_best_take0 {h : zz_H} {n : Nat} {P : Nat → Prop} {N : Nat → Nat} (hb : or_best h n P N none) (hn : P n) : or_best h (n + 1) P N (some (N n)) := by
  rcases hb with ⟨-, h1⟩ | ⟨i, h1, h2, e, h3⟩
  · refine Or.inr ⟨n, by omega, hn, rfl, fun j hj hp => ?_⟩
    rcases Nat.lt_succ_iff_lt_or_eq.mp hj with hj | rfl
    · exact absurd hp (h1 j hj)
    · exact Int32.le_refl _
  · cases e
theorem or_best_take1 {h : zz_H} {n b : Nat} {P : Nat → Prop} {N : Nat → Nat} (hb : or_best h n P N (some b)) (hn : P n) (hl : zz_fI h 2 0 (N n) < zz_fI h 2 0 b) : or_best h (n + 1) P N (some (N n)) := by
  rcases hb with ⟨e, -⟩ | ⟨i, h1, h2, e, h3⟩
  · cases e
  · cases e
    refine Or.inr ⟨n, by omega, hn, rfl, fun j hj hp => ?_⟩
    rcases Nat.lt_succ_iff_lt_or_eq.mp hj with hj | rfl
    · exact Int32.le_trans (Int32.le_of_lt hl) (h3 j hj hp)
    · exact Int32.le_refl _
theorem or_best_keep1 {h : zz_H} {n b : Nat} {P : Nat → Prop} {N : Nat → Nat} (hb : or_best h n P N (some b)) (hl : zz_fI h 2 0 b ≤ zz_fI h 2 0 (N n)) : or_best h (n + 1) P N (some b) := by
  rcases hb with ⟨e, -⟩ | ⟨i, h1, h2, e, h3⟩
  · cases e
  · cases e
    refine Or.inr ⟨i, by omega, h2, rfl, fun j hj hp => ?_⟩
    rcases Nat.lt_succ_iff_lt_or_eq.mp hj with hj | rfl
    · exact h3 j hj hp
    · exact hl
def T_O_freeTwinFor : zz_Tr := fun as h post => ∃ a f, as = [zz_r 5 (some a), zz_r 2 (some f)] ∧ or_okN h a ∧ sg_wf h ∧ kd_wf h ∧ ∀ r, or_best h (or_s h a) (or_tw h a f) (or_N h a) r → post (some (zz_r 2 r)) h
set_option maxRecDepth 100000 in
set_option maxHeartbeats 4000000 in
theorem m_O_freeTwinFor (l : Launch) : zz_Met l y_O_freeTwinFor w_O_freeTwinFor { frames := 3, cells := 0, slots := 0, locals := 53 } T_O_freeTwinFor := by
  refine zz_ofZ (by decide) (fun as h post hT => ?_) ?_
  · obtain ⟨a, f, rfl, hok, hwf, hkw, hp⟩ := hT
    exact ⟨by simp [zz_cat], by simp⟩
  · intro D DA h as post hT p e s m args below meth c Q C hr hlk hnm hQ
    obtain ⟨a, f, rfl, hok, hwf, hkw, hp⟩ := hT
    refine zz_know (fun hty _ hTL _ => ?_)
    obtain ⟨nf, htf⟩ := hTL 1 _ rfl f rfl
    have hof := hwf f nf htf
    have lp4 : ∀ n i, n + i = or_s h a → ∀ v9 best, or_best h i (or_tw h a f) (or_N h a) best → zz_Z p l e { frames := 3, cells := 0, slots := 0, locals := 53 } s m args below meth c Q D DA (zz_A h s.heap.size) h 5 4 [some (zz_r 5 (some a)), some (zz_r 2 (some f)), some (zz_r 2 best), some (zz_i (nI i)), v9] [] h 0 0 := by
      intro n
      induction n with
      | zero =>
        intro i hni v9 best hbest
        have hi : i = or_s h a := by omega
        subst hi
        have hb := hok.1.2.2.2.2.2.1
        refine zz_iload_n (q := 5) (f := 3) (i := 3) C (by decide +kernel) rfl rfl rfl ?_
        refine zz_aload_n (q := 6) (f := 0) (i := 0) C (by decide +kernel) rfl rfl rfl ?_
        refine zz_getI (q := 9) C gf_O_35 (by decide +kernel) rfl rfl hok.1.2.2.2.2.2.2 ?_
        refine zz_icmp_ge (off := 81) (tgt := 90) (q := 12) C (by decide +kernel) (by decide) rfl (fun c9 => ?_) (fun c9 => absurd (nI_le (Nat.le_refl _) (by omega)) c9)
        refine zz_aload_n (q := 91) (f := 2) (i := 2) C (by decide +kernel) rfl rfl rfl ?_
        exact zz_aret C hr (Or.inl ⟨_, rfl⟩) hlk (by decide +kernel) hQ (by decide) (by decide) (hp _ hbest)
      | succ n ih =>
        intro i hni v9 best hbest
        have hb := hok.1.2.2.2.2.2.1
        have hi : i < or_s h a := by omega
        obtain ⟨ns, hts⟩ := or_tag hty hok hi
        have hos := hwf _ ns hts
        obtain ⟨nk, htk⟩ := hty.1 _ 2 ns 1 1 hts (by decide) rfl _ hos.1
        have hks := hkw _ nk htk
        refine zz_iload_n (q := 5) (f := 3) (i := 3) C (by decide +kernel) rfl rfl rfl ?_
        refine zz_aload_n (q := 6) (f := 0) (i := 0) C (by decide +kernel) rfl rfl rfl ?_
        refine zz_getI (q := 9) C gf_O_35 (by decide +kernel) rfl (by first | rfl | assumption) hok.1.2.2.2.2.2.2 ?_
        refine zz_icmp_ge (off := 81) (tgt := 90) (q := 12) C (by decide +kernel) (by decide) rfl (fun c9 => ?_) (fun c9 => ?_)
        · refine zz_aload_n (q := 91) (f := 2) (i := 2) C (by decide +kernel) rfl rfl rfl ?_
          refine zz_aret C hr (Or.inl ⟨_, rfl⟩) hlk (by decide +kernel) hQ (by decide) (by decide) ?_
          first | exact absurd c9 (nI_ge hi (by omega)) | exact hp _ (Or.inl (by
            rcases hbest with ⟨e1, -⟩ | ⟨j, -, h2, -, -⟩
            · exact ⟨e1, fun j _ z => z.1 c19⟩
            · exact absurd c19 h2.1))
        · refine zz_aload_n (q := 13) (f := 1) (i := 1) C (by decide +kernel) rfl rfl rfl ?_
          refine zz_getR (q := 16) C gf_O_50 (by decide +kernel) rfl (by first | rfl | assumption) hof.1 ?_
          refine zz_getR (q := 19) C gf_O_70 (by decide +kernel) rfl (by first | rfl | assumption) rfl ?_
          refine zz_ifnull (off := 71) (tgt := 90) (q := 22) C (by decide +kernel) (by decide) rfl (fun c19 => ?_) (fun a19 c19 => ?_)
          · refine zz_aload_n (q := 91) (f := 2) (i := 2) C (by decide +kernel) rfl rfl rfl ?_
            refine zz_aret C hr (Or.inl ⟨_, rfl⟩) hlk (by decide +kernel) hQ (by decide) (by decide) ?_
            first | exact absurd c9 (nI_ge hi (by omega)) | exact hp _ (Or.inl (by
              rcases hbest with ⟨e1, -⟩ | ⟨j, -, h2, -, -⟩
              · exact ⟨e1, fun j _ z => z.1 c19⟩
              · exact absurd c19 h2.1))
          · refine zz_aload_n (q := 23) (f := 0) (i := 0) C (by decide +kernel) rfl rfl rfl ?_
            refine zz_getR (q := 26) C gf_O_17 (by decide +kernel) rfl (by first | rfl | assumption) hok.1.2.1 ?_
            refine zz_iload_n (q := 27) (f := 3) (i := 3) C (by decide +kernel) rfl rfl rfl ?_
            refine zz_aaload (q := 28) C 4 rfl (by decide) (by decide +kernel) rfl rfl hok.1.2.2.2.1 rfl (by have := hok.1.2.2.2.2.2.1; omega) (by decide) (hok.2 i hi) ?_
            refine zz_astore (q := 30) (i := 4) C (by decide +kernel) rfl (by decide) rfl ?_
            refine zz_aload (q := 32) (i := 4) C (by decide +kernel) rfl rfl ?_
            refine zz_getR (q := 35) C gf_O_50 (by decide +kernel) rfl (by first | rfl | assumption) rfl ?_
            refine zz_aload_n (q := 36) (f := 1) (i := 1) C (by decide +kernel) rfl rfl rfl ?_
            refine zz_getR (q := 39) C gf_O_50 (by decide +kernel) rfl (by first | rfl | assumption) hof.1 ?_
            refine zz_getR (q := 42) C gf_O_70 (by decide +kernel) rfl (by first | rfl | assumption) rfl ?_
            refine zz_acmp_ne (off := 42) (tgt := 84) (q := 45) C (by decide +kernel) (by decide) rfl (fun c42 => ?_) (fun c42 => ?_)
            · refine zz_iinc (q := 87) (i := 3) (n := 1) C (by decide +kernel) rfl rfl (nI_succ _).symm (by decide) rfl ?_
              refine zz_goto (off := -83) (tgt := 4) C (by decide +kernel) (by decide) ?_
              -- AT 4
              have htw : zz_fR h 1 7 (sg_k h f) ≠ none := by rw [c19]; exact fun z => by cases z
              first
                | exact ih (i + 1) (by omega) _ _ (or_best_skip hbest (fun z => zz_b_f c62 z.2.2.2))
                | exact ih (i + 1) (by omega) _ _ (or_best_skip hbest (fun z => Option.some_ne_none a50 (c50.symm.trans z.2.2.1)))
                | exact ih (i + 1) (by omega) _ _ (or_best_skip hbest (fun z => c42 z.2.1))
                | exact ih (i + 1) (by omega) _ _ (or_best_take1 (c66 ▸ hbest) ⟨htw, c42, c50, zz_b_t c62⟩ (Int32.not_le.mp c78))
                | exact ih (i + 1) (by omega) _ _ (c66 ▸ or_best_keep1 (c66 ▸ hbest) c78)
                | exact ih (i + 1) (by omega) _ _ (or_best_take0 (c66 ▸ hbest) ⟨htw, c42, c50, zz_b_t c62⟩)
            · refine zz_aload (q := 47) (i := 4) C (by decide +kernel) rfl rfl ?_
              refine zz_getR (q := 50) C gf_O_73 (by decide +kernel) rfl (by first | rfl | assumption) rfl ?_
              refine zz_ifnonnull (off := 34) (tgt := 84) (q := 53) C (by decide +kernel) (by decide) rfl (fun a50 c50 => ?_) (fun c50 => ?_)
              · refine zz_iinc (q := 87) (i := 3) (n := 1) C (by decide +kernel) rfl rfl (nI_succ _).symm (by decide) rfl ?_
                refine zz_goto (off := -83) (tgt := 4) C (by decide +kernel) (by decide) ?_
                -- AT 4
                have htw : zz_fR h 1 7 (sg_k h f) ≠ none := by rw [c19]; exact fun z => by cases z
                first
                  | exact ih (i + 1) (by omega) _ _ (or_best_skip hbest (fun z => zz_b_f c62 z.2.2.2))
                  | exact ih (i + 1) (by omega) _ _ (or_best_skip hbest (fun z => Option.some_ne_none a50 (c50.symm.trans z.2.2.1)))
                  | exact ih (i + 1) (by omega) _ _ (or_best_skip hbest (fun z => c42 z.2.1))
                  | exact ih (i + 1) (by omega) _ _ (or_best_take1 (c66 ▸ hbest) ⟨htw, c42, c50, zz_b_t c62⟩ (Int32.not_le.mp c78))
                  | exact ih (i + 1) (by omega) _ _ (c66 ▸ or_best_keep1 (c66 ▸ hbest) c78)
                  | exact ih (i + 1) (by omega) _ _ (or_best_take0 (c66 ▸ hbest) ⟨htw, c42, c50, zz_b_t c62⟩)
              · refine zz_aload (q := 55) (i := 4) C (by decide +kernel) rfl rfl ?_
                refine zz_aload_n (q := 56) (f := 1) (i := 1) C (by decide +kernel) rfl rfl rfl ?_
                refine zz_getR (q := 59) C gf_O_75 (by decide +kernel) rfl (by first | rfl | assumption) hof.2.1 ?_
                refine zz_callV (q := 62) C (m_S_hasSequenceOf l) cv_O_66 (by decide +kernel) rfl rfl rfl (by first | rfl | assumption) (by decide) (by decide) (Nat.le_of_ble_eq_true rfl) ⟨_, _, rfl, hos, hks, hof.2.2.1, ?_⟩
                refine zz_if_eq (off := 22) (tgt := 84) (q := 65) C (by decide +kernel) (by decide) rfl (fun c62 => ?_) (fun c62 => ?_)
                · refine zz_iinc (q := 87) (i := 3) (n := 1) C (by decide +kernel) rfl rfl (nI_succ _).symm (by decide) rfl ?_
                  refine zz_goto (off := -83) (tgt := 4) C (by decide +kernel) (by decide) ?_
                  -- AT 4
                  have htw : zz_fR h 1 7 (sg_k h f) ≠ none := by rw [c19]; exact fun z => by cases z
                  first
                    | exact ih (i + 1) (by omega) _ _ (or_best_skip hbest (fun z => zz_b_f c62 z.2.2.2))
                    | exact ih (i + 1) (by omega) _ _ (or_best_skip hbest (fun z => Option.some_ne_none a50 (c50.symm.trans z.2.2.1)))
                    | exact ih (i + 1) (by omega) _ _ (or_best_skip hbest (fun z => c42 z.2.1))
                    | exact ih (i + 1) (by omega) _ _ (or_best_take1 (c66 ▸ hbest) ⟨htw, c42, c50, zz_b_t c62⟩ (Int32.not_le.mp c78))
                    | exact ih (i + 1) (by omega) _ _ (c66 ▸ or_best_keep1 (c66 ▸ hbest) c78)
                    | exact ih (i + 1) (by omega) _ _ (or_best_take0 (c66 ▸ hbest) ⟨htw, c42, c50, zz_b_t c62⟩)
                · refine zz_aload_n (q := 66) (f := 2) (i := 2) C (by decide +kernel) rfl rfl rfl ?_
                  refine zz_ifnull (off := 15) (tgt := 81) (q := 69) C (by decide +kernel) (by decide) rfl (fun c66 => ?_) (fun a66 c66 => ?_)
                  · refine zz_aload (q := 83) (i := 4) C (by decide +kernel) rfl rfl ?_
                    refine zz_astore_n (q := 84) (f := 2) (i := 2) C (by decide +kernel) rfl rfl (by decide) rfl ?_
                    refine zz_iinc (q := 87) (i := 3) (n := 1) C (by decide +kernel) rfl rfl (nI_succ _).symm (by decide) rfl ?_
                    refine zz_goto (off := -83) (tgt := 4) C (by decide +kernel) (by decide) ?_
                    -- AT 4
                    have htw : zz_fR h 1 7 (sg_k h f) ≠ none := by rw [c19]; exact fun z => by cases z
                    first
                      | exact ih (i + 1) (by omega) _ _ (or_best_skip hbest (fun z => zz_b_f c62 z.2.2.2))
                      | exact ih (i + 1) (by omega) _ _ (or_best_skip hbest (fun z => Option.some_ne_none a50 (c50.symm.trans z.2.2.1)))
                      | exact ih (i + 1) (by omega) _ _ (or_best_skip hbest (fun z => c42 z.2.1))
                      | exact ih (i + 1) (by omega) _ _ (or_best_take1 (c66 ▸ hbest) ⟨htw, c42, c50, zz_b_t c62⟩ (Int32.not_le.mp c78))
                      | exact ih (i + 1) (by omega) _ _ (c66 ▸ or_best_keep1 (c66 ▸ hbest) c78)
                      | exact ih (i + 1) (by omega) _ _ (or_best_take0 (c66 ▸ hbest) ⟨htw, c42, c50, zz_b_t c62⟩)
                  · refine zz_aload (q := 71) (i := 4) C (by decide +kernel) rfl rfl ?_
                    refine zz_getI (q := 74) C gf_O_38 (by decide +kernel) rfl (by first | rfl | assumption) rfl ?_
                    refine zz_aload_n (q := 75) (f := 2) (i := 2) C (by decide +kernel) rfl rfl rfl ?_
                    refine zz_getI (q := 78) C gf_O_38 (by decide +kernel) rfl (by first | rfl | assumption) rfl ?_
                    refine zz_icmp_ge (off := 6) (tgt := 84) (q := 81) C (by decide +kernel) (by decide) rfl (fun c78 => ?_) (fun c78 => ?_)
                    · refine zz_iinc (q := 87) (i := 3) (n := 1) C (by decide +kernel) rfl rfl (nI_succ _).symm (by decide) rfl ?_
                      refine zz_goto (off := -83) (tgt := 4) C (by decide +kernel) (by decide) ?_
                      -- AT 4
                      have htw : zz_fR h 1 7 (sg_k h f) ≠ none := by rw [c19]; exact fun z => by cases z
                      first
                        | exact ih (i + 1) (by omega) _ _ (or_best_skip hbest (fun z => zz_b_f c62 z.2.2.2))
                        | exact ih (i + 1) (by omega) _ _ (or_best_skip hbest (fun z => Option.some_ne_none a50 (c50.symm.trans z.2.2.1)))
                        | exact ih (i + 1) (by omega) _ _ (or_best_skip hbest (fun z => c42 z.2.1))
                        | exact ih (i + 1) (by omega) _ _ (or_best_take1 (c66 ▸ hbest) ⟨htw, c42, c50, zz_b_t c62⟩ (Int32.not_le.mp c78))
                        | exact ih (i + 1) (by omega) _ _ (c66 ▸ or_best_keep1 (c66 ▸ hbest) c78)
                        | exact ih (i + 1) (by omega) _ _ (or_best_take0 (c66 ▸ hbest) ⟨htw, c42, c50, zz_b_t c62⟩)
                    · refine zz_aload (q := 83) (i := 4) C (by decide +kernel) rfl rfl ?_
                      refine zz_astore_n (q := 84) (f := 2) (i := 2) C (by decide +kernel) rfl rfl (by decide) rfl ?_
                      refine zz_iinc (q := 87) (i := 3) (n := 1) C (by decide +kernel) rfl rfl (nI_succ _).symm (by decide) rfl ?_
                      refine zz_goto (off := -83) (tgt := 4) C (by decide +kernel) (by decide) ?_
                      -- AT 4
                      have htw : zz_fR h 1 7 (sg_k h f) ≠ none := by rw [c19]; exact fun z => by cases z
                      first
                        | exact ih (i + 1) (by omega) _ _ (or_best_skip hbest (fun z => zz_b_f c62 z.2.2.2))
                        | exact ih (i + 1) (by omega) _ _ (or_best_skip hbest (fun z => Option.some_ne_none a50 (c50.symm.trans z.2.2.1)))
                        | exact ih (i + 1) (by omega) _ _ (or_best_skip hbest (fun z => c42 z.2.1))
                        | exact ih (i + 1) (by omega) _ _ (or_best_take1 (c66 ▸ hbest) ⟨htw, c42, c50, zz_b_t c62⟩ (Int32.not_le.mp c78))
                        | exact ih (i + 1) (by omega) _ _ (c66 ▸ or_best_keep1 (c66 ▸ hbest) c78)
                        | exact ih (i + 1) (by omega) _ _ (or_best_take0 (c66 ▸ hbest) ⟨htw, c42, c50, zz_b_t c62⟩)
    refine zz_null (q := 1) C 2 (by decide +kernel) rfl ?_
    refine zz_astore_n (q := 2) (f := 2) (i := 2) C (by decide +kernel) rfl rfl (by decide) rfl ?_
    refine zz_iconst (q := 3) (n := 0) (x := 0) C (by decide +kernel) rfl (by decide +kernel) ?_
    refine zz_istore_n (q := 4) (f := 3) (i := 3) C (by decide +kernel) rfl rfl (by decide) rfl ?_
    -- AT 4
    exact lp4 (or_s h a) 0 rfl none none (Or.inl ⟨rfl, fun j hj => absurd hj (by omega)⟩)

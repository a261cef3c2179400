/-! Order: the next root by the second order -/
def or_lP (h : zz_H) (a k : Nat) (pv : Option Nat) (i : Nat) : Prop := zz_fR h 2 1 (or_B h a i) = some k ∧ ∀ q, pv = some q → sg_cb h q (or_B h a i)
/-- the least of the first n, as the loop finds it; the size while there is none -/
noncomputable def or_lr (h : zz_H) (a k : Nat) (pv : Option Nat) : Nat → Nat
  | 0 => or_s h a
  | n + 1 => @ite Nat (or_lP h a k pv n ∧ (or_lr h a k pv n = or_s h a ∨ sg_cb h (or_B h a n) (or_B h a (or_lr h a k pv n)))) (Classical.propDecidable _) n (or_lr h a k pv n)
theorem or_lr_le (h : zz_H) (a k : Nat) (pv : Option Nat) : ∀ n, n ≤ or_s h a → or_lr h a k pv n = or_s h a ∨ or_lr h a k pv n < n
  | 0, _ => Or.inl rfl
  | n + 1, hn => by
    rw [or_lr]
    split
    · right; omega
    · rcases or_lr_le h a k pv n (by omega) with h1 | h1
      · exact Or.inl h1
      · right; omega
theorem or_lr_y {h : zz_H} {a k n : Nat} {pv : Option Nat} (hy : or_lP h a k pv n ∧ (or_lr h a k pv n = or_s h a ∨ sg_cb h (or_B h a n) (or_B h a (or_lr h a k pv n)))) : n = or_lr h a k pv (n + 1) := by rw [or_lr, if_pos hy]
theorem or_lr_n {h : zz_H} {a k n : Nat} {pv : Option Nat} (hy : ¬ (or_lP h a k pv n ∧ (or_lr h a k pv n = or_s h a ∨ sg_cb h (or_B h a n) (or_B h a (or_lr h a k pv n))))) : or_lr h a k pv n = or_lr h a k pv (n + 1) := by rw [or_lr, if_neg hy]
theorem nI_eqI9 {a b : Nat} (ha : a < 2 ^ 31) (hb : b < 2 ^ 31) : nI a = nI b → a = b := fun h => by
  have h1 := congrArg Int32.toNatClampNeg h
  rwa [nI_clamp ha, nI_clamp hb] at h1
def T_O_leastRootAfter : zz_Tr := fun as h post => ∃ a k pv, as = [zz_r 5 (some a), zz_r 1 (some k), zz_r 2 pv] ∧ or_okB h a ∧ sg_wf h ∧ post (some (zz_i (nI (or_lr h a k pv (or_s h a))))) h
set_option maxRecDepth 100000 in
set_option maxHeartbeats 4000000 in
theorem m_O_leastRootAfter (l : Launch) : zz_Met l y_O_leastRootAfter w_O_leastRootAfter { frames := 2, cells := 0, slots := 0, locals := 33 } T_O_leastRootAfter := by
  refine zz_ofZ (by decide) (fun as h post hT => ?_) ?_
  · obtain ⟨a, k, pv, rfl, hok, hwf, hp⟩ := hT
    exact ⟨by simp [zz_cat], by simp⟩
  · intro D DA h as post hT p e s m args below meth c Q C hr hlk hnm hQ
    obtain ⟨a, k, pv, rfl, hok, hwf, hp⟩ := hT
    refine zz_know (fun hty _ hTL _ => ?_)
    have hb := hok.1.2.2.2.2.2.1
    have hpv : ∀ q, pv = some q → (zz_fI h 2 5 q = 0 ∨ zz_fI h 2 5 q = 1) := fun q hq => by
      obtain ⟨nf, htf⟩ := hTL 2 _ rfl q hq
      exact (hwf q nf htf).2.2.2
    have lp8 : ∀ n i, or_s h a + 1 ≤ n + i → i ≤ or_s h a → ∀ v9 ls, ls = or_lr h a k pv i → zz_Z p l e { frames := 2, cells := 0, slots := 0, locals := 33 } s m args below meth c Q D DA (zz_A h s.heap.size) h 6 8 [some (zz_r 5 (some a)), some (zz_r 1 (some k)), some (zz_r 2 pv), some (zz_i (nI ls)), some (zz_i (nI i)), v9] [] h 0 0 := by
      intro n
      induction n with
      | zero =>
        intro i hni hi
        exact absurd hni (by omega)
      | succ n ih =>
        intro i hni hile v9 ls hls
        have hl := or_lr_le h a k pv i hile
        rw [← hls] at hl
        refine zz_iload (q := 10) (i := 4) C (by decide +kernel) rfl rfl ?_
        refine zz_aload_n (q := 11) (f := 0) (i := 0) C (by decide +kernel) rfl rfl rfl ?_
        refine zz_getI (q := 14) C gf_O_35 (by decide +kernel) rfl (by first | rfl | assumption) hok.1.2.2.2.2.2.2 ?_
        refine zz_icmp_ge (off := 65) (tgt := 79) (q := 17) C (by decide +kernel) (by decide) rfl (fun c14 => ?_) (fun c14 => ?_)
        · refine zz_iload_n (q := 80) (f := 3) (i := 3) C (by decide +kernel) rfl rfl rfl ?_
          refine zz_iret C hr hlk (by decide +kernel) hQ (by decide) (by decide) ?_
          have he : i = or_s h a := by
            have := ((nI_leI (a := or_s h a) (b := i) (by omega) (by omega)).mp c14)
            omega
          rw [← he, ← hls] at hp
          exact hp
        · have hi : i < or_s h a := Nat.lt_of_not_le (fun z => c14 (nI_le z (by omega)))
          obtain ⟨ns, hts⟩ := or_tagB hty hok hi
          have hos := hwf _ ns hts
          refine zz_aload_n (q := 18) (f := 0) (i := 0) C (by decide +kernel) rfl rfl rfl ?_
          refine zz_getR (q := 21) C gf_O_11 (by decide +kernel) rfl (by first | rfl | assumption) hok.1.1 ?_
          refine zz_iload (q := 23) (i := 4) C (by decide +kernel) rfl rfl ?_
          refine zz_aaload (q := 24) C 4 rfl (by decide) (by decide +kernel) rfl rfl hok.1.2.2.1 rfl (by have := hok.1.2.2.2.2.2.1; omega) (by decide) (hok.2 i hi) ?_
          refine zz_astore (q := 26) (i := 5) C (by decide +kernel) rfl (by decide) rfl ?_
          refine zz_aload (q := 28) (i := 5) C (by decide +kernel) rfl rfl ?_
          refine zz_getR (q := 31) C gf_O_50 (by decide +kernel) rfl (by first | rfl | assumption) rfl ?_
          refine zz_aload_n (q := 32) (f := 1) (i := 1) C (by decide +kernel) rfl rfl rfl ?_
          refine zz_acmp_ne (off := 41) (tgt := 73) (q := 35) C (by decide +kernel) (by decide) rfl (fun c32 => ?_) (fun c32 => ?_)
          · refine zz_iinc (q := 76) (i := 4) (n := 1) C (by decide +kernel) rfl rfl (nI_succ _).symm (by decide) rfl ?_
            refine zz_goto (off := -68) (tgt := 8) C (by decide +kernel) (by decide) ?_
            -- AT 8
            first
              | exact ih (i + 1) (by omega) (by omega) _ _ (hls.trans (or_lr_n (hls ▸ fun z => c32 z.1.1)))
              | exact ih (i + 1) (by omega) (by omega) _ _ (hls.trans (or_lr_n (hls ▸ fun z => zz_b_f c45 (z.1.2 _ c36))))
              | exact ih (i + 1) (by omega) (by omega) _ _ (hls.trans (or_lr_n (hls ▸ fun z => (z.2.elim hne (fun w => zz_b_f c67 w)))))
              | exact ih (i + 1) (by omega) (by omega) _ _ (or_lr_y (hls ▸ ⟨⟨c32, fun q hq => absurd (hq.symm.trans c36) (Option.some_ne_none _)⟩, Or.inr (zz_b_t c67)⟩))
              | exact ih (i + 1) (by omega) (by omega) _ _ (or_lr_y (hls ▸ ⟨⟨c32, fun q hq => (Option.some.inj (c36.symm.trans hq)) ▸ zz_b_t c45⟩, Or.inr (zz_b_t c67)⟩))
              | exact ih (i + 1) (by omega) (by omega) _ _ (or_lr_y (hls ▸ ⟨⟨c32, fun q hq => absurd (hq.symm.trans c36) (Option.some_ne_none _)⟩, Or.inl (nI_eqI9 (by omega) (by omega) c53)⟩))
              | exact ih (i + 1) (by omega) (by omega) _ _ (or_lr_y (hls ▸ ⟨⟨c32, fun q hq => (Option.some.inj (c36.symm.trans hq)) ▸ zz_b_t c45⟩, Or.inl (nI_eqI9 (by omega) (by omega) c53)⟩))
          · refine zz_aload_n (q := 36) (f := 2) (i := 2) C (by decide +kernel) rfl rfl rfl ?_
            refine zz_ifnull (off := 12) (tgt := 48) (q := 39) C (by decide +kernel) (by decide) rfl (fun c36 => ?_) (fun a36 c36 => ?_)
            · refine zz_iload_n (q := 49) (f := 3) (i := 3) C (by decide +kernel) rfl rfl rfl ?_
              refine zz_aload_n (q := 50) (f := 0) (i := 0) C (by decide +kernel) rfl rfl rfl ?_
              refine zz_getI (q := 53) C gf_O_35 (by decide +kernel) rfl (by first | rfl | assumption) hok.1.2.2.2.2.2.2 ?_
              refine zz_icmp_eq (off := 17) (tgt := 70) (q := 56) C (by decide +kernel) (by decide) rfl (fun c53 => ?_) (fun c53 => ?_)
              · refine zz_iload (q := 72) (i := 4) C (by decide +kernel) rfl rfl ?_
                refine zz_istore_n (q := 73) (f := 3) (i := 3) C (by decide +kernel) rfl rfl (by decide) rfl ?_
                refine zz_iinc (q := 76) (i := 4) (n := 1) C (by decide +kernel) rfl rfl (nI_succ _).symm (by decide) rfl ?_
                refine zz_goto (off := -68) (tgt := 8) C (by decide +kernel) (by decide) ?_
                -- AT 8
                first
                  | exact ih (i + 1) (by omega) (by omega) _ _ (hls.trans (or_lr_n (hls ▸ fun z => c32 z.1.1)))
                  | exact ih (i + 1) (by omega) (by omega) _ _ (hls.trans (or_lr_n (hls ▸ fun z => zz_b_f c45 (z.1.2 _ c36))))
                  | exact ih (i + 1) (by omega) (by omega) _ _ (hls.trans (or_lr_n (hls ▸ fun z => (z.2.elim hne (fun w => zz_b_f c67 w)))))
                  | exact ih (i + 1) (by omega) (by omega) _ _ (or_lr_y (hls ▸ ⟨⟨c32, fun q hq => absurd (hq.symm.trans c36) (Option.some_ne_none _)⟩, Or.inr (zz_b_t c67)⟩))
                  | exact ih (i + 1) (by omega) (by omega) _ _ (or_lr_y (hls ▸ ⟨⟨c32, fun q hq => (Option.some.inj (c36.symm.trans hq)) ▸ zz_b_t c45⟩, Or.inr (zz_b_t c67)⟩))
                  | exact ih (i + 1) (by omega) (by omega) _ _ (or_lr_y (hls ▸ ⟨⟨c32, fun q hq => absurd (hq.symm.trans c36) (Option.some_ne_none _)⟩, Or.inl (nI_eqI9 (by omega) (by omega) c53)⟩))
                  | exact ih (i + 1) (by omega) (by omega) _ _ (or_lr_y (hls ▸ ⟨⟨c32, fun q hq => (Option.some.inj (c36.symm.trans hq)) ▸ zz_b_t c45⟩, Or.inl (nI_eqI9 (by omega) (by omega) c53)⟩))
              · have hne : ls ≠ or_s h a := fun z => c53 (by rw [z])
                have hls9 : ls < or_s h a := by omega
                refine zz_aload (q := 58) (i := 5) C (by decide +kernel) rfl rfl ?_
                refine zz_aload_n (q := 59) (f := 0) (i := 0) C (by decide +kernel) rfl rfl rfl ?_
                refine zz_getR (q := 62) C gf_O_11 (by decide +kernel) rfl (by first | rfl | assumption) hok.1.1 ?_
                refine zz_iload_n (q := 63) (f := 3) (i := 3) C (by decide +kernel) rfl rfl rfl ?_
                refine zz_aaload (q := 64) C 4 rfl (by decide) (by decide +kernel) rfl rfl hok.1.2.2.1 rfl (by have := hok.1.2.2.2.2.2.1; omega) (by decide) (hok.2 ls hls9) ?_
                refine zz_callV (q := 67) C (m_S_comesBeforeBySecond l) cv_O_128 (by decide +kernel) rfl rfl rfl (by first | rfl | assumption) (by decide) (by decide) (Nat.le_of_ble_eq_true rfl) ⟨_, _, rfl, hos.2.2.2, ?_⟩
                refine zz_if_eq (off := 6) (tgt := 73) (q := 70) C (by decide +kernel) (by decide) rfl (fun c67 => ?_) (fun c67 => ?_)
                · refine zz_iinc (q := 76) (i := 4) (n := 1) C (by decide +kernel) rfl rfl (nI_succ _).symm (by decide) rfl ?_
                  refine zz_goto (off := -68) (tgt := 8) C (by decide +kernel) (by decide) ?_
                  -- AT 8
                  first
                    | exact ih (i + 1) (by omega) (by omega) _ _ (hls.trans (or_lr_n (hls ▸ fun z => c32 z.1.1)))
                    | exact ih (i + 1) (by omega) (by omega) _ _ (hls.trans (or_lr_n (hls ▸ fun z => zz_b_f c45 (z.1.2 _ c36))))
                    | exact ih (i + 1) (by omega) (by omega) _ _ (hls.trans (or_lr_n (hls ▸ fun z => (z.2.elim hne (fun w => zz_b_f c67 w)))))
                    | exact ih (i + 1) (by omega) (by omega) _ _ (or_lr_y (hls ▸ ⟨⟨c32, fun q hq => absurd (hq.symm.trans c36) (Option.some_ne_none _)⟩, Or.inr (zz_b_t c67)⟩))
                    | exact ih (i + 1) (by omega) (by omega) _ _ (or_lr_y (hls ▸ ⟨⟨c32, fun q hq => (Option.some.inj (c36.symm.trans hq)) ▸ zz_b_t c45⟩, Or.inr (zz_b_t c67)⟩))
                    | exact ih (i + 1) (by omega) (by omega) _ _ (or_lr_y (hls ▸ ⟨⟨c32, fun q hq => absurd (hq.symm.trans c36) (Option.some_ne_none _)⟩, Or.inl (nI_eqI9 (by omega) (by omega) c53)⟩))
                    | exact ih (i + 1) (by omega) (by omega) _ _ (or_lr_y (hls ▸ ⟨⟨c32, fun q hq => (Option.some.inj (c36.symm.trans hq)) ▸ zz_b_t c45⟩, Or.inl (nI_eqI9 (by omega) (by omega) c53)⟩))
                · refine zz_iload (q := 72) (i := 4) C (by decide +kernel) rfl rfl ?_
                  refine zz_istore_n (q := 73) (f := 3) (i := 3) C (by decide +kernel) rfl rfl (by decide) rfl ?_
                  refine zz_iinc (q := 76) (i := 4) (n := 1) C (by decide +kernel) rfl rfl (nI_succ _).symm (by decide) rfl ?_
                  refine zz_goto (off := -68) (tgt := 8) C (by decide +kernel) (by decide) ?_
                  -- AT 8
                  first
                    | exact ih (i + 1) (by omega) (by omega) _ _ (hls.trans (or_lr_n (hls ▸ fun z => c32 z.1.1)))
                    | exact ih (i + 1) (by omega) (by omega) _ _ (hls.trans (or_lr_n (hls ▸ fun z => zz_b_f c45 (z.1.2 _ c36))))
                    | exact ih (i + 1) (by omega) (by omega) _ _ (hls.trans (or_lr_n (hls ▸ fun z => (z.2.elim hne (fun w => zz_b_f c67 w)))))
                    | exact ih (i + 1) (by omega) (by omega) _ _ (or_lr_y (hls ▸ ⟨⟨c32, fun q hq => absurd (hq.symm.trans c36) (Option.some_ne_none _)⟩, Or.inr (zz_b_t c67)⟩))
                    | exact ih (i + 1) (by omega) (by omega) _ _ (or_lr_y (hls ▸ ⟨⟨c32, fun q hq => (Option.some.inj (c36.symm.trans hq)) ▸ zz_b_t c45⟩, Or.inr (zz_b_t c67)⟩))
                    | exact ih (i + 1) (by omega) (by omega) _ _ (or_lr_y (hls ▸ ⟨⟨c32, fun q hq => absurd (hq.symm.trans c36) (Option.some_ne_none _)⟩, Or.inl (nI_eqI9 (by omega) (by omega) c53)⟩))
                    | exact ih (i + 1) (by omega) (by omega) _ _ (or_lr_y (hls ▸ ⟨⟨c32, fun q hq => (Option.some.inj (c36.symm.trans hq)) ▸ zz_b_t c45⟩, Or.inl (nI_eqI9 (by omega) (by omega) c53)⟩))
            · refine zz_aload_n (q := 40) (f := 2) (i := 2) C (by decide +kernel) rfl rfl rfl ?_
              refine zz_aload (q := 42) (i := 5) C (by decide +kernel) rfl rfl ?_
              refine zz_callV (q := 45) C (m_S_comesBeforeBySecond l) cv_O_128 (by decide +kernel) rfl rfl rfl (by first | rfl | assumption) (by decide) (by decide) (Nat.le_of_ble_eq_true rfl) ⟨_, _, rfl, hpv _ c36, ?_⟩
              refine zz_if_eq (off := 28) (tgt := 73) (q := 48) C (by decide +kernel) (by decide) rfl (fun c45 => ?_) (fun c45 => ?_)
              · refine zz_iinc (q := 76) (i := 4) (n := 1) C (by decide +kernel) rfl rfl (nI_succ _).symm (by decide) rfl ?_
                refine zz_goto (off := -68) (tgt := 8) C (by decide +kernel) (by decide) ?_
                -- AT 8
                first
                  | exact ih (i + 1) (by omega) (by omega) _ _ (hls.trans (or_lr_n (hls ▸ fun z => c32 z.1.1)))
                  | exact ih (i + 1) (by omega) (by omega) _ _ (hls.trans (or_lr_n (hls ▸ fun z => zz_b_f c45 (z.1.2 _ c36))))
                  | exact ih (i + 1) (by omega) (by omega) _ _ (hls.trans (or_lr_n (hls ▸ fun z => (z.2.elim hne (fun w => zz_b_f c67 w)))))
                  | exact ih (i + 1) (by omega) (by omega) _ _ (or_lr_y (hls ▸ ⟨⟨c32, fun q hq => absurd (hq.symm.trans c36) (Option.some_ne_none _)⟩, Or.inr (zz_b_t c67)⟩))
                  | exact ih (i + 1) (by omega) (by omega) _ _ (or_lr_y (hls ▸ ⟨⟨c32, fun q hq => (Option.some.inj (c36.symm.trans hq)) ▸ zz_b_t c45⟩, Or.inr (zz_b_t c67)⟩))
                  | exact ih (i + 1) (by omega) (by omega) _ _ (or_lr_y (hls ▸ ⟨⟨c32, fun q hq => absurd (hq.symm.trans c36) (Option.some_ne_none _)⟩, Or.inl (nI_eqI9 (by omega) (by omega) c53)⟩))
                  | exact ih (i + 1) (by omega) (by omega) _ _ (or_lr_y (hls ▸ ⟨⟨c32, fun q hq => (Option.some.inj (c36.symm.trans hq)) ▸ zz_b_t c45⟩, Or.inl (nI_eqI9 (by omega) (by omega) c53)⟩))
              · refine zz_iload_n (q := 49) (f := 3) (i := 3) C (by decide +kernel) rfl rfl rfl ?_
                refine zz_aload_n (q := 50) (f := 0) (i := 0) C (by decide +kernel) rfl rfl rfl ?_
                refine zz_getI (q := 53) C gf_O_35 (by decide +kernel) rfl (by first | rfl | assumption) hok.1.2.2.2.2.2.2 ?_
                refine zz_icmp_eq (off := 17) (tgt := 70) (q := 56) C (by decide +kernel) (by decide) rfl (fun c53 => ?_) (fun c53 => ?_)
                · refine zz_iload (q := 72) (i := 4) C (by decide +kernel) rfl rfl ?_
                  refine zz_istore_n (q := 73) (f := 3) (i := 3) C (by decide +kernel) rfl rfl (by decide) rfl ?_
                  refine zz_iinc (q := 76) (i := 4) (n := 1) C (by decide +kernel) rfl rfl (nI_succ _).symm (by decide) rfl ?_
                  refine zz_goto (off := -68) (tgt := 8) C (by decide +kernel) (by decide) ?_
                  -- AT 8
                  first
                    | exact ih (i + 1) (by omega) (by omega) _ _ (hls.trans (or_lr_n (hls ▸ fun z => c32 z.1.1)))
                    | exact ih (i + 1) (by omega) (by omega) _ _ (hls.trans (or_lr_n (hls ▸ fun z => zz_b_f c45 (z.1.2 _ c36))))
                    | exact ih (i + 1) (by omega) (by omega) _ _ (hls.trans (or_lr_n (hls ▸ fun z => (z.2.elim hne (fun w => zz_b_f c67 w)))))
                    | exact ih (i + 1) (by omega) (by omega) _ _ (or_lr_y (hls ▸ ⟨⟨c32, fun q hq => absurd (hq.symm.trans c36) (Option.some_ne_none _)⟩, Or.inr (zz_b_t c67)⟩))
                    | exact ih (i + 1) (by omega) (by omega) _ _ (or_lr_y (hls ▸ ⟨⟨c32, fun q hq => (Option.some.inj (c36.symm.trans hq)) ▸ zz_b_t c45⟩, Or.inr (zz_b_t c67)⟩))
                    | exact ih (i + 1) (by omega) (by omega) _ _ (or_lr_y (hls ▸ ⟨⟨c32, fun q hq => absurd (hq.symm.trans c36) (Option.some_ne_none _)⟩, Or.inl (nI_eqI9 (by omega) (by omega) c53)⟩))
                    | exact ih (i + 1) (by omega) (by omega) _ _ (or_lr_y (hls ▸ ⟨⟨c32, fun q hq => (Option.some.inj (c36.symm.trans hq)) ▸ zz_b_t c45⟩, Or.inl (nI_eqI9 (by omega) (by omega) c53)⟩))
                · have hne : ls ≠ or_s h a := fun z => c53 (by rw [z])
                  have hls9 : ls < or_s h a := by omega
                  refine zz_aload (q := 58) (i := 5) C (by decide +kernel) rfl rfl ?_
                  refine zz_aload_n (q := 59) (f := 0) (i := 0) C (by decide +kernel) rfl rfl rfl ?_
                  refine zz_getR (q := 62) C gf_O_11 (by decide +kernel) rfl (by first | rfl | assumption) hok.1.1 ?_
                  refine zz_iload_n (q := 63) (f := 3) (i := 3) C (by decide +kernel) rfl rfl rfl ?_
                  refine zz_aaload (q := 64) C 4 rfl (by decide) (by decide +kernel) rfl rfl hok.1.2.2.1 rfl (by have := hok.1.2.2.2.2.2.1; omega) (by decide) (hok.2 ls hls9) ?_
                  refine zz_callV (q := 67) C (m_S_comesBeforeBySecond l) cv_O_128 (by decide +kernel) rfl rfl rfl (by first | rfl | assumption) (by decide) (by decide) (Nat.le_of_ble_eq_true rfl) ⟨_, _, rfl, hos.2.2.2, ?_⟩
                  refine zz_if_eq (off := 6) (tgt := 73) (q := 70) C (by decide +kernel) (by decide) rfl (fun c67 => ?_) (fun c67 => ?_)
                  · refine zz_iinc (q := 76) (i := 4) (n := 1) C (by decide +kernel) rfl rfl (nI_succ _).symm (by decide) rfl ?_
                    refine zz_goto (off := -68) (tgt := 8) C (by decide +kernel) (by decide) ?_
                    -- AT 8
                    first
                      | exact ih (i + 1) (by omega) (by omega) _ _ (hls.trans (or_lr_n (hls ▸ fun z => c32 z.1.1)))
                      | exact ih (i + 1) (by omega) (by omega) _ _ (hls.trans (or_lr_n (hls ▸ fun z => zz_b_f c45 (z.1.2 _ c36))))
                      | exact ih (i + 1) (by omega) (by omega) _ _ (hls.trans (or_lr_n (hls ▸ fun z => (z.2.elim hne (fun w => zz_b_f c67 w)))))
                      | exact ih (i + 1) (by omega) (by omega) _ _ (or_lr_y (hls ▸ ⟨⟨c32, fun q hq => absurd (hq.symm.trans c36) (Option.some_ne_none _)⟩, Or.inr (zz_b_t c67)⟩))
                      | exact ih (i + 1) (by omega) (by omega) _ _ (or_lr_y (hls ▸ ⟨⟨c32, fun q hq => (Option.some.inj (c36.symm.trans hq)) ▸ zz_b_t c45⟩, Or.inr (zz_b_t c67)⟩))
                      | exact ih (i + 1) (by omega) (by omega) _ _ (or_lr_y (hls ▸ ⟨⟨c32, fun q hq => absurd (hq.symm.trans c36) (Option.some_ne_none _)⟩, Or.inl (nI_eqI9 (by omega) (by omega) c53)⟩))
                      | exact ih (i + 1) (by omega) (by omega) _ _ (or_lr_y (hls ▸ ⟨⟨c32, fun q hq => (Option.some.inj (c36.symm.trans hq)) ▸ zz_b_t c45⟩, Or.inl (nI_eqI9 (by omega) (by omega) c53)⟩))
                  · refine zz_iload (q := 72) (i := 4) C (by decide +kernel) rfl rfl ?_
                    refine zz_istore_n (q := 73) (f := 3) (i := 3) C (by decide +kernel) rfl rfl (by decide) rfl ?_
                    refine zz_iinc (q := 76) (i := 4) (n := 1) C (by decide +kernel) rfl rfl (nI_succ _).symm (by decide) rfl ?_
                    refine zz_goto (off := -68) (tgt := 8) C (by decide +kernel) (by decide) ?_
                    -- AT 8
                    first
                      | exact ih (i + 1) (by omega) (by omega) _ _ (hls.trans (or_lr_n (hls ▸ fun z => c32 z.1.1)))
                      | exact ih (i + 1) (by omega) (by omega) _ _ (hls.trans (or_lr_n (hls ▸ fun z => zz_b_f c45 (z.1.2 _ c36))))
                      | exact ih (i + 1) (by omega) (by omega) _ _ (hls.trans (or_lr_n (hls ▸ fun z => (z.2.elim hne (fun w => zz_b_f c67 w)))))
                      | exact ih (i + 1) (by omega) (by omega) _ _ (or_lr_y (hls ▸ ⟨⟨c32, fun q hq => absurd (hq.symm.trans c36) (Option.some_ne_none _)⟩, Or.inr (zz_b_t c67)⟩))
                      | exact ih (i + 1) (by omega) (by omega) _ _ (or_lr_y (hls ▸ ⟨⟨c32, fun q hq => (Option.some.inj (c36.symm.trans hq)) ▸ zz_b_t c45⟩, Or.inr (zz_b_t c67)⟩))
                      | exact ih (i + 1) (by omega) (by omega) _ _ (or_lr_y (hls ▸ ⟨⟨c32, fun q hq => absurd (hq.symm.trans c36) (Option.some_ne_none _)⟩, Or.inl (nI_eqI9 (by omega) (by omega) c53)⟩))
                      | exact ih (i + 1) (by omega) (by omega) _ _ (or_lr_y (hls ▸ ⟨⟨c32, fun q hq => (Option.some.inj (c36.symm.trans hq)) ▸ zz_b_t c45⟩, Or.inl (nI_eqI9 (by omega) (by omega) c53)⟩))
    refine zz_aload_n (q := 1) (f := 0) (i := 0) C (by decide +kernel) rfl rfl rfl ?_
    refine zz_getI (q := 4) C gf_O_35 (by decide +kernel) rfl (by first | rfl | assumption) hok.1.2.2.2.2.2.2 ?_
    refine zz_istore_n (q := 5) (f := 3) (i := 3) C (by decide +kernel) rfl rfl (by decide) rfl ?_
    refine zz_iconst (q := 6) (n := 0) (x := 0) C (by decide +kernel) rfl (by decide +kernel) ?_
    refine zz_istore (q := 8) (i := 4) C (by decide +kernel) rfl (by decide) rfl ?_
    -- AT 8
    exact lp8 (or_s h a + 1) 0 (by omega) (by omega) none (or_s h a) rfl

def T_L_addCondition : zz_Tr := fun as h post => ∃ a k w q n, as = [zz_r 3 (some a), zz_r 1 k, zz_i w, zz_i q, zz_i n] ∧ pl_ok h a ∧ ((3 ≤ pl_c h a ∨ (zz_fR h 3 0 a ≠ none ∧ zz_fR h 3 0 a ≠ k)) → post (some (zz_i 0)) h) ∧ (¬ (3 ≤ pl_c h a ∨ (zz_fR h 3 0 a ≠ none ∧ zz_fR h 3 0 a ≠ k)) → post (some (zz_i 1)) (zz_pI (zz_sI (zz_sI (zz_sI (zz_pR h 3 0 a k) (pl_w h a) (pl_c h a) w) (pl_o h a) (pl_c h a) q) (pl_n h a) (pl_c h a) n) 3 1 a (nI (pl_c h a + 1))))
set_option maxRecDepth 100000 in
set_option maxHeartbeats 4000000 in
theorem m_L_addCondition (l : Launch) : zz_Met l y_L_addCondition w_L_addCondition { frames := 2, cells := 0, slots := 0, locals := 33 } T_L_addCondition := by
  refine zz_ofZ (by decide) (fun as h post hT => ?_) ?_
  · obtain ⟨a, k, w, q, n, rfl, hok, h1, h2⟩ := hT
    exact ⟨by simp [zz_cat], by simp⟩
  · intro D DA h as post hT p e s m args below meth c Q C hr hlk hnm hQ
    obtain ⟨a, k, w, q, n, rfl, hok, h1, h2⟩ := hT
    refine zz_aload_n (q := 1) (f := 0) (i := 0) C (by decide +kernel) rfl rfl rfl ?_
    refine zz_getI (q := 4) C gf_L_25 (by decide +kernel) rfl (by first | rfl | assumption) hok.2.2.2.2.2.2.2.1 ?_
    refine zz_iconst (q := 5) (n := 3) (x := 3) C (by decide +kernel) rfl (by decide +kernel) ?_
    refine zz_icmp_ge (off := 11) (tgt := 16) (q := 8) C (by decide +kernel) (by decide) rfl (fun c5 => ?_) (fun c5 => ?_)
    · refine zz_iconst (q := 17) (n := 0) (x := 0) C (by decide +kernel) rfl (by decide +kernel) ?_
      refine zz_zret C hr hlk (by decide +kernel) (by decide) hQ (by decide) (by decide) ?_
      exact h1 (Or.inl (Nat.le_of_not_lt (fun w9 => nI_ge w9 (by decide) c5)))
    · refine zz_aload_n (q := 9) (f := 0) (i := 0) C (by decide +kernel) rfl rfl rfl ?_
      refine zz_aload_n (q := 10) (f := 1) (i := 1) C (by decide +kernel) rfl rfl rfl ?_
      refine zz_callV (q := 13) C (m_L_state l) cv_L_29 (by decide +kernel) rfl rfl rfl (by first | rfl | assumption) (by decide) (by decide) (by decide) ⟨_, _, rfl, fun z => ?_, fun z => ?_⟩
      · refine zz_if_ne (off := 5) (tgt := 18) (q := 16) C (by decide +kernel) (by decide) rfl (fun c13 => ?_) (fun c13 => ?_)
        · exact absurd rfl c13
        · refine zz_iconst (q := 17) (n := 0) (x := 0) C (by decide +kernel) rfl (by decide +kernel) ?_
          refine zz_zret C hr hlk (by decide +kernel) (by decide) hQ (by decide) (by decide) ?_
          exact h1 (Or.inr z)
      · refine zz_if_ne (off := 5) (tgt := 18) (q := 16) C (by decide +kernel) (by decide) rfl (fun c13 => ?_) (fun c13 => ?_)
        · have hlt : pl_c h a < 3 := Nat.lt_of_not_le (fun w9 => c5 (nI_le w9 (by have := hok.2.2.2.2.2.2.1; omega)))
          refine zz_aload_n (q := 19) (f := 0) (i := 0) C (by decide +kernel) rfl rfl rfl ?_
          refine zz_getR (q := 22) C gf_L_9 (by decide +kernel) rfl (by first | rfl | assumption) (show zz_fR h 3 2 a = _ from hok.1) ?_
          refine zz_aload_n (q := 23) (f := 0) (i := 0) C (by decide +kernel) rfl rfl rfl ?_
          refine zz_getI (q := 26) C gf_L_25 (by decide +kernel) rfl (by first | rfl | assumption) (show zz_fI h 3 1 a = _ from hok.2.2.2.2.2.2.2.1) ?_
          refine zz_iload_n (q := 27) (f := 2) (i := 2) C (by decide +kernel) rfl rfl rfl ?_
          refine zz_iastore (q := 28) C (by decide +kernel) rfl rfl hok.2.2.2.1 rfl (show pl_c h a < 3 from hlt) (by decide) ?_
          refine zz_aload_n (q := 29) (f := 0) (i := 0) C (by decide +kernel) rfl rfl rfl ?_
          refine zz_getR (q := 32) C gf_L_15 (by decide +kernel) rfl (by first | rfl | assumption) (show zz_fR h 3 3 a = _ from hok.2.1) ?_
          refine zz_aload_n (q := 33) (f := 0) (i := 0) C (by decide +kernel) rfl rfl rfl ?_
          refine zz_getI (q := 36) C gf_L_25 (by decide +kernel) rfl (by first | rfl | assumption) (show zz_fI h 3 1 a = _ from hok.2.2.2.2.2.2.2.1) ?_
          refine zz_iload_n (q := 37) (f := 3) (i := 3) C (by decide +kernel) rfl rfl rfl ?_
          refine zz_iastore (q := 38) C (by decide +kernel) rfl rfl hok.2.2.2.2.1 rfl (show pl_c h a < 3 from hlt) (by decide) ?_
          refine zz_aload_n (q := 39) (f := 0) (i := 0) C (by decide +kernel) rfl rfl rfl ?_
          refine zz_getR (q := 42) C gf_L_18 (by decide +kernel) rfl (by first | rfl | assumption) (show zz_fR h 3 4 a = _ from hok.2.2.1) ?_
          refine zz_aload_n (q := 43) (f := 0) (i := 0) C (by decide +kernel) rfl rfl rfl ?_
          refine zz_getI (q := 46) C gf_L_25 (by decide +kernel) rfl (by first | rfl | assumption) (show zz_fI h 3 1 a = _ from hok.2.2.2.2.2.2.2.1) ?_
          refine zz_iload (q := 48) (i := 4) C (by decide +kernel) rfl rfl ?_
          refine zz_iastore (q := 49) C (by decide +kernel) rfl rfl hok.2.2.2.2.2.1 rfl (show pl_c h a < 3 from hlt) (by decide) ?_
          refine zz_aload_n (q := 50) (f := 0) (i := 0) C (by decide +kernel) rfl rfl rfl ?_
          refine zz_dup (q := 51) C (by decide +kernel) rfl rfl ?_
          refine zz_getI (q := 54) C gf_L_25 (by decide +kernel) rfl (by first | rfl | assumption) (show zz_fI h 3 1 a = _ from hok.2.2.2.2.2.2.2.1) ?_
          refine zz_iconst (q := 55) (n := 1) (x := 1) C (by decide +kernel) rfl (by decide +kernel) ?_
          refine zz_iadd (q := 56) C (by decide +kernel) rfl (nI_succ _).symm ?_
          refine zz_putI (q := 59) C gf_L_25 (fun h => by cases h) (fun h => by cases h) (by decide +kernel) rfl (by first | rfl | assumption) ?_
          refine zz_iconst (q := 60) (n := 1) (x := 1) C (by decide +kernel) rfl (by decide +kernel) ?_
          refine zz_zret C hr hlk (by decide +kernel) (by decide) hQ (by decide) (by decide) ?_
          exact h2 (fun y => y.elim (fun y => by omega) z)
        · exact absurd c13 (by decide)

def T_L_isMetBy : zz_Tr := fun as h post => ∃ a sg, as = [zz_r 3 (some a), zz_r 2 sg] ∧ pl_ok h a ∧ (∀ s, sg = some s → sg_ok h s) ∧ post (some (zz_i (zz_b (pl_met h a sg)))) h
set_option maxRecDepth 100000 in
set_option maxHeartbeats 4000000 in
theorem m_L_isMetBy (l : Launch) : zz_Met l y_L_isMetBy w_L_isMetBy { frames := 2, cells := 0, slots := 0, locals := 34 } T_L_isMetBy := by
  refine zz_ofZ (by decide) (fun as h post hT => ?_) ?_
  · obtain ⟨a, sg, rfl, hok, hsg, hp⟩ := hT
    exact ⟨by simp [zz_cat], by simp⟩
  · intro D DA h as post hT p e s m args below meth c Q C hr hlk hnm hQ
    obtain ⟨a, sg, rfl, hok, hsg, hp⟩ := hT
    have lp19 : ∀ s9, sg = some s9 → zz_fR h 2 1 s9 = zz_fR h 3 0 a → ∀ n i, n + i = pl_c h a → i ≤ pl_c h a → (∀ j, j < i → pl_one h a s9 j) → zz_Z p l e { frames := 2, cells := 0, slots := 0, locals := 34 } s m args below meth c Q D DA (zz_A h s.heap.size) h 3 19 [some (zz_r 3 (some a)), some (zz_r 2 sg), some (zz_i (nI i))] [] h 0 0 := by
      intro s9 hs9 hkk n
      have hos := hsg s9 hs9
      induction n with
      | zero =>
        intro i hni hic hall
        refine zz_iload_n (q := 20) (f := 2) (i := 2) C (by decide +kernel) rfl rfl rfl ?_
        refine zz_aload_n (q := 21) (f := 0) (i := 0) C (by decide +kernel) rfl rfl rfl ?_
        refine zz_getI (q := 24) C gf_L_25 (by decide +kernel) rfl rfl hok.2.2.2.2.2.2.2.1 ?_
        refine zz_icmp_ge (off := 40) (tgt := 64) (q := 27) C (by decide +kernel) (by decide) rfl (fun c24 => ?_) (fun c24 => absurd (nI_le (by omega) (by have := hok.2.2.2.2.2.2.1; omega)) c24)
        refine zz_iconst (q := 65) (n := 1) (x := 1) C (by decide +kernel) rfl (by decide +kernel) ?_
        refine zz_zret C hr hlk (by decide +kernel) (by decide) hQ (by decide) (by decide) ?_
        exact zz_b1 (P := fun x => post (some (zz_i x)) h) hp ⟨s9, hs9, hkk, fun j hj => hall j (by omega)⟩
      | succ n ih =>
        intro i hni hic hall
        have hc3 := hok.2.2.2.2.2.2.1
        have hi : i < 3 := by omega
        obtain ⟨j9, hj9, ej9⟩ := hok.2.2.2.2.2.2.2.2 i (by omega)
        refine zz_iload_n (q := 20) (f := 2) (i := 2) C (by decide +kernel) rfl rfl rfl ?_
        refine zz_aload_n (q := 21) (f := 0) (i := 0) C (by decide +kernel) rfl rfl rfl ?_
        refine zz_getI (q := 24) C gf_L_25 (by decide +kernel) rfl (by first | rfl | assumption) hok.2.2.2.2.2.2.2.1 ?_
        refine zz_icmp_ge (off := 40) (tgt := 64) (q := 27) C (by decide +kernel) (by decide) rfl (fun c24 => ?_) (fun c24 => ?_)
        · refine zz_iconst (q := 65) (n := 1) (x := 1) C (by decide +kernel) rfl (by decide +kernel) ?_
          refine zz_zret C hr hlk (by decide +kernel) (by decide) hQ (by decide) (by decide) ?_
          exact absurd c24 (nI_ge (by omega) (by omega))
        · refine zz_aload_n (q := 28) (f := 1) (i := 1) C (by decide +kernel) rfl rfl rfl ?_
          refine zz_getR (q := 31) C gf_L_36 (by decide +kernel) rfl hs9 hos.2.1 ?_
          refine zz_aload_n (q := 32) (f := 0) (i := 0) C (by decide +kernel) rfl rfl rfl ?_
          refine zz_getR (q := 35) C gf_L_9 (by decide +kernel) rfl (by first | rfl | assumption) hok.1 ?_
          refine zz_iload_n (q := 36) (f := 2) (i := 2) C (by decide +kernel) rfl rfl rfl ?_
          refine zz_iaload (q := 37) C (by decide +kernel) rfl rfl hok.2.2.2.1 rfl hi (by decide) ej9 ?_
          refine zz_iaload (q := 38) C (by decide +kernel) rfl rfl hos.2.2.1 rfl hj9 (by decide) rfl ?_
          refine zz_aload_n (q := 39) (f := 0) (i := 0) C (by decide +kernel) rfl rfl rfl ?_
          refine zz_getR (q := 42) C gf_L_15 (by decide +kernel) rfl (by first | rfl | assumption) hok.2.1 ?_
          refine zz_iload_n (q := 43) (f := 2) (i := 2) C (by decide +kernel) rfl rfl rfl ?_
          refine zz_iaload (q := 44) C (by decide +kernel) rfl rfl hok.2.2.2.2.1 rfl hi (by decide) rfl ?_
          refine zz_aload_n (q := 45) (f := 0) (i := 0) C (by decide +kernel) rfl rfl rfl ?_
          refine zz_getR (q := 48) C gf_L_18 (by decide +kernel) rfl (by first | rfl | assumption) hok.2.2.1 ?_
          refine zz_iload_n (q := 49) (f := 2) (i := 2) C (by decide +kernel) rfl rfl rfl ?_
          refine zz_iaload (q := 50) C (by decide +kernel) rfl rfl hok.2.2.2.2.2.1 rfl hi (by decide) rfl ?_
          refine zz_callS (q := 53) C (m_L_compares l) cs_L_37 (by decide +kernel) rfl rfl rfl (by decide) (by decide) (by decide) ⟨_, _, _, rfl, ?_⟩
          refine zz_if_ne (off := 5) (tgt := 58) (q := 56) C (by decide +kernel) (by decide) rfl (fun c53 => ?_) (fun c53 => ?_)
          · refine zz_iinc (q := 61) (i := 2) (n := 1) C (by decide +kernel) rfl rfl (nI_succ _).symm (by decide) rfl ?_
            refine zz_goto (off := -42) (tgt := 19) C (by decide +kernel) (by decide) ?_
            -- AT 19
            refine ih (i + 1) (by omega) (by omega) (fun j hj => ?_)
            rcases Nat.lt_succ_iff_lt_or_eq.mp hj with hj | rfl
            · exact hall j hj
            · have := zz_b_t c53
              unfold pl_one
              rw [ej9, nI_clamp (by omega)]
              exact this
          · refine zz_iconst (q := 57) (n := 0) (x := 0) C (by decide +kernel) rfl (by decide +kernel) ?_
            refine zz_zret C hr hlk (by decide +kernel) (by decide) hQ (by decide) (by decide) ?_
            refine zz_b0 (P := fun x => post (some (zz_i x)) h) hp (fun ⟨s8, e8, _, h8⟩ => ?_)
            rw [hs9] at e8
            cases e8
            have h7 := h8 i (by omega)
            unfold pl_one at h7
            rw [ej9, nI_clamp (by omega)] at h7
            exact zz_b_f c53 h7
    refine zz_aload_n (q := 1) (f := 1) (i := 1) C (by decide +kernel) rfl rfl rfl ?_
    refine zz_ifnull (off := 14) (tgt := 15) (q := 4) C (by decide +kernel) (by decide) rfl (fun c1 => ?_) (fun a1 c1 => ?_)
    · refine zz_iconst (q := 16) (n := 0) (x := 0) C (by decide +kernel) rfl (by decide +kernel) ?_
      refine zz_zret C hr hlk (by decide +kernel) (by decide) hQ (by decide) (by decide) ?_
      first | exact zz_b0 (P := fun x => post (some (zz_i x)) h) hp (fun ⟨s9, e9, e8, _⟩ => c12 (by rw [c1] at e9; cases e9; exact e8)) | exact zz_b0 (P := fun x => post (some (zz_i x)) h) hp (fun ⟨s9, e9, _⟩ => by rw [c1] at e9; cases e9)
    · refine zz_aload_n (q := 5) (f := 1) (i := 1) C (by decide +kernel) rfl rfl rfl ?_
      refine zz_getR (q := 8) C gf_L_33 (by decide +kernel) rfl (by first | rfl | assumption) rfl ?_
      refine zz_aload_n (q := 9) (f := 0) (i := 0) C (by decide +kernel) rfl rfl rfl ?_
      refine zz_getR (q := 12) C gf_L_21 (by decide +kernel) rfl (by first | rfl | assumption) rfl ?_
      refine zz_acmp_eq (off := 5) (tgt := 17) (q := 15) C (by decide +kernel) (by decide) rfl (fun c12 => ?_) (fun c12 => ?_)
      · refine zz_iconst (q := 18) (n := 0) (x := 0) C (by decide +kernel) rfl (by decide +kernel) ?_
        refine zz_istore_n (q := 19) (f := 2) (i := 2) C (by decide +kernel) rfl rfl (by decide) rfl ?_
        -- AT 19
        exact lp19 a1 c1 c12 (pl_c h a) 0 (by omega) (by omega) (fun i hi => absurd hi (by omega))
      · refine zz_iconst (q := 16) (n := 0) (x := 0) C (by decide +kernel) rfl (by decide +kernel) ?_
        refine zz_zret C hr hlk (by decide +kernel) (by decide) hQ (by decide) (by decide) ?_
        first | exact zz_b0 (P := fun x => post (some (zz_i x)) h) hp (fun ⟨s9, e9, e8, _⟩ => c12 (by rw [c1] at e9; cases e9; exact e8)) | exact zz_b0 (P := fun x => post (some (zz_i x)) h) hp (fun ⟨s9, e9, _⟩ => by rw [c1] at e9; cases e9)

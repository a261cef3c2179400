/-! Segment: comparisons; the two constructors -/
/-- in front by the second order -/
def sg_cb (h : zz_H) (a b : Nat) : Prop := (zz_fI h 2 5 a ≠ zz_fI h 2 5 b ∧ zz_fI h 2 5 a = 1) ∨ (zz_fI h 2 5 a = zz_fI h 2 5 b ∧ ((zz_fI h 2 5 a ≠ 0 ∧ zz_fI h 2 6 a ≠ zz_fI h 2 6 b ∧ zz_fI h 2 6 a < zz_fI h 2 6 b) ∨ ((zz_fI h 2 5 a = 0 ∨ zz_fI h 2 6 a = zz_fI h 2 6 b) ∧ zz_fI h 2 0 a < zz_fI h 2 0 b)))
/-- comes in front of a child of the same parent -/
def sg_eb (h : zz_H) (a b : Nat) : Prop := if sg_k h a = sg_k h b then zz_fI h 1 4 (sg_k h a) ≠ -1 ∧ (zz_aI h (sg_w h a) (kd_sq h (sg_k h a)) < zz_aI h (sg_w h b) (kd_sq h (sg_k h a)) ∨ (zz_aI h (sg_w h a) (kd_sq h (sg_k h a)) = zz_aI h (sg_w h b) (kd_sq h (sg_k h a)) ∧ zz_fI h 1 6 (sg_k h a) = 0)) else zz_fI h 1 0 (sg_k h a) < zz_fI h 1 0 (sg_k h b)
def T_S_comesBeforeBySecond : zz_Tr := fun as h post => ∃ a b, as = [zz_r 2 (some a), zz_r 2 (some b)] ∧ (zz_fI h 2 5 a = 0 ∨ zz_fI h 2 5 a = 1) ∧ post (some (zz_i (zz_b (sg_cb h a b)))) h
set_option maxRecDepth 100000 in
set_option maxHeartbeats 4000000 in
theorem m_S_comesBeforeBySecond (l : Launch) : zz_Met l y_S_comesBeforeBySecond w_S_comesBeforeBySecond { frames := 1, cells := 0, slots := 0, locals := 12 } T_S_comesBeforeBySecond := by
  refine zz_ofZ (by decide) (fun as h post hT => ?_) ?_
  · obtain ⟨a, b, rfl, hv, hp⟩ := hT
    exact ⟨by simp [zz_cat], by simp⟩
  · intro D DA h as post hT p e s m args below meth c Q C hr hlk hnm hQ
    obtain ⟨a, b, rfl, hv, hp⟩ := hT
    refine zz_aload_n (q := 1) (f := 0) (i := 0) C (by decide +kernel) rfl rfl rfl ?_
    refine zz_getI (q := 4) C gf_S_56 (by decide +kernel) rfl (by first | rfl | assumption) rfl ?_
    refine zz_aload_n (q := 5) (f := 1) (i := 1) C (by decide +kernel) rfl rfl rfl ?_
    refine zz_getI (q := 8) C gf_S_56 (by decide +kernel) rfl (by first | rfl | assumption) rfl ?_
    refine zz_icmp_eq (off := 8) (tgt := 16) (q := 11) C (by decide +kernel) (by decide) rfl (fun c8 => ?_) (fun c8 => ?_)
    · refine zz_aload_n (q := 17) (f := 0) (i := 0) C (by decide +kernel) rfl rfl rfl ?_
      refine zz_getI (q := 20) C gf_S_56 (by decide +kernel) rfl (by first | rfl | assumption) rfl ?_
      refine zz_if_eq (off := 31) (tgt := 51) (q := 23) C (by decide +kernel) (by decide) rfl (fun c20 => ?_) (fun c20 => ?_)
      · refine zz_aload_n (q := 52) (f := 0) (i := 0) C (by decide +kernel) rfl rfl rfl ?_
        refine zz_getI (q := 55) C gf_S_15 (by decide +kernel) rfl (by first | rfl | assumption) rfl ?_
        refine zz_aload_n (q := 56) (f := 1) (i := 1) C (by decide +kernel) rfl rfl rfl ?_
        refine zz_getI (q := 59) C gf_S_15 (by decide +kernel) rfl (by first | rfl | assumption) rfl ?_
        refine zz_icmp_ge (off := 7) (tgt := 66) (q := 62) C (by decide +kernel) (by decide) rfl (fun c59 => ?_) (fun c59 => ?_)
        · refine zz_iconst (q := 67) (n := 0) (x := 0) C (by decide +kernel) rfl (by decide +kernel) ?_
          refine zz_zret C hr hlk (by decide +kernel) (by decide) hQ (by decide) (by decide) ?_
          first | exact zz_b1 (P := fun x => post (some (zz_i x)) h) hp (Or.inr ⟨c8, Or.inr ⟨Or.inl c20, Int32.not_le.mp c59⟩⟩) | exact zz_b1 (P := fun x => post (some (zz_i x)) h) hp (Or.inr ⟨c8, Or.inr ⟨Or.inr c31, Int32.not_le.mp c59⟩⟩) | exact zz_b0 (P := fun x => post (some (zz_i x)) h) hp (by rintro (⟨z, -⟩ | ⟨-, ⟨z, -⟩ | ⟨-, z⟩⟩); exact z c8; exact z c20; exact Int32.not_le.mpr z c59) | exact zz_b0 (P := fun x => post (some (zz_i x)) h) hp (by rintro (⟨z, -⟩ | ⟨-, ⟨-, z, -⟩ | ⟨-, z⟩⟩); exact z c8; exact z c31; exact Int32.not_le.mpr z c59)
        · refine zz_iconst (q := 63) (n := 1) (x := 1) C (by decide +kernel) rfl (by decide +kernel) ?_
          refine zz_goto (off := 4) (tgt := 67) C (by decide +kernel) (by decide) ?_
          refine zz_zret C hr hlk (by decide +kernel) (by decide) hQ (by decide) (by decide) ?_
          first | exact zz_b1 (P := fun x => post (some (zz_i x)) h) hp (Or.inr ⟨c8, Or.inr ⟨Or.inl c20, Int32.not_le.mp c59⟩⟩) | exact zz_b1 (P := fun x => post (some (zz_i x)) h) hp (Or.inr ⟨c8, Or.inr ⟨Or.inr c31, Int32.not_le.mp c59⟩⟩) | exact zz_b0 (P := fun x => post (some (zz_i x)) h) hp (by rintro (⟨z, -⟩ | ⟨-, ⟨z, -⟩ | ⟨-, z⟩⟩); exact z c8; exact z c20; exact Int32.not_le.mpr z c59) | exact zz_b0 (P := fun x => post (some (zz_i x)) h) hp (by rintro (⟨z, -⟩ | ⟨-, ⟨-, z, -⟩ | ⟨-, z⟩⟩); exact z c8; exact z c31; exact Int32.not_le.mpr z c59)
      · refine zz_aload_n (q := 24) (f := 0) (i := 0) C (by decide +kernel) rfl rfl rfl ?_
        refine zz_getI (q := 27) C gf_S_60 (by decide +kernel) rfl (by first | rfl | assumption) rfl ?_
        refine zz_aload_n (q := 28) (f := 1) (i := 1) C (by decide +kernel) rfl rfl rfl ?_
        refine zz_getI (q := 31) C gf_S_60 (by decide +kernel) rfl (by first | rfl | assumption) rfl ?_
        refine zz_icmp_eq (off := 20) (tgt := 51) (q := 34) C (by decide +kernel) (by decide) rfl (fun c31 => ?_) (fun c31 => ?_)
        · refine zz_aload_n (q := 52) (f := 0) (i := 0) C (by decide +kernel) rfl rfl rfl ?_
          refine zz_getI (q := 55) C gf_S_15 (by decide +kernel) rfl (by first | rfl | assumption) rfl ?_
          refine zz_aload_n (q := 56) (f := 1) (i := 1) C (by decide +kernel) rfl rfl rfl ?_
          refine zz_getI (q := 59) C gf_S_15 (by decide +kernel) rfl (by first | rfl | assumption) rfl ?_
          refine zz_icmp_ge (off := 7) (tgt := 66) (q := 62) C (by decide +kernel) (by decide) rfl (fun c59 => ?_) (fun c59 => ?_)
          · refine zz_iconst (q := 67) (n := 0) (x := 0) C (by decide +kernel) rfl (by decide +kernel) ?_
            refine zz_zret C hr hlk (by decide +kernel) (by decide) hQ (by decide) (by decide) ?_
            first | exact zz_b1 (P := fun x => post (some (zz_i x)) h) hp (Or.inr ⟨c8, Or.inr ⟨Or.inl c20, Int32.not_le.mp c59⟩⟩) | exact zz_b1 (P := fun x => post (some (zz_i x)) h) hp (Or.inr ⟨c8, Or.inr ⟨Or.inr c31, Int32.not_le.mp c59⟩⟩) | exact zz_b0 (P := fun x => post (some (zz_i x)) h) hp (by rintro (⟨z, -⟩ | ⟨-, ⟨z, -⟩ | ⟨-, z⟩⟩); exact z c8; exact z c20; exact Int32.not_le.mpr z c59) | exact zz_b0 (P := fun x => post (some (zz_i x)) h) hp (by rintro (⟨z, -⟩ | ⟨-, ⟨-, z, -⟩ | ⟨-, z⟩⟩); exact z c8; exact z c31; exact Int32.not_le.mpr z c59)
          · refine zz_iconst (q := 63) (n := 1) (x := 1) C (by decide +kernel) rfl (by decide +kernel) ?_
            refine zz_goto (off := 4) (tgt := 67) C (by decide +kernel) (by decide) ?_
            refine zz_zret C hr hlk (by decide +kernel) (by decide) hQ (by decide) (by decide) ?_
            first | exact zz_b1 (P := fun x => post (some (zz_i x)) h) hp (Or.inr ⟨c8, Or.inr ⟨Or.inl c20, Int32.not_le.mp c59⟩⟩) | exact zz_b1 (P := fun x => post (some (zz_i x)) h) hp (Or.inr ⟨c8, Or.inr ⟨Or.inr c31, Int32.not_le.mp c59⟩⟩) | exact zz_b0 (P := fun x => post (some (zz_i x)) h) hp (by rintro (⟨z, -⟩ | ⟨-, ⟨z, -⟩ | ⟨-, z⟩⟩); exact z c8; exact z c20; exact Int32.not_le.mpr z c59) | exact zz_b0 (P := fun x => post (some (zz_i x)) h) hp (by rintro (⟨z, -⟩ | ⟨-, ⟨-, z, -⟩ | ⟨-, z⟩⟩); exact z c8; exact z c31; exact Int32.not_le.mpr z c59)
        · refine zz_aload_n (q := 35) (f := 0) (i := 0) C (by decide +kernel) rfl rfl rfl ?_
          refine zz_getI (q := 38) C gf_S_60 (by decide +kernel) rfl (by first | rfl | assumption) rfl ?_
          refine zz_aload_n (q := 39) (f := 1) (i := 1) C (by decide +kernel) rfl rfl rfl ?_
          refine zz_getI (q := 42) C gf_S_60 (by decide +kernel) rfl (by first | rfl | assumption) rfl ?_
          refine zz_icmp_ge (off := 7) (tgt := 49) (q := 45) C (by decide +kernel) (by decide) rfl (fun c42 => ?_) (fun c42 => ?_)
          · refine zz_iconst (q := 50) (n := 0) (x := 0) C (by decide +kernel) rfl (by decide +kernel) ?_
            refine zz_zret C hr hlk (by decide +kernel) (by decide) hQ (by decide) (by decide) ?_
            first | exact zz_b1 (P := fun x => post (some (zz_i x)) h) hp (Or.inr ⟨c8, Or.inl ⟨c20, c31, Int32.not_le.mp c42⟩⟩) | exact zz_b0 (P := fun x => post (some (zz_i x)) h) hp (by rintro (⟨z, -⟩ | ⟨-, ⟨-, -, z⟩ | ⟨z | z, -⟩⟩); exact z c8; exact Int32.not_le.mpr z c42; exact c20 z; exact c31 z)
          · refine zz_iconst (q := 46) (n := 1) (x := 1) C (by decide +kernel) rfl (by decide +kernel) ?_
            refine zz_goto (off := 4) (tgt := 50) C (by decide +kernel) (by decide) ?_
            refine zz_zret C hr hlk (by decide +kernel) (by decide) hQ (by decide) (by decide) ?_
            first | exact zz_b1 (P := fun x => post (some (zz_i x)) h) hp (Or.inr ⟨c8, Or.inl ⟨c20, c31, Int32.not_le.mp c42⟩⟩) | exact zz_b0 (P := fun x => post (some (zz_i x)) h) hp (by rintro (⟨z, -⟩ | ⟨-, ⟨-, -, z⟩ | ⟨z | z, -⟩⟩); exact z c8; exact Int32.not_le.mpr z c42; exact c20 z; exact c31 z)
    · refine zz_aload_n (q := 12) (f := 0) (i := 0) C (by decide +kernel) rfl rfl rfl ?_
      refine zz_getI (q := 15) C gf_S_56 (by decide +kernel) rfl (by first | rfl | assumption) rfl ?_
      refine zz_zret C hr hlk (by decide +kernel) hv hQ (by decide) (by decide) ?_
      rcases hv with e | e
      · rw [e]
        exact zz_b0 (P := fun x => post (some (zz_i x)) h) hp (by rintro (⟨-, z⟩ | ⟨z, -⟩); exact absurd (e.symm.trans z) (by decide); exact c8 z)
      · rw [e]
        exact zz_b1 (P := fun x => post (some (zz_i x)) h) hp (Or.inl ⟨c8, e⟩)

def T_S_entersBefore : zz_Tr := fun as h post => ∃ a b, as = [zz_r 2 (some a), zz_r 2 (some b)] ∧ sg_ok h a ∧ sg_ok h b ∧ kd_ok h (sg_k h a) ∧ post (some (zz_i (zz_b (sg_eb h a b)))) h
set_option maxRecDepth 100000 in
set_option maxHeartbeats 4000000 in
theorem m_S_entersBefore (l : Launch) : zz_Met l y_S_entersBefore w_S_entersBefore { frames := 2, cells := 0, slots := 0, locals := 32 } T_S_entersBefore := by
  refine zz_ofZ (by decide) (fun as h post hT => ?_) ?_
  · obtain ⟨a, b, rfl, hoa, hob, hkd, hp⟩ := hT
    exact ⟨by simp [zz_cat], by simp⟩
  · intro D DA h as post hT p e s m args below meth c Q C hr hlk hnm hQ
    obtain ⟨a, b, rfl, hoa, hob, hkd, hp⟩ := hT
    refine zz_aload_n (q := 1) (f := 0) (i := 0) C (by decide +kernel) rfl rfl rfl ?_
    refine zz_getR (q := 4) C gf_S_19 (by decide +kernel) rfl (by first | rfl | assumption) hoa.1 ?_
    refine zz_aload_n (q := 5) (f := 1) (i := 1) C (by decide +kernel) rfl rfl rfl ?_
    refine zz_getR (q := 8) C gf_S_19 (by decide +kernel) rfl (by first | rfl | assumption) hob.1 ?_
    refine zz_acmp_eq (off := 26) (tgt := 34) (q := 11) C (by decide +kernel) (by decide) rfl (fun c8 => ?_) (fun c8 => ?_)
    · refine zz_aload_n (q := 35) (f := 0) (i := 0) C (by decide +kernel) rfl rfl rfl ?_
      refine zz_getR (q := 38) C gf_S_19 (by decide +kernel) rfl (by first | rfl | assumption) hoa.1 ?_
      refine zz_callV (q := 41) C (m_K_hasSequence l) cv_S_38 (by decide +kernel) rfl rfl rfl (by first | rfl | assumption) (by decide) (by decide) (by decide) ⟨_, rfl, ?_⟩
      refine zz_if_ne (off := 5) (tgt := 46) (q := 44) C (by decide +kernel) (by decide) rfl (fun c41 => ?_) (fun c41 => ?_)
      · have hne : zz_fI h 1 4 (sg_k h a) ≠ -1 := zz_b_t c41
        have hke : sg_k h a = sg_k h b := Option.some.inj c8
        refine zz_aload_n (q := 47) (f := 0) (i := 0) C (by decide +kernel) rfl rfl rfl ?_
        refine zz_getR (q := 50) C gf_S_9 (by decide +kernel) rfl (by first | rfl | assumption) hoa.2.1 ?_
        refine zz_aload_n (q := 51) (f := 0) (i := 0) C (by decide +kernel) rfl rfl rfl ?_
        refine zz_getR (q := 54) C gf_S_19 (by decide +kernel) rfl (by first | rfl | assumption) hoa.1 ?_
        refine zz_getI (q := 57) C gf_S_42 (by decide +kernel) rfl (by first | rfl | assumption) (kd_sq_eq hkd hne).2 ?_
        refine zz_iaload (q := 58) C (by decide +kernel) rfl rfl hoa.2.2.1 rfl (kd_sq_eq hkd hne).1 (by decide) rfl ?_
        refine zz_istore_n (q := 59) (f := 2) (i := 2) C (by decide +kernel) rfl rfl (by decide) rfl ?_
        refine zz_aload_n (q := 60) (f := 1) (i := 1) C (by decide +kernel) rfl rfl rfl ?_
        refine zz_getR (q := 63) C gf_S_9 (by decide +kernel) rfl (by first | rfl | assumption) hob.2.1 ?_
        refine zz_aload_n (q := 64) (f := 0) (i := 0) C (by decide +kernel) rfl rfl rfl ?_
        refine zz_getR (q := 67) C gf_S_19 (by decide +kernel) rfl (by first | rfl | assumption) hoa.1 ?_
        refine zz_getI (q := 70) C gf_S_42 (by decide +kernel) rfl (by first | rfl | assumption) (kd_sq_eq hkd hne).2 ?_
        refine zz_iaload (q := 71) C (by decide +kernel) rfl rfl hob.2.2.1 rfl (kd_sq_eq hkd hne).1 (by decide) rfl ?_
        refine zz_istore_n (q := 72) (f := 3) (i := 3) C (by decide +kernel) rfl rfl (by decide) rfl ?_
        refine zz_iload_n (q := 73) (f := 2) (i := 2) C (by decide +kernel) rfl rfl rfl ?_
        refine zz_iload_n (q := 74) (f := 3) (i := 3) C (by decide +kernel) rfl rfl rfl ?_
        refine zz_icmp_lt (off := 18) (tgt := 92) (q := 77) C (by decide +kernel) (by decide) rfl (fun c74 => ?_) (fun c74 => ?_)
        · refine zz_iconst (q := 93) (n := 1) (x := 1) C (by decide +kernel) rfl (by decide +kernel) ?_
          refine zz_goto (off := 4) (tgt := 97) C (by decide +kernel) (by decide) ?_
          refine zz_zret C hr hlk (by decide +kernel) (by decide) hQ (by decide) (by decide) ?_
          unfold sg_eb at hp
          simp only [if_pos hke] at hp
          first | exact zz_b1 (P := fun x => post (some (zz_i x)) h) hp ⟨hne, Or.inl c74⟩ | exact zz_b1 (P := fun x => post (some (zz_i x)) h) hp ⟨hne, Or.inr ⟨c79, c89⟩⟩ | exact zz_b0 (P := fun x => post (some (zz_i x)) h) hp (fun z => z.2.elim c74 (fun w => c79 w.1)) | exact zz_b0 (P := fun x => post (some (zz_i x)) h) hp (fun z => z.2.elim c74 (fun w => c89 w.2))
        · refine zz_iload_n (q := 78) (f := 2) (i := 2) C (by decide +kernel) rfl rfl rfl ?_
          refine zz_iload_n (q := 79) (f := 3) (i := 3) C (by decide +kernel) rfl rfl rfl ?_
          refine zz_icmp_ne (off := 17) (tgt := 96) (q := 82) C (by decide +kernel) (by decide) rfl (fun c79 => ?_) (fun c79 => ?_)
          · refine zz_iconst (q := 97) (n := 0) (x := 0) C (by decide +kernel) rfl (by decide +kernel) ?_
            refine zz_zret C hr hlk (by decide +kernel) (by decide) hQ (by decide) (by decide) ?_
            unfold sg_eb at hp
            simp only [if_pos hke] at hp
            first | exact zz_b1 (P := fun x => post (some (zz_i x)) h) hp ⟨hne, Or.inl c74⟩ | exact zz_b1 (P := fun x => post (some (zz_i x)) h) hp ⟨hne, Or.inr ⟨c79, c89⟩⟩ | exact zz_b0 (P := fun x => post (some (zz_i x)) h) hp (fun z => z.2.elim c74 (fun w => c79 w.1)) | exact zz_b0 (P := fun x => post (some (zz_i x)) h) hp (fun z => z.2.elim c74 (fun w => c89 w.2))
          · refine zz_aload_n (q := 83) (f := 0) (i := 0) C (by decide +kernel) rfl rfl rfl ?_
            refine zz_getR (q := 86) C gf_S_19 (by decide +kernel) rfl (by first | rfl | assumption) hoa.1 ?_
            refine zz_getI (q := 89) C gf_S_66 (by decide +kernel) rfl (by first | rfl | assumption) rfl ?_
            refine zz_if_ne (off := 7) (tgt := 96) (q := 92) C (by decide +kernel) (by decide) rfl (fun c89 => ?_) (fun c89 => ?_)
            · refine zz_iconst (q := 97) (n := 0) (x := 0) C (by decide +kernel) rfl (by decide +kernel) ?_
              refine zz_zret C hr hlk (by decide +kernel) (by decide) hQ (by decide) (by decide) ?_
              unfold sg_eb at hp
              simp only [if_pos hke] at hp
              first | exact zz_b1 (P := fun x => post (some (zz_i x)) h) hp ⟨hne, Or.inl c74⟩ | exact zz_b1 (P := fun x => post (some (zz_i x)) h) hp ⟨hne, Or.inr ⟨c79, c89⟩⟩ | exact zz_b0 (P := fun x => post (some (zz_i x)) h) hp (fun z => z.2.elim c74 (fun w => c79 w.1)) | exact zz_b0 (P := fun x => post (some (zz_i x)) h) hp (fun z => z.2.elim c74 (fun w => c89 w.2))
            · refine zz_iconst (q := 93) (n := 1) (x := 1) C (by decide +kernel) rfl (by decide +kernel) ?_
              refine zz_goto (off := 4) (tgt := 97) C (by decide +kernel) (by decide) ?_
              refine zz_zret C hr hlk (by decide +kernel) (by decide) hQ (by decide) (by decide) ?_
              unfold sg_eb at hp
              simp only [if_pos hke] at hp
              first | exact zz_b1 (P := fun x => post (some (zz_i x)) h) hp ⟨hne, Or.inl c74⟩ | exact zz_b1 (P := fun x => post (some (zz_i x)) h) hp ⟨hne, Or.inr ⟨c79, c89⟩⟩ | exact zz_b0 (P := fun x => post (some (zz_i x)) h) hp (fun z => z.2.elim c74 (fun w => c79 w.1)) | exact zz_b0 (P := fun x => post (some (zz_i x)) h) hp (fun z => z.2.elim c74 (fun w => c89 w.2))
      · refine zz_iconst (q := 45) (n := 0) (x := 0) C (by decide +kernel) rfl (by decide +kernel) ?_
        refine zz_zret C hr hlk (by decide +kernel) (by decide) hQ (by decide) (by decide) ?_
        have hke : sg_k h a = sg_k h b := Option.some.inj c8
        unfold sg_eb at hp
        simp only [if_pos hke] at hp
        exact zz_b0 (P := fun x => post (some (zz_i x)) h) hp (fun z => zz_b_f c41 z.1)
    · refine zz_aload_n (q := 12) (f := 0) (i := 0) C (by decide +kernel) rfl rfl rfl ?_
      refine zz_getR (q := 15) C gf_S_19 (by decide +kernel) rfl (by first | rfl | assumption) hoa.1 ?_
      refine zz_getI (q := 18) C gf_S_63 (by decide +kernel) rfl (by first | rfl | assumption) rfl ?_
      refine zz_aload_n (q := 19) (f := 1) (i := 1) C (by decide +kernel) rfl rfl rfl ?_
      refine zz_getR (q := 22) C gf_S_19 (by decide +kernel) rfl (by first | rfl | assumption) hob.1 ?_
      refine zz_getI (q := 25) C gf_S_63 (by decide +kernel) rfl (by first | rfl | assumption) rfl ?_
      refine zz_icmp_ge (off := 7) (tgt := 32) (q := 28) C (by decide +kernel) (by decide) rfl (fun c25 => ?_) (fun c25 => ?_)
      · refine zz_iconst (q := 33) (n := 0) (x := 0) C (by decide +kernel) rfl (by decide +kernel) ?_
        refine zz_zret C hr hlk (by decide +kernel) (by decide) hQ (by decide) (by decide) ?_
        have hke : ¬ sg_k h a = sg_k h b := fun z => c8 (by rw [z])
        unfold sg_eb at hp
        simp only [if_neg hke] at hp
        first | exact zz_b1 (P := fun x => post (some (zz_i x)) h) hp (Int32.not_le.mp c25) | exact zz_b0 (P := fun x => post (some (zz_i x)) h) hp (fun z => Int32.not_le.mpr z c25)
      · refine zz_iconst (q := 29) (n := 1) (x := 1) C (by decide +kernel) rfl (by decide +kernel) ?_
        refine zz_goto (off := 4) (tgt := 33) C (by decide +kernel) (by decide) ?_
        refine zz_zret C hr hlk (by decide +kernel) (by decide) hQ (by decide) (by decide) ?_
        have hke : ¬ sg_k h a = sg_k h b := fun z => c8 (by rw [z])
        unfold sg_eb at hp
        simp only [if_neg hke] at hp
        first | exact zz_b1 (P := fun x => post (some (zz_i x)) h) hp (Int32.not_le.mp c25) | exact zz_b0 (P := fun x => post (some (zz_i x)) h) hp (fun z => Int32.not_le.mpr z c25)

def T_S_init : zz_Tr := fun as h post => ∃ a num k par, as = [zz_r 2 (some a), zz_i num, zz_r 1 k, zz_r 2 par] ∧ ∀ w, zz_tg h w = none → post none (zz_pR (zz_pR (zz_pI (zz_pR (zz_newA h 90 4 w) 2 3 a (some w)) 2 0 a num) 2 1 a k) 2 2 a par)
set_option maxRecDepth 100000 in
set_option maxHeartbeats 4000000 in
theorem m_S_init (l : Launch) : zz_Met l y_S_init w_S_init { frames := 1, cells := 1, slots := 4, locals := 12 } T_S_init := by
  refine zz_ofZ (by decide) (fun as h post hT => ?_) ?_
  · obtain ⟨a, num, k, par, rfl, hp⟩ := hT
    exact ⟨by simp [zz_cat], by simp⟩
  · intro D DA h as post hT p e s m args below meth c Q C hr hlk hnm hQ
    obtain ⟨a, num, k, par, rfl, hp⟩ := hT
    refine zz_aload_n (q := 1) (f := 0) (i := 0) C (by decide +kernel) rfl rfl rfl ?_
    refine zz_objInit (q := 4) C ol_S_3 zw_oi zw_oc (by decide +kernel) rfl (by first | rfl | assumption) (by decide) (by decide) ?_
    refine zz_aload_n (q := 5) (f := 0) (i := 0) C (by decide +kernel) rfl rfl rfl ?_
    refine zz_iconst (q := 6) (n := 4) (x := 4) C (by decide +kernel) rfl (by decide +kernel) ?_
    refine zz_newI (q := 8) (at9 := .int) (N := 4) C rfl an_a_I (by decide +kernel) (by decide) (by decide +kernel) rfl (by decide) (by decide) (fun a6 n6 => ?_)
    refine zz_putR (q := 11) C gf_S_9 (fun _ => ⟨hnm, fun _ _ _ h => by cases h; rfl⟩) (by decide +kernel) rfl (by first | rfl | assumption) ?_
    refine zz_aload_n (q := 12) (f := 0) (i := 0) C (by decide +kernel) rfl rfl rfl ?_
    refine zz_iload_n (q := 13) (f := 1) (i := 1) C (by decide +kernel) rfl rfl rfl ?_
    refine zz_putI (q := 16) C gf_S_15 (fun _ => ⟨hnm, fun _ _ _ h => by cases h; rfl⟩) (fun h => by cases h) (by decide +kernel) rfl (by first | rfl | assumption) ?_
    refine zz_aload_n (q := 17) (f := 0) (i := 0) C (by decide +kernel) rfl rfl rfl ?_
    refine zz_aload_n (q := 18) (f := 2) (i := 2) C (by decide +kernel) rfl rfl rfl ?_
    refine zz_putR (q := 21) C gf_S_19 (fun _ => ⟨hnm, fun _ _ _ h => by cases h; rfl⟩) (by decide +kernel) rfl (by first | rfl | assumption) ?_
    refine zz_aload_n (q := 22) (f := 0) (i := 0) C (by decide +kernel) rfl rfl rfl ?_
    refine zz_aload_n (q := 23) (f := 3) (i := 3) C (by decide +kernel) rfl rfl rfl ?_
    refine zz_putR (q := 26) C gf_S_23 (fun _ => ⟨hnm, fun _ _ _ h => by cases h; rfl⟩) (by decide +kernel) rfl (by first | rfl | assumption) ?_
    refine zz_vret C hr hlk (by decide +kernel) hQ (by decide) (by decide) ?_
    exact hp a6 n6

def T_K_init : zz_Tr := fun as h post => ∃ a t par ln sq u la lv, as = [zz_r 1 (some a), zz_i t, zz_r 1 par, zz_i ln, zz_i sq, zz_i u, zz_i la] ∧ (u = 0 ∨ u = 1) ∧ (la = 0 ∨ la = 1) ∧ (par = none → lv = 1) ∧ (∀ b, par = some b → b ≠ a ∧ lv = zz_fI h 1 2 b + 1) ∧ post none (zz_pI (zz_pI (zz_pI (zz_pI (zz_pI (zz_pR (zz_pI h 1 0 a t) 1 1 a par) 1 2 a lv) 1 3 a ln) 1 4 a sq) 1 5 a (zz_b (u ≠ 0 ∧ sq ≠ -1))) 1 6 a la)
set_option maxRecDepth 100000 in
set_option maxHeartbeats 4000000 in
theorem m_K_init (l : Launch) : zz_Met l y_K_init w_K_init { frames := 1, cells := 0, slots := 0, locals := 12 } T_K_init := by
  refine zz_ofZ (by decide) (fun as h post hT => ?_) ?_
  · obtain ⟨a, t, par, ln, sq, u, la, lv, rfl, hu, hla, hn, hs, hp⟩ := hT
    exact ⟨by simp [zz_cat], by simp⟩
  · intro D DA h as post hT p e s m args below meth c Q C hr hlk hnm hQ
    obtain ⟨a, t, par, ln, sq, u, la, lv, rfl, hu, hla, hn, hs, hp⟩ := hT
    have lp60 : ∀ x, x = zz_b (u ≠ 0 ∧ sq ≠ -1) → zz_Z p l e { frames := 1, cells := 0, slots := 0, locals := 12 } s m args below meth c Q D DA (zz_A h s.heap.size) h 7 60 [some (zz_r 1 (some a)), some (zz_i t), some (zz_r 1 par), some (zz_i ln), some (zz_i sq), some (zz_i u), some (zz_i la)] [zz_i x, zz_r 1 (some a)] (zz_pI (zz_pI (zz_pI (zz_pR (zz_pI h 1 0 a t) 1 1 a par) 1 2 a lv) 1 3 a ln) 1 4 a sq) 0 0 := by
      rintro x rfl
      refine zz_putI (q := 63) C gf_K_28 (fun _ => ⟨hnm, fun _ _ _ h => by cases h; rfl⟩) (fun _ => zz_b01 _) (by decide +kernel) rfl (by first | rfl | assumption) ?_
      refine zz_aload_n (q := 64) (f := 0) (i := 0) C (by decide +kernel) rfl rfl rfl ?_
      refine zz_iload (q := 66) (i := 6) C (by decide +kernel) rfl rfl ?_
      refine zz_putI (q := 69) C gf_K_32 (fun _ => ⟨hnm, fun _ _ _ h => by cases h; rfl⟩) (fun _ => hla) (by decide +kernel) rfl (by first | rfl | assumption) ?_
      refine zz_vret C hr hlk (by decide +kernel) hQ (by decide) (by decide) ?_
      exact hp
    have lp29 : ∀ x, x = lv → zz_Z p l e { frames := 1, cells := 0, slots := 0, locals := 12 } s m args below meth c Q D DA (zz_A h s.heap.size) h 7 29 [some (zz_r 1 (some a)), some (zz_i t), some (zz_r 1 par), some (zz_i ln), some (zz_i sq), some (zz_i u), some (zz_i la)] [zz_i x, zz_r 1 (some a)] (zz_pR (zz_pI h 1 0 a t) 1 1 a par) 0 0 := by
      rintro x rfl
      refine zz_putI (q := 32) C gf_K_19 (fun _ => ⟨hnm, fun _ _ _ h => by cases h; rfl⟩) (fun h => by cases h) (by decide +kernel) rfl (by first | rfl | assumption) ?_
      refine zz_aload_n (q := 33) (f := 0) (i := 0) C (by decide +kernel) rfl rfl rfl ?_
      refine zz_iload_n (q := 34) (f := 3) (i := 3) C (by decide +kernel) rfl rfl rfl ?_
      refine zz_putI (q := 37) C gf_K_22 (fun _ => ⟨hnm, fun _ _ _ h => by cases h; rfl⟩) (fun h => by cases h) (by decide +kernel) rfl (by first | rfl | assumption) ?_
      refine zz_aload_n (q := 38) (f := 0) (i := 0) C (by decide +kernel) rfl rfl rfl ?_
      refine zz_iload (q := 40) (i := 4) C (by decide +kernel) rfl rfl ?_
      refine zz_putI (q := 43) C gf_K_25 (fun _ => ⟨hnm, fun _ _ _ h => by cases h; rfl⟩) (fun h => by cases h) (by decide +kernel) rfl (by first | rfl | assumption) ?_
      refine zz_aload_n (q := 44) (f := 0) (i := 0) C (by decide +kernel) rfl rfl rfl ?_
      refine zz_iload (q := 46) (i := 5) C (by decide +kernel) rfl rfl ?_
      refine zz_if_eq (off := 13) (tgt := 59) (q := 49) C (by decide +kernel) (by decide) rfl (fun c46 => ?_) (fun c46 => ?_)
      · refine zz_iconst (q := 60) (n := 0) (x := 0) C (by decide +kernel) rfl (by decide +kernel) ?_
        -- AT 60
        refine lp60 _ ?_
        first | exact Eq.symm (zz_bT ⟨c46, c52⟩) | exact Eq.symm (zz_bF (fun z => z.2 c52)) | exact Eq.symm (zz_bF (fun z => z.1 c46))
      · refine zz_iload (q := 51) (i := 4) C (by decide +kernel) rfl rfl ?_
        refine zz_iconst (q := 52) (n := -1) (x := (-1)) C (by decide +kernel) rfl (by decide +kernel) ?_
        refine zz_icmp_eq (off := 7) (tgt := 59) (q := 55) C (by decide +kernel) (by decide) rfl (fun c52 => ?_) (fun c52 => ?_)
        · refine zz_iconst (q := 60) (n := 0) (x := 0) C (by decide +kernel) rfl (by decide +kernel) ?_
          -- AT 60
          refine lp60 _ ?_
          first | exact Eq.symm (zz_bT ⟨c46, c52⟩) | exact Eq.symm (zz_bF (fun z => z.2 c52)) | exact Eq.symm (zz_bF (fun z => z.1 c46))
        · refine zz_iconst (q := 56) (n := 1) (x := 1) C (by decide +kernel) rfl (by decide +kernel) ?_
          refine zz_goto (off := 4) (tgt := 60) C (by decide +kernel) (by decide) ?_
          -- AT 60
          refine lp60 _ ?_
          first | exact Eq.symm (zz_bT ⟨c46, c52⟩) | exact Eq.symm (zz_bF (fun z => z.2 c52)) | exact Eq.symm (zz_bF (fun z => z.1 c46))
    refine zz_aload_n (q := 1) (f := 0) (i := 0) C (by decide +kernel) rfl rfl rfl ?_
    refine zz_objInit (q := 4) C ol_K_3 zw_oi zw_oc (by decide +kernel) rfl (by first | rfl | assumption) (by decide) (by decide) ?_
    refine zz_aload_n (q := 5) (f := 0) (i := 0) C (by decide +kernel) rfl rfl rfl ?_
    refine zz_iload_n (q := 6) (f := 1) (i := 1) C (by decide +kernel) rfl rfl rfl ?_
    refine zz_putI (q := 9) C gf_K_9 (fun _ => ⟨hnm, fun _ _ _ h => by cases h; rfl⟩) (fun h => by cases h) (by decide +kernel) rfl (by first | rfl | assumption) ?_
    refine zz_aload_n (q := 10) (f := 0) (i := 0) C (by decide +kernel) rfl rfl rfl ?_
    refine zz_aload_n (q := 11) (f := 2) (i := 2) C (by decide +kernel) rfl rfl rfl ?_
    refine zz_putR (q := 14) C gf_K_15 (fun _ => ⟨hnm, fun _ _ _ h => by cases h; rfl⟩) (by decide +kernel) rfl (by first | rfl | assumption) ?_
    refine zz_aload_n (q := 15) (f := 0) (i := 0) C (by decide +kernel) rfl rfl rfl ?_
    refine zz_aload_n (q := 16) (f := 2) (i := 2) C (by decide +kernel) rfl rfl rfl ?_
    refine zz_ifnonnull (off := 7) (tgt := 23) (q := 19) C (by decide +kernel) (by decide) rfl (fun a16 c16 => ?_) (fun c16 => ?_)
    · refine zz_aload_n (q := 24) (f := 2) (i := 2) C (by decide +kernel) rfl rfl rfl ?_
      refine zz_getI (q := 27) C gf_K_19 (by decide +kernel) rfl (by first | rfl | assumption) (by rw [zz_fI_pR, zz_fI_pI, if_neg (fun z => (hs a16 c16).1 z.2.2)]) ?_
      refine zz_iconst (q := 28) (n := 1) (x := 1) C (by decide +kernel) rfl (by decide +kernel) ?_
      refine zz_iadd (q := 29) C (by decide +kernel) rfl (hs a16 c16).2.symm ?_
      -- AT 29
      first | exact lp29 _ rfl | exact lp29 _ (hn c16).symm
    · refine zz_iconst (q := 20) (n := 1) (x := 1) C (by decide +kernel) rfl (by decide +kernel) ?_
      refine zz_goto (off := 9) (tgt := 29) C (by decide +kernel) (by decide) ?_
      -- AT 29
      first | exact lp29 _ rfl | exact lp29 _ (hn c16).symm

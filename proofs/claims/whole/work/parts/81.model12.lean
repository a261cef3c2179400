/-! the reference: second, twins, word, parents -/
def mo_s1 (h : zz_H) (r : Nat) (t w : Int32) : Prop := ¬ mo_ty h r t ∨ ma h r 2 t.toNatClampNeg = -1 ∨ ¬ mo_hw h r t w
def mo_x1 (h : zz_H) (r : Nat) (t u : Int32) : Prop := ¬ mo_ty h r t ∨ ¬ mo_ty h r u ∨ t = u ∨ ma h r 4 t.toNatClampNeg ≠ ma h r 4 u.toNatClampNeg ∨ ma h r 5 t.toNatClampNeg ≠ ma h r 5 u.toNatClampNeg ∨ ma h r 5 t.toNatClampNeg = -1
def mo_x2 (h : zz_H) (r : Nat) (t u : Int32) : Prop := ma h r 8 t.toNatClampNeg ≠ -1 ∨ ma h r 8 u.toNatClampNeg ≠ -1 ∨ ¬ zz_fI h 7 12 r ≤ 0
theorem mo_ty9 {h : zz_H} {r : Nat} {t : Int32} (g : mo_ty h r t) : t.toNatClampNeg < 8 ∧ t = nI t.toNatClampNeg := nI_in9 nI_8 (by decide) (Int32.not_lt.mpr g.1) g.2.1
def mFp (h : zz_H) (r t s : Nat) : Prop := ma h r 15 s = ma h r 2 t ∧ mFo h r 4 (some s)
def T_M_second : zz_Tr := fun as h post => ∃ r t w, as = [zz_r 7 (some r), zz_i t, zz_i w] ∧ mo_ok h r ∧ (mo_s1 h r t w → post none (zz_pI (mo_bg h r) 7 0 r 1)) ∧ (¬ mo_s1 h r t w → (¬ zz_fI h 7 12 r ≤ 0 → post none (zz_pI (mo_bg h r) 7 0 r 2)) ∧ (zz_fI h 7 12 r ≤ 0 → post none (zz_pI (zz_pI (mo_bg h r) 7 9 r t) 7 10 r w)))
set_option maxRecDepth 100000 in
set_option maxHeartbeats 4000000 in
theorem m_M_second (l : Launch) : zz_Met l y_M_second w_M_second { frames := 2, cells := 0, slots := 0, locals := 34 } T_M_second := by
  refine zz_ofZ (by decide) (fun as h post hT => ?_) ?_
  · obtain ⟨r, t, w, rfl, hok, hp1, hp⟩ := hT
    exact ⟨by simp [zz_cat], by simp⟩
  · intro D DA h as post hT p e s m args below meth c Q C hr hlk hnm hQ
    obtain ⟨r, t, w, rfl, hok, hp1, hp⟩ := hT
    refine zz_aload_n (q := 1) (f := 0) (i := 0) C (by decide +kernel) rfl rfl rfl ?_
    refine zz_callV (q := 4) C (m_M_begin l) cv_M_91 (by decide +kernel) rfl rfl rfl (by first | rfl | assumption) (by decide) (by decide) (Nat.le_of_ble_eq_true rfl) ⟨_, rfl, ?_⟩
    refine zz_aload_n (q := 5) (f := 0) (i := 0) C (by decide +kernel) rfl rfl rfl ?_
    refine zz_iload_n (q := 6) (f := 1) (i := 1) C (by decide +kernel) rfl rfl rfl ?_
    refine zz_callV (q := 9) C (m_M_isType l) cv_M_94 (by decide +kernel) rfl rfl rfl (by first | rfl | assumption) (by decide) (by decide) (Nat.le_of_ble_eq_true rfl) ⟨_, _, rfl, hok, ?_⟩
    refine zz_if_eq (off := 22) (tgt := 31) (q := 12) C (by decide +kernel) (by decide) rfl (fun c9 => ?_) (fun c9 => ?_)
    · refine zz_aload_n (q := 32) (f := 0) (i := 0) C (by decide +kernel) rfl rfl rfl ?_
      refine zz_iconst (q := 33) (n := 1) (x := 1) C (by decide +kernel) rfl (by decide +kernel) ?_
      refine zz_putI (q := 36) C gf_M_88 (fun h => by cases h) (fun h => by cases h) (by decide +kernel) rfl (by first | rfl | assumption) ?_
      refine zz_vret C hr hlk (by decide +kernel) hQ (by decide) (by decide) ?_
      first
        | exact hp1 (Or.inl (zz_b_f c9))
        | exact hp1 (Or.inr (Or.inl c19))
        | exact hp1 (Or.inr (Or.inr (zz_b_f c28)))
    · have h9 := mo_ty9 (zz_b_t c9)
      refine zz_aload_n (q := 13) (f := 0) (i := 0) C (by decide +kernel) rfl rfl rfl ?_
      refine zz_getR (q := 16) C gf_M_13 (by decide +kernel) rfl (by first | rfl | assumption) (hok 2 90 8 rfl).1 ?_
      refine zz_iload_n (q := 17) (f := 1) (i := 1) C (by decide +kernel) rfl rfl rfl ?_
      refine zz_iaload (q := 18) C (by decide +kernel) rfl rfl (hok 2 90 8 rfl).2 h9.2 h9.1 (by decide) rfl ?_
      refine zz_iconst (q := 19) (n := -1) (x := (-1)) C (by decide +kernel) rfl (by decide +kernel) ?_
      refine zz_icmp_eq (off := 12) (tgt := 31) (q := 22) C (by decide +kernel) (by decide) rfl (fun c19 => ?_) (fun c19 => ?_)
      · refine zz_aload_n (q := 32) (f := 0) (i := 0) C (by decide +kernel) rfl rfl rfl ?_
        refine zz_iconst (q := 33) (n := 1) (x := 1) C (by decide +kernel) rfl (by decide +kernel) ?_
        refine zz_putI (q := 36) C gf_M_88 (fun h => by cases h) (fun h => by cases h) (by decide +kernel) rfl (by first | rfl | assumption) ?_
        refine zz_vret C hr hlk (by decide +kernel) hQ (by decide) (by decide) ?_
        first
          | exact hp1 (Or.inl (zz_b_f c9))
          | exact hp1 (Or.inr (Or.inl c19))
          | exact hp1 (Or.inr (Or.inr (zz_b_f c28)))
      · refine zz_aload_n (q := 23) (f := 0) (i := 0) C (by decide +kernel) rfl rfl rfl ?_
        refine zz_iload_n (q := 24) (f := 1) (i := 1) C (by decide +kernel) rfl rfl rfl ?_
        refine zz_iload_n (q := 25) (f := 2) (i := 2) C (by decide +kernel) rfl rfl rfl ?_
        refine zz_callV (q := 28) C (m_M_hasWord l) cv_M_101 (by decide +kernel) rfl rfl rfl (by first | rfl | assumption) (by decide) (by decide) (Nat.le_of_ble_eq_true rfl) ⟨_, _, _, t.toNatClampNeg, rfl, hok, h9.1, h9.2, ?_⟩
        refine zz_if_ne (off := 9) (tgt := 37) (q := 31) C (by decide +kernel) (by decide) rfl (fun c28 => ?_) (fun c28 => ?_)
        · have hno : ¬ mo_s1 h r t w := fun z => z.elim (fun k => k (zz_b_t c9)) (fun k => k.elim c19 (fun k => k (zz_b_t c28)))
          refine zz_aload_n (q := 38) (f := 0) (i := 0) C (by decide +kernel) rfl rfl rfl ?_
          refine zz_getI (q := 41) C gf_M_98 (by decide +kernel) rfl (by first | rfl | assumption) rfl ?_
          refine zz_if_le (off := 9) (tgt := 50) (q := 44) C (by decide +kernel) (by decide) rfl (fun c41 => ?_) (fun c41 => ?_)
          · refine zz_aload_n (q := 51) (f := 0) (i := 0) C (by decide +kernel) rfl rfl rfl ?_
            refine zz_iload_n (q := 52) (f := 1) (i := 1) C (by decide +kernel) rfl rfl rfl ?_
            refine zz_putI (q := 55) C gf_M_35 (fun h => by cases h) (fun h => by cases h) (by decide +kernel) rfl (by first | rfl | assumption) ?_
            refine zz_aload_n (q := 56) (f := 0) (i := 0) C (by decide +kernel) rfl rfl rfl ?_
            refine zz_iload_n (q := 57) (f := 2) (i := 2) C (by decide +kernel) rfl rfl rfl ?_
            refine zz_putI (q := 60) C gf_M_105 (fun h => by cases h) (fun h => by cases h) (by decide +kernel) rfl (by first | rfl | assumption) ?_
            refine zz_vret C hr hlk (by decide +kernel) hQ (by decide) (by decide) ?_
            exact (hp hno).2 c41
          · refine zz_aload_n (q := 45) (f := 0) (i := 0) C (by decide +kernel) rfl rfl rfl ?_
            refine zz_iconst (q := 46) (n := 2) (x := 2) C (by decide +kernel) rfl (by decide +kernel) ?_
            refine zz_putI (q := 49) C gf_M_88 (fun h => by cases h) (fun h => by cases h) (by decide +kernel) rfl (by first | rfl | assumption) ?_
            refine zz_vret C hr hlk (by decide +kernel) hQ (by decide) (by decide) ?_
            exact (hp hno).1 c41
        · refine zz_aload_n (q := 32) (f := 0) (i := 0) C (by decide +kernel) rfl rfl rfl ?_
          refine zz_iconst (q := 33) (n := 1) (x := 1) C (by decide +kernel) rfl (by decide +kernel) ?_
          refine zz_putI (q := 36) C gf_M_88 (fun h => by cases h) (fun h => by cases h) (by decide +kernel) rfl (by first | rfl | assumption) ?_
          refine zz_vret C hr hlk (by decide +kernel) hQ (by decide) (by decide) ?_
          first
            | exact hp1 (Or.inl (zz_b_f c9))
            | exact hp1 (Or.inr (Or.inl c19))
            | exact hp1 (Or.inr (Or.inr (zz_b_f c28)))

def T_M_twins : zz_Tr := fun as h post => ∃ r t u, as = [zz_r 7 (some r), zz_i t, zz_i u] ∧ mo_ok h r ∧ (mo_x1 h r t u → post none (zz_pI (mo_bg h r) 7 0 r 1)) ∧ (¬ mo_x1 h r t u → (mo_x2 h r t u → post none (zz_pI (mo_bg h r) 7 0 r 2)) ∧ (¬ mo_x2 h r t u → post none (zz_sI (zz_sI (mo_bg h r) (mf h r 8) t.toNatClampNeg u) (mf h r 8) u.toNatClampNeg t)))
set_option maxRecDepth 100000 in
set_option maxHeartbeats 4000000 in
theorem m_M_twins (l : Launch) : zz_Met l y_M_twins w_M_twins { frames := 2, cells := 0, slots := 0, locals := 33 } T_M_twins := by
  refine zz_ofZ (by decide) (fun as h post hT => ?_) ?_
  · obtain ⟨r, t, u, rfl, hok, hp1, hp⟩ := hT
    exact ⟨by simp [zz_cat], by simp⟩
  · intro D DA h as post hT p e s m args below meth c Q C hr hlk hnm hQ
    obtain ⟨r, t, u, rfl, hok, hp1, hp⟩ := hT
    refine zz_aload_n (q := 1) (f := 0) (i := 0) C (by decide +kernel) rfl rfl rfl ?_
    refine zz_callV (q := 4) C (m_M_begin l) cv_M_91 (by decide +kernel) rfl rfl rfl (by first | rfl | assumption) (by decide) (by decide) (Nat.le_of_ble_eq_true rfl) ⟨_, rfl, ?_⟩
    refine zz_aload_n (q := 5) (f := 0) (i := 0) C (by decide +kernel) rfl rfl rfl ?_
    refine zz_iload_n (q := 6) (f := 1) (i := 1) C (by decide +kernel) rfl rfl rfl ?_
    refine zz_callV (q := 9) C (m_M_isType l) cv_M_94 (by decide +kernel) rfl rfl rfl (by first | rfl | assumption) (by decide) (by decide) (Nat.le_of_ble_eq_true rfl) ⟨_, _, rfl, hok, ?_⟩
    refine zz_if_eq (off := 56) (tgt := 65) (q := 12) C (by decide +kernel) (by decide) rfl (fun c9 => ?_) (fun c9 => ?_)
    · refine zz_aload_n (q := 66) (f := 0) (i := 0) C (by decide +kernel) rfl rfl rfl ?_
      refine zz_iconst (q := 67) (n := 1) (x := 1) C (by decide +kernel) rfl (by decide +kernel) ?_
      refine zz_putI (q := 70) C gf_M_88 (fun h => by cases h) (fun h => by cases h) (by decide +kernel) rfl (by first | rfl | assumption) ?_
      refine zz_vret C hr hlk (by decide +kernel) hQ (by decide) (by decide) ?_
      first
        | exact hp1 (Or.inl (zz_b_f c9))
        | exact hp1 (Or.inr (Or.inl (zz_b_f c17)))
        | exact hp1 (Or.inr (Or.inr (Or.inl c22)))
        | exact hp1 (Or.inr (Or.inr (Or.inr (Or.inl c37))))
        | exact hp1 (Or.inr (Or.inr (Or.inr (Or.inr (Or.inl c52)))))
        | exact hp1 (Or.inr (Or.inr (Or.inr (Or.inr (Or.inr (c62))))))
    · have h9 := mo_ty9 (zz_b_t c9)
      refine zz_aload_n (q := 13) (f := 0) (i := 0) C (by decide +kernel) rfl rfl rfl ?_
      refine zz_iload_n (q := 14) (f := 2) (i := 2) C (by decide +kernel) rfl rfl rfl ?_
      refine zz_callV (q := 17) C (m_M_isType l) cv_M_94 (by decide +kernel) rfl rfl rfl (by first | rfl | assumption) (by decide) (by decide) (Nat.le_of_ble_eq_true rfl) ⟨_, _, rfl, hok, ?_⟩
      refine zz_if_eq (off := 48) (tgt := 65) (q := 20) C (by decide +kernel) (by decide) rfl (fun c17 => ?_) (fun c17 => ?_)
      · refine zz_aload_n (q := 66) (f := 0) (i := 0) C (by decide +kernel) rfl rfl rfl ?_
        refine zz_iconst (q := 67) (n := 1) (x := 1) C (by decide +kernel) rfl (by decide +kernel) ?_
        refine zz_putI (q := 70) C gf_M_88 (fun h => by cases h) (fun h => by cases h) (by decide +kernel) rfl (by first | rfl | assumption) ?_
        refine zz_vret C hr hlk (by decide +kernel) hQ (by decide) (by decide) ?_
        first
          | exact hp1 (Or.inl (zz_b_f c9))
          | exact hp1 (Or.inr (Or.inl (zz_b_f c17)))
          | exact hp1 (Or.inr (Or.inr (Or.inl c22)))
          | exact hp1 (Or.inr (Or.inr (Or.inr (Or.inl c37))))
          | exact hp1 (Or.inr (Or.inr (Or.inr (Or.inr (Or.inl c52)))))
          | exact hp1 (Or.inr (Or.inr (Or.inr (Or.inr (Or.inr (c62))))))
      · have h8 := mo_ty9 (zz_b_t c17)
        refine zz_iload_n (q := 21) (f := 1) (i := 1) C (by decide +kernel) rfl rfl rfl ?_
        refine zz_iload_n (q := 22) (f := 2) (i := 2) C (by decide +kernel) rfl rfl rfl ?_
        refine zz_icmp_eq (off := 43) (tgt := 65) (q := 25) C (by decide +kernel) (by decide) rfl (fun c22 => ?_) (fun c22 => ?_)
        · refine zz_aload_n (q := 66) (f := 0) (i := 0) C (by decide +kernel) rfl rfl rfl ?_
          refine zz_iconst (q := 67) (n := 1) (x := 1) C (by decide +kernel) rfl (by decide +kernel) ?_
          refine zz_putI (q := 70) C gf_M_88 (fun h => by cases h) (fun h => by cases h) (by decide +kernel) rfl (by first | rfl | assumption) ?_
          refine zz_vret C hr hlk (by decide +kernel) hQ (by decide) (by decide) ?_
          first
            | exact hp1 (Or.inl (zz_b_f c9))
            | exact hp1 (Or.inr (Or.inl (zz_b_f c17)))
            | exact hp1 (Or.inr (Or.inr (Or.inl c22)))
            | exact hp1 (Or.inr (Or.inr (Or.inr (Or.inl c37))))
            | exact hp1 (Or.inr (Or.inr (Or.inr (Or.inr (Or.inl c52)))))
            | exact hp1 (Or.inr (Or.inr (Or.inr (Or.inr (Or.inr (c62))))))
        · refine zz_aload_n (q := 26) (f := 0) (i := 0) C (by decide +kernel) rfl rfl rfl ?_
          refine zz_getR (q := 29) C gf_M_20 (by decide +kernel) rfl (by first | rfl | assumption) (hok 4 90 8 rfl).1 ?_
          refine zz_iload_n (q := 30) (f := 1) (i := 1) C (by decide +kernel) rfl rfl rfl ?_
          refine zz_iaload (q := 31) C (by decide +kernel) rfl rfl (hok 4 90 8 rfl).2 h9.2 h9.1 (by decide) rfl ?_
          refine zz_aload_n (q := 32) (f := 0) (i := 0) C (by decide +kernel) rfl rfl rfl ?_
          refine zz_getR (q := 35) C gf_M_20 (by decide +kernel) rfl (by first | rfl | assumption) (hok 4 90 8 rfl).1 ?_
          refine zz_iload_n (q := 36) (f := 2) (i := 2) C (by decide +kernel) rfl rfl rfl ?_
          refine zz_iaload (q := 37) C (by decide +kernel) rfl rfl (hok 4 90 8 rfl).2 h8.2 h8.1 (by decide) rfl ?_
          refine zz_icmp_ne (off := 28) (tgt := 65) (q := 40) C (by decide +kernel) (by decide) rfl (fun c37 => ?_) (fun c37 => ?_)
          · refine zz_aload_n (q := 66) (f := 0) (i := 0) C (by decide +kernel) rfl rfl rfl ?_
            refine zz_iconst (q := 67) (n := 1) (x := 1) C (by decide +kernel) rfl (by decide +kernel) ?_
            refine zz_putI (q := 70) C gf_M_88 (fun h => by cases h) (fun h => by cases h) (by decide +kernel) rfl (by first | rfl | assumption) ?_
            refine zz_vret C hr hlk (by decide +kernel) hQ (by decide) (by decide) ?_
            first
              | exact hp1 (Or.inl (zz_b_f c9))
              | exact hp1 (Or.inr (Or.inl (zz_b_f c17)))
              | exact hp1 (Or.inr (Or.inr (Or.inl c22)))
              | exact hp1 (Or.inr (Or.inr (Or.inr (Or.inl c37))))
              | exact hp1 (Or.inr (Or.inr (Or.inr (Or.inr (Or.inl c52)))))
              | exact hp1 (Or.inr (Or.inr (Or.inr (Or.inr (Or.inr (c62))))))
          · refine zz_aload_n (q := 41) (f := 0) (i := 0) C (by decide +kernel) rfl rfl rfl ?_
            refine zz_getR (q := 44) C gf_M_23 (by decide +kernel) rfl (by first | rfl | assumption) (hok 5 90 8 rfl).1 ?_
            refine zz_iload_n (q := 45) (f := 1) (i := 1) C (by decide +kernel) rfl rfl rfl ?_
            refine zz_iaload (q := 46) C (by decide +kernel) rfl rfl (hok 5 90 8 rfl).2 h9.2 h9.1 (by decide) rfl ?_
            refine zz_aload_n (q := 47) (f := 0) (i := 0) C (by decide +kernel) rfl rfl rfl ?_
            refine zz_getR (q := 50) C gf_M_23 (by decide +kernel) rfl (by first | rfl | assumption) (hok 5 90 8 rfl).1 ?_
            refine zz_iload_n (q := 51) (f := 2) (i := 2) C (by decide +kernel) rfl rfl rfl ?_
            refine zz_iaload (q := 52) C (by decide +kernel) rfl rfl (hok 5 90 8 rfl).2 h8.2 h8.1 (by decide) rfl ?_
            refine zz_icmp_ne (off := 13) (tgt := 65) (q := 55) C (by decide +kernel) (by decide) rfl (fun c52 => ?_) (fun c52 => ?_)
            · refine zz_aload_n (q := 66) (f := 0) (i := 0) C (by decide +kernel) rfl rfl rfl ?_
              refine zz_iconst (q := 67) (n := 1) (x := 1) C (by decide +kernel) rfl (by decide +kernel) ?_
              refine zz_putI (q := 70) C gf_M_88 (fun h => by cases h) (fun h => by cases h) (by decide +kernel) rfl (by first | rfl | assumption) ?_
              refine zz_vret C hr hlk (by decide +kernel) hQ (by decide) (by decide) ?_
              first
                | exact hp1 (Or.inl (zz_b_f c9))
                | exact hp1 (Or.inr (Or.inl (zz_b_f c17)))
                | exact hp1 (Or.inr (Or.inr (Or.inl c22)))
                | exact hp1 (Or.inr (Or.inr (Or.inr (Or.inl c37))))
                | exact hp1 (Or.inr (Or.inr (Or.inr (Or.inr (Or.inl c52)))))
                | exact hp1 (Or.inr (Or.inr (Or.inr (Or.inr (Or.inr (c62))))))
            · refine zz_aload_n (q := 56) (f := 0) (i := 0) C (by decide +kernel) rfl rfl rfl ?_
              refine zz_getR (q := 59) C gf_M_23 (by decide +kernel) rfl (by first | rfl | assumption) (hok 5 90 8 rfl).1 ?_
              refine zz_iload_n (q := 60) (f := 1) (i := 1) C (by decide +kernel) rfl rfl rfl ?_
              refine zz_iaload (q := 61) C (by decide +kernel) rfl rfl (hok 5 90 8 rfl).2 h9.2 h9.1 (by decide) rfl ?_
              refine zz_iconst (q := 62) (n := -1) (x := (-1)) C (by decide +kernel) rfl (by decide +kernel) ?_
              refine zz_icmp_ne (off := 9) (tgt := 71) (q := 65) C (by decide +kernel) (by decide) rfl (fun c62 => ?_) (fun c62 => ?_)
              · have hno : ¬ mo_x1 h r t u := by
                  rintro (z | z | z | z | z | z)
                  · exact z (zz_b_t c9)
                  · exact z (zz_b_t c17)
                  · exact c22 z
                  · exact z c37
                  · exact z c52
                  · exact c62 z
                refine zz_aload_n (q := 72) (f := 0) (i := 0) C (by decide +kernel) rfl rfl rfl ?_
                refine zz_getR (q := 75) C gf_M_32 (by decide +kernel) rfl (by first | rfl | assumption) (hok 8 90 8 rfl).1 ?_
                refine zz_iload_n (q := 76) (f := 1) (i := 1) C (by decide +kernel) rfl rfl rfl ?_
                refine zz_iaload (q := 77) C (by decide +kernel) rfl rfl (hok 8 90 8 rfl).2 h9.2 h9.1 (by decide) rfl ?_
                refine zz_iconst (q := 78) (n := -1) (x := (-1)) C (by decide +kernel) rfl (by decide +kernel) ?_
                refine zz_icmp_ne (off := 20) (tgt := 98) (q := 81) C (by decide +kernel) (by decide) rfl (fun c78 => ?_) (fun c78 => ?_)
                · refine zz_aload_n (q := 99) (f := 0) (i := 0) C (by decide +kernel) rfl rfl rfl ?_
                  refine zz_iconst (q := 100) (n := 2) (x := 2) C (by decide +kernel) rfl (by decide +kernel) ?_
                  refine zz_putI (q := 103) C gf_M_88 (fun h => by cases h) (fun h => by cases h) (by decide +kernel) rfl (by first | rfl | assumption) ?_
                  refine zz_vret C hr hlk (by decide +kernel) hQ (by decide) (by decide) ?_
                  first
                    | exact (hp hno).1 (Or.inl c78)
                    | exact (hp hno).1 (Or.inr (Or.inl c88))
                    | exact (hp hno).1 (Or.inr (Or.inr (c95)))
                · refine zz_aload_n (q := 82) (f := 0) (i := 0) C (by decide +kernel) rfl rfl rfl ?_
                  refine zz_getR (q := 85) C gf_M_32 (by decide +kernel) rfl (by first | rfl | assumption) (hok 8 90 8 rfl).1 ?_
                  refine zz_iload_n (q := 86) (f := 2) (i := 2) C (by decide +kernel) rfl rfl rfl ?_
                  refine zz_iaload (q := 87) C (by decide +kernel) rfl rfl (hok 8 90 8 rfl).2 h8.2 h8.1 (by decide) rfl ?_
                  refine zz_iconst (q := 88) (n := -1) (x := (-1)) C (by decide +kernel) rfl (by decide +kernel) ?_
                  refine zz_icmp_ne (off := 10) (tgt := 98) (q := 91) C (by decide +kernel) (by decide) rfl (fun c88 => ?_) (fun c88 => ?_)
                  · refine zz_aload_n (q := 99) (f := 0) (i := 0) C (by decide +kernel) rfl rfl rfl ?_
                    refine zz_iconst (q := 100) (n := 2) (x := 2) C (by decide +kernel) rfl (by decide +kernel) ?_
                    refine zz_putI (q := 103) C gf_M_88 (fun h => by cases h) (fun h => by cases h) (by decide +kernel) rfl (by first | rfl | assumption) ?_
                    refine zz_vret C hr hlk (by decide +kernel) hQ (by decide) (by decide) ?_
                    first
                      | exact (hp hno).1 (Or.inl c78)
                      | exact (hp hno).1 (Or.inr (Or.inl c88))
                      | exact (hp hno).1 (Or.inr (Or.inr (c95)))
                  · refine zz_aload_n (q := 92) (f := 0) (i := 0) C (by decide +kernel) rfl rfl rfl ?_
                    refine zz_getI (q := 95) C gf_M_98 (by decide +kernel) rfl (by first | rfl | assumption) rfl ?_
                    refine zz_if_le (off := 9) (tgt := 104) (q := 98) C (by decide +kernel) (by decide) rfl (fun c95 => ?_) (fun c95 => ?_)
                    · refine zz_aload_n (q := 105) (f := 0) (i := 0) C (by decide +kernel) rfl rfl rfl ?_
                      refine zz_getR (q := 108) C gf_M_32 (by decide +kernel) rfl (by first | rfl | assumption) (hok 8 90 8 rfl).1 ?_
                      refine zz_iload_n (q := 109) (f := 1) (i := 1) C (by decide +kernel) rfl rfl rfl ?_
                      refine zz_iload_n (q := 110) (f := 2) (i := 2) C (by decide +kernel) rfl rfl rfl ?_
                      refine zz_iastore (q := 111) C (by decide +kernel) rfl rfl (hok 8 90 8 rfl).2 h9.2 h9.1 (by decide) ?_
                      refine zz_aload_n (q := 112) (f := 0) (i := 0) C (by decide +kernel) rfl rfl rfl ?_
                      refine zz_getR (q := 115) C gf_M_32 (by decide +kernel) rfl (by first | rfl | assumption) (hok 8 90 8 rfl).1 ?_
                      refine zz_iload_n (q := 116) (f := 2) (i := 2) C (by decide +kernel) rfl rfl rfl ?_
                      refine zz_iload_n (q := 117) (f := 1) (i := 1) C (by decide +kernel) rfl rfl rfl ?_
                      refine zz_iastore (q := 118) C (by decide +kernel) rfl rfl (hok 8 90 8 rfl).2 h8.2 h8.1 (by decide) ?_
                      refine zz_vret C hr hlk (by decide +kernel) hQ (by decide) (by decide) ?_
                      exact (hp hno).2 (by
                        rintro (z | z | z)
                        · exact z c78
                        · exact z c88
                        · exact z c95)
                    · refine zz_aload_n (q := 99) (f := 0) (i := 0) C (by decide +kernel) rfl rfl rfl ?_
                      refine zz_iconst (q := 100) (n := 2) (x := 2) C (by decide +kernel) rfl (by decide +kernel) ?_
                      refine zz_putI (q := 103) C gf_M_88 (fun h => by cases h) (fun h => by cases h) (by decide +kernel) rfl (by first | rfl | assumption) ?_
                      refine zz_vret C hr hlk (by decide +kernel) hQ (by decide) (by decide) ?_
                      first
                        | exact (hp hno).1 (Or.inl c78)
                        | exact (hp hno).1 (Or.inr (Or.inl c88))
                        | exact (hp hno).1 (Or.inr (Or.inr (c95)))
              · refine zz_aload_n (q := 66) (f := 0) (i := 0) C (by decide +kernel) rfl rfl rfl ?_
                refine zz_iconst (q := 67) (n := 1) (x := 1) C (by decide +kernel) rfl (by decide +kernel) ?_
                refine zz_putI (q := 70) C gf_M_88 (fun h => by cases h) (fun h => by cases h) (by decide +kernel) rfl (by first | rfl | assumption) ?_
                refine zz_vret C hr hlk (by decide +kernel) hQ (by decide) (by decide) ?_
                first
                  | exact hp1 (Or.inl (zz_b_f c9))
                  | exact hp1 (Or.inr (Or.inl (zz_b_f c17)))
                  | exact hp1 (Or.inr (Or.inr (Or.inl c22)))
                  | exact hp1 (Or.inr (Or.inr (Or.inr (Or.inl c37))))
                  | exact hp1 (Or.inr (Or.inr (Or.inr (Or.inr (Or.inl c52)))))
                  | exact hp1 (Or.inr (Or.inr (Or.inr (Or.inr (Or.inr (c62))))))

def T_M_word : zz_Tr := fun as h post => ∃ r i, as = [zz_r 7 (some r), zz_i i] ∧ mo_ok h r ∧ mo_wl h r ∧ mo_wt h r ∧ mo_kd h r ∧ (zz_fI h 7 28 r ≠ 1 → post (some (zz_i 0)) (zz_pI (zz_pI h 7 0 r 0) 7 0 r 1)) ∧ (zz_fI h 7 28 r = 1 → ∃ w, zz_fI h 7 29 r = nI w ∧ mLive h r w ∧ (¬ mo_hw h r (nI (mK h r w)) i → post (some (zz_i 0)) (zz_pI (zz_pI h 7 0 r 0) 7 0 r 2)) ∧ (mo_hw h r (nI (mK h r w)) i → post (some (zz_i (ma h r 18 (4 * w + i.toNatClampNeg)))) (zz_pI h 7 0 r 0)))
set_option maxRecDepth 100000 in
set_option maxHeartbeats 4000000 in
theorem m_M_word (l : Launch) : zz_Met l y_M_word w_M_word { frames := 2, cells := 0, slots := 0, locals := 34 } T_M_word := by
  refine zz_ofZ (by decide) (fun as h post hT => ?_) ?_
  · obtain ⟨r, i, rfl, hok, hwl, hwt, hkd, hp0, hp⟩ := hT
    exact ⟨by simp [zz_cat], by simp⟩
  · intro D DA h as post hT p e s m args below meth c Q C hr hlk hnm hQ
    obtain ⟨r, i, rfl, hok, hwl, hwt, hkd, hp0, hp⟩ := hT
    refine zz_aload_n (q := 1) (f := 0) (i := 0) C (by decide +kernel) rfl rfl rfl ?_
    refine zz_iconst (q := 2) (n := 0) (x := 0) C (by decide +kernel) rfl (by decide +kernel) ?_
    refine zz_putI (q := 5) C gf_M_88 (fun h => by cases h) (fun h => by cases h) (by decide +kernel) rfl (by first | rfl | assumption) ?_
    refine zz_aload_n (q := 6) (f := 0) (i := 0) C (by decide +kernel) rfl rfl rfl ?_
    refine zz_getI (q := 9) C gf_M_144 (by decide +kernel) rfl (by first | rfl | assumption) rfl ?_
    refine zz_iconst (q := 10) (n := 1) (x := 1) C (by decide +kernel) rfl (by decide +kernel) ?_
    refine zz_icmp_eq (off := 9) (tgt := 19) (q := 13) C (by decide +kernel) (by decide) rfl (fun c10 => ?_) (fun c10 => ?_)
    · obtain ⟨w, b1, b2, b3, b4⟩ := hp c10
      have hw60 := b2.1
      obtain ⟨e1, e2, -⟩ := hwl w b2
      obtain ⟨-, -, -, -, n9, s1, s2, s3, -⟩ := hwt (mK h r w) e2 (hkd w b2)
      refine zz_aload_n (q := 20) (f := 0) (i := 0) C (by decide +kernel) rfl rfl rfl ?_
      refine zz_aload_n (q := 21) (f := 0) (i := 0) C (by decide +kernel) rfl rfl rfl ?_
      refine zz_getR (q := 24) C gf_M_42 (by decide +kernel) rfl (by first | rfl | assumption) (hok 15 90 60 rfl).1 ?_
      refine zz_aload_n (q := 25) (f := 0) (i := 0) C (by decide +kernel) rfl rfl rfl ?_
      refine zz_getI (q := 28) C gf_M_147 (by decide +kernel) rfl (by first | rfl | assumption) b1 ?_
      refine zz_iaload (q := 29) C (by decide +kernel) rfl rfl (hok 15 90 60 rfl).2 rfl (by omega) (by decide) e1 ?_
      refine zz_iload_n (q := 30) (f := 1) (i := 1) C (by decide +kernel) rfl rfl rfl ?_
      refine zz_callV (q := 33) C (m_M_hasWord l) cv_M_101 (by decide +kernel) rfl rfl rfl (by first | rfl | assumption) (by decide) (by decide) (Nat.le_of_ble_eq_true rfl) ⟨_, _, _, mK h r w, rfl, hok, e2, rfl, ?_⟩
      refine zz_if_eq (off := 19) (tgt := 52) (q := 36) C (by decide +kernel) (by decide) rfl (fun c33 => ?_) (fun c33 => ?_)
      · refine zz_aload_n (q := 53) (f := 0) (i := 0) C (by decide +kernel) rfl rfl rfl ?_
        refine zz_iconst (q := 54) (n := 2) (x := 2) C (by decide +kernel) rfl (by decide +kernel) ?_
        refine zz_callV (q := 57) C (m_M_refuse l) cv_M_173 (by decide +kernel) rfl rfl rfl (by first | rfl | assumption) (by decide) (by decide) (Nat.le_of_ble_eq_true rfl) ⟨_, _, rfl, ?_⟩
        refine zz_iret C hr hlk (by decide +kernel) hQ (by decide) (by decide) ?_
        first | exact b4 g9 | exact b3 (zz_b_f c33)
      · have g9 := zz_b_t c33
        have g8 : i < nI n9 := by
          have := g9.2
          rw [nI_clamp (by omega)] at this
          exact s3 ▸ this
        have h9 := nI_in9 (n := n9) rfl (by omega) (Int32.not_lt.mpr g9.1) g8
        refine zz_aload_n (q := 37) (f := 0) (i := 0) C (by decide +kernel) rfl rfl rfl ?_
        refine zz_getR (q := 40) C gf_M_51 (by decide +kernel) rfl (by first | rfl | assumption) (hok 18 90 240 rfl).1 ?_
        refine zz_iconst (q := 41) (n := 4) (x := 4) C (by decide +kernel) rfl (by decide +kernel) ?_
        refine zz_aload_n (q := 42) (f := 0) (i := 0) C (by decide +kernel) rfl rfl rfl ?_
        refine zz_getI (q := 45) C gf_M_147 (by decide +kernel) rfl (by first | rfl | assumption) b1 ?_
        refine zz_imul (q := 46) C (by decide +kernel) rfl (nI_mul9 4 _) ?_
        refine zz_iload_n (q := 47) (f := 1) (i := 1) C (by decide +kernel) rfl rfl rfl ?_
        refine zz_iadd (q := 48) C (by decide +kernel) rfl (nI_addE h9.2) ?_
        refine zz_iaload (q := 49) C (by decide +kernel) rfl rfl (hok 18 90 240 rfl).2 rfl (by omega) (by decide) rfl ?_
        refine zz_goto (off := 8) (tgt := 57) C (by decide +kernel) (by decide) ?_
        refine zz_iret C hr hlk (by decide +kernel) hQ (by decide) (by decide) ?_
        first | exact b4 g9 | exact b3 (zz_b_f c33)
    · refine zz_aload_n (q := 14) (f := 0) (i := 0) C (by decide +kernel) rfl rfl rfl ?_
      refine zz_iconst (q := 15) (n := 1) (x := 1) C (by decide +kernel) rfl (by decide +kernel) ?_
      refine zz_callV (q := 18) C (m_M_refuse l) cv_M_173 (by decide +kernel) rfl rfl rfl (by first | rfl | assumption) (by decide) (by decide) (Nat.le_of_ble_eq_true rfl) ⟨_, _, rfl, ?_⟩
      refine zz_iret C hr hlk (by decide +kernel) hQ (by decide) (by decide) ?_
      exact hp0 c10

def T_M_findParent : zz_Tr := fun as h post => ∃ r t9 sw t2, as = [zz_r 7 (some r), zz_i (nI t9)] ∧ t9 < 8 ∧ mo_W h r sw t2 ∧ ∀ y Ls x, mo_Sd h r sw t2 y Ls x → ∀ res, or_first Ls.length 0 (fun k => mFp (mo_so h y x) r t9 (Ls.getD k 0)) (fun k => Ls.getD k 0) res → post (some (zz_i (mO res))) (mo_so h y x)
set_option maxRecDepth 100000 in
set_option maxHeartbeats 4000000 in
theorem m_M_findParent (l : Launch) : zz_Met l y_M_findParent w_M_findParent { frames := 5, cells := 0, slots := 0, locals := 108 } T_M_findParent := by
  refine zz_ofZ (by decide) (fun as h post hT => ?_) ?_
  · obtain ⟨r, t9, sw, t2, rfl, ht8, hW, hp⟩ := hT
    exact ⟨by simp [zz_cat], by simp⟩
  · intro D DA h as post hT p e s m args below meth c Q C hr hlk hnm hQ
    obtain ⟨r, t9, sw, t2, rfl, ht8, hW, hp⟩ := hT
    have lp6 : ∀ y Ls x, mo_Sd h r sw t2 y Ls x → ∀ n k v3, 62 ≤ n + k → k ≤ 61 → (∀ j, 0 ≤ j → j < k → ¬ mFp (mo_so h y x) r t9 (Ls.getD j 0)) → zz_Z p l e { frames := 5, cells := 0, slots := 0, locals := 108 } s m args below meth c Q D DA (zz_A h s.heap.size) h 4 6 [some (zz_r 7 (some r)), some (zz_i (nI t9)), some (zz_i (nI k)), v3] [] (mo_so h y x) 0 0 := by
      intro y Ls x hS n
      have hok := hW.2.2.1
      have hl60 := mo_so_60 hS
      have hwl := mo_so_wl hW hS
      induction n with
      | zero =>
        intro k v3 hn hk61
        exact absurd hn (by omega)
      | succ n ih =>
        intro k v3 hn hk61 hall
        refine zz_iload_n (q := 7) (f := 2) (i := 2) C (by decide +kernel) rfl rfl rfl ?_
        refine zz_aload_n (q := 8) (f := 0) (i := 0) C (by decide +kernel) rfl rfl rfl ?_
        refine zz_getI (q := 11) C gf_M_153 (by decide +kernel) rfl (by first | rfl | assumption) (mo_so_n hW hS) ?_
        refine zz_icmp_ge (off := 41) (tgt := 52) (q := 14) C (by decide +kernel) (by decide) rfl (fun c11 => ?_) (fun c11 => ?_)
        · refine zz_iconst (q := 53) (n := -1) (x := (-1)) C (by decide +kernel) rfl (by decide +kernel) ?_
          refine zz_iret C hr hlk (by decide +kernel) hQ (by decide) (by decide) ?_
          exact hp y Ls x hS none (Or.inl ⟨rfl, fun j h1 h2 => hall j h1 (by have := (nI_leI (a := Ls.length) (b := k) (by omega) (by omega)).mp c11; omega)⟩)
        · have hk9 : k < Ls.length := Nat.lt_of_not_le (fun z => c11 (nI_le z (by omega)))
          have hgk := lst_get hk9
          have hle := mo_so_al hW hS _ (List.mem_of_getElem? hgk)
          have hle60 := hle.1
          have hxv : x (mf h r 19) k = nI (Ls.getD k 0) := by
            have := hS.2.2.1 k _ hgk
            rwa [Nat.zero_add] at this
          refine zz_aload_n (q := 15) (f := 0) (i := 0) C (by decide +kernel) rfl rfl rfl ?_
          refine zz_getR (q := 18) C gf_M_54 (by decide +kernel) rfl (by first | rfl | assumption) (hok 19 90 60 rfl).1 ?_
          refine zz_iload_n (q := 19) (f := 2) (i := 2) C (by decide +kernel) rfl rfl rfl ?_
          refine zz_iaload (q := 20) C (by decide +kernel) rfl rfl (hok 19 90 60 rfl).2 rfl (by omega) (by decide) hxv ?_
          refine zz_istore_n (q := 21) (f := 3) (i := 3) C (by decide +kernel) rfl rfl (by decide) rfl ?_
          refine zz_aload_n (q := 22) (f := 0) (i := 0) C (by decide +kernel) rfl rfl rfl ?_
          refine zz_getR (q := 25) C gf_M_42 (by decide +kernel) rfl (by first | rfl | assumption) (hok 15 90 60 rfl).1 ?_
          refine zz_iload_n (q := 26) (f := 3) (i := 3) C (by decide +kernel) rfl rfl rfl ?_
          refine zz_iaload (q := 27) C (by decide +kernel) rfl rfl (hok 15 90 60 rfl).2 rfl (by omega) (by decide) rfl ?_
          refine zz_aload_n (q := 28) (f := 0) (i := 0) C (by decide +kernel) rfl rfl rfl ?_
          refine zz_getR (q := 31) C gf_M_13 (by decide +kernel) rfl (by first | rfl | assumption) (hok 2 90 8 rfl).1 ?_
          refine zz_iload_n (q := 32) (f := 1) (i := 1) C (by decide +kernel) rfl rfl rfl ?_
          refine zz_iaload (q := 33) C (by decide +kernel) rfl rfl (hok 2 90 8 rfl).2 rfl (by omega) (by decide) rfl ?_
          refine zz_icmp_ne (off := 13) (tgt := 46) (q := 36) C (by decide +kernel) (by decide) rfl (fun c33 => ?_) (fun c33 => ?_)
          · refine zz_iinc (q := 49) (i := 2) (n := 1) C (by decide +kernel) rfl rfl (nI_1 _) (by decide) rfl ?_
            refine zz_goto (off := -43) (tgt := 6) C (by decide +kernel) (by decide) ?_
            -- AT 6
            first
              | exact ih (k + 1) _ (by omega) (by omega) (or_next hall (fun z => zz_b_f c41 z.2))
              | exact ih (k + 1) _ (by omega) (by omega) (or_next hall (fun z => c33 z.1))
          · refine zz_aload_n (q := 37) (f := 0) (i := 0) C (by decide +kernel) rfl rfl rfl ?_
            refine zz_iload_n (q := 38) (f := 3) (i := 3) C (by decide +kernel) rfl rfl rfl ?_
            refine zz_callV (q := 41) C (m_M_fitsAbove l) cv_M_115 (by decide +kernel) rfl rfl rfl (by first | rfl | assumption) (by decide) (by decide) (Nat.le_of_ble_eq_true rfl) ⟨_, _, rfl, hok, hwl, mo_so_wp hW hS, hle, ?_⟩
            refine zz_if_eq (off := 5) (tgt := 46) (q := 44) C (by decide +kernel) (by decide) rfl (fun c41 => ?_) (fun c41 => ?_)
            · refine zz_iinc (q := 49) (i := 2) (n := 1) C (by decide +kernel) rfl rfl (nI_1 _) (by decide) rfl ?_
              refine zz_goto (off := -43) (tgt := 6) C (by decide +kernel) (by decide) ?_
              -- AT 6
              first
                | exact ih (k + 1) _ (by omega) (by omega) (or_next hall (fun z => zz_b_f c41 z.2))
                | exact ih (k + 1) _ (by omega) (by omega) (or_next hall (fun z => c33 z.1))
            · refine zz_iload_n (q := 45) (f := 3) (i := 3) C (by decide +kernel) rfl rfl rfl ?_
              refine zz_iret C hr hlk (by decide +kernel) hQ (by decide) (by decide) ?_
              exact hp y Ls x hS (some (Ls.getD k 0)) (Or.inr ⟨k, Nat.zero_le _, hk9, ⟨c33, zz_b_t c41⟩, hall, rfl⟩)
    refine zz_aload_n (q := 1) (f := 0) (i := 0) C (by decide +kernel) rfl rfl rfl ?_
    refine zz_callV (q := 4) C (m_M_sort l) cv_M_162 (by decide +kernel) rfl rfl rfl (by first | rfl | assumption) (by decide) (by decide) (Nat.le_of_ble_eq_true rfl) ⟨_, sw, t2, rfl, hW.1, hW.2.1, hW.2.2.1, hW.2.2.2.1, hW.2.2.2.2.1, hW.2.2.2.2.2.1, hW.2.2.2.2.2.2.1, hW.2.2.2.2.2.2.2.1, fun y Ls x k1 k2 k3 k4 => ?_⟩
    refine zz_iconst (q := 5) (n := 0) (x := 0) C (by decide +kernel) rfl (by decide +kernel) ?_
    refine zz_istore_n (q := 6) (f := 2) (i := 2) C (by decide +kernel) rfl rfl (by decide) rfl ?_
    -- AT 6
    exact lp6 y Ls x ⟨k1, k2, k3, k4⟩ 62 0 none (by omega) (by omega) (fun j _ hj => absurd hj (by omega))

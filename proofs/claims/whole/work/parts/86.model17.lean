/-! the reference: type -/
def mo_gd (h : zz_H) (r : Nat) (t p n s : Int32) : Prop := 0 ≤ t ∧ t < 8 ∧ (p = -1 ∨ mo_ty h r p) ∧ 1 ≤ n ∧ n ≤ 4 ∧ -1 ≤ s ∧ s < n
def mo_y1 (h : zz_H) (r : Nat) (t p n s : Int32) : Prop := ¬ mo_gd h r t p n s ∨ (p ≠ -1 ∧ ma h r 3 p.toNatClampNeg = 4)
def mo_y2 (h : zz_H) (r : Nat) (t : Int32) : Prop := ma h r 1 t.toNatClampNeg ≠ 0 ∨ ¬ zz_fI h 7 12 r ≤ 0
def mo_t3 (h : zz_H) (r t : Nat) (p : Int32) : zz_H := zz_sI (zz_sI (mo_bg h r) (mf h r 1) t 1) (mf h r 2) t p
def mo_tl (h : zz_H) (r t : Nat) (p lv n s u la : Int32) : zz_H := zz_sI (zz_sI (zz_sI (zz_sI (zz_sI (mo_t3 h r t p) (mf h r 3) t lv) (mf h r 4) t n) (mf h r 5) t s) (mf h r 6) t u) (mf h r 7) t la
def T_M_type : zz_Tr := fun as h post => ∃ r t pa n9 sq u la, as = [zz_r 7 (some r), zz_i t, zz_i pa, zz_i n9, zz_i sq, zz_i u, zz_i la] ∧ (u = 0 ∨ u = 1) ∧ (la = 0 ∨ la = 1) ∧ mo_ok h r ∧ (mo_y1 h r t pa n9 sq → post none (zz_pI (mo_bg h r) 7 0 r 1)) ∧ (¬ mo_y1 h r t pa n9 sq → (mo_y2 h r t → post none (zz_pI (mo_bg h r) 7 0 r 2)) ∧ (¬ mo_y2 h r t → (pa = -1 → post none (mo_tl h r t.toNatClampNeg pa 1 n9 sq u la)) ∧ (pa ≠ -1 → post none (mo_tl h r t.toNatClampNeg pa (zz_aI (mo_t3 h r t.toNatClampNeg pa) (mf h r 3) pa.toNatClampNeg + 1) n9 sq u la))))
set_option maxRecDepth 100000 in
set_option maxHeartbeats 4000000 in
theorem m_M_type (l : Launch) : zz_Met l y_M_type w_M_type { frames := 2, cells := 0, slots := 0, locals := 33 } T_M_type := by
  refine zz_ofZ (by decide) (fun as h post hT => ?_) ?_
  · obtain ⟨r, t, pa, n9, sq, u, la, rfl, hu, hla, hok, hp1, hp⟩ := hT
    exact ⟨by simp [zz_cat], by simp⟩
  · intro D DA h as post hT p e s m args below meth c Q C hr hlk hnm hQ
    obtain ⟨r, t, pa, n9, sq, u, la, rfl, hu, hla, hok, hp1, hp⟩ := hT
    have lp104 : mo_gd h r t pa n9 sq → ¬ mo_y1 h r t pa n9 sq → ¬ mo_y2 h r t → zz_Z p l e { frames := 2, cells := 0, slots := 0, locals := 33 } s m args below meth c Q D DA (zz_A h s.heap.size) h 8 104 [some (zz_r 7 (some r)), some (zz_i t), some (zz_i pa), some (zz_i n9), some (zz_i sq), some (zz_i u), some (zz_i la), none] [] (mo_bg h r) 0 0 := by
      intro hgd hno hn2
      have h9 := nI_in9 nI_8 (by decide) (Int32.not_lt.mpr hgd.1) hgd.2.1
      refine zz_aload_n (q := 105) (f := 0) (i := 0) C (by decide +kernel) rfl rfl rfl ?_
      refine zz_getR (q := 108) C gf_M_7 (by decide +kernel) rfl (by first | rfl | assumption) (hok 1 91 8 rfl).1 ?_
      refine zz_iload_n (q := 109) (f := 1) (i := 1) C (by decide +kernel) rfl rfl rfl ?_
      refine zz_iconst (q := 110) (n := 1) (x := 1) C (by decide +kernel) rfl (by decide +kernel) ?_
      refine zz_bastore (q := 111) C (by decide +kernel) rfl rfl (hok 1 91 8 rfl).2 h9.2 h9.1 (by decide) (by decide) ?_
      refine zz_aload_n (q := 112) (f := 0) (i := 0) C (by decide +kernel) rfl rfl rfl ?_
      refine zz_getR (q := 115) C gf_M_13 (by decide +kernel) rfl (by first | rfl | assumption) (hok 2 90 8 rfl).1 ?_
      refine zz_iload_n (q := 116) (f := 1) (i := 1) C (by decide +kernel) rfl rfl rfl ?_
      refine zz_iload_n (q := 117) (f := 2) (i := 2) C (by decide +kernel) rfl rfl rfl ?_
      refine zz_iastore (q := 118) C (by decide +kernel) rfl rfl (hok 2 90 8 rfl).2 h9.2 h9.1 (by decide) ?_
      refine zz_aload_n (q := 119) (f := 0) (i := 0) C (by decide +kernel) rfl rfl rfl ?_
      refine zz_getR (q := 122) C gf_M_17 (by decide +kernel) rfl (by first | rfl | assumption) (hok 3 90 8 rfl).1 ?_
      refine zz_iload_n (q := 123) (f := 1) (i := 1) C (by decide +kernel) rfl rfl rfl ?_
      refine zz_iload_n (q := 124) (f := 2) (i := 2) C (by decide +kernel) rfl rfl rfl ?_
      refine zz_iconst (q := 125) (n := -1) (x := (-1)) C (by decide +kernel) rfl (by decide +kernel) ?_
      refine zz_icmp_ne (off := 7) (tgt := 132) (q := 128) C (by decide +kernel) (by decide) rfl (fun c125 => ?_) (fun c125 => ?_)
      · have h8 := mo_ty9 (hgd.2.2.1.resolve_left c125)
        refine zz_aload_n (q := 133) (f := 0) (i := 0) C (by decide +kernel) rfl rfl rfl ?_
        refine zz_getR (q := 136) C gf_M_17 (by decide +kernel) rfl (by first | rfl | assumption) (hok 3 90 8 rfl).1 ?_
        refine zz_iload_n (q := 137) (f := 2) (i := 2) C (by decide +kernel) rfl rfl rfl ?_
        refine zz_iaload (q := 138) C (by decide +kernel) rfl rfl (hok 3 90 8 rfl).2 h8.2 h8.1 (by decide) rfl ?_
        refine zz_iconst (q := 139) (n := 1) (x := 1) C (by decide +kernel) rfl (by decide +kernel) ?_
        refine zz_iadd (q := 140) C (by decide +kernel) rfl rfl ?_
        refine zz_iastore (q := 141) C (by decide +kernel) rfl rfl (hok 3 90 8 rfl).2 h9.2 h9.1 (by decide) ?_
        refine zz_aload_n (q := 142) (f := 0) (i := 0) C (by decide +kernel) rfl rfl rfl ?_
        refine zz_getR (q := 145) C gf_M_20 (by decide +kernel) rfl (by first | rfl | assumption) (hok 4 90 8 rfl).1 ?_
        refine zz_iload_n (q := 146) (f := 1) (i := 1) C (by decide +kernel) rfl rfl rfl ?_
        refine zz_iload_n (q := 147) (f := 3) (i := 3) C (by decide +kernel) rfl rfl rfl ?_
        refine zz_iastore (q := 148) C (by decide +kernel) rfl rfl (hok 4 90 8 rfl).2 h9.2 h9.1 (by decide) ?_
        refine zz_aload_n (q := 149) (f := 0) (i := 0) C (by decide +kernel) rfl rfl rfl ?_
        refine zz_getR (q := 152) C gf_M_23 (by decide +kernel) rfl (by first | rfl | assumption) (hok 5 90 8 rfl).1 ?_
        refine zz_iload_n (q := 153) (f := 1) (i := 1) C (by decide +kernel) rfl rfl rfl ?_
        refine zz_iload (q := 155) (i := 4) C (by decide +kernel) rfl rfl ?_
        refine zz_iastore (q := 156) C (by decide +kernel) rfl rfl (hok 5 90 8 rfl).2 h9.2 h9.1 (by decide) ?_
        refine zz_aload_n (q := 157) (f := 0) (i := 0) C (by decide +kernel) rfl rfl rfl ?_
        refine zz_getR (q := 160) C gf_M_26 (by decide +kernel) rfl (by first | rfl | assumption) (hok 6 91 8 rfl).1 ?_
        refine zz_iload_n (q := 161) (f := 1) (i := 1) C (by decide +kernel) rfl rfl rfl ?_
        refine zz_iload (q := 163) (i := 5) C (by decide +kernel) rfl rfl ?_
        refine zz_bastore (q := 164) C (by decide +kernel) rfl rfl (hok 6 91 8 rfl).2 h9.2 h9.1 (by decide) hu ?_
        refine zz_aload_n (q := 165) (f := 0) (i := 0) C (by decide +kernel) rfl rfl rfl ?_
        refine zz_getR (q := 168) C gf_M_29 (by decide +kernel) rfl (by first | rfl | assumption) (hok 7 91 8 rfl).1 ?_
        refine zz_iload_n (q := 169) (f := 1) (i := 1) C (by decide +kernel) rfl rfl rfl ?_
        refine zz_iload (q := 171) (i := 6) C (by decide +kernel) rfl rfl ?_
        refine zz_bastore (q := 172) C (by decide +kernel) rfl rfl (hok 7 91 8 rfl).2 h9.2 h9.1 (by decide) hla ?_
        refine zz_vret C hr hlk (by decide +kernel) hQ (by decide) (by decide) ?_
        first
          | exact ((hp hno).2 hn2).1 c125
          | exact ((hp hno).2 hn2).2 c125
      · refine zz_iconst (q := 129) (n := 1) (x := 1) C (by decide +kernel) rfl (by decide +kernel) ?_
        refine zz_goto (off := 11) (tgt := 140) C (by decide +kernel) (by decide) ?_
        refine zz_iastore (q := 141) C (by decide +kernel) rfl rfl (hok 3 90 8 rfl).2 h9.2 h9.1 (by decide) ?_
        refine zz_aload_n (q := 142) (f := 0) (i := 0) C (by decide +kernel) rfl rfl rfl ?_
        refine zz_getR (q := 145) C gf_M_20 (by decide +kernel) rfl (by first | rfl | assumption) (hok 4 90 8 rfl).1 ?_
        refine zz_iload_n (q := 146) (f := 1) (i := 1) C (by decide +kernel) rfl rfl rfl ?_
        refine zz_iload_n (q := 147) (f := 3) (i := 3) C (by decide +kernel) rfl rfl rfl ?_
        refine zz_iastore (q := 148) C (by decide +kernel) rfl rfl (hok 4 90 8 rfl).2 h9.2 h9.1 (by decide) ?_
        refine zz_aload_n (q := 149) (f := 0) (i := 0) C (by decide +kernel) rfl rfl rfl ?_
        refine zz_getR (q := 152) C gf_M_23 (by decide +kernel) rfl (by first | rfl | assumption) (hok 5 90 8 rfl).1 ?_
        refine zz_iload_n (q := 153) (f := 1) (i := 1) C (by decide +kernel) rfl rfl rfl ?_
        refine zz_iload (q := 155) (i := 4) C (by decide +kernel) rfl rfl ?_
        refine zz_iastore (q := 156) C (by decide +kernel) rfl rfl (hok 5 90 8 rfl).2 h9.2 h9.1 (by decide) ?_
        refine zz_aload_n (q := 157) (f := 0) (i := 0) C (by decide +kernel) rfl rfl rfl ?_
        refine zz_getR (q := 160) C gf_M_26 (by decide +kernel) rfl (by first | rfl | assumption) (hok 6 91 8 rfl).1 ?_
        refine zz_iload_n (q := 161) (f := 1) (i := 1) C (by decide +kernel) rfl rfl rfl ?_
        refine zz_iload (q := 163) (i := 5) C (by decide +kernel) rfl rfl ?_
        refine zz_bastore (q := 164) C (by decide +kernel) rfl rfl (hok 6 91 8 rfl).2 h9.2 h9.1 (by decide) hu ?_
        refine zz_aload_n (q := 165) (f := 0) (i := 0) C (by decide +kernel) rfl rfl rfl ?_
        refine zz_getR (q := 168) C gf_M_29 (by decide +kernel) rfl (by first | rfl | assumption) (hok 7 91 8 rfl).1 ?_
        refine zz_iload_n (q := 169) (f := 1) (i := 1) C (by decide +kernel) rfl rfl rfl ?_
        refine zz_iload (q := 171) (i := 6) C (by decide +kernel) rfl rfl ?_
        refine zz_bastore (q := 172) C (by decide +kernel) rfl rfl (hok 7 91 8 rfl).2 h9.2 h9.1 (by decide) hla ?_
        refine zz_vret C hr hlk (by decide +kernel) hQ (by decide) (by decide) ?_
        first
          | exact ((hp hno).2 hn2).1 c125
          | exact ((hp hno).2 hn2).2 c125
    have lp82 : mo_gd h r t pa n9 sq → ¬ mo_y1 h r t pa n9 sq → zz_Z p l e { frames := 2, cells := 0, slots := 0, locals := 33 } s m args below meth c Q D DA (zz_A h s.heap.size) h 8 82 [some (zz_r 7 (some r)), some (zz_i t), some (zz_i pa), some (zz_i n9), some (zz_i sq), some (zz_i u), some (zz_i la), none] [] (mo_bg h r) 0 0 := by
      intro hgd hno
      have h9 := nI_in9 nI_8 (by decide) (Int32.not_lt.mpr hgd.1) hgd.2.1
      refine zz_aload_n (q := 83) (f := 0) (i := 0) C (by decide +kernel) rfl rfl rfl ?_
      refine zz_getR (q := 86) C gf_M_7 (by decide +kernel) rfl (by first | rfl | assumption) (hok 1 91 8 rfl).1 ?_
      refine zz_iload_n (q := 87) (f := 1) (i := 1) C (by decide +kernel) rfl rfl rfl ?_
      refine zz_baload (q := 88) C (by decide +kernel) rfl rfl (hok 1 91 8 rfl).2 h9.2 h9.1 (by decide) rfl ?_
      refine zz_if_ne (off := 10) (tgt := 98) (q := 91) C (by decide +kernel) (by decide) rfl (fun c88 => ?_) (fun c88 => ?_)
      · refine zz_aload_n (q := 99) (f := 0) (i := 0) C (by decide +kernel) rfl rfl rfl ?_
        refine zz_iconst (q := 100) (n := 2) (x := 2) C (by decide +kernel) rfl (by decide +kernel) ?_
        refine zz_putI (q := 103) C gf_M_88 (fun h => by cases h) (fun h => by cases h) (by decide +kernel) rfl (by first | rfl | assumption) ?_
        refine zz_vret C hr hlk (by decide +kernel) hQ (by decide) (by decide) ?_
        first
          | exact (hp hno).1 (Or.inl c88)
          | exact (hp hno).1 (Or.inr c95)
      · refine zz_aload_n (q := 92) (f := 0) (i := 0) C (by decide +kernel) rfl rfl rfl ?_
        refine zz_getI (q := 95) C gf_M_98 (by decide +kernel) rfl (by first | rfl | assumption) rfl ?_
        refine zz_if_le (off := 9) (tgt := 104) (q := 98) C (by decide +kernel) (by decide) rfl (fun c95 => ?_) (fun c95 => ?_)
        · -- AT 104
          exact lp104 hgd hno (fun z => z.elim (fun k => k c88) (fun k => k c95))
        · refine zz_aload_n (q := 99) (f := 0) (i := 0) C (by decide +kernel) rfl rfl rfl ?_
          refine zz_iconst (q := 100) (n := 2) (x := 2) C (by decide +kernel) rfl (by decide +kernel) ?_
          refine zz_putI (q := 103) C gf_M_88 (fun h => by cases h) (fun h => by cases h) (by decide +kernel) rfl (by first | rfl | assumption) ?_
          refine zz_vret C hr hlk (by decide +kernel) hQ (by decide) (by decide) ?_
          first
            | exact (hp hno).1 (Or.inl c88)
            | exact (hp hno).1 (Or.inr c95)
    have lp56 : ∀ g : Int32, ((g = 0 ∧ ¬ mo_gd h r t pa n9 sq) ∨ (g = 1 ∧ mo_gd h r t pa n9 sq)) → zz_Z p l e { frames := 2, cells := 0, slots := 0, locals := 33 } s m args below meth c Q D DA (zz_A h s.heap.size) h 8 56 [some (zz_r 7 (some r)), some (zz_i t), some (zz_i pa), some (zz_i n9), some (zz_i sq), some (zz_i u), some (zz_i la), some (zz_i g)] [] (mo_bg h r) 0 0 := by
      intro g hg
      refine zz_iload (q := 58) (i := 7) C (by decide +kernel) rfl rfl ?_
      refine zz_if_eq (off := 18) (tgt := 76) (q := 61) C (by decide +kernel) (by decide) rfl (fun c58 => ?_) (fun c58 => ?_)
      · refine zz_aload_n (q := 77) (f := 0) (i := 0) C (by decide +kernel) rfl rfl rfl ?_
        refine zz_iconst (q := 78) (n := 1) (x := 1) C (by decide +kernel) rfl (by decide +kernel) ?_
        refine zz_putI (q := 81) C gf_M_88 (fun h => by cases h) (fun h => by cases h) (by decide +kernel) rfl (by first | rfl | assumption) ?_
        refine zz_vret C hr hlk (by decide +kernel) hQ (by decide) (by decide) ?_
        first
          | exact hp1 (Or.inl (hg.resolve_right (fun z => absurd (z.1.symm.trans c58) (by decide))).2)
          | exact hp1 (Or.inr ⟨c63, c73⟩)
      · have hgd := (hg.resolve_left (fun z => c58 z.1)).2
        refine zz_iload_n (q := 62) (f := 2) (i := 2) C (by decide +kernel) rfl rfl rfl ?_
        refine zz_iconst (q := 63) (n := -1) (x := (-1)) C (by decide +kernel) rfl (by decide +kernel) ?_
        refine zz_icmp_eq (off := 19) (tgt := 82) (q := 66) C (by decide +kernel) (by decide) rfl (fun c63 => ?_) (fun c63 => ?_)
        · -- AT 82
          first
            | exact zz_weak [true, true, true, true, true, true, true, false] (lp82 hgd (fun z => z.elim (fun k => k hgd) (fun k => k.1 c63)))
            | exact zz_weak [true, true, true, true, true, true, true, false] (lp82 hgd (fun z => z.elim (fun k => k hgd) (fun k => c73 k.2)))
        · have h8 := mo_ty9 (hgd.2.2.1.resolve_left c63)
          refine zz_aload_n (q := 67) (f := 0) (i := 0) C (by decide +kernel) rfl rfl rfl ?_
          refine zz_getR (q := 70) C gf_M_17 (by decide +kernel) rfl (by first | rfl | assumption) (hok 3 90 8 rfl).1 ?_
          refine zz_iload_n (q := 71) (f := 2) (i := 2) C (by decide +kernel) rfl rfl rfl ?_
          refine zz_iaload (q := 72) C (by decide +kernel) rfl rfl (hok 3 90 8 rfl).2 h8.2 h8.1 (by decide) rfl ?_
          refine zz_iconst (q := 73) (n := 4) (x := 4) C (by decide +kernel) rfl (by decide +kernel) ?_
          refine zz_icmp_ne (off := 9) (tgt := 82) (q := 76) C (by decide +kernel) (by decide) rfl (fun c73 => ?_) (fun c73 => ?_)
          · -- AT 82
            first
              | exact zz_weak [true, true, true, true, true, true, true, false] (lp82 hgd (fun z => z.elim (fun k => k hgd) (fun k => k.1 c63)))
              | exact zz_weak [true, true, true, true, true, true, true, false] (lp82 hgd (fun z => z.elim (fun k => k hgd) (fun k => c73 k.2)))
          · refine zz_aload_n (q := 77) (f := 0) (i := 0) C (by decide +kernel) rfl rfl rfl ?_
            refine zz_iconst (q := 78) (n := 1) (x := 1) C (by decide +kernel) rfl (by decide +kernel) ?_
            refine zz_putI (q := 81) C gf_M_88 (fun h => by cases h) (fun h => by cases h) (by decide +kernel) rfl (by first | rfl | assumption) ?_
            refine zz_vret C hr hlk (by decide +kernel) hQ (by decide) (by decide) ?_
            first
              | exact hp1 (Or.inl (hg.resolve_right (fun z => absurd (z.1.symm.trans c58) (by decide))).2)
              | exact hp1 (Or.inr ⟨c63, c73⟩)
    refine zz_aload_n (q := 1) (f := 0) (i := 0) C (by decide +kernel) rfl rfl rfl ?_
    refine zz_callV (q := 4) C (m_M_begin l) cv_M_91 (by decide +kernel) rfl rfl rfl (by first | rfl | assumption) (by decide) (by decide) (Nat.le_of_ble_eq_true rfl) ⟨_, rfl, ?_⟩
    refine zz_iload_n (q := 5) (f := 1) (i := 1) C (by decide +kernel) rfl rfl rfl ?_
    refine zz_if_lt (off := 48) (tgt := 53) (q := 8) C (by decide +kernel) (by decide) rfl (fun c5 => ?_) (fun c5 => ?_)
    · refine zz_iconst (q := 54) (n := 0) (x := 0) C (by decide +kernel) rfl (by decide +kernel) ?_
      refine zz_istore (q := 56) (i := 7) C (by decide +kernel) rfl (by decide) rfl ?_
      -- AT 56
      first
        | exact lp56 0 (Or.inl ⟨rfl, fun z => absurd c5 (Int32.not_lt.mpr z.1)⟩)
        | exact lp56 0 (Or.inl ⟨rfl, fun z => absurd c11 (Int32.not_le.mpr z.2.1)⟩)
        | exact lp56 0 (Or.inl ⟨rfl, fun z => absurd c29 (Int32.not_lt.mpr z.2.2.2.1)⟩)
        | exact lp56 0 (Or.inl ⟨rfl, fun z => absurd c34 (Int32.not_lt.mpr z.2.2.2.2.1)⟩)
        | exact lp56 0 (Or.inl ⟨rfl, fun z => absurd c40 (Int32.not_lt.mpr z.2.2.2.2.2.1)⟩)
        | exact lp56 0 (Or.inl ⟨rfl, fun z => absurd c46 (Int32.not_le.mpr z.2.2.2.2.2.2)⟩)
        | exact lp56 0 (Or.inl ⟨rfl, fun z => z.2.2.1.elim c16 (zz_b_f c24)⟩)
        | exact lp56 1 (Or.inr ⟨rfl, ⟨Int32.not_lt.mp c5, Int32.not_le.mp c11, Or.inl c16, Int32.not_lt.mp c29, Int32.not_lt.mp c34, Int32.not_lt.mp c40, Int32.not_le.mp c46⟩⟩)
        | exact lp56 1 (Or.inr ⟨rfl, ⟨Int32.not_lt.mp c5, Int32.not_le.mp c11, Or.inr (zz_b_t c24), Int32.not_lt.mp c29, Int32.not_lt.mp c34, Int32.not_lt.mp c40, Int32.not_le.mp c46⟩⟩)
    · refine zz_iload_n (q := 9) (f := 1) (i := 1) C (by decide +kernel) rfl rfl rfl ?_
      refine zz_bipush (q := 11) (n := 8) (x := 8) C (by decide +kernel) rfl (by decide +kernel) ?_
      refine zz_icmp_ge (off := 42) (tgt := 53) (q := 14) C (by decide +kernel) (by decide) rfl (fun c11 => ?_) (fun c11 => ?_)
      · refine zz_iconst (q := 54) (n := 0) (x := 0) C (by decide +kernel) rfl (by decide +kernel) ?_
        refine zz_istore (q := 56) (i := 7) C (by decide +kernel) rfl (by decide) rfl ?_
        -- AT 56
        first
          | exact lp56 0 (Or.inl ⟨rfl, fun z => absurd c5 (Int32.not_lt.mpr z.1)⟩)
          | exact lp56 0 (Or.inl ⟨rfl, fun z => absurd c11 (Int32.not_le.mpr z.2.1)⟩)
          | exact lp56 0 (Or.inl ⟨rfl, fun z => absurd c29 (Int32.not_lt.mpr z.2.2.2.1)⟩)
          | exact lp56 0 (Or.inl ⟨rfl, fun z => absurd c34 (Int32.not_lt.mpr z.2.2.2.2.1)⟩)
          | exact lp56 0 (Or.inl ⟨rfl, fun z => absurd c40 (Int32.not_lt.mpr z.2.2.2.2.2.1)⟩)
          | exact lp56 0 (Or.inl ⟨rfl, fun z => absurd c46 (Int32.not_le.mpr z.2.2.2.2.2.2)⟩)
          | exact lp56 0 (Or.inl ⟨rfl, fun z => z.2.2.1.elim c16 (zz_b_f c24)⟩)
          | exact lp56 1 (Or.inr ⟨rfl, ⟨Int32.not_lt.mp c5, Int32.not_le.mp c11, Or.inl c16, Int32.not_lt.mp c29, Int32.not_lt.mp c34, Int32.not_lt.mp c40, Int32.not_le.mp c46⟩⟩)
          | exact lp56 1 (Or.inr ⟨rfl, ⟨Int32.not_lt.mp c5, Int32.not_le.mp c11, Or.inr (zz_b_t c24), Int32.not_lt.mp c29, Int32.not_lt.mp c34, Int32.not_lt.mp c40, Int32.not_le.mp c46⟩⟩)
      · refine zz_iload_n (q := 15) (f := 2) (i := 2) C (by decide +kernel) rfl rfl rfl ?_
        refine zz_iconst (q := 16) (n := -1) (x := (-1)) C (by decide +kernel) rfl (by decide +kernel) ?_
        refine zz_icmp_eq (off := 11) (tgt := 27) (q := 19) C (by decide +kernel) (by decide) rfl (fun c16 => ?_) (fun c16 => ?_)
        · refine zz_iload_n (q := 28) (f := 3) (i := 3) C (by decide +kernel) rfl rfl rfl ?_
          refine zz_iconst (q := 29) (n := 1) (x := 1) C (by decide +kernel) rfl (by decide +kernel) ?_
          refine zz_icmp_lt (off := 24) (tgt := 53) (q := 32) C (by decide +kernel) (by decide) rfl (fun c29 => ?_) (fun c29 => ?_)
          · refine zz_iconst (q := 54) (n := 0) (x := 0) C (by decide +kernel) rfl (by decide +kernel) ?_
            refine zz_istore (q := 56) (i := 7) C (by decide +kernel) rfl (by decide) rfl ?_
            -- AT 56
            first
              | exact lp56 0 (Or.inl ⟨rfl, fun z => absurd c5 (Int32.not_lt.mpr z.1)⟩)
              | exact lp56 0 (Or.inl ⟨rfl, fun z => absurd c11 (Int32.not_le.mpr z.2.1)⟩)
              | exact lp56 0 (Or.inl ⟨rfl, fun z => absurd c29 (Int32.not_lt.mpr z.2.2.2.1)⟩)
              | exact lp56 0 (Or.inl ⟨rfl, fun z => absurd c34 (Int32.not_lt.mpr z.2.2.2.2.1)⟩)
              | exact lp56 0 (Or.inl ⟨rfl, fun z => absurd c40 (Int32.not_lt.mpr z.2.2.2.2.2.1)⟩)
              | exact lp56 0 (Or.inl ⟨rfl, fun z => absurd c46 (Int32.not_le.mpr z.2.2.2.2.2.2)⟩)
              | exact lp56 0 (Or.inl ⟨rfl, fun z => z.2.2.1.elim c16 (zz_b_f c24)⟩)
              | exact lp56 1 (Or.inr ⟨rfl, ⟨Int32.not_lt.mp c5, Int32.not_le.mp c11, Or.inl c16, Int32.not_lt.mp c29, Int32.not_lt.mp c34, Int32.not_lt.mp c40, Int32.not_le.mp c46⟩⟩)
              | exact lp56 1 (Or.inr ⟨rfl, ⟨Int32.not_lt.mp c5, Int32.not_le.mp c11, Or.inr (zz_b_t c24), Int32.not_lt.mp c29, Int32.not_lt.mp c34, Int32.not_lt.mp c40, Int32.not_le.mp c46⟩⟩)
          · refine zz_iload_n (q := 33) (f := 3) (i := 3) C (by decide +kernel) rfl rfl rfl ?_
            refine zz_iconst (q := 34) (n := 4) (x := 4) C (by decide +kernel) rfl (by decide +kernel) ?_
            refine zz_icmp_gt (off := 19) (tgt := 53) (q := 37) C (by decide +kernel) (by decide) rfl (fun c34 => ?_) (fun c34 => ?_)
            · refine zz_iconst (q := 54) (n := 0) (x := 0) C (by decide +kernel) rfl (by decide +kernel) ?_
              refine zz_istore (q := 56) (i := 7) C (by decide +kernel) rfl (by decide) rfl ?_
              -- AT 56
              first
                | exact lp56 0 (Or.inl ⟨rfl, fun z => absurd c5 (Int32.not_lt.mpr z.1)⟩)
                | exact lp56 0 (Or.inl ⟨rfl, fun z => absurd c11 (Int32.not_le.mpr z.2.1)⟩)
                | exact lp56 0 (Or.inl ⟨rfl, fun z => absurd c29 (Int32.not_lt.mpr z.2.2.2.1)⟩)
                | exact lp56 0 (Or.inl ⟨rfl, fun z => absurd c34 (Int32.not_lt.mpr z.2.2.2.2.1)⟩)
                | exact lp56 0 (Or.inl ⟨rfl, fun z => absurd c40 (Int32.not_lt.mpr z.2.2.2.2.2.1)⟩)
                | exact lp56 0 (Or.inl ⟨rfl, fun z => absurd c46 (Int32.not_le.mpr z.2.2.2.2.2.2)⟩)
                | exact lp56 0 (Or.inl ⟨rfl, fun z => z.2.2.1.elim c16 (zz_b_f c24)⟩)
                | exact lp56 1 (Or.inr ⟨rfl, ⟨Int32.not_lt.mp c5, Int32.not_le.mp c11, Or.inl c16, Int32.not_lt.mp c29, Int32.not_lt.mp c34, Int32.not_lt.mp c40, Int32.not_le.mp c46⟩⟩)
                | exact lp56 1 (Or.inr ⟨rfl, ⟨Int32.not_lt.mp c5, Int32.not_le.mp c11, Or.inr (zz_b_t c24), Int32.not_lt.mp c29, Int32.not_lt.mp c34, Int32.not_lt.mp c40, Int32.not_le.mp c46⟩⟩)
            · refine zz_iload (q := 39) (i := 4) C (by decide +kernel) rfl rfl ?_
              refine zz_iconst (q := 40) (n := -1) (x := (-1)) C (by decide +kernel) rfl (by decide +kernel) ?_
              refine zz_icmp_lt (off := 13) (tgt := 53) (q := 43) C (by decide +kernel) (by decide) rfl (fun c40 => ?_) (fun c40 => ?_)
              · refine zz_iconst (q := 54) (n := 0) (x := 0) C (by decide +kernel) rfl (by decide +kernel) ?_
                refine zz_istore (q := 56) (i := 7) C (by decide +kernel) rfl (by decide) rfl ?_
                -- AT 56
                first
                  | exact lp56 0 (Or.inl ⟨rfl, fun z => absurd c5 (Int32.not_lt.mpr z.1)⟩)
                  | exact lp56 0 (Or.inl ⟨rfl, fun z => absurd c11 (Int32.not_le.mpr z.2.1)⟩)
                  | exact lp56 0 (Or.inl ⟨rfl, fun z => absurd c29 (Int32.not_lt.mpr z.2.2.2.1)⟩)
                  | exact lp56 0 (Or.inl ⟨rfl, fun z => absurd c34 (Int32.not_lt.mpr z.2.2.2.2.1)⟩)
                  | exact lp56 0 (Or.inl ⟨rfl, fun z => absurd c40 (Int32.not_lt.mpr z.2.2.2.2.2.1)⟩)
                  | exact lp56 0 (Or.inl ⟨rfl, fun z => absurd c46 (Int32.not_le.mpr z.2.2.2.2.2.2)⟩)
                  | exact lp56 0 (Or.inl ⟨rfl, fun z => z.2.2.1.elim c16 (zz_b_f c24)⟩)
                  | exact lp56 1 (Or.inr ⟨rfl, ⟨Int32.not_lt.mp c5, Int32.not_le.mp c11, Or.inl c16, Int32.not_lt.mp c29, Int32.not_lt.mp c34, Int32.not_lt.mp c40, Int32.not_le.mp c46⟩⟩)
                  | exact lp56 1 (Or.inr ⟨rfl, ⟨Int32.not_lt.mp c5, Int32.not_le.mp c11, Or.inr (zz_b_t c24), Int32.not_lt.mp c29, Int32.not_lt.mp c34, Int32.not_lt.mp c40, Int32.not_le.mp c46⟩⟩)
              · refine zz_iload (q := 45) (i := 4) C (by decide +kernel) rfl rfl ?_
                refine zz_iload_n (q := 46) (f := 3) (i := 3) C (by decide +kernel) rfl rfl rfl ?_
                refine zz_icmp_ge (off := 7) (tgt := 53) (q := 49) C (by decide +kernel) (by decide) rfl (fun c46 => ?_) (fun c46 => ?_)
                · refine zz_iconst (q := 54) (n := 0) (x := 0) C (by decide +kernel) rfl (by decide +kernel) ?_
                  refine zz_istore (q := 56) (i := 7) C (by decide +kernel) rfl (by decide) rfl ?_
                  -- AT 56
                  first
                    | exact lp56 0 (Or.inl ⟨rfl, fun z => absurd c5 (Int32.not_lt.mpr z.1)⟩)
                    | exact lp56 0 (Or.inl ⟨rfl, fun z => absurd c11 (Int32.not_le.mpr z.2.1)⟩)
                    | exact lp56 0 (Or.inl ⟨rfl, fun z => absurd c29 (Int32.not_lt.mpr z.2.2.2.1)⟩)
                    | exact lp56 0 (Or.inl ⟨rfl, fun z => absurd c34 (Int32.not_lt.mpr z.2.2.2.2.1)⟩)
                    | exact lp56 0 (Or.inl ⟨rfl, fun z => absurd c40 (Int32.not_lt.mpr z.2.2.2.2.2.1)⟩)
                    | exact lp56 0 (Or.inl ⟨rfl, fun z => absurd c46 (Int32.not_le.mpr z.2.2.2.2.2.2)⟩)
                    | exact lp56 0 (Or.inl ⟨rfl, fun z => z.2.2.1.elim c16 (zz_b_f c24)⟩)
                    | exact lp56 1 (Or.inr ⟨rfl, ⟨Int32.not_lt.mp c5, Int32.not_le.mp c11, Or.inl c16, Int32.not_lt.mp c29, Int32.not_lt.mp c34, Int32.not_lt.mp c40, Int32.not_le.mp c46⟩⟩)
                    | exact lp56 1 (Or.inr ⟨rfl, ⟨Int32.not_lt.mp c5, Int32.not_le.mp c11, Or.inr (zz_b_t c24), Int32.not_lt.mp c29, Int32.not_lt.mp c34, Int32.not_lt.mp c40, Int32.not_le.mp c46⟩⟩)
                · refine zz_iconst (q := 50) (n := 1) (x := 1) C (by decide +kernel) rfl (by decide +kernel) ?_
                  refine zz_goto (off := 4) (tgt := 54) C (by decide +kernel) (by decide) ?_
                  refine zz_istore (q := 56) (i := 7) C (by decide +kernel) rfl (by decide) rfl ?_
                  -- AT 56
                  first
                    | exact lp56 0 (Or.inl ⟨rfl, fun z => absurd c5 (Int32.not_lt.mpr z.1)⟩)
                    | exact lp56 0 (Or.inl ⟨rfl, fun z => absurd c11 (Int32.not_le.mpr z.2.1)⟩)
                    | exact lp56 0 (Or.inl ⟨rfl, fun z => absurd c29 (Int32.not_lt.mpr z.2.2.2.1)⟩)
                    | exact lp56 0 (Or.inl ⟨rfl, fun z => absurd c34 (Int32.not_lt.mpr z.2.2.2.2.1)⟩)
                    | exact lp56 0 (Or.inl ⟨rfl, fun z => absurd c40 (Int32.not_lt.mpr z.2.2.2.2.2.1)⟩)
                    | exact lp56 0 (Or.inl ⟨rfl, fun z => absurd c46 (Int32.not_le.mpr z.2.2.2.2.2.2)⟩)
                    | exact lp56 0 (Or.inl ⟨rfl, fun z => z.2.2.1.elim c16 (zz_b_f c24)⟩)
                    | exact lp56 1 (Or.inr ⟨rfl, ⟨Int32.not_lt.mp c5, Int32.not_le.mp c11, Or.inl c16, Int32.not_lt.mp c29, Int32.not_lt.mp c34, Int32.not_lt.mp c40, Int32.not_le.mp c46⟩⟩)
                    | exact lp56 1 (Or.inr ⟨rfl, ⟨Int32.not_lt.mp c5, Int32.not_le.mp c11, Or.inr (zz_b_t c24), Int32.not_lt.mp c29, Int32.not_lt.mp c34, Int32.not_lt.mp c40, Int32.not_le.mp c46⟩⟩)
        · refine zz_aload_n (q := 20) (f := 0) (i := 0) C (by decide +kernel) rfl rfl rfl ?_
          refine zz_iload_n (q := 21) (f := 2) (i := 2) C (by decide +kernel) rfl rfl rfl ?_
          refine zz_callV (q := 24) C (m_M_isType l) cv_M_94 (by decide +kernel) rfl rfl rfl (by first | rfl | assumption) (by decide) (by decide) (Nat.le_of_ble_eq_true rfl) ⟨_, _, rfl, hok, ?_⟩
          refine zz_if_eq (off := 29) (tgt := 53) (q := 27) C (by decide +kernel) (by decide) rfl (fun c24 => ?_) (fun c24 => ?_)
          · refine zz_iconst (q := 54) (n := 0) (x := 0) C (by decide +kernel) rfl (by decide +kernel) ?_
            refine zz_istore (q := 56) (i := 7) C (by decide +kernel) rfl (by decide) rfl ?_
            -- AT 56
            first
              | exact lp56 0 (Or.inl ⟨rfl, fun z => absurd c5 (Int32.not_lt.mpr z.1)⟩)
              | exact lp56 0 (Or.inl ⟨rfl, fun z => absurd c11 (Int32.not_le.mpr z.2.1)⟩)
              | exact lp56 0 (Or.inl ⟨rfl, fun z => absurd c29 (Int32.not_lt.mpr z.2.2.2.1)⟩)
              | exact lp56 0 (Or.inl ⟨rfl, fun z => absurd c34 (Int32.not_lt.mpr z.2.2.2.2.1)⟩)
              | exact lp56 0 (Or.inl ⟨rfl, fun z => absurd c40 (Int32.not_lt.mpr z.2.2.2.2.2.1)⟩)
              | exact lp56 0 (Or.inl ⟨rfl, fun z => absurd c46 (Int32.not_le.mpr z.2.2.2.2.2.2)⟩)
              | exact lp56 0 (Or.inl ⟨rfl, fun z => z.2.2.1.elim c16 (zz_b_f c24)⟩)
              | exact lp56 1 (Or.inr ⟨rfl, ⟨Int32.not_lt.mp c5, Int32.not_le.mp c11, Or.inl c16, Int32.not_lt.mp c29, Int32.not_lt.mp c34, Int32.not_lt.mp c40, Int32.not_le.mp c46⟩⟩)
              | exact lp56 1 (Or.inr ⟨rfl, ⟨Int32.not_lt.mp c5, Int32.not_le.mp c11, Or.inr (zz_b_t c24), Int32.not_lt.mp c29, Int32.not_lt.mp c34, Int32.not_lt.mp c40, Int32.not_le.mp c46⟩⟩)
          · refine zz_iload_n (q := 28) (f := 3) (i := 3) C (by decide +kernel) rfl rfl rfl ?_
            refine zz_iconst (q := 29) (n := 1) (x := 1) C (by decide +kernel) rfl (by decide +kernel) ?_
            refine zz_icmp_lt (off := 24) (tgt := 53) (q := 32) C (by decide +kernel) (by decide) rfl (fun c29 => ?_) (fun c29 => ?_)
            · refine zz_iconst (q := 54) (n := 0) (x := 0) C (by decide +kernel) rfl (by decide +kernel) ?_
              refine zz_istore (q := 56) (i := 7) C (by decide +kernel) rfl (by decide) rfl ?_
              -- AT 56
              first
                | exact lp56 0 (Or.inl ⟨rfl, fun z => absurd c5 (Int32.not_lt.mpr z.1)⟩)
                | exact lp56 0 (Or.inl ⟨rfl, fun z => absurd c11 (Int32.not_le.mpr z.2.1)⟩)
                | exact lp56 0 (Or.inl ⟨rfl, fun z => absurd c29 (Int32.not_lt.mpr z.2.2.2.1)⟩)
                | exact lp56 0 (Or.inl ⟨rfl, fun z => absurd c34 (Int32.not_lt.mpr z.2.2.2.2.1)⟩)
                | exact lp56 0 (Or.inl ⟨rfl, fun z => absurd c40 (Int32.not_lt.mpr z.2.2.2.2.2.1)⟩)
                | exact lp56 0 (Or.inl ⟨rfl, fun z => absurd c46 (Int32.not_le.mpr z.2.2.2.2.2.2)⟩)
                | exact lp56 0 (Or.inl ⟨rfl, fun z => z.2.2.1.elim c16 (zz_b_f c24)⟩)
                | exact lp56 1 (Or.inr ⟨rfl, ⟨Int32.not_lt.mp c5, Int32.not_le.mp c11, Or.inl c16, Int32.not_lt.mp c29, Int32.not_lt.mp c34, Int32.not_lt.mp c40, Int32.not_le.mp c46⟩⟩)
                | exact lp56 1 (Or.inr ⟨rfl, ⟨Int32.not_lt.mp c5, Int32.not_le.mp c11, Or.inr (zz_b_t c24), Int32.not_lt.mp c29, Int32.not_lt.mp c34, Int32.not_lt.mp c40, Int32.not_le.mp c46⟩⟩)
            · refine zz_iload_n (q := 33) (f := 3) (i := 3) C (by decide +kernel) rfl rfl rfl ?_
              refine zz_iconst (q := 34) (n := 4) (x := 4) C (by decide +kernel) rfl (by decide +kernel) ?_
              refine zz_icmp_gt (off := 19) (tgt := 53) (q := 37) C (by decide +kernel) (by decide) rfl (fun c34 => ?_) (fun c34 => ?_)
              · refine zz_iconst (q := 54) (n := 0) (x := 0) C (by decide +kernel) rfl (by decide +kernel) ?_
                refine zz_istore (q := 56) (i := 7) C (by decide +kernel) rfl (by decide) rfl ?_
                -- AT 56
                first
                  | exact lp56 0 (Or.inl ⟨rfl, fun z => absurd c5 (Int32.not_lt.mpr z.1)⟩)
                  | exact lp56 0 (Or.inl ⟨rfl, fun z => absurd c11 (Int32.not_le.mpr z.2.1)⟩)
                  | exact lp56 0 (Or.inl ⟨rfl, fun z => absurd c29 (Int32.not_lt.mpr z.2.2.2.1)⟩)
                  | exact lp56 0 (Or.inl ⟨rfl, fun z => absurd c34 (Int32.not_lt.mpr z.2.2.2.2.1)⟩)
                  | exact lp56 0 (Or.inl ⟨rfl, fun z => absurd c40 (Int32.not_lt.mpr z.2.2.2.2.2.1)⟩)
                  | exact lp56 0 (Or.inl ⟨rfl, fun z => absurd c46 (Int32.not_le.mpr z.2.2.2.2.2.2)⟩)
                  | exact lp56 0 (Or.inl ⟨rfl, fun z => z.2.2.1.elim c16 (zz_b_f c24)⟩)
                  | exact lp56 1 (Or.inr ⟨rfl, ⟨Int32.not_lt.mp c5, Int32.not_le.mp c11, Or.inl c16, Int32.not_lt.mp c29, Int32.not_lt.mp c34, Int32.not_lt.mp c40, Int32.not_le.mp c46⟩⟩)
                  | exact lp56 1 (Or.inr ⟨rfl, ⟨Int32.not_lt.mp c5, Int32.not_le.mp c11, Or.inr (zz_b_t c24), Int32.not_lt.mp c29, Int32.not_lt.mp c34, Int32.not_lt.mp c40, Int32.not_le.mp c46⟩⟩)
              · refine zz_iload (q := 39) (i := 4) C (by decide +kernel) rfl rfl ?_
                refine zz_iconst (q := 40) (n := -1) (x := (-1)) C (by decide +kernel) rfl (by decide +kernel) ?_
                refine zz_icmp_lt (off := 13) (tgt := 53) (q := 43) C (by decide +kernel) (by decide) rfl (fun c40 => ?_) (fun c40 => ?_)
                · refine zz_iconst (q := 54) (n := 0) (x := 0) C (by decide +kernel) rfl (by decide +kernel) ?_
                  refine zz_istore (q := 56) (i := 7) C (by decide +kernel) rfl (by decide) rfl ?_
                  -- AT 56
                  first
                    | exact lp56 0 (Or.inl ⟨rfl, fun z => absurd c5 (Int32.not_lt.mpr z.1)⟩)
                    | exact lp56 0 (Or.inl ⟨rfl, fun z => absurd c11 (Int32.not_le.mpr z.2.1)⟩)
                    | exact lp56 0 (Or.inl ⟨rfl, fun z => absurd c29 (Int32.not_lt.mpr z.2.2.2.1)⟩)
                    | exact lp56 0 (Or.inl ⟨rfl, fun z => absurd c34 (Int32.not_lt.mpr z.2.2.2.2.1)⟩)
                    | exact lp56 0 (Or.inl ⟨rfl, fun z => absurd c40 (Int32.not_lt.mpr z.2.2.2.2.2.1)⟩)
                    | exact lp56 0 (Or.inl ⟨rfl, fun z => absurd c46 (Int32.not_le.mpr z.2.2.2.2.2.2)⟩)
                    | exact lp56 0 (Or.inl ⟨rfl, fun z => z.2.2.1.elim c16 (zz_b_f c24)⟩)
                    | exact lp56 1 (Or.inr ⟨rfl, ⟨Int32.not_lt.mp c5, Int32.not_le.mp c11, Or.inl c16, Int32.not_lt.mp c29, Int32.not_lt.mp c34, Int32.not_lt.mp c40, Int32.not_le.mp c46⟩⟩)
                    | exact lp56 1 (Or.inr ⟨rfl, ⟨Int32.not_lt.mp c5, Int32.not_le.mp c11, Or.inr (zz_b_t c24), Int32.not_lt.mp c29, Int32.not_lt.mp c34, Int32.not_lt.mp c40, Int32.not_le.mp c46⟩⟩)
                · refine zz_iload (q := 45) (i := 4) C (by decide +kernel) rfl rfl ?_
                  refine zz_iload_n (q := 46) (f := 3) (i := 3) C (by decide +kernel) rfl rfl rfl ?_
                  refine zz_icmp_ge (off := 7) (tgt := 53) (q := 49) C (by decide +kernel) (by decide) rfl (fun c46 => ?_) (fun c46 => ?_)
                  · refine zz_iconst (q := 54) (n := 0) (x := 0) C (by decide +kernel) rfl (by decide +kernel) ?_
                    refine zz_istore (q := 56) (i := 7) C (by decide +kernel) rfl (by decide) rfl ?_
                    -- AT 56
                    first
                      | exact lp56 0 (Or.inl ⟨rfl, fun z => absurd c5 (Int32.not_lt.mpr z.1)⟩)
                      | exact lp56 0 (Or.inl ⟨rfl, fun z => absurd c11 (Int32.not_le.mpr z.2.1)⟩)
                      | exact lp56 0 (Or.inl ⟨rfl, fun z => absurd c29 (Int32.not_lt.mpr z.2.2.2.1)⟩)
                      | exact lp56 0 (Or.inl ⟨rfl, fun z => absurd c34 (Int32.not_lt.mpr z.2.2.2.2.1)⟩)
                      | exact lp56 0 (Or.inl ⟨rfl, fun z => absurd c40 (Int32.not_lt.mpr z.2.2.2.2.2.1)⟩)
                      | exact lp56 0 (Or.inl ⟨rfl, fun z => absurd c46 (Int32.not_le.mpr z.2.2.2.2.2.2)⟩)
                      | exact lp56 0 (Or.inl ⟨rfl, fun z => z.2.2.1.elim c16 (zz_b_f c24)⟩)
                      | exact lp56 1 (Or.inr ⟨rfl, ⟨Int32.not_lt.mp c5, Int32.not_le.mp c11, Or.inl c16, Int32.not_lt.mp c29, Int32.not_lt.mp c34, Int32.not_lt.mp c40, Int32.not_le.mp c46⟩⟩)
                      | exact lp56 1 (Or.inr ⟨rfl, ⟨Int32.not_lt.mp c5, Int32.not_le.mp c11, Or.inr (zz_b_t c24), Int32.not_lt.mp c29, Int32.not_lt.mp c34, Int32.not_lt.mp c40, Int32.not_le.mp c46⟩⟩)
                  · refine zz_iconst (q := 50) (n := 1) (x := 1) C (by decide +kernel) rfl (by decide +kernel) ?_
                    refine zz_goto (off := 4) (tgt := 54) C (by decide +kernel) (by decide) ?_
                    refine zz_istore (q := 56) (i := 7) C (by decide +kernel) rfl (by decide) rfl ?_
                    -- AT 56
                    first
                      | exact lp56 0 (Or.inl ⟨rfl, fun z => absurd c5 (Int32.not_lt.mpr z.1)⟩)
                      | exact lp56 0 (Or.inl ⟨rfl, fun z => absurd c11 (Int32.not_le.mpr z.2.1)⟩)
                      | exact lp56 0 (Or.inl ⟨rfl, fun z => absurd c29 (Int32.not_lt.mpr z.2.2.2.1)⟩)
                      | exact lp56 0 (Or.inl ⟨rfl, fun z => absurd c34 (Int32.not_lt.mpr z.2.2.2.2.1)⟩)
                      | exact lp56 0 (Or.inl ⟨rfl, fun z => absurd c40 (Int32.not_lt.mpr z.2.2.2.2.2.1)⟩)
                      | exact lp56 0 (Or.inl ⟨rfl, fun z => absurd c46 (Int32.not_le.mpr z.2.2.2.2.2.2)⟩)
                      | exact lp56 0 (Or.inl ⟨rfl, fun z => z.2.2.1.elim c16 (zz_b_f c24)⟩)
                      | exact lp56 1 (Or.inr ⟨rfl, ⟨Int32.not_lt.mp c5, Int32.not_le.mp c11, Or.inl c16, Int32.not_lt.mp c29, Int32.not_lt.mp c34, Int32.not_lt.mp c40, Int32.not_le.mp c46⟩⟩)
                      | exact lp56 1 (Or.inr ⟨rfl, ⟨Int32.not_lt.mp c5, Int32.not_le.mp c11, Or.inr (zz_b_t c24), Int32.not_lt.mp c29, Int32.not_lt.mp c34, Int32.not_lt.mp c40, Int32.not_le.mp c46⟩⟩)

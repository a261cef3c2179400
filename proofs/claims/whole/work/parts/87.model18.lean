/-! the reference: path -/
def mo_p1 (h : zz_H) (r : Nat) (t w op : Int32) : Prop := ¬ mo_ty h r t ∨ op < 0 ∨ 6 < op ∨ (¬ op ≤ 0 ∧ ¬ mo_hw h r t w)
def mo_p2 (h : zz_H) (r l : Nat) (t op : Int32) : Prop := (ma h r 22 l ≠ -1 ∧ ma h r 22 l ≠ t) ∨ (¬ op ≤ 0 ∧ ma h r 23 l = 3)
def mo_pp (h : zz_H) (r l : Nat) (t w op n : Int32) : zz_H := zz_sI (zz_sI (zz_sI (zz_sI (zz_sI (mo_bg h r) (mf h r 22) l t) (mf h r 24) (3 * l + mC h r l) w) (mf h r 25) (3 * l + mC h r l) op) (mf h r 26) (3 * l + mC h r l) n) (mf h r 23) l (nI (mC h r l + 1))
theorem sI_ne {h : zz_H} {a b i j : Nat} {x : Int32} (hb : b ≠ a) : zz_aI (zz_sI h a i x) b j = zz_aI h b j := if_neg (fun z => hb z.1)
def T_M_path : zz_Tr := fun as h post => ∃ r t w op n9, as = [zz_r 7 (some r), zz_i t, zz_i w, zz_i op, zz_i n9] ∧ mo_ok h r ∧ mo_ap h r ∧ mo_wt h r ∧ mo_wp h r ∧ (mo_p1 h r t w op → post (some (zz_i 0)) (zz_pI (mo_bg h r) 7 0 r 1)) ∧ (¬ mo_p1 h r t w op → (mo_p2 h r (mT h r t.toNatClampNeg) t op → post (some (zz_i 0)) (mo_bg h r)) ∧ (¬ mo_p2 h r (mT h r t.toNatClampNeg) t op → (op ≤ 0 → post (some (zz_i 1)) (zz_sI (mo_bg h r) (mf h r 22) (mT h r t.toNatClampNeg) t)) ∧ (¬ op ≤ 0 → post (some (zz_i 1)) (mo_pp h r (mT h r t.toNatClampNeg) t w op n9))))
set_option maxRecDepth 100000 in
set_option maxHeartbeats 4000000 in
theorem m_M_path (l : Launch) : zz_Met l y_M_path w_M_path { frames := 2, cells := 0, slots := 0, locals := 34 } T_M_path := by
  refine zz_ofZ (by decide) (fun as h post hT => ?_) ?_
  · obtain ⟨r, t, w, op, n9, rfl, hok, hap, hwt, hwp, hp1, hp⟩ := hT
    exact ⟨by simp [zz_cat], by simp⟩
  · intro D DA h as post hT p e s m args below meth c Q C hr hlk hnm hQ
    obtain ⟨r, t, w, op, n9, rfl, hok, hap, hwt, hwp, hp1, hp⟩ := hT
    have lp89 : mo_ty h r t → ¬ mo_p1 h r t w op → ¬ mo_p2 h r (mT h r t.toNatClampNeg) t op → zz_Z p l e { frames := 2, cells := 0, slots := 0, locals := 34 } s m args below meth c Q D DA (zz_A h s.heap.size) h 7 89 [some (zz_r 7 (some r)), some (zz_i t), some (zz_i w), some (zz_i op), some (zz_i n9), some (zz_i (nI (mT h r t.toNatClampNeg))), none] [] (mo_bg h r) 0 0 := by
      intro hty9 hno hn2
      have h9 := mo_ty9 hty9
      obtain ⟨a1, a2, a3, -⟩ := hwt t.toNatClampNeg h9.1 hty9.2.2
      obtain ⟨b1, b2, -⟩ := hwp (mT h r t.toNatClampNeg) (by omega)
      refine zz_aload_n (q := 90) (f := 0) (i := 0) C (by decide +kernel) rfl rfl rfl ?_
      refine zz_getR (q := 93) C gf_M_64 (by decide +kernel) rfl (by first | rfl | assumption) (hok 22 90 5 rfl).1 ?_
      refine zz_iload (q := 95) (i := 5) C (by decide +kernel) rfl rfl ?_
      refine zz_iload_n (q := 96) (f := 1) (i := 1) C (by decide +kernel) rfl rfl rfl ?_
      refine zz_iastore (q := 97) C (by decide +kernel) rfl rfl (hok 22 90 5 rfl).2 rfl (by omega) (by decide) ?_
      refine zz_iload_n (q := 98) (f := 3) (i := 3) C (by decide +kernel) rfl rfl rfl ?_
      refine zz_if_le (off := 53) (tgt := 151) (q := 101) C (by decide +kernel) (by decide) rfl (fun c98 => ?_) (fun c98 => ?_)
      · refine zz_iconst (q := 152) (n := 1) (x := 1) C (by decide +kernel) rfl (by decide +kernel) ?_
        refine zz_zret C hr hlk (by decide +kernel) (by decide) hQ (by decide) (by decide) ?_
        first
          | exact ((hp hno).2 hn2).1 c98
          | exact ((hp hno).2 hn2).2 c98
      · have hc3 : mC h r (mT h r t.toNatClampNeg) < 3 := Nat.lt_of_le_of_ne b2 (fun z => hn2 (Or.inr ⟨c98, by rw [b1, z]; rfl⟩))
        refine zz_iconst (q := 102) (n := 3) (x := 3) C (by decide +kernel) rfl (by decide +kernel) ?_
        refine zz_iload (q := 104) (i := 5) C (by decide +kernel) rfl rfl ?_
        refine zz_imul (q := 105) C (by decide +kernel) rfl (nI_mul9 3 _) ?_
        refine zz_aload_n (q := 106) (f := 0) (i := 0) C (by decide +kernel) rfl rfl rfl ?_
        refine zz_getR (q := 109) C gf_M_67 (by decide +kernel) rfl (by first | rfl | assumption) (hok 23 90 5 rfl).1 ?_
        refine zz_iload (q := 111) (i := 5) C (by decide +kernel) rfl rfl ?_
        refine zz_iaload (q := 112) C (by decide +kernel) rfl rfl (hok 23 90 5 rfl).2 rfl (by omega) (by decide) ((sI_ne (hap 23 22 (by decide) (by decide) (by decide))).trans b1) ?_
        refine zz_iadd (q := 113) C (by decide +kernel) rfl (nI_add _ _) ?_
        refine zz_istore (q := 115) (i := 6) C (by decide +kernel) rfl (by decide) rfl ?_
        refine zz_aload_n (q := 116) (f := 0) (i := 0) C (by decide +kernel) rfl rfl rfl ?_
        refine zz_getR (q := 119) C gf_M_70 (by decide +kernel) rfl (by first | rfl | assumption) (hok 24 90 15 rfl).1 ?_
        refine zz_iload (q := 121) (i := 6) C (by decide +kernel) rfl rfl ?_
        refine zz_iload_n (q := 122) (f := 2) (i := 2) C (by decide +kernel) rfl rfl rfl ?_
        refine zz_iastore (q := 123) C (by decide +kernel) rfl rfl (hok 24 90 15 rfl).2 rfl (by omega) (by decide) ?_
        refine zz_aload_n (q := 124) (f := 0) (i := 0) C (by decide +kernel) rfl rfl rfl ?_
        refine zz_getR (q := 127) C gf_M_73 (by decide +kernel) rfl (by first | rfl | assumption) (hok 25 90 15 rfl).1 ?_
        refine zz_iload (q := 129) (i := 6) C (by decide +kernel) rfl rfl ?_
        refine zz_iload_n (q := 130) (f := 3) (i := 3) C (by decide +kernel) rfl rfl rfl ?_
        refine zz_iastore (q := 131) C (by decide +kernel) rfl rfl (hok 25 90 15 rfl).2 rfl (by omega) (by decide) ?_
        refine zz_aload_n (q := 132) (f := 0) (i := 0) C (by decide +kernel) rfl rfl rfl ?_
        refine zz_getR (q := 135) C gf_M_76 (by decide +kernel) rfl (by first | rfl | assumption) (hok 26 90 15 rfl).1 ?_
        refine zz_iload (q := 137) (i := 6) C (by decide +kernel) rfl rfl ?_
        refine zz_iload (q := 139) (i := 4) C (by decide +kernel) rfl rfl ?_
        refine zz_iastore (q := 140) C (by decide +kernel) rfl rfl (hok 26 90 15 rfl).2 rfl (by omega) (by decide) ?_
        refine zz_aload_n (q := 141) (f := 0) (i := 0) C (by decide +kernel) rfl rfl rfl ?_
        refine zz_getR (q := 144) C gf_M_67 (by decide +kernel) rfl (by first | rfl | assumption) (hok 23 90 5 rfl).1 ?_
        refine zz_iload (q := 146) (i := 5) C (by decide +kernel) rfl rfl ?_
        refine zz_dup2 (q := 147) C (by decide +kernel) rfl rfl rfl ?_
        refine zz_iaload (q := 148) C (by decide +kernel) rfl rfl (hok 23 90 5 rfl).2 rfl (by omega) (by decide) ((sI_ne (hap 23 26 (by decide) (by decide) (by decide))).trans ((sI_ne (hap 23 25 (by decide) (by decide) (by decide))).trans ((sI_ne (hap 23 24 (by decide) (by decide) (by decide))).trans ((sI_ne (hap 23 22 (by decide) (by decide) (by decide))).trans b1)))) ?_
        refine zz_iconst (q := 149) (n := 1) (x := 1) C (by decide +kernel) rfl (by decide +kernel) ?_
        refine zz_iadd (q := 150) C (by decide +kernel) rfl (nI_1 _) ?_
        refine zz_iastore (q := 151) C (by decide +kernel) rfl rfl (hok 23 90 5 rfl).2 rfl (by omega) (by decide) ?_
        refine zz_iconst (q := 152) (n := 1) (x := 1) C (by decide +kernel) rfl (by decide +kernel) ?_
        refine zz_zret C hr hlk (by decide +kernel) (by decide) hQ (by decide) (by decide) ?_
        first
          | exact ((hp hno).2 hn2).1 c98
          | exact ((hp hno).2 hn2).2 c98
    have lp42 : mo_ty h r t → ¬ mo_p1 h r t w op → zz_Z p l e { frames := 2, cells := 0, slots := 0, locals := 34 } s m args below meth c Q D DA (zz_A h s.heap.size) h 7 42 [some (zz_r 7 (some r)), some (zz_i t), some (zz_i w), some (zz_i op), some (zz_i n9), none, none] [] (mo_bg h r) 0 0 := by
      intro hty9 hno
      have h9 := mo_ty9 hty9
      obtain ⟨a1, a2, a3, -⟩ := hwt t.toNatClampNeg h9.1 hty9.2.2
      obtain ⟨b1, b2, -⟩ := hwp (mT h r t.toNatClampNeg) (by omega)
      refine zz_aload_n (q := 43) (f := 0) (i := 0) C (by decide +kernel) rfl rfl rfl ?_
      refine zz_getR (q := 46) C gf_M_17 (by decide +kernel) rfl (by first | rfl | assumption) (hok 3 90 8 rfl).1 ?_
      refine zz_iload_n (q := 47) (f := 1) (i := 1) C (by decide +kernel) rfl rfl rfl ?_
      refine zz_iaload (q := 48) C (by decide +kernel) rfl rfl (hok 3 90 8 rfl).2 h9.2 h9.1 (by decide) a1 ?_
      refine zz_istore (q := 50) (i := 5) C (by decide +kernel) rfl (by decide) rfl ?_
      refine zz_aload_n (q := 51) (f := 0) (i := 0) C (by decide +kernel) rfl rfl rfl ?_
      refine zz_getR (q := 54) C gf_M_64 (by decide +kernel) rfl (by first | rfl | assumption) (hok 22 90 5 rfl).1 ?_
      refine zz_iload (q := 56) (i := 5) C (by decide +kernel) rfl rfl ?_
      refine zz_iaload (q := 57) C (by decide +kernel) rfl rfl (hok 22 90 5 rfl).2 rfl (by omega) (by decide) rfl ?_
      refine zz_iconst (q := 58) (n := -1) (x := (-1)) C (by decide +kernel) rfl (by decide +kernel) ?_
      refine zz_icmp_eq (off := 14) (tgt := 72) (q := 61) C (by decide +kernel) (by decide) rfl (fun c58 => ?_) (fun c58 => ?_)
      · refine zz_iload_n (q := 73) (f := 3) (i := 3) C (by decide +kernel) rfl rfl rfl ?_
        refine zz_if_le (off := 16) (tgt := 89) (q := 76) C (by decide +kernel) (by decide) rfl (fun c73 => ?_) (fun c73 => ?_)
        · -- AT 89
          first
            | exact lp89 hty9 hno (fun z => z.elim (fun k => k.1 c58) (fun k => k.1 c73))
            | exact lp89 hty9 hno (fun z => z.elim (fun k => k.1 c58) (fun k => c84 (b1.symm.trans k.2)))
            | exact lp89 hty9 hno (fun z => z.elim (fun k => k.2 c69) (fun k => k.1 c73))
            | exact lp89 hty9 hno (fun z => z.elim (fun k => k.2 c69) (fun k => c84 (b1.symm.trans k.2)))
        · refine zz_aload_n (q := 77) (f := 0) (i := 0) C (by decide +kernel) rfl rfl rfl ?_
          refine zz_getR (q := 80) C gf_M_67 (by decide +kernel) rfl (by first | rfl | assumption) (hok 23 90 5 rfl).1 ?_
          refine zz_iload (q := 82) (i := 5) C (by decide +kernel) rfl rfl ?_
          refine zz_iaload (q := 83) C (by decide +kernel) rfl rfl (hok 23 90 5 rfl).2 rfl (by omega) (by decide) b1 ?_
          refine zz_iconst (q := 84) (n := 3) (x := 3) C (by decide +kernel) rfl (by decide +kernel) ?_
          refine zz_icmp_ne (off := 5) (tgt := 89) (q := 87) C (by decide +kernel) (by decide) rfl (fun c84 => ?_) (fun c84 => ?_)
          · -- AT 89
            first
              | exact lp89 hty9 hno (fun z => z.elim (fun k => k.1 c58) (fun k => k.1 c73))
              | exact lp89 hty9 hno (fun z => z.elim (fun k => k.1 c58) (fun k => c84 (b1.symm.trans k.2)))
              | exact lp89 hty9 hno (fun z => z.elim (fun k => k.2 c69) (fun k => k.1 c73))
              | exact lp89 hty9 hno (fun z => z.elim (fun k => k.2 c69) (fun k => c84 (b1.symm.trans k.2)))
          · refine zz_iconst (q := 88) (n := 0) (x := 0) C (by decide +kernel) rfl (by decide +kernel) ?_
            refine zz_zret C hr hlk (by decide +kernel) (by decide) hQ (by decide) (by decide) ?_
            first
              | exact (hp hno).1 (Or.inl ⟨c58, c69⟩)
              | exact (hp hno).1 (Or.inr ⟨c73, b1.trans c84⟩)
      · refine zz_aload_n (q := 62) (f := 0) (i := 0) C (by decide +kernel) rfl rfl rfl ?_
        refine zz_getR (q := 65) C gf_M_64 (by decide +kernel) rfl (by first | rfl | assumption) (hok 22 90 5 rfl).1 ?_
        refine zz_iload (q := 67) (i := 5) C (by decide +kernel) rfl rfl ?_
        refine zz_iaload (q := 68) C (by decide +kernel) rfl rfl (hok 22 90 5 rfl).2 rfl (by omega) (by decide) rfl ?_
        refine zz_iload_n (q := 69) (f := 1) (i := 1) C (by decide +kernel) rfl rfl rfl ?_
        refine zz_icmp_ne (off := 18) (tgt := 87) (q := 72) C (by decide +kernel) (by decide) rfl (fun c69 => ?_) (fun c69 => ?_)
        · refine zz_iconst (q := 88) (n := 0) (x := 0) C (by decide +kernel) rfl (by decide +kernel) ?_
          refine zz_zret C hr hlk (by decide +kernel) (by decide) hQ (by decide) (by decide) ?_
          first
            | exact (hp hno).1 (Or.inl ⟨c58, c69⟩)
            | exact (hp hno).1 (Or.inr ⟨c73, b1.trans c84⟩)
        · refine zz_iload_n (q := 73) (f := 3) (i := 3) C (by decide +kernel) rfl rfl rfl ?_
          refine zz_if_le (off := 16) (tgt := 89) (q := 76) C (by decide +kernel) (by decide) rfl (fun c73 => ?_) (fun c73 => ?_)
          · -- AT 89
            first
              | exact lp89 hty9 hno (fun z => z.elim (fun k => k.1 c58) (fun k => k.1 c73))
              | exact lp89 hty9 hno (fun z => z.elim (fun k => k.1 c58) (fun k => c84 (b1.symm.trans k.2)))
              | exact lp89 hty9 hno (fun z => z.elim (fun k => k.2 c69) (fun k => k.1 c73))
              | exact lp89 hty9 hno (fun z => z.elim (fun k => k.2 c69) (fun k => c84 (b1.symm.trans k.2)))
          · refine zz_aload_n (q := 77) (f := 0) (i := 0) C (by decide +kernel) rfl rfl rfl ?_
            refine zz_getR (q := 80) C gf_M_67 (by decide +kernel) rfl (by first | rfl | assumption) (hok 23 90 5 rfl).1 ?_
            refine zz_iload (q := 82) (i := 5) C (by decide +kernel) rfl rfl ?_
            refine zz_iaload (q := 83) C (by decide +kernel) rfl rfl (hok 23 90 5 rfl).2 rfl (by omega) (by decide) b1 ?_
            refine zz_iconst (q := 84) (n := 3) (x := 3) C (by decide +kernel) rfl (by decide +kernel) ?_
            refine zz_icmp_ne (off := 5) (tgt := 89) (q := 87) C (by decide +kernel) (by decide) rfl (fun c84 => ?_) (fun c84 => ?_)
            · -- AT 89
              first
                | exact lp89 hty9 hno (fun z => z.elim (fun k => k.1 c58) (fun k => k.1 c73))
                | exact lp89 hty9 hno (fun z => z.elim (fun k => k.1 c58) (fun k => c84 (b1.symm.trans k.2)))
                | exact lp89 hty9 hno (fun z => z.elim (fun k => k.2 c69) (fun k => k.1 c73))
                | exact lp89 hty9 hno (fun z => z.elim (fun k => k.2 c69) (fun k => c84 (b1.symm.trans k.2)))
            · refine zz_iconst (q := 88) (n := 0) (x := 0) C (by decide +kernel) rfl (by decide +kernel) ?_
              refine zz_zret C hr hlk (by decide +kernel) (by decide) hQ (by decide) (by decide) ?_
              first
                | exact (hp hno).1 (Or.inl ⟨c58, c69⟩)
                | exact (hp hno).1 (Or.inr ⟨c73, b1.trans c84⟩)
    refine zz_aload_n (q := 1) (f := 0) (i := 0) C (by decide +kernel) rfl rfl rfl ?_
    refine zz_callV (q := 4) C (m_M_begin l) cv_M_91 (by decide +kernel) rfl rfl rfl (by first | rfl | assumption) (by decide) (by decide) (Nat.le_of_ble_eq_true rfl) ⟨_, rfl, ?_⟩
    refine zz_aload_n (q := 5) (f := 0) (i := 0) C (by decide +kernel) rfl rfl rfl ?_
    refine zz_iload_n (q := 6) (f := 1) (i := 1) C (by decide +kernel) rfl rfl rfl ?_
    refine zz_callV (q := 9) C (m_M_isType l) cv_M_94 (by decide +kernel) rfl rfl rfl (by first | rfl | assumption) (by decide) (by decide) (Nat.le_of_ble_eq_true rfl) ⟨_, _, rfl, hok, ?_⟩
    refine zz_if_eq (off := 26) (tgt := 35) (q := 12) C (by decide +kernel) (by decide) rfl (fun c9 => ?_) (fun c9 => ?_)
    · refine zz_aload_n (q := 36) (f := 0) (i := 0) C (by decide +kernel) rfl rfl rfl ?_
      refine zz_iconst (q := 37) (n := 1) (x := 1) C (by decide +kernel) rfl (by decide +kernel) ?_
      refine zz_putI (q := 40) C gf_M_88 (fun h => by cases h) (fun h => by cases h) (by decide +kernel) rfl (by first | rfl | assumption) ?_
      refine zz_iconst (q := 41) (n := 0) (x := 0) C (by decide +kernel) rfl (by decide +kernel) ?_
      refine zz_zret C hr hlk (by decide +kernel) (by decide) hQ (by decide) (by decide) ?_
      first
        | exact hp1 (Or.inl (zz_b_f c9))
        | exact hp1 (Or.inr (Or.inl c13))
        | exact hp1 (Or.inr (Or.inr (Or.inl c19)))
        | exact hp1 (Or.inr (Or.inr (Or.inr (⟨c23, zz_b_f c32⟩))))
    · have hty9 : mo_ty h r t := zz_b_t c9
      have h9 := mo_ty9 hty9
      refine zz_iload_n (q := 13) (f := 3) (i := 3) C (by decide +kernel) rfl rfl rfl ?_
      refine zz_if_lt (off := 22) (tgt := 35) (q := 16) C (by decide +kernel) (by decide) rfl (fun c13 => ?_) (fun c13 => ?_)
      · refine zz_aload_n (q := 36) (f := 0) (i := 0) C (by decide +kernel) rfl rfl rfl ?_
        refine zz_iconst (q := 37) (n := 1) (x := 1) C (by decide +kernel) rfl (by decide +kernel) ?_
        refine zz_putI (q := 40) C gf_M_88 (fun h => by cases h) (fun h => by cases h) (by decide +kernel) rfl (by first | rfl | assumption) ?_
        refine zz_iconst (q := 41) (n := 0) (x := 0) C (by decide +kernel) rfl (by decide +kernel) ?_
        refine zz_zret C hr hlk (by decide +kernel) (by decide) hQ (by decide) (by decide) ?_
        first
          | exact hp1 (Or.inl (zz_b_f c9))
          | exact hp1 (Or.inr (Or.inl c13))
          | exact hp1 (Or.inr (Or.inr (Or.inl c19)))
          | exact hp1 (Or.inr (Or.inr (Or.inr (⟨c23, zz_b_f c32⟩))))
      · refine zz_iload_n (q := 17) (f := 3) (i := 3) C (by decide +kernel) rfl rfl rfl ?_
        refine zz_bipush (q := 19) (n := 6) (x := 6) C (by decide +kernel) rfl (by decide +kernel) ?_
        refine zz_icmp_gt (off := 16) (tgt := 35) (q := 22) C (by decide +kernel) (by decide) rfl (fun c19 => ?_) (fun c19 => ?_)
        · refine zz_aload_n (q := 36) (f := 0) (i := 0) C (by decide +kernel) rfl rfl rfl ?_
          refine zz_iconst (q := 37) (n := 1) (x := 1) C (by decide +kernel) rfl (by decide +kernel) ?_
          refine zz_putI (q := 40) C gf_M_88 (fun h => by cases h) (fun h => by cases h) (by decide +kernel) rfl (by first | rfl | assumption) ?_
          refine zz_iconst (q := 41) (n := 0) (x := 0) C (by decide +kernel) rfl (by decide +kernel) ?_
          refine zz_zret C hr hlk (by decide +kernel) (by decide) hQ (by decide) (by decide) ?_
          first
            | exact hp1 (Or.inl (zz_b_f c9))
            | exact hp1 (Or.inr (Or.inl c13))
            | exact hp1 (Or.inr (Or.inr (Or.inl c19)))
            | exact hp1 (Or.inr (Or.inr (Or.inr (⟨c23, zz_b_f c32⟩))))
        · refine zz_iload_n (q := 23) (f := 3) (i := 3) C (by decide +kernel) rfl rfl rfl ?_
          refine zz_if_le (off := 19) (tgt := 42) (q := 26) C (by decide +kernel) (by decide) rfl (fun c23 => ?_) (fun c23 => ?_)
          · -- AT 42
            first
              | exact lp42 hty9 (fun z => z.elim (fun k => k hty9) (fun z => z.elim c13 (fun z => z.elim c19 (fun k => k.1 c23))))
              | exact lp42 hty9 (fun z => z.elim (fun k => k hty9) (fun z => z.elim c13 (fun z => z.elim c19 (fun k => k.2 (zz_b_t c32)))))
          · refine zz_aload_n (q := 27) (f := 0) (i := 0) C (by decide +kernel) rfl rfl rfl ?_
            refine zz_iload_n (q := 28) (f := 1) (i := 1) C (by decide +kernel) rfl rfl rfl ?_
            refine zz_iload_n (q := 29) (f := 2) (i := 2) C (by decide +kernel) rfl rfl rfl ?_
            refine zz_callV (q := 32) C (m_M_hasWord l) cv_M_101 (by decide +kernel) rfl rfl rfl (by first | rfl | assumption) (by decide) (by decide) (Nat.le_of_ble_eq_true rfl) ⟨_, _, _, t.toNatClampNeg, rfl, hok, h9.1, h9.2, ?_⟩
            refine zz_if_ne (off := 10) (tgt := 42) (q := 35) C (by decide +kernel) (by decide) rfl (fun c32 => ?_) (fun c32 => ?_)
            · -- AT 42
              first
                | exact lp42 hty9 (fun z => z.elim (fun k => k hty9) (fun z => z.elim c13 (fun z => z.elim c19 (fun k => k.1 c23))))
                | exact lp42 hty9 (fun z => z.elim (fun k => k hty9) (fun z => z.elim c13 (fun z => z.elim c19 (fun k => k.2 (zz_b_t c32)))))
            · refine zz_aload_n (q := 36) (f := 0) (i := 0) C (by decide +kernel) rfl rfl rfl ?_
              refine zz_iconst (q := 37) (n := 1) (x := 1) C (by decide +kernel) rfl (by decide +kernel) ?_
              refine zz_putI (q := 40) C gf_M_88 (fun h => by cases h) (fun h => by cases h) (by decide +kernel) rfl (by first | rfl | assumption) ?_
              refine zz_iconst (q := 41) (n := 0) (x := 0) C (by decide +kernel) rfl (by decide +kernel) ?_
              refine zz_zret C hr hlk (by decide +kernel) (by decide) hQ (by decide) (by decide) ?_
              first
                | exact hp1 (Or.inl (zz_b_f c9))
                | exact hp1 (Or.inr (Or.inl c13))
                | exact hp1 (Or.inr (Or.inr (Or.inl c19)))
                | exact hp1 (Or.inr (Or.inr (Or.inr (⟨c23, zz_b_f c32⟩))))

/-! the reference: segment -/
def mNo (h : zz_H) (r : Nat) (x : Int32) : Int32 := if x = -1 then 0 else ma h r 14 x.toNatClampNeg
def mSg (h : zz_H) (r s : Nat) (wh : Int32) : Int32 := if wh = 0 then ma h r 15 s else if wh = 1 then mNo h r (ma h r 16 s) else if wh = 2 then mNo h r (ma h r 17 s) else if wh = 3 then ma h r 3 (mK h r s) else if ¬ wh < 10 ∧ 0 ≤ wh - 10 ∧ wh - 10 < ma h r 4 (nI (mK h r s)).toNatClampNeg then ma h r 18 (4 * s + (wh - 10).toNatClampNeg) else -1
section SG
variable {h : zz_H} {r s : Nat} {wh : Int32}
theorem mSg_a (n0 : wh ≠ 0) (n1 : wh ≠ 1) (n2 : wh ≠ 2) (n3 : wh ≠ 3) (c : ¬ wh < 10) (g : mo_hw h r (nI (mK h r s)) (wh - 10)) : mSg h r s wh = ma h r 18 (4 * s + (wh - 10).toNatClampNeg) := by rw [mSg, if_neg n0, if_neg n1, if_neg n2, if_neg n3, if_pos ⟨c, g⟩]
theorem mSg_b (n0 : wh ≠ 0) (n1 : wh ≠ 1) (n2 : wh ≠ 2) (n3 : wh ≠ 3) (c : wh < 10) : mSg h r s wh = -1 := by rw [mSg, if_neg n0, if_neg n1, if_neg n2, if_neg n3, if_neg (fun z => z.1 c)]
theorem mSg_c (n0 : wh ≠ 0) (n1 : wh ≠ 1) (n2 : wh ≠ 2) (n3 : wh ≠ 3) (g : ¬ mo_hw h r (nI (mK h r s)) (wh - 10)) : mSg h r s wh = -1 := by rw [mSg, if_neg n0, if_neg n1, if_neg n2, if_neg n3, if_neg (fun z => g z.2)]
end SG
def mo_tn (h : zz_H) (r : Nat) : Prop := ∀ s, mLive h r s → ma h r 17 s = -1 ∨ ∃ b, b < 60 ∧ ma h r 17 s = nI b
theorem mNo_0 {h : zz_H} {r : Nat} {x : Int32} (e : x = -1) : mNo h r x = 0 := if_pos e
theorem mNo_1 {h : zz_H} {r b : Nat} {x : Int32} (hb : b < 60) (e : x = nI b) : mNo h r x = ma h r 14 b := by
  rw [mNo, if_neg (by rw [e]; exact nI_neg (by omega)), e, nI_clamp (by omega)]
theorem nI_as9 {a j : Nat} {w : Int32} (e : w - 10 = nI j) : nI a + w - 10 = nI (a + j) := by
  rw [Int32.sub_eq_add_neg, Int32.add_assoc, ← Int32.sub_eq_add_neg, e]; exact nI_add a j
def mFs (h : zz_H) (r : Nat) (num : Int32) (n : Nat) (o : Option Nat) : Prop := (o = none ∧ ∀ j, j < n → ¬ (0 < num ∧ ma h r 14 j = num)) ∨ ∃ j, o = some j ∧ j < n ∧ 0 < num ∧ ma h r 14 j = num
theorem mFs_no {h : zz_H} {r n : Nat} {num : Int32} {o : Option Nat} (hf : mFs h r num n o) (hn : ¬ (0 < num ∧ ma h r 14 n = num)) : mFs h r num (n + 1) o := by
  rcases hf with ⟨e, h1⟩ | ⟨j, e, h1, h2⟩
  · exact Or.inl ⟨e, or_next0 h1 hn⟩
  · exact Or.inr ⟨j, e, by omega, h2⟩
def T_M_segment : zz_Tr := fun as h post => ∃ r num wh, as = [zz_r 7 (some r), zz_i num, zz_i wh] ∧ mo_ok h r ∧ mo_wl h r ∧ mo_wt h r ∧ mo_kd h r ∧ mo_tn h r ∧ ((∀ j, j < 60 → ¬ (0 < num ∧ ma h r 14 j = num)) → post (some (zz_i (-1))) (mo_bg h r)) ∧ ∀ j, j < 60 → 0 < num → ma h r 14 j = num → post (some (zz_i (mSg h r j wh))) (mo_bg h r)
set_option maxRecDepth 100000 in
set_option maxHeartbeats 4000000 in
theorem m_M_segment (l : Launch) : zz_Met l y_M_segment w_M_segment { frames := 2, cells := 0, slots := 0, locals := 34 } T_M_segment := by
  refine zz_ofZ (by decide) (fun as h post hT => ?_) ?_
  · obtain ⟨r, num, wh, rfl, hok, hwl, hwt, hkd, htn, hp0, hp1⟩ := hT
    exact ⟨by simp [zz_cat], by simp⟩
  · intro D DA h as post hT p e s m args below meth c Q C hr hlk hnm hQ
    obtain ⟨r, num, wh, rfl, hok, hwl, hwt, hkd, htn, hp0, hp1⟩ := hT
    have lp44 : ∀ o9, mFs h r num 60 o9 → zz_Z p l e { frames := 2, cells := 0, slots := 0, locals := 34 } s m args below meth c Q D DA (zz_A h s.heap.size) h 5 44 [some (zz_r 7 (some r)), some (zz_i num), some (zz_i wh), some (zz_i (mO o9)), some (zz_i (nI 60))] [] (mo_bg h r) 0 0 := by
      intro o9 hf
      refine zz_iload_n (q := 45) (f := 3) (i := 3) C (by decide +kernel) rfl rfl rfl ?_
      refine zz_iconst (q := 46) (n := -1) (x := (-1)) C (by decide +kernel) rfl (by decide +kernel) ?_
      refine zz_icmp_ne (off := 5) (tgt := 51) (q := 49) C (by decide +kernel) (by decide) rfl (fun c46 => ?_) (fun c46 => ?_)
      · obtain ⟨s9, rfl⟩ := mO_some c46
        obtain ⟨q1, q2, q3⟩ : s9 < 60 ∧ 0 < num ∧ ma h r 14 s9 = num := by
          rcases hf with ⟨e, -⟩ | ⟨j, e, h1, h2⟩
          · cases e
          · cases e; exact ⟨h1, h2⟩
        have hls : mLive h r s9 := ⟨q1, by rw [q3]; exact q2⟩
        obtain ⟨e1, e2, e3, e4, e5, e6⟩ := hwl s9 hls
        obtain ⟨-, -, -, -, n9, s1, s2, s3, -⟩ := hwt (mK h r s9) e2 (hkd s9 hls)
        refine zz_iload_n (q := 52) (f := 2) (i := 2) C (by decide +kernel) rfl rfl rfl ?_
        rcases (zz_sw_0_3 wh) with hsw | hsw | hsw | hsw | hsw
        · refine zz_tableIn (dflt := 103) (lo := 0) (hi := 3) (offs := #[32, 39, 65, 91]) (len := 32) (off := 32) (tgt := 84) C (by decide +kernel) (by rw [hsw]; decide) (by rw [hsw]; decide) (by rw [hsw]; rfl) (by decide) ?_
          refine zz_aload_n (q := 85) (f := 0) (i := 0) C (by decide +kernel) rfl rfl rfl ?_
          refine zz_getR (q := 88) C gf_M_42 (by decide +kernel) rfl (by first | rfl | assumption) (hok 15 90 60 rfl).1 ?_
          refine zz_iload_n (q := 89) (f := 3) (i := 3) C (by decide +kernel) rfl rfl rfl ?_
          refine zz_iaload (q := 90) C (by decide +kernel) rfl rfl (hok 15 90 60 rfl).2 rfl (by omega) (by decide) rfl ?_
          refine zz_iret C hr hlk (by decide +kernel) hQ (by decide) (by decide) ?_
          have hs9 := hp1 s9 q1 q2 q3
          rw [mSg] at hs9
          rw [if_pos hsw] at hs9
          exact hs9
        · refine zz_tableIn (dflt := 103) (lo := 0) (hi := 3) (offs := #[32, 39, 65, 91]) (len := 32) (off := 39) (tgt := 91) C (by decide +kernel) (by rw [hsw]; decide) (by rw [hsw]; decide) (by rw [hsw]; rfl) (by decide) ?_
          refine zz_aload_n (q := 92) (f := 0) (i := 0) C (by decide +kernel) rfl rfl rfl ?_
          refine zz_getR (q := 95) C gf_M_45 (by decide +kernel) rfl (by first | rfl | assumption) (hok 16 90 60 rfl).1 ?_
          refine zz_iload_n (q := 96) (f := 3) (i := 3) C (by decide +kernel) rfl rfl rfl ?_
          refine zz_iaload (q := 97) C (by decide +kernel) rfl rfl (hok 16 90 60 rfl).2 rfl (by omega) (by decide) rfl ?_
          refine zz_iconst (q := 98) (n := -1) (x := (-1)) C (by decide +kernel) rfl (by decide +kernel) ?_
          refine zz_icmp_ne (off := 7) (tgt := 105) (q := 101) C (by decide +kernel) (by decide) rfl (fun c98 => ?_) (fun c98 => ?_)
          · obtain ⟨p9, g1, g2, g3⟩ := e6.resolve_left (fun z => c98 z.1)
            have hp60 := g1.1
            refine zz_aload_n (q := 106) (f := 0) (i := 0) C (by decide +kernel) rfl rfl rfl ?_
            refine zz_getR (q := 109) C gf_M_39 (by decide +kernel) rfl (by first | rfl | assumption) (hok 14 90 60 rfl).1 ?_
            refine zz_aload_n (q := 110) (f := 0) (i := 0) C (by decide +kernel) rfl rfl rfl ?_
            refine zz_getR (q := 113) C gf_M_45 (by decide +kernel) rfl (by first | rfl | assumption) (hok 16 90 60 rfl).1 ?_
            refine zz_iload_n (q := 114) (f := 3) (i := 3) C (by decide +kernel) rfl rfl rfl ?_
            refine zz_iaload (q := 115) C (by decide +kernel) rfl rfl (hok 16 90 60 rfl).2 rfl (by omega) (by decide) g2 ?_
            refine zz_iaload (q := 116) C (by decide +kernel) rfl rfl (hok 14 90 60 rfl).2 rfl (by omega) (by decide) rfl ?_
            refine zz_iret C hr hlk (by decide +kernel) hQ (by decide) (by decide) ?_
            have hs9 := hp1 s9 q1 q2 q3
            rw [mSg] at hs9
            rw [if_neg (by rw [hsw]; decide), if_pos hsw] at hs9
            first
              | (rw [mNo_1 g1.1 g2] at hs9; exact hs9)
              | (rw [mNo_0 (h := h) (r := r) (x := ma h r 16 s9) c98] at hs9; exact hs9)
          · refine zz_iconst (q := 102) (n := 0) (x := 0) C (by decide +kernel) rfl (by decide +kernel) ?_
            refine zz_goto (off := 14) (tgt := 116) C (by decide +kernel) (by decide) ?_
            refine zz_iret C hr hlk (by decide +kernel) hQ (by decide) (by decide) ?_
            have hs9 := hp1 s9 q1 q2 q3
            rw [mSg] at hs9
            rw [if_neg (by rw [hsw]; decide), if_pos hsw] at hs9
            first
              | (rw [mNo_1 g1.1 g2] at hs9; exact hs9)
              | (rw [mNo_0 (h := h) (r := r) (x := ma h r 16 s9) c98] at hs9; exact hs9)
        · refine zz_tableIn (dflt := 103) (lo := 0) (hi := 3) (offs := #[32, 39, 65, 91]) (len := 32) (off := 65) (tgt := 117) C (by decide +kernel) (by rw [hsw]; decide) (by rw [hsw]; decide) (by rw [hsw]; rfl) (by decide) ?_
          refine zz_aload_n (q := 118) (f := 0) (i := 0) C (by decide +kernel) rfl rfl rfl ?_
          refine zz_getR (q := 121) C gf_M_48 (by decide +kernel) rfl (by first | rfl | assumption) (hok 17 90 60 rfl).1 ?_
          refine zz_iload_n (q := 122) (f := 3) (i := 3) C (by decide +kernel) rfl rfl rfl ?_
          refine zz_iaload (q := 123) C (by decide +kernel) rfl rfl (hok 17 90 60 rfl).2 rfl (by omega) (by decide) rfl ?_
          refine zz_iconst (q := 124) (n := -1) (x := (-1)) C (by decide +kernel) rfl (by decide +kernel) ?_
          refine zz_icmp_ne (off := 7) (tgt := 131) (q := 127) C (by decide +kernel) (by decide) rfl (fun c124 => ?_) (fun c124 => ?_)
          · obtain ⟨b9, g1, g2⟩ := (htn s9 hls).resolve_left c124
            refine zz_aload_n (q := 132) (f := 0) (i := 0) C (by decide +kernel) rfl rfl rfl ?_
            refine zz_getR (q := 135) C gf_M_39 (by decide +kernel) rfl (by first | rfl | assumption) (hok 14 90 60 rfl).1 ?_
            refine zz_aload_n (q := 136) (f := 0) (i := 0) C (by decide +kernel) rfl rfl rfl ?_
            refine zz_getR (q := 139) C gf_M_48 (by decide +kernel) rfl (by first | rfl | assumption) (hok 17 90 60 rfl).1 ?_
            refine zz_iload_n (q := 140) (f := 3) (i := 3) C (by decide +kernel) rfl rfl rfl ?_
            refine zz_iaload (q := 141) C (by decide +kernel) rfl rfl (hok 17 90 60 rfl).2 rfl (by omega) (by decide) g2 ?_
            refine zz_iaload (q := 142) C (by decide +kernel) rfl rfl (hok 14 90 60 rfl).2 rfl (by omega) (by decide) rfl ?_
            refine zz_iret C hr hlk (by decide +kernel) hQ (by decide) (by decide) ?_
            have hs9 := hp1 s9 q1 q2 q3
            rw [mSg] at hs9
            rw [if_neg (by rw [hsw]; decide), if_neg (by rw [hsw]; decide), if_pos hsw] at hs9
            first
              | (rw [mNo_1 g1 g2] at hs9; exact hs9)
              | (rw [mNo_0 (h := h) (r := r) (x := ma h r 17 s9) c124] at hs9; exact hs9)
          · refine zz_iconst (q := 128) (n := 0) (x := 0) C (by decide +kernel) rfl (by decide +kernel) ?_
            refine zz_goto (off := 14) (tgt := 142) C (by decide +kernel) (by decide) ?_
            refine zz_iret C hr hlk (by decide +kernel) hQ (by decide) (by decide) ?_
            have hs9 := hp1 s9 q1 q2 q3
            rw [mSg] at hs9
            rw [if_neg (by rw [hsw]; decide), if_neg (by rw [hsw]; decide), if_pos hsw] at hs9
            first
              | (rw [mNo_1 g1 g2] at hs9; exact hs9)
              | (rw [mNo_0 (h := h) (r := r) (x := ma h r 17 s9) c124] at hs9; exact hs9)
        · refine zz_tableIn (dflt := 103) (lo := 0) (hi := 3) (offs := #[32, 39, 65, 91]) (len := 32) (off := 91) (tgt := 143) C (by decide +kernel) (by rw [hsw]; decide) (by rw [hsw]; decide) (by rw [hsw]; rfl) (by decide) ?_
          refine zz_aload_n (q := 144) (f := 0) (i := 0) C (by decide +kernel) rfl rfl rfl ?_
          refine zz_getR (q := 147) C gf_M_17 (by decide +kernel) rfl (by first | rfl | assumption) (hok 3 90 8 rfl).1 ?_
          refine zz_aload_n (q := 148) (f := 0) (i := 0) C (by decide +kernel) rfl rfl rfl ?_
          refine zz_getR (q := 151) C gf_M_42 (by decide +kernel) rfl (by first | rfl | assumption) (hok 15 90 60 rfl).1 ?_
          refine zz_iload_n (q := 152) (f := 3) (i := 3) C (by decide +kernel) rfl rfl rfl ?_
          refine zz_iaload (q := 153) C (by decide +kernel) rfl rfl (hok 15 90 60 rfl).2 rfl (by omega) (by decide) e1 ?_
          refine zz_iaload (q := 154) C (by decide +kernel) rfl rfl (hok 3 90 8 rfl).2 rfl e2 (by decide) rfl ?_
          refine zz_iret C hr hlk (by decide +kernel) hQ (by decide) (by decide) ?_
          have hs9 := hp1 s9 q1 q2 q3
          rw [mSg] at hs9
          rw [if_neg (by rw [hsw]; decide), if_neg (by rw [hsw]; decide), if_neg (by rw [hsw]; decide), if_pos hsw] at hs9
          exact hs9
        · refine zz_tableOut (dflt := 103) (lo := 0) (hi := 3) (offs := #[32, 39, 65, 91]) (len := 32) (tgt := 155) C (by decide +kernel) hsw (by decide) ?_
          refine zz_iload_n (q := 156) (f := 2) (i := 2) C (by decide +kernel) rfl rfl rfl ?_
          refine zz_bipush (q := 158) (n := 10) (x := 10) C (by decide +kernel) rfl (by decide +kernel) ?_
          refine zz_icmp_lt (off := 36) (tgt := 194) (q := 161) C (by decide +kernel) (by decide) rfl (fun c158 => ?_) (fun c158 => ?_)
          · refine zz_iconst (q := 195) (n := -1) (x := (-1)) C (by decide +kernel) rfl (by decide +kernel) ?_
            refine zz_iret C hr hlk (by decide +kernel) hQ (by decide) (by decide) ?_
            have n0 : wh ≠ 0 := fun z => by rw [z] at hsw; exact absurd hsw (by decide)
            have n1 : wh ≠ 1 := fun z => by rw [z] at hsw; exact absurd hsw (by decide)
            have n2 : wh ≠ 2 := fun z => by rw [z] at hsw; exact absurd hsw (by decide)
            have n3 : wh ≠ 3 := fun z => by rw [z] at hsw; exact absurd hsw (by decide)
            first
              | exact Eq.mp (congrArg (fun v => post (some (zz_i v)) (mo_bg h r)) (mSg_a n0 n1 n2 n3 c158 g9)) (hp1 s9 q1 q2 q3)
              | exact Eq.mp (congrArg (fun v => post (some (zz_i v)) (mo_bg h r)) (mSg_b n0 n1 n2 n3 c158)) (hp1 s9 q1 q2 q3)
              | exact Eq.mp (congrArg (fun v => post (some (zz_i v)) (mo_bg h r)) (mSg_c n0 n1 n2 n3 (zz_b_f c175))) (hp1 s9 q1 q2 q3)
          · refine zz_aload_n (q := 162) (f := 0) (i := 0) C (by decide +kernel) rfl rfl rfl ?_
            refine zz_aload_n (q := 163) (f := 0) (i := 0) C (by decide +kernel) rfl rfl rfl ?_
            refine zz_getR (q := 166) C gf_M_42 (by decide +kernel) rfl (by first | rfl | assumption) (hok 15 90 60 rfl).1 ?_
            refine zz_iload_n (q := 167) (f := 3) (i := 3) C (by decide +kernel) rfl rfl rfl ?_
            refine zz_iaload (q := 168) C (by decide +kernel) rfl rfl (hok 15 90 60 rfl).2 rfl (by omega) (by decide) e1 ?_
            refine zz_iload_n (q := 169) (f := 2) (i := 2) C (by decide +kernel) rfl rfl rfl ?_
            refine zz_bipush (q := 171) (n := 10) (x := 10) C (by decide +kernel) rfl (by decide +kernel) ?_
            refine zz_isub (q := 172) C (by decide +kernel) rfl rfl ?_
            refine zz_callV (q := 175) C (m_M_hasWord l) cv_M_101 (by decide +kernel) rfl rfl rfl (by first | rfl | assumption) (by decide) (by decide) (Nat.le_of_ble_eq_true rfl) ⟨_, _, _, mK h r s9, rfl, hok, e2, rfl, ?_⟩
            refine zz_if_eq (off := 19) (tgt := 194) (q := 178) C (by decide +kernel) (by decide) rfl (fun c175 => ?_) (fun c175 => ?_)
            · refine zz_iconst (q := 195) (n := -1) (x := (-1)) C (by decide +kernel) rfl (by decide +kernel) ?_
              refine zz_iret C hr hlk (by decide +kernel) hQ (by decide) (by decide) ?_
              have n0 : wh ≠ 0 := fun z => by rw [z] at hsw; exact absurd hsw (by decide)
              have n1 : wh ≠ 1 := fun z => by rw [z] at hsw; exact absurd hsw (by decide)
              have n2 : wh ≠ 2 := fun z => by rw [z] at hsw; exact absurd hsw (by decide)
              have n3 : wh ≠ 3 := fun z => by rw [z] at hsw; exact absurd hsw (by decide)
              first
                | exact Eq.mp (congrArg (fun v => post (some (zz_i v)) (mo_bg h r)) (mSg_a n0 n1 n2 n3 c158 g9)) (hp1 s9 q1 q2 q3)
                | exact Eq.mp (congrArg (fun v => post (some (zz_i v)) (mo_bg h r)) (mSg_b n0 n1 n2 n3 c158)) (hp1 s9 q1 q2 q3)
                | exact Eq.mp (congrArg (fun v => post (some (zz_i v)) (mo_bg h r)) (mSg_c n0 n1 n2 n3 (zz_b_f c175))) (hp1 s9 q1 q2 q3)
            · have g9 := zz_b_t c175
              have g8 : wh - 10 < nI n9 := by
                have := g9.2
                rw [nI_clamp (by omega)] at this
                exact s3 ▸ this
              have h9 := nI_in9 (n := n9) rfl (by omega) (Int32.not_lt.mpr g9.1) g8
              refine zz_aload_n (q := 179) (f := 0) (i := 0) C (by decide +kernel) rfl rfl rfl ?_
              refine zz_getR (q := 182) C gf_M_51 (by decide +kernel) rfl (by first | rfl | assumption) (hok 18 90 240 rfl).1 ?_
              refine zz_iconst (q := 183) (n := 4) (x := 4) C (by decide +kernel) rfl (by decide +kernel) ?_
              refine zz_iload_n (q := 184) (f := 3) (i := 3) C (by decide +kernel) rfl rfl rfl ?_
              refine zz_imul (q := 185) C (by decide +kernel) rfl (nI_mul9 4 _) ?_
              refine zz_iload_n (q := 186) (f := 2) (i := 2) C (by decide +kernel) rfl rfl rfl ?_
              refine zz_iadd (q := 187) C (by decide +kernel) rfl rfl ?_
              refine zz_bipush (q := 189) (n := 10) (x := 10) C (by decide +kernel) rfl (by decide +kernel) ?_
              refine zz_isub (q := 190) C (by decide +kernel) rfl (nI_as9 h9.2) ?_
              refine zz_iaload (q := 191) C (by decide +kernel) rfl rfl (hok 18 90 240 rfl).2 rfl (by omega) (by decide) rfl ?_
              refine zz_goto (off := 4) (tgt := 195) C (by decide +kernel) (by decide) ?_
              refine zz_iret C hr hlk (by decide +kernel) hQ (by decide) (by decide) ?_
              have n0 : wh ≠ 0 := fun z => by rw [z] at hsw; exact absurd hsw (by decide)
              have n1 : wh ≠ 1 := fun z => by rw [z] at hsw; exact absurd hsw (by decide)
              have n2 : wh ≠ 2 := fun z => by rw [z] at hsw; exact absurd hsw (by decide)
              have n3 : wh ≠ 3 := fun z => by rw [z] at hsw; exact absurd hsw (by decide)
              first
                | exact Eq.mp (congrArg (fun v => post (some (zz_i v)) (mo_bg h r)) (mSg_a n0 n1 n2 n3 c158 g9)) (hp1 s9 q1 q2 q3)
                | exact Eq.mp (congrArg (fun v => post (some (zz_i v)) (mo_bg h r)) (mSg_b n0 n1 n2 n3 c158)) (hp1 s9 q1 q2 q3)
                | exact Eq.mp (congrArg (fun v => post (some (zz_i v)) (mo_bg h r)) (mSg_c n0 n1 n2 n3 (zz_b_f c175))) (hp1 s9 q1 q2 q3)
      · refine zz_iconst (q := 50) (n := -1) (x := (-1)) C (by decide +kernel) rfl (by decide +kernel) ?_
        refine zz_iret C hr hlk (by decide +kernel) hQ (by decide) (by decide) ?_
        rcases hf with ⟨e, h1⟩ | ⟨j, e, h1, h2⟩
        · exact hp0 h1
        · exact absurd c46 (by rw [e]; exact nI_neg (by omega))
    have lp9 : ∀ n k o9, 61 ≤ n + k → k ≤ 60 → mFs h r num k o9 → zz_Z p l e { frames := 2, cells := 0, slots := 0, locals := 34 } s m args below meth c Q D DA (zz_A h s.heap.size) h 5 9 [some (zz_r 7 (some r)), some (zz_i num), some (zz_i wh), some (zz_i (mO o9)), some (zz_i (nI k))] [] (mo_bg h r) 0 0 := by
      intro n
      induction n with
      | zero =>
        intro k o9 hn hi
        exact absurd hn (by omega)
      | succ n ih =>
        intro k o9 hn hile hf
        refine zz_iload (q := 11) (i := 4) C (by decide +kernel) rfl rfl ?_
        refine zz_bipush (q := 13) (n := 60) (x := 60) C (by decide +kernel) rfl (by decide +kernel) ?_
        refine zz_icmp_ge (off := 31) (tgt := 44) (q := 16) C (by decide +kernel) (by decide) rfl (fun c13 => ?_) (fun c13 => ?_)
        · -- AT 44
          have hk : k = 60 := by
            have := (nI_leI (a := 60) (b := k) (by decide) (by omega)).mp c13
            omega
          subst hk
          exact lp44 o9 hf
        · have hi : k < 60 := Nat.lt_of_not_le (fun z => c13 (nI_le (a := 60) z (by omega)))
          refine zz_iload_n (q := 17) (f := 1) (i := 1) C (by decide +kernel) rfl rfl rfl ?_
          refine zz_if_le (off := 19) (tgt := 36) (q := 20) C (by decide +kernel) (by decide) rfl (fun c17 => ?_) (fun c17 => ?_)
          · refine zz_iload_n (q := 37) (f := 3) (i := 3) C (by decide +kernel) rfl rfl rfl ?_
            refine zz_istore_n (q := 38) (f := 3) (i := 3) C (by decide +kernel) rfl rfl (by decide) rfl ?_
            refine zz_iinc (q := 41) (i := 4) (n := 1) C (by decide +kernel) rfl rfl (nI_1 _) (by decide) rfl ?_
            refine zz_goto (off := -32) (tgt := 9) C (by decide +kernel) (by decide) ?_
            -- AT 9
            first
              | exact ih (k + 1) o9 (by omega) (by omega) (mFs_no hf (fun z => absurd z.1 (Int32.not_lt.mpr c17)))
              | exact ih (k + 1) o9 (by omega) (by omega) (mFs_no hf (fun z => c28 z.2))
              | exact ih (k + 1) (some k) (by omega) (by omega) (Or.inr ⟨k, rfl, by omega, Int32.not_le.mp c17, c28⟩)
          · refine zz_aload_n (q := 21) (f := 0) (i := 0) C (by decide +kernel) rfl rfl rfl ?_
            refine zz_getR (q := 24) C gf_M_39 (by decide +kernel) rfl (by first | rfl | assumption) (hok 14 90 60 rfl).1 ?_
            refine zz_iload (q := 26) (i := 4) C (by decide +kernel) rfl rfl ?_
            refine zz_iaload (q := 27) C (by decide +kernel) rfl rfl (hok 14 90 60 rfl).2 rfl (by omega) (by decide) rfl ?_
            refine zz_iload_n (q := 28) (f := 1) (i := 1) C (by decide +kernel) rfl rfl rfl ?_
            refine zz_icmp_ne (off := 8) (tgt := 36) (q := 31) C (by decide +kernel) (by decide) rfl (fun c28 => ?_) (fun c28 => ?_)
            · refine zz_iload_n (q := 37) (f := 3) (i := 3) C (by decide +kernel) rfl rfl rfl ?_
              refine zz_istore_n (q := 38) (f := 3) (i := 3) C (by decide +kernel) rfl rfl (by decide) rfl ?_
              refine zz_iinc (q := 41) (i := 4) (n := 1) C (by decide +kernel) rfl rfl (nI_1 _) (by decide) rfl ?_
              refine zz_goto (off := -32) (tgt := 9) C (by decide +kernel) (by decide) ?_
              -- AT 9
              first
                | exact ih (k + 1) o9 (by omega) (by omega) (mFs_no hf (fun z => absurd z.1 (Int32.not_lt.mpr c17)))
                | exact ih (k + 1) o9 (by omega) (by omega) (mFs_no hf (fun z => c28 z.2))
                | exact ih (k + 1) (some k) (by omega) (by omega) (Or.inr ⟨k, rfl, by omega, Int32.not_le.mp c17, c28⟩)
            · refine zz_iload (q := 33) (i := 4) C (by decide +kernel) rfl rfl ?_
              refine zz_goto (off := 4) (tgt := 37) C (by decide +kernel) (by decide) ?_
              refine zz_istore_n (q := 38) (f := 3) (i := 3) C (by decide +kernel) rfl rfl (by decide) rfl ?_
              refine zz_iinc (q := 41) (i := 4) (n := 1) C (by decide +kernel) rfl rfl (nI_1 _) (by decide) rfl ?_
              refine zz_goto (off := -32) (tgt := 9) C (by decide +kernel) (by decide) ?_
              -- AT 9
              first
                | exact ih (k + 1) o9 (by omega) (by omega) (mFs_no hf (fun z => absurd z.1 (Int32.not_lt.mpr c17)))
                | exact ih (k + 1) o9 (by omega) (by omega) (mFs_no hf (fun z => c28 z.2))
                | exact ih (k + 1) (some k) (by omega) (by omega) (Or.inr ⟨k, rfl, by omega, Int32.not_le.mp c17, c28⟩)
    refine zz_aload_n (q := 1) (f := 0) (i := 0) C (by decide +kernel) rfl rfl rfl ?_
    refine zz_callV (q := 4) C (m_M_begin l) cv_M_91 (by decide +kernel) rfl rfl rfl (by first | rfl | assumption) (by decide) (by decide) (Nat.le_of_ble_eq_true rfl) ⟨_, rfl, ?_⟩
    refine zz_iconst (q := 5) (n := -1) (x := (-1)) C (by decide +kernel) rfl (by decide +kernel) ?_
    refine zz_istore_n (q := 6) (f := 3) (i := 3) C (by decide +kernel) rfl rfl (by decide) rfl ?_
    refine zz_iconst (q := 7) (n := 0) (x := 0) C (by decide +kernel) rfl (by decide +kernel) ?_
    refine zz_istore (q := 9) (i := 4) C (by decide +kernel) rfl (by decide) rfl ?_
    -- AT 9
    exact lp9 61 0 none (by omega) (by omega) (Or.inl ⟨rfl, fun j hj => absurd hj (by omega)⟩)

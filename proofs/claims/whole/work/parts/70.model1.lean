/-! the reference -/
def mo_sz (j : Nat) : Option (Nat × Nat) := match j with
  | 1 => some (91, 8)
  | 2 => some (90, 8)
  | 3 => some (90, 8)
  | 4 => some (90, 8)
  | 5 => some (90, 8)
  | 6 => some (91, 8)
  | 7 => some (91, 8)
  | 8 => some (90, 8)
  | 14 => some (90, 60)
  | 15 => some (90, 60)
  | 16 => some (90, 60)
  | 17 => some (90, 60)
  | 18 => some (90, 240)
  | 19 => some (90, 60)
  | 20 => some (92, 60)
  | 21 => some (91, 60)
  | 22 => some (90, 5)
  | 23 => some (90, 5)
  | 24 => some (90, 15)
  | 25 => some (90, 15)
  | 26 => some (90, 15)
  | 27 => some (90, 4)
  | _ => none
/-- the array of a field -/
def mf (h : zz_H) (r j : Nat) : Nat := (zz_fR h 7 j r).getD 0
def ma (h : zz_H) (r j i : Nat) : Int32 := zz_aI h (mf h r j) i
def mo_ok (h : zz_H) (r : Nat) : Prop := ∀ j ty n, mo_sz j = some (ty, n) → zz_fR h 7 j r = some (mf h r j) ∧ zz_tg h (mf h r j) = some (ty, n)
def mo_bg (h : zz_H) (r : Nat) : zz_H := zz_pI (zz_pI h 7 0 r 0) 7 30 r (-1)
def mo_ty (h : zz_H) (r : Nat) (t : Int32) : Prop := 0 ≤ t ∧ t < 8 ∧ ma h r 1 t.toNatClampNeg ≠ 0
def mo_hw (h : zz_H) (r : Nat) (t i : Int32) : Prop := 0 ≤ i ∧ i < ma h r 4 t.toNatClampNeg
theorem nI_tn {t : Int32} {k : Nat} (hk : k < 2 ^ 31) (e : t = nI k) : t.toNatClampNeg = k := by rw [e]; exact nI_clamp hk
theorem nI_lt9 {t : Int32} {k n : Nat} (hn : n < 2 ^ 31) (hk : k < n) (e : t = nI k) : t.toNatClampNeg < n ∧ t = nI t.toNatClampNeg := by
  rw [nI_tn (by omega) e]; exact ⟨hk, e⟩
def T_M_begin : zz_Tr := fun as h post => ∃ r, as = [zz_r 7 (some r)] ∧ post none (mo_bg h r)
set_option maxRecDepth 100000 in
set_option maxHeartbeats 4000000 in
theorem m_M_begin (l : Launch) : zz_Met l y_M_begin w_M_begin { frames := 1, cells := 0, slots := 0, locals := 12 } T_M_begin := by
  refine zz_ofZ (by decide) (fun as h post hT => ?_) ?_
  · obtain ⟨r, rfl, hp⟩ := hT
    exact ⟨by simp [zz_cat], by simp⟩
  · intro D DA h as post hT p e s m args below meth c Q C hr hlk hnm hQ
    obtain ⟨r, rfl, hp⟩ := hT
    refine zz_aload_n (q := 1) (f := 0) (i := 0) C (by decide +kernel) rfl rfl rfl ?_
    refine zz_iconst (q := 2) (n := 0) (x := 0) C (by decide +kernel) rfl (by decide +kernel) ?_
    refine zz_putI (q := 5) C gf_M_88 (fun h => by cases h) (fun h => by cases h) (by decide +kernel) rfl (by first | rfl | assumption) ?_
    refine zz_aload_n (q := 6) (f := 0) (i := 0) C (by decide +kernel) rfl rfl rfl ?_
    refine zz_iconst (q := 7) (n := -1) (x := (-1)) C (by decide +kernel) rfl (by decide +kernel) ?_
    refine zz_putI (q := 10) C gf_M_82 (fun h => by cases h) (fun h => by cases h) (by decide +kernel) rfl (by first | rfl | assumption) ?_
    refine zz_vret C hr hlk (by decide +kernel) hQ (by decide) (by decide) ?_
    exact hp

def T_M_refuse : zz_Tr := fun as h post => ∃ r x, as = [zz_r 7 (some r), zz_i x] ∧ post (some (zz_i 0)) (zz_pI h 7 0 r x)
set_option maxRecDepth 100000 in
set_option maxHeartbeats 4000000 in
theorem m_M_refuse (l : Launch) : zz_Met l y_M_refuse w_M_refuse { frames := 1, cells := 0, slots := 0, locals := 12 } T_M_refuse := by
  refine zz_ofZ (by decide) (fun as h post hT => ?_) ?_
  · obtain ⟨r, x, rfl, hp⟩ := hT
    exact ⟨by simp [zz_cat], by simp⟩
  · intro D DA h as post hT p e s m args below meth c Q C hr hlk hnm hQ
    obtain ⟨r, x, rfl, hp⟩ := hT
    refine zz_aload_n (q := 1) (f := 0) (i := 0) C (by decide +kernel) rfl rfl rfl ?_
    refine zz_iload_n (q := 2) (f := 1) (i := 1) C (by decide +kernel) rfl rfl rfl ?_
    refine zz_putI (q := 5) C gf_M_88 (fun h => by cases h) (fun h => by cases h) (by decide +kernel) rfl (by first | rfl | assumption) ?_
    refine zz_iconst (q := 6) (n := 0) (x := 0) C (by decide +kernel) rfl (by decide +kernel) ?_
    refine zz_iret C hr hlk (by decide +kernel) hQ (by decide) (by decide) ?_
    exact hp

def T_M_thrown : zz_Tr := fun as h post => ∃ r, as = [zz_r 7 (some r)] ∧ post (some (zz_i (zz_fI h 7 0 r))) h
set_option maxRecDepth 100000 in
set_option maxHeartbeats 4000000 in
theorem m_M_thrown (l : Launch) : zz_Met l y_M_thrown w_M_thrown { frames := 1, cells := 0, slots := 0, locals := 12 } T_M_thrown := by
  refine zz_ofZ (by decide) (fun as h post hT => ?_) ?_
  · obtain ⟨r, rfl, hp⟩ := hT
    exact ⟨by simp [zz_cat], by simp⟩
  · intro D DA h as post hT p e s m args below meth c Q C hr hlk hnm hQ
    obtain ⟨r, rfl, hp⟩ := hT
    refine zz_aload_n (q := 1) (f := 0) (i := 0) C (by decide +kernel) rfl rfl rfl ?_
    refine zz_getI (q := 4) C gf_M_88 (by decide +kernel) rfl (by first | rfl | assumption) rfl ?_
    refine zz_iret C hr hlk (by decide +kernel) hQ (by decide) (by decide) ?_
    exact hp

def T_M_holds : zz_Tr := fun as h post => ∃ q x y, as = [zz_i q, zz_i x, zz_i y] ∧ post (some (zz_i (zz_b (pl_cmp q x y)))) h
set_option maxRecDepth 100000 in
set_option maxHeartbeats 4000000 in
theorem m_M_holds (l : Launch) : zz_Met l y_M_holds w_M_holds { frames := 1, cells := 0, slots := 0, locals := 12 } T_M_holds := by
  refine zz_ofZ (by decide) (fun as h post hT => ?_) ?_
  · obtain ⟨q, x, y, rfl, hp⟩ := hT
    exact ⟨by simp [zz_cat], by simp⟩
  · intro D DA h as post hT p e s m args below meth c Q C hr hlk hnm hQ
    obtain ⟨q, x, y, rfl, hp⟩ := hT
    refine zz_iload_n (q := 1) (f := 0) (i := 0) C (by decide +kernel) rfl rfl rfl ?_
    rcases (zz_sw_1_5 q) with hsw | hsw | hsw | hsw | hsw | hsw
    · refine zz_tableIn (dflt := 90) (lo := 1) (hi := 5) (offs := #[35, 46, 57, 68, 79]) (len := 35) (off := 35) (tgt := 36) C (by decide +kernel) (by rw [hsw]; decide) (by rw [hsw]; decide) (by rw [hsw]; rfl) (by decide) ?_
      refine zz_iload_n (q := 37) (f := 1) (i := 1) C (by decide +kernel) rfl rfl rfl ?_
      refine zz_iload_n (q := 38) (f := 2) (i := 2) C (by decide +kernel) rfl rfl rfl ?_
      refine zz_icmp_ne (off := 7) (tgt := 45) (q := 41) C (by decide +kernel) (by decide) rfl (fun c38 => ?_) (fun c38 => ?_)
      · refine zz_iconst (q := 46) (n := 0) (x := 0) C (by decide +kernel) rfl (by decide +kernel) ?_
        refine zz_zret C hr hlk (by decide +kernel) (by decide) hQ (by decide) (by decide) ?_
        have e : pl_cmp q x y ↔ x = y := by simp [pl_cmp, hsw]
        first | exact zz_rT hp c38 e | exact zz_rT hp (Int32.not_le.mp c38) e | exact zz_rT hp (Int32.not_lt.mp c38) e | exact zz_rF hp c38 e | exact zz_rF hp (Int32.not_lt.mpr c38) e | exact zz_rF hp (Int32.not_le.mpr c38) e | exact zz_rF hp (fun z => z c38) e
      · refine zz_iconst (q := 42) (n := 1) (x := 1) C (by decide +kernel) rfl (by decide +kernel) ?_
        refine zz_goto (off := 4) (tgt := 46) C (by decide +kernel) (by decide) ?_
        refine zz_zret C hr hlk (by decide +kernel) (by decide) hQ (by decide) (by decide) ?_
        have e : pl_cmp q x y ↔ x = y := by simp [pl_cmp, hsw]
        first | exact zz_rT hp c38 e | exact zz_rT hp (Int32.not_le.mp c38) e | exact zz_rT hp (Int32.not_lt.mp c38) e | exact zz_rF hp c38 e | exact zz_rF hp (Int32.not_lt.mpr c38) e | exact zz_rF hp (Int32.not_le.mpr c38) e | exact zz_rF hp (fun z => z c38) e
    · refine zz_tableIn (dflt := 90) (lo := 1) (hi := 5) (offs := #[35, 46, 57, 68, 79]) (len := 35) (off := 46) (tgt := 47) C (by decide +kernel) (by rw [hsw]; decide) (by rw [hsw]; decide) (by rw [hsw]; rfl) (by decide) ?_
      refine zz_iload_n (q := 48) (f := 1) (i := 1) C (by decide +kernel) rfl rfl rfl ?_
      refine zz_iload_n (q := 49) (f := 2) (i := 2) C (by decide +kernel) rfl rfl rfl ?_
      refine zz_icmp_eq (off := 7) (tgt := 56) (q := 52) C (by decide +kernel) (by decide) rfl (fun c49 => ?_) (fun c49 => ?_)
      · refine zz_iconst (q := 57) (n := 0) (x := 0) C (by decide +kernel) rfl (by decide +kernel) ?_
        refine zz_zret C hr hlk (by decide +kernel) (by decide) hQ (by decide) (by decide) ?_
        have e : pl_cmp q x y ↔ x ≠ y := by simp [pl_cmp, hsw]
        first | exact zz_rT hp c49 e | exact zz_rT hp (Int32.not_le.mp c49) e | exact zz_rT hp (Int32.not_lt.mp c49) e | exact zz_rF hp c49 e | exact zz_rF hp (Int32.not_lt.mpr c49) e | exact zz_rF hp (Int32.not_le.mpr c49) e | exact zz_rF hp (fun z => z c49) e
      · refine zz_iconst (q := 53) (n := 1) (x := 1) C (by decide +kernel) rfl (by decide +kernel) ?_
        refine zz_goto (off := 4) (tgt := 57) C (by decide +kernel) (by decide) ?_
        refine zz_zret C hr hlk (by decide +kernel) (by decide) hQ (by decide) (by decide) ?_
        have e : pl_cmp q x y ↔ x ≠ y := by simp [pl_cmp, hsw]
        first | exact zz_rT hp c49 e | exact zz_rT hp (Int32.not_le.mp c49) e | exact zz_rT hp (Int32.not_lt.mp c49) e | exact zz_rF hp c49 e | exact zz_rF hp (Int32.not_lt.mpr c49) e | exact zz_rF hp (Int32.not_le.mpr c49) e | exact zz_rF hp (fun z => z c49) e
    · refine zz_tableIn (dflt := 90) (lo := 1) (hi := 5) (offs := #[35, 46, 57, 68, 79]) (len := 35) (off := 57) (tgt := 58) C (by decide +kernel) (by rw [hsw]; decide) (by rw [hsw]; decide) (by rw [hsw]; rfl) (by decide) ?_
      refine zz_iload_n (q := 59) (f := 1) (i := 1) C (by decide +kernel) rfl rfl rfl ?_
      refine zz_iload_n (q := 60) (f := 2) (i := 2) C (by decide +kernel) rfl rfl rfl ?_
      refine zz_icmp_ge (off := 7) (tgt := 67) (q := 63) C (by decide +kernel) (by decide) rfl (fun c60 => ?_) (fun c60 => ?_)
      · refine zz_iconst (q := 68) (n := 0) (x := 0) C (by decide +kernel) rfl (by decide +kernel) ?_
        refine zz_zret C hr hlk (by decide +kernel) (by decide) hQ (by decide) (by decide) ?_
        have e : pl_cmp q x y ↔ x < y := by simp [pl_cmp, hsw]
        first | exact zz_rT hp c60 e | exact zz_rT hp (Int32.not_le.mp c60) e | exact zz_rT hp (Int32.not_lt.mp c60) e | exact zz_rF hp c60 e | exact zz_rF hp (Int32.not_lt.mpr c60) e | exact zz_rF hp (Int32.not_le.mpr c60) e | exact zz_rF hp (fun z => z c60) e
      · refine zz_iconst (q := 64) (n := 1) (x := 1) C (by decide +kernel) rfl (by decide +kernel) ?_
        refine zz_goto (off := 4) (tgt := 68) C (by decide +kernel) (by decide) ?_
        refine zz_zret C hr hlk (by decide +kernel) (by decide) hQ (by decide) (by decide) ?_
        have e : pl_cmp q x y ↔ x < y := by simp [pl_cmp, hsw]
        first | exact zz_rT hp c60 e | exact zz_rT hp (Int32.not_le.mp c60) e | exact zz_rT hp (Int32.not_lt.mp c60) e | exact zz_rF hp c60 e | exact zz_rF hp (Int32.not_lt.mpr c60) e | exact zz_rF hp (Int32.not_le.mpr c60) e | exact zz_rF hp (fun z => z c60) e
    · refine zz_tableIn (dflt := 90) (lo := 1) (hi := 5) (offs := #[35, 46, 57, 68, 79]) (len := 35) (off := 68) (tgt := 69) C (by decide +kernel) (by rw [hsw]; decide) (by rw [hsw]; decide) (by rw [hsw]; rfl) (by decide) ?_
      refine zz_iload_n (q := 70) (f := 1) (i := 1) C (by decide +kernel) rfl rfl rfl ?_
      refine zz_iload_n (q := 71) (f := 2) (i := 2) C (by decide +kernel) rfl rfl rfl ?_
      refine zz_icmp_gt (off := 7) (tgt := 78) (q := 74) C (by decide +kernel) (by decide) rfl (fun c71 => ?_) (fun c71 => ?_)
      · refine zz_iconst (q := 79) (n := 0) (x := 0) C (by decide +kernel) rfl (by decide +kernel) ?_
        refine zz_zret C hr hlk (by decide +kernel) (by decide) hQ (by decide) (by decide) ?_
        have e : pl_cmp q x y ↔ x ≤ y := by simp [pl_cmp, hsw]
        first | exact zz_rT hp c71 e | exact zz_rT hp (Int32.not_le.mp c71) e | exact zz_rT hp (Int32.not_lt.mp c71) e | exact zz_rF hp c71 e | exact zz_rF hp (Int32.not_lt.mpr c71) e | exact zz_rF hp (Int32.not_le.mpr c71) e | exact zz_rF hp (fun z => z c71) e
      · refine zz_iconst (q := 75) (n := 1) (x := 1) C (by decide +kernel) rfl (by decide +kernel) ?_
        refine zz_goto (off := 4) (tgt := 79) C (by decide +kernel) (by decide) ?_
        refine zz_zret C hr hlk (by decide +kernel) (by decide) hQ (by decide) (by decide) ?_
        have e : pl_cmp q x y ↔ x ≤ y := by simp [pl_cmp, hsw]
        first | exact zz_rT hp c71 e | exact zz_rT hp (Int32.not_le.mp c71) e | exact zz_rT hp (Int32.not_lt.mp c71) e | exact zz_rF hp c71 e | exact zz_rF hp (Int32.not_lt.mpr c71) e | exact zz_rF hp (Int32.not_le.mpr c71) e | exact zz_rF hp (fun z => z c71) e
    · refine zz_tableIn (dflt := 90) (lo := 1) (hi := 5) (offs := #[35, 46, 57, 68, 79]) (len := 35) (off := 79) (tgt := 80) C (by decide +kernel) (by rw [hsw]; decide) (by rw [hsw]; decide) (by rw [hsw]; rfl) (by decide) ?_
      refine zz_iload_n (q := 81) (f := 1) (i := 1) C (by decide +kernel) rfl rfl rfl ?_
      refine zz_iload_n (q := 82) (f := 2) (i := 2) C (by decide +kernel) rfl rfl rfl ?_
      refine zz_icmp_le (off := 7) (tgt := 89) (q := 85) C (by decide +kernel) (by decide) rfl (fun c82 => ?_) (fun c82 => ?_)
      · refine zz_iconst (q := 90) (n := 0) (x := 0) C (by decide +kernel) rfl (by decide +kernel) ?_
        refine zz_zret C hr hlk (by decide +kernel) (by decide) hQ (by decide) (by decide) ?_
        have e : pl_cmp q x y ↔ y < x := by simp [pl_cmp, hsw]
        first | exact zz_rT hp c82 e | exact zz_rT hp (Int32.not_le.mp c82) e | exact zz_rT hp (Int32.not_lt.mp c82) e | exact zz_rF hp c82 e | exact zz_rF hp (Int32.not_lt.mpr c82) e | exact zz_rF hp (Int32.not_le.mpr c82) e | exact zz_rF hp (fun z => z c82) e
      · refine zz_iconst (q := 86) (n := 1) (x := 1) C (by decide +kernel) rfl (by decide +kernel) ?_
        refine zz_goto (off := 4) (tgt := 90) C (by decide +kernel) (by decide) ?_
        refine zz_zret C hr hlk (by decide +kernel) (by decide) hQ (by decide) (by decide) ?_
        have e : pl_cmp q x y ↔ y < x := by simp [pl_cmp, hsw]
        first | exact zz_rT hp c82 e | exact zz_rT hp (Int32.not_le.mp c82) e | exact zz_rT hp (Int32.not_lt.mp c82) e | exact zz_rF hp c82 e | exact zz_rF hp (Int32.not_lt.mpr c82) e | exact zz_rF hp (Int32.not_le.mpr c82) e | exact zz_rF hp (fun z => z c82) e
    · refine zz_tableOut (dflt := 90) (lo := 1) (hi := 5) (offs := #[35, 46, 57, 68, 79]) (len := 35) (tgt := 91) C (by decide +kernel) hsw (by decide) ?_
      refine zz_iload_n (q := 92) (f := 1) (i := 1) C (by decide +kernel) rfl rfl rfl ?_
      refine zz_iload_n (q := 93) (f := 2) (i := 2) C (by decide +kernel) rfl rfl rfl ?_
      refine zz_icmp_lt (off := 7) (tgt := 100) (q := 96) C (by decide +kernel) (by decide) rfl (fun c93 => ?_) (fun c93 => ?_)
      · refine zz_iconst (q := 101) (n := 0) (x := 0) C (by decide +kernel) rfl (by decide +kernel) ?_
        refine zz_zret C hr hlk (by decide +kernel) (by decide) hQ (by decide) (by decide) ?_
        have e : pl_cmp q x y ↔ y ≤ x := by
          have n1 : q ≠ 1 := fun z => by rw [z] at hsw; exact absurd hsw (by decide)
          have n2 : q ≠ 2 := fun z => by rw [z] at hsw; exact absurd hsw (by decide)
          have n3 : q ≠ 3 := fun z => by rw [z] at hsw; exact absurd hsw (by decide)
          have n4 : q ≠ 4 := fun z => by rw [z] at hsw; exact absurd hsw (by decide)
          have n5 : q ≠ 5 := fun z => by rw [z] at hsw; exact absurd hsw (by decide)
          simp [pl_cmp, n1, n2, n3, n4, n5]
        first | exact zz_rT hp c93 e | exact zz_rT hp (Int32.not_le.mp c93) e | exact zz_rT hp (Int32.not_lt.mp c93) e | exact zz_rF hp c93 e | exact zz_rF hp (Int32.not_lt.mpr c93) e | exact zz_rF hp (Int32.not_le.mpr c93) e
      · refine zz_iconst (q := 97) (n := 1) (x := 1) C (by decide +kernel) rfl (by decide +kernel) ?_
        refine zz_goto (off := 4) (tgt := 101) C (by decide +kernel) (by decide) ?_
        refine zz_zret C hr hlk (by decide +kernel) (by decide) hQ (by decide) (by decide) ?_
        have e : pl_cmp q x y ↔ y ≤ x := by
          have n1 : q ≠ 1 := fun z => by rw [z] at hsw; exact absurd hsw (by decide)
          have n2 : q ≠ 2 := fun z => by rw [z] at hsw; exact absurd hsw (by decide)
          have n3 : q ≠ 3 := fun z => by rw [z] at hsw; exact absurd hsw (by decide)
          have n4 : q ≠ 4 := fun z => by rw [z] at hsw; exact absurd hsw (by decide)
          have n5 : q ≠ 5 := fun z => by rw [z] at hsw; exact absurd hsw (by decide)
          simp [pl_cmp, n1, n2, n3, n4, n5]
        first | exact zz_rT hp c93 e | exact zz_rT hp (Int32.not_le.mp c93) e | exact zz_rT hp (Int32.not_lt.mp c93) e | exact zz_rF hp c93 e | exact zz_rF hp (Int32.not_lt.mpr c93) e | exact zz_rF hp (Int32.not_le.mpr c93) e

def T_M_isType : zz_Tr := fun as h post => ∃ r t, as = [zz_r 7 (some r), zz_i t] ∧ mo_ok h r ∧ post (some (zz_i (zz_b (mo_ty h r t)))) h
set_option maxRecDepth 100000 in
set_option maxHeartbeats 4000000 in
theorem m_M_isType (l : Launch) : zz_Met l y_M_isType w_M_isType { frames := 1, cells := 0, slots := 0, locals := 12 } T_M_isType := by
  refine zz_ofZ (by decide) (fun as h post hT => ?_) ?_
  · obtain ⟨r, t, rfl, hok, hp⟩ := hT
    exact ⟨by simp [zz_cat], by simp⟩
  · intro D DA h as post hT p e s m args below meth c Q C hr hlk hnm hQ
    obtain ⟨r, t, rfl, hok, hp⟩ := hT
    refine zz_iload_n (q := 1) (f := 1) (i := 1) C (by decide +kernel) rfl rfl rfl ?_
    refine zz_if_lt (off := 22) (tgt := 23) (q := 4) C (by decide +kernel) (by decide) rfl (fun c1 => ?_) (fun c1 => ?_)
    · refine zz_iconst (q := 24) (n := 0) (x := 0) C (by decide +kernel) rfl (by decide +kernel) ?_
      refine zz_zret C hr hlk (by decide +kernel) (by decide) hQ (by decide) (by decide) ?_
      first
        | exact zz_b1 (P := fun x => post (some (zz_i x)) h) hp ⟨Int32.not_lt.mp c1, Int32.not_le.mp c7, c16⟩
        | exact zz_b0 (P := fun x => post (some (zz_i x)) h) hp (fun z => absurd c1 (Int32.not_lt.mpr z.1))
        | exact zz_b0 (P := fun x => post (some (zz_i x)) h) hp (fun z => z.2.2 c16)
        | exact zz_b0 (P := fun x => post (some (zz_i x)) h) hp (fun z => absurd c7 (Int32.not_le.mpr z.2.1))
    · refine zz_iload_n (q := 5) (f := 1) (i := 1) C (by decide +kernel) rfl rfl rfl ?_
      refine zz_bipush (q := 7) (n := 8) (x := 8) C (by decide +kernel) rfl (by decide +kernel) ?_
      refine zz_icmp_ge (off := 16) (tgt := 23) (q := 10) C (by decide +kernel) (by decide) rfl (fun c7 => ?_) (fun c7 => ?_)
      · refine zz_iconst (q := 24) (n := 0) (x := 0) C (by decide +kernel) rfl (by decide +kernel) ?_
        refine zz_zret C hr hlk (by decide +kernel) (by decide) hQ (by decide) (by decide) ?_
        first
          | exact zz_b1 (P := fun x => post (some (zz_i x)) h) hp ⟨Int32.not_lt.mp c1, Int32.not_le.mp c7, c16⟩
          | exact zz_b0 (P := fun x => post (some (zz_i x)) h) hp (fun z => absurd c1 (Int32.not_lt.mpr z.1))
          | exact zz_b0 (P := fun x => post (some (zz_i x)) h) hp (fun z => z.2.2 c16)
          | exact zz_b0 (P := fun x => post (some (zz_i x)) h) hp (fun z => absurd c7 (Int32.not_le.mpr z.2.1))
      · have h9 := nI_in9 nI_8 (by decide) c1 (Int32.not_le.mp c7)
        refine zz_aload_n (q := 11) (f := 0) (i := 0) C (by decide +kernel) rfl rfl rfl ?_
        refine zz_getR (q := 14) C gf_M_7 (by decide +kernel) rfl (by first | rfl | assumption) (hok 1 91 8 rfl).1 ?_
        refine zz_iload_n (q := 15) (f := 1) (i := 1) C (by decide +kernel) rfl rfl rfl ?_
        refine zz_baload (q := 16) C (by decide +kernel) rfl rfl (hok 1 91 8 rfl).2 h9.2 h9.1 (by decide) rfl ?_
        refine zz_if_eq (off := 7) (tgt := 23) (q := 19) C (by decide +kernel) (by decide) rfl (fun c16 => ?_) (fun c16 => ?_)
        · refine zz_iconst (q := 24) (n := 0) (x := 0) C (by decide +kernel) rfl (by decide +kernel) ?_
          refine zz_zret C hr hlk (by decide +kernel) (by decide) hQ (by decide) (by decide) ?_
          first
            | exact zz_b1 (P := fun x => post (some (zz_i x)) h) hp ⟨Int32.not_lt.mp c1, Int32.not_le.mp c7, c16⟩
            | exact zz_b0 (P := fun x => post (some (zz_i x)) h) hp (fun z => absurd c1 (Int32.not_lt.mpr z.1))
            | exact zz_b0 (P := fun x => post (some (zz_i x)) h) hp (fun z => z.2.2 c16)
            | exact zz_b0 (P := fun x => post (some (zz_i x)) h) hp (fun z => absurd c7 (Int32.not_le.mpr z.2.1))
        · refine zz_iconst (q := 20) (n := 1) (x := 1) C (by decide +kernel) rfl (by decide +kernel) ?_
          refine zz_goto (off := 4) (tgt := 24) C (by decide +kernel) (by decide) ?_
          refine zz_zret C hr hlk (by decide +kernel) (by decide) hQ (by decide) (by decide) ?_
          first
            | exact zz_b1 (P := fun x => post (some (zz_i x)) h) hp ⟨Int32.not_lt.mp c1, Int32.not_le.mp c7, c16⟩
            | exact zz_b0 (P := fun x => post (some (zz_i x)) h) hp (fun z => absurd c1 (Int32.not_lt.mpr z.1))
            | exact zz_b0 (P := fun x => post (some (zz_i x)) h) hp (fun z => z.2.2 c16)
            | exact zz_b0 (P := fun x => post (some (zz_i x)) h) hp (fun z => absurd c7 (Int32.not_le.mpr z.2.1))

def T_M_hasWord : zz_Tr := fun as h post => ∃ r t i k, as = [zz_r 7 (some r), zz_i t, zz_i i] ∧ mo_ok h r ∧ k < 8 ∧ t = nI k ∧ post (some (zz_i (zz_b (mo_hw h r t i)))) h
set_option maxRecDepth 100000 in
set_option maxHeartbeats 4000000 in
theorem m_M_hasWord (l : Launch) : zz_Met l y_M_hasWord w_M_hasWord { frames := 1, cells := 0, slots := 0, locals := 12 } T_M_hasWord := by
  refine zz_ofZ (by decide) (fun as h post hT => ?_) ?_
  · obtain ⟨r, t, i, k, rfl, hok, hk, ht, hp⟩ := hT
    exact ⟨by simp [zz_cat], by simp⟩
  · intro D DA h as post hT p e s m args below meth c Q C hr hlk hnm hQ
    obtain ⟨r, t, i, k, rfl, hok, hk, ht, hp⟩ := hT
    refine zz_iload_n (q := 1) (f := 2) (i := 2) C (by decide +kernel) rfl rfl rfl ?_
    refine zz_if_lt (off := 17) (tgt := 18) (q := 4) C (by decide +kernel) (by decide) rfl (fun c1 => ?_) (fun c1 => ?_)
    · refine zz_iconst (q := 19) (n := 0) (x := 0) C (by decide +kernel) rfl (by decide +kernel) ?_
      refine zz_zret C hr hlk (by decide +kernel) (by decide) hQ (by decide) (by decide) ?_
      first
        | exact zz_b1 (P := fun x => post (some (zz_i x)) h) hp ⟨Int32.not_lt.mp c1, Int32.not_le.mp c11⟩
        | exact zz_b0 (P := fun x => post (some (zz_i x)) h) hp (fun z => absurd c1 (Int32.not_lt.mpr z.1))
        | exact zz_b0 (P := fun x => post (some (zz_i x)) h) hp (fun z => absurd c11 (Int32.not_le.mpr z.2))
    · refine zz_iload_n (q := 5) (f := 2) (i := 2) C (by decide +kernel) rfl rfl rfl ?_
      refine zz_aload_n (q := 6) (f := 0) (i := 0) C (by decide +kernel) rfl rfl rfl ?_
      refine zz_getR (q := 9) C gf_M_20 (by decide +kernel) rfl (by first | rfl | assumption) (hok 4 90 8 rfl).1 ?_
      refine zz_iload_n (q := 10) (f := 1) (i := 1) C (by decide +kernel) rfl rfl rfl ?_
      refine zz_iaload (q := 11) C (by decide +kernel) rfl rfl (hok 4 90 8 rfl).2 (nI_lt9 (by decide) hk ht).2 (nI_lt9 (by decide) hk ht).1 (by decide) rfl ?_
      refine zz_icmp_ge (off := 7) (tgt := 18) (q := 14) C (by decide +kernel) (by decide) rfl (fun c11 => ?_) (fun c11 => ?_)
      · refine zz_iconst (q := 19) (n := 0) (x := 0) C (by decide +kernel) rfl (by decide +kernel) ?_
        refine zz_zret C hr hlk (by decide +kernel) (by decide) hQ (by decide) (by decide) ?_
        first
          | exact zz_b1 (P := fun x => post (some (zz_i x)) h) hp ⟨Int32.not_lt.mp c1, Int32.not_le.mp c11⟩
          | exact zz_b0 (P := fun x => post (some (zz_i x)) h) hp (fun z => absurd c1 (Int32.not_lt.mpr z.1))
          | exact zz_b0 (P := fun x => post (some (zz_i x)) h) hp (fun z => absurd c11 (Int32.not_le.mpr z.2))
      · refine zz_iconst (q := 15) (n := 1) (x := 1) C (by decide +kernel) rfl (by decide +kernel) ?_
        refine zz_goto (off := 4) (tgt := 19) C (by decide +kernel) (by decide) ?_
        refine zz_zret C hr hlk (by decide +kernel) (by decide) hQ (by decide) (by decide) ?_
        first
          | exact zz_b1 (P := fun x => post (some (zz_i x)) h) hp ⟨Int32.not_lt.mp c1, Int32.not_le.mp c11⟩
          | exact zz_b0 (P := fun x => post (some (zz_i x)) h) hp (fun z => absurd c1 (Int32.not_lt.mpr z.1))
          | exact zz_b0 (P := fun x => post (some (zz_i x)) h) hp (fun z => absurd c11 (Int32.not_le.mpr z.2))

def T_M_work : zz_Tr := fun as h post => ∃ r i v, as = [zz_r 7 (some r), zz_i i, zz_i v] ∧ mo_ok h r ∧ (¬ (0 ≤ i ∧ i < 4) → post none (zz_pI h 7 0 r 1)) ∧ (0 ≤ i ∧ i < 4 → post none (zz_sI (zz_pI h 7 0 r 0) (mf h r 27) i.toNatClampNeg v))
set_option maxRecDepth 100000 in
set_option maxHeartbeats 4000000 in
theorem m_M_work (l : Launch) : zz_Met l y_M_work w_M_work { frames := 1, cells := 0, slots := 0, locals := 12 } T_M_work := by
  refine zz_ofZ (by decide) (fun as h post hT => ?_) ?_
  · obtain ⟨r, i, v, rfl, hok, hpX, hp⟩ := hT
    exact ⟨by simp [zz_cat], by simp⟩
  · intro D DA h as post hT p e s m args below meth c Q C hr hlk hnm hQ
    obtain ⟨r, i, v, rfl, hok, hpX, hp⟩ := hT
    have lp18 : ∀ x : Int32, (x = 0 → 0 ≤ i ∧ i < 4) → (x ≠ 0 → x = 1 ∧ ¬ (0 ≤ i ∧ i < 4)) → zz_Z p l e { frames := 1, cells := 0, slots := 0, locals := 12 } s m args below meth c Q D DA (zz_A h s.heap.size) h 3 18 [some (zz_r 7 (some r)), some (zz_i i), some (zz_i v)] [] (zz_pI h 7 0 r x) 0 0 := by
      intro x g1 g2
      refine zz_aload_n (q := 19) (f := 0) (i := 0) C (by decide +kernel) rfl rfl rfl ?_
      refine zz_getI (q := 22) C gf_M_88 (by decide +kernel) rfl (by first | rfl | assumption) (if_pos ⟨rfl, rfl, rfl⟩) ?_
      refine zz_if_ne (off := 10) (tgt := 32) (q := 25) C (by decide +kernel) (by decide) rfl (fun c22 => ?_) (fun c22 => ?_)
      · refine zz_vret C hr hlk (by decide +kernel) hQ (by decide) (by decide) ?_
        first
          | (obtain ⟨e1, e2⟩ := g2 c22; rw [e1]; exact hpX e2)
          | (rw [c22]; exact hp g3)
      · have g3 := g1 c22
        have h9 := nI_in9 (n := 4) rfl (by decide) (Int32.not_lt.mpr g3.1) g3.2
        refine zz_aload_n (q := 26) (f := 0) (i := 0) C (by decide +kernel) rfl rfl rfl ?_
        refine zz_getR (q := 29) C gf_M_79 (by decide +kernel) rfl (by first | rfl | assumption) (hok 27 90 4 rfl).1 ?_
        refine zz_iload_n (q := 30) (f := 1) (i := 1) C (by decide +kernel) rfl rfl rfl ?_
        refine zz_iload_n (q := 31) (f := 2) (i := 2) C (by decide +kernel) rfl rfl rfl ?_
        refine zz_iastore (q := 32) C (by decide +kernel) rfl rfl (hok 27 90 4 rfl).2 h9.2 h9.1 (by decide) ?_
        refine zz_vret C hr hlk (by decide +kernel) hQ (by decide) (by decide) ?_
        first
          | (obtain ⟨e1, e2⟩ := g2 c22; rw [e1]; exact hpX e2)
          | (rw [c22]; exact hp g3)
    refine zz_aload_n (q := 1) (f := 0) (i := 0) C (by decide +kernel) rfl rfl rfl ?_
    refine zz_iload_n (q := 2) (f := 1) (i := 1) C (by decide +kernel) rfl rfl rfl ?_
    refine zz_if_lt (off := 12) (tgt := 14) (q := 5) C (by decide +kernel) (by decide) rfl (fun c2 => ?_) (fun c2 => ?_)
    · refine zz_iconst (q := 15) (n := 1) (x := 1) C (by decide +kernel) rfl (by decide +kernel) ?_
      refine zz_putI (q := 18) C gf_M_88 (fun h => by cases h) (fun h => by cases h) (by decide +kernel) rfl (by first | rfl | assumption) ?_
      -- AT 18
      first
        | exact lp18 0 (fun _ => ⟨Int32.not_lt.mp c2, Int32.not_le.mp c7⟩) (fun z => absurd rfl z)
        | exact lp18 1 (fun z => absurd z (by decide)) (fun _ => ⟨rfl, fun z => absurd c2 (Int32.not_lt.mpr z.1)⟩)
        | exact lp18 1 (fun z => absurd z (by decide)) (fun _ => ⟨rfl, fun z => absurd c7 (Int32.not_le.mpr z.2)⟩)
    · refine zz_iload_n (q := 6) (f := 1) (i := 1) C (by decide +kernel) rfl rfl rfl ?_
      refine zz_iconst (q := 7) (n := 4) (x := 4) C (by decide +kernel) rfl (by decide +kernel) ?_
      refine zz_icmp_ge (off := 7) (tgt := 14) (q := 10) C (by decide +kernel) (by decide) rfl (fun c7 => ?_) (fun c7 => ?_)
      · refine zz_iconst (q := 15) (n := 1) (x := 1) C (by decide +kernel) rfl (by decide +kernel) ?_
        refine zz_putI (q := 18) C gf_M_88 (fun h => by cases h) (fun h => by cases h) (by decide +kernel) rfl (by first | rfl | assumption) ?_
        -- AT 18
        first
          | exact lp18 0 (fun _ => ⟨Int32.not_lt.mp c2, Int32.not_le.mp c7⟩) (fun z => absurd rfl z)
          | exact lp18 1 (fun z => absurd z (by decide)) (fun _ => ⟨rfl, fun z => absurd c2 (Int32.not_lt.mpr z.1)⟩)
          | exact lp18 1 (fun z => absurd z (by decide)) (fun _ => ⟨rfl, fun z => absurd c7 (Int32.not_le.mpr z.2)⟩)
      · refine zz_iconst (q := 11) (n := 0) (x := 0) C (by decide +kernel) rfl (by decide +kernel) ?_
        refine zz_goto (off := 4) (tgt := 15) C (by decide +kernel) (by decide) ?_
        refine zz_putI (q := 18) C gf_M_88 (fun h => by cases h) (fun h => by cases h) (by decide +kernel) rfl (by first | rfl | assumption) ?_
        -- AT 18
        first
          | exact lp18 0 (fun _ => ⟨Int32.not_lt.mp c2, Int32.not_le.mp c7⟩) (fun z => absurd rfl z)
          | exact lp18 1 (fun z => absurd z (by decide)) (fun _ => ⟨rfl, fun z => absurd c2 (Int32.not_lt.mpr z.1)⟩)
          | exact lp18 1 (fun z => absurd z (by decide)) (fun _ => ⟨rfl, fun z => absurd c7 (Int32.not_le.mpr z.2)⟩)

def T_M_bySecond : zz_Tr := fun as h post => ∃ r on, as = [zz_r 7 (some r), zz_i on] ∧ (on = 0 ∨ on = 1) ∧ (zz_fI h 7 9 r = -1 → post none (zz_pI (mo_bg h r) 7 0 r 1)) ∧ (zz_fI h 7 9 r ≠ -1 → post none (zz_pI (zz_pI (mo_bg h r) 7 11 r on) 7 28 r 0))
set_option maxRecDepth 100000 in
set_option maxHeartbeats 4000000 in
theorem m_M_bySecond (l : Launch) : zz_Met l y_M_bySecond w_M_bySecond { frames := 2, cells := 0, slots := 0, locals := 32 } T_M_bySecond := by
  refine zz_ofZ (by decide) (fun as h post hT => ?_) ?_
  · obtain ⟨r, on, rfl, hon, hpX, hp⟩ := hT
    exact ⟨by simp [zz_cat], by simp⟩
  · intro D DA h as post hT p e s m args below meth c Q C hr hlk hnm hQ
    obtain ⟨r, on, rfl, hon, hpX, hp⟩ := hT
    refine zz_aload_n (q := 1) (f := 0) (i := 0) C (by decide +kernel) rfl rfl rfl ?_
    refine zz_callV (q := 4) C (m_M_begin l) cv_M_91 (by decide +kernel) rfl rfl rfl (by first | rfl | assumption) (by decide) (by decide) (Nat.le_of_ble_eq_true rfl) ⟨_, rfl, ?_⟩
    refine zz_aload_n (q := 5) (f := 0) (i := 0) C (by decide +kernel) rfl rfl rfl ?_
    refine zz_getI (q := 8) C gf_M_35 (by decide +kernel) rfl (by first | rfl | assumption) rfl ?_
    refine zz_iconst (q := 9) (n := -1) (x := (-1)) C (by decide +kernel) rfl (by decide +kernel) ?_
    refine zz_icmp_ne (off := 9) (tgt := 18) (q := 12) C (by decide +kernel) (by decide) rfl (fun c9 => ?_) (fun c9 => ?_)
    · refine zz_aload_n (q := 19) (f := 0) (i := 0) C (by decide +kernel) rfl rfl rfl ?_
      refine zz_iload_n (q := 20) (f := 1) (i := 1) C (by decide +kernel) rfl rfl rfl ?_
      refine zz_putI (q := 23) C gf_M_124 (fun h => by cases h) (fun _ => hon) (by decide +kernel) rfl (by first | rfl | assumption) ?_
      refine zz_aload_n (q := 24) (f := 0) (i := 0) C (by decide +kernel) rfl rfl rfl ?_
      refine zz_iconst (q := 25) (n := 0) (x := 0) C (by decide +kernel) rfl (by decide +kernel) ?_
      refine zz_putI (q := 28) C gf_M_144 (fun h => by cases h) (fun h => by cases h) (by decide +kernel) rfl (by first | rfl | assumption) ?_
      refine zz_vret C hr hlk (by decide +kernel) hQ (by decide) (by decide) ?_
      exact hp c9
    · refine zz_aload_n (q := 13) (f := 0) (i := 0) C (by decide +kernel) rfl rfl rfl ?_
      refine zz_iconst (q := 14) (n := 1) (x := 1) C (by decide +kernel) rfl (by decide +kernel) ?_
      refine zz_putI (q := 17) C gf_M_88 (fun h => by cases h) (fun h => by cases h) (by decide +kernel) rfl (by first | rfl | assumption) ?_
      refine zz_vret C hr hlk (by decide +kernel) hQ (by decide) (by decide) ?_
      exact hpX c9

def T_M_count : zz_Tr := fun as h post => ∃ r, as = [zz_r 7 (some r)] ∧ post (some (zz_i (zz_fI h 7 13 r))) (mo_bg h r)
set_option maxRecDepth 100000 in
set_option maxHeartbeats 4000000 in
theorem m_M_count (l : Launch) : zz_Met l y_M_count w_M_count { frames := 2, cells := 0, slots := 0, locals := 32 } T_M_count := by
  refine zz_ofZ (by decide) (fun as h post hT => ?_) ?_
  · obtain ⟨r, rfl, hp⟩ := hT
    exact ⟨by simp [zz_cat], by simp⟩
  · intro D DA h as post hT p e s m args below meth c Q C hr hlk hnm hQ
    obtain ⟨r, rfl, hp⟩ := hT
    refine zz_aload_n (q := 1) (f := 0) (i := 0) C (by decide +kernel) rfl rfl rfl ?_
    refine zz_callV (q := 4) C (m_M_begin l) cv_M_91 (by decide +kernel) rfl rfl rfl (by first | rfl | assumption) (by decide) (by decide) (Nat.le_of_ble_eq_true rfl) ⟨_, rfl, ?_⟩
    refine zz_aload_n (q := 5) (f := 0) (i := 0) C (by decide +kernel) rfl rfl rfl ?_
    refine zz_getI (q := 8) C gf_M_153 (by decide +kernel) rfl (by first | rfl | assumption) rfl ?_
    refine zz_iret C hr hlk (by decide +kernel) hQ (by decide) (by decide) ?_
    exact hp

def T_M_at : zz_Tr := fun as h post => ∃ r, as = [zz_r 7 (some r)] ∧ mo_ok h r ∧ (zz_fI h 7 28 r ≠ 1 → post (some (zz_i 0)) (zz_pI h 7 0 r 0)) ∧ (zz_fI h 7 28 r = 1 → ∃ w, w < 60 ∧ zz_fI h 7 29 r = nI w ∧ post (some (zz_i (ma h r 14 w))) (zz_pI h 7 0 r 0))
set_option maxRecDepth 100000 in
set_option maxHeartbeats 4000000 in
theorem m_M_at (l : Launch) : zz_Met l y_M_at w_M_at { frames := 1, cells := 0, slots := 0, locals := 12 } T_M_at := by
  refine zz_ofZ (by decide) (fun as h post hT => ?_) ?_
  · obtain ⟨r, rfl, hok, hp0, hp1⟩ := hT
    exact ⟨by simp [zz_cat], by simp⟩
  · intro D DA h as post hT p e s m args below meth c Q C hr hlk hnm hQ
    obtain ⟨r, rfl, hok, hp0, hp1⟩ := hT
    refine zz_aload_n (q := 1) (f := 0) (i := 0) C (by decide +kernel) rfl rfl rfl ?_
    refine zz_iconst (q := 2) (n := 0) (x := 0) C (by decide +kernel) rfl (by decide +kernel) ?_
    refine zz_putI (q := 5) C gf_M_88 (fun h => by cases h) (fun h => by cases h) (by decide +kernel) rfl (by first | rfl | assumption) ?_
    refine zz_aload_n (q := 6) (f := 0) (i := 0) C (by decide +kernel) rfl rfl rfl ?_
    refine zz_getI (q := 9) C gf_M_144 (by decide +kernel) rfl (by first | rfl | assumption) rfl ?_
    refine zz_iconst (q := 10) (n := 1) (x := 1) C (by decide +kernel) rfl (by decide +kernel) ?_
    refine zz_icmp_ne (off := 15) (tgt := 25) (q := 13) C (by decide +kernel) (by decide) rfl (fun c10 => ?_) (fun c10 => ?_)
    · refine zz_iconst (q := 26) (n := 0) (x := 0) C (by decide +kernel) rfl (by decide +kernel) ?_
      refine zz_iret C hr hlk (by decide +kernel) hQ (by decide) (by decide) ?_
      first | exact hp | exact hp0 c10
    · obtain ⟨w, hw1, hw2, hp⟩ := hp1 c10
      refine zz_aload_n (q := 14) (f := 0) (i := 0) C (by decide +kernel) rfl rfl rfl ?_
      refine zz_getR (q := 17) C gf_M_39 (by decide +kernel) rfl (by first | rfl | assumption) (hok 14 90 60 rfl).1 ?_
      refine zz_aload_n (q := 18) (f := 0) (i := 0) C (by decide +kernel) rfl rfl rfl ?_
      refine zz_getI (q := 21) C gf_M_147 (by decide +kernel) rfl (by first | rfl | assumption) hw2 ?_
      refine zz_iaload (q := 22) C (by decide +kernel) rfl rfl (hok 14 90 60 rfl).2 rfl (by omega) (by decide) rfl ?_
      refine zz_goto (off := 4) (tgt := 26) C (by decide +kernel) (by decide) ?_
      refine zz_iret C hr hlk (by decide +kernel) hQ (by decide) (by decide) ?_
      first | exact hp | exact hp0 c10

def T_M_fix : zz_Tr := fun as h post => ∃ r, as = [zz_r 7 (some r)] ∧ mo_ok h r ∧ (zz_fI h 7 28 r ≠ 1 → post (some (zz_i 0)) (zz_pI (mo_bg h r) 7 0 r 1)) ∧ (zz_fI h 7 28 r = 1 → ∃ w, w < 60 ∧ zz_fI h 7 29 r = nI w ∧ post (some (zz_i (ma h r 14 w))) (zz_pI (mo_bg h r) 7 31 r (nI w)))
set_option maxRecDepth 100000 in
set_option maxHeartbeats 4000000 in
theorem m_M_fix (l : Launch) : zz_Met l y_M_fix w_M_fix { frames := 2, cells := 0, slots := 0, locals := 33 } T_M_fix := by
  refine zz_ofZ (by decide) (fun as h post hT => ?_) ?_
  · obtain ⟨r, rfl, hok, hp0, hp1⟩ := hT
    exact ⟨by simp [zz_cat], by simp⟩
  · intro D DA h as post hT p e s m args below meth c Q C hr hlk hnm hQ
    obtain ⟨r, rfl, hok, hp0, hp1⟩ := hT
    refine zz_aload_n (q := 1) (f := 0) (i := 0) C (by decide +kernel) rfl rfl rfl ?_
    refine zz_callV (q := 4) C (m_M_begin l) cv_M_91 (by decide +kernel) rfl rfl rfl (by first | rfl | assumption) (by decide) (by decide) (Nat.le_of_ble_eq_true rfl) ⟨_, rfl, ?_⟩
    refine zz_aload_n (q := 5) (f := 0) (i := 0) C (by decide +kernel) rfl rfl rfl ?_
    refine zz_getI (q := 8) C gf_M_144 (by decide +kernel) rfl (by first | rfl | assumption) rfl ?_
    refine zz_iconst (q := 9) (n := 1) (x := 1) C (by decide +kernel) rfl (by decide +kernel) ?_
    refine zz_icmp_eq (off := 9) (tgt := 18) (q := 12) C (by decide +kernel) (by decide) rfl (fun c9 => ?_) (fun c9 => ?_)
    · obtain ⟨w, hw1, hw2, hp⟩ := hp1 c9
      refine zz_aload_n (q := 19) (f := 0) (i := 0) C (by decide +kernel) rfl rfl rfl ?_
      refine zz_aload_n (q := 20) (f := 0) (i := 0) C (by decide +kernel) rfl rfl rfl ?_
      refine zz_getI (q := 23) C gf_M_147 (by decide +kernel) rfl (by first | rfl | assumption) hw2 ?_
      refine zz_putI (q := 26) C gf_M_85 (fun h => by cases h) (fun h => by cases h) (by decide +kernel) rfl (by first | rfl | assumption) ?_
      refine zz_aload_n (q := 27) (f := 0) (i := 0) C (by decide +kernel) rfl rfl rfl ?_
      refine zz_getR (q := 30) C gf_M_39 (by decide +kernel) rfl (by first | rfl | assumption) (hok 14 90 60 rfl).1 ?_
      refine zz_aload_n (q := 31) (f := 0) (i := 0) C (by decide +kernel) rfl rfl rfl ?_
      refine zz_getI (q := 34) C gf_M_85 (by decide +kernel) rfl (by first | rfl | assumption) (if_pos ⟨rfl, rfl, rfl⟩) ?_
      refine zz_iaload (q := 35) C (by decide +kernel) rfl rfl (hok 14 90 60 rfl).2 rfl (by omega) (by decide) rfl ?_
      refine zz_iret C hr hlk (by decide +kernel) hQ (by decide) (by decide) ?_
      exact hp
    · refine zz_aload_n (q := 13) (f := 0) (i := 0) C (by decide +kernel) rfl rfl rfl ?_
      refine zz_iconst (q := 14) (n := 1) (x := 1) C (by decide +kernel) rfl (by decide +kernel) ?_
      refine zz_callV (q := 17) C (m_M_refuse l) cv_M_173 (by decide +kernel) rfl rfl rfl (by first | rfl | assumption) (by decide) (by decide) (Nat.le_of_ble_eq_true rfl) ⟨_, _, rfl, ?_⟩
      refine zz_iret C hr hlk (by decide +kernel) hQ (by decide) (by decide) ?_
      exact hp0 c9

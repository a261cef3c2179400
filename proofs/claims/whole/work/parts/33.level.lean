/-! PathLevel -/
theorem zz_sw_1_5 (x : Int32) : x = 1 ∨ x = 2 ∨ x = 3 ∨ x = 4 ∨ x = 5 ∨ (x.toInt < 1 ∨ 5 < x.toInt) := by
  by_cases h1 : x.toInt = (1 : Int32).toInt
  · exact Or.inl (Int32.toInt_inj.mp h1)
  by_cases h2 : x.toInt = (2 : Int32).toInt
  · exact Or.inr (Or.inl (Int32.toInt_inj.mp h2))
  by_cases h3 : x.toInt = (3 : Int32).toInt
  · exact Or.inr (Or.inr (Or.inl (Int32.toInt_inj.mp h3)))
  by_cases h4 : x.toInt = (4 : Int32).toInt
  · exact Or.inr (Or.inr (Or.inr (Or.inl (Int32.toInt_inj.mp h4))))
  by_cases h5 : x.toInt = (5 : Int32).toInt
  · exact Or.inr (Or.inr (Or.inr (Or.inr (Or.inl (Int32.toInt_inj.mp h5)))))
  refine Or.inr (Or.inr (Or.inr (Or.inr (Or.inr (?_)))))
  have e1 : (1 : Int32).toInt = 1 := by decide +kernel
  have e2 : (2 : Int32).toInt = 2 := by decide +kernel
  have e3 : (3 : Int32).toInt = 3 := by decide +kernel
  have e4 : (4 : Int32).toInt = 4 := by decide +kernel
  have e5 : (5 : Int32).toInt = 5 := by decide +kernel
  omega
/-- an operation holds between a word and a number -/
def pl_cmp (q x y : Int32) : Prop := if q = 1 then x = y else if q = 2 then x ≠ y else if q = 3 then x < y else if q = 4 then x ≤ y else if q = 5 then y < x else y ≤ x
def pl_w (h : zz_H) (a : Nat) : Nat := (zz_fR h 3 2 a).getD 0
def pl_o (h : zz_H) (a : Nat) : Nat := (zz_fR h 3 3 a).getD 0
def pl_n (h : zz_H) (a : Nat) : Nat := (zz_fR h 3 4 a).getD 0
def pl_c (h : zz_H) (a : Nat) : Nat := (zz_fI h 3 1 a).toNatClampNeg
def pl_ok (h : zz_H) (a : Nat) : Prop := zz_fR h 3 2 a = some (pl_w h a) ∧ zz_fR h 3 3 a = some (pl_o h a) ∧ zz_fR h 3 4 a = some (pl_n h a) ∧ zz_tg h (pl_w h a) = some (90, 3) ∧ zz_tg h (pl_o h a) = some (90, 3) ∧ zz_tg h (pl_n h a) = some (90, 3) ∧ pl_c h a ≤ 3 ∧ zz_fI h 3 1 a = nI (pl_c h a) ∧ ∀ i, i < pl_c h a → ∃ j, j < 4 ∧ zz_aI h (pl_w h a) i = nI j
/-- what one condition asks of a segment -/
def pl_one (h : zz_H) (a s i : Nat) : Prop := pl_cmp (zz_aI h (pl_o h a) i) (zz_aI h (sg_w h s) (zz_aI h (pl_w h a) i).toNatClampNeg) (zz_aI h (pl_n h a) i)
def pl_met (h : zz_H) (a : Nat) (sg : Option Nat) : Prop := ∃ s, sg = some s ∧ zz_fR h 2 1 s = zz_fR h 3 0 a ∧ ∀ i, i < pl_c h a → pl_one h a s i
theorem zz_rT {post : Option zz_V → zz_H → Prop} {h : zz_H} {p c : Prop} (hp : post (some (zz_i (zz_b p))) h) (hc : c) (e : p ↔ c) : post (some (zz_i 1)) h := by
  rw [zz_bT (e.mpr hc)] at hp
  exact hp
theorem zz_rF {post : Option zz_V → zz_H → Prop} {h : zz_H} {p c : Prop} (hp : post (some (zz_i (zz_b p))) h) (hc : ¬ c) (e : p ↔ c) : post (some (zz_i 0)) h := by
  rw [zz_bF (fun z => hc (e.mp z))] at hp
  exact hp
def T_L_compares : zz_Tr := fun as h post => ∃ x q y, as = [zz_i x, zz_i q, zz_i y] ∧ post (some (zz_i (zz_b (pl_cmp q x y)))) h
set_option maxRecDepth 100000 in
set_option maxHeartbeats 4000000 in
theorem m_L_compares (l : Launch) : zz_Met l y_L_compares w_L_compares { frames := 1, cells := 0, slots := 0, locals := 12 } T_L_compares := by
  refine zz_ofZ (by decide) (fun as h post hT => ?_) ?_
  · obtain ⟨x, q, y, rfl, hp⟩ := hT
    exact ⟨by simp [zz_cat], by simp⟩
  · intro D DA h as post hT p e s m args below meth c Q C hr hlk hnm hQ
    obtain ⟨x, q, y, rfl, hp⟩ := hT
    refine zz_iload_n (q := 1) (f := 1) (i := 1) C (by decide +kernel) rfl rfl rfl ?_
    rcases (zz_sw_1_5 q) with hsw | hsw | hsw | hsw | hsw | hsw
    · refine zz_tableIn (dflt := 90) (lo := 1) (hi := 5) (offs := #[35, 46, 57, 68, 79]) (len := 35) (off := 35) (tgt := 36) C (by decide +kernel) (by rw [hsw]; decide) (by rw [hsw]; decide) (by rw [hsw]; rfl) (by decide) ?_
      refine zz_iload_n (q := 37) (f := 0) (i := 0) C (by decide +kernel) rfl rfl rfl ?_
      refine zz_iload_n (q := 38) (f := 2) (i := 2) C (by decide +kernel) rfl rfl rfl ?_
      refine zz_icmp_ne (off := 7) (tgt := 45) (q := 41) C (by decide +kernel) (by decide) rfl (fun c38 => ?_) (fun c38 => ?_)
      · refine zz_iconst (q := 46) (n := 0) (x := 0) C (by decide +kernel) rfl (by decide +kernel) ?_
        refine zz_zret C hr hlk (by decide +kernel) (by decide) hQ (by decide) (by decide) ?_
        have e : pl_cmp q x y ↔ x = y := by simp [pl_cmp, hsw]
        first | exact zz_rT hp c38 e | exact zz_rT hp (Int32.not_le.mp c38) e | exact zz_rT hp (Int32.not_lt.mp c38) e | exact zz_rF hp c38 e | exact zz_rF hp (Int32.not_lt.mpr c38) e | exact zz_rF hp (Int32.not_le.mpr c38) e | exact zz_rF hp (fun z => z c38) e
      · refine zz_iconst (q := 42) (n := 1) (x := 1) C (by decide +kernel) rfl (by decide +kernel) ?_
        refine zz_goto (off := 4) (tgt := 46) C (by decide +kernel) (by decide) ?_
        refine zz_zret C hr hlk (by decide +kernel) (by decide) hQ (by decide) (by decide) ?_
        have e : pl_cmp q x y ↔ x = y := by simp [pl_cmp, hsw]
        first | exact zz_rT hp c38 e | exact zz_rT hp (Int32.not_le.mp c38) e | exact zz_rT hp (Int32.not_lt.mp c38) e | exact zz_rF hp c38 e | exact zz_rF hp (Int32.not_lt.mpr c38) e | exact zz_rF hp (Int32.not_le.mpr c38) e | exact zz_rF hp (fun z => z c38) e
    · refine zz_tableIn (dflt := 90) (lo := 1) (hi := 5) (offs := #[35, 46, 57, 68, 79]) (len := 35) (off := 46) (tgt := 47) C (by decide +kernel) (by rw [hsw]; decide) (by rw [hsw]; decide) (by rw [hsw]; rfl) (by decide) ?_
      refine zz_iload_n (q := 48) (f := 0) (i := 0) C (by decide +kernel) rfl rfl rfl ?_
      refine zz_iload_n (q := 49) (f := 2) (i := 2) C (by decide +kernel) rfl rfl rfl ?_
      refine zz_icmp_eq (off := 7) (tgt := 56) (q := 52) C (by decide +kernel) (by decide) rfl (fun c49 => ?_) (fun c49 => ?_)
      · refine zz_iconst (q := 57) (n := 0) (x := 0) C (by decide +kernel) rfl (by decide +kernel) ?_
        refine zz_zret C hr hlk (by decide +kernel) (by decide) hQ (by decide) (by decide) ?_
        have e : pl_cmp q x y ↔ x ≠ y := by simp [pl_cmp, hsw]
        first | exact zz_rT hp c49 e | exact zz_rT hp (Int32.not_le.mp c49) e | exact zz_rT hp (Int32.not_lt.mp c49) e | exact zz_rF hp c49 e | exact zz_rF hp (Int32.not_lt.mpr c49) e | exact zz_rF hp (Int32.not_le.mpr c49) e | exact zz_rF hp (fun z => z c49) e
      · refine zz_iconst (q := 53) (n := 1) (x := 1) C (by decide +kernel) rfl (by decide +kernel) ?_
        refine zz_goto (off := 4) (tgt := 57) C (by decide +kernel) (by decide) ?_
        refine zz_zret C hr hlk (by decide +kernel) (by decide) hQ (by decide) (by decide) ?_
        have e : pl_cmp q x y ↔ x ≠ y := by simp [pl_cmp, hsw]
        first | exact zz_rT hp c49 e | exact zz_rT hp (Int32.not_le.mp c49) e | exact zz_rT hp (Int32.not_lt.mp c49) e | exact zz_rF hp c49 e | exact zz_rF hp (Int32.not_lt.mpr c49) e | exact zz_rF hp (Int32.not_le.mpr c49) e | exact zz_rF hp (fun z => z c49) e
    · refine zz_tableIn (dflt := 90) (lo := 1) (hi := 5) (offs := #[35, 46, 57, 68, 79]) (len := 35) (off := 57) (tgt := 58) C (by decide +kernel) (by rw [hsw]; decide) (by rw [hsw]; decide) (by rw [hsw]; rfl) (by decide) ?_
      refine zz_iload_n (q := 59) (f := 0) (i := 0) C (by decide +kernel) rfl rfl rfl ?_
      refine zz_iload_n (q := 60) (f := 2) (i := 2) C (by decide +kernel) rfl rfl rfl ?_
      refine zz_icmp_ge (off := 7) (tgt := 67) (q := 63) C (by decide +kernel) (by decide) rfl (fun c60 => ?_) (fun c60 => ?_)
      · refine zz_iconst (q := 68) (n := 0) (x := 0) C (by decide +kernel) rfl (by decide +kernel) ?_
        refine zz_zret C hr hlk (by decide +kernel) (by decide) hQ (by decide) (by decide) ?_
        have e : pl_cmp q x y ↔ x < y := by simp [pl_cmp, hsw]
        first | exact zz_rT hp c60 e | exact zz_rT hp (Int32.not_le.mp c60) e | exact zz_rT hp (Int32.not_lt.mp c60) e | exact zz_rF hp c60 e | exact zz_rF hp (Int32.not_lt.mpr c60) e | exact zz_rF hp (Int32.not_le.mpr c60) e | exact zz_rF hp (fun z => z c60) e
      · refine zz_iconst (q := 64) (n := 1) (x := 1) C (by decide +kernel) rfl (by decide +kernel) ?_
        refine zz_goto (off := 4) (tgt := 68) C (by decide +kernel) (by decide) ?_
        refine zz_zret C hr hlk (by decide +kernel) (by decide) hQ (by decide) (by decide) ?_
        have e : pl_cmp q x y ↔ x < y := by simp [pl_cmp, hsw]
        first | exact zz_rT hp c60 e | exact zz_rT hp (Int32.not_le.mp c60) e | exact zz_rT hp (Int32.not_lt.mp c60) e | exact zz_rF hp c60 e | exact zz_rF hp (Int32.not_lt.mpr c60) e | exact zz_rF hp (Int32.not_le.mpr c60) e | exact zz_rF hp (fun z => z c60) e
    · refine zz_tableIn (dflt := 90) (lo := 1) (hi := 5) (offs := #[35, 46, 57, 68, 79]) (len := 35) (off := 68) (tgt := 69) C (by decide +kernel) (by rw [hsw]; decide) (by rw [hsw]; decide) (by rw [hsw]; rfl) (by decide) ?_
      refine zz_iload_n (q := 70) (f := 0) (i := 0) C (by decide +kernel) rfl rfl rfl ?_
      refine zz_iload_n (q := 71) (f := 2) (i := 2) C (by decide +kernel) rfl rfl rfl ?_
      refine zz_icmp_gt (off := 7) (tgt := 78) (q := 74) C (by decide +kernel) (by decide) rfl (fun c71 => ?_) (fun c71 => ?_)
      · refine zz_iconst (q := 79) (n := 0) (x := 0) C (by decide +kernel) rfl (by decide +kernel) ?_
        refine zz_zret C hr hlk (by decide +kernel) (by decide) hQ (by decide) (by decide) ?_
        have e : pl_cmp q x y ↔ x ≤ y := by simp [pl_cmp, hsw]
        first | exact zz_rT hp c71 e | exact zz_rT hp (Int32.not_le.mp c71) e | exact zz_rT hp (Int32.not_lt.mp c71) e | exact zz_rF hp c71 e | exact zz_rF hp (Int32.not_lt.mpr c71) e | exact zz_rF hp (Int32.not_le.mpr c71) e | exact zz_rF hp (fun z => z c71) e
      · refine zz_iconst (q := 75) (n := 1) (x := 1) C (by decide +kernel) rfl (by decide +kernel) ?_
        refine zz_goto (off := 4) (tgt := 79) C (by decide +kernel) (by decide) ?_
        refine zz_zret C hr hlk (by decide +kernel) (by decide) hQ (by decide) (by decide) ?_
        have e : pl_cmp q x y ↔ x ≤ y := by simp [pl_cmp, hsw]
        first | exact zz_rT hp c71 e | exact zz_rT hp (Int32.not_le.mp c71) e | exact zz_rT hp (Int32.not_lt.mp c71) e | exact zz_rF hp c71 e | exact zz_rF hp (Int32.not_lt.mpr c71) e | exact zz_rF hp (Int32.not_le.mpr c71) e | exact zz_rF hp (fun z => z c71) e
    · refine zz_tableIn (dflt := 90) (lo := 1) (hi := 5) (offs := #[35, 46, 57, 68, 79]) (len := 35) (off := 79) (tgt := 80) C (by decide +kernel) (by rw [hsw]; decide) (by rw [hsw]; decide) (by rw [hsw]; rfl) (by decide) ?_
      refine zz_iload_n (q := 81) (f := 0) (i := 0) C (by decide +kernel) rfl rfl rfl ?_
      refine zz_iload_n (q := 82) (f := 2) (i := 2) C (by decide +kernel) rfl rfl rfl ?_
      refine zz_icmp_le (off := 7) (tgt := 89) (q := 85) C (by decide +kernel) (by decide) rfl (fun c82 => ?_) (fun c82 => ?_)
      · refine zz_iconst (q := 90) (n := 0) (x := 0) C (by decide +kernel) rfl (by decide +kernel) ?_
        refine zz_zret C hr hlk (by decide +kernel) (by decide) hQ (by decide) (by decide) ?_
        have e : pl_cmp q x y ↔ y < x := by simp [pl_cmp, hsw]
        first | exact zz_rT hp c82 e | exact zz_rT hp (Int32.not_le.mp c82) e | exact zz_rT hp (Int32.not_lt.mp c82) e | exact zz_rF hp c82 e | exact zz_rF hp (Int32.not_lt.mpr c82) e | exact zz_rF hp (Int32.not_le.mpr c82) e | exact zz_rF hp (fun z => z c82) e
      · refine zz_iconst (q := 86) (n := 1) (x := 1) C (by decide +kernel) rfl (by decide +kernel) ?_
        refine zz_goto (off := 4) (tgt := 90) C (by decide +kernel) (by decide) ?_
        refine zz_zret C hr hlk (by decide +kernel) (by decide) hQ (by decide) (by decide) ?_
        have e : pl_cmp q x y ↔ y < x := by simp [pl_cmp, hsw]
        first | exact zz_rT hp c82 e | exact zz_rT hp (Int32.not_le.mp c82) e | exact zz_rT hp (Int32.not_lt.mp c82) e | exact zz_rF hp c82 e | exact zz_rF hp (Int32.not_lt.mpr c82) e | exact zz_rF hp (Int32.not_le.mpr c82) e | exact zz_rF hp (fun z => z c82) e
    · refine zz_tableOut (dflt := 90) (lo := 1) (hi := 5) (offs := #[35, 46, 57, 68, 79]) (len := 35) (tgt := 91) C (by decide +kernel) hsw (by decide) ?_
      refine zz_iload_n (q := 92) (f := 0) (i := 0) C (by decide +kernel) rfl rfl rfl ?_
      refine zz_iload_n (q := 93) (f := 2) (i := 2) C (by decide +kernel) rfl rfl rfl ?_
      refine zz_icmp_lt (off := 7) (tgt := 100) (q := 96) C (by decide +kernel) (by decide) rfl (fun c93 => ?_) (fun c93 => ?_)
      · refine zz_iconst (q := 101) (n := 0) (x := 0) C (by decide +kernel) rfl (by decide +kernel) ?_
        refine zz_zret C hr hlk (by decide +kernel) (by decide) hQ (by decide) (by decide) ?_
        have e : pl_cmp q x y ↔ y ≤ x := by
          have n1 : q ≠ 1 := fun z => by rw [z] at hsw; exact absurd hsw (by decide)
          have n2 : q ≠ 2 := fun z => by rw [z] at hsw; exact absurd hsw (by decide)
          have n3 : q ≠ 3 := fun z => by rw [z] at hsw; exact absurd hsw (by decide)
          have n4 : q ≠ 4 := fun z => by rw [z] at hsw; exact absurd hsw (by decide)
          have n5 : q ≠ 5 := fun z => by rw [z] at hsw; exact absurd hsw (by decide)
          simp [pl_cmp, n1, n2, n3, n4, n5]
        first | exact zz_rT hp c93 e | exact zz_rT hp (Int32.not_le.mp c93) e | exact zz_rT hp (Int32.not_lt.mp c93) e | exact zz_rF hp c93 e | exact zz_rF hp (Int32.not_lt.mpr c93) e | exact zz_rF hp (Int32.not_le.mpr c93) e
      · refine zz_iconst (q := 97) (n := 1) (x := 1) C (by decide +kernel) rfl (by decide +kernel) ?_
        refine zz_goto (off := 4) (tgt := 101) C (by decide +kernel) (by decide) ?_
        refine zz_zret C hr hlk (by decide +kernel) (by decide) hQ (by decide) (by decide) ?_
        have e : pl_cmp q x y ↔ y ≤ x := by
          have n1 : q ≠ 1 := fun z => by rw [z] at hsw; exact absurd hsw (by decide)
          have n2 : q ≠ 2 := fun z => by rw [z] at hsw; exact absurd hsw (by decide)
          have n3 : q ≠ 3 := fun z => by rw [z] at hsw; exact absurd hsw (by decide)
          have n4 : q ≠ 4 := fun z => by rw [z] at hsw; exact absurd hsw (by decide)
          have n5 : q ≠ 5 := fun z => by rw [z] at hsw; exact absurd hsw (by decide)
          simp [pl_cmp, n1, n2, n3, n4, n5]
        first | exact zz_rT hp c93 e | exact zz_rT hp (Int32.not_le.mp c93) e | exact zz_rT hp (Int32.not_lt.mp c93) e | exact zz_rF hp c93 e | exact zz_rF hp (Int32.not_lt.mpr c93) e | exact zz_rF hp (Int32.not_le.mpr c93) e

def T_L_forget : zz_Tr := fun as h post => ∃ a, as = [zz_r 3 (some a)] ∧ post none (zz_pI (zz_pR h 3 0 a none) 3 1 a 0)
set_option maxRecDepth 100000 in
set_option maxHeartbeats 4000000 in
theorem m_L_forget (l : Launch) : zz_Met l y_L_forget w_L_forget { frames := 1, cells := 0, slots := 0, locals := 12 } T_L_forget := by
  refine zz_ofZ (by decide) (fun as h post hT => ?_) ?_
  · obtain ⟨a, rfl, hp⟩ := hT
    exact ⟨by simp [zz_cat], by simp⟩
  · intro D DA h as post hT p e s m args below meth c Q C hr hlk hnm hQ
    obtain ⟨a, rfl, hp⟩ := hT
    refine zz_aload_n (q := 1) (f := 0) (i := 0) C (by decide +kernel) rfl rfl rfl ?_
    refine zz_null (q := 2) C 1 (by decide +kernel) rfl ?_
    refine zz_putR (q := 5) C gf_L_21 (fun h => by cases h) (by decide +kernel) rfl (by first | rfl | assumption) ?_
    refine zz_aload_n (q := 6) (f := 0) (i := 0) C (by decide +kernel) rfl rfl rfl ?_
    refine zz_iconst (q := 7) (n := 0) (x := 0) C (by decide +kernel) rfl (by decide +kernel) ?_
    refine zz_putI (q := 10) C gf_L_25 (fun h => by cases h) (fun h => by cases h) (by decide +kernel) rfl (by first | rfl | assumption) ?_
    refine zz_vret C hr hlk (by decide +kernel) hQ (by decide) (by decide) ?_
    exact hp

def T_L_isStated : zz_Tr := fun as h post => ∃ a, as = [zz_r 3 (some a)] ∧ post (some (zz_i (zz_b (zz_fR h 3 0 a ≠ none)))) h
set_option maxRecDepth 100000 in
set_option maxHeartbeats 4000000 in
theorem m_L_isStated (l : Launch) : zz_Met l y_L_isStated w_L_isStated { frames := 1, cells := 0, slots := 0, locals := 12 } T_L_isStated := by
  refine zz_ofZ (by decide) (fun as h post hT => ?_) ?_
  · obtain ⟨a, rfl, hp⟩ := hT
    exact ⟨by simp [zz_cat], by simp⟩
  · intro D DA h as post hT p e s m args below meth c Q C hr hlk hnm hQ
    obtain ⟨a, rfl, hp⟩ := hT
    refine zz_aload_n (q := 1) (f := 0) (i := 0) C (by decide +kernel) rfl rfl rfl ?_
    refine zz_getR (q := 4) C gf_L_21 (by decide +kernel) rfl (by first | rfl | assumption) rfl ?_
    refine zz_ifnull (off := 7) (tgt := 11) (q := 7) C (by decide +kernel) (by decide) rfl (fun c4 => ?_) (fun a4 c4 => ?_)
    · refine zz_iconst (q := 12) (n := 0) (x := 0) C (by decide +kernel) rfl (by decide +kernel) ?_
      refine zz_zret C hr hlk (by decide +kernel) (by decide) hQ (by decide) (by decide) ?_
      first | exact zz_b0 (P := fun x => post (some (zz_i x)) h) hp (fun z => z c4) | exact zz_b1 (P := fun x => post (some (zz_i x)) h) hp (by rw [c4]; exact fun z => by cases z)
    · refine zz_iconst (q := 8) (n := 1) (x := 1) C (by decide +kernel) rfl (by decide +kernel) ?_
      refine zz_goto (off := 4) (tgt := 12) C (by decide +kernel) (by decide) ?_
      refine zz_zret C hr hlk (by decide +kernel) (by decide) hQ (by decide) (by decide) ?_
      first | exact zz_b0 (P := fun x => post (some (zz_i x)) h) hp (fun z => z c4) | exact zz_b1 (P := fun x => post (some (zz_i x)) h) hp (by rw [c4]; exact fun z => by cases z)

def T_L_state : zz_Tr := fun as h post => ∃ a k, as = [zz_r 3 (some a), zz_r 1 k] ∧ ((zz_fR h 3 0 a ≠ none ∧ zz_fR h 3 0 a ≠ k) → post (some (zz_i 0)) h) ∧ (¬ (zz_fR h 3 0 a ≠ none ∧ zz_fR h 3 0 a ≠ k) → post (some (zz_i 1)) (zz_pR h 3 0 a k))
set_option maxRecDepth 100000 in
set_option maxHeartbeats 4000000 in
theorem m_L_state (l : Launch) : zz_Met l y_L_state w_L_state { frames := 1, cells := 0, slots := 0, locals := 12 } T_L_state := by
  refine zz_ofZ (by decide) (fun as h post hT => ?_) ?_
  · obtain ⟨a, k, rfl, h1, h2⟩ := hT
    exact ⟨by simp [zz_cat], by simp⟩
  · intro D DA h as post hT p e s m args below meth c Q C hr hlk hnm hQ
    obtain ⟨a, k, rfl, h1, h2⟩ := hT
    refine zz_aload_n (q := 1) (f := 0) (i := 0) C (by decide +kernel) rfl rfl rfl ?_
    refine zz_getR (q := 4) C gf_L_21 (by decide +kernel) rfl (by first | rfl | assumption) rfl ?_
    refine zz_ifnull (off := 13) (tgt := 17) (q := 7) C (by decide +kernel) (by decide) rfl (fun c4 => ?_) (fun a4 c4 => ?_)
    · refine zz_aload_n (q := 18) (f := 0) (i := 0) C (by decide +kernel) rfl rfl rfl ?_
      refine zz_aload_n (q := 19) (f := 1) (i := 1) C (by decide +kernel) rfl rfl rfl ?_
      refine zz_putR (q := 22) C gf_L_21 (fun h => by cases h) (by decide +kernel) rfl (by first | rfl | assumption) ?_
      refine zz_iconst (q := 23) (n := 1) (x := 1) C (by decide +kernel) rfl (by decide +kernel) ?_
      refine zz_zret C hr hlk (by decide +kernel) (by decide) hQ (by decide) (by decide) ?_
      first | exact h2 (fun z => z.1 c4) | exact h2 (fun z => z.2 c12)
    · refine zz_aload_n (q := 8) (f := 0) (i := 0) C (by decide +kernel) rfl rfl rfl ?_
      refine zz_getR (q := 11) C gf_L_21 (by decide +kernel) rfl (by first | rfl | assumption) rfl ?_
      refine zz_aload_n (q := 12) (f := 1) (i := 1) C (by decide +kernel) rfl rfl rfl ?_
      refine zz_acmp_eq (off := 5) (tgt := 17) (q := 15) C (by decide +kernel) (by decide) rfl (fun c12 => ?_) (fun c12 => ?_)
      · refine zz_aload_n (q := 18) (f := 0) (i := 0) C (by decide +kernel) rfl rfl rfl ?_
        refine zz_aload_n (q := 19) (f := 1) (i := 1) C (by decide +kernel) rfl rfl rfl ?_
        refine zz_putR (q := 22) C gf_L_21 (fun h => by cases h) (by decide +kernel) rfl (by first | rfl | assumption) ?_
        refine zz_iconst (q := 23) (n := 1) (x := 1) C (by decide +kernel) rfl (by decide +kernel) ?_
        refine zz_zret C hr hlk (by decide +kernel) (by decide) hQ (by decide) (by decide) ?_
        first | exact h2 (fun z => z.1 c4) | exact h2 (fun z => z.2 c12)
      · refine zz_iconst (q := 16) (n := 0) (x := 0) C (by decide +kernel) rfl (by decide +kernel) ?_
        refine zz_zret C hr hlk (by decide +kernel) (by decide) hQ (by decide) (by decide) ?_
        exact h1 ⟨by rw [c4]; exact fun z => (by cases z), c12⟩

/-! the reference: what meets the path; root types -/
def mlow (h : zz_H) (r : Nat) : Nat → Nat
  | 0 => 0
  | n + 1 => if ma h r 22 (n + 1) = -1 then mlow h r n else n + 1
def mo_meet (h : zz_H) (r s : Nat) : Prop := mlow h r 4 = 0 ∨ (mLv h r s = mlow h r 4 ∧ mFo h r 4 (some s))
theorem mlow_le (h : zz_H) (r : Nat) : ∀ n, mlow h r n ≤ n
  | 0 => Nat.le_refl _
  | n + 1 => by
    have := mlow_le h r n
    rw [mlow]; split <;> omega
def mAb (h : zz_H) (r t : Nat) : Option Nat := if ma h r 2 t = -1 then none else some (ma h r 2 t).toNatClampNeg
theorem mAb_so {h : zz_H} {r s p : Nat} (hp : p < 60) (e : ma h r 2 s = nI p) : mAb h r s = some p := by
  rw [mAb, e, if_neg (nI_neg (by omega)), nI_clamp (by omega)]
/-- the types are well formed -/
def mo_wt (h : zz_H) (r : Nat) : Prop := ∀ t, t < 8 → ma h r 1 t ≠ 0 → ma h r 3 t = nI (mT h r t) ∧ 1 ≤ mT h r t ∧ mT h r t ≤ 4 ∧ ((ma h r 2 t = -1 ∧ mT h r t = 1) ∨ ∃ p, p < 8 ∧ ma h r 1 p ≠ 0 ∧ ma h r 2 t = nI p ∧ mT h r p + 1 = mT h r t) ∧ ∃ n, 1 ≤ n ∧ n ≤ 4 ∧ ma h r 4 t = nI n ∧ (ma h r 5 t = -1 ∨ ∃ j, j < n ∧ ma h r 5 t = nI j)
def mRt (h : zz_H) (r : Nat) : Nat → Nat → Nat
  | 0, t => t
  | n + 1, t => match mAb h r t with
    | none => t
    | some p => mRt h r n p
theorem mRt_no {h : zz_H} {r n t : Nat} (e : ma h r 2 t = -1) : mRt h r n t = t := by
  have : mAb h r t = none := if_pos e
  cases n <;> simp [mRt, this]
theorem mRt_go {h : zz_H} {r n t p : Nat} (e : mAb h r t = some p) : mRt h r (n + 1) t = mRt h r n p := by simp [mRt, e]
def T_M_fitsAbove : zz_Tr := fun as h post => ∃ r s9, as = [zz_r 7 (some r), zz_i (nI s9)] ∧ mo_ok h r ∧ mo_wl h r ∧ mo_wp h r ∧ mLive h r s9 ∧ post (some (zz_i (zz_b (mFo h r 4 (some s9))))) h
set_option maxRecDepth 100000 in
set_option maxHeartbeats 4000000 in
theorem m_M_fitsAbove (l : Launch) : zz_Met l y_M_fitsAbove w_M_fitsAbove { frames := 3, cells := 0, slots := 0, locals := 58 } T_M_fitsAbove := by
  refine zz_ofZ (by decide) (fun as h post hT => ?_) ?_
  · obtain ⟨r, s9, rfl, hok, hwl, hwp, hlv, hp⟩ := hT
    exact ⟨by simp [zz_cat], by simp⟩
  · intro D DA h as post hT p e s m args below meth c Q C hr hlk hnm hQ
    obtain ⟨r, s9, rfl, hok, hwl, hwp, hlv, hp⟩ := hT
    have lp4 : ∀ k n o9 (al : Int32), n < k → mGo h r n o9 → ((al = 0 ∧ post (some (zz_i 0)) h) ∨ (al = 1 ∧ post (some (zz_i (zz_b (mFo h r n o9)))) h)) → zz_Z p l e { frames := 3, cells := 0, slots := 0, locals := 58 } s m args below meth c Q D DA (zz_A h s.heap.size) h 4 4 [some (zz_r 7 (some r)), some (zz_i (nI s9)), some (zz_i al), some (zz_i (mO o9))] [] h 0 0 := by
      intro k
      induction k with
      | zero =>
        intro n o9 al hn
        exact absurd hn (by omega)
      | succ k ih =>
        intro n o9 al hn hg hal
        refine zz_iload_n (q := 5) (f := 3) (i := 3) C (by decide +kernel) rfl rfl rfl ?_
        refine zz_iconst (q := 6) (n := -1) (x := (-1)) C (by decide +kernel) rfl (by decide +kernel) ?_
        refine zz_icmp_eq (off := 23) (tgt := 29) (q := 9) C (by decide +kernel) (by decide) rfl (fun c6 => ?_) (fun c6 => ?_)
        · refine zz_iload_n (q := 30) (f := 2) (i := 2) C (by decide +kernel) rfl rfl rfl ?_
          refine zz_zret C hr hlk (by decide +kernel) (hal.elim (fun z => Or.inl z.1) (fun z => Or.inr z.1)) hQ (by decide) (by decide) ?_
          rcases hal with ⟨h1, h2⟩ | ⟨h1, h2⟩
          · rw [h1]; exact h2
          · first
              | exact absurd (h1.symm.trans c10) (by decide)
              | (rw [mO_none hg c6] at h2; rw [h1]; exact zz_b1 (P := fun x => post (some (zz_i x)) h) h2 (by cases n <;> trivial))
        · refine zz_iload_n (q := 10) (f := 2) (i := 2) C (by decide +kernel) rfl rfl rfl ?_
          refine zz_if_eq (off := 19) (tgt := 29) (q := 13) C (by decide +kernel) (by decide) rfl (fun c10 => ?_) (fun c10 => ?_)
          · refine zz_iload_n (q := 30) (f := 2) (i := 2) C (by decide +kernel) rfl rfl rfl ?_
            refine zz_zret C hr hlk (by decide +kernel) (hal.elim (fun z => Or.inl z.1) (fun z => Or.inr z.1)) hQ (by decide) (by decide) ?_
            rcases hal with ⟨h1, h2⟩ | ⟨h1, h2⟩
            · rw [h1]; exact h2
            · first
                | exact absurd (h1.symm.trans c10) (by decide)
                | (rw [mO_none hg c6] at h2; rw [h1]; exact zz_b1 (P := fun x => post (some (zz_i x)) h) h2 (by cases n <;> trivial))
          · obtain ⟨x, rfl⟩ := mO_some c6
            obtain ⟨g1, g2⟩ := hg x rfl
            have hx60 := g1.1
            obtain ⟨n9, rfl⟩ : ∃ n9, n = n9 + 1 := ⟨n - 1, by obtain ⟨-, -, -, f4, -, -⟩ := hwl x g1; omega⟩
            have hu9 := mGo_up (n := n9) hwl g1 g2
            have h2 := (hal.resolve_left (fun z => c10 z.1)).2
            refine zz_aload_n (q := 14) (f := 0) (i := 0) C (by decide +kernel) rfl rfl rfl ?_
            refine zz_iload_n (q := 15) (f := 3) (i := 3) C (by decide +kernel) rfl rfl rfl ?_
            refine zz_callV (q := 18) C (m_M_fits l) cv_M_112 (by decide +kernel) rfl rfl rfl (by first | rfl | assumption) (by decide) (by decide) (Nat.le_of_ble_eq_true rfl) ⟨_, _, rfl, hok, hwl, hwp, g1, ?_⟩
            refine zz_istore_n (q := 19) (f := 2) (i := 2) C (by decide +kernel) rfl rfl (by decide) rfl ?_
            refine zz_aload_n (q := 20) (f := 0) (i := 0) C (by decide +kernel) rfl rfl rfl ?_
            refine zz_getR (q := 23) C gf_M_45 (by decide +kernel) rfl (by first | rfl | assumption) (hok 16 90 60 rfl).1 ?_
            refine zz_iload_n (q := 24) (f := 3) (i := 3) C (by decide +kernel) rfl rfl rfl ?_
            refine zz_iaload (q := 25) C (by decide +kernel) rfl rfl (hok 16 90 60 rfl).2 rfl (by omega) (by decide) hu9.1 ?_
            refine zz_istore_n (q := 26) (f := 3) (i := 3) C (by decide +kernel) rfl rfl (by decide) rfl ?_
            refine zz_goto (off := -22) (tgt := 4) C (by decide +kernel) (by decide) ?_
            -- AT 4
            refine ih n9 (mP h r x) _ (by omega) hu9.2 ?_
            by_cases hf : mo_fit h r x
            · refine Or.inr ⟨zz_bT hf, ?_⟩
              by_cases hb : mFo h r n9 (mP h r x)
              · rw [zz_bT hb]; exact zz_b1 (P := fun x => post (some (zz_i x)) h) h2 ⟨hf, hb⟩
              · rw [zz_bF hb]; exact zz_b0 (P := fun x => post (some (zz_i x)) h) h2 (fun z => hb z.2)
            · exact Or.inl ⟨zz_bF hf, zz_b0 (P := fun x => post (some (zz_i x)) h) h2 (fun z => hf z.1)⟩
    refine zz_iconst (q := 1) (n := 1) (x := 1) C (by decide +kernel) rfl (by decide +kernel) ?_
    refine zz_istore_n (q := 2) (f := 2) (i := 2) C (by decide +kernel) rfl rfl (by decide) rfl ?_
    refine zz_iload_n (q := 3) (f := 1) (i := 1) C (by decide +kernel) rfl rfl rfl ?_
    refine zz_istore_n (q := 4) (f := 3) (i := 3) C (by decide +kernel) rfl rfl (by decide) rfl ?_
    -- AT 4
    exact lp4 5 4 (some s9) 1 (by omega) (fun x hx => by cases hx; exact ⟨hlv, by obtain ⟨-, -, -, -, e5, -⟩ := hwl s9 hlv; omega⟩) (Or.inr ⟨rfl, hp⟩)

def T_M_meets : zz_Tr := fun as h post => ∃ r s9, as = [zz_r 7 (some r), zz_i (nI s9)] ∧ mo_ok h r ∧ mo_wl h r ∧ mo_wp h r ∧ mLive h r s9 ∧ post (some (zz_i (zz_b (mo_meet h r s9)))) h
set_option maxRecDepth 100000 in
set_option maxHeartbeats 4000000 in
theorem m_M_meets (l : Launch) : zz_Met l y_M_meets w_M_meets { frames := 4, cells := 0, slots := 0, locals := 81 } T_M_meets := by
  refine zz_ofZ (by decide) (fun as h post hT => ?_) ?_
  · obtain ⟨r, s9, rfl, hok, hwl, hwp, hlv, hp⟩ := hT
    exact ⟨by simp [zz_cat], by simp⟩
  · intro D DA h as post hT p e s m args below meth c Q C hr hlk hnm hQ
    obtain ⟨r, s9, rfl, hok, hwl, hwp, hlv, hp⟩ := hT
    have hs60 := hlv.1
    obtain ⟨e1, e2, e3, e4, e5, -⟩ := hwl s9 hlv
    have lp4 : ∀ n l9, 6 ≤ n + l9 → l9 ≤ 4 → zz_Z p l e { frames := 4, cells := 0, slots := 0, locals := 81 } s m args below meth c Q D DA (zz_A h s.heap.size) h 4 4 [some (zz_r 7 (some r)), some (zz_i (nI s9)), some (zz_i (nI (mlow h r l9))), some (zz_i (nI (l9 + 1)))] [] h 0 0 := by
      intro n
      induction n with
      | zero =>
        intro l9 hn hl
        exact absurd hn (by omega)
      | succ n ih =>
        intro l9 hn hl
        have hlow := mlow_le h r l9
        refine zz_iload_n (q := 5) (f := 3) (i := 3) C (by decide +kernel) rfl rfl rfl ?_
        refine zz_iconst (q := 6) (n := 5) (x := 5) C (by decide +kernel) rfl (by decide +kernel) ?_
        refine zz_icmp_ge (off := 25) (tgt := 31) (q := 9) C (by decide +kernel) (by decide) rfl (fun c6 => ?_) (fun c6 => ?_)
        · have hl4 : l9 = 4 := by
            have := (nI_leI (a := 5) (b := l9 + 1) (by omega) (by omega)).mp c6
            omega
          subst hl4
          refine zz_iload_n (q := 32) (f := 2) (i := 2) C (by decide +kernel) rfl rfl rfl ?_
          refine zz_if_eq (off := 26) (tgt := 58) (q := 35) C (by decide +kernel) (by decide) rfl (fun c32 => ?_) (fun c32 => ?_)
          · refine zz_iconst (q := 59) (n := 1) (x := 1) C (by decide +kernel) rfl (by decide +kernel) ?_
            refine zz_goto (off := 4) (tgt := 63) C (by decide +kernel) (by decide) ?_
            refine zz_zret C hr hlk (by decide +kernel) (by decide) hQ (by decide) (by decide) ?_
            first
              | exact zz_b1 (P := fun x => post (some (zz_i x)) h) hp (Or.inl ((nI_eq (b := 0) (by omega) (by decide)).mp c32))
              | exact zz_b1 (P := fun x => post (some (zz_i x)) h) hp (Or.inr ⟨(nI_eq (by omega) (by omega)).mp c47, zz_b_t c55⟩)
              | exact zz_b0 (P := fun x => post (some (zz_i x)) h) hp (fun z => z.elim (fun w => c32 (by rw [w]; rfl)) (fun w => c47 (by rw [w.1])))
              | exact zz_b0 (P := fun x => post (some (zz_i x)) h) hp (fun z => z.elim (fun w => c32 (by rw [w]; rfl)) (fun w => zz_b_f c55 w.2))
          · refine zz_aload_n (q := 36) (f := 0) (i := 0) C (by decide +kernel) rfl rfl rfl ?_
            refine zz_getR (q := 39) C gf_M_17 (by decide +kernel) rfl (by first | rfl | assumption) (hok 3 90 8 rfl).1 ?_
            refine zz_aload_n (q := 40) (f := 0) (i := 0) C (by decide +kernel) rfl rfl rfl ?_
            refine zz_getR (q := 43) C gf_M_42 (by decide +kernel) rfl (by first | rfl | assumption) (hok 15 90 60 rfl).1 ?_
            refine zz_iload_n (q := 44) (f := 1) (i := 1) C (by decide +kernel) rfl rfl rfl ?_
            refine zz_iaload (q := 45) C (by decide +kernel) rfl rfl (hok 15 90 60 rfl).2 rfl (by omega) (by decide) e1 ?_
            refine zz_iaload (q := 46) C (by decide +kernel) rfl rfl (hok 3 90 8 rfl).2 rfl e2 (by decide) e3 ?_
            refine zz_iload_n (q := 47) (f := 2) (i := 2) C (by decide +kernel) rfl rfl rfl ?_
            refine zz_icmp_ne (off := 15) (tgt := 62) (q := 50) C (by decide +kernel) (by decide) rfl (fun c47 => ?_) (fun c47 => ?_)
            · refine zz_iconst (q := 63) (n := 0) (x := 0) C (by decide +kernel) rfl (by decide +kernel) ?_
              refine zz_zret C hr hlk (by decide +kernel) (by decide) hQ (by decide) (by decide) ?_
              first
                | exact zz_b1 (P := fun x => post (some (zz_i x)) h) hp (Or.inl ((nI_eq (b := 0) (by omega) (by decide)).mp c32))
                | exact zz_b1 (P := fun x => post (some (zz_i x)) h) hp (Or.inr ⟨(nI_eq (by omega) (by omega)).mp c47, zz_b_t c55⟩)
                | exact zz_b0 (P := fun x => post (some (zz_i x)) h) hp (fun z => z.elim (fun w => c32 (by rw [w]; rfl)) (fun w => c47 (by rw [w.1])))
                | exact zz_b0 (P := fun x => post (some (zz_i x)) h) hp (fun z => z.elim (fun w => c32 (by rw [w]; rfl)) (fun w => zz_b_f c55 w.2))
            · refine zz_aload_n (q := 51) (f := 0) (i := 0) C (by decide +kernel) rfl rfl rfl ?_
              refine zz_iload_n (q := 52) (f := 1) (i := 1) C (by decide +kernel) rfl rfl rfl ?_
              refine zz_callV (q := 55) C (m_M_fitsAbove l) cv_M_115 (by decide +kernel) rfl rfl rfl (by first | rfl | assumption) (by decide) (by decide) (Nat.le_of_ble_eq_true rfl) ⟨_, _, rfl, hok, hwl, hwp, hlv, ?_⟩
              refine zz_if_eq (off := 7) (tgt := 62) (q := 58) C (by decide +kernel) (by decide) rfl (fun c55 => ?_) (fun c55 => ?_)
              · refine zz_iconst (q := 63) (n := 0) (x := 0) C (by decide +kernel) rfl (by decide +kernel) ?_
                refine zz_zret C hr hlk (by decide +kernel) (by decide) hQ (by decide) (by decide) ?_
                first
                  | exact zz_b1 (P := fun x => post (some (zz_i x)) h) hp (Or.inl ((nI_eq (b := 0) (by omega) (by decide)).mp c32))
                  | exact zz_b1 (P := fun x => post (some (zz_i x)) h) hp (Or.inr ⟨(nI_eq (by omega) (by omega)).mp c47, zz_b_t c55⟩)
                  | exact zz_b0 (P := fun x => post (some (zz_i x)) h) hp (fun z => z.elim (fun w => c32 (by rw [w]; rfl)) (fun w => c47 (by rw [w.1])))
                  | exact zz_b0 (P := fun x => post (some (zz_i x)) h) hp (fun z => z.elim (fun w => c32 (by rw [w]; rfl)) (fun w => zz_b_f c55 w.2))
              · refine zz_iconst (q := 59) (n := 1) (x := 1) C (by decide +kernel) rfl (by decide +kernel) ?_
                refine zz_goto (off := 4) (tgt := 63) C (by decide +kernel) (by decide) ?_
                refine zz_zret C hr hlk (by decide +kernel) (by decide) hQ (by decide) (by decide) ?_
                first
                  | exact zz_b1 (P := fun x => post (some (zz_i x)) h) hp (Or.inl ((nI_eq (b := 0) (by omega) (by decide)).mp c32))
                  | exact zz_b1 (P := fun x => post (some (zz_i x)) h) hp (Or.inr ⟨(nI_eq (by omega) (by omega)).mp c47, zz_b_t c55⟩)
                  | exact zz_b0 (P := fun x => post (some (zz_i x)) h) hp (fun z => z.elim (fun w => c32 (by rw [w]; rfl)) (fun w => c47 (by rw [w.1])))
                  | exact zz_b0 (P := fun x => post (some (zz_i x)) h) hp (fun z => z.elim (fun w => c32 (by rw [w]; rfl)) (fun w => zz_b_f c55 w.2))
        · have hl3 : l9 + 1 < 5 := Nat.lt_of_not_le (fun z => c6 (nI_le z (by omega)))
          refine zz_aload_n (q := 10) (f := 0) (i := 0) C (by decide +kernel) rfl rfl rfl ?_
          refine zz_getR (q := 13) C gf_M_64 (by decide +kernel) rfl (by first | rfl | assumption) (hok 22 90 5 rfl).1 ?_
          refine zz_iload_n (q := 14) (f := 3) (i := 3) C (by decide +kernel) rfl rfl rfl ?_
          refine zz_iaload (q := 15) C (by decide +kernel) rfl rfl (hok 22 90 5 rfl).2 rfl (by omega) (by decide) rfl ?_
          refine zz_iconst (q := 16) (n := -1) (x := (-1)) C (by decide +kernel) rfl (by decide +kernel) ?_
          refine zz_icmp_ne (off := 7) (tgt := 23) (q := 19) C (by decide +kernel) (by decide) rfl (fun c16 => ?_) (fun c16 => ?_)
          · refine zz_iload_n (q := 24) (f := 3) (i := 3) C (by decide +kernel) rfl rfl rfl ?_
            refine zz_istore_n (q := 25) (f := 2) (i := 2) C (by decide +kernel) rfl rfl (by decide) rfl ?_
            refine zz_iinc (q := 28) (i := 3) (n := 1) C (by decide +kernel) rfl rfl (nI_1 _) (by decide) rfl ?_
            refine zz_goto (off := -24) (tgt := 4) C (by decide +kernel) (by decide) ?_
            -- AT 4
            have ih9 := ih (l9 + 1) (by omega) (by omega)
            first
              | (rw [show mlow h r (l9 + 1) = l9 + 1 from if_neg c16] at ih9; exact ih9)
              | (rw [show mlow h r (l9 + 1) = mlow h r l9 from if_pos c16] at ih9; exact ih9)
          · refine zz_iload_n (q := 20) (f := 2) (i := 2) C (by decide +kernel) rfl rfl rfl ?_
            refine zz_goto (off := 4) (tgt := 24) C (by decide +kernel) (by decide) ?_
            refine zz_istore_n (q := 25) (f := 2) (i := 2) C (by decide +kernel) rfl rfl (by decide) rfl ?_
            refine zz_iinc (q := 28) (i := 3) (n := 1) C (by decide +kernel) rfl rfl (nI_1 _) (by decide) rfl ?_
            refine zz_goto (off := -24) (tgt := 4) C (by decide +kernel) (by decide) ?_
            -- AT 4
            have ih9 := ih (l9 + 1) (by omega) (by omega)
            first
              | (rw [show mlow h r (l9 + 1) = l9 + 1 from if_neg c16] at ih9; exact ih9)
              | (rw [show mlow h r (l9 + 1) = mlow h r l9 from if_pos c16] at ih9; exact ih9)
    refine zz_iconst (q := 1) (n := 0) (x := 0) C (by decide +kernel) rfl (by decide +kernel) ?_
    refine zz_istore_n (q := 2) (f := 2) (i := 2) C (by decide +kernel) rfl rfl (by decide) rfl ?_
    refine zz_iconst (q := 3) (n := 1) (x := 1) C (by decide +kernel) rfl (by decide +kernel) ?_
    refine zz_istore_n (q := 4) (f := 3) (i := 3) C (by decide +kernel) rfl rfl (by decide) rfl ?_
    -- AT 4
    exact lp4 6 0 (by omega) (by omega)

def T_M_rootType : zz_Tr := fun as h post => ∃ r t9, as = [zz_r 7 (some r), zz_i (nI t9)] ∧ mo_ok h r ∧ mo_wt h r ∧ t9 < 8 ∧ ma h r 1 t9 ≠ 0 ∧ post (some (zz_i (nI (mRt h r 3 t9)))) h
set_option maxRecDepth 100000 in
set_option maxHeartbeats 4000000 in
theorem m_M_rootType (l : Launch) : zz_Met l y_M_rootType w_M_rootType { frames := 1, cells := 0, slots := 0, locals := 12 } T_M_rootType := by
  refine zz_ofZ (by decide) (fun as h post hT => ?_) ?_
  · obtain ⟨r, t9, rfl, hok, hwt, ht8, hd, hp⟩ := hT
    exact ⟨by simp [zz_cat], by simp⟩
  · intro D DA h as post hT p e s m args below meth c Q C hr hlk hnm hQ
    obtain ⟨r, t9, rfl, hok, hwt, ht8, hd, hp⟩ := hT
    have lp2 : ∀ k n x, n < k → x < 8 → ma h r 1 x ≠ 0 → mT h r x ≤ n + 1 → post (some (zz_i (nI (mRt h r n x)))) h → zz_Z p l e { frames := 1, cells := 0, slots := 0, locals := 12 } s m args below meth c Q D DA (zz_A h s.heap.size) h 3 2 [some (zz_r 7 (some r)), some (zz_i (nI t9)), some (zz_i (nI x))] [] h 0 0 := by
      intro k
      induction k with
      | zero =>
        intro n x hn
        exact absurd hn (by omega)
      | succ k ih =>
        intro n x hn hx8 hdx hnl hp
        obtain ⟨-, e4, e5, e6, -⟩ := hwt x hx8 hdx
        refine zz_aload_n (q := 3) (f := 0) (i := 0) C (by decide +kernel) rfl rfl rfl ?_
        refine zz_getR (q := 6) C gf_M_13 (by decide +kernel) rfl (by first | rfl | assumption) (hok 2 90 8 rfl).1 ?_
        refine zz_iload_n (q := 7) (f := 2) (i := 2) C (by decide +kernel) rfl rfl rfl ?_
        refine zz_iaload (q := 8) C (by decide +kernel) rfl rfl (hok 2 90 8 rfl).2 rfl (by omega) (by decide) rfl ?_
        refine zz_iconst (q := 9) (n := -1) (x := (-1)) C (by decide +kernel) rfl (by decide +kernel) ?_
        refine zz_icmp_eq (off := 13) (tgt := 22) (q := 12) C (by decide +kernel) (by decide) rfl (fun c9 => ?_) (fun c9 => ?_)
        · refine zz_iload_n (q := 23) (f := 2) (i := 2) C (by decide +kernel) rfl rfl rfl ?_
          refine zz_iret C hr hlk (by decide +kernel) hQ (by decide) (by decide) ?_
          rw [mRt_no c9] at hp
          exact hp
        · obtain ⟨p9, g1, g2, g3, g4⟩ := e6.resolve_left (fun z => c9 z.1)
          obtain ⟨-, f4, -, -, -⟩ := hwt p9 g1 g2
          obtain ⟨n9, rfl⟩ : ∃ n9, n = n9 + 1 := ⟨n - 1, by omega⟩
          refine zz_aload_n (q := 13) (f := 0) (i := 0) C (by decide +kernel) rfl rfl rfl ?_
          refine zz_getR (q := 16) C gf_M_13 (by decide +kernel) rfl (by first | rfl | assumption) (hok 2 90 8 rfl).1 ?_
          refine zz_iload_n (q := 17) (f := 2) (i := 2) C (by decide +kernel) rfl rfl rfl ?_
          refine zz_iaload (q := 18) C (by decide +kernel) rfl rfl (hok 2 90 8 rfl).2 rfl (by omega) (by decide) g3 ?_
          refine zz_istore_n (q := 19) (f := 2) (i := 2) C (by decide +kernel) rfl rfl (by decide) rfl ?_
          refine zz_goto (off := -17) (tgt := 2) C (by decide +kernel) (by decide) ?_
          -- AT 2
          refine ih n9 p9 (by omega) g1 g2 (by omega) ?_
          rw [mRt_go (mAb_so (by omega) g3)] at hp
          exact hp
    refine zz_iload_n (q := 1) (f := 1) (i := 1) C (by decide +kernel) rfl rfl rfl ?_
    refine zz_istore_n (q := 2) (f := 2) (i := 2) C (by decide +kernel) rfl rfl (by decide) rfl ?_
    -- AT 2
    exact lp2 4 3 t9 (by omega) ht8 hd (by obtain ⟨-, -, e5, -⟩ := hwt t9 ht8 hd; omega) hp

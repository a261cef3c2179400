/-! Kind -/
noncomputable def zz_b (p : Prop) : Int32 := @ite _ p (Classical.propDecidable p) 1 0
theorem zz_bT {p : Prop} (h : p) : zz_b p = 1 := by
  unfold zz_b
  exact if_pos h
theorem zz_bF {p : Prop} (h : ¬ p) : zz_b p = 0 := by
  unfold zz_b
  exact if_neg h
theorem zz_b01 (p : Prop) : zz_b p = 0 ∨ zz_b p = 1 := by
  by_cases h : p
  · exact Or.inr (zz_bT h)
  · exact Or.inl (zz_bF h)
theorem zz_b_t {p : Prop} (h : ¬ zz_b p = 0) : p := Classical.byContradiction (fun z => h (zz_bF z))
theorem zz_b_f {p : Prop} (h : zz_b p = 0) : ¬ p := fun z => by
  rw [zz_bT z] at h
  exact absurd h (by decide)
theorem zz_b_iff {p q : Prop} (h : p ↔ q) : zz_b p = zz_b q := by
  by_cases hp : p
  · rw [zz_bT hp, zz_bT (h.mp hp)]
  · rw [zz_bF hp, zz_bF (fun z => hp (h.mpr z))]
theorem zz_b1 {P : Int32 → Prop} {p : Prop} (h : P (zz_b p)) (hp : p) : P 1 := by
  rw [zz_bT hp] at h
  exact h
theorem zz_b0 {P : Int32 → Prop} {p : Prop} (h : P (zz_b p)) (hp : ¬ p) : P 0 := by
  rw [zz_bF hp] at h
  exact h
/-- the kind on top of a chain of parents -/
def kd_root (h : zz_H) : Nat → Nat → Nat
  | 0, a => a
  | n + 1, a => match zz_fR h 1 1 a with
    | none => a
    | some b => kd_root h n b
def T_K_hasWord : zz_Tr := fun as h post => ∃ a i, as = [zz_r 1 (some a), zz_i i] ∧ post (some (zz_i (zz_b (0 ≤ i ∧ i < zz_fI h 1 3 a)))) h
set_option maxRecDepth 100000 in
set_option maxHeartbeats 4000000 in
theorem m_K_hasWord (l : Launch) : zz_Met l y_K_hasWord w_K_hasWord { frames := 1, cells := 0, slots := 0, locals := 12 } T_K_hasWord := by
  refine zz_ofZ (by decide) (fun as h post hT => ?_) ?_
  · obtain ⟨a, i, rfl, hp⟩ := hT
    exact ⟨by simp [zz_cat], by simp⟩
  · intro D DA h as post hT p e s m args below meth c Q C hr hlk hnm hQ
    obtain ⟨a, i, rfl, hp⟩ := hT
    refine zz_iload_n (q := 1) (f := 1) (i := 1) C (by decide +kernel) rfl rfl rfl ?_
    refine zz_if_lt (off := 15) (tgt := 16) (q := 4) C (by decide +kernel) (by decide) rfl (fun c1 => ?_) (fun c1 => ?_)
    · refine zz_iconst (q := 17) (n := 0) (x := 0) C (by decide +kernel) rfl (by decide +kernel) ?_
      refine zz_zret C hr hlk (by decide +kernel) (by decide) hQ (by decide) (by decide) ?_
      first | exact zz_b1 (P := fun x => post (some (zz_i x)) h) hp ⟨Int32.not_lt.mp c1, Int32.not_le.mp c9⟩ | exact zz_b0 (P := fun x => post (some (zz_i x)) h) hp (fun z => Int32.not_le.mpr c1 z.1) | exact zz_b0 (P := fun x => post (some (zz_i x)) h) hp (fun z => Int32.not_le.mpr z.2 c9)
    · refine zz_iload_n (q := 5) (f := 1) (i := 1) C (by decide +kernel) rfl rfl rfl ?_
      refine zz_aload_n (q := 6) (f := 0) (i := 0) C (by decide +kernel) rfl rfl rfl ?_
      refine zz_getI (q := 9) C gf_K_22 (by decide +kernel) rfl (by first | rfl | assumption) rfl ?_
      refine zz_icmp_ge (off := 7) (tgt := 16) (q := 12) C (by decide +kernel) (by decide) rfl (fun c9 => ?_) (fun c9 => ?_)
      · refine zz_iconst (q := 17) (n := 0) (x := 0) C (by decide +kernel) rfl (by decide +kernel) ?_
        refine zz_zret C hr hlk (by decide +kernel) (by decide) hQ (by decide) (by decide) ?_
        first | exact zz_b1 (P := fun x => post (some (zz_i x)) h) hp ⟨Int32.not_lt.mp c1, Int32.not_le.mp c9⟩ | exact zz_b0 (P := fun x => post (some (zz_i x)) h) hp (fun z => Int32.not_le.mpr c1 z.1) | exact zz_b0 (P := fun x => post (some (zz_i x)) h) hp (fun z => Int32.not_le.mpr z.2 c9)
      · refine zz_iconst (q := 13) (n := 1) (x := 1) C (by decide +kernel) rfl (by decide +kernel) ?_
        refine zz_goto (off := 4) (tgt := 17) C (by decide +kernel) (by decide) ?_
        refine zz_zret C hr hlk (by decide +kernel) (by decide) hQ (by decide) (by decide) ?_
        first | exact zz_b1 (P := fun x => post (some (zz_i x)) h) hp ⟨Int32.not_lt.mp c1, Int32.not_le.mp c9⟩ | exact zz_b0 (P := fun x => post (some (zz_i x)) h) hp (fun z => Int32.not_le.mpr c1 z.1) | exact zz_b0 (P := fun x => post (some (zz_i x)) h) hp (fun z => Int32.not_le.mpr z.2 c9)

def T_K_hasSequence : zz_Tr := fun as h post => ∃ a, as = [zz_r 1 (some a)] ∧ post (some (zz_i (zz_b (zz_fI h 1 4 a ≠ -1)))) h
set_option maxRecDepth 100000 in
set_option maxHeartbeats 4000000 in
theorem m_K_hasSequence (l : Launch) : zz_Met l y_K_hasSequence w_K_hasSequence { frames := 1, cells := 0, slots := 0, locals := 12 } T_K_hasSequence := by
  refine zz_ofZ (by decide) (fun as h post hT => ?_) ?_
  · obtain ⟨a, rfl, hp⟩ := hT
    exact ⟨by simp [zz_cat], by simp⟩
  · intro D DA h as post hT p e s m args below meth c Q C hr hlk hnm hQ
    obtain ⟨a, rfl, hp⟩ := hT
    refine zz_aload_n (q := 1) (f := 0) (i := 0) C (by decide +kernel) rfl rfl rfl ?_
    refine zz_getI (q := 4) C gf_K_25 (by decide +kernel) rfl (by first | rfl | assumption) rfl ?_
    refine zz_iconst (q := 5) (n := -1) (x := (-1)) C (by decide +kernel) rfl (by decide +kernel) ?_
    refine zz_icmp_eq (off := 7) (tgt := 12) (q := 8) C (by decide +kernel) (by decide) rfl (fun c5 => ?_) (fun c5 => ?_)
    · refine zz_iconst (q := 13) (n := 0) (x := 0) C (by decide +kernel) rfl (by decide +kernel) ?_
      refine zz_zret C hr hlk (by decide +kernel) (by decide) hQ (by decide) (by decide) ?_
      first | exact zz_b1 (P := fun x => post (some (zz_i x)) h) hp c5 | exact zz_b0 (P := fun x => post (some (zz_i x)) h) hp (fun z => z c5)
    · refine zz_iconst (q := 9) (n := 1) (x := 1) C (by decide +kernel) rfl (by decide +kernel) ?_
      refine zz_goto (off := 4) (tgt := 13) C (by decide +kernel) (by decide) ?_
      refine zz_zret C hr hlk (by decide +kernel) (by decide) hQ (by decide) (by decide) ?_
      first | exact zz_b1 (P := fun x => post (some (zz_i x)) h) hp c5 | exact zz_b0 (P := fun x => post (some (zz_i x)) h) hp (fun z => z c5)

def T_K_rootKind : zz_Tr := fun as h post => ∃ a, as = [zz_r 1 (some a)] ∧ post (some (zz_r 1 (some (kd_root h 3 a)))) h
set_option maxRecDepth 100000 in
set_option maxHeartbeats 4000000 in
theorem m_K_rootKind (l : Launch) : zz_Met l y_K_rootKind w_K_rootKind { frames := 1, cells := 0, slots := 0, locals := 12 } T_K_rootKind := by
  refine zz_ofZ (by decide) (fun as h post hT => ?_) ?_
  · obtain ⟨a, rfl, hp⟩ := hT
    exact ⟨by simp [zz_cat], by simp⟩
  · intro D DA h as post hT p e s m args below meth c Q C hr hlk hnm hQ
    obtain ⟨a, rfl, hp⟩ := hT
    have lp4 : ∀ n o, n ≤ 3 → post (some (zz_r 1 (some (kd_root h n o)))) h → zz_Z p l e { frames := 1, cells := 0, slots := 0, locals := 12 } s m args below meth c Q D DA (zz_A h s.heap.size) h 3 4 [some (zz_r 1 (some a)), some (zz_r 1 (some o)), some (zz_i (nI (4 - n)))] [] h 0 0 := by
      intro n
      induction n with
      | zero =>
        intro o hn hp
        refine zz_iload_n (q := 5) (f := 2) (i := 2) C (by decide +kernel) rfl rfl rfl ?_
        refine zz_iconst (q := 6) (n := 4) (x := 4) C (by decide +kernel) rfl (by decide +kernel) ?_
        refine zz_icmp_ge (off := 21) (tgt := 27) (q := 9) C (by decide +kernel) (by decide) rfl (fun c6 => ?_) (fun c6 => absurd (by decide) c6)
        refine zz_aload_n (q := 28) (f := 1) (i := 1) C (by decide +kernel) rfl rfl rfl ?_
        exact zz_aret C hr (Or.inl ⟨_, rfl⟩) hlk (by decide +kernel) hQ (by decide) (by decide) hp
      | succ n ih =>
        intro o hn hp
        have e1 : 4 - (n + 1) = 3 - n := by omega
        have e2 : (nI (4 - (n + 1)) : Int32) + Int32.ofInt 1 = nI (4 - n) := by
          rw [show 4 - n = (4 - (n + 1)) + 1 by omega]
          exact (nI_succ _).symm
        refine zz_iload_n (q := 5) (f := 2) (i := 2) C (by decide +kernel) rfl rfl rfl ?_
        refine zz_iconst (q := 6) (n := 4) (x := 4) C (by decide +kernel) rfl (by decide +kernel) ?_
        refine zz_icmp_ge (off := 21) (tgt := 27) (q := 9) C (by decide +kernel) (by decide) rfl (fun c6 => ?_) (fun c6 => ?_)
        · refine zz_aload_n (q := 28) (f := 1) (i := 1) C (by decide +kernel) rfl rfl rfl ?_
          refine zz_aret C hr (Or.inl ⟨_, rfl⟩) hlk (by decide +kernel) hQ (by decide) (by decide) ?_
          first | (exfalso; exact nI_ge (a := 4 - (n + 1)) (b := 4) (by omega) (by decide) c6) | (simp only [kd_root, c13] at hp; exact hp)
        · refine zz_aload_n (q := 10) (f := 1) (i := 1) C (by decide +kernel) rfl rfl rfl ?_
          refine zz_getR (q := 13) C gf_K_15 (by decide +kernel) rfl (by first | rfl | assumption) rfl ?_
          refine zz_ifnull (off := 14) (tgt := 27) (q := 16) C (by decide +kernel) (by decide) rfl (fun c13 => ?_) (fun a13 c13 => ?_)
          · refine zz_aload_n (q := 28) (f := 1) (i := 1) C (by decide +kernel) rfl rfl rfl ?_
            refine zz_aret C hr (Or.inl ⟨_, rfl⟩) hlk (by decide +kernel) hQ (by decide) (by decide) ?_
            first | (exfalso; exact nI_ge (a := 4 - (n + 1)) (b := 4) (by omega) (by decide) c6) | (simp only [kd_root, c13] at hp; exact hp)
          · refine zz_aload_n (q := 17) (f := 1) (i := 1) C (by decide +kernel) rfl rfl rfl ?_
            refine zz_getR (q := 20) C gf_K_15 (by decide +kernel) rfl (by first | rfl | assumption) c13 ?_
            refine zz_astore_n (q := 21) (f := 1) (i := 1) C (by decide +kernel) rfl rfl (by decide) rfl ?_
            refine zz_iinc (q := 24) (i := 2) (n := 1) C (by decide +kernel) rfl rfl e2 (by decide) rfl ?_
            refine zz_goto (off := -20) (tgt := 4) C (by decide +kernel) (by decide) ?_
            -- AT 4
            simp only [kd_root, c13] at hp
            exact ih a13 (by omega) hp
    refine zz_aload_n (q := 1) (f := 0) (i := 0) C (by decide +kernel) rfl rfl rfl ?_
    refine zz_astore_n (q := 2) (f := 1) (i := 1) C (by decide +kernel) rfl rfl (by decide) rfl ?_
    refine zz_iconst (q := 3) (n := 1) (x := 1) C (by decide +kernel) rfl (by decide +kernel) ?_
    refine zz_istore_n (q := 4) (f := 2) (i := 2) C (by decide +kernel) rfl rfl (by decide) rfl ?_
    -- AT 4
    exact lp4 3 a (by omega) hp

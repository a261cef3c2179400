/-! Order: what is read of it -/
def or_b (h : zz_H) (a : Nat) : Nat := (zz_fR h 5 0 a).getD 0
def or_n (h : zz_H) (a : Nat) : Nat := (zz_fR h 5 1 a).getD 0
def or_s (h : zz_H) (a : Nat) : Nat := (zz_fI h 5 2 a).toNatClampNeg
def or_B (h : zz_H) (a i : Nat) : Nat := (zz_aR h (or_b h a) i).getD 0
def or_N (h : zz_H) (a i : Nat) : Nat := (zz_aR h (or_n h a) i).getD 0
def or_ok (h : zz_H) (a : Nat) : Prop := zz_fR h 5 0 a = some (or_b h a) ∧ zz_fR h 5 1 a = some (or_n h a) ∧ zz_tg h (or_b h a) = some (102, 60) ∧ zz_tg h (or_n h a) = some (102, 60) ∧ or_b h a ≠ or_n h a ∧ or_s h a ≤ 60 ∧ zz_fI h 5 2 a = nI (or_s h a)
def or_okN (h : zz_H) (a : Nat) : Prop := or_ok h a ∧ ∀ i, i < or_s h a → zz_aR h (or_n h a) i = some (or_N h a i)
def or_okB (h : zz_H) (a : Nat) : Prop := or_ok h a ∧ ∀ i, i < or_s h a → zz_aR h (or_b h a) i = some (or_B h a i)
/-- the first place from f on, below n, at which P holds, by what N names there -/
def or_first (n f : Nat) (P : Nat → Prop) (N : Nat → Nat) (r : Option Nat) : Prop := (r = none ∧ ∀ j, f ≤ j → j < n → ¬ P j) ∨ ∃ i, f ≤ i ∧ i < n ∧ P i ∧ (∀ j, f ≤ j → j < i → ¬ P j) ∧ r = some (N i)
theorem or_next {P : Nat → Prop} {f i : Nat} (h : ∀ j, f ≤ j → j < i → ¬ P j) (hi : ¬ P i) : ∀ j, f ≤ j → j < i + 1 → ¬ P j := fun j h1 h2 => by
  rcases Nat.lt_succ_iff_lt_or_eq.mp h2 with h2 | rfl
  · exact h j h1 h2
  · exact hi
def T_O_nameSecond : zz_Tr := fun as h post => ∃ a k w, as = [zz_r 5 (some a), zz_r 1 k, zz_i w] ∧ post none (zz_pI (zz_pR h 5 3 a k) 5 4 a w)
set_option maxRecDepth 100000 in
set_option maxHeartbeats 4000000 in
theorem m_O_nameSecond (l : Launch) : zz_Met l y_O_nameSecond w_O_nameSecond { frames := 1, cells := 0, slots := 0, locals := 12 } T_O_nameSecond := by
  refine zz_ofZ (by decide) (fun as h post hT => ?_) ?_
  · obtain ⟨a, k, w, rfl, hp⟩ := hT
    exact ⟨by simp [zz_cat], by simp⟩
  · intro D DA h as post hT p e s m args below meth c Q C hr hlk hnm hQ
    obtain ⟨a, k, w, rfl, hp⟩ := hT
    refine zz_aload_n (q := 1) (f := 0) (i := 0) C (by decide +kernel) rfl rfl rfl ?_
    refine zz_aload_n (q := 2) (f := 1) (i := 1) C (by decide +kernel) rfl rfl rfl ?_
    refine zz_putR (q := 5) C gf_O_20 (fun h => by cases h) (by decide +kernel) rfl (by first | rfl | assumption) ?_
    refine zz_aload_n (q := 6) (f := 0) (i := 0) C (by decide +kernel) rfl rfl rfl ?_
    refine zz_iload_n (q := 7) (f := 2) (i := 2) C (by decide +kernel) rfl rfl rfl ?_
    refine zz_putI (q := 10) C gf_O_24 (fun h => by cases h) (fun h => by cases h) (by decide +kernel) rfl (by first | rfl | assumption) ?_
    refine zz_vret C hr hlk (by decide +kernel) hQ (by decide) (by decide) ?_
    exact hp

def T_O_hasSecond : zz_Tr := fun as h post => ∃ a, as = [zz_r 5 (some a)] ∧ post (some (zz_i (zz_b (zz_fR h 5 3 a ≠ none)))) h
set_option maxRecDepth 100000 in
set_option maxHeartbeats 4000000 in
theorem m_O_hasSecond (l : Launch) : zz_Met l y_O_hasSecond w_O_hasSecond { frames := 1, cells := 0, slots := 0, locals := 12 } T_O_hasSecond := by
  refine zz_ofZ (by decide) (fun as h post hT => ?_) ?_
  · obtain ⟨a, rfl, hp⟩ := hT
    exact ⟨by simp [zz_cat], by simp⟩
  · intro D DA h as post hT p e s m args below meth c Q C hr hlk hnm hQ
    obtain ⟨a, rfl, hp⟩ := hT
    refine zz_aload_n (q := 1) (f := 0) (i := 0) C (by decide +kernel) rfl rfl rfl ?_
    refine zz_getR (q := 4) C gf_O_20 (by decide +kernel) rfl (by first | rfl | assumption) rfl ?_
    refine zz_ifnull (off := 7) (tgt := 11) (q := 7) C (by decide +kernel) (by decide) rfl (fun c4 => ?_) (fun a4 c4 => ?_)
    · refine zz_iconst (q := 12) (n := 0) (x := 0) C (by decide +kernel) rfl (by decide +kernel) ?_
      refine zz_zret C hr hlk (by decide +kernel) (by decide) hQ (by decide) (by decide) ?_
      first | exact zz_b0 (P := fun x => post (some (zz_i x)) h) hp (fun z => z c4) | exact zz_b1 (P := fun x => post (some (zz_i x)) h) hp (by rw [c4]; exact fun z => by cases z)
    · refine zz_iconst (q := 8) (n := 1) (x := 1) C (by decide +kernel) rfl (by decide +kernel) ?_
      refine zz_goto (off := 4) (tgt := 12) C (by decide +kernel) (by decide) ?_
      refine zz_zret C hr hlk (by decide +kernel) (by decide) hQ (by decide) (by decide) ?_
      first | exact zz_b0 (P := fun x => post (some (zz_i x)) h) hp (fun z => z c4) | exact zz_b1 (P := fun x => post (some (zz_i x)) h) hp (by rw [c4]; exact fun z => by cases z)

def T_O_indexOf : zz_Tr := fun as h post => ∃ a sg, as = [zz_r 5 (some a), zz_r 2 sg] ∧ or_okN h a ∧ ∀ i, i ≤ or_s h a → (∀ j, j < i → zz_aR h (or_n h a) j ≠ sg) → (i < or_s h a → zz_aR h (or_n h a) i = sg) → post (some (zz_i (nI i))) h
set_option maxRecDepth 100000 in
set_option maxHeartbeats 4000000 in
theorem m_O_indexOf (l : Launch) : zz_Met l y_O_indexOf w_O_indexOf { frames := 1, cells := 0, slots := 0, locals := 12 } T_O_indexOf := by
  refine zz_ofZ (by decide) (fun as h post hT => ?_) ?_
  · obtain ⟨a, sg, rfl, hok, hp⟩ := hT
    exact ⟨by simp [zz_cat], by simp⟩
  · intro D DA h as post hT p e s m args below meth c Q C hr hlk hnm hQ
    obtain ⟨a, sg, rfl, hok, hp⟩ := hT
    have lp2 : ∀ n i, n + i = or_s h a → (∀ j, j < i → zz_aR h (or_n h a) j ≠ sg) → zz_Z p l e { frames := 1, cells := 0, slots := 0, locals := 12 } s m args below meth c Q D DA (zz_A h s.heap.size) h 3 2 [some (zz_r 5 (some a)), some (zz_r 2 sg), some (zz_i (nI i))] [] h 0 0 := by
      intro n
      induction n with
      | zero =>
        intro i hni hall
        have hi : i = or_s h a := by omega
        subst hi
        have hb := hok.1.2.2.2.2.2.1
        refine zz_iload_n (q := 3) (f := 2) (i := 2) C (by decide +kernel) rfl rfl rfl ?_
        refine zz_aload_n (q := 4) (f := 0) (i := 0) C (by decide +kernel) rfl rfl rfl ?_
        refine zz_getI (q := 7) C gf_O_35 (by decide +kernel) rfl rfl hok.1.2.2.2.2.2.2 ?_
        refine zz_icmp_ge (off := 21) (tgt := 28) (q := 10) C (by decide +kernel) (by decide) rfl (fun c7 => ?_) (fun c7 => absurd (nI_le (Nat.le_refl _) (by omega)) c7)
        refine zz_aload_n (q := 29) (f := 0) (i := 0) C (by decide +kernel) rfl rfl rfl ?_
        refine zz_getI (q := 32) C gf_O_35 (by decide +kernel) rfl rfl hok.1.2.2.2.2.2.2 ?_
        exact zz_iret C hr hlk (by decide +kernel) hQ (by decide) (by decide) (hp _ (Nat.le_refl _) hall (fun z => absurd z (by omega)))
      | succ n ih =>
        intro i hni hall
        have hb := hok.1.2.2.2.2.2.1
        have hi : i < or_s h a := by omega
        refine zz_iload_n (q := 3) (f := 2) (i := 2) C (by decide +kernel) rfl rfl rfl ?_
        refine zz_aload_n (q := 4) (f := 0) (i := 0) C (by decide +kernel) rfl rfl rfl ?_
        refine zz_getI (q := 7) C gf_O_35 (by decide +kernel) rfl (by first | rfl | assumption) hok.1.2.2.2.2.2.2 ?_
        refine zz_icmp_ge (off := 21) (tgt := 28) (q := 10) C (by decide +kernel) (by decide) rfl (fun c7 => ?_) (fun c7 => ?_)
        · refine zz_aload_n (q := 29) (f := 0) (i := 0) C (by decide +kernel) rfl rfl rfl ?_
          refine zz_getI (q := 32) C gf_O_35 (by decide +kernel) rfl (by first | rfl | assumption) rfl ?_
          refine zz_iret C hr hlk (by decide +kernel) hQ (by decide) (by decide) ?_
          exact absurd c7 (nI_ge hi (by omega))
        · refine zz_aload_n (q := 11) (f := 0) (i := 0) C (by decide +kernel) rfl rfl rfl ?_
          refine zz_getR (q := 14) C gf_O_17 (by decide +kernel) rfl (by first | rfl | assumption) hok.1.2.1 ?_
          refine zz_iload_n (q := 15) (f := 2) (i := 2) C (by decide +kernel) rfl rfl rfl ?_
          refine zz_aaload (q := 16) C 4 rfl (by decide) (by decide +kernel) rfl rfl hok.1.2.2.2.1 rfl (by have := hok.1.2.2.2.2.2.1; omega) (by decide) rfl ?_
          refine zz_aload_n (q := 17) (f := 1) (i := 1) C (by decide +kernel) rfl rfl rfl ?_
          refine zz_acmp_ne (off := 5) (tgt := 22) (q := 20) C (by decide +kernel) (by decide) rfl (fun c17 => ?_) (fun c17 => ?_)
          · refine zz_iinc (q := 25) (i := 2) (n := 1) C (by decide +kernel) rfl rfl (nI_succ _).symm (by decide) rfl ?_
            refine zz_goto (off := -23) (tgt := 2) C (by decide +kernel) (by decide) ?_
            -- AT 2
            refine ih (i + 1) (by omega) (fun j hj => ?_)
            rcases Nat.lt_succ_iff_lt_or_eq.mp hj with hj | rfl
            · exact hall j hj
            · exact c17
          · refine zz_iload_n (q := 21) (f := 2) (i := 2) C (by decide +kernel) rfl rfl rfl ?_
            refine zz_iret C hr hlk (by decide +kernel) hQ (by decide) (by decide) ?_
            exact hp i (by omega) hall (fun _ => c17)
    refine zz_iconst (q := 1) (n := 0) (x := 0) C (by decide +kernel) rfl (by decide +kernel) ?_
    refine zz_istore_n (q := 2) (f := 2) (i := 2) C (by decide +kernel) rfl rfl (by decide) rfl ?_
    -- AT 2
    exact lp2 (or_s h a) 0 rfl (fun j hj => absurd hj (by omega))

def T_O_withNumber : zz_Tr := fun as h post => ∃ a num, as = [zz_r 5 (some a), zz_i num] ∧ or_okN h a ∧ ∀ r, or_first (or_s h a) 0 (fun i => zz_fI h 2 0 (or_N h a i) = num) (or_N h a) r → post (some (zz_r 2 r)) h
set_option maxRecDepth 100000 in
set_option maxHeartbeats 4000000 in
theorem m_O_withNumber (l : Launch) : zz_Met l y_O_withNumber w_O_withNumber { frames := 1, cells := 0, slots := 0, locals := 12 } T_O_withNumber := by
  refine zz_ofZ (by decide) (fun as h post hT => ?_) ?_
  · obtain ⟨a, num, rfl, hok, hp⟩ := hT
    exact ⟨by simp [zz_cat], by simp⟩
  · intro D DA h as post hT p e s m args below meth c Q C hr hlk hnm hQ
    obtain ⟨a, num, rfl, hok, hp⟩ := hT
    have lp2 : ∀ n i, n + i = or_s h a → (∀ j, 0 ≤ j → j < i → ¬ zz_fI h 2 0 (or_N h a j) = num) → zz_Z p l e { frames := 1, cells := 0, slots := 0, locals := 12 } s m args below meth c Q D DA (zz_A h s.heap.size) h 3 2 [some (zz_r 5 (some a)), some (zz_i num), some (zz_i (nI i))] [] h 0 0 := by
      intro n
      induction n with
      | zero =>
        intro i hni hall
        have hi : i = or_s h a := by omega
        subst hi
        have hb := hok.1.2.2.2.2.2.1
        refine zz_iload_n (q := 3) (f := 2) (i := 2) C (by decide +kernel) rfl rfl rfl ?_
        refine zz_aload_n (q := 4) (f := 0) (i := 0) C (by decide +kernel) rfl rfl rfl ?_
        refine zz_getI (q := 7) C gf_O_35 (by decide +kernel) rfl rfl hok.1.2.2.2.2.2.2 ?_
        refine zz_icmp_ge (off := 29) (tgt := 36) (q := 10) C (by decide +kernel) (by decide) rfl (fun c7 => ?_) (fun c7 => absurd (nI_le (Nat.le_refl _) (by omega)) c7)
        refine zz_null (q := 37) C 2 (by decide +kernel) rfl ?_
        exact zz_aret C hr (Or.inl ⟨_, rfl⟩) hlk (by decide +kernel) hQ (by decide) (by decide) (hp _ (Or.inl ⟨rfl, hall⟩))
      | succ n ih =>
        intro i hni hall
        have hb := hok.1.2.2.2.2.2.1
        have hi : i < or_s h a := by omega
        refine zz_iload_n (q := 3) (f := 2) (i := 2) C (by decide +kernel) rfl rfl rfl ?_
        refine zz_aload_n (q := 4) (f := 0) (i := 0) C (by decide +kernel) rfl rfl rfl ?_
        refine zz_getI (q := 7) C gf_O_35 (by decide +kernel) rfl (by first | rfl | assumption) hok.1.2.2.2.2.2.2 ?_
        refine zz_icmp_ge (off := 29) (tgt := 36) (q := 10) C (by decide +kernel) (by decide) rfl (fun c7 => ?_) (fun c7 => ?_)
        · refine zz_null (q := 37) C 2 (by decide +kernel) rfl ?_
          refine zz_aret C hr (Or.inl ⟨_, rfl⟩) hlk (by decide +kernel) hQ (by decide) (by decide) ?_
          exact absurd c7 (nI_ge hi (by omega))
        · refine zz_aload_n (q := 11) (f := 0) (i := 0) C (by decide +kernel) rfl rfl rfl ?_
          refine zz_getR (q := 14) C gf_O_17 (by decide +kernel) rfl (by first | rfl | assumption) hok.1.2.1 ?_
          refine zz_iload_n (q := 15) (f := 2) (i := 2) C (by decide +kernel) rfl rfl rfl ?_
          refine zz_aaload (q := 16) C 4 rfl (by decide) (by decide +kernel) rfl rfl hok.1.2.2.2.1 rfl (by have := hok.1.2.2.2.2.2.1; omega) (by decide) (hok.2 i hi) ?_
          refine zz_getI (q := 19) C gf_O_38 (by decide +kernel) rfl (by first | rfl | assumption) rfl ?_
          refine zz_iload_n (q := 20) (f := 1) (i := 1) C (by decide +kernel) rfl rfl rfl ?_
          refine zz_icmp_ne (off := 10) (tgt := 30) (q := 23) C (by decide +kernel) (by decide) rfl (fun c20 => ?_) (fun c20 => ?_)
          · refine zz_iinc (q := 33) (i := 2) (n := 1) C (by decide +kernel) rfl rfl (nI_succ _).symm (by decide) rfl ?_
            refine zz_goto (off := -31) (tgt := 2) C (by decide +kernel) (by decide) ?_
            -- AT 2
            exact ih (i + 1) (by omega) (or_next hall c20)
          · refine zz_aload_n (q := 24) (f := 0) (i := 0) C (by decide +kernel) rfl rfl rfl ?_
            refine zz_getR (q := 27) C gf_O_17 (by decide +kernel) rfl (by first | rfl | assumption) hok.1.2.1 ?_
            refine zz_iload_n (q := 28) (f := 2) (i := 2) C (by decide +kernel) rfl rfl rfl ?_
            refine zz_aaload (q := 29) C 4 rfl (by decide) (by decide +kernel) rfl rfl hok.1.2.2.2.1 rfl (by have := hok.1.2.2.2.2.2.1; omega) (by decide) (hok.2 i hi) ?_
            refine zz_aret C hr (Or.inl ⟨_, rfl⟩) hlk (by decide +kernel) hQ (by decide) (by decide) ?_
            exact hp _ (Or.inr ⟨i, Nat.zero_le _, hi, c20, hall, rfl⟩)
    refine zz_iconst (q := 1) (n := 0) (x := 0) C (by decide +kernel) rfl (by decide +kernel) ?_
    refine zz_istore_n (q := 2) (f := 2) (i := 2) C (by decide +kernel) rfl rfl (by decide) rfl ?_
    -- AT 2
    exact lp2 (or_s h a) 0 rfl (fun j _ hj => absurd hj (by omega))

def or_pm (h : zz_H) (a q : Nat) (top : Option Nat) (i : Nat) : Prop := (∀ t, top = some t → or_N h a i ≠ t ∧ sg_at h (sg_lv h t) (or_N h a i) = some t) ∧ pa_met h q (or_N h a i)
def T_O_firstThatMeets : zz_Tr := fun as h post => ∃ a q f top, as = [zz_r 5 (some a), zz_r 4 (some q), zz_i (nI f), zz_r 2 top] ∧ f ≤ 61 ∧ or_okN h a ∧ pa_ok h q ∧ sg_wf h ∧ ∀ r, or_first (or_s h a) f (or_pm h a q top) (or_N h a) r → post (some (zz_r 2 r)) h
set_option maxRecDepth 100000 in
set_option maxHeartbeats 4000000 in
theorem m_O_firstThatMeets (l : Launch) : zz_Met l y_O_firstThatMeets w_O_firstThatMeets { frames := 5, cells := 0, slots := 0, locals := 102 } T_O_firstThatMeets := by
  refine zz_ofZ (by decide) (fun as h post hT => ?_) ?_
  · obtain ⟨a, q, f, top, rfl, hf, hok, hpa, hwf, hp⟩ := hT
    exact ⟨by simp [zz_cat], by simp⟩
  · intro D DA h as post hT p e s m args below meth c Q C hr hlk hnm hQ
    obtain ⟨a, q, f, top, rfl, hf, hok, hpa, hwf, hp⟩ := hT
    have lp3 : ∀ n i, or_s h a - i ≤ n → f ≤ i → i ≤ 61 → (∀ j, f ≤ j → j < i → ¬ or_pm h a q top j) → zz_Z p l e { frames := 5, cells := 0, slots := 0, locals := 102 } s m args below meth c Q D DA (zz_A h s.heap.size) h 5 3 [some (zz_r 5 (some a)), some (zz_r 4 (some q)), some (zz_i (nI f)), some (zz_r 2 top), some (zz_i (nI i))] [] h 0 0 := by
      intro n
      induction n with
      | zero =>
        intro i hni hfi hi61 hall
        have hge : or_s h a ≤ i := by omega
        refine zz_iload (q := 5) (i := 4) C (by decide +kernel) rfl rfl ?_
        refine zz_aload_n (q := 6) (f := 0) (i := 0) C (by decide +kernel) rfl rfl rfl ?_
        refine zz_getI (q := 9) C gf_O_35 (by decide +kernel) rfl rfl hok.1.2.2.2.2.2.2 ?_
        refine zz_icmp_ge (off := 49) (tgt := 58) (q := 12) C (by decide +kernel) (by decide) rfl (fun c9 => ?_) (fun c9 => absurd (nI_le hge (by omega)) c9)
        refine zz_null (q := 59) C 2 (by decide +kernel) rfl ?_
        exact zz_aret C hr (Or.inl ⟨_, rfl⟩) hlk (by decide +kernel) hQ (by decide) (by decide) (hp _ (Or.inl ⟨rfl, fun j h1 h2 => hall j h1 (by omega)⟩))
      | succ n ih =>
        intro i hni hfi hi61 hall
        have hb := hok.1.2.2.2.2.2.1
        refine zz_iload (q := 5) (i := 4) C (by decide +kernel) rfl rfl ?_
        refine zz_aload_n (q := 6) (f := 0) (i := 0) C (by decide +kernel) rfl rfl rfl ?_
        refine zz_getI (q := 9) C gf_O_35 (by decide +kernel) rfl (by first | rfl | assumption) hok.1.2.2.2.2.2.2 ?_
        refine zz_icmp_ge (off := 49) (tgt := 58) (q := 12) C (by decide +kernel) (by decide) rfl (fun c9 => ?_) (fun c9 => ?_)
        · refine zz_null (q := 59) C 2 (by decide +kernel) rfl ?_
          refine zz_aret C hr (Or.inl ⟨_, rfl⟩) hlk (by decide +kernel) hQ (by decide) (by decide) ?_
          exact hp _ (Or.inl ⟨rfl, fun j h1 h2 => hall j h1 (by have := (nI_leI (a := or_s h a) (b := i) (by omega) (by omega)).mp c9; omega)⟩)
        · have hi : i < or_s h a := Nat.lt_of_not_le (fun z => c9 (nI_le z (by omega)))
          refine zz_aload_n (q := 13) (f := 3) (i := 3) C (by decide +kernel) rfl rfl rfl ?_
          refine zz_ifnull (off := 17) (tgt := 30) (q := 16) C (by decide +kernel) (by decide) rfl (fun c13 => ?_) (fun a13 c13 => ?_)
          · refine zz_aload_n (q := 31) (f := 1) (i := 1) C (by decide +kernel) rfl rfl rfl ?_
            refine zz_aload_n (q := 32) (f := 0) (i := 0) C (by decide +kernel) rfl rfl rfl ?_
            refine zz_getR (q := 35) C gf_O_17 (by decide +kernel) rfl (by first | rfl | assumption) hok.1.2.1 ?_
            refine zz_iload (q := 37) (i := 4) C (by decide +kernel) rfl rfl ?_
            refine zz_aaload (q := 38) C 4 rfl (by decide) (by decide +kernel) rfl rfl hok.1.2.2.2.1 rfl (by have := hok.1.2.2.2.2.2.1; omega) (by decide) (hok.2 i hi) ?_
            refine zz_callV (q := 41) C (m_P_isMetBy l) cv_O_45 (by decide +kernel) rfl rfl rfl (by first | rfl | assumption) (by decide) (by decide) (Nat.le_of_ble_eq_true rfl) ⟨_, _, rfl, hpa, hwf, ?_⟩
            refine zz_if_eq (off := 11) (tgt := 52) (q := 44) C (by decide +kernel) (by decide) rfl (fun c41 => ?_) (fun c41 => ?_)
            · refine zz_iinc (q := 55) (i := 4) (n := 1) C (by decide +kernel) rfl rfl (nI_succ _).symm (by decide) rfl ?_
              refine zz_goto (off := -52) (tgt := 3) C (by decide +kernel) (by decide) ?_
              -- AT 3
              refine ih (i + 1) (by omega) (by omega) (by omega) (or_next hall (fun z => ?_))
              first | exact zz_b_f c41 z.2 | exact zz_b_f c27 (z.1 a13 c13)
            · refine zz_aload_n (q := 45) (f := 0) (i := 0) C (by decide +kernel) rfl rfl rfl ?_
              refine zz_getR (q := 48) C gf_O_17 (by decide +kernel) rfl (by first | rfl | assumption) hok.1.2.1 ?_
              refine zz_iload (q := 50) (i := 4) C (by decide +kernel) rfl rfl ?_
              refine zz_aaload (q := 51) C 4 rfl (by decide) (by decide +kernel) rfl rfl hok.1.2.2.2.1 rfl (by have := hok.1.2.2.2.2.2.1; omega) (by decide) (hok.2 i hi) ?_
              refine zz_aret C hr (Or.inl ⟨_, rfl⟩) hlk (by decide +kernel) hQ (by decide) (by decide) ?_
              first | exact hp _ (Or.inr ⟨i, hfi, hi, ⟨fun t ht => (by rw [c13] at ht; cases ht; exact zz_b_t c27), zz_b_t c41⟩, hall, rfl⟩) | exact hp _ (Or.inr ⟨i, hfi, hi, ⟨fun t ht => (by rw [c13] at ht; cases ht), zz_b_t c41⟩, hall, rfl⟩)
          · refine zz_aload_n (q := 17) (f := 0) (i := 0) C (by decide +kernel) rfl rfl rfl ?_
            refine zz_getR (q := 20) C gf_O_17 (by decide +kernel) rfl (by first | rfl | assumption) hok.1.2.1 ?_
            refine zz_iload (q := 22) (i := 4) C (by decide +kernel) rfl rfl ?_
            refine zz_aaload (q := 23) C 4 rfl (by decide) (by decide +kernel) rfl rfl hok.1.2.2.2.1 rfl (by have := hok.1.2.2.2.2.2.1; omega) (by decide) (hok.2 i hi) ?_
            refine zz_aload_n (q := 24) (f := 3) (i := 3) C (by decide +kernel) rfl rfl rfl ?_
            refine zz_callV (q := 27) C (m_S_isBelow l) cv_O_41 (by decide +kernel) rfl rfl rfl (by first | rfl | assumption) (by decide) (by decide) (Nat.le_of_ble_eq_true rfl) ⟨_, _, by rw [c13], hwf, ?_⟩
            refine zz_if_eq (off := 25) (tgt := 52) (q := 30) C (by decide +kernel) (by decide) rfl (fun c27 => ?_) (fun c27 => ?_)
            · refine zz_iinc (q := 55) (i := 4) (n := 1) C (by decide +kernel) rfl rfl (nI_succ _).symm (by decide) rfl ?_
              refine zz_goto (off := -52) (tgt := 3) C (by decide +kernel) (by decide) ?_
              -- AT 3
              refine ih (i + 1) (by omega) (by omega) (by omega) (or_next hall (fun z => ?_))
              first | exact zz_b_f c41 z.2 | exact zz_b_f c27 (z.1 a13 c13)
            · refine zz_aload_n (q := 31) (f := 1) (i := 1) C (by decide +kernel) rfl rfl rfl ?_
              refine zz_aload_n (q := 32) (f := 0) (i := 0) C (by decide +kernel) rfl rfl rfl ?_
              refine zz_getR (q := 35) C gf_O_17 (by decide +kernel) rfl (by first | rfl | assumption) hok.1.2.1 ?_
              refine zz_iload (q := 37) (i := 4) C (by decide +kernel) rfl rfl ?_
              refine zz_aaload (q := 38) C 4 rfl (by decide) (by decide +kernel) rfl rfl hok.1.2.2.2.1 rfl (by have := hok.1.2.2.2.2.2.1; omega) (by decide) (hok.2 i hi) ?_
              refine zz_callV (q := 41) C (m_P_isMetBy l) cv_O_45 (by decide +kernel) rfl rfl rfl (by first | rfl | assumption) (by decide) (by decide) (Nat.le_of_ble_eq_true rfl) ⟨_, _, rfl, hpa, hwf, ?_⟩
              refine zz_if_eq (off := 11) (tgt := 52) (q := 44) C (by decide +kernel) (by decide) rfl (fun c41 => ?_) (fun c41 => ?_)
              · refine zz_iinc (q := 55) (i := 4) (n := 1) C (by decide +kernel) rfl rfl (nI_succ _).symm (by decide) rfl ?_
                refine zz_goto (off := -52) (tgt := 3) C (by decide +kernel) (by decide) ?_
                -- AT 3
                refine ih (i + 1) (by omega) (by omega) (by omega) (or_next hall (fun z => ?_))
                first | exact zz_b_f c41 z.2 | exact zz_b_f c27 (z.1 a13 c13)
              · refine zz_aload_n (q := 45) (f := 0) (i := 0) C (by decide +kernel) rfl rfl rfl ?_
                refine zz_getR (q := 48) C gf_O_17 (by decide +kernel) rfl (by first | rfl | assumption) hok.1.2.1 ?_
                refine zz_iload (q := 50) (i := 4) C (by decide +kernel) rfl rfl ?_
                refine zz_aaload (q := 51) C 4 rfl (by decide) (by decide +kernel) rfl rfl hok.1.2.2.2.1 rfl (by have := hok.1.2.2.2.2.2.1; omega) (by decide) (hok.2 i hi) ?_
                refine zz_aret C hr (Or.inl ⟨_, rfl⟩) hlk (by decide +kernel) hQ (by decide) (by decide) ?_
                first | exact hp _ (Or.inr ⟨i, hfi, hi, ⟨fun t ht => (by rw [c13] at ht; cases ht; exact zz_b_t c27), zz_b_t c41⟩, hall, rfl⟩) | exact hp _ (Or.inr ⟨i, hfi, hi, ⟨fun t ht => (by rw [c13] at ht; cases ht), zz_b_t c41⟩, hall, rfl⟩)
    refine zz_iload_n (q := 1) (f := 2) (i := 2) C (by decide +kernel) rfl rfl rfl ?_
    refine zz_istore (q := 3) (i := 4) C (by decide +kernel) rfl (by decide) rfl ?_
    -- AT 3
    exact lp3 (or_s h a - f) f (Nat.le_refl _) (Nat.le_refl _) hf (fun j h1 h2 => absurd h1 (by omega))

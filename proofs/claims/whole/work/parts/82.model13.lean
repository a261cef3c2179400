/-! the reference: words put, the path cleared, what is taken -/
def mo_pw (h : zz_H) (r s i : Nat) : zz_H := mo_rx h (fun b j => if b = mf h r 18 ∧ 4 * s ≤ j ∧ j < 4 * s + i then zz_aI h (mf h r 27) (j - 4 * s) else zz_aI h b j)
theorem mo_pw_0 (h : zz_H) (r s : Nat) : mo_pw h r s 0 = h := by
  have e : (fun b j => if b = mf h r 18 ∧ 4 * s ≤ j ∧ j < 4 * s + 0 then zz_aI h (mf h r 27) (j - 4 * s) else zz_aI h b j) = zz_aI h := by
    funext b j
    rw [if_neg (by omega)]
  rw [mo_pw, e]; rfl
theorem mo_pw_a {h : zz_H} {r j : Nat} (hap : mo_ap h r) (h1 : mo_sz j ≠ none) (h2 : j ≠ 18) (s i k : Nat) : zz_aI (mo_pw h r s i) (mf h r j) k = zz_aI h (mf h r j) k := by
  show (if mf h r j = mf h r 18 ∧ 4 * s ≤ k ∧ k < 4 * s + i then zz_aI h (mf h r 27) (k - 4 * s) else zz_aI h (mf h r j) k) = _
  rw [if_neg (fun z => hap j 18 h1 (by decide) h2 z.1)]
theorem mo_pw_s (h : zz_H) (r s i : Nat) : zz_sI (mo_pw h r s i) (mf h r 18) (4 * s + i) (zz_aI h (mf h r 27) i) = mo_pw h r s (i + 1) := by
  show mo_rx h _ = mo_rx h _
  congr 1
  funext b j
  show (if b = mf h r 18 ∧ j = 4 * s + i then zz_aI h (mf h r 27) i else if b = mf h r 18 ∧ 4 * s ≤ j ∧ j < 4 * s + i then zz_aI h (mf h r 27) (j - 4 * s) else zz_aI h b j) = _
  by_cases h1 : b = mf h r 18 ∧ j = 4 * s + i
  · rw [if_pos h1, if_pos ⟨h1.1, by omega, by omega⟩, h1.2]
    congr 1
    omega
  · rw [if_neg h1]
    by_cases h2 : b = mf h r 18 ∧ 4 * s ≤ j ∧ j < 4 * s + i
    · rw [if_pos h2, if_pos ⟨h2.1, h2.2.1, by omega⟩]
    · rw [if_neg h2, if_neg (fun z => h2 ⟨z.1, z.2.1, by have := fun w => h1 ⟨z.1, w⟩; omega⟩)]
def mo_cl (h : zz_H) (r k : Nat) : zz_H := mo_rx h (fun b j => if b = mf h r 22 ∧ j < k then -1 else if b = mf h r 23 ∧ j < k then 0 else zz_aI h b j)
theorem mo_cl_0 (h : zz_H) (r : Nat) : mo_cl h r 0 = h := by
  have e : (fun b j => if b = mf h r 22 ∧ j < 0 then (-1 : Int32) else if b = mf h r 23 ∧ j < 0 then 0 else zz_aI h b j) = zz_aI h := by
    funext b j
    rw [if_neg (by omega), if_neg (by omega)]
  rw [mo_cl, e]; rfl
theorem mo_cl_s {h : zz_H} {r : Nat} (hap : mo_ap h r) (k : Nat) : zz_sI (zz_sI (mo_cl h r k) (mf h r 22) k (-1)) (mf h r 23) k 0 = mo_cl h r (k + 1) := by
  have hne : mf h r 22 ≠ mf h r 23 := hap 22 23 (by decide) (by decide) (by decide)
  show mo_rx h _ = mo_rx h _
  congr 1
  funext b j
  show (if b = mf h r 23 ∧ j = k then 0 else if b = mf h r 22 ∧ j = k then -1 else if b = mf h r 22 ∧ j < k then -1 else if b = mf h r 23 ∧ j < k then 0 else zz_aI h b j) = (if b = mf h r 22 ∧ j < k + 1 then -1 else if b = mf h r 23 ∧ j < k + 1 then 0 else zz_aI h b j)
  by_cases h1 : b = mf h r 22
  · have h2 : b ≠ mf h r 23 := fun z => hne (h1.symm.trans z)
    by_cases h3 : j = k
    · rw [if_neg (fun z => h2 z.1), if_pos ⟨h1, h3⟩, if_pos ⟨h1, by omega⟩]
    · by_cases h4 : j < k
      · rw [if_neg (fun z => h2 z.1), if_neg (fun z => h3 z.2), if_pos ⟨h1, h4⟩, if_pos ⟨h1, by omega⟩]
      · rw [if_neg (fun z => h2 z.1), if_neg (fun z => h3 z.2), if_neg (fun z => h4 z.2), if_neg (fun z => h2 z.1), if_neg (fun z => by have := z.2; omega), if_neg (fun z => h2 z.1)]
  · by_cases h2 : b = mf h r 23
    · by_cases h3 : j = k
      · rw [if_pos ⟨h2, h3⟩, if_neg (fun z => h1 z.1), if_pos ⟨h2, by omega⟩]
      · by_cases h4 : j < k
        · rw [if_neg (fun z => h3 z.2), if_neg (fun z => h1 z.1), if_neg (fun z => h1 z.1), if_pos ⟨h2, h4⟩, if_neg (fun z => h1 z.1), if_pos ⟨h2, by omega⟩]
        · rw [if_neg (fun z => h3 z.2), if_neg (fun z => h1 z.1), if_neg (fun z => h1 z.1), if_neg (fun z => h4 z.2), if_neg (fun z => h1 z.1), if_neg (fun z => by have := z.2; omega)]
    · rw [if_neg (fun z => h2 z.1), if_neg (fun z => h1 z.1), if_neg (fun z => h1 z.1), if_neg (fun z => h2 z.1), if_neg (fun z => h1 z.1), if_neg (fun z => h2 z.1)]
def mQs (h : zz_H) (r t : Nat) : Nat := (ma h r 5 t).toNatClampNeg
def mTk (h : zz_H) (r t : Nat) (pv : Int32) (s : Nat) : Prop := 0 < ma h r 14 s ∧ ma h r 15 s = nI t ∧ ma h r 16 s = pv ∧ ma h r 18 (4 * s + mQs h r t) = ma h r 27 (mQs h r t)
def mo_qs (h : zz_H) (r t : Nat) : Prop := ma h r 5 t = -1 ∨ (ma h r 5 t = nI (mQs h r t) ∧ mQs h r t < 4)
theorem or_next0 {P : Nat → Prop} {i : Nat} (h : ∀ j, j < i → ¬ P j) (hi : ¬ P i) : ∀ j, j < i + 1 → ¬ P j := fun j hj => by
  rcases Nat.lt_succ_iff_lt_or_eq.mp hj with hj | rfl
  · exact h j hj
  · exact hi
def T_M_putWords : zz_Tr := fun as h post => ∃ r s9 n9, as = [zz_r 7 (some r), zz_i (nI s9)] ∧ mo_ok h r ∧ mo_ap h r ∧ s9 < 60 ∧ ma h r 15 s9 = nI (mK h r s9) ∧ mK h r s9 < 8 ∧ ma h r 4 (mK h r s9) = nI n9 ∧ n9 ≤ 4 ∧ post none (mo_pw h r s9 n9)
set_option maxRecDepth 100000 in
set_option maxHeartbeats 4000000 in
theorem m_M_putWords (l : Launch) : zz_Met l y_M_putWords w_M_putWords { frames := 1, cells := 0, slots := 0, locals := 12 } T_M_putWords := by
  refine zz_ofZ (by decide) (fun as h post hT => ?_) ?_
  · obtain ⟨r, s9, n9, rfl, hok, hap, hs60, e1, e2, e3, hn4, hp⟩ := hT
    exact ⟨by simp [zz_cat], by simp⟩
  · intro D DA h as post hT p e s m args below meth c Q C hr hlk hnm hQ
    obtain ⟨r, s9, n9, rfl, hok, hap, hs60, e1, e2, e3, hn4, hp⟩ := hT
    have lp2 : ∀ n i, n9 + 1 ≤ n + i → i ≤ n9 → zz_Z p l e { frames := 1, cells := 0, slots := 0, locals := 12 } s m args below meth c Q D DA (zz_A h s.heap.size) h 3 2 [some (zz_r 7 (some r)), some (zz_i (nI s9)), some (zz_i (nI i))] [] (mo_pw h r s9 i) 0 0 := by
      intro n
      induction n with
      | zero =>
        intro i hn hi
        exact absurd hn (by omega)
      | succ n ih =>
        intro i hn hile
        refine zz_iload_n (q := 3) (f := 2) (i := 2) C (by decide +kernel) rfl rfl rfl ?_
        refine zz_aload_n (q := 4) (f := 0) (i := 0) C (by decide +kernel) rfl rfl rfl ?_
        refine zz_getR (q := 7) C gf_M_20 (by decide +kernel) rfl (by first | rfl | assumption) (hok 4 90 8 rfl).1 ?_
        refine zz_aload_n (q := 8) (f := 0) (i := 0) C (by decide +kernel) rfl rfl rfl ?_
        refine zz_getR (q := 11) C gf_M_42 (by decide +kernel) rfl (by first | rfl | assumption) (hok 15 90 60 rfl).1 ?_
        refine zz_iload_n (q := 12) (f := 1) (i := 1) C (by decide +kernel) rfl rfl rfl ?_
        refine zz_iaload (q := 13) C (by decide +kernel) rfl rfl (hok 15 90 60 rfl).2 rfl (by omega) (by decide) ((mo_pw_a hap (by decide) (by decide) _ _ _).trans e1) ?_
        refine zz_iaload (q := 14) C (by decide +kernel) rfl rfl (hok 4 90 8 rfl).2 rfl e2 (by decide) ((mo_pw_a hap (by decide) (by decide) _ _ _).trans e3) ?_
        refine zz_icmp_ge (off := 25) (tgt := 39) (q := 17) C (by decide +kernel) (by decide) rfl (fun c14 => ?_) (fun c14 => ?_)
        · refine zz_vret C hr hlk (by decide +kernel) hQ (by decide) (by decide) ?_
          have he : i = n9 := by
            have := (nI_leI (a := n9) (b := i) (by omega) (by omega)).mp c14
            omega
          rw [he]; exact hp
        · have hi : i < n9 := Nat.lt_of_not_le (fun z => c14 (nI_le z (by omega)))
          refine zz_aload_n (q := 18) (f := 0) (i := 0) C (by decide +kernel) rfl rfl rfl ?_
          refine zz_getR (q := 21) C gf_M_51 (by decide +kernel) rfl (by first | rfl | assumption) (hok 18 90 240 rfl).1 ?_
          refine zz_iconst (q := 22) (n := 4) (x := 4) C (by decide +kernel) rfl (by decide +kernel) ?_
          refine zz_iload_n (q := 23) (f := 1) (i := 1) C (by decide +kernel) rfl rfl rfl ?_
          refine zz_imul (q := 24) C (by decide +kernel) rfl (nI_mul9 4 _) ?_
          refine zz_iload_n (q := 25) (f := 2) (i := 2) C (by decide +kernel) rfl rfl rfl ?_
          refine zz_iadd (q := 26) C (by decide +kernel) rfl (nI_add _ _) ?_
          refine zz_aload_n (q := 27) (f := 0) (i := 0) C (by decide +kernel) rfl rfl rfl ?_
          refine zz_getR (q := 30) C gf_M_79 (by decide +kernel) rfl (by first | rfl | assumption) (hok 27 90 4 rfl).1 ?_
          refine zz_iload_n (q := 31) (f := 2) (i := 2) C (by decide +kernel) rfl rfl rfl ?_
          refine zz_iaload (q := 32) C (by decide +kernel) rfl rfl (hok 27 90 4 rfl).2 rfl (by omega) (by decide) (mo_pw_a hap (by decide) (by decide) _ _ _) ?_
          refine zz_iastore (q := 33) C (by decide +kernel) rfl rfl (hok 18 90 240 rfl).2 rfl (by omega) (by decide) ?_
          rw [mo_pw_s]
          refine zz_iinc (q := 36) (i := 2) (n := 1) C (by decide +kernel) rfl rfl (nI_1 _) (by decide) rfl ?_
          refine zz_goto (off := -34) (tgt := 2) C (by decide +kernel) (by decide) ?_
          -- AT 2
          exact ih (i + 1) (by omega) (by omega)
    refine zz_iconst (q := 1) (n := 0) (x := 0) C (by decide +kernel) rfl (by decide +kernel) ?_
    refine zz_istore_n (q := 2) (f := 2) (i := 2) C (by decide +kernel) rfl rfl (by decide) rfl ?_
    -- AT 2
    have l9 := lp2 (n9 + 1) 0 (by omega) (by omega)
    rw [mo_pw_0] at l9
    exact l9

def T_M_clearPath : zz_Tr := fun as h post => ∃ r, as = [zz_r 7 (some r)] ∧ mo_ok h r ∧ mo_ap h r ∧ post none (mo_cl (mo_bg h r) r 5)
set_option maxRecDepth 100000 in
set_option maxHeartbeats 4000000 in
theorem m_M_clearPath (l : Launch) : zz_Met l y_M_clearPath w_M_clearPath { frames := 2, cells := 0, slots := 0, locals := 32 } T_M_clearPath := by
  refine zz_ofZ (by decide) (fun as h post hT => ?_) ?_
  · obtain ⟨r, rfl, hok, hap, hp⟩ := hT
    exact ⟨by simp [zz_cat], by simp⟩
  · intro D DA h as post hT p e s m args below meth c Q C hr hlk hnm hQ
    obtain ⟨r, rfl, hok, hap, hp⟩ := hT
    have lp6 : ∀ n i, 6 ≤ n + i → i ≤ 5 → zz_Z p l e { frames := 2, cells := 0, slots := 0, locals := 32 } s m args below meth c Q D DA (zz_A h s.heap.size) h 2 6 [some (zz_r 7 (some r)), some (zz_i (nI i))] [] (mo_cl (mo_bg h r) r i) 0 0 := by
      intro n
      induction n with
      | zero =>
        intro i hn hi
        exact absurd hn (by omega)
      | succ n ih =>
        intro i hn hile
        refine zz_iload_n (q := 7) (f := 1) (i := 1) C (by decide +kernel) rfl rfl rfl ?_
        refine zz_iconst (q := 8) (n := 5) (x := 5) C (by decide +kernel) rfl (by decide +kernel) ?_
        refine zz_icmp_ge (off := 23) (tgt := 31) (q := 11) C (by decide +kernel) (by decide) rfl (fun c8 => ?_) (fun c8 => ?_)
        · refine zz_vret C hr hlk (by decide +kernel) hQ (by decide) (by decide) ?_
          have he : i = 5 := by
            have := (nI_leI (a := 5) (b := i) (by omega) (by omega)).mp c8
            omega
          rw [he]; exact hp
        · have hi : i < 5 := Nat.lt_of_not_le (fun z => c8 (nI_le z (by omega)))
          refine zz_aload_n (q := 12) (f := 0) (i := 0) C (by decide +kernel) rfl rfl rfl ?_
          refine zz_getR (q := 15) C gf_M_64 (by decide +kernel) rfl (by first | rfl | assumption) (hok 22 90 5 rfl).1 ?_
          refine zz_iload_n (q := 16) (f := 1) (i := 1) C (by decide +kernel) rfl rfl rfl ?_
          refine zz_iconst (q := 17) (n := -1) (x := (-1)) C (by decide +kernel) rfl (by decide +kernel) ?_
          refine zz_iastore (q := 18) C (by decide +kernel) rfl rfl (hok 22 90 5 rfl).2 rfl (by omega) (by decide) ?_
          refine zz_aload_n (q := 19) (f := 0) (i := 0) C (by decide +kernel) rfl rfl rfl ?_
          refine zz_getR (q := 22) C gf_M_67 (by decide +kernel) rfl (by first | rfl | assumption) (hok 23 90 5 rfl).1 ?_
          refine zz_iload_n (q := 23) (f := 1) (i := 1) C (by decide +kernel) rfl rfl rfl ?_
          refine zz_iconst (q := 24) (n := 0) (x := 0) C (by decide +kernel) rfl (by decide +kernel) ?_
          refine zz_iastore (q := 25) C (by decide +kernel) rfl rfl (hok 23 90 5 rfl).2 rfl (by omega) (by decide) ?_
          rw [show zz_sI (zz_sI (mo_cl (mo_bg h r) r i) (mf h r 22) i (-1)) (mf h r 23) i 0 = mo_cl (mo_bg h r) r (i + 1) from mo_cl_s (h := mo_bg h r) hap i]
          refine zz_iinc (q := 28) (i := 1) (n := 1) C (by decide +kernel) rfl rfl (nI_1 _) (by decide) rfl ?_
          refine zz_goto (off := -22) (tgt := 6) C (by decide +kernel) (by decide) ?_
          -- AT 6
          exact ih (i + 1) (by omega) (by omega)
    refine zz_aload_n (q := 1) (f := 0) (i := 0) C (by decide +kernel) rfl rfl rfl ?_
    refine zz_callV (q := 4) C (m_M_begin l) cv_M_91 (by decide +kernel) rfl rfl rfl (by first | rfl | assumption) (by decide) (by decide) (Nat.le_of_ble_eq_true rfl) ⟨_, rfl, ?_⟩
    refine zz_iconst (q := 5) (n := 0) (x := 0) C (by decide +kernel) rfl (by decide +kernel) ?_
    refine zz_istore_n (q := 6) (f := 1) (i := 1) C (by decide +kernel) rfl rfl (by decide) rfl ?_
    -- AT 6
    have l9 := lp6 6 0 (by omega) (by omega)
    rw [mo_cl_0] at l9
    exact l9

def T_M_isTaken : zz_Tr := fun as h post => ∃ r t9 pv, as = [zz_r 7 (some r), zz_i (nI t9), zz_i pv] ∧ mo_ok h r ∧ t9 < 8 ∧ mo_qs h r t9 ∧ post (some (zz_i (zz_b (ma h r 5 t9 ≠ -1 ∧ ∃ s, s < 60 ∧ mTk h r t9 pv s)))) h
set_option maxRecDepth 100000 in
set_option maxHeartbeats 4000000 in
theorem m_M_isTaken (l : Launch) : zz_Met l y_M_isTaken w_M_isTaken { frames := 1, cells := 0, slots := 0, locals := 12 } T_M_isTaken := by
  refine zz_ofZ (by decide) (fun as h post hT => ?_) ?_
  · obtain ⟨r, t9, pv, rfl, hok, ht8, hqs, hp⟩ := hT
    exact ⟨by simp [zz_cat], by simp⟩
  · intro D DA h as post hT p e s m args below meth c Q C hr hlk hnm hQ
    obtain ⟨r, t9, pv, rfl, hok, ht8, hqs, hp⟩ := hT
    have lp13 : ∀ n s9 (al : Int32), 61 ≤ n + s9 → s9 ≤ 60 → (s9 = 0 ∨ ¬ ma h r 5 t9 = -1) → ((al = 0 ∧ ∀ j, j < s9 → ¬ mTk h r t9 pv j) ∨ (al = 1 ∧ ∃ j, j < s9 ∧ mTk h r t9 pv j)) → zz_Z p l e { frames := 1, cells := 0, slots := 0, locals := 12 } s m args below meth c Q D DA (zz_A h s.heap.size) h 6 13 [some (zz_r 7 (some r)), some (zz_i (nI t9)), some (zz_i pv), some (zz_i al), some (zz_i (ma h r 5 t9)), some (zz_i (nI s9))] [] h 0 0 := by
      intro n
      induction n with
      | zero =>
        intro s9 al hn hi
        exact absurd hn (by omega)
      | succ n ih =>
        intro s9 al hn hile hz hal
        refine zz_iload (q := 15) (i := 5) C (by decide +kernel) rfl rfl ?_
        refine zz_bipush (q := 17) (n := 60) (x := 60) C (by decide +kernel) rfl (by decide +kernel) ?_
        refine zz_icmp_ge (off := 79) (tgt := 96) (q := 20) C (by decide +kernel) (by decide) rfl (fun c17 => ?_) (fun c17 => ?_)
        · refine zz_iload_n (q := 97) (f := 3) (i := 3) C (by decide +kernel) rfl rfl rfl ?_
          refine zz_zret C hr hlk (by decide +kernel) (hal.elim (fun z => Or.inl z.1) (fun z => Or.inr z.1)) hQ (by decide) (by decide) ?_
          rcases hal with ⟨h1, h2⟩ | ⟨h1, j, h2, h3⟩
          · rw [h1]
            refine zz_b0 (P := fun x => post (some (zz_i x)) h) hp ?_
            first
              | exact fun z => z.1 c23
              | (rintro ⟨z1, j, z2, z3⟩
                 have : s9 = 60 := by
                   have := (nI_leI (a := 60) (b := s9) (by decide) (by omega)).mp c17
                   omega
                 exact h2 j (by omega) z3)
          · rw [h1]
            rcases hz with hz | hz
            · exact absurd h2 (by omega)
            · exact zz_b1 (P := fun x => post (some (zz_i x)) h) hp ⟨hz, j, by omega, h3⟩
        · have hi : s9 < 60 := Nat.lt_of_not_le (fun z => c17 (nI_le (a := 60) z (by omega)))
          refine zz_iload (q := 22) (i := 4) C (by decide +kernel) rfl rfl ?_
          refine zz_iconst (q := 23) (n := -1) (x := (-1)) C (by decide +kernel) rfl (by decide +kernel) ?_
          refine zz_icmp_eq (off := 73) (tgt := 96) (q := 26) C (by decide +kernel) (by decide) rfl (fun c23 => ?_) (fun c23 => ?_)
          · refine zz_iload_n (q := 97) (f := 3) (i := 3) C (by decide +kernel) rfl rfl rfl ?_
            refine zz_zret C hr hlk (by decide +kernel) (hal.elim (fun z => Or.inl z.1) (fun z => Or.inr z.1)) hQ (by decide) (by decide) ?_
            rcases hal with ⟨h1, h2⟩ | ⟨h1, j, h2, h3⟩
            · rw [h1]
              refine zz_b0 (P := fun x => post (some (zz_i x)) h) hp ?_
              first
                | exact fun z => z.1 c23
                | (rintro ⟨z1, j, z2, z3⟩
                   have : s9 = 60 := by
                     have := (nI_leI (a := 60) (b := s9) (by decide) (by omega)).mp c17
                     omega
                   exact h2 j (by omega) z3)
            · rw [h1]
              rcases hz with hz | hz
              · exact absurd h2 (by omega)
              · exact zz_b1 (P := fun x => post (some (zz_i x)) h) hp ⟨hz, j, by omega, h3⟩
          · obtain ⟨hsq, hsq4⟩ := hqs.resolve_left c23
            refine zz_iload_n (q := 27) (f := 3) (i := 3) C (by decide +kernel) rfl rfl rfl ?_
            refine zz_if_ne (off := 57) (tgt := 84) (q := 30) C (by decide +kernel) (by decide) rfl (fun c27 => ?_) (fun c27 => ?_)
            · refine zz_iconst (q := 85) (n := 1) (x := 1) C (by decide +kernel) rfl (by decide +kernel) ?_
              refine zz_goto (off := 4) (tgt := 89) C (by decide +kernel) (by decide) ?_
              refine zz_istore_n (q := 90) (f := 3) (i := 3) C (by decide +kernel) rfl rfl (by decide) rfl ?_
              refine zz_iinc (q := 93) (i := 5) (n := 1) C (by decide +kernel) rfl rfl (nI_1 _) (by decide) rfl ?_
              refine zz_goto (off := -80) (tgt := 13) C (by decide +kernel) (by decide) ?_
              -- AT 13
              first
                | exact ih (s9 + 1) 1 (by omega) (by omega) (Or.inr c23) (Or.inr ⟨rfl, Exists.elim (hal.resolve_left (fun z => c27 z.1)).2 (fun j z => ⟨j, Nat.lt_succ_of_lt z.1, z.2⟩)⟩)
                | exact ih (s9 + 1) 0 (by omega) (by omega) (Or.inr c23) (Or.inl ⟨rfl, or_next0 (hal.resolve_right (fun z => absurd (z.1.symm.trans c27) (by decide))).2 (fun z => absurd z.1 (Int32.not_lt.mpr c37))⟩)
                | exact ih (s9 + 1) 0 (by omega) (by omega) (Or.inr c23) (Or.inl ⟨rfl, or_next0 (hal.resolve_right (fun z => absurd (z.1.symm.trans c27) (by decide))).2 (fun z => c48 z.2.1)⟩)
                | exact ih (s9 + 1) 0 (by omega) (by omega) (Or.inr c23) (Or.inl ⟨rfl, or_next0 (hal.resolve_right (fun z => absurd (z.1.symm.trans c27) (by decide))).2 (fun z => c59 z.2.2.1)⟩)
                | exact ih (s9 + 1) 0 (by omega) (by omega) (Or.inr c23) (Or.inl ⟨rfl, or_next0 (hal.resolve_right (fun z => absurd (z.1.symm.trans c27) (by decide))).2 (fun z => c81 z.2.2.2)⟩)
                | exact ih (s9 + 1) 1 (by omega) (by omega) (Or.inr c23) (Or.inr ⟨rfl, s9, by omega, Int32.not_le.mp c37, c48, c59, c81⟩)
            · refine zz_aload_n (q := 31) (f := 0) (i := 0) C (by decide +kernel) rfl rfl rfl ?_
              refine zz_getR (q := 34) C gf_M_39 (by decide +kernel) rfl (by first | rfl | assumption) (hok 14 90 60 rfl).1 ?_
              refine zz_iload (q := 36) (i := 5) C (by decide +kernel) rfl rfl ?_
              refine zz_iaload (q := 37) C (by decide +kernel) rfl rfl (hok 14 90 60 rfl).2 rfl (by omega) (by decide) rfl ?_
              refine zz_if_le (off := 51) (tgt := 88) (q := 40) C (by decide +kernel) (by decide) rfl (fun c37 => ?_) (fun c37 => ?_)
              · refine zz_iconst (q := 89) (n := 0) (x := 0) C (by decide +kernel) rfl (by decide +kernel) ?_
                refine zz_istore_n (q := 90) (f := 3) (i := 3) C (by decide +kernel) rfl rfl (by decide) rfl ?_
                refine zz_iinc (q := 93) (i := 5) (n := 1) C (by decide +kernel) rfl rfl (nI_1 _) (by decide) rfl ?_
                refine zz_goto (off := -80) (tgt := 13) C (by decide +kernel) (by decide) ?_
                -- AT 13
                first
                  | exact ih (s9 + 1) 1 (by omega) (by omega) (Or.inr c23) (Or.inr ⟨rfl, Exists.elim (hal.resolve_left (fun z => c27 z.1)).2 (fun j z => ⟨j, Nat.lt_succ_of_lt z.1, z.2⟩)⟩)
                  | exact ih (s9 + 1) 0 (by omega) (by omega) (Or.inr c23) (Or.inl ⟨rfl, or_next0 (hal.resolve_right (fun z => absurd (z.1.symm.trans c27) (by decide))).2 (fun z => absurd z.1 (Int32.not_lt.mpr c37))⟩)
                  | exact ih (s9 + 1) 0 (by omega) (by omega) (Or.inr c23) (Or.inl ⟨rfl, or_next0 (hal.resolve_right (fun z => absurd (z.1.symm.trans c27) (by decide))).2 (fun z => c48 z.2.1)⟩)
                  | exact ih (s9 + 1) 0 (by omega) (by omega) (Or.inr c23) (Or.inl ⟨rfl, or_next0 (hal.resolve_right (fun z => absurd (z.1.symm.trans c27) (by decide))).2 (fun z => c59 z.2.2.1)⟩)
                  | exact ih (s9 + 1) 0 (by omega) (by omega) (Or.inr c23) (Or.inl ⟨rfl, or_next0 (hal.resolve_right (fun z => absurd (z.1.symm.trans c27) (by decide))).2 (fun z => c81 z.2.2.2)⟩)
                  | exact ih (s9 + 1) 1 (by omega) (by omega) (Or.inr c23) (Or.inr ⟨rfl, s9, by omega, Int32.not_le.mp c37, c48, c59, c81⟩)
              · refine zz_aload_n (q := 41) (f := 0) (i := 0) C (by decide +kernel) rfl rfl rfl ?_
                refine zz_getR (q := 44) C gf_M_42 (by decide +kernel) rfl (by first | rfl | assumption) (hok 15 90 60 rfl).1 ?_
                refine zz_iload (q := 46) (i := 5) C (by decide +kernel) rfl rfl ?_
                refine zz_iaload (q := 47) C (by decide +kernel) rfl rfl (hok 15 90 60 rfl).2 rfl (by omega) (by decide) rfl ?_
                refine zz_iload_n (q := 48) (f := 1) (i := 1) C (by decide +kernel) rfl rfl rfl ?_
                refine zz_icmp_ne (off := 40) (tgt := 88) (q := 51) C (by decide +kernel) (by decide) rfl (fun c48 => ?_) (fun c48 => ?_)
                · refine zz_iconst (q := 89) (n := 0) (x := 0) C (by decide +kernel) rfl (by decide +kernel) ?_
                  refine zz_istore_n (q := 90) (f := 3) (i := 3) C (by decide +kernel) rfl rfl (by decide) rfl ?_
                  refine zz_iinc (q := 93) (i := 5) (n := 1) C (by decide +kernel) rfl rfl (nI_1 _) (by decide) rfl ?_
                  refine zz_goto (off := -80) (tgt := 13) C (by decide +kernel) (by decide) ?_
                  -- AT 13
                  first
                    | exact ih (s9 + 1) 1 (by omega) (by omega) (Or.inr c23) (Or.inr ⟨rfl, Exists.elim (hal.resolve_left (fun z => c27 z.1)).2 (fun j z => ⟨j, Nat.lt_succ_of_lt z.1, z.2⟩)⟩)
                    | exact ih (s9 + 1) 0 (by omega) (by omega) (Or.inr c23) (Or.inl ⟨rfl, or_next0 (hal.resolve_right (fun z => absurd (z.1.symm.trans c27) (by decide))).2 (fun z => absurd z.1 (Int32.not_lt.mpr c37))⟩)
                    | exact ih (s9 + 1) 0 (by omega) (by omega) (Or.inr c23) (Or.inl ⟨rfl, or_next0 (hal.resolve_right (fun z => absurd (z.1.symm.trans c27) (by decide))).2 (fun z => c48 z.2.1)⟩)
                    | exact ih (s9 + 1) 0 (by omega) (by omega) (Or.inr c23) (Or.inl ⟨rfl, or_next0 (hal.resolve_right (fun z => absurd (z.1.symm.trans c27) (by decide))).2 (fun z => c59 z.2.2.1)⟩)
                    | exact ih (s9 + 1) 0 (by omega) (by omega) (Or.inr c23) (Or.inl ⟨rfl, or_next0 (hal.resolve_right (fun z => absurd (z.1.symm.trans c27) (by decide))).2 (fun z => c81 z.2.2.2)⟩)
                    | exact ih (s9 + 1) 1 (by omega) (by omega) (Or.inr c23) (Or.inr ⟨rfl, s9, by omega, Int32.not_le.mp c37, c48, c59, c81⟩)
                · refine zz_aload_n (q := 52) (f := 0) (i := 0) C (by decide +kernel) rfl rfl rfl ?_
                  refine zz_getR (q := 55) C gf_M_45 (by decide +kernel) rfl (by first | rfl | assumption) (hok 16 90 60 rfl).1 ?_
                  refine zz_iload (q := 57) (i := 5) C (by decide +kernel) rfl rfl ?_
                  refine zz_iaload (q := 58) C (by decide +kernel) rfl rfl (hok 16 90 60 rfl).2 rfl (by omega) (by decide) rfl ?_
                  refine zz_iload_n (q := 59) (f := 2) (i := 2) C (by decide +kernel) rfl rfl rfl ?_
                  refine zz_icmp_ne (off := 29) (tgt := 88) (q := 62) C (by decide +kernel) (by decide) rfl (fun c59 => ?_) (fun c59 => ?_)
                  · refine zz_iconst (q := 89) (n := 0) (x := 0) C (by decide +kernel) rfl (by decide +kernel) ?_
                    refine zz_istore_n (q := 90) (f := 3) (i := 3) C (by decide +kernel) rfl rfl (by decide) rfl ?_
                    refine zz_iinc (q := 93) (i := 5) (n := 1) C (by decide +kernel) rfl rfl (nI_1 _) (by decide) rfl ?_
                    refine zz_goto (off := -80) (tgt := 13) C (by decide +kernel) (by decide) ?_
                    -- AT 13
                    first
                      | exact ih (s9 + 1) 1 (by omega) (by omega) (Or.inr c23) (Or.inr ⟨rfl, Exists.elim (hal.resolve_left (fun z => c27 z.1)).2 (fun j z => ⟨j, Nat.lt_succ_of_lt z.1, z.2⟩)⟩)
                      | exact ih (s9 + 1) 0 (by omega) (by omega) (Or.inr c23) (Or.inl ⟨rfl, or_next0 (hal.resolve_right (fun z => absurd (z.1.symm.trans c27) (by decide))).2 (fun z => absurd z.1 (Int32.not_lt.mpr c37))⟩)
                      | exact ih (s9 + 1) 0 (by omega) (by omega) (Or.inr c23) (Or.inl ⟨rfl, or_next0 (hal.resolve_right (fun z => absurd (z.1.symm.trans c27) (by decide))).2 (fun z => c48 z.2.1)⟩)
                      | exact ih (s9 + 1) 0 (by omega) (by omega) (Or.inr c23) (Or.inl ⟨rfl, or_next0 (hal.resolve_right (fun z => absurd (z.1.symm.trans c27) (by decide))).2 (fun z => c59 z.2.2.1)⟩)
                      | exact ih (s9 + 1) 0 (by omega) (by omega) (Or.inr c23) (Or.inl ⟨rfl, or_next0 (hal.resolve_right (fun z => absurd (z.1.symm.trans c27) (by decide))).2 (fun z => c81 z.2.2.2)⟩)
                      | exact ih (s9 + 1) 1 (by omega) (by omega) (Or.inr c23) (Or.inr ⟨rfl, s9, by omega, Int32.not_le.mp c37, c48, c59, c81⟩)
                  · refine zz_aload_n (q := 63) (f := 0) (i := 0) C (by decide +kernel) rfl rfl rfl ?_
                    refine zz_getR (q := 66) C gf_M_51 (by decide +kernel) rfl (by first | rfl | assumption) (hok 18 90 240 rfl).1 ?_
                    refine zz_iconst (q := 67) (n := 4) (x := 4) C (by decide +kernel) rfl (by decide +kernel) ?_
                    refine zz_iload (q := 69) (i := 5) C (by decide +kernel) rfl rfl ?_
                    refine zz_imul (q := 70) C (by decide +kernel) rfl (nI_mul9 4 _) ?_
                    refine zz_iload (q := 72) (i := 4) C (by decide +kernel) rfl rfl ?_
                    refine zz_iadd (q := 73) C (by decide +kernel) rfl (nI_addE hsq) ?_
                    refine zz_iaload (q := 74) C (by decide +kernel) rfl rfl (hok 18 90 240 rfl).2 rfl (by omega) (by decide) rfl ?_
                    refine zz_aload_n (q := 75) (f := 0) (i := 0) C (by decide +kernel) rfl rfl rfl ?_
                    refine zz_getR (q := 78) C gf_M_79 (by decide +kernel) rfl (by first | rfl | assumption) (hok 27 90 4 rfl).1 ?_
                    refine zz_iload (q := 80) (i := 4) C (by decide +kernel) rfl rfl ?_
                    refine zz_iaload (q := 81) C (by decide +kernel) rfl rfl (hok 27 90 4 rfl).2 hsq (by omega) (by decide) rfl ?_
                    refine zz_icmp_ne (off := 7) (tgt := 88) (q := 84) C (by decide +kernel) (by decide) rfl (fun c81 => ?_) (fun c81 => ?_)
                    · refine zz_iconst (q := 89) (n := 0) (x := 0) C (by decide +kernel) rfl (by decide +kernel) ?_
                      refine zz_istore_n (q := 90) (f := 3) (i := 3) C (by decide +kernel) rfl rfl (by decide) rfl ?_
                      refine zz_iinc (q := 93) (i := 5) (n := 1) C (by decide +kernel) rfl rfl (nI_1 _) (by decide) rfl ?_
                      refine zz_goto (off := -80) (tgt := 13) C (by decide +kernel) (by decide) ?_
                      -- AT 13
                      first
                        | exact ih (s9 + 1) 1 (by omega) (by omega) (Or.inr c23) (Or.inr ⟨rfl, Exists.elim (hal.resolve_left (fun z => c27 z.1)).2 (fun j z => ⟨j, Nat.lt_succ_of_lt z.1, z.2⟩)⟩)
                        | exact ih (s9 + 1) 0 (by omega) (by omega) (Or.inr c23) (Or.inl ⟨rfl, or_next0 (hal.resolve_right (fun z => absurd (z.1.symm.trans c27) (by decide))).2 (fun z => absurd z.1 (Int32.not_lt.mpr c37))⟩)
                        | exact ih (s9 + 1) 0 (by omega) (by omega) (Or.inr c23) (Or.inl ⟨rfl, or_next0 (hal.resolve_right (fun z => absurd (z.1.symm.trans c27) (by decide))).2 (fun z => c48 z.2.1)⟩)
                        | exact ih (s9 + 1) 0 (by omega) (by omega) (Or.inr c23) (Or.inl ⟨rfl, or_next0 (hal.resolve_right (fun z => absurd (z.1.symm.trans c27) (by decide))).2 (fun z => c59 z.2.2.1)⟩)
                        | exact ih (s9 + 1) 0 (by omega) (by omega) (Or.inr c23) (Or.inl ⟨rfl, or_next0 (hal.resolve_right (fun z => absurd (z.1.symm.trans c27) (by decide))).2 (fun z => c81 z.2.2.2)⟩)
                        | exact ih (s9 + 1) 1 (by omega) (by omega) (Or.inr c23) (Or.inr ⟨rfl, s9, by omega, Int32.not_le.mp c37, c48, c59, c81⟩)
                    · refine zz_iconst (q := 85) (n := 1) (x := 1) C (by decide +kernel) rfl (by decide +kernel) ?_
                      refine zz_goto (off := 4) (tgt := 89) C (by decide +kernel) (by decide) ?_
                      refine zz_istore_n (q := 90) (f := 3) (i := 3) C (by decide +kernel) rfl rfl (by decide) rfl ?_
                      refine zz_iinc (q := 93) (i := 5) (n := 1) C (by decide +kernel) rfl rfl (nI_1 _) (by decide) rfl ?_
                      refine zz_goto (off := -80) (tgt := 13) C (by decide +kernel) (by decide) ?_
                      -- AT 13
                      first
                        | exact ih (s9 + 1) 1 (by omega) (by omega) (Or.inr c23) (Or.inr ⟨rfl, Exists.elim (hal.resolve_left (fun z => c27 z.1)).2 (fun j z => ⟨j, Nat.lt_succ_of_lt z.1, z.2⟩)⟩)
                        | exact ih (s9 + 1) 0 (by omega) (by omega) (Or.inr c23) (Or.inl ⟨rfl, or_next0 (hal.resolve_right (fun z => absurd (z.1.symm.trans c27) (by decide))).2 (fun z => absurd z.1 (Int32.not_lt.mpr c37))⟩)
                        | exact ih (s9 + 1) 0 (by omega) (by omega) (Or.inr c23) (Or.inl ⟨rfl, or_next0 (hal.resolve_right (fun z => absurd (z.1.symm.trans c27) (by decide))).2 (fun z => c48 z.2.1)⟩)
                        | exact ih (s9 + 1) 0 (by omega) (by omega) (Or.inr c23) (Or.inl ⟨rfl, or_next0 (hal.resolve_right (fun z => absurd (z.1.symm.trans c27) (by decide))).2 (fun z => c59 z.2.2.1)⟩)
                        | exact ih (s9 + 1) 0 (by omega) (by omega) (Or.inr c23) (Or.inl ⟨rfl, or_next0 (hal.resolve_right (fun z => absurd (z.1.symm.trans c27) (by decide))).2 (fun z => c81 z.2.2.2)⟩)
                        | exact ih (s9 + 1) 1 (by omega) (by omega) (Or.inr c23) (Or.inr ⟨rfl, s9, by omega, Int32.not_le.mp c37, c48, c59, c81⟩)
    refine zz_iconst (q := 1) (n := 0) (x := 0) C (by decide +kernel) rfl (by decide +kernel) ?_
    refine zz_istore_n (q := 2) (f := 3) (i := 3) C (by decide +kernel) rfl rfl (by decide) rfl ?_
    refine zz_aload_n (q := 3) (f := 0) (i := 0) C (by decide +kernel) rfl rfl rfl ?_
    refine zz_getR (q := 6) C gf_M_23 (by decide +kernel) rfl (by first | rfl | assumption) (hok 5 90 8 rfl).1 ?_
    refine zz_iload_n (q := 7) (f := 1) (i := 1) C (by decide +kernel) rfl rfl rfl ?_
    refine zz_iaload (q := 8) C (by decide +kernel) rfl rfl (hok 5 90 8 rfl).2 rfl (by omega) (by decide) rfl ?_
    refine zz_istore (q := 10) (i := 4) C (by decide +kernel) rfl (by decide) rfl ?_
    refine zz_iconst (q := 11) (n := 0) (x := 0) C (by decide +kernel) rfl (by decide +kernel) ?_
    refine zz_istore (q := 13) (i := 5) C (by decide +kernel) rfl (by decide) rfl ?_
    -- AT 13
    exact lp13 61 0 0 (by omega) (by omega) (Or.inl rfl) (Or.inl ⟨rfl, fun j hj => absurd hj (by omega)⟩)

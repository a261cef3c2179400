/-! Order: a segment enters -/
def or_sh (h : zz_H) (a i : Nat) : zz_H := or_rp h (fun b j => if b = or_b h a ∧ i < j ∧ j ≤ or_s h a then zz_aR h b (j - 1) else zz_aR h b j)
theorem or_sh_0 (h : zz_H) (a : Nat) : or_sh h a (or_s h a) = h := by
  have e : (fun b j => if b = or_b h a ∧ or_s h a < j ∧ j ≤ or_s h a then zz_aR h b (j - 1) else zz_aR h b j) = zz_aR h := by
    funext b j
    rw [if_neg (by omega)]
  rw [or_sh, e]; rfl
theorem or_sh_b (h : zz_H) (a i j : Nat) (hj : j ≤ i) : zz_aR (or_sh h a i) (or_b h a) j = zz_aR h (or_b h a) j := by
  show (if or_b h a = or_b h a ∧ i < j ∧ j ≤ or_s h a then zz_aR h (or_b h a) (j - 1) else zz_aR h (or_b h a) j) = _
  rw [if_neg (by omega)]
theorem or_sh_s (h : zz_H) (a i : Nat) (hi : i + 1 ≤ or_s h a) : zz_sR (or_sh h a (i + 1)) (or_b h a) (i + 1) (zz_aR h (or_b h a) i) = or_sh h a i := by
  rw [or_sh, or_rp_sR, or_sh]
  congr 1
  funext b j
  by_cases h1 : b = or_b h a ∧ j = i + 1
  · rw [if_pos h1, if_pos ⟨h1.1, by omega, by omega⟩, h1.1, h1.2]
    rfl
  · rw [if_neg h1]
    by_cases h2 : b = or_b h a ∧ i + 1 < j ∧ j ≤ or_s h a
    · rw [if_pos h2, if_pos ⟨h2.1, by omega, h2.2.2⟩]
    · rw [if_neg h2, if_neg (fun z => h2 ⟨z.1, by have := fun w => h1 ⟨z.1, w⟩; omega, z.2.2⟩)]
def or_is (h : zz_H) (a f to : Nat) : zz_H := zz_pI (zz_sR (or_sh h a to) (or_b h a) to (some f)) 5 2 a (nI (or_s h a + 1))
theorem or_is_b (h : zz_H) (a f to j : Nat) : zz_aR (or_is h a f to) (or_b h a) j = if j < to then zz_aR h (or_b h a) j else if j = to then some f else if j ≤ or_s h a then zz_aR h (or_b h a) (j - 1) else zz_aR h (or_b h a) j := by
  show (if or_b h a = or_b h a ∧ j = to then some f else zz_aR (or_sh h a to) (or_b h a) j) = _
  by_cases h1 : j = to
  · rw [if_pos ⟨rfl, h1⟩, if_neg (by omega), if_pos h1]
  · rw [if_neg (fun z => h1 z.2)]
    by_cases h2 : j < to
    · rw [if_pos h2]; exact or_sh_b h a to j (by omega)
    · rw [if_neg h2, if_neg h1]
      show (if or_b h a = or_b h a ∧ to < j ∧ j ≤ or_s h a then zz_aR h (or_b h a) (j - 1) else zz_aR h (or_b h a) j) = _
      by_cases h3 : j ≤ or_s h a
      · rw [if_pos ⟨rfl, by omega, h3⟩, if_pos h3]
      · rw [if_neg (fun z => h3 z.2.2), if_neg h3]
theorem or_is_sm (h : zz_H) (a f to : Nat) : or_sm h (or_is h a f to) := ⟨rfl, fun c j b hc _ => if_neg (fun z => hc z.1), fun _ => Or.inr (Or.inr rfl), fun _ _ _ _ => rfl, rfl⟩
theorem or_is_q (h : zz_H) (a f to : Nat) : zz_fI (or_is h a f to) 5 2 a = nI (or_s h a + 1) := if_pos ⟨rfl, rfl, rfl⟩
theorem or_is_ok {h : zz_H} {a f to : Nat} (hok : or_okB h a) (hs : or_s h a < 60) (hto : to ≤ or_s h a) : or_okB (or_is h a f to) a ∧ or_s (or_is h a f to) a = or_s h a + 1 := by
  obtain ⟨h1, h2⟩ := or_sm_ok (or_is_sm h a f to) hok.1 (or_is_q h a f to) (by omega)
  refine ⟨⟨h1, fun i hi => ?_⟩, h2⟩
  rw [h2] at hi
  have e : or_b (or_is h a f to) a = or_b h a := rfl
  have key : ∃ v, zz_aR (or_is h a f to) (or_b h a) i = some v := by
    rw [or_is_b]
    by_cases c1 : i < to
    · rw [if_pos c1]; exact ⟨_, hok.2 i (by omega)⟩
    · rw [if_neg c1]
      by_cases c2 : i = to
      · rw [if_pos c2]; exact ⟨_, rfl⟩
      · rw [if_neg c2, if_pos (by omega)]; exact ⟨_, hok.2 (i - 1) (by omega)⟩
  obtain ⟨v, hv⟩ := key
  rw [or_B, e, hv]; rfl
theorem or_entry_le {h : zz_H} {a f to : Nat} (he : or_entry h a f to) : to ≤ or_s h a := by
  rcases he with ⟨h1, -⟩ | ⟨-, h1⟩
  · omega
  · exact h1.1
theorem nI_pred9 (n : Nat) : nI (n + 1) + Int32.ofInt (-1) = nI n := by
  rw [show Int32.ofInt (-1) = -1 from rfl, ← Int32.sub_eq_add_neg]
  exact nI_pred n
def T_O_enter : zz_Tr := fun as h post => ∃ a f, as = [zz_r 5 (some a), zz_r 2 (some f)] ∧ or_okB h a ∧ or_s h a < 60 ∧ sg_wf h ∧ kd_wf h ∧ or_sw h a ∧ ∀ to h2, or_entry h a f to → or_arr (or_is h a f to) a h2 → post none h2
set_option maxRecDepth 100000 in
set_option maxHeartbeats 4000000 in
theorem m_O_enter (l : Launch) : zz_Met l y_O_enter w_O_enter { frames := 6, cells := 0, slots := 0, locals := 125 } T_O_enter := by
  refine zz_ofZ (by decide) (fun as h post hT => ?_) ?_
  · obtain ⟨a, f, rfl, hok, hs60, hwf, hkw, hsw, hp⟩ := hT
    exact ⟨by simp [zz_cat], by simp⟩
  · intro D DA h as post hT p e s m args below meth c Q C hr hlk hnm hQ
    obtain ⟨a, f, rfl, hok, hs60, hwf, hkw, hsw, hp⟩ := hT
    have lp21 : ∀ to, to ≤ or_s h a → (∀ h2, or_arr (or_is h a f to) a h2 → post none h2) → ∀ n i, i + 1 ≤ n + to → to ≤ i → i ≤ or_s h a → zz_Z p l e { frames := 6, cells := 0, slots := 0, locals := 125 } s m args below meth c Q D DA (zz_A h s.heap.size) h 4 21 [some (zz_r 5 (some a)), some (zz_r 2 (some f)), some (zz_i (nI to)), some (zz_i (nI i))] [] (or_sh h a i) 0 0 := by
      intro to hto hp9 n
      induction n with
      | zero =>
        intro i hni hi
        exact absurd hni (by omega)
      | succ n ih =>
        intro i hni hti his
        refine zz_iload_n (q := 22) (f := 3) (i := 3) C (by decide +kernel) rfl rfl rfl ?_
        refine zz_iload_n (q := 23) (f := 2) (i := 2) C (by decide +kernel) rfl rfl rfl ?_
        refine zz_icmp_le (off := 23) (tgt := 46) (q := 26) C (by decide +kernel) (by decide) rfl (fun c23 => ?_) (fun c23 => ?_)
        · have he : i = to := by
            have := (nI_leI (a := i) (b := to) (by omega) (by omega)).mp c23
            omega
          subst he
          refine zz_aload_n (q := 47) (f := 0) (i := 0) C (by decide +kernel) rfl rfl rfl ?_
          refine zz_getR (q := 50) C gf_O_11 (by decide +kernel) rfl (by first | rfl | assumption) hok.1.1 ?_
          refine zz_iload_n (q := 51) (f := 2) (i := 2) C (by decide +kernel) rfl rfl rfl ?_
          refine zz_aload_n (q := 52) (f := 1) (i := 1) C (by decide +kernel) rfl rfl rfl ?_
          refine zz_aastore (q := 53) C (ci := 2) 4 rfl rfl (by decide +kernel) rfl rfl hok.1.2.2.1 rfl (by omega) (by decide) ?_
          refine zz_aload_n (q := 54) (f := 0) (i := 0) C (by decide +kernel) rfl rfl rfl ?_
          refine zz_dup (q := 55) C (by decide +kernel) rfl rfl ?_
          refine zz_getI (q := 58) C gf_O_35 (by decide +kernel) rfl (by first | rfl | assumption) hok.1.2.2.2.2.2.2 ?_
          refine zz_iconst (q := 59) (n := 1) (x := 1) C (by decide +kernel) rfl (by decide +kernel) ?_
          refine zz_iadd (q := 60) C (by decide +kernel) rfl (nI_1 _) ?_
          refine zz_putI (q := 63) C gf_O_35 (fun h => by cases h) (fun h => by cases h) (by decide +kernel) rfl (by first | rfl | assumption) ?_
          refine zz_aload_n (q := 64) (f := 0) (i := 0) C (by decide +kernel) rfl rfl rfl ?_
          refine zz_callV (q := 67) C (m_O_arrange l) cv_O_32 (by decide +kernel) rfl rfl rfl (by first | rfl | assumption) (by decide) (by decide) (Nat.le_of_ble_eq_true rfl) ⟨_, rfl, (or_is_ok hok hs60 hto).1, or_sm_wf (or_is_sm h a f i) hwf, hsw, fun h2 hh => ?_⟩
          refine zz_vret C hr hlk (by decide +kernel) hQ (by decide) (by decide) ?_
          exact hp9 h2 hh
        · obtain ⟨i9, rfl⟩ : ∃ i9, i = i9 + 1 := ⟨i - 1, by
            have : ¬ i ≤ to := fun z => c23 (nI_le z (by omega))
            omega⟩
          have h9 : to ≤ i9 := by
            have : ¬ i9 + 1 ≤ to := fun z => c23 (nI_le z (by omega))
            omega
          refine zz_aload_n (q := 27) (f := 0) (i := 0) C (by decide +kernel) rfl rfl rfl ?_
          refine zz_getR (q := 30) C gf_O_11 (by decide +kernel) rfl (by first | rfl | assumption) hok.1.1 ?_
          refine zz_iload_n (q := 31) (f := 3) (i := 3) C (by decide +kernel) rfl rfl rfl ?_
          refine zz_aload_n (q := 32) (f := 0) (i := 0) C (by decide +kernel) rfl rfl rfl ?_
          refine zz_getR (q := 35) C gf_O_11 (by decide +kernel) rfl (by first | rfl | assumption) hok.1.1 ?_
          refine zz_iload_n (q := 36) (f := 3) (i := 3) C (by decide +kernel) rfl rfl rfl ?_
          refine zz_iconst (q := 37) (n := 1) (x := 1) C (by decide +kernel) rfl (by decide +kernel) ?_
          refine zz_isub (q := 38) C (by decide +kernel) rfl (nI_pred _) ?_
          refine zz_aaload (q := 39) C 4 rfl (by decide) (by decide +kernel) rfl rfl hok.1.2.2.1 rfl (by have := hok.1.2.2.2.2.2.1; omega) (by decide) (or_sh_b h a (i9 + 1) i9 (by omega)) ?_
          refine zz_aastore (q := 40) C (ci := 2) 4 rfl rfl (by decide +kernel) rfl rfl hok.1.2.2.1 rfl (by omega) (by decide) ?_
          rw [or_sh_s h a i9 his]
          refine zz_iinc (q := 43) (i := 3) (n := -1) C (by decide +kernel) rfl rfl (nI_pred9 _) (by decide) rfl ?_
          refine zz_goto (off := -22) (tgt := 21) C (by decide +kernel) (by decide) ?_
          -- AT 21
          exact ih i9 (by omega) h9 (by omega)
    refine zz_aload_n (q := 1) (f := 0) (i := 0) C (by decide +kernel) rfl rfl rfl ?_
    refine zz_getI (q := 4) C gf_O_35 (by decide +kernel) rfl (by first | rfl | assumption) hok.1.2.2.2.2.2.2 ?_
    refine zz_bipush (q := 6) (n := 60) (x := 60) C (by decide +kernel) rfl (by decide +kernel) ?_
    refine zz_icmp_lt (off := 4) (tgt := 10) (q := 9) C (by decide +kernel) (by decide) rfl (fun c6 => ?_) (fun c6 => ?_)
    · refine zz_aload_n (q := 11) (f := 0) (i := 0) C (by decide +kernel) rfl rfl rfl ?_
      refine zz_aload_n (q := 12) (f := 1) (i := 1) C (by decide +kernel) rfl rfl rfl ?_
      refine zz_callV (q := 15) C (m_O_entryOf l) cv_O_79 (by decide +kernel) rfl rfl rfl (by first | rfl | assumption) (by decide) (by decide) (Nat.le_of_ble_eq_true rfl) ⟨_, _, rfl, hok, hwf, hkw, fun to hto => ?_⟩
      refine zz_istore_n (q := 16) (f := 2) (i := 2) C (by decide +kernel) rfl rfl (by decide) rfl ?_
      refine zz_aload_n (q := 17) (f := 0) (i := 0) C (by decide +kernel) rfl rfl rfl ?_
      refine zz_getI (q := 20) C gf_O_35 (by decide +kernel) rfl (by first | rfl | assumption) hok.1.2.2.2.2.2.2 ?_
      refine zz_istore_n (q := 21) (f := 3) (i := 3) C (by decide +kernel) rfl rfl (by decide) rfl ?_
      -- AT 21
      have l9 := lp21 to (or_entry_le hto) (fun h2 hh => hp to h2 hto hh) (or_s h a + 1) (or_s h a) (by omega) (or_entry_le hto) (Nat.le_refl _)
      rw [or_sh_0] at l9
      exact l9
    · refine zz_vret C hr hlk (by decide +kernel) hQ (by decide) (by decide) ?_
      exact absurd (nI_lt (b := 60) hs60 (by decide)) c6

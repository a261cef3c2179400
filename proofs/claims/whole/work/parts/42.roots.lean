/-! Order: the roots are arranged -/
def or_AR (a k : Nat) : Nat → Nat → Nat → zz_H → zz_H → Prop
  | 0, _, _, h, h2 => h2 = h
  | n + 1, to, root, h, h2 => (¬ root < or_s h a ∧ h2 = h) ∨ (root < or_s h a ∧ ∃ m, or_ct h a root to m ∧ or_AR a k n (to + m) (or_lr (or_cp h a root to m) a k (some (or_B h a root)) (or_s h a)) (or_cp h a root to m) h2)
/-- the first place at which a segment of the root kind stands, or the size -/
def or_to (h : zz_H) (a k to : Nat) : Prop := to ≤ or_s h a ∧ (∀ j, j < to → kd_root h 3 (sg_k h (or_B h a j)) ≠ k) ∧ (to < or_s h a → kd_root h 3 (sg_k h (or_B h a to)) = k)
def T_O_arrangeRoots : zz_Tr := fun as h post => ∃ a k, as = [zz_r 5 (some a), zz_r 1 (some k)] ∧ or_okB h a ∧ sg_wf h ∧ ∀ to h2, or_to h a k to → or_AR a k (or_s h a) to (or_lr h a k none (or_s h a)) h h2 → post none h2
set_option maxRecDepth 100000 in
set_option maxHeartbeats 4000000 in
theorem m_O_arrangeRoots (l : Launch) : zz_Met l y_O_arrangeRoots w_O_arrangeRoots { frames := 4, cells := 0, slots := 0, locals := 81 } T_O_arrangeRoots := by
  refine zz_ofZ (by decide) (fun as h post hT => ?_) ?_
  · obtain ⟨a, k, rfl, hok, hwf, hp⟩ := hT
    exact ⟨by simp [zz_cat], by simp⟩
  · intro D DA h as post hT p e s m args below meth c Q C hr hlk hnm hQ
    obtain ⟨a, k, rfl, hok, hwf, hp⟩ := hT
    refine zz_know (fun hty _ hTL _ => ?_)
    have hb := hok.1.2.2.2.2.2.1
    have lp42 : ∀ n i, or_s h a + 1 ≤ n + i → i ≤ or_s h a → ∀ to root h1, to ≤ or_s h a → root ≤ or_s h a → or_okB h1 a → sg_wf h1 → or_s h1 a = or_s h a → (∀ h2, or_AR a k (or_s h a - i) to root h1 h2 → post none h2) → zz_Z p l e { frames := 4, cells := 0, slots := 0, locals := 81 } s m args below meth c Q D DA (zz_A h s.heap.size) h 5 42 [some (zz_r 5 (some a)), some (zz_r 1 (some k)), some (zz_i (nI to)), some (zz_i (nI root)), some (zz_i (nI i))] [] h1 0 0 := by
      intro n
      induction n with
      | zero =>
        intro i hni hi
        exact absurd hni (by omega)
      | succ n ih =>
        intro i hni hile to root h1 hto hroot hok hwf hs1 hp
        rw [← hs1] at hni hile hto hroot hp ih
        have hb := hok.1.2.2.2.2.2.1
        refine zz_iload (q := 44) (i := 4) C (by decide +kernel) rfl rfl ?_
        refine zz_aload_n (q := 45) (f := 0) (i := 0) C (by decide +kernel) rfl rfl rfl ?_
        refine zz_getI (q := 48) C gf_O_35 (by decide +kernel) rfl (by first | rfl | assumption) hok.1.2.2.2.2.2.2 ?_
        refine zz_icmp_ge (off := 36) (tgt := 84) (q := 51) C (by decide +kernel) (by decide) rfl (fun c48 => ?_) (fun c48 => ?_)
        · refine zz_vret C hr hlk (by decide +kernel) hQ (by decide) (by decide) ?_
          first
            | (have he : or_s h1 a - i = 0 := by
                 have := ((nI_leI (a := or_s h1 a) (b := i) (by omega) (by omega)).mp c48)
                 omega
               rw [he] at hp
               exact hp h1 rfl)
            | (have he : or_s h1 a - i = (or_s h1 a - i - 1) + 1 := by omega
               rw [he] at hp
               exact hp h1 (Or.inl ⟨Nat.not_lt_of_le ((nI_leI (a := or_s h1 a) (b := root) (by omega) (by omega)).mp c56), rfl⟩))
        · have hi : i < or_s h1 a := Nat.lt_of_not_le (fun z => c48 (nI_le z (by omega)))
          refine zz_iload_n (q := 52) (f := 3) (i := 3) C (by decide +kernel) rfl rfl rfl ?_
          refine zz_aload_n (q := 53) (f := 0) (i := 0) C (by decide +kernel) rfl rfl rfl ?_
          refine zz_getI (q := 56) C gf_O_35 (by decide +kernel) rfl (by first | rfl | assumption) hok.1.2.2.2.2.2.2 ?_
          refine zz_icmp_ge (off := 28) (tgt := 84) (q := 59) C (by decide +kernel) (by decide) rfl (fun c56 => ?_) (fun c56 => ?_)
          · refine zz_vret C hr hlk (by decide +kernel) hQ (by decide) (by decide) ?_
            first
              | (have he : or_s h1 a - i = 0 := by
                   have := ((nI_leI (a := or_s h1 a) (b := i) (by omega) (by omega)).mp c48)
                   omega
                 rw [he] at hp
                 exact hp h1 rfl)
              | (have he : or_s h1 a - i = (or_s h1 a - i - 1) + 1 := by omega
                 rw [he] at hp
                 exact hp h1 (Or.inl ⟨Nat.not_lt_of_le ((nI_leI (a := or_s h1 a) (b := root) (by omega) (by omega)).mp c56), rfl⟩))
          · have hr9 : root < or_s h1 a := Nat.lt_of_not_le (fun z => c56 (nI_le z (by omega)))
            refine zz_aload_n (q := 60) (f := 0) (i := 0) C (by decide +kernel) rfl rfl rfl ?_
            refine zz_iload_n (q := 61) (f := 3) (i := 3) C (by decide +kernel) rfl rfl rfl ?_
            refine zz_iload_n (q := 62) (f := 2) (i := 2) C (by decide +kernel) rfl rfl rfl ?_
            refine zz_callV (q := 65) C (m_O_copyTree l) cv_O_124 (by decide +kernel) rfl rfl rfl (by first | rfl | assumption) (by decide) (by decide) (Nat.le_of_ble_eq_true rfl) ⟨_, _, _, rfl, hr9, hto, hok, hwf, fun u hm => ?_⟩
            have hok2 := or_cp_okB hok root to u
            have hwf2 : sg_wf (or_cp h1 a root to u) := sg_wf_rp _ hwf
            have hl2 := or_lr_le (or_cp h1 a root to u) a k (some (or_B h1 a root)) (or_s h1 a) (Nat.le_refl _)
            have hs2 : or_s (or_cp h1 a root to u) a = or_s h1 a := rfl
            refine zz_istore_n (q := 66) (f := 2) (i := 2) C (by decide +kernel) rfl rfl (by decide) rfl ?_
            refine zz_aload_n (q := 67) (f := 0) (i := 0) C (by decide +kernel) rfl rfl rfl ?_
            refine zz_aload_n (q := 68) (f := 1) (i := 1) C (by decide +kernel) rfl rfl rfl ?_
            refine zz_aload_n (q := 69) (f := 0) (i := 0) C (by decide +kernel) rfl rfl rfl ?_
            refine zz_getR (q := 72) C gf_O_11 (by decide +kernel) rfl (by first | rfl | assumption) hok.1.1 ?_
            refine zz_iload_n (q := 73) (f := 3) (i := 3) C (by decide +kernel) rfl rfl rfl ?_
            refine zz_aaload (q := 74) C 4 rfl (by decide) (by decide +kernel) rfl rfl hok.1.2.2.1 rfl (by have := hok.1.2.2.2.2.2.1; omega) (by decide) ((or_cp_b hok.1 root to u _).trans (hok.2 _ hr9)) ?_
            refine zz_callV (q := 77) C (m_O_leastRootAfter l) cv_O_120 (by decide +kernel) rfl rfl rfl (by first | rfl | assumption) (by decide) (by decide) (Nat.le_of_ble_eq_true rfl) ⟨_, _, _, rfl, hok2, hwf2, ?_⟩
            refine zz_istore_n (q := 78) (f := 3) (i := 3) C (by decide +kernel) rfl rfl (by decide) rfl ?_
            refine zz_iinc (q := 81) (i := 4) (n := 1) C (by decide +kernel) rfl rfl (nI_succ _).symm (by decide) rfl ?_
            refine zz_goto (off := -39) (tgt := 42) C (by decide +kernel) (by decide) ?_
            -- AT 42
            refine ih (i + 1) (by omega) (by omega) _ _ _ hm.2.1 (by rw [hs2] at hl2 ⊢; omega) hok2 hwf2 rfl (fun h2 hh => ?_)
            have he : or_s h1 a - i = (or_s h1 a - (i + 1)) + 1 := by omega
            rw [he] at hp
            exact hp h2 (Or.inr ⟨hr9, u, hm, hh⟩)
    have lp2 : ∀ n i, or_s h a + 1 ≤ n + i → i ≤ or_s h a → (∀ j, j < i → kd_root h 3 (sg_k h (or_B h a j)) ≠ k) → zz_Z p l e { frames := 4, cells := 0, slots := 0, locals := 81 } s m args below meth c Q D DA (zz_A h s.heap.size) h 5 2 [some (zz_r 5 (some a)), some (zz_r 1 (some k)), some (zz_i (nI i)), none, none] [] h 0 0 := by
      intro n
      induction n with
      | zero =>
        intro i hni hi
        exact absurd hni (by omega)
      | succ n ih =>
        intro i hni hile hall
        refine zz_iload_n (q := 3) (f := 2) (i := 2) C (by decide +kernel) rfl rfl rfl ?_
        refine zz_aload_n (q := 4) (f := 0) (i := 0) C (by decide +kernel) rfl rfl rfl ?_
        refine zz_getI (q := 7) C gf_O_35 (by decide +kernel) rfl (by first | rfl | assumption) hok.1.2.2.2.2.2.2 ?_
        refine zz_icmp_ge (off := 25) (tgt := 32) (q := 10) C (by decide +kernel) (by decide) rfl (fun c7 => ?_) (fun c7 => ?_)
        · refine zz_aload_n (q := 33) (f := 0) (i := 0) C (by decide +kernel) rfl rfl rfl ?_
          refine zz_aload_n (q := 34) (f := 1) (i := 1) C (by decide +kernel) rfl rfl rfl ?_
          refine zz_null (q := 35) C 2 (by decide +kernel) rfl ?_
          refine zz_callV (q := 38) C (m_O_leastRootAfter l) cv_O_120 (by decide +kernel) rfl rfl rfl (by first | rfl | assumption) (by decide) (by decide) (Nat.le_of_ble_eq_true rfl) ⟨_, _, _, rfl, hok, hwf, ?_⟩
          refine zz_istore_n (q := 39) (f := 3) (i := 3) C (by decide +kernel) rfl rfl (by decide) rfl ?_
          refine zz_iconst (q := 40) (n := 0) (x := 0) C (by decide +kernel) rfl (by decide +kernel) ?_
          refine zz_istore (q := 42) (i := 4) C (by decide +kernel) rfl (by decide) rfl ?_
          -- AT 42
          first
            | exact lp42 (or_s h a + 1) 0 (by omega) (by omega) i _ h hile (Or.elim (or_lr_le h a k none (or_s h a) (Nat.le_refl _)) Nat.le_of_eq Nat.le_of_lt) hok hwf rfl (fun h2 hh => hp i h2 ⟨hile, hall, fun z => absurd z (Nat.not_lt_of_le ((nI_leI (a := or_s h a) (b := i) (Nat.lt_of_le_of_lt hb (by decide)) (Nat.lt_of_le_of_lt (Nat.le_trans hile hb) (by decide))).mp c7))⟩ hh)
            | exact lp42 (or_s h a + 1) 0 (by omega) (by omega) i _ h hile (Or.elim (or_lr_le h a k none (or_s h a) (Nat.le_refl _)) Nat.le_of_eq Nat.le_of_lt) hok hwf rfl (fun h2 hh => hp i h2 ⟨hile, hall, fun _ => Option.some.inj c23⟩ hh)
        · have hi : i < or_s h a := Nat.lt_of_not_le (fun z => c7 (nI_le z (by omega)))
          obtain ⟨ns, hts⟩ := or_tagB hty hok hi
          have hos := hwf _ ns hts
          refine zz_aload_n (q := 11) (f := 0) (i := 0) C (by decide +kernel) rfl rfl rfl ?_
          refine zz_getR (q := 14) C gf_O_11 (by decide +kernel) rfl (by first | rfl | assumption) hok.1.1 ?_
          refine zz_iload_n (q := 15) (f := 2) (i := 2) C (by decide +kernel) rfl rfl rfl ?_
          refine zz_aaload (q := 16) C 4 rfl (by decide) (by decide +kernel) rfl rfl hok.1.2.2.1 rfl (by have := hok.1.2.2.2.2.2.1; omega) (by decide) (hok.2 i hi) ?_
          refine zz_getR (q := 19) C gf_O_50 (by decide +kernel) rfl (by first | rfl | assumption) hos.1 ?_
          refine zz_callV (q := 22) C (m_K_rootKind l) cv_O_101 (by decide +kernel) rfl rfl rfl (by first | rfl | assumption) (by decide) (by decide) (Nat.le_of_ble_eq_true rfl) ⟨_, rfl, ?_⟩
          refine zz_aload_n (q := 23) (f := 1) (i := 1) C (by decide +kernel) rfl rfl rfl ?_
          refine zz_acmp_eq (off := 9) (tgt := 32) (q := 26) C (by decide +kernel) (by decide) rfl (fun c23 => ?_) (fun c23 => ?_)
          · refine zz_aload_n (q := 33) (f := 0) (i := 0) C (by decide +kernel) rfl rfl rfl ?_
            refine zz_aload_n (q := 34) (f := 1) (i := 1) C (by decide +kernel) rfl rfl rfl ?_
            refine zz_null (q := 35) C 2 (by decide +kernel) rfl ?_
            refine zz_callV (q := 38) C (m_O_leastRootAfter l) cv_O_120 (by decide +kernel) rfl rfl rfl (by first | rfl | assumption) (by decide) (by decide) (Nat.le_of_ble_eq_true rfl) ⟨_, _, _, rfl, hok, hwf, ?_⟩
            refine zz_istore_n (q := 39) (f := 3) (i := 3) C (by decide +kernel) rfl rfl (by decide) rfl ?_
            refine zz_iconst (q := 40) (n := 0) (x := 0) C (by decide +kernel) rfl (by decide +kernel) ?_
            refine zz_istore (q := 42) (i := 4) C (by decide +kernel) rfl (by decide) rfl ?_
            -- AT 42
            first
              | exact lp42 (or_s h a + 1) 0 (by omega) (by omega) i _ h hile (Or.elim (or_lr_le h a k none (or_s h a) (Nat.le_refl _)) Nat.le_of_eq Nat.le_of_lt) hok hwf rfl (fun h2 hh => hp i h2 ⟨hile, hall, fun z => absurd z (Nat.not_lt_of_le ((nI_leI (a := or_s h a) (b := i) (Nat.lt_of_le_of_lt hb (by decide)) (Nat.lt_of_le_of_lt (Nat.le_trans hile hb) (by decide))).mp c7))⟩ hh)
              | exact lp42 (or_s h a + 1) 0 (by omega) (by omega) i _ h hile (Or.elim (or_lr_le h a k none (or_s h a) (Nat.le_refl _)) Nat.le_of_eq Nat.le_of_lt) hok hwf rfl (fun h2 hh => hp i h2 ⟨hile, hall, fun _ => Option.some.inj c23⟩ hh)
          · refine zz_iinc (q := 29) (i := 2) (n := 1) C (by decide +kernel) rfl rfl (nI_succ _).symm (by decide) rfl ?_
            refine zz_goto (off := -27) (tgt := 2) C (by decide +kernel) (by decide) ?_
            -- AT 2
            refine ih (i + 1) (by omega) (by omega) (fun j hj => ?_)
            rcases Nat.lt_succ_iff_lt_or_eq.mp hj with hj | rfl
            · exact hall j hj
            · exact fun z => c23 (congrArg some z)
    refine zz_iconst (q := 1) (n := 0) (x := 0) C (by decide +kernel) rfl (by decide +kernel) ?_
    refine zz_istore_n (q := 2) (f := 2) (i := 2) C (by decide +kernel) rfl rfl (by decide) rfl ?_
    -- AT 2
    exact lp2 (or_s h a + 1) 0 (by omega) (by omega) (fun j hj => absurd hj (by omega))

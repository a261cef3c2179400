/-! the reference: the twin of a new segment -/
def mTf (h : zz_H) (r t u s : Nat) : Prop := 0 < ma h r 14 s ∧ ma h r 15 s = nI u ∧ ma h r 17 s = -1 ∧ ma h r 18 (4 * s + mQs h r u) = ma h r 27 (mQs h r t)
def mBst (h : zz_H) (r : Nat) (P : Nat → Prop) (n : Nat) (best : Option Nat) : Prop := (best = none ∧ ∀ j, j < n → ¬ P j) ∨ ∃ i, i < n ∧ P i ∧ best = some i ∧ ∀ j, j < n → P j → ma h r 14 i ≤ ma h r 14 j
section BS
variable {h : zz_H} {r n b : Nat} {P : Nat → Prop} {best : Option Nat}
theorem mBst_skip (hb : mBst h r P n best) (hn : ¬ P n) : mBst h r P (n + 1) best := by
  rcases hb with ⟨e, h1⟩ | ⟨i, h1, h2, e, h3⟩
  · exact Or.inl ⟨e, or_next0 h1 hn⟩
  · refine Or.inr ⟨i, by omega, h2, e, fun j hj hp => ?_⟩
    rcases Nat.lt_succ_iff_lt_or_eq.mp hj with hj | rfl
    · exact h3 j hj hp
    · exact absurd hp hn
theorem mBst_take0 (hb : mBst h r P n none) (hn : P n) : mBst h r P (n + 1) (some n) := by
  rcases hb with ⟨-, h1⟩ | ⟨i, h1, h2, e, h3⟩
  · refine Or.inr ⟨n, by omega, hn, rfl, fun j hj hp => ?_⟩
    rcases Nat.lt_succ_iff_lt_or_eq.mp hj with hj | rfl
    · exact absurd hp (h1 j hj)
    · exact Int32.le_refl _
  · cases e
theorem mBst_take1 (hb : mBst h r P n (some b)) (hn : P n) (hl : ma h r 14 n < ma h r 14 b) : mBst h r P (n + 1) (some n) := by
  rcases hb with ⟨e, -⟩ | ⟨i, h1, h2, e, h3⟩
  · cases e
  · cases e
    refine Or.inr ⟨n, by omega, hn, rfl, fun j hj hp => ?_⟩
    rcases Nat.lt_succ_iff_lt_or_eq.mp hj with hj | rfl
    · exact Int32.le_trans (Int32.le_of_lt hl) (h3 j hj hp)
    · exact Int32.le_refl _
theorem mBst_keep (hb : mBst h r P n (some b)) (hl : ma h r 14 b ≤ ma h r 14 n) : mBst h r P (n + 1) (some b) := by
  rcases hb with ⟨e, -⟩ | ⟨i, h1, h2, e, h3⟩
  · cases e
  · cases e
    refine Or.inr ⟨b, by omega, h2, rfl, fun j hj hp => ?_⟩
    rcases Nat.lt_succ_iff_lt_or_eq.mp hj with hj | rfl
    · exact h3 j hj hp
    · exact hl
theorem mBst_lt (hb : mBst h r P n (some b)) : b < n := by
  rcases hb with ⟨e, -⟩ | ⟨i, h1, -, e, -⟩
  · cases e
  · cases e; exact h1
end BS
theorem mO_nn {h : zz_H} {r n : Nat} {P : Nat → Prop} {best : Option Nat} (hb : mBst h r P n best) (hn : n < 60) (e : mO best = -1) : best = none := by
  cases best with
  | none => rfl
  | some b => exact absurd e (nI_neg (by have := mBst_lt hb; omega))
def T_M_findTwin : zz_Tr := fun as h post => ∃ r t9 u, as = [zz_r 7 (some r), zz_i (nI t9)] ∧ mo_ok h r ∧ t9 < 8 ∧ ma h r 8 t9 = mO u ∧ (∀ u9, u = some u9 → u9 < 8 ∧ ma h r 5 u9 = nI (mQs h r u9) ∧ mQs h r u9 < 4 ∧ ma h r 5 t9 = nI (mQs h r t9) ∧ mQs h r t9 < 4) ∧ ∀ best, (u = none → best = none) → (∀ u9, u = some u9 → mBst h r (mTf h r t9 u9) 60 best) → post (some (zz_i (mO best))) h
set_option maxRecDepth 100000 in
set_option maxHeartbeats 4000000 in
theorem m_M_findTwin (l : Launch) : zz_Met l y_M_findTwin w_M_findTwin { frames := 1, cells := 0, slots := 0, locals := 12 } T_M_findTwin := by
  refine zz_ofZ (by decide) (fun as h post hT => ?_) ?_
  · obtain ⟨r, t9, u, rfl, hok, ht8, hu, hq, hp⟩ := hT
    exact ⟨by simp [zz_cat], by simp⟩
  · intro D DA h as post hT p e s m args below meth c Q C hr hlk hnm hQ
    obtain ⟨r, t9, u, rfl, hok, ht8, hu, hq, hp⟩ := hT
    have lp93 : ∀ u9 s9 best (al : Int32), s9 < 60 → mBst h r (mTf h r t9 u9) s9 best → ((al = 0 ∧ ¬ mTf h r t9 u9 s9) ∨ (al = 1 ∧ mTf h r t9 u9 s9)) → (∀ b2 v2, mBst h r (mTf h r t9 u9) (s9 + 1) b2 → zz_Z p l e { frames := 1, cells := 0, slots := 0, locals := 12 } s m args below meth c Q D DA (zz_A h s.heap.size) h 6 12 [some (zz_r 7 (some r)), some (zz_i (nI t9)), some (zz_i (mO b2)), some (zz_i (mO (some u9))), some (zz_i (nI (s9 + 1))), v2] [] h 0 0) → zz_Z p l e { frames := 1, cells := 0, slots := 0, locals := 12 } s m args below meth c Q D DA (zz_A h s.heap.size) h 6 93 [some (zz_r 7 (some r)), some (zz_i (nI t9)), some (zz_i (mO best)), some (zz_i (mO (some u9))), some (zz_i (nI s9)), some (zz_i al)] [] h 0 0 := by
      intro u9 s9 best al hi hb hal hk9
      refine zz_iload (q := 95) (i := 5) C (by decide +kernel) rfl rfl ?_
      refine zz_if_eq (off := 29) (tgt := 124) (q := 98) C (by decide +kernel) (by decide) rfl (fun c95 => ?_) (fun c95 => ?_)
      · refine zz_iload_n (q := 125) (f := 2) (i := 2) C (by decide +kernel) rfl rfl rfl ?_
        refine zz_istore_n (q := 126) (f := 2) (i := 2) C (by decide +kernel) rfl rfl (by decide) rfl ?_
        refine zz_iinc (q := 129) (i := 4) (n := 1) C (by decide +kernel) rfl rfl (nI_1 _) (by decide) rfl ?_
        refine zz_goto (off := -117) (tgt := 12) C (by decide +kernel) (by decide) ?_
        -- AT 12
        first
          | exact hk9 best _ (mBst_skip hb (hal.resolve_right (fun z => absurd (z.1.symm.trans c95) (by decide))).2)
          | exact hk9 (some s9) _ (mBst_take1 hb (hal.resolve_left (fun z => c95 z.1)).2 (Int32.not_le.mp c116))
          | exact hk9 (some b9) _ (mBst_keep hb c116)
          | exact hk9 (some s9) _ (mBst_take0 (mO_nn hb hi c100 ▸ hb) (hal.resolve_left (fun z => c95 z.1)).2)
      · refine zz_iload_n (q := 99) (f := 2) (i := 2) C (by decide +kernel) rfl rfl rfl ?_
        refine zz_iconst (q := 100) (n := -1) (x := (-1)) C (by decide +kernel) rfl (by decide +kernel) ?_
        refine zz_icmp_eq (off := 19) (tgt := 119) (q := 103) C (by decide +kernel) (by decide) rfl (fun c100 => ?_) (fun c100 => ?_)
        · refine zz_iload (q := 121) (i := 4) C (by decide +kernel) rfl rfl ?_
          refine zz_goto (off := 4) (tgt := 125) C (by decide +kernel) (by decide) ?_
          refine zz_istore_n (q := 126) (f := 2) (i := 2) C (by decide +kernel) rfl rfl (by decide) rfl ?_
          refine zz_iinc (q := 129) (i := 4) (n := 1) C (by decide +kernel) rfl rfl (nI_1 _) (by decide) rfl ?_
          refine zz_goto (off := -117) (tgt := 12) C (by decide +kernel) (by decide) ?_
          -- AT 12
          first
            | exact hk9 best _ (mBst_skip hb (hal.resolve_right (fun z => absurd (z.1.symm.trans c95) (by decide))).2)
            | exact hk9 (some s9) _ (mBst_take1 hb (hal.resolve_left (fun z => c95 z.1)).2 (Int32.not_le.mp c116))
            | exact hk9 (some b9) _ (mBst_keep hb c116)
            | exact hk9 (some s9) _ (mBst_take0 (mO_nn hb hi c100 ▸ hb) (hal.resolve_left (fun z => c95 z.1)).2)
        · obtain ⟨b9, rfl⟩ := mO_some c100
          have hb9 := mBst_lt hb
          refine zz_aload_n (q := 104) (f := 0) (i := 0) C (by decide +kernel) rfl rfl rfl ?_
          refine zz_getR (q := 107) C gf_M_39 (by decide +kernel) rfl (by first | rfl | assumption) (hok 14 90 60 rfl).1 ?_
          refine zz_iload (q := 109) (i := 4) C (by decide +kernel) rfl rfl ?_
          refine zz_iaload (q := 110) C (by decide +kernel) rfl rfl (hok 14 90 60 rfl).2 rfl (by omega) (by decide) rfl ?_
          refine zz_aload_n (q := 111) (f := 0) (i := 0) C (by decide +kernel) rfl rfl rfl ?_
          refine zz_getR (q := 114) C gf_M_39 (by decide +kernel) rfl (by first | rfl | assumption) (hok 14 90 60 rfl).1 ?_
          refine zz_iload_n (q := 115) (f := 2) (i := 2) C (by decide +kernel) rfl rfl rfl ?_
          refine zz_iaload (q := 116) C (by decide +kernel) rfl rfl (hok 14 90 60 rfl).2 rfl (by omega) (by decide) rfl ?_
          refine zz_icmp_ge (off := 8) (tgt := 124) (q := 119) C (by decide +kernel) (by decide) rfl (fun c116 => ?_) (fun c116 => ?_)
          · refine zz_iload_n (q := 125) (f := 2) (i := 2) C (by decide +kernel) rfl rfl rfl ?_
            refine zz_istore_n (q := 126) (f := 2) (i := 2) C (by decide +kernel) rfl rfl (by decide) rfl ?_
            refine zz_iinc (q := 129) (i := 4) (n := 1) C (by decide +kernel) rfl rfl (nI_1 _) (by decide) rfl ?_
            refine zz_goto (off := -117) (tgt := 12) C (by decide +kernel) (by decide) ?_
            -- AT 12
            first
              | exact hk9 best _ (mBst_skip hb (hal.resolve_right (fun z => absurd (z.1.symm.trans c95) (by decide))).2)
              | exact hk9 (some s9) _ (mBst_take1 hb (hal.resolve_left (fun z => c95 z.1)).2 (Int32.not_le.mp c116))
              | exact hk9 (some b9) _ (mBst_keep hb c116)
              | exact hk9 (some s9) _ (mBst_take0 (mO_nn hb hi c100 ▸ hb) (hal.resolve_left (fun z => c95 z.1)).2)
          · refine zz_iload (q := 121) (i := 4) C (by decide +kernel) rfl rfl ?_
            refine zz_goto (off := 4) (tgt := 125) C (by decide +kernel) (by decide) ?_
            refine zz_istore_n (q := 126) (f := 2) (i := 2) C (by decide +kernel) rfl rfl (by decide) rfl ?_
            refine zz_iinc (q := 129) (i := 4) (n := 1) C (by decide +kernel) rfl rfl (nI_1 _) (by decide) rfl ?_
            refine zz_goto (off := -117) (tgt := 12) C (by decide +kernel) (by decide) ?_
            -- AT 12
            first
              | exact hk9 best _ (mBst_skip hb (hal.resolve_right (fun z => absurd (z.1.symm.trans c95) (by decide))).2)
              | exact hk9 (some s9) _ (mBst_take1 hb (hal.resolve_left (fun z => c95 z.1)).2 (Int32.not_le.mp c116))
              | exact hk9 (some b9) _ (mBst_keep hb c116)
              | exact hk9 (some s9) _ (mBst_take0 (mO_nn hb hi c100 ▸ hb) (hal.resolve_left (fun z => c95 z.1)).2)
    have lp12 : ∀ n s9 best v5, 61 ≤ n + s9 → s9 ≤ 60 → ((s9 = 0 ∧ best = none) ∨ u ≠ none) → (∀ u9, u = some u9 → mBst h r (mTf h r t9 u9) s9 best) → zz_Z p l e { frames := 1, cells := 0, slots := 0, locals := 12 } s m args below meth c Q D DA (zz_A h s.heap.size) h 6 12 [some (zz_r 7 (some r)), some (zz_i (nI t9)), some (zz_i (mO best)), some (zz_i (mO u)), some (zz_i (nI s9)), v5] [] h 0 0 := by
      intro n
      induction n with
      | zero =>
        intro s9 best v5 hn hi
        exact absurd hn (by omega)
      | succ n ih =>
        intro s9 best v5 hn hile hz hb
        refine zz_iload (q := 14) (i := 4) C (by decide +kernel) rfl rfl ?_
        refine zz_bipush (q := 16) (n := 60) (x := 60) C (by decide +kernel) rfl (by decide +kernel) ?_
        refine zz_icmp_ge (off := 116) (tgt := 132) (q := 19) C (by decide +kernel) (by decide) rfl (fun c16 => ?_) (fun c16 => ?_)
        · refine zz_iload_n (q := 133) (f := 2) (i := 2) C (by decide +kernel) rfl rfl rfl ?_
          refine zz_iret C hr hlk (by decide +kernel) hQ (by decide) (by decide) ?_
          first
            | (have hs : s9 = 60 := by
                 have := (nI_leI (a := 60) (b := s9) (by decide) (by omega)).mp c16
                 omega
               subst hs
               exact hp best (fun z => hz.elim (fun w => w.2) (fun w => absurd z w)) hb)
            | (have hun : u = none := by
                 cases u with
                 | none => rfl
                 | some u9 => exact absurd c21 (nI_neg (by have := (hq u9 rfl).1; omega))
               exact hp best (fun z => hz.elim (fun w => w.2) (fun w => absurd z w)) (fun u9 z => absurd (z.symm.trans hun) (Option.some_ne_none _)))
        · have hi : s9 < 60 := Nat.lt_of_not_le (fun z => c16 (nI_le (a := 60) z (by omega)))
          refine zz_iload_n (q := 20) (f := 3) (i := 3) C (by decide +kernel) rfl rfl rfl ?_
          refine zz_iconst (q := 21) (n := -1) (x := (-1)) C (by decide +kernel) rfl (by decide +kernel) ?_
          refine zz_icmp_eq (off := 111) (tgt := 132) (q := 24) C (by decide +kernel) (by decide) rfl (fun c21 => ?_) (fun c21 => ?_)
          · refine zz_iload_n (q := 133) (f := 2) (i := 2) C (by decide +kernel) rfl rfl rfl ?_
            refine zz_iret C hr hlk (by decide +kernel) hQ (by decide) (by decide) ?_
            first
              | (have hs : s9 = 60 := by
                   have := (nI_leI (a := 60) (b := s9) (by decide) (by omega)).mp c16
                   omega
                 subst hs
                 exact hp best (fun z => hz.elim (fun w => w.2) (fun w => absurd z w)) hb)
              | (have hun : u = none := by
                   cases u with
                   | none => rfl
                   | some u9 => exact absurd c21 (nI_neg (by have := (hq u9 rfl).1; omega))
                 exact hp best (fun z => hz.elim (fun w => w.2) (fun w => absurd z w)) (fun u9 z => absurd (z.symm.trans hun) (Option.some_ne_none _)))
          · obtain ⟨u9, rfl⟩ := mO_some c21
            obtain ⟨q1, q2, q3, q4, q5⟩ := hq u9 rfl
            have hb9 := hb u9 rfl
            have hk9 : ∀ b2 v2, mBst h r (mTf h r t9 u9) (s9 + 1) b2 → zz_Z p l e { frames := 1, cells := 0, slots := 0, locals := 12 } s m args below meth c Q D DA (zz_A h s.heap.size) h 6 12 [some (zz_r 7 (some r)), some (zz_i (nI t9)), some (zz_i (mO b2)), some (zz_i (mO (some u9))), some (zz_i (nI (s9 + 1))), v2] [] h 0 0 := fun b2 v2 z => ih (s9 + 1) b2 v2 (by omega) (by omega) (Or.inr (Option.some_ne_none _)) (fun u8 hu8 => by cases hu8; exact z)
            refine zz_aload_n (q := 25) (f := 0) (i := 0) C (by decide +kernel) rfl rfl rfl ?_
            refine zz_getR (q := 28) C gf_M_39 (by decide +kernel) rfl (by first | rfl | assumption) (hok 14 90 60 rfl).1 ?_
            refine zz_iload (q := 30) (i := 4) C (by decide +kernel) rfl rfl ?_
            refine zz_iaload (q := 31) C (by decide +kernel) rfl rfl (hok 14 90 60 rfl).2 rfl (by omega) (by decide) rfl ?_
            refine zz_if_le (off := 59) (tgt := 90) (q := 34) C (by decide +kernel) (by decide) rfl (fun c31 => ?_) (fun c31 => ?_)
            · refine zz_iconst (q := 91) (n := 0) (x := 0) C (by decide +kernel) rfl (by decide +kernel) ?_
              refine zz_istore (q := 93) (i := 5) C (by decide +kernel) rfl (by decide) rfl ?_
              -- AT 93
              first
                | exact lp93 u9 s9 best 0 hi hb9 (Or.inl ⟨rfl, fun z => absurd z.1 (Int32.not_lt.mpr c31)⟩) hk9
                | exact lp93 u9 s9 best 0 hi hb9 (Or.inl ⟨rfl, fun z => c42 z.2.1⟩) hk9
                | exact lp93 u9 s9 best 0 hi hb9 (Or.inl ⟨rfl, fun z => c53 z.2.2.1⟩) hk9
                | exact lp93 u9 s9 best 0 hi hb9 (Or.inl ⟨rfl, fun z => c83 z.2.2.2⟩) hk9
                | exact lp93 u9 s9 best 1 hi hb9 (Or.inr ⟨rfl, Int32.not_le.mp c31, c42, c53, c83⟩) hk9
            · refine zz_aload_n (q := 35) (f := 0) (i := 0) C (by decide +kernel) rfl rfl rfl ?_
              refine zz_getR (q := 38) C gf_M_42 (by decide +kernel) rfl (by first | rfl | assumption) (hok 15 90 60 rfl).1 ?_
              refine zz_iload (q := 40) (i := 4) C (by decide +kernel) rfl rfl ?_
              refine zz_iaload (q := 41) C (by decide +kernel) rfl rfl (hok 15 90 60 rfl).2 rfl (by omega) (by decide) rfl ?_
              refine zz_iload_n (q := 42) (f := 3) (i := 3) C (by decide +kernel) rfl rfl rfl ?_
              refine zz_icmp_ne (off := 48) (tgt := 90) (q := 45) C (by decide +kernel) (by decide) rfl (fun c42 => ?_) (fun c42 => ?_)
              · refine zz_iconst (q := 91) (n := 0) (x := 0) C (by decide +kernel) rfl (by decide +kernel) ?_
                refine zz_istore (q := 93) (i := 5) C (by decide +kernel) rfl (by decide) rfl ?_
                -- AT 93
                first
                  | exact lp93 u9 s9 best 0 hi hb9 (Or.inl ⟨rfl, fun z => absurd z.1 (Int32.not_lt.mpr c31)⟩) hk9
                  | exact lp93 u9 s9 best 0 hi hb9 (Or.inl ⟨rfl, fun z => c42 z.2.1⟩) hk9
                  | exact lp93 u9 s9 best 0 hi hb9 (Or.inl ⟨rfl, fun z => c53 z.2.2.1⟩) hk9
                  | exact lp93 u9 s9 best 0 hi hb9 (Or.inl ⟨rfl, fun z => c83 z.2.2.2⟩) hk9
                  | exact lp93 u9 s9 best 1 hi hb9 (Or.inr ⟨rfl, Int32.not_le.mp c31, c42, c53, c83⟩) hk9
              · refine zz_aload_n (q := 46) (f := 0) (i := 0) C (by decide +kernel) rfl rfl rfl ?_
                refine zz_getR (q := 49) C gf_M_48 (by decide +kernel) rfl (by first | rfl | assumption) (hok 17 90 60 rfl).1 ?_
                refine zz_iload (q := 51) (i := 4) C (by decide +kernel) rfl rfl ?_
                refine zz_iaload (q := 52) C (by decide +kernel) rfl rfl (hok 17 90 60 rfl).2 rfl (by omega) (by decide) rfl ?_
                refine zz_iconst (q := 53) (n := -1) (x := (-1)) C (by decide +kernel) rfl (by decide +kernel) ?_
                refine zz_icmp_ne (off := 37) (tgt := 90) (q := 56) C (by decide +kernel) (by decide) rfl (fun c53 => ?_) (fun c53 => ?_)
                · refine zz_iconst (q := 91) (n := 0) (x := 0) C (by decide +kernel) rfl (by decide +kernel) ?_
                  refine zz_istore (q := 93) (i := 5) C (by decide +kernel) rfl (by decide) rfl ?_
                  -- AT 93
                  first
                    | exact lp93 u9 s9 best 0 hi hb9 (Or.inl ⟨rfl, fun z => absurd z.1 (Int32.not_lt.mpr c31)⟩) hk9
                    | exact lp93 u9 s9 best 0 hi hb9 (Or.inl ⟨rfl, fun z => c42 z.2.1⟩) hk9
                    | exact lp93 u9 s9 best 0 hi hb9 (Or.inl ⟨rfl, fun z => c53 z.2.2.1⟩) hk9
                    | exact lp93 u9 s9 best 0 hi hb9 (Or.inl ⟨rfl, fun z => c83 z.2.2.2⟩) hk9
                    | exact lp93 u9 s9 best 1 hi hb9 (Or.inr ⟨rfl, Int32.not_le.mp c31, c42, c53, c83⟩) hk9
                · refine zz_aload_n (q := 57) (f := 0) (i := 0) C (by decide +kernel) rfl rfl rfl ?_
                  refine zz_getR (q := 60) C gf_M_51 (by decide +kernel) rfl (by first | rfl | assumption) (hok 18 90 240 rfl).1 ?_
                  refine zz_iconst (q := 61) (n := 4) (x := 4) C (by decide +kernel) rfl (by decide +kernel) ?_
                  refine zz_iload (q := 63) (i := 4) C (by decide +kernel) rfl rfl ?_
                  refine zz_imul (q := 64) C (by decide +kernel) rfl (nI_mul9 4 _) ?_
                  refine zz_aload_n (q := 65) (f := 0) (i := 0) C (by decide +kernel) rfl rfl rfl ?_
                  refine zz_getR (q := 68) C gf_M_23 (by decide +kernel) rfl (by first | rfl | assumption) (hok 5 90 8 rfl).1 ?_
                  refine zz_iload_n (q := 69) (f := 3) (i := 3) C (by decide +kernel) rfl rfl rfl ?_
                  refine zz_iaload (q := 70) C (by decide +kernel) rfl rfl (hok 5 90 8 rfl).2 rfl (by omega) (by decide) q2 ?_
                  refine zz_iadd (q := 71) C (by decide +kernel) rfl (nI_add _ _) ?_
                  refine zz_iaload (q := 72) C (by decide +kernel) rfl rfl (hok 18 90 240 rfl).2 rfl (by omega) (by decide) rfl ?_
                  refine zz_aload_n (q := 73) (f := 0) (i := 0) C (by decide +kernel) rfl rfl rfl ?_
                  refine zz_getR (q := 76) C gf_M_79 (by decide +kernel) rfl (by first | rfl | assumption) (hok 27 90 4 rfl).1 ?_
                  refine zz_aload_n (q := 77) (f := 0) (i := 0) C (by decide +kernel) rfl rfl rfl ?_
                  refine zz_getR (q := 80) C gf_M_23 (by decide +kernel) rfl (by first | rfl | assumption) (hok 5 90 8 rfl).1 ?_
                  refine zz_iload_n (q := 81) (f := 1) (i := 1) C (by decide +kernel) rfl rfl rfl ?_
                  refine zz_iaload (q := 82) C (by decide +kernel) rfl rfl (hok 5 90 8 rfl).2 rfl (by omega) (by decide) q4 ?_
                  refine zz_iaload (q := 83) C (by decide +kernel) rfl rfl (hok 27 90 4 rfl).2 rfl (by omega) (by decide) rfl ?_
                  refine zz_icmp_ne (off := 7) (tgt := 90) (q := 86) C (by decide +kernel) (by decide) rfl (fun c83 => ?_) (fun c83 => ?_)
                  · refine zz_iconst (q := 91) (n := 0) (x := 0) C (by decide +kernel) rfl (by decide +kernel) ?_
                    refine zz_istore (q := 93) (i := 5) C (by decide +kernel) rfl (by decide) rfl ?_
                    -- AT 93
                    first
                      | exact lp93 u9 s9 best 0 hi hb9 (Or.inl ⟨rfl, fun z => absurd z.1 (Int32.not_lt.mpr c31)⟩) hk9
                      | exact lp93 u9 s9 best 0 hi hb9 (Or.inl ⟨rfl, fun z => c42 z.2.1⟩) hk9
                      | exact lp93 u9 s9 best 0 hi hb9 (Or.inl ⟨rfl, fun z => c53 z.2.2.1⟩) hk9
                      | exact lp93 u9 s9 best 0 hi hb9 (Or.inl ⟨rfl, fun z => c83 z.2.2.2⟩) hk9
                      | exact lp93 u9 s9 best 1 hi hb9 (Or.inr ⟨rfl, Int32.not_le.mp c31, c42, c53, c83⟩) hk9
                  · refine zz_iconst (q := 87) (n := 1) (x := 1) C (by decide +kernel) rfl (by decide +kernel) ?_
                    refine zz_goto (off := 4) (tgt := 91) C (by decide +kernel) (by decide) ?_
                    refine zz_istore (q := 93) (i := 5) C (by decide +kernel) rfl (by decide) rfl ?_
                    -- AT 93
                    first
                      | exact lp93 u9 s9 best 0 hi hb9 (Or.inl ⟨rfl, fun z => absurd z.1 (Int32.not_lt.mpr c31)⟩) hk9
                      | exact lp93 u9 s9 best 0 hi hb9 (Or.inl ⟨rfl, fun z => c42 z.2.1⟩) hk9
                      | exact lp93 u9 s9 best 0 hi hb9 (Or.inl ⟨rfl, fun z => c53 z.2.2.1⟩) hk9
                      | exact lp93 u9 s9 best 0 hi hb9 (Or.inl ⟨rfl, fun z => c83 z.2.2.2⟩) hk9
                      | exact lp93 u9 s9 best 1 hi hb9 (Or.inr ⟨rfl, Int32.not_le.mp c31, c42, c53, c83⟩) hk9
    refine zz_iconst (q := 1) (n := -1) (x := (-1)) C (by decide +kernel) rfl (by decide +kernel) ?_
    refine zz_istore_n (q := 2) (f := 2) (i := 2) C (by decide +kernel) rfl rfl (by decide) rfl ?_
    refine zz_aload_n (q := 3) (f := 0) (i := 0) C (by decide +kernel) rfl rfl rfl ?_
    refine zz_getR (q := 6) C gf_M_32 (by decide +kernel) rfl (by first | rfl | assumption) (hok 8 90 8 rfl).1 ?_
    refine zz_iload_n (q := 7) (f := 1) (i := 1) C (by decide +kernel) rfl rfl rfl ?_
    refine zz_iaload (q := 8) C (by decide +kernel) rfl rfl (hok 8 90 8 rfl).2 rfl (by omega) (by decide) hu ?_
    refine zz_istore_n (q := 9) (f := 3) (i := 3) C (by decide +kernel) rfl rfl (by decide) rfl ?_
    refine zz_iconst (q := 10) (n := 0) (x := 0) C (by decide +kernel) rfl (by decide +kernel) ?_
    refine zz_istore (q := 12) (i := 4) C (by decide +kernel) rfl (by decide) rfl ?_
    -- AT 12
    exact lp12 61 0 none none (by omega) (by omega) (Or.inl ⟨rfl, rfl⟩) (fun _ _ => Or.inl ⟨rfl, fun j hj => absurd hj (by omega)⟩)
